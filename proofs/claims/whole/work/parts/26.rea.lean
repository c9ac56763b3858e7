theorem dX3_isLetter_0 : gw_dc cX3_isLetter 0 (.iload_n 0) 1 1 := ⟨by decide +kernel, rfl⟩
theorem dX3_isLetter_1 : gw_dc cX3_isLetter 1 (.bipush 97) 2 3 := ⟨by decide +kernel, rfl⟩
theorem dX3_isLetter_3 : gw_dc cX3_isLetter 3 (.if_icmp .lt 13) 3 6 := ⟨by decide +kernel, rfl⟩
theorem dX3_isLetter_16 : gw_dc cX3_isLetter 16 (.iconst 0) 1 17 := ⟨by decide +kernel, rfl⟩
theorem dX3_isLetter_17 : decode cX3_isLetter 17 = .ok (.ireturn, 1) := by decide +kernel
theorem dX3_isLetter_6 : gw_dc cX3_isLetter 6 (.iload_n 0) 1 7 := ⟨by decide +kernel, rfl⟩
theorem dX3_isLetter_7 : gw_dc cX3_isLetter 7 (.bipush 122) 2 9 := ⟨by decide +kernel, rfl⟩
theorem dX3_isLetter_9 : gw_dc cX3_isLetter 9 (.if_icmp .gt 7) 3 12 := ⟨by decide +kernel, rfl⟩
theorem dX3_isLetter_12 : gw_dc cX3_isLetter 12 (.iconst 1) 1 13 := ⟨by decide +kernel, rfl⟩
theorem dX3_isLetter_13 : gw_dc cX3_isLetter 13 (.goto 4) 3 16 := ⟨by decide +kernel, rfl⟩
theorem dX3_isDigit_0 : gw_dc cX3_isDigit 0 (.iload_n 0) 1 1 := ⟨by decide +kernel, rfl⟩
theorem dX3_isDigit_1 : gw_dc cX3_isDigit 1 (.bipush 48) 2 3 := ⟨by decide +kernel, rfl⟩
theorem dX3_isDigit_3 : gw_dc cX3_isDigit 3 (.if_icmp .lt 13) 3 6 := ⟨by decide +kernel, rfl⟩
theorem dX3_isDigit_16 : gw_dc cX3_isDigit 16 (.iconst 0) 1 17 := ⟨by decide +kernel, rfl⟩
theorem dX3_isDigit_17 : decode cX3_isDigit 17 = .ok (.ireturn, 1) := by decide +kernel
theorem dX3_isDigit_6 : gw_dc cX3_isDigit 6 (.iload_n 0) 1 7 := ⟨by decide +kernel, rfl⟩
theorem dX3_isDigit_7 : gw_dc cX3_isDigit 7 (.bipush 57) 2 9 := ⟨by decide +kernel, rfl⟩
theorem dX3_isDigit_9 : gw_dc cX3_isDigit 9 (.if_icmp .gt 7) 3 12 := ⟨by decide +kernel, rfl⟩
theorem dX3_isDigit_12 : gw_dc cX3_isDigit 12 (.iconst 1) 1 13 := ⟨by decide +kernel, rfl⟩
theorem dX3_isDigit_13 : gw_dc cX3_isDigit 13 (.goto 4) 3 16 := ⟨by decide +kernel, rfl⟩
theorem dX3_advance_0 : gw_dc cX3_advance 0 (.aload_n 0) 1 1 := ⟨by decide +kernel, rfl⟩
theorem dX3_advance_1 : gw_dc cX3_advance 1 (.getfield 22) 3 4 := ⟨by decide +kernel, rfl⟩
theorem fk_RX3_22 : gw_fk RX3 22 3 4 8 0 false := ⟨_, _, _, ck_3, by decide, by decide, fun _ => rfl, fun h => absurd h (by decide), fun h => absurd h (by decide), rfl, Or.inl (gw_mem 152 (by decide +kernel) rfl)⟩
theorem o_3 {ad : Nat → Nat} : isO (gw_M0 ad) 3 3 8 := (by decide +kernel : 3 < gw_N0 ∧ gw_sh 3 = (3, 8))
theorem dX3_advance_4 : gw_dc cX3_advance 4 (.aload_n 0) 1 5 := ⟨by decide +kernel, rfl⟩
theorem dX3_advance_5 : gw_dc cX3_advance 5 (.getfield 19) 3 8 := ⟨by decide +kernel, rfl⟩
theorem fk_RX3_19 : gw_fk RX3 19 3 1 8 0 false := ⟨_, _, _, ck_3, by decide, by decide, fun _ => rfl, fun h => absurd h (by decide), fun h => absurd h (by decide), rfl, Or.inl (gw_mem 149 (by decide +kernel) rfl)⟩
theorem dX3_advance_8 : gw_dc cX3_advance 8 (.if_icmp .ge 48) 3 11 := ⟨by decide +kernel, rfl⟩
theorem dX3_advance_56 : gw_dc cX3_advance 56 (.aload_n 0) 1 57 := ⟨by decide +kernel, rfl⟩
theorem dX3_advance_57 : gw_dc cX3_advance 57 (.aload_n 0) 1 58 := ⟨by decide +kernel, rfl⟩
theorem dX3_advance_58 : gw_dc cX3_advance 58 (.getfield 22) 3 61 := ⟨by decide +kernel, rfl⟩
theorem dX3_advance_61 : gw_dc cX3_advance 61 (.putfield 34) 3 64 := ⟨by decide +kernel, rfl⟩
theorem fk_RX3_34 : gw_fk RX3 34 3 3 8 0 false := ⟨_, _, _, ck_3, by decide, by decide, fun _ => rfl, fun h => absurd h (by decide), fun h => absurd h (by decide), rfl, Or.inl (gw_mem 151 (by decide +kernel) rfl)⟩
theorem dX3_advance_64 : gw_dc cX3_advance 64 (.aload_n 0) 1 65 := ⟨by decide +kernel, rfl⟩
theorem dX3_advance_65 : gw_dc cX3_advance 65 (.getfield 22) 3 68 := ⟨by decide +kernel, rfl⟩
theorem dX3_advance_68 : gw_dc cX3_advance 68 (.aload_n 0) 1 69 := ⟨by decide +kernel, rfl⟩
theorem dX3_advance_69 : gw_dc cX3_advance 69 (.getfield 19) 3 72 := ⟨by decide +kernel, rfl⟩
theorem dX3_advance_72 : gw_dc cX3_advance 72 (.if_icmp .lt 9) 3 75 := ⟨by decide +kernel, rfl⟩
theorem dX3_advance_81 : gw_dc cX3_advance 81 (.aload_n 0) 1 82 := ⟨by decide +kernel, rfl⟩
theorem dX3_advance_82 : gw_dc cX3_advance 82 (.getfield 15) 3 85 := ⟨by decide +kernel, rfl⟩
theorem fk_RX3_15 : gw_fk RX3 15 3 0 8 1 true := ⟨_, _, _, ck_3, by decide, by decide, fun h => absurd h (by decide), fun h => absurd h (by decide), fun _ => Or.inl ⟨_, rfl⟩, rfl, Or.inl (gw_mem 148 (by decide +kernel) rfl)⟩
theorem rf_3_0 {ad : Nat → Nat} : (gw_M0 ad).2.2 3 0 = some 1 := (by decide +kernel : gw_rh 3 0 = some 1)
theorem dX3_advance_85 : gw_dc cX3_advance 85 (.aload_n 0) 1 86 := ⟨by decide +kernel, rfl⟩
theorem dX3_advance_86 : gw_dc cX3_advance 86 (.getfield 22) 3 89 := ⟨by decide +kernel, rfl⟩
theorem dX3_advance_89 : gw_dc cX3_advance 89 (.invokevirtual 42) 3 92 := ⟨by decide +kernel, rfl⟩
theorem mv_RX3_42 : gw_mv RX3 42 yX7_at := ⟨gw_mem 836 (by decide +kernel) rfl, gw_mem 837 (by decide +kernel) rfl, gw_mem 838 (by decide +kernel) rfl⟩
theorem my_X7_at : gw_my yX7_at cX7_at 2 (some .int) 1 := ⟨gw_mem 839 (by decide +kernel) rfl, gw_mem 96 (by decide +kernel) rfl, by decide +kernel, by decide⟩
theorem dX3_advance_92 : gw_dc cX3_advance 92 (.istore_n 1) 1 93 := ⟨by decide +kernel, rfl⟩
theorem dX3_advance_93 : gw_dc cX3_advance 93 (.aload_n 0) 1 94 := ⟨by decide +kernel, rfl⟩
theorem dX3_advance_94 : gw_dc cX3_advance 94 (.dup) 1 95 := ⟨by decide +kernel, rfl⟩
theorem dX3_advance_95 : gw_dc cX3_advance 95 (.getfield 22) 3 98 := ⟨by decide +kernel, rfl⟩
theorem dX3_advance_98 : gw_dc cX3_advance 98 (.iconst 1) 1 99 := ⟨by decide +kernel, rfl⟩
theorem dX3_advance_99 : gw_dc cX3_advance 99 (.iadd) 1 100 := ⟨by decide +kernel, rfl⟩
theorem dX3_advance_100 : gw_dc cX3_advance 100 (.putfield 22) 3 103 := ⟨by decide +kernel, rfl⟩
theorem dX3_advance_103 : gw_dc cX3_advance 103 (.iload_n 1) 1 104 := ⟨by decide +kernel, rfl⟩
theorem dX3_advance_104 : gw_dc cX3_advance 104 (.invokestatic 63) 3 107 := ⟨by decide +kernel, rfl⟩
theorem ms_RX3_63 : gw_mst RX3 63 yX3_isLetter := ⟨gw_mem 840 (by decide +kernel) rfl, gw_mem 841 (by decide +kernel) rfl⟩
theorem my_X3_isLetter : gw_my yX3_isLetter cX3_isLetter 1 (some .boolean) 1 := ⟨gw_mem 842 (by decide +kernel) rfl, gw_mem 97 (by decide +kernel) rfl, by decide +kernel, by decide⟩
theorem dX3_advance_107 : gw_dc cX3_advance 107 (.ifCond .eq 49) 3 110 := ⟨by decide +kernel, rfl⟩
theorem dX3_advance_156 : gw_dc cX3_advance 156 (.iload_n 1) 1 157 := ⟨by decide +kernel, rfl⟩
theorem dX3_advance_157 : gw_dc cX3_advance 157 (.invokestatic 67) 3 160 := ⟨by decide +kernel, rfl⟩
theorem ms_RX3_67 : gw_mst RX3 67 yX3_isDigit := ⟨gw_mem 843 (by decide +kernel) rfl, gw_mem 844 (by decide +kernel) rfl⟩
theorem my_X3_isDigit : gw_my yX3_isDigit cX3_isDigit 1 (some .boolean) 1 := ⟨gw_mem 845 (by decide +kernel) rfl, gw_mem 97 (by decide +kernel) rfl, by decide +kernel, by decide⟩
theorem dX3_advance_160 : gw_dc cX3_advance 160 (.ifCond .eq 123) 3 163 := ⟨by decide +kernel, rfl⟩
theorem dX3_advance_283 : gw_dc cX3_advance 283 (.aload_n 0) 1 284 := ⟨by decide +kernel, rfl⟩
theorem dX3_advance_284 : gw_dc cX3_advance 284 (.iload_n 1) 1 285 := ⟨by decide +kernel, rfl⟩
theorem dX3_advance_285 : gw_dc cX3_advance 285 (.bipush 59) 2 287 := ⟨by decide +kernel, rfl⟩
theorem dX3_advance_287 : gw_dc cX3_advance 287 (.if_icmp .ne 7) 3 290 := ⟨by decide +kernel, rfl⟩
theorem dX3_advance_294 : gw_dc cX3_advance 294 (.iconst 4) 1 295 := ⟨by decide +kernel, rfl⟩
theorem dX3_advance_295 : gw_dc cX3_advance 295 (.putfield 31) 3 298 := ⟨by decide +kernel, rfl⟩
theorem fk_RX3_31 : gw_fk RX3 31 3 2 8 0 false := ⟨_, _, _, ck_3, by decide, by decide, fun _ => rfl, fun h => absurd h (by decide), fun h => absurd h (by decide), rfl, Or.inl (gw_mem 150 (by decide +kernel) rfl)⟩
theorem dX3_advance_298 : decode cX3_advance 298 = .ok (.return_, 1) := by decide +kernel
theorem dX3_advance_290 : gw_dc cX3_advance 290 (.iconst 3) 1 291 := ⟨by decide +kernel, rfl⟩
theorem dX3_advance_291 : gw_dc cX3_advance 291 (.goto 4) 3 294 := ⟨by decide +kernel, rfl⟩
theorem dX3_advance_163 : gw_dc cX3_advance 163 (.aload_n 0) 1 164 := ⟨by decide +kernel, rfl⟩
theorem dX3_advance_164 : gw_dc cX3_advance 164 (.iload_n 1) 1 165 := ⟨by decide +kernel, rfl⟩
theorem dX3_advance_165 : gw_dc cX3_advance 165 (.bipush 48) 2 167 := ⟨by decide +kernel, rfl⟩
theorem dX3_advance_167 : gw_dc cX3_advance 167 (.isub) 1 168 := ⟨by decide +kernel, rfl⟩
theorem dX3_advance_168 : gw_dc cX3_advance 168 (.putfield 60) 3 171 := ⟨by decide +kernel, rfl⟩
theorem fk_RX3_60 : gw_fk RX3 60 3 5 8 0 false := ⟨_, _, _, ck_3, by decide, by decide, fun _ => rfl, fun h => absurd h (by decide), fun h => absurd h (by decide), rfl, Or.inl (gw_mem 153 (by decide +kernel) rfl)⟩
theorem dX3_advance_171 : gw_dc cX3_advance 171 (.aload_n 0) 1 172 := ⟨by decide +kernel, rfl⟩
theorem dX3_advance_172 : gw_dc cX3_advance 172 (.getfield 22) 3 175 := ⟨by decide +kernel, rfl⟩
theorem dX3_advance_175 : gw_dc cX3_advance 175 (.aload_n 0) 1 176 := ⟨by decide +kernel, rfl⟩
theorem dX3_advance_176 : gw_dc cX3_advance 176 (.getfield 19) 3 179 := ⟨by decide +kernel, rfl⟩
theorem dX3_advance_179 : gw_dc cX3_advance 179 (.if_icmp .ge 79) 3 182 := ⟨by decide +kernel, rfl⟩
theorem dX3_advance_258 : gw_dc cX3_advance 258 (.aload_n 0) 1 259 := ⟨by decide +kernel, rfl⟩
theorem dX3_advance_259 : gw_dc cX3_advance 259 (.aload_n 0) 1 260 := ⟨by decide +kernel, rfl⟩
theorem dX3_advance_260 : gw_dc cX3_advance 260 (.getfield 22) 3 263 := ⟨by decide +kernel, rfl⟩
theorem dX3_advance_263 : gw_dc cX3_advance 263 (.aload_n 0) 1 264 := ⟨by decide +kernel, rfl⟩
theorem dX3_advance_264 : gw_dc cX3_advance 264 (.getfield 34) 3 267 := ⟨by decide +kernel, rfl⟩
theorem dX3_advance_267 : gw_dc cX3_advance 267 (.isub) 1 268 := ⟨by decide +kernel, rfl⟩
theorem dX3_advance_268 : gw_dc cX3_advance 268 (.iconst 3) 1 269 := ⟨by decide +kernel, rfl⟩
theorem dX3_advance_269 : gw_dc cX3_advance 269 (.if_icmp .gt 7) 3 272 := ⟨by decide +kernel, rfl⟩
theorem dX3_advance_276 : gw_dc cX3_advance 276 (.iconst 4) 1 277 := ⟨by decide +kernel, rfl⟩
theorem dX3_advance_277 : gw_dc cX3_advance 277 (.putfield 31) 3 280 := ⟨by decide +kernel, rfl⟩
theorem dX3_advance_280 : gw_dc cX3_advance 280 (.goto 18) 3 283 := ⟨by decide +kernel, rfl⟩
theorem dX3_advance_272 : gw_dc cX3_advance 272 (.iconst 2) 1 273 := ⟨by decide +kernel, rfl⟩
theorem dX3_advance_273 : gw_dc cX3_advance 273 (.goto 4) 3 276 := ⟨by decide +kernel, rfl⟩
theorem dX3_advance_182 : gw_dc cX3_advance 182 (.aload_n 0) 1 183 := ⟨by decide +kernel, rfl⟩
theorem dX3_advance_183 : gw_dc cX3_advance 183 (.getfield 15) 3 186 := ⟨by decide +kernel, rfl⟩
theorem dX3_advance_186 : gw_dc cX3_advance 186 (.aload_n 0) 1 187 := ⟨by decide +kernel, rfl⟩
theorem dX3_advance_187 : gw_dc cX3_advance 187 (.getfield 22) 3 190 := ⟨by decide +kernel, rfl⟩
theorem dX3_advance_190 : gw_dc cX3_advance 190 (.invokevirtual 42) 3 193 := ⟨by decide +kernel, rfl⟩
theorem dX3_advance_193 : gw_dc cX3_advance 193 (.invokestatic 67) 3 196 := ⟨by decide +kernel, rfl⟩
theorem dX3_advance_196 : gw_dc cX3_advance 196 (.ifCond .eq 62) 3 199 := ⟨by decide +kernel, rfl⟩
theorem dX3_advance_199 : gw_dc cX3_advance 199 (.aload_n 0) 1 200 := ⟨by decide +kernel, rfl⟩
theorem dX3_advance_200 : gw_dc cX3_advance 200 (.aload_n 0) 1 201 := ⟨by decide +kernel, rfl⟩
theorem dX3_advance_201 : gw_dc cX3_advance 201 (.getfield 22) 3 204 := ⟨by decide +kernel, rfl⟩
theorem dX3_advance_204 : gw_dc cX3_advance 204 (.aload_n 0) 1 205 := ⟨by decide +kernel, rfl⟩
theorem dX3_advance_205 : gw_dc cX3_advance 205 (.getfield 34) 3 208 := ⟨by decide +kernel, rfl⟩
theorem dX3_advance_208 : gw_dc cX3_advance 208 (.isub) 1 209 := ⟨by decide +kernel, rfl⟩
theorem dX3_advance_209 : gw_dc cX3_advance 209 (.iconst 3) 1 210 := ⟨by decide +kernel, rfl⟩
theorem dX3_advance_210 : gw_dc cX3_advance 210 (.if_icmp .ge 28) 3 213 := ⟨by decide +kernel, rfl⟩
theorem dX3_advance_238 : gw_dc cX3_advance 238 (.aload_n 0) 1 239 := ⟨by decide +kernel, rfl⟩
theorem dX3_advance_239 : gw_dc cX3_advance 239 (.getfield 60) 3 242 := ⟨by decide +kernel, rfl⟩
theorem dX3_advance_242 : gw_dc cX3_advance 242 (.putfield 60) 3 245 := ⟨by decide +kernel, rfl⟩
theorem dX3_advance_245 : gw_dc cX3_advance 245 (.aload_n 0) 1 246 := ⟨by decide +kernel, rfl⟩
theorem dX3_advance_246 : gw_dc cX3_advance 246 (.dup) 1 247 := ⟨by decide +kernel, rfl⟩
theorem dX3_advance_247 : gw_dc cX3_advance 247 (.getfield 22) 3 250 := ⟨by decide +kernel, rfl⟩
theorem dX3_advance_250 : gw_dc cX3_advance 250 (.iconst 1) 1 251 := ⟨by decide +kernel, rfl⟩
theorem dX3_advance_251 : gw_dc cX3_advance 251 (.iadd) 1 252 := ⟨by decide +kernel, rfl⟩
theorem dX3_advance_252 : gw_dc cX3_advance 252 (.putfield 22) 3 255 := ⟨by decide +kernel, rfl⟩
theorem dX3_advance_255 : gw_dc cX3_advance 255 (.goto (-84)) 3 258 := ⟨by decide +kernel, rfl⟩
theorem dX3_advance_213 : gw_dc cX3_advance 213 (.aload_n 0) 1 214 := ⟨by decide +kernel, rfl⟩
theorem dX3_advance_214 : gw_dc cX3_advance 214 (.getfield 60) 3 217 := ⟨by decide +kernel, rfl⟩
theorem dX3_advance_217 : gw_dc cX3_advance 217 (.bipush 10) 2 219 := ⟨by decide +kernel, rfl⟩
theorem dX3_advance_219 : gw_dc cX3_advance 219 (.imul) 1 220 := ⟨by decide +kernel, rfl⟩
theorem dX3_advance_220 : gw_dc cX3_advance 220 (.aload_n 0) 1 221 := ⟨by decide +kernel, rfl⟩
theorem dX3_advance_221 : gw_dc cX3_advance 221 (.getfield 15) 3 224 := ⟨by decide +kernel, rfl⟩
theorem dX3_advance_224 : gw_dc cX3_advance 224 (.aload_n 0) 1 225 := ⟨by decide +kernel, rfl⟩
theorem dX3_advance_225 : gw_dc cX3_advance 225 (.getfield 22) 3 228 := ⟨by decide +kernel, rfl⟩
theorem dX3_advance_228 : gw_dc cX3_advance 228 (.invokevirtual 42) 3 231 := ⟨by decide +kernel, rfl⟩
theorem dX3_advance_231 : gw_dc cX3_advance 231 (.iadd) 1 232 := ⟨by decide +kernel, rfl⟩
theorem dX3_advance_232 : gw_dc cX3_advance 232 (.bipush 48) 2 234 := ⟨by decide +kernel, rfl⟩
theorem dX3_advance_234 : gw_dc cX3_advance 234 (.isub) 1 235 := ⟨by decide +kernel, rfl⟩
theorem dX3_advance_235 : gw_dc cX3_advance 235 (.goto 7) 3 238 := ⟨by decide +kernel, rfl⟩
theorem dX3_advance_110 : gw_dc cX3_advance 110 (.aload_n 0) 1 111 := ⟨by decide +kernel, rfl⟩
theorem dX3_advance_111 : gw_dc cX3_advance 111 (.iconst 1) 1 112 := ⟨by decide +kernel, rfl⟩
theorem dX3_advance_112 : gw_dc cX3_advance 112 (.putfield 31) 3 115 := ⟨by decide +kernel, rfl⟩
theorem dX3_advance_115 : gw_dc cX3_advance 115 (.aload_n 0) 1 116 := ⟨by decide +kernel, rfl⟩
theorem dX3_advance_116 : gw_dc cX3_advance 116 (.getfield 22) 3 119 := ⟨by decide +kernel, rfl⟩
theorem dX3_advance_119 : gw_dc cX3_advance 119 (.aload_n 0) 1 120 := ⟨by decide +kernel, rfl⟩
theorem dX3_advance_120 : gw_dc cX3_advance 120 (.getfield 19) 3 123 := ⟨by decide +kernel, rfl⟩
theorem dX3_advance_123 : gw_dc cX3_advance 123 (.if_icmp .ge 175) 3 126 := ⟨by decide +kernel, rfl⟩
theorem dX3_advance_126 : gw_dc cX3_advance 126 (.aload_n 0) 1 127 := ⟨by decide +kernel, rfl⟩
theorem dX3_advance_127 : gw_dc cX3_advance 127 (.getfield 15) 3 130 := ⟨by decide +kernel, rfl⟩
theorem dX3_advance_130 : gw_dc cX3_advance 130 (.aload_n 0) 1 131 := ⟨by decide +kernel, rfl⟩
theorem dX3_advance_131 : gw_dc cX3_advance 131 (.getfield 22) 3 134 := ⟨by decide +kernel, rfl⟩
theorem dX3_advance_134 : gw_dc cX3_advance 134 (.invokevirtual 42) 3 137 := ⟨by decide +kernel, rfl⟩
theorem dX3_advance_137 : gw_dc cX3_advance 137 (.invokestatic 63) 3 140 := ⟨by decide +kernel, rfl⟩
theorem dX3_advance_140 : gw_dc cX3_advance 140 (.ifCond .eq 158) 3 143 := ⟨by decide +kernel, rfl⟩
theorem dX3_advance_143 : gw_dc cX3_advance 143 (.aload_n 0) 1 144 := ⟨by decide +kernel, rfl⟩
theorem dX3_advance_144 : gw_dc cX3_advance 144 (.dup) 1 145 := ⟨by decide +kernel, rfl⟩
theorem dX3_advance_145 : gw_dc cX3_advance 145 (.getfield 22) 3 148 := ⟨by decide +kernel, rfl⟩
theorem dX3_advance_148 : gw_dc cX3_advance 148 (.iconst 1) 1 149 := ⟨by decide +kernel, rfl⟩
theorem dX3_advance_149 : gw_dc cX3_advance 149 (.iadd) 1 150 := ⟨by decide +kernel, rfl⟩
theorem dX3_advance_150 : gw_dc cX3_advance 150 (.putfield 22) 3 153 := ⟨by decide +kernel, rfl⟩
theorem dX3_advance_153 : gw_dc cX3_advance 153 (.goto (-38)) 3 156 := ⟨by decide +kernel, rfl⟩
theorem dX3_advance_75 : gw_dc cX3_advance 75 (.aload_n 0) 1 76 := ⟨by decide +kernel, rfl⟩
theorem dX3_advance_76 : gw_dc cX3_advance 76 (.iconst 0) 1 77 := ⟨by decide +kernel, rfl⟩
theorem dX3_advance_77 : gw_dc cX3_advance 77 (.putfield 31) 3 80 := ⟨by decide +kernel, rfl⟩
theorem dX3_advance_80 : decode cX3_advance 80 = .ok (.return_, 1) := by decide +kernel
theorem dX3_advance_11 : gw_dc cX3_advance 11 (.aload_n 0) 1 12 := ⟨by decide +kernel, rfl⟩
theorem dX3_advance_12 : gw_dc cX3_advance 12 (.getfield 15) 3 15 := ⟨by decide +kernel, rfl⟩
theorem dX3_advance_15 : gw_dc cX3_advance 15 (.aload_n 0) 1 16 := ⟨by decide +kernel, rfl⟩
theorem dX3_advance_16 : gw_dc cX3_advance 16 (.getfield 22) 3 19 := ⟨by decide +kernel, rfl⟩
theorem dX3_advance_19 : gw_dc cX3_advance 19 (.invokevirtual 42) 3 22 := ⟨by decide +kernel, rfl⟩
theorem dX3_advance_22 : gw_dc cX3_advance 22 (.bipush 32) 2 24 := ⟨by decide +kernel, rfl⟩
theorem dX3_advance_24 : gw_dc cX3_advance 24 (.if_icmp .eq 19) 3 27 := ⟨by decide +kernel, rfl⟩
theorem dX3_advance_43 : gw_dc cX3_advance 43 (.aload_n 0) 1 44 := ⟨by decide +kernel, rfl⟩
theorem dX3_advance_44 : gw_dc cX3_advance 44 (.dup) 1 45 := ⟨by decide +kernel, rfl⟩
theorem dX3_advance_45 : gw_dc cX3_advance 45 (.getfield 22) 3 48 := ⟨by decide +kernel, rfl⟩
theorem dX3_advance_48 : gw_dc cX3_advance 48 (.iconst 1) 1 49 := ⟨by decide +kernel, rfl⟩
theorem dX3_advance_49 : gw_dc cX3_advance 49 (.iadd) 1 50 := ⟨by decide +kernel, rfl⟩
theorem dX3_advance_50 : gw_dc cX3_advance 50 (.putfield 22) 3 53 := ⟨by decide +kernel, rfl⟩
theorem dX3_advance_53 : gw_dc cX3_advance 53 (.goto (-53)) 3 56 := ⟨by decide +kernel, rfl⟩
theorem dX3_advance_27 : gw_dc cX3_advance 27 (.aload_n 0) 1 28 := ⟨by decide +kernel, rfl⟩
theorem dX3_advance_28 : gw_dc cX3_advance 28 (.getfield 15) 3 31 := ⟨by decide +kernel, rfl⟩
theorem dX3_advance_31 : gw_dc cX3_advance 31 (.aload_n 0) 1 32 := ⟨by decide +kernel, rfl⟩
theorem dX3_advance_32 : gw_dc cX3_advance 32 (.getfield 22) 3 35 := ⟨by decide +kernel, rfl⟩
theorem dX3_advance_35 : gw_dc cX3_advance 35 (.invokevirtual 42) 3 38 := ⟨by decide +kernel, rfl⟩
theorem dX3_advance_38 : gw_dc cX3_advance 38 (.bipush 10) 2 40 := ⟨by decide +kernel, rfl⟩
theorem dX3_advance_40 : gw_dc cX3_advance 40 (.if_icmp .ne 16) 3 43 := ⟨by decide +kernel, rfl⟩
theorem dX3_spells_0 : gw_dc cX3_spells 0 (.aload_n 0) 1 1 := ⟨by decide +kernel, rfl⟩
theorem dX3_spells_1 : gw_dc cX3_spells 1 (.getfield 31) 3 4 := ⟨by decide +kernel, rfl⟩
theorem dX3_spells_4 : gw_dc cX3_spells 4 (.iconst 1) 1 5 := ⟨by decide +kernel, rfl⟩
theorem dX3_spells_5 : gw_dc cX3_spells 5 (.if_icmp .ne 23) 3 8 := ⟨by decide +kernel, rfl⟩
theorem dX3_spells_28 : gw_dc cX3_spells 28 (.iconst 0) 1 29 := ⟨by decide +kernel, rfl⟩
theorem dX3_spells_29 : gw_dc cX3_spells 29 (.istore_n 2) 1 30 := ⟨by decide +kernel, rfl⟩
theorem dX3_spells_30 : gw_dc cX3_spells 30 (.iconst 0) 1 31 := ⟨by decide +kernel, rfl⟩
theorem dX3_spells_31 : gw_dc cX3_spells 31 (.istore_n 3) 1 32 := ⟨by decide +kernel, rfl⟩
theorem dX3_spells_32 : gw_dc cX3_spells 32 (.iload_n 3) 1 33 := ⟨by decide +kernel, rfl⟩
theorem dX3_spells_33 : gw_dc cX3_spells 33 (.aload_n 1) 1 34 := ⟨by decide +kernel, rfl⟩
theorem dX3_spells_34 : gw_dc cX3_spells 34 (.invokevirtual 37) 3 37 := ⟨by decide +kernel, rfl⟩
theorem mv_RX3_37 : gw_mv RX3 37 yJ0_length_8abf5 := ⟨gw_mem 859 (by decide +kernel) rfl, gw_mem 860 (by decide +kernel) rfl, gw_mem 861 (by decide +kernel) rfl⟩
theorem my_J0_length_8abf5 : gw_my yJ0_length_8abf5 cJ0_length_8abf5 1 (some .int) 0 := ⟨gw_mem 862 (by decide +kernel) rfl, gw_mem 111 (by decide +kernel) rfl, by decide +kernel, by decide⟩
theorem dX3_spells_37 : gw_dc cX3_spells 37 (.if_icmp .ge 40) 3 40 := ⟨by decide +kernel, rfl⟩
theorem dX3_spells_77 : gw_dc cX3_spells 77 (.iload_n 2) 1 78 := ⟨by decide +kernel, rfl⟩
theorem dX3_spells_78 : decode cX3_spells 78 = .ok (.ireturn, 1) := by decide +kernel
theorem dX3_spells_40 : gw_dc cX3_spells 40 (.iload_n 2) 1 41 := ⟨by decide +kernel, rfl⟩
theorem dX3_spells_41 : gw_dc cX3_spells 41 (.ifCond .eq 36) 3 44 := ⟨by decide +kernel, rfl⟩
theorem dX3_spells_44 : gw_dc cX3_spells 44 (.aload_n 0) 1 45 := ⟨by decide +kernel, rfl⟩
theorem dX3_spells_45 : gw_dc cX3_spells 45 (.getfield 15) 3 48 := ⟨by decide +kernel, rfl⟩
theorem dX3_spells_48 : gw_dc cX3_spells 48 (.aload_n 0) 1 49 := ⟨by decide +kernel, rfl⟩
theorem dX3_spells_49 : gw_dc cX3_spells 49 (.getfield 34) 3 52 := ⟨by decide +kernel, rfl⟩
theorem dX3_spells_52 : gw_dc cX3_spells 52 (.iload_n 3) 1 53 := ⟨by decide +kernel, rfl⟩
theorem dX3_spells_53 : gw_dc cX3_spells 53 (.iadd) 1 54 := ⟨by decide +kernel, rfl⟩
theorem dX3_spells_54 : gw_dc cX3_spells 54 (.invokevirtual 42) 3 57 := ⟨by decide +kernel, rfl⟩
theorem dX3_spells_57 : gw_dc cX3_spells 57 (.aload_n 1) 1 58 := ⟨by decide +kernel, rfl⟩
theorem dX3_spells_58 : gw_dc cX3_spells 58 (.iload_n 3) 1 59 := ⟨by decide +kernel, rfl⟩
theorem dX3_spells_59 : gw_dc cX3_spells 59 (.invokevirtual 48) 3 62 := ⟨by decide +kernel, rfl⟩
theorem mv_RX3_48 : gw_mv RX3 48 yJ0_charAt_5068e := ⟨gw_mem 869 (by decide +kernel) rfl, gw_mem 870 (by decide +kernel) rfl, gw_mem 871 (by decide +kernel) rfl⟩
theorem my_J0_charAt_5068e : gw_my yJ0_charAt_5068e cJ0_charAt_5068e 2 (some .char) 1 := ⟨gw_mem 872 (by decide +kernel) rfl, gw_mem 111 (by decide +kernel) rfl, by decide +kernel, by decide⟩
theorem dX3_spells_62 : gw_dc cX3_spells 62 (.if_icmp .ne 7) 3 65 := ⟨by decide +kernel, rfl⟩
theorem dX3_spells_69 : gw_dc cX3_spells 69 (.iconst 0) 1 70 := ⟨by decide +kernel, rfl⟩
theorem dX3_spells_70 : gw_dc cX3_spells 70 (.istore_n 2) 1 71 := ⟨by decide +kernel, rfl⟩
theorem dX3_spells_71 : gw_dc cX3_spells 71 (.iinc 3 1) 3 74 := ⟨by decide +kernel, rfl⟩
theorem dX3_spells_74 : gw_dc cX3_spells 74 (.goto (-42)) 3 77 := ⟨by decide +kernel, rfl⟩
theorem dX3_spells_65 : gw_dc cX3_spells 65 (.iconst 1) 1 66 := ⟨by decide +kernel, rfl⟩
theorem dX3_spells_66 : gw_dc cX3_spells 66 (.goto 4) 3 69 := ⟨by decide +kernel, rfl⟩
theorem dX3_spells_8 : gw_dc cX3_spells 8 (.aload_n 0) 1 9 := ⟨by decide +kernel, rfl⟩
theorem dX3_spells_9 : gw_dc cX3_spells 9 (.getfield 22) 3 12 := ⟨by decide +kernel, rfl⟩
theorem dX3_spells_12 : gw_dc cX3_spells 12 (.aload_n 0) 1 13 := ⟨by decide +kernel, rfl⟩
theorem dX3_spells_13 : gw_dc cX3_spells 13 (.getfield 34) 3 16 := ⟨by decide +kernel, rfl⟩
theorem dX3_spells_16 : gw_dc cX3_spells 16 (.isub) 1 17 := ⟨by decide +kernel, rfl⟩
theorem dX3_spells_17 : gw_dc cX3_spells 17 (.aload_n 1) 1 18 := ⟨by decide +kernel, rfl⟩
theorem dX3_spells_18 : gw_dc cX3_spells 18 (.invokevirtual 37) 3 21 := ⟨by decide +kernel, rfl⟩
theorem dX3_spells_21 : gw_dc cX3_spells 21 (.if_icmp .ne 7) 3 24 := ⟨by decide +kernel, rfl⟩
theorem dX3_spells_24 : gw_dc cX3_spells 24 (.iconst 1) 1 25 := ⟨by decide +kernel, rfl⟩
theorem dX3_spells_25 : gw_dc cX3_spells 25 (.goto 4) 3 28 := ⟨by decide +kernel, rfl⟩
theorem dX3_fail_0 : gw_dc cX3_fail 0 (.aload_n 0) 1 1 := ⟨by decide +kernel, rfl⟩
theorem dX3_fail_1 : gw_dc cX3_fail 1 (.getfield 25) 3 4 := ⟨by decide +kernel, rfl⟩
theorem fk_RX3_25 : gw_fk RX3 25 3 6 8 0 false := ⟨_, _, _, ck_3, by decide, by decide, fun _ => rfl, fun h => absurd h (by decide), fun h => absurd h (by decide), rfl, Or.inl (gw_mem 154 (by decide +kernel) rfl)⟩
theorem dX3_fail_4 : gw_dc cX3_fail 4 (.ifCond .ne 28) 3 7 := ⟨by decide +kernel, rfl⟩
theorem dX3_fail_32 : decode cX3_fail 32 = .ok (.return_, 1) := by decide +kernel
theorem dX3_fail_7 : gw_dc cX3_fail 7 (.aload_n 0) 1 8 := ⟨by decide +kernel, rfl⟩
theorem dX3_fail_8 : gw_dc cX3_fail 8 (.aload_n 0) 1 9 := ⟨by decide +kernel, rfl⟩
theorem dX3_fail_9 : gw_dc cX3_fail 9 (.getfield 31) 3 12 := ⟨by decide +kernel, rfl⟩
theorem dX3_fail_12 : gw_dc cX3_fail 12 (.iconst 4) 1 13 := ⟨by decide +kernel, rfl⟩
theorem dX3_fail_13 : gw_dc cX3_fail 13 (.if_icmp .ne 7) 3 16 := ⟨by decide +kernel, rfl⟩
theorem dX3_fail_20 : gw_dc cX3_fail 20 (.iload_n 1) 1 21 := ⟨by decide +kernel, rfl⟩
theorem dX3_fail_21 : gw_dc cX3_fail 21 (.putfield 25) 3 24 := ⟨by decide +kernel, rfl⟩
theorem dX3_fail_24 : gw_dc cX3_fail 24 (.aload_n 0) 1 25 := ⟨by decide +kernel, rfl⟩
theorem dX3_fail_25 : gw_dc cX3_fail 25 (.aload_n 0) 1 26 := ⟨by decide +kernel, rfl⟩
theorem dX3_fail_26 : gw_dc cX3_fail 26 (.getfield 34) 3 29 := ⟨by decide +kernel, rfl⟩
theorem dX3_fail_29 : gw_dc cX3_fail 29 (.putfield 9) 3 32 := ⟨by decide +kernel, rfl⟩
theorem fk_RX3_9 : gw_fk RX3 9 3 7 8 0 false := ⟨_, _, _, ck_3, by decide, by decide, fun _ => rfl, fun h => absurd h (by decide), fun h => absurd h (by decide), rfl, Or.inl (gw_mem 156 (by decide +kernel) rfl)⟩
theorem dX3_fail_16 : gw_dc cX3_fail 16 (.iconst 1) 1 17 := ⟨by decide +kernel, rfl⟩
theorem dX3_fail_17 : gw_dc cX3_fail 17 (.goto 4) 3 20 := ⟨by decide +kernel, rfl⟩
theorem dX3_goesOn_0 : gw_dc cX3_goesOn 0 (.aload_n 0) 1 1 := ⟨by decide +kernel, rfl⟩
theorem dX3_goesOn_1 : gw_dc cX3_goesOn 1 (.getfield 25) 3 4 := ⟨by decide +kernel, rfl⟩
theorem dX3_goesOn_4 : gw_dc cX3_goesOn 4 (.ifCond .ne 14) 3 7 := ⟨by decide +kernel, rfl⟩
theorem dX3_goesOn_18 : gw_dc cX3_goesOn 18 (.iconst 0) 1 19 := ⟨by decide +kernel, rfl⟩
theorem dX3_goesOn_19 : decode cX3_goesOn 19 = .ok (.ireturn, 1) := by decide +kernel
theorem dX3_goesOn_7 : gw_dc cX3_goesOn 7 (.aload_n 0) 1 8 := ⟨by decide +kernel, rfl⟩
theorem dX3_goesOn_8 : gw_dc cX3_goesOn 8 (.getfield 31) 3 11 := ⟨by decide +kernel, rfl⟩
theorem dX3_goesOn_11 : gw_dc cX3_goesOn 11 (.ifCond .eq 7) 3 14 := ⟨by decide +kernel, rfl⟩
theorem dX3_goesOn_14 : gw_dc cX3_goesOn 14 (.iconst 1) 1 15 := ⟨by decide +kernel, rfl⟩
theorem dX3_goesOn_15 : gw_dc cX3_goesOn 15 (.goto 4) 3 18 := ⟨by decide +kernel, rfl⟩
theorem dX3_takes_0 : gw_dc cX3_takes 0 (.aload_n 0) 1 1 := ⟨by decide +kernel, rfl⟩
theorem dX3_takes_1 : gw_dc cX3_takes 1 (.aload_n 1) 1 2 := ⟨by decide +kernel, rfl⟩
theorem dX3_takes_2 : gw_dc cX3_takes 2 (.invokevirtual 52) 3 5 := ⟨by decide +kernel, rfl⟩
theorem mv_RX3_52 : gw_mv RX3 52 yX3_spells := ⟨gw_mem 927 (by decide +kernel) rfl, gw_mem 856 (by decide +kernel) rfl, gw_mem 857 (by decide +kernel) rfl⟩
theorem my_X3_spells : gw_my yX3_spells cX3_spells 4 (some .boolean) 1 := ⟨gw_mem 858 (by decide +kernel) rfl, gw_mem 97 (by decide +kernel) rfl, by decide +kernel, by decide⟩
theorem dX3_takes_5 : gw_dc cX3_takes 5 (.istore_n 2) 1 6 := ⟨by decide +kernel, rfl⟩
theorem dX3_takes_6 : gw_dc cX3_takes 6 (.iload_n 2) 1 7 := ⟨by decide +kernel, rfl⟩
theorem dX3_takes_7 : gw_dc cX3_takes 7 (.ifCond .eq 7) 3 10 := ⟨by decide +kernel, rfl⟩
theorem dX3_takes_14 : gw_dc cX3_takes 14 (.iload_n 2) 1 15 := ⟨by decide +kernel, rfl⟩
theorem dX3_takes_15 : decode cX3_takes 15 = .ok (.ireturn, 1) := by decide +kernel
theorem dX3_takes_10 : gw_dc cX3_takes 10 (.aload_n 0) 1 11 := ⟨by decide +kernel, rfl⟩
theorem dX3_takes_11 : gw_dc cX3_takes 11 (.invokevirtual 28) 3 14 := ⟨by decide +kernel, rfl⟩
theorem mv_RX3_28 : gw_mv RX3 28 yX3_advance := ⟨gw_mem 832 (by decide +kernel) rfl, gw_mem 833 (by decide +kernel) rfl, gw_mem 834 (by decide +kernel) rfl⟩
theorem my_X3_advance : gw_my yX3_advance cX3_advance 2 none 0 := ⟨gw_mem 835 (by decide +kernel) rfl, gw_mem 97 (by decide +kernel) rfl, by decide +kernel, by decide⟩
theorem dX3_expect_0 : gw_dc cX3_expect 0 (.aload_n 0) 1 1 := ⟨by decide +kernel, rfl⟩
theorem dX3_expect_1 : gw_dc cX3_expect 1 (.aload_n 1) 1 2 := ⟨by decide +kernel, rfl⟩
theorem dX3_expect_2 : gw_dc cX3_expect 2 (.invokevirtual 52) 3 5 := ⟨by decide +kernel, rfl⟩
theorem dX3_expect_5 : gw_dc cX3_expect 5 (.ifCond .eq 10) 3 8 := ⟨by decide +kernel, rfl⟩
theorem dX3_expect_15 : gw_dc cX3_expect 15 (.aload_n 0) 1 16 := ⟨by decide +kernel, rfl⟩
theorem dX3_expect_16 : gw_dc cX3_expect 16 (.iconst 2) 1 17 := ⟨by decide +kernel, rfl⟩
theorem dX3_expect_17 : gw_dc cX3_expect 17 (.invokevirtual 56) 3 20 := ⟨by decide +kernel, rfl⟩
theorem mv_RX3_56 : gw_mv RX3 56 yX3_fail := ⟨gw_mem 920 (by decide +kernel) rfl, gw_mem 912 (by decide +kernel) rfl, gw_mem 913 (by decide +kernel) rfl⟩
theorem my_X3_fail : gw_my yX3_fail cX3_fail 2 none 1 := ⟨gw_mem 914 (by decide +kernel) rfl, gw_mem 97 (by decide +kernel) rfl, by decide +kernel, by decide⟩
theorem dX3_expect_20 : decode cX3_expect 20 = .ok (.return_, 1) := by decide +kernel
theorem dX3_expect_8 : gw_dc cX3_expect 8 (.aload_n 0) 1 9 := ⟨by decide +kernel, rfl⟩
theorem dX3_expect_9 : gw_dc cX3_expect 9 (.invokevirtual 28) 3 12 := ⟨by decide +kernel, rfl⟩
theorem dX3_expect_12 : gw_dc cX3_expect 12 (.goto 8) 3 15 := ⟨by decide +kernel, rfl⟩
theorem dX3_number_0 : gw_dc cX3_number 0 (.aload_n 0) 1 1 := ⟨by decide +kernel, rfl⟩
theorem dX3_number_1 : gw_dc cX3_number 1 (.getfield 60) 3 4 := ⟨by decide +kernel, rfl⟩
theorem dX3_number_4 : gw_dc cX3_number 4 (.istore_n 3) 1 5 := ⟨by decide +kernel, rfl⟩
theorem dX3_number_5 : gw_dc cX3_number 5 (.aload_n 0) 1 6 := ⟨by decide +kernel, rfl⟩
theorem dX3_number_6 : gw_dc cX3_number 6 (.getfield 31) 3 9 := ⟨by decide +kernel, rfl⟩
theorem dX3_number_9 : gw_dc cX3_number 9 (.iconst 2) 1 10 := ⟨by decide +kernel, rfl⟩
theorem dX3_number_10 : gw_dc cX3_number 10 (.if_icmp .eq 10) 3 13 := ⟨by decide +kernel, rfl⟩
theorem dX3_number_20 : gw_dc cX3_number 20 (.iload_n 3) 1 21 := ⟨by decide +kernel, rfl⟩
theorem dX3_number_21 : gw_dc cX3_number 21 (.iload_n 1) 1 22 := ⟨by decide +kernel, rfl⟩
theorem dX3_number_22 : gw_dc cX3_number 22 (.if_icmp .lt 8) 3 25 := ⟨by decide +kernel, rfl⟩
theorem dX3_number_30 : gw_dc cX3_number 30 (.aload_n 0) 1 31 := ⟨by decide +kernel, rfl⟩
theorem dX3_number_31 : gw_dc cX3_number 31 (.iconst 3) 1 32 := ⟨by decide +kernel, rfl⟩
theorem dX3_number_32 : gw_dc cX3_number 32 (.invokevirtual 56) 3 35 := ⟨by decide +kernel, rfl⟩
theorem dX3_number_35 : gw_dc cX3_number 35 (.iload_n 1) 1 36 := ⟨by decide +kernel, rfl⟩
theorem dX3_number_36 : decode cX3_number 36 = .ok (.ireturn, 1) := by decide +kernel
theorem dX3_number_25 : gw_dc cX3_number 25 (.iload_n 3) 1 26 := ⟨by decide +kernel, rfl⟩
theorem dX3_number_26 : gw_dc cX3_number 26 (.iload_n 2) 1 27 := ⟨by decide +kernel, rfl⟩
theorem dX3_number_27 : gw_dc cX3_number 27 (.if_icmp .le 10) 3 30 := ⟨by decide +kernel, rfl⟩
theorem dX3_number_37 : gw_dc cX3_number 37 (.aload_n 0) 1 38 := ⟨by decide +kernel, rfl⟩
theorem dX3_number_38 : gw_dc cX3_number 38 (.invokevirtual 28) 3 41 := ⟨by decide +kernel, rfl⟩
theorem dX3_number_41 : gw_dc cX3_number 41 (.iload_n 3) 1 42 := ⟨by decide +kernel, rfl⟩
theorem dX3_number_42 : decode cX3_number 42 = .ok (.ireturn, 1) := by decide +kernel
theorem dX3_number_13 : gw_dc cX3_number 13 (.aload_n 0) 1 14 := ⟨by decide +kernel, rfl⟩
theorem dX3_number_14 : gw_dc cX3_number 14 (.iconst 2) 1 15 := ⟨by decide +kernel, rfl⟩
theorem dX3_number_15 : gw_dc cX3_number 15 (.invokevirtual 56) 3 18 := ⟨by decide +kernel, rfl⟩
theorem dX3_number_18 : gw_dc cX3_number 18 (.iload_n 1) 1 19 := ⟨by decide +kernel, rfl⟩
theorem dX3_number_19 : decode cX3_number 19 = .ok (.ireturn, 1) := by decide +kernel
theorem dX3_endLine_0 : gw_dc cX3_endLine 0 (.aload_n 0) 1 1 := ⟨by decide +kernel, rfl⟩
theorem dX3_endLine_1 : gw_dc cX3_endLine 1 (.getfield 31) 3 4 := ⟨by decide +kernel, rfl⟩
theorem dX3_endLine_4 : gw_dc cX3_endLine 4 (.iconst 3) 1 5 := ⟨by decide +kernel, rfl⟩
theorem dX3_endLine_5 : gw_dc cX3_endLine 5 (.if_icmp .ne 10) 3 8 := ⟨by decide +kernel, rfl⟩
theorem dX3_endLine_15 : gw_dc cX3_endLine 15 (.aload_n 0) 1 16 := ⟨by decide +kernel, rfl⟩
theorem dX3_endLine_16 : gw_dc cX3_endLine 16 (.iconst 2) 1 17 := ⟨by decide +kernel, rfl⟩
theorem dX3_endLine_17 : gw_dc cX3_endLine 17 (.invokevirtual 56) 3 20 := ⟨by decide +kernel, rfl⟩
theorem dX3_endLine_20 : decode cX3_endLine 20 = .ok (.return_, 1) := by decide +kernel
theorem dX3_endLine_8 : gw_dc cX3_endLine 8 (.aload_n 0) 1 9 := ⟨by decide +kernel, rfl⟩
theorem dX3_endLine_9 : gw_dc cX3_endLine 9 (.invokevirtual 28) 3 12 := ⟨by decide +kernel, rfl⟩
theorem dX3_endLine_12 : gw_dc cX3_endLine 12 (.goto 8) 3 15 := ⟨by decide +kernel, rfl⟩
theorem dX3_open_0 : gw_dc cX3_open 0 (.aload_n 0) 1 1 := ⟨by decide +kernel, rfl⟩
theorem dX3_open_1 : gw_dc cX3_open 1 (.iload_n 1) 1 2 := ⟨by decide +kernel, rfl⟩
theorem dX3_open_2 : gw_dc cX3_open 2 (.putfield 19) 3 5 := ⟨by decide +kernel, rfl⟩
theorem dX3_open_5 : gw_dc cX3_open 5 (.aload_n 0) 1 6 := ⟨by decide +kernel, rfl⟩
theorem dX3_open_6 : gw_dc cX3_open 6 (.iconst 0) 1 7 := ⟨by decide +kernel, rfl⟩
theorem dX3_open_7 : gw_dc cX3_open 7 (.putfield 22) 3 10 := ⟨by decide +kernel, rfl⟩
theorem dX3_open_10 : gw_dc cX3_open 10 (.aload_n 0) 1 11 := ⟨by decide +kernel, rfl⟩
theorem dX3_open_11 : gw_dc cX3_open 11 (.iconst 0) 1 12 := ⟨by decide +kernel, rfl⟩
theorem dX3_open_12 : gw_dc cX3_open 12 (.putfield 25) 3 15 := ⟨by decide +kernel, rfl⟩
theorem dX3_open_15 : gw_dc cX3_open 15 (.aload_n 0) 1 16 := ⟨by decide +kernel, rfl⟩
theorem dX3_open_16 : gw_dc cX3_open 16 (.iconst (-1)) 1 17 := ⟨by decide +kernel, rfl⟩
theorem dX3_open_17 : gw_dc cX3_open 17 (.putfield 9) 3 20 := ⟨by decide +kernel, rfl⟩
theorem dX3_open_20 : gw_dc cX3_open 20 (.aload_n 0) 1 21 := ⟨by decide +kernel, rfl⟩
theorem dX3_open_21 : gw_dc cX3_open 21 (.invokevirtual 28) 3 24 := ⟨by decide +kernel, rfl⟩
theorem dX3_open_24 : decode cX3_open 24 = .ok (.return_, 1) := by decide +kernel
/-! Reader (3: 1 length, 2 kind, 3 from, 4 to, 5 value, 6 fault, 7 place) -/
def mk3 (σ : Sg) (kd fr to v : Int) : Sg := fun a j => if a = 3 then (if j = 2 then kd else if j = 3 then fr else if j = 4 then to else if j = 5 then v else σ 3 j) else σ a j
theorem mk3_r1 (σ : Sg) (kd fr to v : Int) : mk3 σ kd fr to v 3 1 = σ 3 1 := rfl
theorem mk3_r2 (σ : Sg) (kd fr to v : Int) : mk3 σ kd fr to v 3 2 = kd := rfl
theorem mk3_r3 (σ : Sg) (kd fr to v : Int) : mk3 σ kd fr to v 3 3 = fr := rfl
theorem mk3_r4 (σ : Sg) (kd fr to v : Int) : mk3 σ kd fr to v 3 4 = to := rfl
theorem mk3_r5 (σ : Sg) (kd fr to v : Int) : mk3 σ kd fr to v 3 5 = v := rfl
theorem mk3_r6 (σ : Sg) (kd fr to v : Int) : mk3 σ kd fr to v 3 6 = σ 3 6 := rfl
theorem mk3_r7 (σ : Sg) (kd fr to v : Int) : mk3 σ kd fr to v 3 7 = σ 3 7 := rfl
theorem mk3_w2 (σ : Sg) (kd fr to v x : Int) : su (mk3 σ kd fr to v) 3 2 x = mk3 σ x fr to v := by
  funext a j; unfold su mk3; by_cases h : a = 3 <;> by_cases h2 : j = 2 <;> simp_all
theorem mk3_w3 (σ : Sg) (kd fr to v x : Int) : su (mk3 σ kd fr to v) 3 3 x = mk3 σ kd x to v := by
  funext a j; unfold su mk3; by_cases h : a = 3 <;> by_cases h2 : j = 3 <;> simp_all
theorem mk3_w4 (σ : Sg) (kd fr to v x : Int) : su (mk3 σ kd fr to v) 3 4 x = mk3 σ kd fr x v := by
  funext a j; unfold su mk3; by_cases h : a = 3 <;> by_cases h2 : j = 4 <;> simp_all
theorem mk3_w5 (σ : Sg) (kd fr to v x : Int) : su (mk3 σ kd fr to v) 3 5 x = mk3 σ kd fr to x := by
  funext a j; unfold su mk3; by_cases h : a = 3 <;> by_cases h2 : j = 5 <;> simp_all
theorem mk3_id (σ : Sg) : mk3 σ (σ 3 2) (σ 3 3) (σ 3 4) (σ 3 5) = σ := by
  funext a j; unfold mk3
  by_cases h : a = 3
  · subst h
    by_cases h2 : j = 2
    · simp [h2]
    · by_cases h3 : j = 3
      · simp [h3]
      · by_cases h4 : j = 4
        · simp [h4]
        · by_cases h5 : j = 5
          · simp [h5]
          · simp [h2, h3, h4, h5]
  · simp [h]
theorem tAt_mk3 (σ : Sg) (kd fr to v i : Int) : tAt (mk3 σ kd fr to v) i = tAt σ i := by unfold tAt mk3; rfl
def isL (c : Int) : Int := if 97 ≤ c ∧ c ≤ 122 then 1 else 0
def isD (c : Int) : Int := if 48 ≤ c ∧ c ≤ 57 then 1 else 0
def wsp (len : Int) (f : Int → Int) : Nat → Int → Int
  | 0, p => p
  | n + 1, p => if p < len ∧ (f p = 32 ∨ f p = 10) then wsp len f n (p + 1) else p
def ltp (len : Int) (f : Int → Int) : Nat → Int → Int
  | 0, p => p
  | n + 1, p => if p < len ∧ isL (f p) ≠ 0 then ltp len f n (p + 1) else p
def dgp (len : Int) (f : Int → Int) (fr : Int) : Nat → Int → Int → Int × Int
  | 0, v, p => (v, p)
  | n + 1, v, p => if p < len ∧ isD (f p) ≠ 0 then dgp len f fr n (if wr (p - fr) < 3 then wr (wr (wr (v * 10) + f p) - 48) else v) (p + 1) else (v, p)
theorem wsp_z {len : Int} {f : Int → Int} {p : Int} (h : ¬ (p < len ∧ (f p = 32 ∨ f p = 10))) (n : Nat) : wsp len f n p = p := by cases n; rfl; rw [wsp, if_neg h]
theorem ltp_z {len : Int} {f : Int → Int} {p : Int} (h : ¬ (p < len ∧ isL (f p) ≠ 0)) (n : Nat) : ltp len f n p = p := by cases n; rfl; rw [ltp, if_neg h]
theorem dgp_z {len : Int} {f : Int → Int} {fr v p : Int} (h : ¬ (p < len ∧ isD (f p) ≠ 0)) (n : Nat) : dgp len f fr n v p = (v, p) := by cases n; rfl; rw [dgp, if_neg h]
def wspA (σ : Sg) : Int := wsp (σ 3 1) (tAt σ) (σ 3 1 - σ 3 4).toNat (σ 3 4)
/-- the next token: its kind, from, to, value -/
def tokF (σ : Sg) : Int × Int × Int × Int :=
  if σ 3 1 ≤ wspA σ then (0, wspA σ, wspA σ, σ 3 5)
  else if isL (tAt σ (wspA σ)) ≠ 0 then (1, wspA σ, ltp (σ 3 1) (tAt σ) (σ 3 1 - (wspA σ + 1)).toNat (wspA σ + 1), σ 3 5)
  else if isD (tAt σ (wspA σ)) ≠ 0 then
    (if wr ((dgp (σ 3 1) (tAt σ) (wspA σ) (σ 3 1 - (wspA σ + 1)).toNat (wr (tAt σ (wspA σ) - 48)) (wspA σ + 1)).2 - wspA σ) ≤ 3 then 2 else 4, wspA σ, (dgp (σ 3 1) (tAt σ) (wspA σ) (σ 3 1 - (wspA σ + 1)).toNat (wr (tAt σ (wspA σ) - 48)) (wspA σ + 1)).2, (dgp (σ 3 1) (tAt σ) (wspA σ) (σ 3 1 - (wspA σ + 1)).toNat (wr (tAt σ (wspA σ) - 48)) (wspA σ + 1)).1)
  else (if tAt σ (wspA σ) = 59 then 3 else 4, wspA σ, wspA σ + 1, σ 3 5)
def advF (σ : Sg) : Sg := mk3 σ (tokF σ).1 (tokF σ).2.1 (tokF σ).2.2.1 (tokF σ).2.2.2
def rOpen (σ : Sg) (n : Int) : Sg := advF (su (su (su (su σ 3 1 n) 3 4 0) 3 6 0) 3 7 (-1))
def rGo (σ : Sg) : Int := if σ 3 6 = 0 ∧ σ 3 2 ≠ 0 then 1 else 0
def rFail (σ : Sg) (w : Int) : Sg := if σ 3 6 = 0 then su (su σ 3 6 (if σ 3 2 = 4 then 1 else w)) 3 7 (σ 3 3) else σ
def rSpS (σ : Sg) (j : Nat) (i : Nat) (b : Int) : Int := if b = 0 then 0 else if tAt σ (wr (σ 3 3 + (i : Nat))) = chr j (i : Nat) then 1 else 0
def rSp0 (σ : Sg) (j : Nat) : Int := if σ 3 2 = 1 ∧ wr (σ 3 4 - σ 3 3) = ((gw_wd j).length : Nat) then 1 else 0
def rSp (σ : Sg) (j : Nat) : Int := itr (gw_wd j).length (rSpS σ j) (rSp0 σ j)
theorem rSp0_b (σ : Sg) (j : Nat) : rSp0 σ j = 0 ∨ rSp0 σ j = 1 := by unfold rSp0; split; exact Or.inr rfl; exact Or.inl rfl
theorem rSpS_0 (σ : Sg) (j : Nat) (b : Int) : ∀ k i, itr k (rSpS σ j) b = 0 → itr (k + i) (rSpS σ j) b = 0 := by
  intro k i h
  induction i with
  | zero => exact h
  | succ i ih => rw [← Nat.add_assoc, itr_s, rSpS, if_pos ih]
theorem rSpS_b (σ : Sg) (j : Nat) (b : Int) (hb : b = 0 ∨ b = 1) : ∀ k, itr k (rSpS σ j) b = 0 ∨ itr k (rSpS σ j) b = 1 := by
  intro k
  induction k with
  | zero => exact hb
  | succ k ih => rw [itr_s, rSpS]; split; exact Or.inl rfl; split; exact Or.inr rfl; exact Or.inl rfl
def rTak (σ : Sg) (j : Nat) : Sg := if rSp σ j = 0 then σ else advF σ
def rExp (σ : Sg) (j : Nat) : Sg := if rSp σ j = 0 then rFail σ 2 else advF σ
/-- number: the answer, the world -/
def rNum (σ : Sg) (lo hi : Int) : Int × Sg := if σ 3 2 ≠ 2 then (lo, rFail σ 2) else if σ 3 5 < lo ∨ hi < σ 3 5 then (lo, rFail σ 3) else (σ 3 5, advF σ)
def rEnd (σ : Sg) : Sg := if σ 3 2 = 3 then advF σ else rFail σ 2
set_option maxRecDepth 4000 in
theorem s_X3_isLetter (ad : Nat → Nat) (σ : Sg) (c : Int) : gw_Sp yX3_isLetter cX3_isLetter 1 (some .boolean) 1 0 0 [vI c] (gw_M0 ad) σ (gw_D (some (vI (isL c))) (gw_M0 ad) (σ)) gw_no := by
  refine gw_Sp.of [some (vI c)] (by decide +kernel) rfl (Nat.le_of_ble_eq_true rfl) ?_
  intro X G fx het hnm
  refine g_iload_n fx dX3_isLetter_0 rfl ?_
  refine g_bipush fx dX3_isLetter_1 (by decide) ?_
  refine g_icmp_lt (tgt := 16) fx dX3_isLetter_3 (by decide) (fun h3 => ?_) (fun h3 => ?_)
  · refine g_iconst fx dX3_isLetter_16 (by unfold okI; omega) ?_
    exact g_zret fx rfl dX3_isLetter_17 (by first | exact Or.inl rfl | exact Or.inr rfl | omega) (by decide) (by decide) (gw_le.rf _) ⟨by rw [isL]; (repeat first | rw [if_pos (by omega)] | rw [if_neg (by omega)]) <;> rfl, rfl, rfl⟩
  · refine g_iload_n fx dX3_isLetter_6 rfl ?_
    refine g_bipush fx dX3_isLetter_7 (by decide) ?_
    refine g_icmp_gt (tgt := 16) fx dX3_isLetter_9 (by decide) (fun h9 => ?_) (fun h9 => ?_)
    · refine g_iconst fx dX3_isLetter_16 (by unfold okI; omega) ?_
      exact g_zret fx rfl dX3_isLetter_17 (by first | exact Or.inl rfl | exact Or.inr rfl | omega) (by decide) (by decide) (gw_le.rf _) ⟨by rw [isL]; (repeat first | rw [if_pos (by omega)] | rw [if_neg (by omega)]) <;> rfl, rfl, rfl⟩
    · refine g_iconst fx dX3_isLetter_12 (by unfold okI; omega) ?_
      refine g_goto (tgt := 17) fx dX3_isLetter_13 (by decide) ?_
      exact g_zret fx rfl dX3_isLetter_17 (by first | exact Or.inl rfl | exact Or.inr rfl | omega) (by decide) (by decide) (gw_le.rf _) ⟨by rw [isL]; (repeat first | rw [if_pos (by omega)] | rw [if_neg (by omega)]) <;> rfl, rfl, rfl⟩
set_option maxRecDepth 4000 in
theorem s_X3_isDigit (ad : Nat → Nat) (σ : Sg) (c : Int) : gw_Sp yX3_isDigit cX3_isDigit 1 (some .boolean) 1 0 0 [vI c] (gw_M0 ad) σ (gw_D (some (vI (isD c))) (gw_M0 ad) (σ)) gw_no := by
  refine gw_Sp.of [some (vI c)] (by decide +kernel) rfl (Nat.le_of_ble_eq_true rfl) ?_
  intro X G fx het hnm
  refine g_iload_n fx dX3_isDigit_0 rfl ?_
  refine g_bipush fx dX3_isDigit_1 (by decide) ?_
  refine g_icmp_lt (tgt := 16) fx dX3_isDigit_3 (by decide) (fun h3 => ?_) (fun h3 => ?_)
  · refine g_iconst fx dX3_isDigit_16 (by unfold okI; omega) ?_
    exact g_zret fx rfl dX3_isDigit_17 (by first | exact Or.inl rfl | exact Or.inr rfl | omega) (by decide) (by decide) (gw_le.rf _) ⟨by rw [isD]; (repeat first | rw [if_pos (by omega)] | rw [if_neg (by omega)]) <;> rfl, rfl, rfl⟩
  · refine g_iload_n fx dX3_isDigit_6 rfl ?_
    refine g_bipush fx dX3_isDigit_7 (by decide) ?_
    refine g_icmp_gt (tgt := 16) fx dX3_isDigit_9 (by decide) (fun h9 => ?_) (fun h9 => ?_)
    · refine g_iconst fx dX3_isDigit_16 (by unfold okI; omega) ?_
      exact g_zret fx rfl dX3_isDigit_17 (by first | exact Or.inl rfl | exact Or.inr rfl | omega) (by decide) (by decide) (gw_le.rf _) ⟨by rw [isD]; (repeat first | rw [if_pos (by omega)] | rw [if_neg (by omega)]) <;> rfl, rfl, rfl⟩
    · refine g_iconst fx dX3_isDigit_12 (by unfold okI; omega) ?_
      refine g_goto (tgt := 17) fx dX3_isDigit_13 (by decide) ?_
      exact g_zret fx rfl dX3_isDigit_17 (by first | exact Or.inl rfl | exact Or.inr rfl | omega) (by decide) (by decide) (gw_le.rf _) ⟨by rw [isD]; (repeat first | rw [if_pos (by omega)] | rw [if_neg (by omega)]) <;> rfl, rfl, rfl⟩
set_option maxRecDepth 4000 in
theorem s_X3_advance (ad : Nat → Nat) (σ : Sg)  : gw_Sp yX3_advance cX3_advance 2 none 2 0 0 [vR (some 3)] (gw_M0 ad) σ (gw_D none (gw_M0 ad) (advF σ)) gw_no := by
  refine gw_Sp.of [some (vR (some 3)), none] (by decide +kernel) rfl (Nat.le_of_ble_eq_true rfl) ?_
  intro X G fx het hnm
  refine g_okS (fun hok => ?_)
  have hq1 := gw_okO 1 hok o_3 (by decide)
  have hq4 := gw_okO 4 hok o_3 (by decide)
  unfold okI at hq1 hq4
  have loop0 : ∀ k : Nat, k ≤ (σ 3 1 - σ 3 4).toNat → wspA σ = wsp (σ 3 1) (tAt σ) ((σ 3 1 - σ 3 4).toNat - k) (σ 3 4 + (k : Nat)) → gw_W X (yX3_advance.cls, cX3_advance, 2, none, 2, 0, 0) G (gw_Z X G (gw_M0 ad) σ (gw_D none (gw_M0 ad) (advF σ)) gw_no 0 0) 0 0 (gw_M0 ad) (mk3 σ (σ 3 2) (σ 3 3) (σ 3 4 + (k : Nat)) (σ 3 5)) 0 [some (vR (some 3)), none] [] := by
    refine up_ind _ ((σ 3 1 - σ 3 4).toNat) (fun k hk ih => ?_)
    intro he0
    refine g_aload_n fx dX3_advance_0 rfl ?_
    refine g_geti fx dX3_advance_1 fk_RX3_22 (by decide) o_3 ?_
    rw [mk3_r4]
    refine g_aload_n fx dX3_advance_4 rfl ?_
    refine g_geti fx dX3_advance_5 fk_RX3_19 (by decide) o_3 ?_
    rw [mk3_r1]
    refine g_icmp_ge (tgt := 56) fx dX3_advance_8 (by decide) (fun h8 => ?_) (fun h8 => ?_)
    · have hp : wspA σ = σ 3 4 + (k : Nat) := by rw [he0, wsp_z (by omega)]
      generalize hpe : σ 3 4 + (k : Nat) = p at *
      refine g_aload_n fx dX3_advance_56 rfl ?_
      refine g_aload_n fx dX3_advance_57 rfl ?_
      refine g_geti fx dX3_advance_58 fk_RX3_22 (by decide) o_3 ?_
      rw [mk3_r4]
      refine g_puti fx dX3_advance_61 fk_RX3_34 o_3 ?_
      rw [mk3_w3]
      refine g_aload_n fx dX3_advance_64 rfl ?_
      refine g_geti fx dX3_advance_65 fk_RX3_22 (by decide) o_3 ?_
      rw [mk3_r4]
      refine g_aload_n fx dX3_advance_68 rfl ?_
      refine g_geti fx dX3_advance_69 fk_RX3_19 (by decide) o_3 ?_
      rw [mk3_r1]
      refine g_icmp_lt (tgt := 81) fx dX3_advance_72 (by decide) (fun h72 => ?_) (fun h72 => ?_)
      · refine g_aload_n fx dX3_advance_81 rfl ?_
        refine g_getr fx dX3_advance_82 fk_RX3_15 o_3 rf_3_0 ?_
        refine g_aload_n fx dX3_advance_85 rfl ?_
        refine g_geti fx dX3_advance_86 fk_RX3_22 (by decide) o_3 ?_
        rw [mk3_r4]
        refine g_callVD fx dX3_advance_89 mv_RX3_42 my_X7_at (s_X7_at ad _ _) o_1 rfl rfl rfl (Nat.le_of_ble_eq_true rfl) (by decide) (by decide) ?_
        rw [tAt_mk3]
        refine g_istore_n fx dX3_advance_92 (by decide) rfl rfl ?_
        refine g_aload_n fx dX3_advance_93 rfl ?_
        refine g_dup fx dX3_advance_94 rfl ?_
        refine g_geti fx dX3_advance_95 fk_RX3_22 (by decide) o_3 ?_
        rw [mk3_r4]
        refine g_iconst fx dX3_advance_98 (by unfold okI; omega) ?_
        refine g_iadd fx dX3_advance_99 ?_
        refine g_puti fx dX3_advance_100 fk_RX3_22 o_3 ?_
        rw [mk3_w4]
        refine g_iload_n fx dX3_advance_103 rfl ?_
        refine g_callSD fx dX3_advance_104 ms_RX3_63 my_X3_isLetter (s_X3_isLetter ad _ _) rfl rfl (Nat.le_of_ble_eq_true rfl) (by decide) (by decide) ?_
        refine g_if_eq (tgt := 156) fx dX3_advance_107 (by decide) (fun h107 => ?_) (fun h107 => ?_)
        · refine g_iload_n fx dX3_advance_156 rfl ?_
          refine g_callSD fx dX3_advance_157 ms_RX3_67 my_X3_isDigit (s_X3_isDigit ad _ _) rfl rfl (Nat.le_of_ble_eq_true rfl) (by decide) (by decide) ?_
          refine g_if_eq (tgt := 283) fx dX3_advance_160 (by decide) (fun h160 => ?_) (fun h160 => ?_)
          · refine g_aload_n fx dX3_advance_283 rfl ?_
            refine g_iload_n fx dX3_advance_284 rfl ?_
            refine g_bipush fx dX3_advance_285 (by decide) ?_
            refine g_icmp_ne (tgt := 294) fx dX3_advance_287 (by decide) (fun h287 => ?_) (fun h287 => ?_)
            · refine g_iconst fx dX3_advance_294 (by unfold okI; omega) ?_
              refine g_puti fx dX3_advance_295 fk_RX3_31 o_3 ?_
              rw [mk3_w2]
              exact g_vret fx rfl dX3_advance_298 (by decide) (by decide) (gw_le.rf _) ⟨rfl, rfl, by first | (exfalso; omega) | (rw [advF, tokF, hp]; (repeat first | rw [if_pos (by omega)] | rw [if_neg (by omega)]) <;> first | rfl | (rw [wr_id (by unfold okI; omega)] <;> rfl) | (rw [he115, ltp_z (by omega)]) | (rw [he171, dgp_z (by omega)]; dsimp only; (repeat first | rw [if_pos (by omega)] | rw [if_neg (by omega)])))⟩
            · refine g_iconst fx dX3_advance_290 (by unfold okI; omega) ?_
              refine g_goto (tgt := 295) fx dX3_advance_291 (by decide) ?_
              refine g_puti fx dX3_advance_295 fk_RX3_31 o_3 ?_
              rw [mk3_w2]
              exact g_vret fx rfl dX3_advance_298 (by decide) (by decide) (gw_le.rf _) ⟨rfl, rfl, by first | (exfalso; omega) | (rw [advF, tokF, hp]; (repeat first | rw [if_pos (by omega)] | rw [if_neg (by omega)]) <;> first | rfl | (rw [wr_id (by unfold okI; omega)] <;> rfl) | (rw [he115, ltp_z (by omega)]) | (rw [he171, dgp_z (by omega)]; dsimp only; (repeat first | rw [if_pos (by omega)] | rw [if_neg (by omega)])))⟩
          · refine g_aload_n fx dX3_advance_163 rfl ?_
            refine g_iload_n fx dX3_advance_164 rfl ?_
            refine g_bipush fx dX3_advance_165 (by decide) ?_
            refine g_isub fx dX3_advance_167 ?_
            refine g_puti fx dX3_advance_168 fk_RX3_60 o_3 ?_
            rw [mk3_w5]
            have loop171 : ∀ i : Nat, i ≤ (σ 3 1 - (p + 1)).toNat → ∀ v : Int, dgp (σ 3 1) (tAt σ) p (σ 3 1 - (p + 1)).toNat (wr (tAt σ p - 48)) (p + 1) = dgp (σ 3 1) (tAt σ) p ((σ 3 1 - (p + 1)).toNat - i) v (p + 1 + (i : Nat)) → gw_W X (yX3_advance.cls, cX3_advance, 2, none, 2, 0, 0) G (gw_Z X G (gw_M0 ad) σ (gw_D none (gw_M0 ad) (advF σ)) gw_no 0 0) 0 0 (gw_M0 ad) (mk3 σ (σ 3 2) p (p + 1 + (i : Nat)) v) 171 [some (vR (some 3)), some (vI (tAt σ p))] [] := by
              refine up_ind _ ((σ 3 1 - (p + 1)).toNat) (fun i hi ihi => ?_)
              intro v he171
              refine g_aload_n fx dX3_advance_171 rfl ?_
              refine g_geti fx dX3_advance_172 fk_RX3_22 (by decide) o_3 ?_
              rw [mk3_r4]
              refine g_aload_n fx dX3_advance_175 rfl ?_
              refine g_geti fx dX3_advance_176 fk_RX3_19 (by decide) o_3 ?_
              rw [mk3_r1]
              refine g_icmp_ge (tgt := 258) fx dX3_advance_179 (by decide) (fun h179 => ?_) (fun h179 => ?_)
              · refine g_aload_n fx dX3_advance_258 rfl ?_
                refine g_aload_n fx dX3_advance_259 rfl ?_
                refine g_geti fx dX3_advance_260 fk_RX3_22 (by decide) o_3 ?_
                rw [mk3_r4]
                refine g_aload_n fx dX3_advance_263 rfl ?_
                refine g_geti fx dX3_advance_264 fk_RX3_34 (by decide) o_3 ?_
                rw [mk3_r3]
                refine g_isub fx dX3_advance_267 ?_
                refine g_iconst fx dX3_advance_268 (by unfold okI; omega) ?_
                refine g_icmp_gt (tgt := 276) fx dX3_advance_269 (by decide) (fun h269 => ?_) (fun h269 => ?_)
                · refine g_iconst fx dX3_advance_276 (by unfold okI; omega) ?_
                  refine g_puti fx dX3_advance_277 fk_RX3_31 o_3 ?_
                  rw [mk3_w2]
                  refine g_goto (tgt := 298) fx dX3_advance_280 (by decide) ?_
                  exact g_vret fx rfl dX3_advance_298 (by decide) (by decide) (gw_le.rf _) ⟨rfl, rfl, by first | (exfalso; omega) | (rw [advF, tokF, hp]; (repeat first | rw [if_pos (by omega)] | rw [if_neg (by omega)]) <;> first | rfl | (rw [wr_id (by unfold okI; omega)] <;> rfl) | (rw [he115, ltp_z (by omega)]) | (rw [he171, dgp_z (by omega)]; dsimp only; (repeat first | rw [if_pos (by omega)] | rw [if_neg (by omega)])))⟩
                · refine g_iconst fx dX3_advance_272 (by unfold okI; omega) ?_
                  refine g_goto (tgt := 277) fx dX3_advance_273 (by decide) ?_
                  refine g_puti fx dX3_advance_277 fk_RX3_31 o_3 ?_
                  rw [mk3_w2]
                  refine g_goto (tgt := 298) fx dX3_advance_280 (by decide) ?_
                  exact g_vret fx rfl dX3_advance_298 (by decide) (by decide) (gw_le.rf _) ⟨rfl, rfl, by first | (exfalso; omega) | (rw [advF, tokF, hp]; (repeat first | rw [if_pos (by omega)] | rw [if_neg (by omega)]) <;> first | rfl | (rw [wr_id (by unfold okI; omega)] <;> rfl) | (rw [he115, ltp_z (by omega)]) | (rw [he171, dgp_z (by omega)]; dsimp only; (repeat first | rw [if_pos (by omega)] | rw [if_neg (by omega)])))⟩
              · refine g_aload_n fx dX3_advance_182 rfl ?_
                refine g_getr fx dX3_advance_183 fk_RX3_15 o_3 rf_3_0 ?_
                refine g_aload_n fx dX3_advance_186 rfl ?_
                refine g_geti fx dX3_advance_187 fk_RX3_22 (by decide) o_3 ?_
                rw [mk3_r4]
                refine g_callVD fx dX3_advance_190 mv_RX3_42 my_X7_at (s_X7_at ad _ _) o_1 rfl rfl rfl (Nat.le_of_ble_eq_true rfl) (by decide) (by decide) ?_
                rw [tAt_mk3]
                refine g_callSD fx dX3_advance_193 ms_RX3_67 my_X3_isDigit (s_X3_isDigit ad _ _) rfl rfl (Nat.le_of_ble_eq_true rfl) (by decide) (by decide) ?_
                refine g_if_eq (tgt := 258) fx dX3_advance_196 (by decide) (fun h196 => ?_) (fun h196 => ?_)
                · refine g_aload_n fx dX3_advance_258 rfl ?_
                  refine g_aload_n fx dX3_advance_259 rfl ?_
                  refine g_geti fx dX3_advance_260 fk_RX3_22 (by decide) o_3 ?_
                  rw [mk3_r4]
                  refine g_aload_n fx dX3_advance_263 rfl ?_
                  refine g_geti fx dX3_advance_264 fk_RX3_34 (by decide) o_3 ?_
                  rw [mk3_r3]
                  refine g_isub fx dX3_advance_267 ?_
                  refine g_iconst fx dX3_advance_268 (by unfold okI; omega) ?_
                  refine g_icmp_gt (tgt := 276) fx dX3_advance_269 (by decide) (fun h269 => ?_) (fun h269 => ?_)
                  · refine g_iconst fx dX3_advance_276 (by unfold okI; omega) ?_
                    refine g_puti fx dX3_advance_277 fk_RX3_31 o_3 ?_
                    rw [mk3_w2]
                    refine g_goto (tgt := 298) fx dX3_advance_280 (by decide) ?_
                    exact g_vret fx rfl dX3_advance_298 (by decide) (by decide) (gw_le.rf _) ⟨rfl, rfl, by first | (exfalso; omega) | (rw [advF, tokF, hp]; (repeat first | rw [if_pos (by omega)] | rw [if_neg (by omega)]) <;> first | rfl | (rw [wr_id (by unfold okI; omega)] <;> rfl) | (rw [he115, ltp_z (by omega)]) | (rw [he171, dgp_z (by omega)]; dsimp only; (repeat first | rw [if_pos (by omega)] | rw [if_neg (by omega)])))⟩
                  · refine g_iconst fx dX3_advance_272 (by unfold okI; omega) ?_
                    refine g_goto (tgt := 277) fx dX3_advance_273 (by decide) ?_
                    refine g_puti fx dX3_advance_277 fk_RX3_31 o_3 ?_
                    rw [mk3_w2]
                    refine g_goto (tgt := 298) fx dX3_advance_280 (by decide) ?_
                    exact g_vret fx rfl dX3_advance_298 (by decide) (by decide) (gw_le.rf _) ⟨rfl, rfl, by first | (exfalso; omega) | (rw [advF, tokF, hp]; (repeat first | rw [if_pos (by omega)] | rw [if_neg (by omega)]) <;> first | rfl | (rw [wr_id (by unfold okI; omega)] <;> rfl) | (rw [he115, ltp_z (by omega)]) | (rw [he171, dgp_z (by omega)]; dsimp only; (repeat first | rw [if_pos (by omega)] | rw [if_neg (by omega)])))⟩
                · refine g_aload_n fx dX3_advance_199 rfl ?_
                  refine g_aload_n fx dX3_advance_200 rfl ?_
                  refine g_geti fx dX3_advance_201 fk_RX3_22 (by decide) o_3 ?_
                  rw [mk3_r4]
                  refine g_aload_n fx dX3_advance_204 rfl ?_
                  refine g_geti fx dX3_advance_205 fk_RX3_34 (by decide) o_3 ?_
                  rw [mk3_r3]
                  refine g_isub fx dX3_advance_208 ?_
                  refine g_iconst fx dX3_advance_209 (by unfold okI; omega) ?_
                  refine g_icmp_ge (tgt := 238) fx dX3_advance_210 (by decide) (fun h210 => ?_) (fun h210 => ?_)
                  · refine g_aload_n fx dX3_advance_238 rfl ?_
                    refine g_geti fx dX3_advance_239 fk_RX3_60 (by decide) o_3 ?_
                    rw [mk3_r5]
                    refine g_puti fx dX3_advance_242 fk_RX3_60 o_3 ?_
                    rw [mk3_w5]
                    refine g_aload_n fx dX3_advance_245 rfl ?_
                    refine g_dup fx dX3_advance_246 rfl ?_
                    refine g_geti fx dX3_advance_247 fk_RX3_22 (by decide) o_3 ?_
                    rw [mk3_r4]
                    refine g_iconst fx dX3_advance_250 (by unfold okI; omega) ?_
                    refine g_iadd fx dX3_advance_251 ?_
                    refine g_puti fx dX3_advance_252 fk_RX3_22 o_3 ?_
                    rw [mk3_w4]
                    refine g_goto (tgt := 171) fx dX3_advance_255 (by decide) ?_
                    exact gw_cg (by rw [wr_id (by unfold okI; omega), show (p + 1 + (i : Nat) + 1 : Int) = p + 1 + ((i + 1 : Nat) : Int) by omega]) rfl (ihi (by omega) _ (by rw [he171, show (σ 3 1 - (p + 1)).toNat - i = (σ 3 1 - (p + 1)).toNat - (i + 1) + 1 by omega, dgp, if_pos ⟨by omega, h196⟩]; first | (exfalso; omega) | (first | rw [if_pos (by omega)] | rw [if_neg (by omega)]) <;> rw [show (p + 1 + (i : Nat) + 1 : Int) = p + 1 + ((i + 1 : Nat) : Int) by omega]))
                  · refine g_aload_n fx dX3_advance_213 rfl ?_
                    refine g_geti fx dX3_advance_214 fk_RX3_60 (by decide) o_3 ?_
                    rw [mk3_r5]
                    refine g_bipush fx dX3_advance_217 (by decide) ?_
                    refine g_imul fx dX3_advance_219 ?_
                    refine g_aload_n fx dX3_advance_220 rfl ?_
                    refine g_getr fx dX3_advance_221 fk_RX3_15 o_3 rf_3_0 ?_
                    refine g_aload_n fx dX3_advance_224 rfl ?_
                    refine g_geti fx dX3_advance_225 fk_RX3_22 (by decide) o_3 ?_
                    rw [mk3_r4]
                    refine g_callVD fx dX3_advance_228 mv_RX3_42 my_X7_at (s_X7_at ad _ _) o_1 rfl rfl rfl (Nat.le_of_ble_eq_true rfl) (by decide) (by decide) ?_
                    rw [tAt_mk3]
                    refine g_iadd fx dX3_advance_231 ?_
                    refine g_bipush fx dX3_advance_232 (by decide) ?_
                    refine g_isub fx dX3_advance_234 ?_
                    refine g_goto (tgt := 242) fx dX3_advance_235 (by decide) ?_
                    refine g_puti fx dX3_advance_242 fk_RX3_60 o_3 ?_
                    rw [mk3_w5]
                    refine g_aload_n fx dX3_advance_245 rfl ?_
                    refine g_dup fx dX3_advance_246 rfl ?_
                    refine g_geti fx dX3_advance_247 fk_RX3_22 (by decide) o_3 ?_
                    rw [mk3_r4]
                    refine g_iconst fx dX3_advance_250 (by unfold okI; omega) ?_
                    refine g_iadd fx dX3_advance_251 ?_
                    refine g_puti fx dX3_advance_252 fk_RX3_22 o_3 ?_
                    rw [mk3_w4]
                    refine g_goto (tgt := 171) fx dX3_advance_255 (by decide) ?_
                    exact gw_cg (by rw [wr_id (by unfold okI; omega), show (p + 1 + (i : Nat) + 1 : Int) = p + 1 + ((i + 1 : Nat) : Int) by omega]) rfl (ihi (by omega) _ (by rw [he171, show (σ 3 1 - (p + 1)).toNat - i = (σ 3 1 - (p + 1)).toNat - (i + 1) + 1 by omega, dgp, if_pos ⟨by omega, h196⟩]; first | (exfalso; omega) | (first | rw [if_pos (by omega)] | rw [if_neg (by omega)]) <;> rw [show (p + 1 + (i : Nat) + 1 : Int) = p + 1 + ((i + 1 : Nat) : Int) by omega]))
            exact gw_cg (by rw [wr_id (by unfold okI; omega), show (p + 1 + ((0 : Nat) : Int)) = p + 1 by omega]) rfl (loop171 0 (Nat.zero_le _) _ (by rw [show (p + 1 + ((0 : Nat) : Int)) = p + 1 by omega]; rfl))
        · refine g_aload_n fx dX3_advance_110 rfl ?_
          refine g_iconst fx dX3_advance_111 (by unfold okI; omega) ?_
          refine g_puti fx dX3_advance_112 fk_RX3_31 o_3 ?_
          rw [mk3_w2]
          have loop115 : ∀ i : Nat, i ≤ (σ 3 1 - (p + 1)).toNat → ltp (σ 3 1) (tAt σ) (σ 3 1 - (p + 1)).toNat (p + 1) = ltp (σ 3 1) (tAt σ) ((σ 3 1 - (p + 1)).toNat - i) (p + 1 + (i : Nat)) → gw_W X (yX3_advance.cls, cX3_advance, 2, none, 2, 0, 0) G (gw_Z X G (gw_M0 ad) σ (gw_D none (gw_M0 ad) (advF σ)) gw_no 0 0) 0 0 (gw_M0 ad) (mk3 σ 1 p (p + 1 + (i : Nat)) (σ 3 5)) 115 [some (vR (some 3)), some (vI (tAt σ p))] [] := by
            refine up_ind _ ((σ 3 1 - (p + 1)).toNat) (fun i hi ihi => ?_)
            intro he115
            refine g_aload_n fx dX3_advance_115 rfl ?_
            refine g_geti fx dX3_advance_116 fk_RX3_22 (by decide) o_3 ?_
            rw [mk3_r4]
            refine g_aload_n fx dX3_advance_119 rfl ?_
            refine g_geti fx dX3_advance_120 fk_RX3_19 (by decide) o_3 ?_
            rw [mk3_r1]
            refine g_icmp_ge (tgt := 298) fx dX3_advance_123 (by decide) (fun h123 => ?_) (fun h123 => ?_)
            · exact g_vret fx rfl dX3_advance_298 (by decide) (by decide) (gw_le.rf _) ⟨rfl, rfl, by first | (exfalso; omega) | (rw [advF, tokF, hp]; (repeat first | rw [if_pos (by omega)] | rw [if_neg (by omega)]) <;> first | rfl | (rw [wr_id (by unfold okI; omega)] <;> rfl) | (rw [he115, ltp_z (by omega)]) | (rw [he171, dgp_z (by omega)]; dsimp only; (repeat first | rw [if_pos (by omega)] | rw [if_neg (by omega)])))⟩
            · refine g_aload_n fx dX3_advance_126 rfl ?_
              refine g_getr fx dX3_advance_127 fk_RX3_15 o_3 rf_3_0 ?_
              refine g_aload_n fx dX3_advance_130 rfl ?_
              refine g_geti fx dX3_advance_131 fk_RX3_22 (by decide) o_3 ?_
              rw [mk3_r4]
              refine g_callVD fx dX3_advance_134 mv_RX3_42 my_X7_at (s_X7_at ad _ _) o_1 rfl rfl rfl (Nat.le_of_ble_eq_true rfl) (by decide) (by decide) ?_
              rw [tAt_mk3]
              refine g_callSD fx dX3_advance_137 ms_RX3_63 my_X3_isLetter (s_X3_isLetter ad _ _) rfl rfl (Nat.le_of_ble_eq_true rfl) (by decide) (by decide) ?_
              refine g_if_eq (tgt := 298) fx dX3_advance_140 (by decide) (fun h140 => ?_) (fun h140 => ?_)
              · exact g_vret fx rfl dX3_advance_298 (by decide) (by decide) (gw_le.rf _) ⟨rfl, rfl, by first | (exfalso; omega) | (rw [advF, tokF, hp]; (repeat first | rw [if_pos (by omega)] | rw [if_neg (by omega)]) <;> first | rfl | (rw [wr_id (by unfold okI; omega)] <;> rfl) | (rw [he115, ltp_z (by omega)]) | (rw [he171, dgp_z (by omega)]; dsimp only; (repeat first | rw [if_pos (by omega)] | rw [if_neg (by omega)])))⟩
              · refine g_aload_n fx dX3_advance_143 rfl ?_
                refine g_dup fx dX3_advance_144 rfl ?_
                refine g_geti fx dX3_advance_145 fk_RX3_22 (by decide) o_3 ?_
                rw [mk3_r4]
                refine g_iconst fx dX3_advance_148 (by unfold okI; omega) ?_
                refine g_iadd fx dX3_advance_149 ?_
                refine g_puti fx dX3_advance_150 fk_RX3_22 o_3 ?_
                rw [mk3_w4]
                refine g_goto (tgt := 115) fx dX3_advance_153 (by decide) ?_
                exact gw_cg (by rw [wr_id (by unfold okI; omega), show (p + 1 + (i : Nat) + 1 : Int) = p + 1 + ((i + 1 : Nat) : Int) by omega]) rfl (ihi (by omega) (by rw [he115, show (σ 3 1 - (p + 1)).toNat - i = (σ 3 1 - (p + 1)).toNat - (i + 1) + 1 by omega, ltp, if_pos ⟨by omega, h140⟩, show (p + 1 + (i : Nat) + 1 : Int) = p + 1 + ((i + 1 : Nat) : Int) by omega]))
          exact gw_cg (by rw [wr_id (by unfold okI; omega), show (p + 1 + ((0 : Nat) : Int)) = p + 1 by omega]) rfl (loop115 0 (Nat.zero_le _) (by rw [show (p + 1 + ((0 : Nat) : Int)) = p + 1 by omega]; rfl))
      · refine g_aload_n fx dX3_advance_75 rfl ?_
        refine g_iconst fx dX3_advance_76 (by unfold okI; omega) ?_
        refine g_puti fx dX3_advance_77 fk_RX3_31 o_3 ?_
        rw [mk3_w2]
        exact g_vret fx rfl dX3_advance_80 (by decide) (by decide) (gw_le.rf _) ⟨rfl, rfl, by first | (exfalso; omega) | (rw [advF, tokF, hp]; (repeat first | rw [if_pos (by omega)] | rw [if_neg (by omega)]) <;> first | rfl | (rw [wr_id (by unfold okI; omega)] <;> rfl) | (rw [he115, ltp_z (by omega)]) | (rw [he171, dgp_z (by omega)]; dsimp only; (repeat first | rw [if_pos (by omega)] | rw [if_neg (by omega)])))⟩
    · refine g_aload_n fx dX3_advance_11 rfl ?_
      refine g_getr fx dX3_advance_12 fk_RX3_15 o_3 rf_3_0 ?_
      refine g_aload_n fx dX3_advance_15 rfl ?_
      refine g_geti fx dX3_advance_16 fk_RX3_22 (by decide) o_3 ?_
      rw [mk3_r4]
      refine g_callVD fx dX3_advance_19 mv_RX3_42 my_X7_at (s_X7_at ad _ _) o_1 rfl rfl rfl (Nat.le_of_ble_eq_true rfl) (by decide) (by decide) ?_
      rw [tAt_mk3]
      refine g_bipush fx dX3_advance_22 (by decide) ?_
      refine g_icmp_eq (tgt := 43) fx dX3_advance_24 (by decide) (fun h24 => ?_) (fun h24 => ?_)
      · refine g_aload_n fx dX3_advance_43 rfl ?_
        refine g_dup fx dX3_advance_44 rfl ?_
        refine g_geti fx dX3_advance_45 fk_RX3_22 (by decide) o_3 ?_
        rw [mk3_r4]
        refine g_iconst fx dX3_advance_48 (by unfold okI; omega) ?_
        refine g_iadd fx dX3_advance_49 ?_
        refine g_puti fx dX3_advance_50 fk_RX3_22 o_3 ?_
        rw [mk3_w4]
        refine g_goto (tgt := 0) fx dX3_advance_53 (by decide) ?_
        exact gw_cg (by rw [wr_id (by unfold okI; omega), show (σ 3 4 + (k : Nat) + 1 : Int) = σ 3 4 + ((k + 1 : Nat) : Int) by omega]) rfl (ih (by omega) (by rw [he0, show (σ 3 1 - σ 3 4).toNat - k = (σ 3 1 - σ 3 4).toNat - (k + 1) + 1 by omega, wsp, if_pos (by omega), show (σ 3 4 + (k : Nat) + 1 : Int) = σ 3 4 + ((k + 1 : Nat) : Int) by omega]))
      · refine g_aload_n fx dX3_advance_27 rfl ?_
        refine g_getr fx dX3_advance_28 fk_RX3_15 o_3 rf_3_0 ?_
        refine g_aload_n fx dX3_advance_31 rfl ?_
        refine g_geti fx dX3_advance_32 fk_RX3_22 (by decide) o_3 ?_
        rw [mk3_r4]
        refine g_callVD fx dX3_advance_35 mv_RX3_42 my_X7_at (s_X7_at ad _ _) o_1 rfl rfl rfl (Nat.le_of_ble_eq_true rfl) (by decide) (by decide) ?_
        rw [tAt_mk3]
        refine g_bipush fx dX3_advance_38 (by decide) ?_
        refine g_icmp_ne (tgt := 56) fx dX3_advance_40 (by decide) (fun h40 => ?_) (fun h40 => ?_)
        · have hp : wspA σ = σ 3 4 + (k : Nat) := by rw [he0, wsp_z (by omega)]
          generalize hpe : σ 3 4 + (k : Nat) = p at *
          refine g_aload_n fx dX3_advance_56 rfl ?_
          refine g_aload_n fx dX3_advance_57 rfl ?_
          refine g_geti fx dX3_advance_58 fk_RX3_22 (by decide) o_3 ?_
          rw [mk3_r4]
          refine g_puti fx dX3_advance_61 fk_RX3_34 o_3 ?_
          rw [mk3_w3]
          refine g_aload_n fx dX3_advance_64 rfl ?_
          refine g_geti fx dX3_advance_65 fk_RX3_22 (by decide) o_3 ?_
          rw [mk3_r4]
          refine g_aload_n fx dX3_advance_68 rfl ?_
          refine g_geti fx dX3_advance_69 fk_RX3_19 (by decide) o_3 ?_
          rw [mk3_r1]
          refine g_icmp_lt (tgt := 81) fx dX3_advance_72 (by decide) (fun h72 => ?_) (fun h72 => ?_)
          · refine g_aload_n fx dX3_advance_81 rfl ?_
            refine g_getr fx dX3_advance_82 fk_RX3_15 o_3 rf_3_0 ?_
            refine g_aload_n fx dX3_advance_85 rfl ?_
            refine g_geti fx dX3_advance_86 fk_RX3_22 (by decide) o_3 ?_
            rw [mk3_r4]
            refine g_callVD fx dX3_advance_89 mv_RX3_42 my_X7_at (s_X7_at ad _ _) o_1 rfl rfl rfl (Nat.le_of_ble_eq_true rfl) (by decide) (by decide) ?_
            rw [tAt_mk3]
            refine g_istore_n fx dX3_advance_92 (by decide) rfl rfl ?_
            refine g_aload_n fx dX3_advance_93 rfl ?_
            refine g_dup fx dX3_advance_94 rfl ?_
            refine g_geti fx dX3_advance_95 fk_RX3_22 (by decide) o_3 ?_
            rw [mk3_r4]
            refine g_iconst fx dX3_advance_98 (by unfold okI; omega) ?_
            refine g_iadd fx dX3_advance_99 ?_
            refine g_puti fx dX3_advance_100 fk_RX3_22 o_3 ?_
            rw [mk3_w4]
            refine g_iload_n fx dX3_advance_103 rfl ?_
            refine g_callSD fx dX3_advance_104 ms_RX3_63 my_X3_isLetter (s_X3_isLetter ad _ _) rfl rfl (Nat.le_of_ble_eq_true rfl) (by decide) (by decide) ?_
            refine g_if_eq (tgt := 156) fx dX3_advance_107 (by decide) (fun h107 => ?_) (fun h107 => ?_)
            · refine g_iload_n fx dX3_advance_156 rfl ?_
              refine g_callSD fx dX3_advance_157 ms_RX3_67 my_X3_isDigit (s_X3_isDigit ad _ _) rfl rfl (Nat.le_of_ble_eq_true rfl) (by decide) (by decide) ?_
              refine g_if_eq (tgt := 283) fx dX3_advance_160 (by decide) (fun h160 => ?_) (fun h160 => ?_)
              · refine g_aload_n fx dX3_advance_283 rfl ?_
                refine g_iload_n fx dX3_advance_284 rfl ?_
                refine g_bipush fx dX3_advance_285 (by decide) ?_
                refine g_icmp_ne (tgt := 294) fx dX3_advance_287 (by decide) (fun h287 => ?_) (fun h287 => ?_)
                · refine g_iconst fx dX3_advance_294 (by unfold okI; omega) ?_
                  refine g_puti fx dX3_advance_295 fk_RX3_31 o_3 ?_
                  rw [mk3_w2]
                  exact g_vret fx rfl dX3_advance_298 (by decide) (by decide) (gw_le.rf _) ⟨rfl, rfl, by first | (exfalso; omega) | (rw [advF, tokF, hp]; (repeat first | rw [if_pos (by omega)] | rw [if_neg (by omega)]) <;> first | rfl | (rw [wr_id (by unfold okI; omega)] <;> rfl) | (rw [he115, ltp_z (by omega)]) | (rw [he171, dgp_z (by omega)]; dsimp only; (repeat first | rw [if_pos (by omega)] | rw [if_neg (by omega)])))⟩
                · refine g_iconst fx dX3_advance_290 (by unfold okI; omega) ?_
                  refine g_goto (tgt := 295) fx dX3_advance_291 (by decide) ?_
                  refine g_puti fx dX3_advance_295 fk_RX3_31 o_3 ?_
                  rw [mk3_w2]
                  exact g_vret fx rfl dX3_advance_298 (by decide) (by decide) (gw_le.rf _) ⟨rfl, rfl, by first | (exfalso; omega) | (rw [advF, tokF, hp]; (repeat first | rw [if_pos (by omega)] | rw [if_neg (by omega)]) <;> first | rfl | (rw [wr_id (by unfold okI; omega)] <;> rfl) | (rw [he115, ltp_z (by omega)]) | (rw [he171, dgp_z (by omega)]; dsimp only; (repeat first | rw [if_pos (by omega)] | rw [if_neg (by omega)])))⟩
              · refine g_aload_n fx dX3_advance_163 rfl ?_
                refine g_iload_n fx dX3_advance_164 rfl ?_
                refine g_bipush fx dX3_advance_165 (by decide) ?_
                refine g_isub fx dX3_advance_167 ?_
                refine g_puti fx dX3_advance_168 fk_RX3_60 o_3 ?_
                rw [mk3_w5]
                have loop171 : ∀ i : Nat, i ≤ (σ 3 1 - (p + 1)).toNat → ∀ v : Int, dgp (σ 3 1) (tAt σ) p (σ 3 1 - (p + 1)).toNat (wr (tAt σ p - 48)) (p + 1) = dgp (σ 3 1) (tAt σ) p ((σ 3 1 - (p + 1)).toNat - i) v (p + 1 + (i : Nat)) → gw_W X (yX3_advance.cls, cX3_advance, 2, none, 2, 0, 0) G (gw_Z X G (gw_M0 ad) σ (gw_D none (gw_M0 ad) (advF σ)) gw_no 0 0) 0 0 (gw_M0 ad) (mk3 σ (σ 3 2) p (p + 1 + (i : Nat)) v) 171 [some (vR (some 3)), some (vI (tAt σ p))] [] := by
                  refine up_ind _ ((σ 3 1 - (p + 1)).toNat) (fun i hi ihi => ?_)
                  intro v he171
                  refine g_aload_n fx dX3_advance_171 rfl ?_
                  refine g_geti fx dX3_advance_172 fk_RX3_22 (by decide) o_3 ?_
                  rw [mk3_r4]
                  refine g_aload_n fx dX3_advance_175 rfl ?_
                  refine g_geti fx dX3_advance_176 fk_RX3_19 (by decide) o_3 ?_
                  rw [mk3_r1]
                  refine g_icmp_ge (tgt := 258) fx dX3_advance_179 (by decide) (fun h179 => ?_) (fun h179 => ?_)
                  · refine g_aload_n fx dX3_advance_258 rfl ?_
                    refine g_aload_n fx dX3_advance_259 rfl ?_
                    refine g_geti fx dX3_advance_260 fk_RX3_22 (by decide) o_3 ?_
                    rw [mk3_r4]
                    refine g_aload_n fx dX3_advance_263 rfl ?_
                    refine g_geti fx dX3_advance_264 fk_RX3_34 (by decide) o_3 ?_
                    rw [mk3_r3]
                    refine g_isub fx dX3_advance_267 ?_
                    refine g_iconst fx dX3_advance_268 (by unfold okI; omega) ?_
                    refine g_icmp_gt (tgt := 276) fx dX3_advance_269 (by decide) (fun h269 => ?_) (fun h269 => ?_)
                    · refine g_iconst fx dX3_advance_276 (by unfold okI; omega) ?_
                      refine g_puti fx dX3_advance_277 fk_RX3_31 o_3 ?_
                      rw [mk3_w2]
                      refine g_goto (tgt := 298) fx dX3_advance_280 (by decide) ?_
                      exact g_vret fx rfl dX3_advance_298 (by decide) (by decide) (gw_le.rf _) ⟨rfl, rfl, by first | (exfalso; omega) | (rw [advF, tokF, hp]; (repeat first | rw [if_pos (by omega)] | rw [if_neg (by omega)]) <;> first | rfl | (rw [wr_id (by unfold okI; omega)] <;> rfl) | (rw [he115, ltp_z (by omega)]) | (rw [he171, dgp_z (by omega)]; dsimp only; (repeat first | rw [if_pos (by omega)] | rw [if_neg (by omega)])))⟩
                    · refine g_iconst fx dX3_advance_272 (by unfold okI; omega) ?_
                      refine g_goto (tgt := 277) fx dX3_advance_273 (by decide) ?_
                      refine g_puti fx dX3_advance_277 fk_RX3_31 o_3 ?_
                      rw [mk3_w2]
                      refine g_goto (tgt := 298) fx dX3_advance_280 (by decide) ?_
                      exact g_vret fx rfl dX3_advance_298 (by decide) (by decide) (gw_le.rf _) ⟨rfl, rfl, by first | (exfalso; omega) | (rw [advF, tokF, hp]; (repeat first | rw [if_pos (by omega)] | rw [if_neg (by omega)]) <;> first | rfl | (rw [wr_id (by unfold okI; omega)] <;> rfl) | (rw [he115, ltp_z (by omega)]) | (rw [he171, dgp_z (by omega)]; dsimp only; (repeat first | rw [if_pos (by omega)] | rw [if_neg (by omega)])))⟩
                  · refine g_aload_n fx dX3_advance_182 rfl ?_
                    refine g_getr fx dX3_advance_183 fk_RX3_15 o_3 rf_3_0 ?_
                    refine g_aload_n fx dX3_advance_186 rfl ?_
                    refine g_geti fx dX3_advance_187 fk_RX3_22 (by decide) o_3 ?_
                    rw [mk3_r4]
                    refine g_callVD fx dX3_advance_190 mv_RX3_42 my_X7_at (s_X7_at ad _ _) o_1 rfl rfl rfl (Nat.le_of_ble_eq_true rfl) (by decide) (by decide) ?_
                    rw [tAt_mk3]
                    refine g_callSD fx dX3_advance_193 ms_RX3_67 my_X3_isDigit (s_X3_isDigit ad _ _) rfl rfl (Nat.le_of_ble_eq_true rfl) (by decide) (by decide) ?_
                    refine g_if_eq (tgt := 258) fx dX3_advance_196 (by decide) (fun h196 => ?_) (fun h196 => ?_)
                    · refine g_aload_n fx dX3_advance_258 rfl ?_
                      refine g_aload_n fx dX3_advance_259 rfl ?_
                      refine g_geti fx dX3_advance_260 fk_RX3_22 (by decide) o_3 ?_
                      rw [mk3_r4]
                      refine g_aload_n fx dX3_advance_263 rfl ?_
                      refine g_geti fx dX3_advance_264 fk_RX3_34 (by decide) o_3 ?_
                      rw [mk3_r3]
                      refine g_isub fx dX3_advance_267 ?_
                      refine g_iconst fx dX3_advance_268 (by unfold okI; omega) ?_
                      refine g_icmp_gt (tgt := 276) fx dX3_advance_269 (by decide) (fun h269 => ?_) (fun h269 => ?_)
                      · refine g_iconst fx dX3_advance_276 (by unfold okI; omega) ?_
                        refine g_puti fx dX3_advance_277 fk_RX3_31 o_3 ?_
                        rw [mk3_w2]
                        refine g_goto (tgt := 298) fx dX3_advance_280 (by decide) ?_
                        exact g_vret fx rfl dX3_advance_298 (by decide) (by decide) (gw_le.rf _) ⟨rfl, rfl, by first | (exfalso; omega) | (rw [advF, tokF, hp]; (repeat first | rw [if_pos (by omega)] | rw [if_neg (by omega)]) <;> first | rfl | (rw [wr_id (by unfold okI; omega)] <;> rfl) | (rw [he115, ltp_z (by omega)]) | (rw [he171, dgp_z (by omega)]; dsimp only; (repeat first | rw [if_pos (by omega)] | rw [if_neg (by omega)])))⟩
                      · refine g_iconst fx dX3_advance_272 (by unfold okI; omega) ?_
                        refine g_goto (tgt := 277) fx dX3_advance_273 (by decide) ?_
                        refine g_puti fx dX3_advance_277 fk_RX3_31 o_3 ?_
                        rw [mk3_w2]
                        refine g_goto (tgt := 298) fx dX3_advance_280 (by decide) ?_
                        exact g_vret fx rfl dX3_advance_298 (by decide) (by decide) (gw_le.rf _) ⟨rfl, rfl, by first | (exfalso; omega) | (rw [advF, tokF, hp]; (repeat first | rw [if_pos (by omega)] | rw [if_neg (by omega)]) <;> first | rfl | (rw [wr_id (by unfold okI; omega)] <;> rfl) | (rw [he115, ltp_z (by omega)]) | (rw [he171, dgp_z (by omega)]; dsimp only; (repeat first | rw [if_pos (by omega)] | rw [if_neg (by omega)])))⟩
                    · refine g_aload_n fx dX3_advance_199 rfl ?_
                      refine g_aload_n fx dX3_advance_200 rfl ?_
                      refine g_geti fx dX3_advance_201 fk_RX3_22 (by decide) o_3 ?_
                      rw [mk3_r4]
                      refine g_aload_n fx dX3_advance_204 rfl ?_
                      refine g_geti fx dX3_advance_205 fk_RX3_34 (by decide) o_3 ?_
                      rw [mk3_r3]
                      refine g_isub fx dX3_advance_208 ?_
                      refine g_iconst fx dX3_advance_209 (by unfold okI; omega) ?_
                      refine g_icmp_ge (tgt := 238) fx dX3_advance_210 (by decide) (fun h210 => ?_) (fun h210 => ?_)
                      · refine g_aload_n fx dX3_advance_238 rfl ?_
                        refine g_geti fx dX3_advance_239 fk_RX3_60 (by decide) o_3 ?_
                        rw [mk3_r5]
                        refine g_puti fx dX3_advance_242 fk_RX3_60 o_3 ?_
                        rw [mk3_w5]
                        refine g_aload_n fx dX3_advance_245 rfl ?_
                        refine g_dup fx dX3_advance_246 rfl ?_
                        refine g_geti fx dX3_advance_247 fk_RX3_22 (by decide) o_3 ?_
                        rw [mk3_r4]
                        refine g_iconst fx dX3_advance_250 (by unfold okI; omega) ?_
                        refine g_iadd fx dX3_advance_251 ?_
                        refine g_puti fx dX3_advance_252 fk_RX3_22 o_3 ?_
                        rw [mk3_w4]
                        refine g_goto (tgt := 171) fx dX3_advance_255 (by decide) ?_
                        exact gw_cg (by rw [wr_id (by unfold okI; omega), show (p + 1 + (i : Nat) + 1 : Int) = p + 1 + ((i + 1 : Nat) : Int) by omega]) rfl (ihi (by omega) _ (by rw [he171, show (σ 3 1 - (p + 1)).toNat - i = (σ 3 1 - (p + 1)).toNat - (i + 1) + 1 by omega, dgp, if_pos ⟨by omega, h196⟩]; first | (exfalso; omega) | (first | rw [if_pos (by omega)] | rw [if_neg (by omega)]) <;> rw [show (p + 1 + (i : Nat) + 1 : Int) = p + 1 + ((i + 1 : Nat) : Int) by omega]))
                      · refine g_aload_n fx dX3_advance_213 rfl ?_
                        refine g_geti fx dX3_advance_214 fk_RX3_60 (by decide) o_3 ?_
                        rw [mk3_r5]
                        refine g_bipush fx dX3_advance_217 (by decide) ?_
                        refine g_imul fx dX3_advance_219 ?_
                        refine g_aload_n fx dX3_advance_220 rfl ?_
                        refine g_getr fx dX3_advance_221 fk_RX3_15 o_3 rf_3_0 ?_
                        refine g_aload_n fx dX3_advance_224 rfl ?_
                        refine g_geti fx dX3_advance_225 fk_RX3_22 (by decide) o_3 ?_
                        rw [mk3_r4]
                        refine g_callVD fx dX3_advance_228 mv_RX3_42 my_X7_at (s_X7_at ad _ _) o_1 rfl rfl rfl (Nat.le_of_ble_eq_true rfl) (by decide) (by decide) ?_
                        rw [tAt_mk3]
                        refine g_iadd fx dX3_advance_231 ?_
                        refine g_bipush fx dX3_advance_232 (by decide) ?_
                        refine g_isub fx dX3_advance_234 ?_
                        refine g_goto (tgt := 242) fx dX3_advance_235 (by decide) ?_
                        refine g_puti fx dX3_advance_242 fk_RX3_60 o_3 ?_
                        rw [mk3_w5]
                        refine g_aload_n fx dX3_advance_245 rfl ?_
                        refine g_dup fx dX3_advance_246 rfl ?_
                        refine g_geti fx dX3_advance_247 fk_RX3_22 (by decide) o_3 ?_
                        rw [mk3_r4]
                        refine g_iconst fx dX3_advance_250 (by unfold okI; omega) ?_
                        refine g_iadd fx dX3_advance_251 ?_
                        refine g_puti fx dX3_advance_252 fk_RX3_22 o_3 ?_
                        rw [mk3_w4]
                        refine g_goto (tgt := 171) fx dX3_advance_255 (by decide) ?_
                        exact gw_cg (by rw [wr_id (by unfold okI; omega), show (p + 1 + (i : Nat) + 1 : Int) = p + 1 + ((i + 1 : Nat) : Int) by omega]) rfl (ihi (by omega) _ (by rw [he171, show (σ 3 1 - (p + 1)).toNat - i = (σ 3 1 - (p + 1)).toNat - (i + 1) + 1 by omega, dgp, if_pos ⟨by omega, h196⟩]; first | (exfalso; omega) | (first | rw [if_pos (by omega)] | rw [if_neg (by omega)]) <;> rw [show (p + 1 + (i : Nat) + 1 : Int) = p + 1 + ((i + 1 : Nat) : Int) by omega]))
                exact gw_cg (by rw [wr_id (by unfold okI; omega), show (p + 1 + ((0 : Nat) : Int)) = p + 1 by omega]) rfl (loop171 0 (Nat.zero_le _) _ (by rw [show (p + 1 + ((0 : Nat) : Int)) = p + 1 by omega]; rfl))
            · refine g_aload_n fx dX3_advance_110 rfl ?_
              refine g_iconst fx dX3_advance_111 (by unfold okI; omega) ?_
              refine g_puti fx dX3_advance_112 fk_RX3_31 o_3 ?_
              rw [mk3_w2]
              have loop115 : ∀ i : Nat, i ≤ (σ 3 1 - (p + 1)).toNat → ltp (σ 3 1) (tAt σ) (σ 3 1 - (p + 1)).toNat (p + 1) = ltp (σ 3 1) (tAt σ) ((σ 3 1 - (p + 1)).toNat - i) (p + 1 + (i : Nat)) → gw_W X (yX3_advance.cls, cX3_advance, 2, none, 2, 0, 0) G (gw_Z X G (gw_M0 ad) σ (gw_D none (gw_M0 ad) (advF σ)) gw_no 0 0) 0 0 (gw_M0 ad) (mk3 σ 1 p (p + 1 + (i : Nat)) (σ 3 5)) 115 [some (vR (some 3)), some (vI (tAt σ p))] [] := by
                refine up_ind _ ((σ 3 1 - (p + 1)).toNat) (fun i hi ihi => ?_)
                intro he115
                refine g_aload_n fx dX3_advance_115 rfl ?_
                refine g_geti fx dX3_advance_116 fk_RX3_22 (by decide) o_3 ?_
                rw [mk3_r4]
                refine g_aload_n fx dX3_advance_119 rfl ?_
                refine g_geti fx dX3_advance_120 fk_RX3_19 (by decide) o_3 ?_
                rw [mk3_r1]
                refine g_icmp_ge (tgt := 298) fx dX3_advance_123 (by decide) (fun h123 => ?_) (fun h123 => ?_)
                · exact g_vret fx rfl dX3_advance_298 (by decide) (by decide) (gw_le.rf _) ⟨rfl, rfl, by first | (exfalso; omega) | (rw [advF, tokF, hp]; (repeat first | rw [if_pos (by omega)] | rw [if_neg (by omega)]) <;> first | rfl | (rw [wr_id (by unfold okI; omega)] <;> rfl) | (rw [he115, ltp_z (by omega)]) | (rw [he171, dgp_z (by omega)]; dsimp only; (repeat first | rw [if_pos (by omega)] | rw [if_neg (by omega)])))⟩
                · refine g_aload_n fx dX3_advance_126 rfl ?_
                  refine g_getr fx dX3_advance_127 fk_RX3_15 o_3 rf_3_0 ?_
                  refine g_aload_n fx dX3_advance_130 rfl ?_
                  refine g_geti fx dX3_advance_131 fk_RX3_22 (by decide) o_3 ?_
                  rw [mk3_r4]
                  refine g_callVD fx dX3_advance_134 mv_RX3_42 my_X7_at (s_X7_at ad _ _) o_1 rfl rfl rfl (Nat.le_of_ble_eq_true rfl) (by decide) (by decide) ?_
                  rw [tAt_mk3]
                  refine g_callSD fx dX3_advance_137 ms_RX3_63 my_X3_isLetter (s_X3_isLetter ad _ _) rfl rfl (Nat.le_of_ble_eq_true rfl) (by decide) (by decide) ?_
                  refine g_if_eq (tgt := 298) fx dX3_advance_140 (by decide) (fun h140 => ?_) (fun h140 => ?_)
                  · exact g_vret fx rfl dX3_advance_298 (by decide) (by decide) (gw_le.rf _) ⟨rfl, rfl, by first | (exfalso; omega) | (rw [advF, tokF, hp]; (repeat first | rw [if_pos (by omega)] | rw [if_neg (by omega)]) <;> first | rfl | (rw [wr_id (by unfold okI; omega)] <;> rfl) | (rw [he115, ltp_z (by omega)]) | (rw [he171, dgp_z (by omega)]; dsimp only; (repeat first | rw [if_pos (by omega)] | rw [if_neg (by omega)])))⟩
                  · refine g_aload_n fx dX3_advance_143 rfl ?_
                    refine g_dup fx dX3_advance_144 rfl ?_
                    refine g_geti fx dX3_advance_145 fk_RX3_22 (by decide) o_3 ?_
                    rw [mk3_r4]
                    refine g_iconst fx dX3_advance_148 (by unfold okI; omega) ?_
                    refine g_iadd fx dX3_advance_149 ?_
                    refine g_puti fx dX3_advance_150 fk_RX3_22 o_3 ?_
                    rw [mk3_w4]
                    refine g_goto (tgt := 115) fx dX3_advance_153 (by decide) ?_
                    exact gw_cg (by rw [wr_id (by unfold okI; omega), show (p + 1 + (i : Nat) + 1 : Int) = p + 1 + ((i + 1 : Nat) : Int) by omega]) rfl (ihi (by omega) (by rw [he115, show (σ 3 1 - (p + 1)).toNat - i = (σ 3 1 - (p + 1)).toNat - (i + 1) + 1 by omega, ltp, if_pos ⟨by omega, h140⟩, show (p + 1 + (i : Nat) + 1 : Int) = p + 1 + ((i + 1 : Nat) : Int) by omega]))
              exact gw_cg (by rw [wr_id (by unfold okI; omega), show (p + 1 + ((0 : Nat) : Int)) = p + 1 by omega]) rfl (loop115 0 (Nat.zero_le _) (by rw [show (p + 1 + ((0 : Nat) : Int)) = p + 1 by omega]; rfl))
          · refine g_aload_n fx dX3_advance_75 rfl ?_
            refine g_iconst fx dX3_advance_76 (by unfold okI; omega) ?_
            refine g_puti fx dX3_advance_77 fk_RX3_31 o_3 ?_
            rw [mk3_w2]
            exact g_vret fx rfl dX3_advance_80 (by decide) (by decide) (gw_le.rf _) ⟨rfl, rfl, by first | (exfalso; omega) | (rw [advF, tokF, hp]; (repeat first | rw [if_pos (by omega)] | rw [if_neg (by omega)]) <;> first | rfl | (rw [wr_id (by unfold okI; omega)] <;> rfl) | (rw [he115, ltp_z (by omega)]) | (rw [he171, dgp_z (by omega)]; dsimp only; (repeat first | rw [if_pos (by omega)] | rw [if_neg (by omega)])))⟩
        · refine g_aload_n fx dX3_advance_43 rfl ?_
          refine g_dup fx dX3_advance_44 rfl ?_
          refine g_geti fx dX3_advance_45 fk_RX3_22 (by decide) o_3 ?_
          rw [mk3_r4]
          refine g_iconst fx dX3_advance_48 (by unfold okI; omega) ?_
          refine g_iadd fx dX3_advance_49 ?_
          refine g_puti fx dX3_advance_50 fk_RX3_22 o_3 ?_
          rw [mk3_w4]
          refine g_goto (tgt := 0) fx dX3_advance_53 (by decide) ?_
          exact gw_cg (by rw [wr_id (by unfold okI; omega), show (σ 3 4 + (k : Nat) + 1 : Int) = σ 3 4 + ((k + 1 : Nat) : Int) by omega]) rfl (ih (by omega) (by rw [he0, show (σ 3 1 - σ 3 4).toNat - k = (σ 3 1 - σ 3 4).toNat - (k + 1) + 1 by omega, wsp, if_pos (by omega), show (σ 3 4 + (k : Nat) + 1 : Int) = σ 3 4 + ((k + 1 : Nat) : Int) by omega]))
  exact gw_cg (by rw [show (σ 3 4 + ((0 : Nat) : Int)) = σ 3 4 by omega, mk3_id]) rfl (loop0 0 (Nat.zero_le _) (by rw [show (σ 3 4 + ((0 : Nat) : Int)) = σ 3 4 by omega]; rfl))
set_option maxRecDepth 4000 in
theorem s_X3_spells (ad : Nat → Nat) (σ : Sg)  (j : Nat) (hj : j < 20) : gw_Sp yX3_spells cX3_spells 4 (some .boolean) 5 0 0 [vR (some 3), vX j] (gw_M0 ad) σ (gw_D (some (vI (rSp σ j))) (gw_M0 ad) (σ)) gw_no := by
  refine gw_Sp.of [some (vR (some 3)), some (vX j), none, none] (by decide +kernel) rfl (Nat.le_of_ble_eq_true rfl) ?_
  intro X G fx het hnm
  have hl := (chr_all j hj).1
  refine g_aload_n fx dX3_spells_0 rfl ?_
  refine g_geti fx dX3_spells_1 fk_RX3_31 (by decide) o_3 ?_
  refine g_iconst fx dX3_spells_4 (by unfold okI; omega) ?_
  refine g_icmp_ne (tgt := 28) fx dX3_spells_5 (by decide) (fun h5 => ?_) (fun h5 => ?_)
  · refine g_iconst fx dX3_spells_28 (by unfold okI; omega) ?_
    refine g_istore_n fx dX3_spells_29 (by decide) rfl rfl ?_
    refine g_iconst fx dX3_spells_30 (by unfold okI; omega) ?_
    refine g_istore_n fx dX3_spells_31 (by decide) rfl rfl ?_
    have loop32 : ∀ i : Nat, i ≤ (gw_wd j).length → gw_W X (yX3_spells.cls, cX3_spells, 4, (some .boolean), 5, 0, 0) G (gw_Z X G (gw_M0 ad) σ (gw_D (some (vI (rSp σ j))) (gw_M0 ad) (σ)) gw_no 0 0) 0 0 (gw_M0 ad) (σ) 32 [some (vR (some 3)), some (vX j), some (vI (itr i (rSpS σ j) (rSp0 σ j))), some (vI (i : Nat))] [] := by
      refine up_ind _ ((gw_wd j).length) (fun i hi ih => ?_)
      refine g_iload_n fx dX3_spells_32 rfl ?_
      refine g_xload_n fx dX3_spells_33 rfl ?_
      refine g_callVDX fx dX3_spells_34 mv_RX3_37 my_J0_length_8abf5 (s_J0_length_8abf5 ad _ j hj) hj rfl rfl rfl (Nat.le_of_ble_eq_true rfl) (by decide) (by decide) ?_
      refine g_icmp_ge (tgt := 77) fx dX3_spells_37 (by decide) (fun h37 => ?_) (fun h37 => ?_)
      · refine g_iload_n fx dX3_spells_77 rfl ?_
        exact g_zret fx rfl dX3_spells_78 (rSpS_b σ j _ (rSp0_b σ j) i) (by decide) (by decide) (gw_le.rf _) ⟨by rw [rSp]; first | (rw [show i = (gw_wd j).length by omega]; done) | (have e0 := rSpS_0 σ j _ i ((gw_wd j).length - i) h41; rw [show i + ((gw_wd j).length - i) = (gw_wd j).length by omega] at e0; rw [e0, h41]), rfl, rfl⟩
      · refine g_iload_n fx dX3_spells_40 rfl ?_
        refine g_if_eq (tgt := 77) fx dX3_spells_41 (by decide) (fun h41 => ?_) (fun h41 => ?_)
        · refine g_iload_n fx dX3_spells_77 rfl ?_
          exact g_zret fx rfl dX3_spells_78 (rSpS_b σ j _ (rSp0_b σ j) i) (by decide) (by decide) (gw_le.rf _) ⟨by rw [rSp]; first | (rw [show i = (gw_wd j).length by omega]; done) | (have e0 := rSpS_0 σ j _ i ((gw_wd j).length - i) h41; rw [show i + ((gw_wd j).length - i) = (gw_wd j).length by omega] at e0; rw [e0, h41]), rfl, rfl⟩
        · refine g_aload_n fx dX3_spells_44 rfl ?_
          refine g_getr fx dX3_spells_45 fk_RX3_15 o_3 rf_3_0 ?_
          refine g_aload_n fx dX3_spells_48 rfl ?_
          refine g_geti fx dX3_spells_49 fk_RX3_34 (by decide) o_3 ?_
          refine g_iload_n fx dX3_spells_52 rfl ?_
          refine g_iadd fx dX3_spells_53 ?_
          refine g_callVD fx dX3_spells_54 mv_RX3_42 my_X7_at (s_X7_at ad _ _) o_1 rfl rfl rfl (Nat.le_of_ble_eq_true rfl) (by decide) (by decide) ?_
          refine g_xload_n fx dX3_spells_57 rfl ?_
          refine g_iload_n fx dX3_spells_58 rfl ?_
          refine g_callVDX fx dX3_spells_59 mv_RX3_48 my_J0_charAt_5068e (s_J0_charAt_5068e ad _ j _ hj (by omega)) hj rfl rfl rfl (Nat.le_of_ble_eq_true rfl) (by decide) (by decide) ?_
          refine g_icmp_ne (tgt := 69) fx dX3_spells_62 (by decide) (fun h62 => ?_) (fun h62 => ?_)
          · refine g_iconst fx dX3_spells_69 (by unfold okI; omega) ?_
            refine g_istore_n fx dX3_spells_70 (by decide) rfl rfl ?_
            refine g_iinc1 fx dX3_spells_71 (by decide) rfl rfl (by unfold okI; omega) rfl ?_
            refine g_goto (tgt := 32) fx dX3_spells_74 (by decide) ?_
            exact gw_cg rfl (by rw [itr_s, rSpS, show ((i : Nat) : Int) + 1 = ((i + 1 : Nat) : Int) by omega]; (repeat first | rw [if_pos (by omega)] | rw [if_neg (by omega)]) <;> rfl) (ih (by omega))
          · refine g_iconst fx dX3_spells_65 (by unfold okI; omega) ?_
            refine g_goto (tgt := 70) fx dX3_spells_66 (by decide) ?_
            refine g_istore_n fx dX3_spells_70 (by decide) rfl rfl ?_
            refine g_iinc1 fx dX3_spells_71 (by decide) rfl rfl (by unfold okI; omega) rfl ?_
            refine g_goto (tgt := 32) fx dX3_spells_74 (by decide) ?_
            exact gw_cg rfl (by rw [itr_s, rSpS, show ((i : Nat) : Int) + 1 = ((i + 1 : Nat) : Int) by omega]; (repeat first | rw [if_pos (by omega)] | rw [if_neg (by omega)]) <;> rfl) (ih (by omega))
    exact gw_cg rfl (by simp only [itr, rSp0]; (repeat first | rw [if_pos (by omega)] | rw [if_neg (by omega)]) <;> rfl) (loop32 0 (Nat.zero_le _))
  · refine g_aload_n fx dX3_spells_8 rfl ?_
    refine g_geti fx dX3_spells_9 fk_RX3_22 (by decide) o_3 ?_
    refine g_aload_n fx dX3_spells_12 rfl ?_
    refine g_geti fx dX3_spells_13 fk_RX3_34 (by decide) o_3 ?_
    refine g_isub fx dX3_spells_16 ?_
    refine g_xload_n fx dX3_spells_17 rfl ?_
    refine g_callVDX fx dX3_spells_18 mv_RX3_37 my_J0_length_8abf5 (s_J0_length_8abf5 ad _ j hj) hj rfl rfl rfl (Nat.le_of_ble_eq_true rfl) (by decide) (by decide) ?_
    refine g_icmp_ne (tgt := 28) fx dX3_spells_21 (by decide) (fun h21 => ?_) (fun h21 => ?_)
    · refine g_iconst fx dX3_spells_28 (by unfold okI; omega) ?_
      refine g_istore_n fx dX3_spells_29 (by decide) rfl rfl ?_
      refine g_iconst fx dX3_spells_30 (by unfold okI; omega) ?_
      refine g_istore_n fx dX3_spells_31 (by decide) rfl rfl ?_
      have loop32 : ∀ i : Nat, i ≤ (gw_wd j).length → gw_W X (yX3_spells.cls, cX3_spells, 4, (some .boolean), 5, 0, 0) G (gw_Z X G (gw_M0 ad) σ (gw_D (some (vI (rSp σ j))) (gw_M0 ad) (σ)) gw_no 0 0) 0 0 (gw_M0 ad) (σ) 32 [some (vR (some 3)), some (vX j), some (vI (itr i (rSpS σ j) (rSp0 σ j))), some (vI (i : Nat))] [] := by
        refine up_ind _ ((gw_wd j).length) (fun i hi ih => ?_)
        refine g_iload_n fx dX3_spells_32 rfl ?_
        refine g_xload_n fx dX3_spells_33 rfl ?_
        refine g_callVDX fx dX3_spells_34 mv_RX3_37 my_J0_length_8abf5 (s_J0_length_8abf5 ad _ j hj) hj rfl rfl rfl (Nat.le_of_ble_eq_true rfl) (by decide) (by decide) ?_
        refine g_icmp_ge (tgt := 77) fx dX3_spells_37 (by decide) (fun h37 => ?_) (fun h37 => ?_)
        · refine g_iload_n fx dX3_spells_77 rfl ?_
          exact g_zret fx rfl dX3_spells_78 (rSpS_b σ j _ (rSp0_b σ j) i) (by decide) (by decide) (gw_le.rf _) ⟨by rw [rSp]; first | (rw [show i = (gw_wd j).length by omega]; done) | (have e0 := rSpS_0 σ j _ i ((gw_wd j).length - i) h41; rw [show i + ((gw_wd j).length - i) = (gw_wd j).length by omega] at e0; rw [e0, h41]), rfl, rfl⟩
        · refine g_iload_n fx dX3_spells_40 rfl ?_
          refine g_if_eq (tgt := 77) fx dX3_spells_41 (by decide) (fun h41 => ?_) (fun h41 => ?_)
          · refine g_iload_n fx dX3_spells_77 rfl ?_
            exact g_zret fx rfl dX3_spells_78 (rSpS_b σ j _ (rSp0_b σ j) i) (by decide) (by decide) (gw_le.rf _) ⟨by rw [rSp]; first | (rw [show i = (gw_wd j).length by omega]; done) | (have e0 := rSpS_0 σ j _ i ((gw_wd j).length - i) h41; rw [show i + ((gw_wd j).length - i) = (gw_wd j).length by omega] at e0; rw [e0, h41]), rfl, rfl⟩
          · refine g_aload_n fx dX3_spells_44 rfl ?_
            refine g_getr fx dX3_spells_45 fk_RX3_15 o_3 rf_3_0 ?_
            refine g_aload_n fx dX3_spells_48 rfl ?_
            refine g_geti fx dX3_spells_49 fk_RX3_34 (by decide) o_3 ?_
            refine g_iload_n fx dX3_spells_52 rfl ?_
            refine g_iadd fx dX3_spells_53 ?_
            refine g_callVD fx dX3_spells_54 mv_RX3_42 my_X7_at (s_X7_at ad _ _) o_1 rfl rfl rfl (Nat.le_of_ble_eq_true rfl) (by decide) (by decide) ?_
            refine g_xload_n fx dX3_spells_57 rfl ?_
            refine g_iload_n fx dX3_spells_58 rfl ?_
            refine g_callVDX fx dX3_spells_59 mv_RX3_48 my_J0_charAt_5068e (s_J0_charAt_5068e ad _ j _ hj (by omega)) hj rfl rfl rfl (Nat.le_of_ble_eq_true rfl) (by decide) (by decide) ?_
            refine g_icmp_ne (tgt := 69) fx dX3_spells_62 (by decide) (fun h62 => ?_) (fun h62 => ?_)
            · refine g_iconst fx dX3_spells_69 (by unfold okI; omega) ?_
              refine g_istore_n fx dX3_spells_70 (by decide) rfl rfl ?_
              refine g_iinc1 fx dX3_spells_71 (by decide) rfl rfl (by unfold okI; omega) rfl ?_
              refine g_goto (tgt := 32) fx dX3_spells_74 (by decide) ?_
              exact gw_cg rfl (by rw [itr_s, rSpS, show ((i : Nat) : Int) + 1 = ((i + 1 : Nat) : Int) by omega]; (repeat first | rw [if_pos (by omega)] | rw [if_neg (by omega)]) <;> rfl) (ih (by omega))
            · refine g_iconst fx dX3_spells_65 (by unfold okI; omega) ?_
              refine g_goto (tgt := 70) fx dX3_spells_66 (by decide) ?_
              refine g_istore_n fx dX3_spells_70 (by decide) rfl rfl ?_
              refine g_iinc1 fx dX3_spells_71 (by decide) rfl rfl (by unfold okI; omega) rfl ?_
              refine g_goto (tgt := 32) fx dX3_spells_74 (by decide) ?_
              exact gw_cg rfl (by rw [itr_s, rSpS, show ((i : Nat) : Int) + 1 = ((i + 1 : Nat) : Int) by omega]; (repeat first | rw [if_pos (by omega)] | rw [if_neg (by omega)]) <;> rfl) (ih (by omega))
      exact gw_cg rfl (by simp only [itr, rSp0]; (repeat first | rw [if_pos (by omega)] | rw [if_neg (by omega)]) <;> rfl) (loop32 0 (Nat.zero_le _))
    · refine g_iconst fx dX3_spells_24 (by unfold okI; omega) ?_
      refine g_goto (tgt := 29) fx dX3_spells_25 (by decide) ?_
      refine g_istore_n fx dX3_spells_29 (by decide) rfl rfl ?_
      refine g_iconst fx dX3_spells_30 (by unfold okI; omega) ?_
      refine g_istore_n fx dX3_spells_31 (by decide) rfl rfl ?_
      have loop32 : ∀ i : Nat, i ≤ (gw_wd j).length → gw_W X (yX3_spells.cls, cX3_spells, 4, (some .boolean), 5, 0, 0) G (gw_Z X G (gw_M0 ad) σ (gw_D (some (vI (rSp σ j))) (gw_M0 ad) (σ)) gw_no 0 0) 0 0 (gw_M0 ad) (σ) 32 [some (vR (some 3)), some (vX j), some (vI (itr i (rSpS σ j) (rSp0 σ j))), some (vI (i : Nat))] [] := by
        refine up_ind _ ((gw_wd j).length) (fun i hi ih => ?_)
        refine g_iload_n fx dX3_spells_32 rfl ?_
        refine g_xload_n fx dX3_spells_33 rfl ?_
        refine g_callVDX fx dX3_spells_34 mv_RX3_37 my_J0_length_8abf5 (s_J0_length_8abf5 ad _ j hj) hj rfl rfl rfl (Nat.le_of_ble_eq_true rfl) (by decide) (by decide) ?_
        refine g_icmp_ge (tgt := 77) fx dX3_spells_37 (by decide) (fun h37 => ?_) (fun h37 => ?_)
        · refine g_iload_n fx dX3_spells_77 rfl ?_
          exact g_zret fx rfl dX3_spells_78 (rSpS_b σ j _ (rSp0_b σ j) i) (by decide) (by decide) (gw_le.rf _) ⟨by rw [rSp]; first | (rw [show i = (gw_wd j).length by omega]; done) | (have e0 := rSpS_0 σ j _ i ((gw_wd j).length - i) h41; rw [show i + ((gw_wd j).length - i) = (gw_wd j).length by omega] at e0; rw [e0, h41]), rfl, rfl⟩
        · refine g_iload_n fx dX3_spells_40 rfl ?_
          refine g_if_eq (tgt := 77) fx dX3_spells_41 (by decide) (fun h41 => ?_) (fun h41 => ?_)
          · refine g_iload_n fx dX3_spells_77 rfl ?_
            exact g_zret fx rfl dX3_spells_78 (rSpS_b σ j _ (rSp0_b σ j) i) (by decide) (by decide) (gw_le.rf _) ⟨by rw [rSp]; first | (rw [show i = (gw_wd j).length by omega]; done) | (have e0 := rSpS_0 σ j _ i ((gw_wd j).length - i) h41; rw [show i + ((gw_wd j).length - i) = (gw_wd j).length by omega] at e0; rw [e0, h41]), rfl, rfl⟩
          · refine g_aload_n fx dX3_spells_44 rfl ?_
            refine g_getr fx dX3_spells_45 fk_RX3_15 o_3 rf_3_0 ?_
            refine g_aload_n fx dX3_spells_48 rfl ?_
            refine g_geti fx dX3_spells_49 fk_RX3_34 (by decide) o_3 ?_
            refine g_iload_n fx dX3_spells_52 rfl ?_
            refine g_iadd fx dX3_spells_53 ?_
            refine g_callVD fx dX3_spells_54 mv_RX3_42 my_X7_at (s_X7_at ad _ _) o_1 rfl rfl rfl (Nat.le_of_ble_eq_true rfl) (by decide) (by decide) ?_
            refine g_xload_n fx dX3_spells_57 rfl ?_
            refine g_iload_n fx dX3_spells_58 rfl ?_
            refine g_callVDX fx dX3_spells_59 mv_RX3_48 my_J0_charAt_5068e (s_J0_charAt_5068e ad _ j _ hj (by omega)) hj rfl rfl rfl (Nat.le_of_ble_eq_true rfl) (by decide) (by decide) ?_
            refine g_icmp_ne (tgt := 69) fx dX3_spells_62 (by decide) (fun h62 => ?_) (fun h62 => ?_)
            · refine g_iconst fx dX3_spells_69 (by unfold okI; omega) ?_
              refine g_istore_n fx dX3_spells_70 (by decide) rfl rfl ?_
              refine g_iinc1 fx dX3_spells_71 (by decide) rfl rfl (by unfold okI; omega) rfl ?_
              refine g_goto (tgt := 32) fx dX3_spells_74 (by decide) ?_
              exact gw_cg rfl (by rw [itr_s, rSpS, show ((i : Nat) : Int) + 1 = ((i + 1 : Nat) : Int) by omega]; (repeat first | rw [if_pos (by omega)] | rw [if_neg (by omega)]) <;> rfl) (ih (by omega))
            · refine g_iconst fx dX3_spells_65 (by unfold okI; omega) ?_
              refine g_goto (tgt := 70) fx dX3_spells_66 (by decide) ?_
              refine g_istore_n fx dX3_spells_70 (by decide) rfl rfl ?_
              refine g_iinc1 fx dX3_spells_71 (by decide) rfl rfl (by unfold okI; omega) rfl ?_
              refine g_goto (tgt := 32) fx dX3_spells_74 (by decide) ?_
              exact gw_cg rfl (by rw [itr_s, rSpS, show ((i : Nat) : Int) + 1 = ((i + 1 : Nat) : Int) by omega]; (repeat first | rw [if_pos (by omega)] | rw [if_neg (by omega)]) <;> rfl) (ih (by omega))
      exact gw_cg rfl (by simp only [itr, rSp0]; (repeat first | rw [if_pos (by omega)] | rw [if_neg (by omega)]) <;> rfl) (loop32 0 (Nat.zero_le _))
set_option maxRecDepth 4000 in
theorem s_X3_fail (ad : Nat → Nat) (σ : Sg)  (w : Int) : gw_Sp yX3_fail cX3_fail 2 none 1 0 0 [vR (some 3), vI w] (gw_M0 ad) σ (gw_D none (gw_M0 ad) (rFail σ w)) gw_no := by
  refine gw_Sp.of [some (vR (some 3)), some (vI w)] (by decide +kernel) rfl (Nat.le_of_ble_eq_true rfl) ?_
  intro X G fx het hnm
  refine g_aload_n fx dX3_fail_0 rfl ?_
  refine g_geti fx dX3_fail_1 fk_RX3_25 (by decide) o_3 ?_
  refine g_if_ne (tgt := 32) fx dX3_fail_4 (by decide) (fun h4 => ?_) (fun h4 => ?_)
  · exact g_vret fx rfl dX3_fail_32 (by decide) (by decide) (gw_le.rf _) ⟨rfl, rfl, by rw [rFail]; (repeat first | rw [if_pos (by omega)] | rw [if_neg (by omega)]) <;> rfl⟩
  · refine g_aload_n fx dX3_fail_7 rfl ?_
    refine g_aload_n fx dX3_fail_8 rfl ?_
    refine g_geti fx dX3_fail_9 fk_RX3_31 (by decide) o_3 ?_
    refine g_iconst fx dX3_fail_12 (by unfold okI; omega) ?_
    refine g_icmp_ne (tgt := 20) fx dX3_fail_13 (by decide) (fun h13 => ?_) (fun h13 => ?_)
    · refine g_iload_n fx dX3_fail_20 rfl ?_
      refine g_puti fx dX3_fail_21 fk_RX3_25 o_3 ?_
      refine g_aload_n fx dX3_fail_24 rfl ?_
      refine g_aload_n fx dX3_fail_25 rfl ?_
      refine g_geti fx dX3_fail_26 fk_RX3_34 (by decide) o_3 ?_
      refine g_puti fx dX3_fail_29 fk_RX3_9 o_3 ?_
      exact g_vret fx rfl dX3_fail_32 (by decide) (by decide) (gw_le.rf _) ⟨rfl, rfl, by rw [rFail]; (repeat first | rw [if_pos (by omega)] | rw [if_neg (by omega)]) <;> rfl⟩
    · refine g_iconst fx dX3_fail_16 (by unfold okI; omega) ?_
      refine g_goto (tgt := 21) fx dX3_fail_17 (by decide) ?_
      refine g_puti fx dX3_fail_21 fk_RX3_25 o_3 ?_
      refine g_aload_n fx dX3_fail_24 rfl ?_
      refine g_aload_n fx dX3_fail_25 rfl ?_
      refine g_geti fx dX3_fail_26 fk_RX3_34 (by decide) o_3 ?_
      refine g_puti fx dX3_fail_29 fk_RX3_9 o_3 ?_
      exact g_vret fx rfl dX3_fail_32 (by decide) (by decide) (gw_le.rf _) ⟨rfl, rfl, by rw [rFail]; (repeat first | rw [if_pos (by omega)] | rw [if_neg (by omega)]) <;> rfl⟩
set_option maxRecDepth 4000 in
theorem s_X3_goesOn (ad : Nat → Nat) (σ : Sg)  : gw_Sp yX3_goesOn cX3_goesOn 1 (some .boolean) 1 0 0 [vR (some 3)] (gw_M0 ad) σ (gw_D (some (vI (rGo σ))) (gw_M0 ad) (σ)) gw_no := by
  refine gw_Sp.of [some (vR (some 3))] (by decide +kernel) rfl (Nat.le_of_ble_eq_true rfl) ?_
  intro X G fx het hnm
  refine g_aload_n fx dX3_goesOn_0 rfl ?_
  refine g_geti fx dX3_goesOn_1 fk_RX3_25 (by decide) o_3 ?_
  refine g_if_ne (tgt := 18) fx dX3_goesOn_4 (by decide) (fun h4 => ?_) (fun h4 => ?_)
  · refine g_iconst fx dX3_goesOn_18 (by unfold okI; omega) ?_
    exact g_zret fx rfl dX3_goesOn_19 (by first | exact Or.inl rfl | exact Or.inr rfl | omega) (by decide) (by decide) (gw_le.rf _) ⟨by rw [rGo]; (repeat first | rw [if_pos (by omega)] | rw [if_neg (by omega)]) <;> rfl, rfl, rfl⟩
  · refine g_aload_n fx dX3_goesOn_7 rfl ?_
    refine g_geti fx dX3_goesOn_8 fk_RX3_31 (by decide) o_3 ?_
    refine g_if_eq (tgt := 18) fx dX3_goesOn_11 (by decide) (fun h11 => ?_) (fun h11 => ?_)
    · refine g_iconst fx dX3_goesOn_18 (by unfold okI; omega) ?_
      exact g_zret fx rfl dX3_goesOn_19 (by first | exact Or.inl rfl | exact Or.inr rfl | omega) (by decide) (by decide) (gw_le.rf _) ⟨by rw [rGo]; (repeat first | rw [if_pos (by omega)] | rw [if_neg (by omega)]) <;> rfl, rfl, rfl⟩
    · refine g_iconst fx dX3_goesOn_14 (by unfold okI; omega) ?_
      refine g_goto (tgt := 19) fx dX3_goesOn_15 (by decide) ?_
      exact g_zret fx rfl dX3_goesOn_19 (by first | exact Or.inl rfl | exact Or.inr rfl | omega) (by decide) (by decide) (gw_le.rf _) ⟨by rw [rGo]; (repeat first | rw [if_pos (by omega)] | rw [if_neg (by omega)]) <;> rfl, rfl, rfl⟩
set_option maxRecDepth 4000 in
theorem s_X3_takes (ad : Nat → Nat) (σ : Sg)  (j : Nat) (hj : j < 20) : gw_Sp yX3_takes cX3_takes 3 (some .boolean) 6 0 0 [vR (some 3), vX j] (gw_M0 ad) σ (gw_D (some (vI (rSp σ j))) (gw_M0 ad) (rTak σ j)) gw_no := by
  refine gw_Sp.of [some (vR (some 3)), some (vX j), none] (by decide +kernel) rfl (Nat.le_of_ble_eq_true rfl) ?_
  intro X G fx het hnm
  refine g_aload_n fx dX3_takes_0 rfl ?_
  refine g_xload_n fx dX3_takes_1 rfl ?_
  refine g_callVD fx dX3_takes_2 mv_RX3_52 my_X3_spells (s_X3_spells ad _ j hj) o_3 rfl rfl rfl (Nat.le_of_ble_eq_true rfl) (by decide) (by decide) ?_
  refine g_istore_n fx dX3_takes_5 (by decide) rfl rfl ?_
  refine g_iload_n fx dX3_takes_6 rfl ?_
  refine g_if_eq (tgt := 14) fx dX3_takes_7 (by decide) (fun h7 => ?_) (fun h7 => ?_)
  · refine g_iload_n fx dX3_takes_14 rfl ?_
    exact g_zret fx rfl dX3_takes_15 (rSpS_b σ j _ (rSp0_b σ j) _) (by decide) (by decide) (gw_le.rf _) ⟨rfl, rfl, by rw [rTak]; (repeat first | rw [if_pos (by omega)] | rw [if_neg (by omega)]) <;> rfl⟩
  · refine g_aload_n fx dX3_takes_10 rfl ?_
    refine g_callVD0 fx dX3_takes_11 mv_RX3_28 my_X3_advance (s_X3_advance ad _ ) o_3 rfl rfl rfl (Nat.le_of_ble_eq_true rfl) (by decide) (by decide) ?_
    refine g_iload_n fx dX3_takes_14 rfl ?_
    exact g_zret fx rfl dX3_takes_15 (rSpS_b σ j _ (rSp0_b σ j) _) (by decide) (by decide) (gw_le.rf _) ⟨rfl, rfl, by rw [rTak]; (repeat first | rw [if_pos (by omega)] | rw [if_neg (by omega)]) <;> rfl⟩
set_option maxRecDepth 4000 in
theorem s_X3_expect (ad : Nat → Nat) (σ : Sg)  (j : Nat) (hj : j < 20) : gw_Sp yX3_expect cX3_expect 2 none 6 0 0 [vR (some 3), vX j] (gw_M0 ad) σ (gw_D none (gw_M0 ad) (rExp σ j)) gw_no := by
  refine gw_Sp.of [some (vR (some 3)), some (vX j)] (by decide +kernel) rfl (Nat.le_of_ble_eq_true rfl) ?_
  intro X G fx het hnm
  refine g_aload_n fx dX3_expect_0 rfl ?_
  refine g_xload_n fx dX3_expect_1 rfl ?_
  refine g_callVD fx dX3_expect_2 mv_RX3_52 my_X3_spells (s_X3_spells ad _ j hj) o_3 rfl rfl rfl (Nat.le_of_ble_eq_true rfl) (by decide) (by decide) ?_
  refine g_if_eq (tgt := 15) fx dX3_expect_5 (by decide) (fun h5 => ?_) (fun h5 => ?_)
  · refine g_aload_n fx dX3_expect_15 rfl ?_
    refine g_iconst fx dX3_expect_16 (by unfold okI; omega) ?_
    refine g_callVD0 fx dX3_expect_17 mv_RX3_56 my_X3_fail (s_X3_fail ad _ _) o_3 rfl rfl rfl (Nat.le_of_ble_eq_true rfl) (by decide) (by decide) ?_
    exact g_vret fx rfl dX3_expect_20 (by decide) (by decide) (gw_le.rf _) ⟨rfl, rfl, by rw [rExp]; (repeat first | rw [if_pos (by omega)] | rw [if_neg (by omega)]) <;> rfl⟩
  · refine g_aload_n fx dX3_expect_8 rfl ?_
    refine g_callVD0 fx dX3_expect_9 mv_RX3_28 my_X3_advance (s_X3_advance ad _ ) o_3 rfl rfl rfl (Nat.le_of_ble_eq_true rfl) (by decide) (by decide) ?_
    refine g_goto (tgt := 20) fx dX3_expect_12 (by decide) ?_
    exact g_vret fx rfl dX3_expect_20 (by decide) (by decide) (gw_le.rf _) ⟨rfl, rfl, by rw [rExp]; (repeat first | rw [if_pos (by omega)] | rw [if_neg (by omega)]) <;> rfl⟩
set_option maxRecDepth 4000 in
theorem s_X3_number (ad : Nat → Nat) (σ : Sg)  (lo : Int) (hi : Int) : gw_Sp yX3_number cX3_number 4 (some .int) 3 0 0 [vR (some 3), vI lo, vI hi] (gw_M0 ad) σ (gw_D (some (vI (rNum σ lo hi).1)) (gw_M0 ad) ((rNum σ lo hi).2)) gw_no := by
  refine gw_Sp.of [some (vR (some 3)), some (vI lo), some (vI hi), none] (by decide +kernel) rfl (Nat.le_of_ble_eq_true rfl) ?_
  intro X G fx het hnm
  refine g_aload_n fx dX3_number_0 rfl ?_
  refine g_geti fx dX3_number_1 fk_RX3_60 (by decide) o_3 ?_
  refine g_istore_n fx dX3_number_4 (by decide) rfl rfl ?_
  refine g_aload_n fx dX3_number_5 rfl ?_
  refine g_geti fx dX3_number_6 fk_RX3_31 (by decide) o_3 ?_
  refine g_iconst fx dX3_number_9 (by unfold okI; omega) ?_
  refine g_icmp_eq (tgt := 20) fx dX3_number_10 (by decide) (fun h10 => ?_) (fun h10 => ?_)
  · refine g_iload_n fx dX3_number_20 rfl ?_
    refine g_iload_n fx dX3_number_21 rfl ?_
    refine g_icmp_lt (tgt := 30) fx dX3_number_22 (by decide) (fun h22 => ?_) (fun h22 => ?_)
    · refine g_aload_n fx dX3_number_30 rfl ?_
      refine g_iconst fx dX3_number_31 (by unfold okI; omega) ?_
      refine g_callVD0 fx dX3_number_32 mv_RX3_56 my_X3_fail (s_X3_fail ad _ _) o_3 rfl rfl rfl (Nat.le_of_ble_eq_true rfl) (by decide) (by decide) ?_
      refine g_iload_n fx dX3_number_35 rfl ?_
      exact g_iret fx rfl dX3_number_36 (by decide) (by decide) (gw_le.rf _) ⟨by rw [rNum]; (repeat first | rw [if_pos (by omega)] | rw [if_neg (by omega)]) <;> rfl, rfl, by rw [rNum]; (repeat first | rw [if_pos (by omega)] | rw [if_neg (by omega)]) <;> rfl⟩
    · refine g_iload_n fx dX3_number_25 rfl ?_
      refine g_iload_n fx dX3_number_26 rfl ?_
      refine g_icmp_le (tgt := 37) fx dX3_number_27 (by decide) (fun h27 => ?_) (fun h27 => ?_)
      · refine g_aload_n fx dX3_number_37 rfl ?_
        refine g_callVD0 fx dX3_number_38 mv_RX3_28 my_X3_advance (s_X3_advance ad _ ) o_3 rfl rfl rfl (Nat.le_of_ble_eq_true rfl) (by decide) (by decide) ?_
        refine g_iload_n fx dX3_number_41 rfl ?_
        exact g_iret fx rfl dX3_number_42 (by decide) (by decide) (gw_le.rf _) ⟨by rw [rNum]; (repeat first | rw [if_pos (by omega)] | rw [if_neg (by omega)]) <;> rfl, rfl, by rw [rNum]; (repeat first | rw [if_pos (by omega)] | rw [if_neg (by omega)]) <;> rfl⟩
      · refine g_aload_n fx dX3_number_30 rfl ?_
        refine g_iconst fx dX3_number_31 (by unfold okI; omega) ?_
        refine g_callVD0 fx dX3_number_32 mv_RX3_56 my_X3_fail (s_X3_fail ad _ _) o_3 rfl rfl rfl (Nat.le_of_ble_eq_true rfl) (by decide) (by decide) ?_
        refine g_iload_n fx dX3_number_35 rfl ?_
        exact g_iret fx rfl dX3_number_36 (by decide) (by decide) (gw_le.rf _) ⟨by rw [rNum]; (repeat first | rw [if_pos (by omega)] | rw [if_neg (by omega)]) <;> rfl, rfl, by rw [rNum]; (repeat first | rw [if_pos (by omega)] | rw [if_neg (by omega)]) <;> rfl⟩
  · refine g_aload_n fx dX3_number_13 rfl ?_
    refine g_iconst fx dX3_number_14 (by unfold okI; omega) ?_
    refine g_callVD0 fx dX3_number_15 mv_RX3_56 my_X3_fail (s_X3_fail ad _ _) o_3 rfl rfl rfl (Nat.le_of_ble_eq_true rfl) (by decide) (by decide) ?_
    refine g_iload_n fx dX3_number_18 rfl ?_
    exact g_iret fx rfl dX3_number_19 (by decide) (by decide) (gw_le.rf _) ⟨by rw [rNum]; (repeat first | rw [if_pos (by omega)] | rw [if_neg (by omega)]) <;> rfl, rfl, by rw [rNum]; (repeat first | rw [if_pos (by omega)] | rw [if_neg (by omega)]) <;> rfl⟩
set_option maxRecDepth 4000 in
theorem s_X3_endLine (ad : Nat → Nat) (σ : Sg)  : gw_Sp yX3_endLine cX3_endLine 1 none 3 0 0 [vR (some 3)] (gw_M0 ad) σ (gw_D none (gw_M0 ad) (rEnd σ)) gw_no := by
  refine gw_Sp.of [some (vR (some 3))] (by decide +kernel) rfl (Nat.le_of_ble_eq_true rfl) ?_
  intro X G fx het hnm
  refine g_aload_n fx dX3_endLine_0 rfl ?_
  refine g_geti fx dX3_endLine_1 fk_RX3_31 (by decide) o_3 ?_
  refine g_iconst fx dX3_endLine_4 (by unfold okI; omega) ?_
  refine g_icmp_ne (tgt := 15) fx dX3_endLine_5 (by decide) (fun h5 => ?_) (fun h5 => ?_)
  · refine g_aload_n fx dX3_endLine_15 rfl ?_
    refine g_iconst fx dX3_endLine_16 (by unfold okI; omega) ?_
    refine g_callVD0 fx dX3_endLine_17 mv_RX3_56 my_X3_fail (s_X3_fail ad _ _) o_3 rfl rfl rfl (Nat.le_of_ble_eq_true rfl) (by decide) (by decide) ?_
    exact g_vret fx rfl dX3_endLine_20 (by decide) (by decide) (gw_le.rf _) ⟨rfl, rfl, by rw [rEnd]; (repeat first | rw [if_pos (by omega)] | rw [if_neg (by omega)]) <;> rfl⟩
  · refine g_aload_n fx dX3_endLine_8 rfl ?_
    refine g_callVD0 fx dX3_endLine_9 mv_RX3_28 my_X3_advance (s_X3_advance ad _ ) o_3 rfl rfl rfl (Nat.le_of_ble_eq_true rfl) (by decide) (by decide) ?_
    refine g_goto (tgt := 20) fx dX3_endLine_12 (by decide) ?_
    exact g_vret fx rfl dX3_endLine_20 (by decide) (by decide) (gw_le.rf _) ⟨rfl, rfl, by rw [rEnd]; (repeat first | rw [if_pos (by omega)] | rw [if_neg (by omega)]) <;> rfl⟩
set_option maxRecDepth 4000 in
theorem s_X3_open (ad : Nat → Nat) (σ : Sg)  (n : Int) : gw_Sp yX3_open cX3_open 2 none 3 0 0 [vR (some 3), vI n] (gw_M0 ad) σ (gw_D none (gw_M0 ad) (rOpen σ n)) gw_no := by
  refine gw_Sp.of [some (vR (some 3)), some (vI n)] (by decide +kernel) rfl (Nat.le_of_ble_eq_true rfl) ?_
  intro X G fx het hnm
  refine g_aload_n fx dX3_open_0 rfl ?_
  refine g_iload_n fx dX3_open_1 rfl ?_
  refine g_puti fx dX3_open_2 fk_RX3_19 o_3 ?_
  refine g_aload_n fx dX3_open_5 rfl ?_
  refine g_iconst fx dX3_open_6 (by unfold okI; omega) ?_
  refine g_puti fx dX3_open_7 fk_RX3_22 o_3 ?_
  refine g_aload_n fx dX3_open_10 rfl ?_
  refine g_iconst fx dX3_open_11 (by unfold okI; omega) ?_
  refine g_puti fx dX3_open_12 fk_RX3_25 o_3 ?_
  refine g_aload_n fx dX3_open_15 rfl ?_
  refine g_iconst fx dX3_open_16 (by unfold okI; omega) ?_
  refine g_puti fx dX3_open_17 fk_RX3_9 o_3 ?_
  refine g_aload_n fx dX3_open_20 rfl ?_
  refine g_callVD0 fx dX3_open_21 mv_RX3_28 my_X3_advance (s_X3_advance ad _ ) o_3 rfl rfl rfl (Nat.le_of_ble_eq_true rfl) (by decide) (by decide) ?_
  exact g_vret fx rfl dX3_open_24 (by decide) (by decide) (gw_le.rf _) ⟨rfl, rfl, rfl⟩
