theorem dX11_reads_0 : gw_dc cX11_reads 0 (.aload_n 0) 1 1 := ⟨by decide +kernel, rfl⟩
theorem dX11_reads_1 : gw_dc cX11_reads 1 (.getfield 97) 3 4 := ⟨by decide +kernel, rfl⟩
theorem fk_RX11_97 : gw_fk RX11 97 11 9 42 0 false := ⟨_, _, _, ck_11, by decide, by decide, fun _ => rfl, fun h => absurd h (by decide), fun h => absurd h (by decide), rfl, Or.inl (gw_mem 1430 (by decide +kernel) rfl)⟩
theorem dX11_reads_4 : gw_dc cX11_reads 4 (.aload_n 0) 1 5 := ⟨by decide +kernel, rfl⟩
theorem dX11_reads_5 : gw_dc cX11_reads 5 (.getfield 94) 3 8 := ⟨by decide +kernel, rfl⟩
theorem dX11_reads_8 : gw_dc cX11_reads 8 (.if_icmp .ge 44) 3 11 := ⟨by decide +kernel, rfl⟩
theorem dX11_reads_52 : gw_dc cX11_reads 52 (.aload_n 0) 1 53 := ⟨by decide +kernel, rfl⟩
theorem dX11_reads_53 : gw_dc cX11_reads 53 (.aload_n 0) 1 54 := ⟨by decide +kernel, rfl⟩
theorem dX11_reads_54 : gw_dc cX11_reads 54 (.getfield 97) 3 57 := ⟨by decide +kernel, rfl⟩
theorem dX11_reads_57 : gw_dc cX11_reads 57 (.putfield 100) 3 60 := ⟨by decide +kernel, rfl⟩
theorem dX11_reads_60 : gw_dc cX11_reads 60 (.aload_n 0) 1 61 := ⟨by decide +kernel, rfl⟩
theorem dX11_reads_61 : gw_dc cX11_reads 61 (.getfield 97) 3 64 := ⟨by decide +kernel, rfl⟩
theorem dX11_reads_64 : gw_dc cX11_reads 64 (.aload_n 0) 1 65 := ⟨by decide +kernel, rfl⟩
theorem dX11_reads_65 : gw_dc cX11_reads 65 (.getfield 94) 3 68 := ⟨by decide +kernel, rfl⟩
theorem dX11_reads_68 : gw_dc cX11_reads 68 (.if_icmp .lt 9) 3 71 := ⟨by decide +kernel, rfl⟩
theorem dX11_reads_77 : gw_dc cX11_reads 77 (.aload_n 0) 1 78 := ⟨by decide +kernel, rfl⟩
theorem dX11_reads_78 : gw_dc cX11_reads 78 (.getfield 26) 3 81 := ⟨by decide +kernel, rfl⟩
theorem dX11_reads_81 : gw_dc cX11_reads 81 (.aload_n 0) 1 82 := ⟨by decide +kernel, rfl⟩
theorem dX11_reads_82 : gw_dc cX11_reads 82 (.getfield 97) 3 85 := ⟨by decide +kernel, rfl⟩
theorem dX11_reads_85 : gw_dc cX11_reads 85 (.iaload) 1 86 := ⟨by decide +kernel, rfl⟩
theorem dX11_reads_86 : gw_dc cX11_reads 86 (.istore_n 1) 1 87 := ⟨by decide +kernel, rfl⟩
theorem dX11_reads_87 : gw_dc cX11_reads 87 (.iload_n 1) 1 88 := ⟨by decide +kernel, rfl⟩
theorem dX11_reads_88 : gw_dc cX11_reads 88 (.invokestatic 106) 3 91 := ⟨by decide +kernel, rfl⟩
theorem ms_RX11_106 : gw_mst RX11 106 yX11_isLetter := ⟨gw_mem 1576 (by decide +kernel) rfl, gw_mem 1577 (by decide +kernel) rfl⟩
theorem my_X11_isLetter : gw_my yX11_isLetter cX11_isLetter 1 (some .boolean) 1 := ⟨gw_mem 1578 (by decide +kernel) rfl, gw_mem 106 (by decide +kernel) rfl, by decide +kernel, by decide⟩
theorem dX11_reads_91 : gw_dc cX11_reads 91 (.ifCond .eq 38) 3 94 := ⟨by decide +kernel, rfl⟩
theorem dX11_reads_129 : gw_dc cX11_reads 129 (.iload_n 1) 1 130 := ⟨by decide +kernel, rfl⟩
theorem dX11_reads_130 : gw_dc cX11_reads 130 (.invokestatic 114) 3 133 := ⟨by decide +kernel, rfl⟩
theorem ms_RX11_114 : gw_mst RX11 114 yX11_isDigit := ⟨gw_mem 1583 (by decide +kernel) rfl, gw_mem 1584 (by decide +kernel) rfl⟩
theorem my_X11_isDigit : gw_my yX11_isDigit cX11_isDigit 1 (some .boolean) 1 := ⟨gw_mem 1585 (by decide +kernel) rfl, gw_mem 106 (by decide +kernel) rfl, by decide +kernel, by decide⟩
theorem dX11_reads_133 : gw_dc cX11_reads 133 (.ifCond .eq 104) 3 136 := ⟨by decide +kernel, rfl⟩
theorem dX11_reads_237 : gw_dc cX11_reads 237 (.aload_n 0) 1 238 := ⟨by decide +kernel, rfl⟩
theorem dX11_reads_238 : gw_dc cX11_reads 238 (.iload_n 1) 1 239 := ⟨by decide +kernel, rfl⟩
theorem dX11_reads_239 : gw_dc cX11_reads 239 (.bipush 59) 2 241 := ⟨by decide +kernel, rfl⟩
theorem dX11_reads_241 : gw_dc cX11_reads 241 (.if_icmp .ne 7) 3 244 := ⟨by decide +kernel, rfl⟩
theorem dX11_reads_248 : gw_dc cX11_reads 248 (.iconst 4) 1 249 := ⟨by decide +kernel, rfl⟩
theorem dX11_reads_249 : gw_dc cX11_reads 249 (.putfield 103) 3 252 := ⟨by decide +kernel, rfl⟩
theorem dX11_reads_252 : gw_dc cX11_reads 252 (.aload_n 0) 1 253 := ⟨by decide +kernel, rfl⟩
theorem dX11_reads_253 : gw_dc cX11_reads 253 (.dup) 1 254 := ⟨by decide +kernel, rfl⟩
theorem dX11_reads_254 : gw_dc cX11_reads 254 (.getfield 97) 3 257 := ⟨by decide +kernel, rfl⟩
theorem dX11_reads_257 : gw_dc cX11_reads 257 (.iconst 1) 1 258 := ⟨by decide +kernel, rfl⟩
theorem dX11_reads_258 : gw_dc cX11_reads 258 (.iadd) 1 259 := ⟨by decide +kernel, rfl⟩
theorem dX11_reads_259 : gw_dc cX11_reads 259 (.putfield 97) 3 262 := ⟨by decide +kernel, rfl⟩
theorem dX11_reads_262 : decode cX11_reads 262 = .ok (.return_, 1) := by decide +kernel
theorem dX11_reads_244 : gw_dc cX11_reads 244 (.iconst 3) 1 245 := ⟨by decide +kernel, rfl⟩
theorem dX11_reads_245 : gw_dc cX11_reads 245 (.goto 4) 3 248 := ⟨by decide +kernel, rfl⟩
theorem dX11_reads_136 : gw_dc cX11_reads 136 (.aload_n 0) 1 137 := ⟨by decide +kernel, rfl⟩
theorem dX11_reads_137 : gw_dc cX11_reads 137 (.iconst 0) 1 138 := ⟨by decide +kernel, rfl⟩
theorem dX11_reads_138 : gw_dc cX11_reads 138 (.putfield 117) 3 141 := ⟨by decide +kernel, rfl⟩
theorem fk_RX11_117 : gw_fk RX11 117 11 12 42 0 false := ⟨_, _, _, ck_11, by decide, by decide, fun _ => rfl, fun h => absurd h (by decide), fun h => absurd h (by decide), rfl, Or.inl (gw_mem 1433 (by decide +kernel) rfl)⟩
theorem dX11_reads_141 : gw_dc cX11_reads 141 (.aload_n 0) 1 142 := ⟨by decide +kernel, rfl⟩
theorem dX11_reads_142 : gw_dc cX11_reads 142 (.aload_n 0) 1 143 := ⟨by decide +kernel, rfl⟩
theorem dX11_reads_143 : gw_dc cX11_reads 143 (.getfield 97) 3 146 := ⟨by decide +kernel, rfl⟩
theorem dX11_reads_146 : gw_dc cX11_reads 146 (.invokevirtual 110) 3 149 := ⟨by decide +kernel, rfl⟩
theorem mv_RX11_110 : gw_mv RX11 110 yX11_see := ⟨gw_mem 1579 (by decide +kernel) rfl, gw_mem 1581 (by decide +kernel) rfl, gw_mem 41 (by decide +kernel) rfl⟩
theorem my_X11_see : gw_my yX11_see cX11_see 2 (some .int) 1 := ⟨gw_mem 1582 (by decide +kernel) rfl, gw_mem 106 (by decide +kernel) rfl, by decide +kernel, by decide⟩
theorem dX11_reads_149 : gw_dc cX11_reads 149 (.invokestatic 114) 3 152 := ⟨by decide +kernel, rfl⟩
theorem dX11_reads_152 : gw_dc cX11_reads 152 (.ifCond .eq 60) 3 155 := ⟨by decide +kernel, rfl⟩
theorem dX11_reads_212 : gw_dc cX11_reads 212 (.aload_n 0) 1 213 := ⟨by decide +kernel, rfl⟩
theorem dX11_reads_213 : gw_dc cX11_reads 213 (.aload_n 0) 1 214 := ⟨by decide +kernel, rfl⟩
theorem dX11_reads_214 : gw_dc cX11_reads 214 (.getfield 97) 3 217 := ⟨by decide +kernel, rfl⟩
theorem dX11_reads_217 : gw_dc cX11_reads 217 (.aload_n 0) 1 218 := ⟨by decide +kernel, rfl⟩
theorem dX11_reads_218 : gw_dc cX11_reads 218 (.getfield 100) 3 221 := ⟨by decide +kernel, rfl⟩
theorem dX11_reads_221 : gw_dc cX11_reads 221 (.isub) 1 222 := ⟨by decide +kernel, rfl⟩
theorem dX11_reads_222 : gw_dc cX11_reads 222 (.iconst 3) 1 223 := ⟨by decide +kernel, rfl⟩
theorem dX11_reads_223 : gw_dc cX11_reads 223 (.if_icmp .le 7) 3 226 := ⟨by decide +kernel, rfl⟩
theorem dX11_reads_230 : gw_dc cX11_reads 230 (.iconst 2) 1 231 := ⟨by decide +kernel, rfl⟩
theorem dX11_reads_231 : gw_dc cX11_reads 231 (.putfield 103) 3 234 := ⟨by decide +kernel, rfl⟩
theorem dX11_reads_234 : gw_dc cX11_reads 234 (.goto 28) 3 237 := ⟨by decide +kernel, rfl⟩
theorem dX11_reads_226 : gw_dc cX11_reads 226 (.iconst 4) 1 227 := ⟨by decide +kernel, rfl⟩
theorem dX11_reads_227 : gw_dc cX11_reads 227 (.goto 4) 3 230 := ⟨by decide +kernel, rfl⟩
theorem dX11_reads_155 : gw_dc cX11_reads 155 (.aload_n 0) 1 156 := ⟨by decide +kernel, rfl⟩
theorem dX11_reads_156 : gw_dc cX11_reads 156 (.aload_n 0) 1 157 := ⟨by decide +kernel, rfl⟩
theorem dX11_reads_157 : gw_dc cX11_reads 157 (.getfield 97) 3 160 := ⟨by decide +kernel, rfl⟩
theorem dX11_reads_160 : gw_dc cX11_reads 160 (.aload_n 0) 1 161 := ⟨by decide +kernel, rfl⟩
theorem dX11_reads_161 : gw_dc cX11_reads 161 (.getfield 100) 3 164 := ⟨by decide +kernel, rfl⟩
theorem dX11_reads_164 : gw_dc cX11_reads 164 (.isub) 1 165 := ⟨by decide +kernel, rfl⟩
theorem dX11_reads_165 : gw_dc cX11_reads 165 (.iconst 3) 1 166 := ⟨by decide +kernel, rfl⟩
theorem dX11_reads_166 : gw_dc cX11_reads 166 (.if_icmp .ge 26) 3 169 := ⟨by decide +kernel, rfl⟩
theorem dX11_reads_192 : gw_dc cX11_reads 192 (.aload_n 0) 1 193 := ⟨by decide +kernel, rfl⟩
theorem dX11_reads_193 : gw_dc cX11_reads 193 (.getfield 117) 3 196 := ⟨by decide +kernel, rfl⟩
theorem dX11_reads_196 : gw_dc cX11_reads 196 (.putfield 117) 3 199 := ⟨by decide +kernel, rfl⟩
theorem dX11_reads_199 : gw_dc cX11_reads 199 (.aload_n 0) 1 200 := ⟨by decide +kernel, rfl⟩
theorem dX11_reads_200 : gw_dc cX11_reads 200 (.dup) 1 201 := ⟨by decide +kernel, rfl⟩
theorem dX11_reads_201 : gw_dc cX11_reads 201 (.getfield 97) 3 204 := ⟨by decide +kernel, rfl⟩
theorem dX11_reads_204 : gw_dc cX11_reads 204 (.iconst 1) 1 205 := ⟨by decide +kernel, rfl⟩
theorem dX11_reads_205 : gw_dc cX11_reads 205 (.iadd) 1 206 := ⟨by decide +kernel, rfl⟩
theorem dX11_reads_206 : gw_dc cX11_reads 206 (.putfield 97) 3 209 := ⟨by decide +kernel, rfl⟩
theorem dX11_reads_209 : gw_dc cX11_reads 209 (.goto (-68)) 3 212 := ⟨by decide +kernel, rfl⟩
theorem dX11_reads_169 : gw_dc cX11_reads 169 (.bipush 10) 2 171 := ⟨by decide +kernel, rfl⟩
theorem dX11_reads_171 : gw_dc cX11_reads 171 (.aload_n 0) 1 172 := ⟨by decide +kernel, rfl⟩
theorem dX11_reads_172 : gw_dc cX11_reads 172 (.getfield 117) 3 175 := ⟨by decide +kernel, rfl⟩
theorem dX11_reads_175 : gw_dc cX11_reads 175 (.imul) 1 176 := ⟨by decide +kernel, rfl⟩
theorem dX11_reads_176 : gw_dc cX11_reads 176 (.aload_n 0) 1 177 := ⟨by decide +kernel, rfl⟩
theorem dX11_reads_177 : gw_dc cX11_reads 177 (.getfield 26) 3 180 := ⟨by decide +kernel, rfl⟩
theorem dX11_reads_180 : gw_dc cX11_reads 180 (.aload_n 0) 1 181 := ⟨by decide +kernel, rfl⟩
theorem dX11_reads_181 : gw_dc cX11_reads 181 (.getfield 97) 3 184 := ⟨by decide +kernel, rfl⟩
theorem dX11_reads_184 : gw_dc cX11_reads 184 (.iaload) 1 185 := ⟨by decide +kernel, rfl⟩
theorem dX11_reads_185 : gw_dc cX11_reads 185 (.iadd) 1 186 := ⟨by decide +kernel, rfl⟩
theorem dX11_reads_186 : gw_dc cX11_reads 186 (.bipush 48) 2 188 := ⟨by decide +kernel, rfl⟩
theorem dX11_reads_188 : gw_dc cX11_reads 188 (.isub) 1 189 := ⟨by decide +kernel, rfl⟩
theorem dX11_reads_189 : gw_dc cX11_reads 189 (.goto 7) 3 192 := ⟨by decide +kernel, rfl⟩
theorem dX11_reads_94 : gw_dc cX11_reads 94 (.aload_n 0) 1 95 := ⟨by decide +kernel, rfl⟩
theorem dX11_reads_95 : gw_dc cX11_reads 95 (.aload_n 0) 1 96 := ⟨by decide +kernel, rfl⟩
theorem dX11_reads_96 : gw_dc cX11_reads 96 (.getfield 97) 3 99 := ⟨by decide +kernel, rfl⟩
theorem dX11_reads_99 : gw_dc cX11_reads 99 (.invokevirtual 110) 3 102 := ⟨by decide +kernel, rfl⟩
theorem dX11_reads_102 : gw_dc cX11_reads 102 (.invokestatic 106) 3 105 := ⟨by decide +kernel, rfl⟩
theorem dX11_reads_105 : gw_dc cX11_reads 105 (.ifCond .eq 16) 3 108 := ⟨by decide +kernel, rfl⟩
theorem dX11_reads_121 : gw_dc cX11_reads 121 (.aload_n 0) 1 122 := ⟨by decide +kernel, rfl⟩
theorem dX11_reads_122 : gw_dc cX11_reads 122 (.iconst 1) 1 123 := ⟨by decide +kernel, rfl⟩
theorem dX11_reads_123 : gw_dc cX11_reads 123 (.putfield 103) 3 126 := ⟨by decide +kernel, rfl⟩
theorem dX11_reads_126 : gw_dc cX11_reads 126 (.goto 136) 3 129 := ⟨by decide +kernel, rfl⟩
theorem dX11_reads_108 : gw_dc cX11_reads 108 (.aload_n 0) 1 109 := ⟨by decide +kernel, rfl⟩
theorem dX11_reads_109 : gw_dc cX11_reads 109 (.dup) 1 110 := ⟨by decide +kernel, rfl⟩
theorem dX11_reads_110 : gw_dc cX11_reads 110 (.getfield 97) 3 113 := ⟨by decide +kernel, rfl⟩
theorem dX11_reads_113 : gw_dc cX11_reads 113 (.iconst 1) 1 114 := ⟨by decide +kernel, rfl⟩
theorem dX11_reads_114 : gw_dc cX11_reads 114 (.iadd) 1 115 := ⟨by decide +kernel, rfl⟩
theorem dX11_reads_115 : gw_dc cX11_reads 115 (.putfield 97) 3 118 := ⟨by decide +kernel, rfl⟩
theorem dX11_reads_118 : gw_dc cX11_reads 118 (.goto (-24)) 3 121 := ⟨by decide +kernel, rfl⟩
theorem dX11_reads_71 : gw_dc cX11_reads 71 (.aload_n 0) 1 72 := ⟨by decide +kernel, rfl⟩
theorem dX11_reads_72 : gw_dc cX11_reads 72 (.iconst 0) 1 73 := ⟨by decide +kernel, rfl⟩
theorem dX11_reads_73 : gw_dc cX11_reads 73 (.putfield 103) 3 76 := ⟨by decide +kernel, rfl⟩
theorem dX11_reads_76 : decode cX11_reads 76 = .ok (.return_, 1) := by decide +kernel
theorem dX11_reads_11 : gw_dc cX11_reads 11 (.aload_n 0) 1 12 := ⟨by decide +kernel, rfl⟩
theorem dX11_reads_12 : gw_dc cX11_reads 12 (.getfield 26) 3 15 := ⟨by decide +kernel, rfl⟩
theorem dX11_reads_15 : gw_dc cX11_reads 15 (.aload_n 0) 1 16 := ⟨by decide +kernel, rfl⟩
theorem dX11_reads_16 : gw_dc cX11_reads 16 (.getfield 97) 3 19 := ⟨by decide +kernel, rfl⟩
theorem dX11_reads_19 : gw_dc cX11_reads 19 (.iaload) 1 20 := ⟨by decide +kernel, rfl⟩
theorem dX11_reads_20 : gw_dc cX11_reads 20 (.bipush 32) 2 22 := ⟨by decide +kernel, rfl⟩
theorem dX11_reads_22 : gw_dc cX11_reads 22 (.if_icmp .eq 17) 3 25 := ⟨by decide +kernel, rfl⟩
theorem dX11_reads_39 : gw_dc cX11_reads 39 (.aload_n 0) 1 40 := ⟨by decide +kernel, rfl⟩
theorem dX11_reads_40 : gw_dc cX11_reads 40 (.dup) 1 41 := ⟨by decide +kernel, rfl⟩
theorem dX11_reads_41 : gw_dc cX11_reads 41 (.getfield 97) 3 44 := ⟨by decide +kernel, rfl⟩
theorem dX11_reads_44 : gw_dc cX11_reads 44 (.iconst 1) 1 45 := ⟨by decide +kernel, rfl⟩
theorem dX11_reads_45 : gw_dc cX11_reads 45 (.iadd) 1 46 := ⟨by decide +kernel, rfl⟩
theorem dX11_reads_46 : gw_dc cX11_reads 46 (.putfield 97) 3 49 := ⟨by decide +kernel, rfl⟩
theorem dX11_reads_49 : gw_dc cX11_reads 49 (.goto (-49)) 3 52 := ⟨by decide +kernel, rfl⟩
theorem dX11_reads_25 : gw_dc cX11_reads 25 (.aload_n 0) 1 26 := ⟨by decide +kernel, rfl⟩
theorem dX11_reads_26 : gw_dc cX11_reads 26 (.getfield 26) 3 29 := ⟨by decide +kernel, rfl⟩
theorem dX11_reads_29 : gw_dc cX11_reads 29 (.aload_n 0) 1 30 := ⟨by decide +kernel, rfl⟩
theorem dX11_reads_30 : gw_dc cX11_reads 30 (.getfield 97) 3 33 := ⟨by decide +kernel, rfl⟩
theorem dX11_reads_33 : gw_dc cX11_reads 33 (.iaload) 1 34 := ⟨by decide +kernel, rfl⟩
theorem dX11_reads_34 : gw_dc cX11_reads 34 (.bipush 10) 2 36 := ⟨by decide +kernel, rfl⟩
theorem dX11_reads_36 : gw_dc cX11_reads 36 (.if_icmp .ne 16) 3 39 := ⟨by decide +kernel, rfl⟩
/-! The model, 2: its reader (9 at, 10 begin, 11 token, 12 value) -/
def mk4 (σ : Sg) (t bg tk v : Int) : Sg := fun a j => if a = 223 then (if j = 9 then t else if j = 10 then bg else if j = 11 then tk else if j = 12 then v else σ 223 j) else σ a j
theorem mk4_r7 (σ : Sg) (t bg tk v : Int) : mk4 σ t bg tk v 223 7 = σ 223 7 := rfl
theorem mk4_r8 (σ : Sg) (t bg tk v : Int) : mk4 σ t bg tk v 223 8 = σ 223 8 := rfl
theorem mk4_r9 (σ : Sg) (t bg tk v : Int) : mk4 σ t bg tk v 223 9 = t := rfl
theorem mk4_r10 (σ : Sg) (t bg tk v : Int) : mk4 σ t bg tk v 223 10 = bg := rfl
theorem mk4_r11 (σ : Sg) (t bg tk v : Int) : mk4 σ t bg tk v 223 11 = tk := rfl
theorem mk4_r12 (σ : Sg) (t bg tk v : Int) : mk4 σ t bg tk v 223 12 = v := rfl
theorem mk4_t (σ : Sg) (t bg tk v : Int) (j : Nat) : mk4 σ t bg tk v 229 j = σ 229 j := rfl
theorem mk4_w9 (σ : Sg) (t bg tk v x : Int) : su (mk4 σ t bg tk v) 223 9 x = mk4 σ x bg tk v := by
  funext a j; unfold su mk4; by_cases h : a = 223 <;> by_cases h2 : j = 9 <;> simp_all
theorem mk4_w10 (σ : Sg) (t bg tk v x : Int) : su (mk4 σ t bg tk v) 223 10 x = mk4 σ t x tk v := by
  funext a j; unfold su mk4; by_cases h : a = 223 <;> by_cases h2 : j = 10 <;> simp_all
theorem mk4_w11 (σ : Sg) (t bg tk v x : Int) : su (mk4 σ t bg tk v) 223 11 x = mk4 σ t bg x v := by
  funext a j; unfold su mk4; by_cases h : a = 223 <;> by_cases h2 : j = 11 <;> simp_all
theorem mk4_w12 (σ : Sg) (t bg tk v x : Int) : su (mk4 σ t bg tk v) 223 12 x = mk4 σ t bg tk x := by
  funext a j; unfold su mk4; by_cases h : a = 223 <;> by_cases h2 : j = 12 <;> simp_all
theorem mk4_id (σ : Sg) : mk4 σ (σ 223 9) (σ 223 10) (σ 223 11) (σ 223 12) = σ := by
  funext a j; unfold mk4
  by_cases h : a = 223
  · subst h
    by_cases h2 : j = 9
    · simp [h2]
    · by_cases h3 : j = 10
      · simp [h3]
      · by_cases h4 : j = 11
        · simp [h4]
        · by_cases h5 : j = 12
          · simp [h5]
          · simp [h2, h3, h4, h5]
  · simp [h]
theorem nSee_mk4 (σ : Sg) (t bg tk v i : Int) : nSee (mk4 σ t bg tk v) i = nSee σ i := rfl
def tpF (σ : Sg) (i : Int) : Int := σ 229 i.toNat
def nWs (σ : Sg) : Int := wsp (σ 223 8) (tpF σ) (σ 223 8 - σ 223 9).toNat (σ 223 9)
def nLt (σ : Sg) : Int := ltp (σ 223 8) (tpF σ) (σ 223 8 - nWs σ).toNat (nWs σ)
def nDg (σ : Sg) : Int × Int := dgp (σ 223 8) (tpF σ) (nWs σ) (σ 223 8 - nWs σ).toNat 0 (nWs σ)
def nRd (σ : Sg) : Sg :=
  if σ 223 8 ≤ nWs σ then mk4 σ (nWs σ) (nWs σ) 0 (σ 223 12)
  else if isL (tpF σ (nWs σ)) ≠ 0 then mk4 σ (nLt σ) (nWs σ) 1 (σ 223 12)
  else if isD (tpF σ (nWs σ)) ≠ 0 then mk4 σ (nDg σ).2 (nWs σ) (if wr ((nDg σ).2 - nWs σ) ≤ 3 then 2 else 4) (nDg σ).1
  else mk4 σ (nWs σ + 1) (nWs σ) (if tpF σ (nWs σ) = 59 then 3 else 4) (σ 223 12)
theorem nSee_L (σ : Sg) (k : Int) : isL (nSee σ k) ≠ 0 ↔ k < σ 223 8 ∧ isL (tpF σ k) ≠ 0 := by
  unfold nSee tpF; split
  · constructor
    · exact fun h => ⟨by assumption, h⟩
    · exact fun h => h.2
  · constructor
    · exact fun h => absurd (by decide) h
    · exact fun h => absurd h.1 (by assumption)
theorem nSee_D (σ : Sg) (k : Int) : isD (nSee σ k) ≠ 0 ↔ k < σ 223 8 ∧ isD (tpF σ k) ≠ 0 := by
  unfold nSee tpF; split
  · constructor
    · exact fun h => ⟨by assumption, h⟩
    · exact fun h => h.2
  · constructor
    · exact fun h => absurd (by decide) h
    · exact fun h => absurd h.1 (by assumption)
set_option maxRecDepth 4000 in
theorem s_X11_reads (ad : Nat → Nat) (σ : Sg)  (h9 : 0 ≤ σ 223 9) (h8 : σ 223 8 ≤ 900) : gw_Sp yX11_reads cX11_reads 2 none 2 0 0 [vR (some 223)] (gw_M0 ad) σ (gw_D none (gw_M0 ad) (nRd σ)) gw_no := by
  refine gw_Sp.of [some (vR (some 223)), none] (by decide +kernel) rfl (Nat.le_of_ble_eq_true rfl) ?_
  intro X G fx het hnm
  have loop0 : ∀ k : Nat, k ≤ (σ 223 8 - σ 223 9).toNat → nWs σ = wsp (σ 223 8) (tpF σ) ((σ 223 8 - σ 223 9).toNat - k) (σ 223 9 + (k : Nat)) → gw_W X (yX11_reads.cls, cX11_reads, 2, none, 2, 0, 0) G (gw_Z X G (gw_M0 ad) σ (gw_D none (gw_M0 ad) (nRd σ)) gw_no 0 0) 0 0 (gw_M0 ad) (mk4 σ (σ 223 9 + (k : Nat)) (σ 223 10) (σ 223 11) (σ 223 12)) 0 [some (vR (some 223)), none] [] := by
    refine up_ind _ ((σ 223 8 - σ 223 9).toNat) (fun k hk ih => ?_)
    intro he0
    refine g_aload_n fx dX11_reads_0 rfl ?_
    refine g_geti fx dX11_reads_1 fk_RX11_97 (by decide) o_223 ?_
    rw [mk4_r9]
    refine g_aload_n fx dX11_reads_4 rfl ?_
    refine g_geti fx dX11_reads_5 fk_RX11_94 (by decide) o_223 ?_
    rw [mk4_r8]
    refine g_icmp_ge (tgt := 52) fx dX11_reads_8 (by decide) (fun h8 => ?_) (fun h8 => ?_)
    · have hp : nWs σ = σ 223 9 + (k : Nat) := by rw [he0, wsp_z (by omega)]
      generalize hpe : σ 223 9 + (k : Nat) = p at *
      refine g_aload_n fx dX11_reads_52 rfl ?_
      refine g_aload_n fx dX11_reads_53 rfl ?_
      refine g_geti fx dX11_reads_54 fk_RX11_97 (by decide) o_223 ?_
      rw [mk4_r9]
      refine g_puti fx dX11_reads_57 fk_RX11_100 o_223 ?_
      rw [mk4_w10]
      refine g_aload_n fx dX11_reads_60 rfl ?_
      refine g_geti fx dX11_reads_61 fk_RX11_97 (by decide) o_223 ?_
      rw [mk4_r9]
      refine g_aload_n fx dX11_reads_64 rfl ?_
      refine g_geti fx dX11_reads_65 fk_RX11_94 (by decide) o_223 ?_
      rw [mk4_r8]
      refine g_icmp_lt (tgt := 77) fx dX11_reads_68 (by decide) (fun h68 => ?_) (fun h68 => ?_)
      · refine g_aload_n fx dX11_reads_77 rfl ?_
        refine g_getr fx dX11_reads_78 fk_RX11_26 o_223 rf_223_6 ?_
        refine g_aload_n fx dX11_reads_81 rfl ?_
        refine g_geti fx dX11_reads_82 fk_RX11_97 (by decide) o_223 ?_
        rw [mk4_r9]
        refine g_iald fx dX11_reads_85 o_229 (by omega) (by show _ < ((900 : Nat) : Int); omega) ?_
        rw [show mk4 σ p p (σ 223 11) (σ 223 12) 229 p.toNat = tpF σ p from rfl]
        refine g_istore_n fx dX11_reads_86 (by decide) rfl rfl ?_
        refine g_iload_n fx dX11_reads_87 rfl ?_
        refine g_callSD fx dX11_reads_88 ms_RX11_106 my_X11_isLetter (s_X11_isLetter ad _ _) rfl rfl (Nat.le_of_ble_eq_true rfl) (by decide) (by decide) ?_
        refine g_if_eq (tgt := 129) fx dX11_reads_91 (by decide) (fun h91 => ?_) (fun h91 => ?_)
        · refine g_iload_n fx dX11_reads_129 rfl ?_
          refine g_callSD fx dX11_reads_130 ms_RX11_114 my_X11_isDigit (s_X11_isDigit ad _ _) rfl rfl (Nat.le_of_ble_eq_true rfl) (by decide) (by decide) ?_
          refine g_if_eq (tgt := 237) fx dX11_reads_133 (by decide) (fun h133 => ?_) (fun h133 => ?_)
          · refine g_aload_n fx dX11_reads_237 rfl ?_
            refine g_iload_n fx dX11_reads_238 rfl ?_
            refine g_bipush fx dX11_reads_239 (by decide) ?_
            refine g_icmp_ne (tgt := 248) fx dX11_reads_241 (by decide) (fun h241 => ?_) (fun h241 => ?_)
            · refine g_iconst fx dX11_reads_248 (by unfold okI; omega) ?_
              refine g_puti fx dX11_reads_249 fk_RX11_103 o_223 ?_
              rw [mk4_w11]
              refine g_aload_n fx dX11_reads_252 rfl ?_
              refine g_dup fx dX11_reads_253 rfl ?_
              refine g_geti fx dX11_reads_254 fk_RX11_97 (by decide) o_223 ?_
              rw [mk4_r9]
              refine g_iconst fx dX11_reads_257 (by unfold okI; omega) ?_
              refine g_iadd fx dX11_reads_258 ?_
              refine g_puti fx dX11_reads_259 fk_RX11_97 o_223 ?_
              rw [mk4_w9]
              exact g_vret fx rfl dX11_reads_262 (by decide) (by decide) (gw_le.rf _) ⟨rfl, rfl, by first | (exfalso; omega) | (rw [nRd, hp]; (repeat first | rw [if_pos (by omega)] | rw [if_neg (by omega)]) <;> first | rfl | (rw [wr_id (by unfold okI; omega)] <;> rfl) | (rw [nLt, hp, he94, ltp_z hz]) | (rw [nDg, hp, he141, dgp_z hz]; dsimp only; (repeat first | rw [if_pos (by omega)] | rw [if_neg (by omega)])))⟩
            · refine g_iconst fx dX11_reads_244 (by unfold okI; omega) ?_
              refine g_goto (tgt := 249) fx dX11_reads_245 (by decide) ?_
              refine g_puti fx dX11_reads_249 fk_RX11_103 o_223 ?_
              rw [mk4_w11]
              refine g_aload_n fx dX11_reads_252 rfl ?_
              refine g_dup fx dX11_reads_253 rfl ?_
              refine g_geti fx dX11_reads_254 fk_RX11_97 (by decide) o_223 ?_
              rw [mk4_r9]
              refine g_iconst fx dX11_reads_257 (by unfold okI; omega) ?_
              refine g_iadd fx dX11_reads_258 ?_
              refine g_puti fx dX11_reads_259 fk_RX11_97 o_223 ?_
              rw [mk4_w9]
              exact g_vret fx rfl dX11_reads_262 (by decide) (by decide) (gw_le.rf _) ⟨rfl, rfl, by first | (exfalso; omega) | (rw [nRd, hp]; (repeat first | rw [if_pos (by omega)] | rw [if_neg (by omega)]) <;> first | rfl | (rw [wr_id (by unfold okI; omega)] <;> rfl) | (rw [nLt, hp, he94, ltp_z hz]) | (rw [nDg, hp, he141, dgp_z hz]; dsimp only; (repeat first | rw [if_pos (by omega)] | rw [if_neg (by omega)])))⟩
          · refine g_aload_n fx dX11_reads_136 rfl ?_
            refine g_iconst fx dX11_reads_137 (by unfold okI; omega) ?_
            refine g_puti fx dX11_reads_138 fk_RX11_117 o_223 ?_
            rw [mk4_w12]
            have loop141 : ∀ i : Nat, i ≤ (σ 223 8 - p).toNat → ∀ v : Int, dgp (σ 223 8) (tpF σ) p (σ 223 8 - p).toNat 0 p = dgp (σ 223 8) (tpF σ) p ((σ 223 8 - p).toNat - i) v (p + (i : Nat)) → gw_W X (yX11_reads.cls, cX11_reads, 2, none, 2, 0, 0) G (gw_Z X G (gw_M0 ad) σ (gw_D none (gw_M0 ad) (nRd σ)) gw_no 0 0) 0 0 (gw_M0 ad) (mk4 σ (p + (i : Nat)) p (σ 223 11) v) 141 [some (vR (some 223)), some (vI (tpF σ p))] [] := by
              refine up_ind _ ((σ 223 8 - p).toNat) (fun i hi ihi => ?_)
              intro v he141
              refine g_aload_n fx dX11_reads_141 rfl ?_
              refine g_aload_n fx dX11_reads_142 rfl ?_
              refine g_geti fx dX11_reads_143 fk_RX11_97 (by decide) o_223 ?_
              rw [mk4_r9]
              refine g_callVD fx dX11_reads_146 mv_RX11_110 my_X11_see (s_X11_see ad _ _ (by omega) (by rw [mk4_r8]; omega)) o_223 rfl rfl rfl (Nat.le_of_ble_eq_true rfl) (by decide) (by decide) ?_
              rw [nSee_mk4]
              refine g_callSD fx dX11_reads_149 ms_RX11_114 my_X11_isDigit (s_X11_isDigit ad _ _) rfl rfl (Nat.le_of_ble_eq_true rfl) (by decide) (by decide) ?_
              have hL := nSee_D σ (p + (i : Nat))
              refine g_if_eq (tgt := 212) fx dX11_reads_152 (by decide) (fun h152 => ?_) (fun h152 => ?_)
              · have hz : ¬ (p + (i : Nat) < σ 223 8 ∧ isD (tpF σ (p + (i : Nat))) ≠ 0) := fun h => absurd (hL.mpr h) (by omega)
                refine g_aload_n fx dX11_reads_212 rfl ?_
                refine g_aload_n fx dX11_reads_213 rfl ?_
                refine g_geti fx dX11_reads_214 fk_RX11_97 (by decide) o_223 ?_
                rw [mk4_r9]
                refine g_aload_n fx dX11_reads_217 rfl ?_
                refine g_geti fx dX11_reads_218 fk_RX11_100 (by decide) o_223 ?_
                rw [mk4_r10]
                refine g_isub fx dX11_reads_221 ?_
                refine g_iconst fx dX11_reads_222 (by unfold okI; omega) ?_
                refine g_icmp_le (tgt := 230) fx dX11_reads_223 (by decide) (fun h223 => ?_) (fun h223 => ?_)
                · refine g_iconst fx dX11_reads_230 (by unfold okI; omega) ?_
                  refine g_puti fx dX11_reads_231 fk_RX11_103 o_223 ?_
                  rw [mk4_w11]
                  refine g_goto (tgt := 262) fx dX11_reads_234 (by decide) ?_
                  exact g_vret fx rfl dX11_reads_262 (by decide) (by decide) (gw_le.rf _) ⟨rfl, rfl, by first | (exfalso; omega) | (rw [nRd, hp]; (repeat first | rw [if_pos (by omega)] | rw [if_neg (by omega)]) <;> first | rfl | (rw [wr_id (by unfold okI; omega)] <;> rfl) | (rw [nLt, hp, he94, ltp_z hz]) | (rw [nDg, hp, he141, dgp_z hz]; dsimp only; (repeat first | rw [if_pos (by omega)] | rw [if_neg (by omega)])))⟩
                · refine g_iconst fx dX11_reads_226 (by unfold okI; omega) ?_
                  refine g_goto (tgt := 231) fx dX11_reads_227 (by decide) ?_
                  refine g_puti fx dX11_reads_231 fk_RX11_103 o_223 ?_
                  rw [mk4_w11]
                  refine g_goto (tgt := 262) fx dX11_reads_234 (by decide) ?_
                  exact g_vret fx rfl dX11_reads_262 (by decide) (by decide) (gw_le.rf _) ⟨rfl, rfl, by first | (exfalso; omega) | (rw [nRd, hp]; (repeat first | rw [if_pos (by omega)] | rw [if_neg (by omega)]) <;> first | rfl | (rw [wr_id (by unfold okI; omega)] <;> rfl) | (rw [nLt, hp, he94, ltp_z hz]) | (rw [nDg, hp, he141, dgp_z hz]; dsimp only; (repeat first | rw [if_pos (by omega)] | rw [if_neg (by omega)])))⟩
              · have hy := hL.mp h152
                refine g_aload_n fx dX11_reads_155 rfl ?_
                refine g_aload_n fx dX11_reads_156 rfl ?_
                refine g_geti fx dX11_reads_157 fk_RX11_97 (by decide) o_223 ?_
                rw [mk4_r9]
                refine g_aload_n fx dX11_reads_160 rfl ?_
                refine g_geti fx dX11_reads_161 fk_RX11_100 (by decide) o_223 ?_
                rw [mk4_r10]
                refine g_isub fx dX11_reads_164 ?_
                refine g_iconst fx dX11_reads_165 (by unfold okI; omega) ?_
                refine g_icmp_ge (tgt := 192) fx dX11_reads_166 (by decide) (fun h166 => ?_) (fun h166 => ?_)
                · refine g_aload_n fx dX11_reads_192 rfl ?_
                  refine g_geti fx dX11_reads_193 fk_RX11_117 (by decide) o_223 ?_
                  rw [mk4_r12]
                  refine g_puti fx dX11_reads_196 fk_RX11_117 o_223 ?_
                  rw [mk4_w12]
                  refine g_aload_n fx dX11_reads_199 rfl ?_
                  refine g_dup fx dX11_reads_200 rfl ?_
                  refine g_geti fx dX11_reads_201 fk_RX11_97 (by decide) o_223 ?_
                  rw [mk4_r9]
                  refine g_iconst fx dX11_reads_204 (by unfold okI; omega) ?_
                  refine g_iadd fx dX11_reads_205 ?_
                  refine g_puti fx dX11_reads_206 fk_RX11_97 o_223 ?_
                  rw [mk4_w9]
                  refine g_goto (tgt := 141) fx dX11_reads_209 (by decide) ?_
                  exact gw_cg (by rw [wr_id (by unfold okI; omega), show (p + (i : Nat) + 1 : Int) = p + ((i + 1 : Nat) : Int) by omega]) rfl (ihi (by omega) _ (by rw [he141, show (σ 223 8 - p).toNat - i = (σ 223 8 - p).toNat - (i + 1) + 1 by omega, dgp, if_pos hy]; first | (exfalso; omega) | (first | rw [if_pos (by omega), Int.mul_comm v 10] | rw [if_neg (by omega)]) <;> rw [show (p + (i : Nat) + 1 : Int) = p + ((i + 1 : Nat) : Int) by omega]))
                · refine g_bipush fx dX11_reads_169 (by decide) ?_
                  refine g_aload_n fx dX11_reads_171 rfl ?_
                  refine g_geti fx dX11_reads_172 fk_RX11_117 (by decide) o_223 ?_
                  rw [mk4_r12]
                  refine g_imul fx dX11_reads_175 ?_
                  refine g_aload_n fx dX11_reads_176 rfl ?_
                  refine g_getr fx dX11_reads_177 fk_RX11_26 o_223 rf_223_6 ?_
                  refine g_aload_n fx dX11_reads_180 rfl ?_
                  refine g_geti fx dX11_reads_181 fk_RX11_97 (by decide) o_223 ?_
                  rw [mk4_r9]
                  refine g_iald fx dX11_reads_184 o_229 (by omega) (by show _ < ((900 : Nat) : Int); omega) ?_
                  rw [show mk4 σ (p + (i : Nat)) p (σ 223 11) v 229 (p + (i : Nat)).toNat = tpF σ (p + (i : Nat)) from rfl]
                  refine g_iadd fx dX11_reads_185 ?_
                  refine g_bipush fx dX11_reads_186 (by decide) ?_
                  refine g_isub fx dX11_reads_188 ?_
                  refine g_goto (tgt := 196) fx dX11_reads_189 (by decide) ?_
                  refine g_puti fx dX11_reads_196 fk_RX11_117 o_223 ?_
                  rw [mk4_w12]
                  refine g_aload_n fx dX11_reads_199 rfl ?_
                  refine g_dup fx dX11_reads_200 rfl ?_
                  refine g_geti fx dX11_reads_201 fk_RX11_97 (by decide) o_223 ?_
                  rw [mk4_r9]
                  refine g_iconst fx dX11_reads_204 (by unfold okI; omega) ?_
                  refine g_iadd fx dX11_reads_205 ?_
                  refine g_puti fx dX11_reads_206 fk_RX11_97 o_223 ?_
                  rw [mk4_w9]
                  refine g_goto (tgt := 141) fx dX11_reads_209 (by decide) ?_
                  exact gw_cg (by rw [wr_id (by unfold okI; omega), show (p + (i : Nat) + 1 : Int) = p + ((i + 1 : Nat) : Int) by omega]) rfl (ihi (by omega) _ (by rw [he141, show (σ 223 8 - p).toNat - i = (σ 223 8 - p).toNat - (i + 1) + 1 by omega, dgp, if_pos hy]; first | (exfalso; omega) | (first | rw [if_pos (by omega), Int.mul_comm v 10] | rw [if_neg (by omega)]) <;> rw [show (p + (i : Nat) + 1 : Int) = p + ((i + 1 : Nat) : Int) by omega]))
            exact gw_cg (by rw [show (p + ((0 : Nat) : Int)) = p by omega]) rfl (loop141 0 (Nat.zero_le _) _ (by rw [show (p + ((0 : Nat) : Int)) = p by omega]; rfl))
        · have loop94 : ∀ i : Nat, i ≤ (σ 223 8 - p).toNat → ltp (σ 223 8) (tpF σ) (σ 223 8 - p).toNat p = ltp (σ 223 8) (tpF σ) ((σ 223 8 - p).toNat - i) (p + (i : Nat)) → gw_W X (yX11_reads.cls, cX11_reads, 2, none, 2, 0, 0) G (gw_Z X G (gw_M0 ad) σ (gw_D none (gw_M0 ad) (nRd σ)) gw_no 0 0) 0 0 (gw_M0 ad) (mk4 σ (p + (i : Nat)) p (σ 223 11) (σ 223 12)) 94 [some (vR (some 223)), some (vI (tpF σ p))] [] := by
            refine up_ind _ ((σ 223 8 - p).toNat) (fun i hi ihi => ?_)
            intro he94
            refine g_aload_n fx dX11_reads_94 rfl ?_
            refine g_aload_n fx dX11_reads_95 rfl ?_
            refine g_geti fx dX11_reads_96 fk_RX11_97 (by decide) o_223 ?_
            rw [mk4_r9]
            refine g_callVD fx dX11_reads_99 mv_RX11_110 my_X11_see (s_X11_see ad _ _ (by omega) (by rw [mk4_r8]; omega)) o_223 rfl rfl rfl (Nat.le_of_ble_eq_true rfl) (by decide) (by decide) ?_
            rw [nSee_mk4]
            refine g_callSD fx dX11_reads_102 ms_RX11_106 my_X11_isLetter (s_X11_isLetter ad _ _) rfl rfl (Nat.le_of_ble_eq_true rfl) (by decide) (by decide) ?_
            have hL := nSee_L σ (p + (i : Nat))
            refine g_if_eq (tgt := 121) fx dX11_reads_105 (by decide) (fun h105 => ?_) (fun h105 => ?_)
            · have hz : ¬ (p + (i : Nat) < σ 223 8 ∧ isL (tpF σ (p + (i : Nat))) ≠ 0) := fun h => absurd (hL.mpr h) (by omega)
              refine g_aload_n fx dX11_reads_121 rfl ?_
              refine g_iconst fx dX11_reads_122 (by unfold okI; omega) ?_
              refine g_puti fx dX11_reads_123 fk_RX11_103 o_223 ?_
              rw [mk4_w11]
              refine g_goto (tgt := 262) fx dX11_reads_126 (by decide) ?_
              exact g_vret fx rfl dX11_reads_262 (by decide) (by decide) (gw_le.rf _) ⟨rfl, rfl, by first | (exfalso; omega) | (rw [nRd, hp]; (repeat first | rw [if_pos (by omega)] | rw [if_neg (by omega)]) <;> first | rfl | (rw [wr_id (by unfold okI; omega)] <;> rfl) | (rw [nLt, hp, he94, ltp_z hz]) | (rw [nDg, hp, he141, dgp_z hz]; dsimp only; (repeat first | rw [if_pos (by omega)] | rw [if_neg (by omega)])))⟩
            · have hy := hL.mp h105
              refine g_aload_n fx dX11_reads_108 rfl ?_
              refine g_dup fx dX11_reads_109 rfl ?_
              refine g_geti fx dX11_reads_110 fk_RX11_97 (by decide) o_223 ?_
              rw [mk4_r9]
              refine g_iconst fx dX11_reads_113 (by unfold okI; omega) ?_
              refine g_iadd fx dX11_reads_114 ?_
              refine g_puti fx dX11_reads_115 fk_RX11_97 o_223 ?_
              rw [mk4_w9]
              refine g_goto (tgt := 94) fx dX11_reads_118 (by decide) ?_
              exact gw_cg (by rw [wr_id (by unfold okI; omega), show (p + (i : Nat) + 1 : Int) = p + ((i + 1 : Nat) : Int) by omega]) rfl (ihi (by omega) (by rw [he94, show (σ 223 8 - p).toNat - i = (σ 223 8 - p).toNat - (i + 1) + 1 by omega, ltp, if_pos hy, show (p + (i : Nat) + 1 : Int) = p + ((i + 1 : Nat) : Int) by omega]))
          exact gw_cg (by rw [show (p + ((0 : Nat) : Int)) = p by omega]) rfl (loop94 0 (Nat.zero_le _) (by rw [show (p + ((0 : Nat) : Int)) = p by omega]; rfl))
      · refine g_aload_n fx dX11_reads_71 rfl ?_
        refine g_iconst fx dX11_reads_72 (by unfold okI; omega) ?_
        refine g_puti fx dX11_reads_73 fk_RX11_103 o_223 ?_
        rw [mk4_w11]
        exact g_vret fx rfl dX11_reads_76 (by decide) (by decide) (gw_le.rf _) ⟨rfl, rfl, by first | (exfalso; omega) | (rw [nRd, hp]; (repeat first | rw [if_pos (by omega)] | rw [if_neg (by omega)]) <;> first | rfl | (rw [wr_id (by unfold okI; omega)] <;> rfl) | (rw [nLt, hp, he94, ltp_z hz]) | (rw [nDg, hp, he141, dgp_z hz]; dsimp only; (repeat first | rw [if_pos (by omega)] | rw [if_neg (by omega)])))⟩
    · refine g_aload_n fx dX11_reads_11 rfl ?_
      refine g_getr fx dX11_reads_12 fk_RX11_26 o_223 rf_223_6 ?_
      refine g_aload_n fx dX11_reads_15 rfl ?_
      refine g_geti fx dX11_reads_16 fk_RX11_97 (by decide) o_223 ?_
      rw [mk4_r9]
      refine g_iald fx dX11_reads_19 o_229 (by omega) (by show _ < ((900 : Nat) : Int); omega) ?_
      rw [show mk4 σ (σ 223 9 + (k : Nat)) (σ 223 10) (σ 223 11) (σ 223 12) 229 (σ 223 9 + (k : Nat)).toNat = tpF σ (σ 223 9 + (k : Nat)) from rfl]
      refine g_bipush fx dX11_reads_20 (by decide) ?_
      refine g_icmp_eq (tgt := 39) fx dX11_reads_22 (by decide) (fun h22 => ?_) (fun h22 => ?_)
      · refine g_aload_n fx dX11_reads_39 rfl ?_
        refine g_dup fx dX11_reads_40 rfl ?_
        refine g_geti fx dX11_reads_41 fk_RX11_97 (by decide) o_223 ?_
        rw [mk4_r9]
        refine g_iconst fx dX11_reads_44 (by unfold okI; omega) ?_
        refine g_iadd fx dX11_reads_45 ?_
        refine g_puti fx dX11_reads_46 fk_RX11_97 o_223 ?_
        rw [mk4_w9]
        refine g_goto (tgt := 0) fx dX11_reads_49 (by decide) ?_
        exact gw_cg (by rw [wr_id (by unfold okI; omega), show (σ 223 9 + (k : Nat) + 1 : Int) = σ 223 9 + ((k + 1 : Nat) : Int) by omega]) rfl (ih (by omega) (by rw [he0, show (σ 223 8 - σ 223 9).toNat - k = (σ 223 8 - σ 223 9).toNat - (k + 1) + 1 by omega, wsp, if_pos (by omega), show (σ 223 9 + (k : Nat) + 1 : Int) = σ 223 9 + ((k + 1 : Nat) : Int) by omega]))
      · refine g_aload_n fx dX11_reads_25 rfl ?_
        refine g_getr fx dX11_reads_26 fk_RX11_26 o_223 rf_223_6 ?_
        refine g_aload_n fx dX11_reads_29 rfl ?_
        refine g_geti fx dX11_reads_30 fk_RX11_97 (by decide) o_223 ?_
        rw [mk4_r9]
        refine g_iald fx dX11_reads_33 o_229 (by omega) (by show _ < ((900 : Nat) : Int); omega) ?_
        rw [show mk4 σ (σ 223 9 + (k : Nat)) (σ 223 10) (σ 223 11) (σ 223 12) 229 (σ 223 9 + (k : Nat)).toNat = tpF σ (σ 223 9 + (k : Nat)) from rfl]
        refine g_bipush fx dX11_reads_34 (by decide) ?_
        refine g_icmp_ne (tgt := 52) fx dX11_reads_36 (by decide) (fun h36 => ?_) (fun h36 => ?_)
        · have hp : nWs σ = σ 223 9 + (k : Nat) := by rw [he0, wsp_z (by omega)]
          generalize hpe : σ 223 9 + (k : Nat) = p at *
          refine g_aload_n fx dX11_reads_52 rfl ?_
          refine g_aload_n fx dX11_reads_53 rfl ?_
          refine g_geti fx dX11_reads_54 fk_RX11_97 (by decide) o_223 ?_
          rw [mk4_r9]
          refine g_puti fx dX11_reads_57 fk_RX11_100 o_223 ?_
          rw [mk4_w10]
          refine g_aload_n fx dX11_reads_60 rfl ?_
          refine g_geti fx dX11_reads_61 fk_RX11_97 (by decide) o_223 ?_
          rw [mk4_r9]
          refine g_aload_n fx dX11_reads_64 rfl ?_
          refine g_geti fx dX11_reads_65 fk_RX11_94 (by decide) o_223 ?_
          rw [mk4_r8]
          refine g_icmp_lt (tgt := 77) fx dX11_reads_68 (by decide) (fun h68 => ?_) (fun h68 => ?_)
          · refine g_aload_n fx dX11_reads_77 rfl ?_
            refine g_getr fx dX11_reads_78 fk_RX11_26 o_223 rf_223_6 ?_
            refine g_aload_n fx dX11_reads_81 rfl ?_
            refine g_geti fx dX11_reads_82 fk_RX11_97 (by decide) o_223 ?_
            rw [mk4_r9]
            refine g_iald fx dX11_reads_85 o_229 (by omega) (by show _ < ((900 : Nat) : Int); omega) ?_
            rw [show mk4 σ p p (σ 223 11) (σ 223 12) 229 p.toNat = tpF σ p from rfl]
            refine g_istore_n fx dX11_reads_86 (by decide) rfl rfl ?_
            refine g_iload_n fx dX11_reads_87 rfl ?_
            refine g_callSD fx dX11_reads_88 ms_RX11_106 my_X11_isLetter (s_X11_isLetter ad _ _) rfl rfl (Nat.le_of_ble_eq_true rfl) (by decide) (by decide) ?_
            refine g_if_eq (tgt := 129) fx dX11_reads_91 (by decide) (fun h91 => ?_) (fun h91 => ?_)
            · refine g_iload_n fx dX11_reads_129 rfl ?_
              refine g_callSD fx dX11_reads_130 ms_RX11_114 my_X11_isDigit (s_X11_isDigit ad _ _) rfl rfl (Nat.le_of_ble_eq_true rfl) (by decide) (by decide) ?_
              refine g_if_eq (tgt := 237) fx dX11_reads_133 (by decide) (fun h133 => ?_) (fun h133 => ?_)
              · refine g_aload_n fx dX11_reads_237 rfl ?_
                refine g_iload_n fx dX11_reads_238 rfl ?_
                refine g_bipush fx dX11_reads_239 (by decide) ?_
                refine g_icmp_ne (tgt := 248) fx dX11_reads_241 (by decide) (fun h241 => ?_) (fun h241 => ?_)
                · refine g_iconst fx dX11_reads_248 (by unfold okI; omega) ?_
                  refine g_puti fx dX11_reads_249 fk_RX11_103 o_223 ?_
                  rw [mk4_w11]
                  refine g_aload_n fx dX11_reads_252 rfl ?_
                  refine g_dup fx dX11_reads_253 rfl ?_
                  refine g_geti fx dX11_reads_254 fk_RX11_97 (by decide) o_223 ?_
                  rw [mk4_r9]
                  refine g_iconst fx dX11_reads_257 (by unfold okI; omega) ?_
                  refine g_iadd fx dX11_reads_258 ?_
                  refine g_puti fx dX11_reads_259 fk_RX11_97 o_223 ?_
                  rw [mk4_w9]
                  exact g_vret fx rfl dX11_reads_262 (by decide) (by decide) (gw_le.rf _) ⟨rfl, rfl, by first | (exfalso; omega) | (rw [nRd, hp]; (repeat first | rw [if_pos (by omega)] | rw [if_neg (by omega)]) <;> first | rfl | (rw [wr_id (by unfold okI; omega)] <;> rfl) | (rw [nLt, hp, he94, ltp_z hz]) | (rw [nDg, hp, he141, dgp_z hz]; dsimp only; (repeat first | rw [if_pos (by omega)] | rw [if_neg (by omega)])))⟩
                · refine g_iconst fx dX11_reads_244 (by unfold okI; omega) ?_
                  refine g_goto (tgt := 249) fx dX11_reads_245 (by decide) ?_
                  refine g_puti fx dX11_reads_249 fk_RX11_103 o_223 ?_
                  rw [mk4_w11]
                  refine g_aload_n fx dX11_reads_252 rfl ?_
                  refine g_dup fx dX11_reads_253 rfl ?_
                  refine g_geti fx dX11_reads_254 fk_RX11_97 (by decide) o_223 ?_
                  rw [mk4_r9]
                  refine g_iconst fx dX11_reads_257 (by unfold okI; omega) ?_
                  refine g_iadd fx dX11_reads_258 ?_
                  refine g_puti fx dX11_reads_259 fk_RX11_97 o_223 ?_
                  rw [mk4_w9]
                  exact g_vret fx rfl dX11_reads_262 (by decide) (by decide) (gw_le.rf _) ⟨rfl, rfl, by first | (exfalso; omega) | (rw [nRd, hp]; (repeat first | rw [if_pos (by omega)] | rw [if_neg (by omega)]) <;> first | rfl | (rw [wr_id (by unfold okI; omega)] <;> rfl) | (rw [nLt, hp, he94, ltp_z hz]) | (rw [nDg, hp, he141, dgp_z hz]; dsimp only; (repeat first | rw [if_pos (by omega)] | rw [if_neg (by omega)])))⟩
              · refine g_aload_n fx dX11_reads_136 rfl ?_
                refine g_iconst fx dX11_reads_137 (by unfold okI; omega) ?_
                refine g_puti fx dX11_reads_138 fk_RX11_117 o_223 ?_
                rw [mk4_w12]
                have loop141 : ∀ i : Nat, i ≤ (σ 223 8 - p).toNat → ∀ v : Int, dgp (σ 223 8) (tpF σ) p (σ 223 8 - p).toNat 0 p = dgp (σ 223 8) (tpF σ) p ((σ 223 8 - p).toNat - i) v (p + (i : Nat)) → gw_W X (yX11_reads.cls, cX11_reads, 2, none, 2, 0, 0) G (gw_Z X G (gw_M0 ad) σ (gw_D none (gw_M0 ad) (nRd σ)) gw_no 0 0) 0 0 (gw_M0 ad) (mk4 σ (p + (i : Nat)) p (σ 223 11) v) 141 [some (vR (some 223)), some (vI (tpF σ p))] [] := by
                  refine up_ind _ ((σ 223 8 - p).toNat) (fun i hi ihi => ?_)
                  intro v he141
                  refine g_aload_n fx dX11_reads_141 rfl ?_
                  refine g_aload_n fx dX11_reads_142 rfl ?_
                  refine g_geti fx dX11_reads_143 fk_RX11_97 (by decide) o_223 ?_
                  rw [mk4_r9]
                  refine g_callVD fx dX11_reads_146 mv_RX11_110 my_X11_see (s_X11_see ad _ _ (by omega) (by rw [mk4_r8]; omega)) o_223 rfl rfl rfl (Nat.le_of_ble_eq_true rfl) (by decide) (by decide) ?_
                  rw [nSee_mk4]
                  refine g_callSD fx dX11_reads_149 ms_RX11_114 my_X11_isDigit (s_X11_isDigit ad _ _) rfl rfl (Nat.le_of_ble_eq_true rfl) (by decide) (by decide) ?_
                  have hL := nSee_D σ (p + (i : Nat))
                  refine g_if_eq (tgt := 212) fx dX11_reads_152 (by decide) (fun h152 => ?_) (fun h152 => ?_)
                  · have hz : ¬ (p + (i : Nat) < σ 223 8 ∧ isD (tpF σ (p + (i : Nat))) ≠ 0) := fun h => absurd (hL.mpr h) (by omega)
                    refine g_aload_n fx dX11_reads_212 rfl ?_
                    refine g_aload_n fx dX11_reads_213 rfl ?_
                    refine g_geti fx dX11_reads_214 fk_RX11_97 (by decide) o_223 ?_
                    rw [mk4_r9]
                    refine g_aload_n fx dX11_reads_217 rfl ?_
                    refine g_geti fx dX11_reads_218 fk_RX11_100 (by decide) o_223 ?_
                    rw [mk4_r10]
                    refine g_isub fx dX11_reads_221 ?_
                    refine g_iconst fx dX11_reads_222 (by unfold okI; omega) ?_
                    refine g_icmp_le (tgt := 230) fx dX11_reads_223 (by decide) (fun h223 => ?_) (fun h223 => ?_)
                    · refine g_iconst fx dX11_reads_230 (by unfold okI; omega) ?_
                      refine g_puti fx dX11_reads_231 fk_RX11_103 o_223 ?_
                      rw [mk4_w11]
                      refine g_goto (tgt := 262) fx dX11_reads_234 (by decide) ?_
                      exact g_vret fx rfl dX11_reads_262 (by decide) (by decide) (gw_le.rf _) ⟨rfl, rfl, by first | (exfalso; omega) | (rw [nRd, hp]; (repeat first | rw [if_pos (by omega)] | rw [if_neg (by omega)]) <;> first | rfl | (rw [wr_id (by unfold okI; omega)] <;> rfl) | (rw [nLt, hp, he94, ltp_z hz]) | (rw [nDg, hp, he141, dgp_z hz]; dsimp only; (repeat first | rw [if_pos (by omega)] | rw [if_neg (by omega)])))⟩
                    · refine g_iconst fx dX11_reads_226 (by unfold okI; omega) ?_
                      refine g_goto (tgt := 231) fx dX11_reads_227 (by decide) ?_
                      refine g_puti fx dX11_reads_231 fk_RX11_103 o_223 ?_
                      rw [mk4_w11]
                      refine g_goto (tgt := 262) fx dX11_reads_234 (by decide) ?_
                      exact g_vret fx rfl dX11_reads_262 (by decide) (by decide) (gw_le.rf _) ⟨rfl, rfl, by first | (exfalso; omega) | (rw [nRd, hp]; (repeat first | rw [if_pos (by omega)] | rw [if_neg (by omega)]) <;> first | rfl | (rw [wr_id (by unfold okI; omega)] <;> rfl) | (rw [nLt, hp, he94, ltp_z hz]) | (rw [nDg, hp, he141, dgp_z hz]; dsimp only; (repeat first | rw [if_pos (by omega)] | rw [if_neg (by omega)])))⟩
                  · have hy := hL.mp h152
                    refine g_aload_n fx dX11_reads_155 rfl ?_
                    refine g_aload_n fx dX11_reads_156 rfl ?_
                    refine g_geti fx dX11_reads_157 fk_RX11_97 (by decide) o_223 ?_
                    rw [mk4_r9]
                    refine g_aload_n fx dX11_reads_160 rfl ?_
                    refine g_geti fx dX11_reads_161 fk_RX11_100 (by decide) o_223 ?_
                    rw [mk4_r10]
                    refine g_isub fx dX11_reads_164 ?_
                    refine g_iconst fx dX11_reads_165 (by unfold okI; omega) ?_
                    refine g_icmp_ge (tgt := 192) fx dX11_reads_166 (by decide) (fun h166 => ?_) (fun h166 => ?_)
                    · refine g_aload_n fx dX11_reads_192 rfl ?_
                      refine g_geti fx dX11_reads_193 fk_RX11_117 (by decide) o_223 ?_
                      rw [mk4_r12]
                      refine g_puti fx dX11_reads_196 fk_RX11_117 o_223 ?_
                      rw [mk4_w12]
                      refine g_aload_n fx dX11_reads_199 rfl ?_
                      refine g_dup fx dX11_reads_200 rfl ?_
                      refine g_geti fx dX11_reads_201 fk_RX11_97 (by decide) o_223 ?_
                      rw [mk4_r9]
                      refine g_iconst fx dX11_reads_204 (by unfold okI; omega) ?_
                      refine g_iadd fx dX11_reads_205 ?_
                      refine g_puti fx dX11_reads_206 fk_RX11_97 o_223 ?_
                      rw [mk4_w9]
                      refine g_goto (tgt := 141) fx dX11_reads_209 (by decide) ?_
                      exact gw_cg (by rw [wr_id (by unfold okI; omega), show (p + (i : Nat) + 1 : Int) = p + ((i + 1 : Nat) : Int) by omega]) rfl (ihi (by omega) _ (by rw [he141, show (σ 223 8 - p).toNat - i = (σ 223 8 - p).toNat - (i + 1) + 1 by omega, dgp, if_pos hy]; first | (exfalso; omega) | (first | rw [if_pos (by omega), Int.mul_comm v 10] | rw [if_neg (by omega)]) <;> rw [show (p + (i : Nat) + 1 : Int) = p + ((i + 1 : Nat) : Int) by omega]))
                    · refine g_bipush fx dX11_reads_169 (by decide) ?_
                      refine g_aload_n fx dX11_reads_171 rfl ?_
                      refine g_geti fx dX11_reads_172 fk_RX11_117 (by decide) o_223 ?_
                      rw [mk4_r12]
                      refine g_imul fx dX11_reads_175 ?_
                      refine g_aload_n fx dX11_reads_176 rfl ?_
                      refine g_getr fx dX11_reads_177 fk_RX11_26 o_223 rf_223_6 ?_
                      refine g_aload_n fx dX11_reads_180 rfl ?_
                      refine g_geti fx dX11_reads_181 fk_RX11_97 (by decide) o_223 ?_
                      rw [mk4_r9]
                      refine g_iald fx dX11_reads_184 o_229 (by omega) (by show _ < ((900 : Nat) : Int); omega) ?_
                      rw [show mk4 σ (p + (i : Nat)) p (σ 223 11) v 229 (p + (i : Nat)).toNat = tpF σ (p + (i : Nat)) from rfl]
                      refine g_iadd fx dX11_reads_185 ?_
                      refine g_bipush fx dX11_reads_186 (by decide) ?_
                      refine g_isub fx dX11_reads_188 ?_
                      refine g_goto (tgt := 196) fx dX11_reads_189 (by decide) ?_
                      refine g_puti fx dX11_reads_196 fk_RX11_117 o_223 ?_
                      rw [mk4_w12]
                      refine g_aload_n fx dX11_reads_199 rfl ?_
                      refine g_dup fx dX11_reads_200 rfl ?_
                      refine g_geti fx dX11_reads_201 fk_RX11_97 (by decide) o_223 ?_
                      rw [mk4_r9]
                      refine g_iconst fx dX11_reads_204 (by unfold okI; omega) ?_
                      refine g_iadd fx dX11_reads_205 ?_
                      refine g_puti fx dX11_reads_206 fk_RX11_97 o_223 ?_
                      rw [mk4_w9]
                      refine g_goto (tgt := 141) fx dX11_reads_209 (by decide) ?_
                      exact gw_cg (by rw [wr_id (by unfold okI; omega), show (p + (i : Nat) + 1 : Int) = p + ((i + 1 : Nat) : Int) by omega]) rfl (ihi (by omega) _ (by rw [he141, show (σ 223 8 - p).toNat - i = (σ 223 8 - p).toNat - (i + 1) + 1 by omega, dgp, if_pos hy]; first | (exfalso; omega) | (first | rw [if_pos (by omega), Int.mul_comm v 10] | rw [if_neg (by omega)]) <;> rw [show (p + (i : Nat) + 1 : Int) = p + ((i + 1 : Nat) : Int) by omega]))
                exact gw_cg (by rw [show (p + ((0 : Nat) : Int)) = p by omega]) rfl (loop141 0 (Nat.zero_le _) _ (by rw [show (p + ((0 : Nat) : Int)) = p by omega]; rfl))
            · have loop94 : ∀ i : Nat, i ≤ (σ 223 8 - p).toNat → ltp (σ 223 8) (tpF σ) (σ 223 8 - p).toNat p = ltp (σ 223 8) (tpF σ) ((σ 223 8 - p).toNat - i) (p + (i : Nat)) → gw_W X (yX11_reads.cls, cX11_reads, 2, none, 2, 0, 0) G (gw_Z X G (gw_M0 ad) σ (gw_D none (gw_M0 ad) (nRd σ)) gw_no 0 0) 0 0 (gw_M0 ad) (mk4 σ (p + (i : Nat)) p (σ 223 11) (σ 223 12)) 94 [some (vR (some 223)), some (vI (tpF σ p))] [] := by
                refine up_ind _ ((σ 223 8 - p).toNat) (fun i hi ihi => ?_)
                intro he94
                refine g_aload_n fx dX11_reads_94 rfl ?_
                refine g_aload_n fx dX11_reads_95 rfl ?_
                refine g_geti fx dX11_reads_96 fk_RX11_97 (by decide) o_223 ?_
                rw [mk4_r9]
                refine g_callVD fx dX11_reads_99 mv_RX11_110 my_X11_see (s_X11_see ad _ _ (by omega) (by rw [mk4_r8]; omega)) o_223 rfl rfl rfl (Nat.le_of_ble_eq_true rfl) (by decide) (by decide) ?_
                rw [nSee_mk4]
                refine g_callSD fx dX11_reads_102 ms_RX11_106 my_X11_isLetter (s_X11_isLetter ad _ _) rfl rfl (Nat.le_of_ble_eq_true rfl) (by decide) (by decide) ?_
                have hL := nSee_L σ (p + (i : Nat))
                refine g_if_eq (tgt := 121) fx dX11_reads_105 (by decide) (fun h105 => ?_) (fun h105 => ?_)
                · have hz : ¬ (p + (i : Nat) < σ 223 8 ∧ isL (tpF σ (p + (i : Nat))) ≠ 0) := fun h => absurd (hL.mpr h) (by omega)
                  refine g_aload_n fx dX11_reads_121 rfl ?_
                  refine g_iconst fx dX11_reads_122 (by unfold okI; omega) ?_
                  refine g_puti fx dX11_reads_123 fk_RX11_103 o_223 ?_
                  rw [mk4_w11]
                  refine g_goto (tgt := 262) fx dX11_reads_126 (by decide) ?_
                  exact g_vret fx rfl dX11_reads_262 (by decide) (by decide) (gw_le.rf _) ⟨rfl, rfl, by first | (exfalso; omega) | (rw [nRd, hp]; (repeat first | rw [if_pos (by omega)] | rw [if_neg (by omega)]) <;> first | rfl | (rw [wr_id (by unfold okI; omega)] <;> rfl) | (rw [nLt, hp, he94, ltp_z hz]) | (rw [nDg, hp, he141, dgp_z hz]; dsimp only; (repeat first | rw [if_pos (by omega)] | rw [if_neg (by omega)])))⟩
                · have hy := hL.mp h105
                  refine g_aload_n fx dX11_reads_108 rfl ?_
                  refine g_dup fx dX11_reads_109 rfl ?_
                  refine g_geti fx dX11_reads_110 fk_RX11_97 (by decide) o_223 ?_
                  rw [mk4_r9]
                  refine g_iconst fx dX11_reads_113 (by unfold okI; omega) ?_
                  refine g_iadd fx dX11_reads_114 ?_
                  refine g_puti fx dX11_reads_115 fk_RX11_97 o_223 ?_
                  rw [mk4_w9]
                  refine g_goto (tgt := 94) fx dX11_reads_118 (by decide) ?_
                  exact gw_cg (by rw [wr_id (by unfold okI; omega), show (p + (i : Nat) + 1 : Int) = p + ((i + 1 : Nat) : Int) by omega]) rfl (ihi (by omega) (by rw [he94, show (σ 223 8 - p).toNat - i = (σ 223 8 - p).toNat - (i + 1) + 1 by omega, ltp, if_pos hy, show (p + (i : Nat) + 1 : Int) = p + ((i + 1 : Nat) : Int) by omega]))
              exact gw_cg (by rw [show (p + ((0 : Nat) : Int)) = p by omega]) rfl (loop94 0 (Nat.zero_le _) (by rw [show (p + ((0 : Nat) : Int)) = p by omega]; rfl))
          · refine g_aload_n fx dX11_reads_71 rfl ?_
            refine g_iconst fx dX11_reads_72 (by unfold okI; omega) ?_
            refine g_puti fx dX11_reads_73 fk_RX11_103 o_223 ?_
            rw [mk4_w11]
            exact g_vret fx rfl dX11_reads_76 (by decide) (by decide) (gw_le.rf _) ⟨rfl, rfl, by first | (exfalso; omega) | (rw [nRd, hp]; (repeat first | rw [if_pos (by omega)] | rw [if_neg (by omega)]) <;> first | rfl | (rw [wr_id (by unfold okI; omega)] <;> rfl) | (rw [nLt, hp, he94, ltp_z hz]) | (rw [nDg, hp, he141, dgp_z hz]; dsimp only; (repeat first | rw [if_pos (by omega)] | rw [if_neg (by omega)])))⟩
        · refine g_aload_n fx dX11_reads_39 rfl ?_
          refine g_dup fx dX11_reads_40 rfl ?_
          refine g_geti fx dX11_reads_41 fk_RX11_97 (by decide) o_223 ?_
          rw [mk4_r9]
          refine g_iconst fx dX11_reads_44 (by unfold okI; omega) ?_
          refine g_iadd fx dX11_reads_45 ?_
          refine g_puti fx dX11_reads_46 fk_RX11_97 o_223 ?_
          rw [mk4_w9]
          refine g_goto (tgt := 0) fx dX11_reads_49 (by decide) ?_
          exact gw_cg (by rw [wr_id (by unfold okI; omega), show (σ 223 9 + (k : Nat) + 1 : Int) = σ 223 9 + ((k + 1 : Nat) : Int) by omega]) rfl (ih (by omega) (by rw [he0, show (σ 223 8 - σ 223 9).toNat - k = (σ 223 8 - σ 223 9).toNat - (k + 1) + 1 by omega, wsp, if_pos (by omega), show (σ 223 9 + (k : Nat) + 1 : Int) = σ 223 9 + ((k + 1 : Nat) : Int) by omega]))
  exact gw_cg (by rw [show (σ 223 9 + ((0 : Nat) : Int)) = σ 223 9 by omega, mk4_id]) rfl (loop0 0 (Nat.zero_le _) (by rw [show (σ 223 9 + ((0 : Nat) : Int)) = σ 223 9 by omega]; rfl))
