theorem dX11_readSack_0 : gw_dc cX11_readSack 0 (.aload_n 0) 1 1 := ⟨by decide +kernel, rfl⟩
theorem dX11_readSack_1 : gw_dc cX11_readSack 1 (.getfield 13) 3 4 := ⟨by decide +kernel, rfl⟩
theorem dX11_readSack_4 : gw_dc cX11_readSack 4 (.iconst 4) 1 5 := ⟨by decide +kernel, rfl⟩
theorem dX11_readSack_5 : gw_dc cX11_readSack 5 (.iaload) 1 6 := ⟨by decide +kernel, rfl⟩
theorem dX11_readSack_6 : gw_dc cX11_readSack 6 (.bipush 24) 2 8 := ⟨by decide +kernel, rfl⟩
theorem dX11_readSack_8 : gw_dc cX11_readSack 8 (.if_icmp .ne 8) 3 11 := ⟨by decide +kernel, rfl⟩
theorem dX11_readSack_16 : gw_dc cX11_readSack 16 (.aload_n 0) 1 17 := ⟨by decide +kernel, rfl⟩
theorem dX11_readSack_17 : gw_dc cX11_readSack 17 (.getfield 120) 3 20 := ⟨by decide +kernel, rfl⟩
theorem dX11_readSack_20 : gw_dc cX11_readSack 20 (.ifCond .eq 4) 3 23 := ⟨by decide +kernel, rfl⟩
theorem dX11_readSack_24 : gw_dc cX11_readSack 24 (.aload_n 0) 1 25 := ⟨by decide +kernel, rfl⟩
theorem dX11_readSack_25 : gw_dc cX11_readSack 25 (.invokevirtual 140) 3 28 := ⟨by decide +kernel, rfl⟩
theorem dX11_readSack_28 : gw_dc cX11_readSack 28 (.bipush 20) 2 30 := ⟨by decide +kernel, rfl⟩
theorem dX11_readSack_30 : gw_dc cX11_readSack 30 (.bipush 7) 2 32 := ⟨by decide +kernel, rfl⟩
theorem dX11_readSack_32 : gw_dc cX11_readSack 32 (.aload_n 0) 1 33 := ⟨by decide +kernel, rfl⟩
theorem dX11_readSack_33 : gw_dc cX11_readSack 33 (.getfield 13) 3 36 := ⟨by decide +kernel, rfl⟩
theorem dX11_readSack_36 : gw_dc cX11_readSack 36 (.iconst 4) 1 37 := ⟨by decide +kernel, rfl⟩
theorem dX11_readSack_37 : gw_dc cX11_readSack 37 (.iaload) 1 38 := ⟨by decide +kernel, rfl⟩
theorem dX11_readSack_38 : gw_dc cX11_readSack 38 (.imul) 1 39 := ⟨by decide +kernel, rfl⟩
theorem dX11_readSack_39 : gw_dc cX11_readSack 39 (.iadd) 1 40 := ⟨by decide +kernel, rfl⟩
theorem dX11_readSack_40 : gw_dc cX11_readSack 40 (.istore_n 1) 1 41 := ⟨by decide +kernel, rfl⟩
theorem dX11_readSack_41 : gw_dc cX11_readSack 41 (.aload_n 0) 1 42 := ⟨by decide +kernel, rfl⟩
theorem dX11_readSack_42 : gw_dc cX11_readSack 42 (.iconst 1) 1 43 := ⟨by decide +kernel, rfl⟩
theorem dX11_readSack_43 : gw_dc cX11_readSack 43 (.bipush 99) 2 45 := ⟨by decide +kernel, rfl⟩
theorem dX11_readSack_45 : gw_dc cX11_readSack 45 (.invokevirtual 154) 3 48 := ⟨by decide +kernel, rfl⟩
theorem dX11_readSack_48 : gw_dc cX11_readSack 48 (.istore_n 2) 1 49 := ⟨by decide +kernel, rfl⟩
theorem dX11_readSack_49 : gw_dc cX11_readSack 49 (.aload_n 0) 1 50 := ⟨by decide +kernel, rfl⟩
theorem dX11_readSack_50 : gw_dc cX11_readSack 50 (.ldc 158) 2 52 := ⟨by decide +kernel, rfl⟩
theorem dX11_readSack_52 : gw_dc cX11_readSack 52 (.iconst 0) 1 53 := ⟨by decide +kernel, rfl⟩
theorem dX11_readSack_53 : gw_dc cX11_readSack 53 (.bipush 7) 2 55 := ⟨by decide +kernel, rfl⟩
theorem dX11_readSack_55 : gw_dc cX11_readSack 55 (.invokevirtual 160) 3 58 := ⟨by decide +kernel, rfl⟩
theorem mv_RX11_160 : gw_mv RX11 160 yX11_behind := ⟨gw_mem 1623 (by decide +kernel) rfl, gw_mem 1625 (by decide +kernel) rfl, gw_mem 49 (by decide +kernel) rfl⟩
theorem my_X11_behind : gw_my yX11_behind cX11_behind 4 (some .int) 3 := ⟨gw_mem 1626 (by decide +kernel) rfl, gw_mem 106 (by decide +kernel) rfl, by decide +kernel, by decide⟩
theorem dX11_readSack_58 : gw_dc cX11_readSack 58 (.istore_n 3) 1 59 := ⟨by decide +kernel, rfl⟩
theorem dX11_readSack_59 : gw_dc cX11_readSack 59 (.aload_n 0) 1 60 := ⟨by decide +kernel, rfl⟩
theorem dX11_readSack_60 : gw_dc cX11_readSack 60 (.ldc 164) 2 62 := ⟨by decide +kernel, rfl⟩
theorem dX11_readSack_62 : gw_dc cX11_readSack 62 (.iconst 0) 1 63 := ⟨by decide +kernel, rfl⟩
theorem dX11_readSack_63 : gw_dc cX11_readSack 63 (.sipush 600) 3 66 := ⟨by decide +kernel, rfl⟩
theorem dX11_readSack_66 : gw_dc cX11_readSack 66 (.invokevirtual 160) 3 69 := ⟨by decide +kernel, rfl⟩
theorem dX11_readSack_69 : gw_dc cX11_readSack 69 (.istore 4) 2 71 := ⟨by decide +kernel, rfl⟩
theorem dX11_readSack_71 : gw_dc cX11_readSack 71 (.aload_n 0) 1 72 := ⟨by decide +kernel, rfl⟩
theorem dX11_readSack_72 : gw_dc cX11_readSack 72 (.ldc 165) 2 74 := ⟨by decide +kernel, rfl⟩
theorem dX11_readSack_74 : gw_dc cX11_readSack 74 (.invokevirtual 151) 3 77 := ⟨by decide +kernel, rfl⟩
theorem dX11_readSack_77 : gw_dc cX11_readSack 77 (.ifCond .eq 12) 3 80 := ⟨by decide +kernel, rfl⟩
theorem dX11_readSack_89 : gw_dc cX11_readSack 89 (.iconst 0) 1 90 := ⟨by decide +kernel, rfl⟩
theorem dX11_readSack_90 : gw_dc cX11_readSack 90 (.istore 5) 2 92 := ⟨by decide +kernel, rfl⟩
theorem dX11_readSack_92 : gw_dc cX11_readSack 92 (.aload_n 0) 1 93 := ⟨by decide +kernel, rfl⟩
theorem dX11_readSack_93 : gw_dc cX11_readSack 93 (.ldc 167) 2 95 := ⟨by decide +kernel, rfl⟩
theorem dX11_readSack_95 : gw_dc cX11_readSack 95 (.invokevirtual 151) 3 98 := ⟨by decide +kernel, rfl⟩
theorem dX11_readSack_98 : gw_dc cX11_readSack 98 (.ifCond .eq 13) 3 101 := ⟨by decide +kernel, rfl⟩
theorem dX11_readSack_111 : gw_dc cX11_readSack 111 (.iconst 1) 1 112 := ⟨by decide +kernel, rfl⟩
theorem dX11_readSack_112 : gw_dc cX11_readSack 112 (.istore 6) 2 114 := ⟨by decide +kernel, rfl⟩
theorem dX11_readSack_114 : gw_dc cX11_readSack 114 (.aload_n 0) 1 115 := ⟨by decide +kernel, rfl⟩
theorem dX11_readSack_115 : gw_dc cX11_readSack 115 (.ldc 169) 2 117 := ⟨by decide +kernel, rfl⟩
theorem dX11_readSack_117 : gw_dc cX11_readSack 117 (.invokevirtual 151) 3 120 := ⟨by decide +kernel, rfl⟩
theorem dX11_readSack_120 : gw_dc cX11_readSack 120 (.ifCond .eq 14) 3 123 := ⟨by decide +kernel, rfl⟩
theorem dX11_readSack_134 : gw_dc cX11_readSack 134 (.iconst (-1)) 1 135 := ⟨by decide +kernel, rfl⟩
theorem dX11_readSack_135 : gw_dc cX11_readSack 135 (.istore 7) 2 137 := ⟨by decide +kernel, rfl⟩
theorem dX11_readSack_137 : gw_dc cX11_readSack 137 (.aload_n 0) 1 138 := ⟨by decide +kernel, rfl⟩
theorem dX11_readSack_138 : gw_dc cX11_readSack 138 (.getfield 120) 3 141 := ⟨by decide +kernel, rfl⟩
theorem dX11_readSack_141 : gw_dc cX11_readSack 141 (.ifCond .eq 4) 3 144 := ⟨by decide +kernel, rfl⟩
theorem dX11_readSack_145 : gw_dc cX11_readSack 145 (.aload_n 0) 1 146 := ⟨by decide +kernel, rfl⟩
theorem dX11_readSack_146 : gw_dc cX11_readSack 146 (.getfield 13) 3 149 := ⟨by decide +kernel, rfl⟩
theorem dX11_readSack_149 : gw_dc cX11_readSack 149 (.iload_n 1) 1 150 := ⟨by decide +kernel, rfl⟩
theorem dX11_readSack_150 : gw_dc cX11_readSack 150 (.iconst 0) 1 151 := ⟨by decide +kernel, rfl⟩
theorem dX11_readSack_151 : gw_dc cX11_readSack 151 (.iadd) 1 152 := ⟨by decide +kernel, rfl⟩
theorem dX11_readSack_152 : gw_dc cX11_readSack 152 (.iload_n 2) 1 153 := ⟨by decide +kernel, rfl⟩
theorem dX11_readSack_153 : gw_dc cX11_readSack 153 (.iastore) 1 154 := ⟨by decide +kernel, rfl⟩
theorem dX11_readSack_154 : gw_dc cX11_readSack 154 (.aload_n 0) 1 155 := ⟨by decide +kernel, rfl⟩
theorem dX11_readSack_155 : gw_dc cX11_readSack 155 (.getfield 13) 3 158 := ⟨by decide +kernel, rfl⟩
theorem dX11_readSack_158 : gw_dc cX11_readSack 158 (.iload_n 1) 1 159 := ⟨by decide +kernel, rfl⟩
theorem dX11_readSack_159 : gw_dc cX11_readSack 159 (.iconst 1) 1 160 := ⟨by decide +kernel, rfl⟩
theorem dX11_readSack_160 : gw_dc cX11_readSack 160 (.iadd) 1 161 := ⟨by decide +kernel, rfl⟩
theorem dX11_readSack_161 : gw_dc cX11_readSack 161 (.iload_n 3) 1 162 := ⟨by decide +kernel, rfl⟩
theorem dX11_readSack_162 : gw_dc cX11_readSack 162 (.iastore) 1 163 := ⟨by decide +kernel, rfl⟩
theorem dX11_readSack_163 : gw_dc cX11_readSack 163 (.aload_n 0) 1 164 := ⟨by decide +kernel, rfl⟩
theorem dX11_readSack_164 : gw_dc cX11_readSack 164 (.getfield 13) 3 167 := ⟨by decide +kernel, rfl⟩
theorem dX11_readSack_167 : gw_dc cX11_readSack 167 (.iload_n 1) 1 168 := ⟨by decide +kernel, rfl⟩
theorem dX11_readSack_168 : gw_dc cX11_readSack 168 (.iconst 2) 1 169 := ⟨by decide +kernel, rfl⟩
theorem dX11_readSack_169 : gw_dc cX11_readSack 169 (.iadd) 1 170 := ⟨by decide +kernel, rfl⟩
theorem dX11_readSack_170 : gw_dc cX11_readSack 170 (.iload 4) 2 172 := ⟨by decide +kernel, rfl⟩
theorem dX11_readSack_172 : gw_dc cX11_readSack 172 (.iastore) 1 173 := ⟨by decide +kernel, rfl⟩
theorem dX11_readSack_173 : gw_dc cX11_readSack 173 (.aload_n 0) 1 174 := ⟨by decide +kernel, rfl⟩
theorem dX11_readSack_174 : gw_dc cX11_readSack 174 (.getfield 13) 3 177 := ⟨by decide +kernel, rfl⟩
theorem dX11_readSack_177 : gw_dc cX11_readSack 177 (.iload_n 1) 1 178 := ⟨by decide +kernel, rfl⟩
theorem dX11_readSack_178 : gw_dc cX11_readSack 178 (.iconst 3) 1 179 := ⟨by decide +kernel, rfl⟩
theorem dX11_readSack_179 : gw_dc cX11_readSack 179 (.iadd) 1 180 := ⟨by decide +kernel, rfl⟩
theorem dX11_readSack_180 : gw_dc cX11_readSack 180 (.iload 5) 2 182 := ⟨by decide +kernel, rfl⟩
theorem dX11_readSack_182 : gw_dc cX11_readSack 182 (.iastore) 1 183 := ⟨by decide +kernel, rfl⟩
theorem dX11_readSack_183 : gw_dc cX11_readSack 183 (.aload_n 0) 1 184 := ⟨by decide +kernel, rfl⟩
theorem dX11_readSack_184 : gw_dc cX11_readSack 184 (.getfield 13) 3 187 := ⟨by decide +kernel, rfl⟩
theorem dX11_readSack_187 : gw_dc cX11_readSack 187 (.iload_n 1) 1 188 := ⟨by decide +kernel, rfl⟩
theorem dX11_readSack_188 : gw_dc cX11_readSack 188 (.iconst 4) 1 189 := ⟨by decide +kernel, rfl⟩
theorem dX11_readSack_189 : gw_dc cX11_readSack 189 (.iadd) 1 190 := ⟨by decide +kernel, rfl⟩
theorem dX11_readSack_190 : gw_dc cX11_readSack 190 (.iload 6) 2 192 := ⟨by decide +kernel, rfl⟩
theorem dX11_readSack_192 : gw_dc cX11_readSack 192 (.iastore) 1 193 := ⟨by decide +kernel, rfl⟩
theorem dX11_readSack_193 : gw_dc cX11_readSack 193 (.aload_n 0) 1 194 := ⟨by decide +kernel, rfl⟩
theorem dX11_readSack_194 : gw_dc cX11_readSack 194 (.getfield 13) 3 197 := ⟨by decide +kernel, rfl⟩
theorem dX11_readSack_197 : gw_dc cX11_readSack 197 (.iload_n 1) 1 198 := ⟨by decide +kernel, rfl⟩
theorem dX11_readSack_198 : gw_dc cX11_readSack 198 (.iconst 5) 1 199 := ⟨by decide +kernel, rfl⟩
theorem dX11_readSack_199 : gw_dc cX11_readSack 199 (.iadd) 1 200 := ⟨by decide +kernel, rfl⟩
theorem dX11_readSack_200 : gw_dc cX11_readSack 200 (.iload 7) 2 202 := ⟨by decide +kernel, rfl⟩
theorem dX11_readSack_202 : gw_dc cX11_readSack 202 (.iastore) 1 203 := ⟨by decide +kernel, rfl⟩
theorem dX11_readSack_203 : gw_dc cX11_readSack 203 (.aload_n 0) 1 204 := ⟨by decide +kernel, rfl⟩
theorem dX11_readSack_204 : gw_dc cX11_readSack 204 (.getfield 13) 3 207 := ⟨by decide +kernel, rfl⟩
theorem dX11_readSack_207 : gw_dc cX11_readSack 207 (.iload_n 1) 1 208 := ⟨by decide +kernel, rfl⟩
theorem dX11_readSack_208 : gw_dc cX11_readSack 208 (.bipush 6) 2 210 := ⟨by decide +kernel, rfl⟩
theorem dX11_readSack_210 : gw_dc cX11_readSack 210 (.iadd) 1 211 := ⟨by decide +kernel, rfl⟩
theorem dX11_readSack_211 : gw_dc cX11_readSack 211 (.iconst 1) 1 212 := ⟨by decide +kernel, rfl⟩
theorem dX11_readSack_212 : gw_dc cX11_readSack 212 (.iastore) 1 213 := ⟨by decide +kernel, rfl⟩
theorem dX11_readSack_213 : gw_dc cX11_readSack 213 (.aload_n 0) 1 214 := ⟨by decide +kernel, rfl⟩
theorem dX11_readSack_214 : gw_dc cX11_readSack 214 (.getfield 13) 3 217 := ⟨by decide +kernel, rfl⟩
theorem dX11_readSack_217 : gw_dc cX11_readSack 217 (.sipush 608) 3 220 := ⟨by decide +kernel, rfl⟩
theorem dX11_readSack_220 : gw_dc cX11_readSack 220 (.aload_n 0) 1 221 := ⟨by decide +kernel, rfl⟩
theorem dX11_readSack_221 : gw_dc cX11_readSack 221 (.getfield 13) 3 224 := ⟨by decide +kernel, rfl⟩
theorem dX11_readSack_224 : gw_dc cX11_readSack 224 (.iconst 4) 1 225 := ⟨by decide +kernel, rfl⟩
theorem dX11_readSack_225 : gw_dc cX11_readSack 225 (.iaload) 1 226 := ⟨by decide +kernel, rfl⟩
theorem dX11_readSack_226 : gw_dc cX11_readSack 226 (.iadd) 1 227 := ⟨by decide +kernel, rfl⟩
theorem dX11_readSack_227 : gw_dc cX11_readSack 227 (.iload_n 2) 1 228 := ⟨by decide +kernel, rfl⟩
theorem dX11_readSack_228 : gw_dc cX11_readSack 228 (.iastore) 1 229 := ⟨by decide +kernel, rfl⟩
theorem dX11_readSack_229 : gw_dc cX11_readSack 229 (.aload_n 0) 1 230 := ⟨by decide +kernel, rfl⟩
theorem dX11_readSack_230 : gw_dc cX11_readSack 230 (.getfield 13) 3 233 := ⟨by decide +kernel, rfl⟩
theorem dX11_readSack_233 : gw_dc cX11_readSack 233 (.iconst 4) 1 234 := ⟨by decide +kernel, rfl⟩
theorem dX11_readSack_234 : gw_dc cX11_readSack 234 (.dup2) 1 235 := ⟨by decide +kernel, rfl⟩
theorem dX11_readSack_235 : gw_dc cX11_readSack 235 (.iaload) 1 236 := ⟨by decide +kernel, rfl⟩
theorem dX11_readSack_236 : gw_dc cX11_readSack 236 (.iconst 1) 1 237 := ⟨by decide +kernel, rfl⟩
theorem dX11_readSack_237 : gw_dc cX11_readSack 237 (.iadd) 1 238 := ⟨by decide +kernel, rfl⟩
theorem dX11_readSack_238 : gw_dc cX11_readSack 238 (.iastore) 1 239 := ⟨by decide +kernel, rfl⟩
theorem dX11_readSack_239 : gw_dc cX11_readSack 239 (.aload_n 0) 1 240 := ⟨by decide +kernel, rfl⟩
theorem dX11_readSack_240 : gw_dc cX11_readSack 240 (.getfield 13) 3 243 := ⟨by decide +kernel, rfl⟩
theorem dX11_readSack_243 : gw_dc cX11_readSack 243 (.sipush 668) 3 246 := ⟨by decide +kernel, rfl⟩
theorem dX11_readSack_246 : gw_dc cX11_readSack 246 (.dup2) 1 247 := ⟨by decide +kernel, rfl⟩
theorem dX11_readSack_247 : gw_dc cX11_readSack 247 (.iaload) 1 248 := ⟨by decide +kernel, rfl⟩
theorem dX11_readSack_248 : gw_dc cX11_readSack 248 (.iconst 1) 1 249 := ⟨by decide +kernel, rfl⟩
theorem dX11_readSack_249 : gw_dc cX11_readSack 249 (.iadd) 1 250 := ⟨by decide +kernel, rfl⟩
theorem dX11_readSack_250 : gw_dc cX11_readSack 250 (.iastore) 1 251 := ⟨by decide +kernel, rfl⟩
theorem dX11_readSack_251 : decode cX11_readSack 251 = .ok (.return_, 1) := by decide +kernel
theorem dX11_readSack_144 : decode cX11_readSack 144 = .ok (.return_, 1) := by decide +kernel
theorem dX11_readSack_123 : gw_dc cX11_readSack 123 (.aload_n 0) 1 124 := ⟨by decide +kernel, rfl⟩
theorem dX11_readSack_124 : gw_dc cX11_readSack 124 (.iconst 0) 1 125 := ⟨by decide +kernel, rfl⟩
theorem dX11_readSack_125 : gw_dc cX11_readSack 125 (.sipush 999) 3 128 := ⟨by decide +kernel, rfl⟩
theorem dX11_readSack_128 : gw_dc cX11_readSack 128 (.invokevirtual 154) 3 131 := ⟨by decide +kernel, rfl⟩
theorem dX11_readSack_131 : gw_dc cX11_readSack 131 (.goto 4) 3 134 := ⟨by decide +kernel, rfl⟩
theorem dX11_readSack_101 : gw_dc cX11_readSack 101 (.aload_n 0) 1 102 := ⟨by decide +kernel, rfl⟩
theorem dX11_readSack_102 : gw_dc cX11_readSack 102 (.iconst 1) 1 103 := ⟨by decide +kernel, rfl⟩
theorem dX11_readSack_103 : gw_dc cX11_readSack 103 (.bipush 9) 2 105 := ⟨by decide +kernel, rfl⟩
theorem dX11_readSack_105 : gw_dc cX11_readSack 105 (.invokevirtual 154) 3 108 := ⟨by decide +kernel, rfl⟩
theorem dX11_readSack_108 : gw_dc cX11_readSack 108 (.goto 4) 3 111 := ⟨by decide +kernel, rfl⟩
theorem dX11_readSack_80 : gw_dc cX11_readSack 80 (.aload_n 0) 1 81 := ⟨by decide +kernel, rfl⟩
theorem dX11_readSack_81 : gw_dc cX11_readSack 81 (.iconst 0) 1 82 := ⟨by decide +kernel, rfl⟩
theorem dX11_readSack_82 : gw_dc cX11_readSack 82 (.iconst 3) 1 83 := ⟨by decide +kernel, rfl⟩
theorem dX11_readSack_83 : gw_dc cX11_readSack 83 (.invokevirtual 154) 3 86 := ⟨by decide +kernel, rfl⟩
theorem dX11_readSack_86 : gw_dc cX11_readSack 86 (.goto 4) 3 89 := ⟨by decide +kernel, rfl⟩
theorem dX11_readSack_23 : decode cX11_readSack 23 = .ok (.return_, 1) := by decide +kernel
theorem dX11_readSack_11 : gw_dc cX11_readSack 11 (.aload_n 0) 1 12 := ⟨by decide +kernel, rfl⟩
theorem dX11_readSack_12 : gw_dc cX11_readSack 12 (.iconst 4) 1 13 := ⟨by decide +kernel, rfl⟩
theorem dX11_readSack_13 : gw_dc cX11_readSack 13 (.invokevirtual 143) 3 16 := ⟨by decide +kernel, rfl⟩
/-! The model, 5: sacks, lines, rules -/
theorem nTak_ne (σ : Sg) (w : Nat) {a : Nat} (h : a ≠ 223) (j : Nat) : nTak σ w a j = σ a j := by
  rw [nTak]; split; rfl; exact nRd_ne _ h _
theorem nBeh_ne (σ : Sg) (w : Nat) {a : Nat} (h : a ≠ 223) (j : Nat) : nBeh1 σ w a j = σ a j := by
  rw [nBeh1]; split
  · rw [nBl_ne _ _ (Or.inl h), nTak_ne _ _ h]
  · exact nTak_ne _ _ h _
def nOp (σ : Sg) (j : Nat) (lo hi df : Int) : Int × Sg := if nSp σ j = 0 then (df, nTak σ j) else (nNum (nTak σ j) lo hi, nNm2 (nTak σ j) lo hi)
theorem Rk_op {σ : Sg} (h : Rk σ) (j : Nat) (lo hi df : Int) : Rk (nOp σ j lo hi df).2 := by
  rw [nOp]; split; exact Rk_tak h j; exact Rk_num (Rk_tak h j) _ _
theorem nOp_ne (σ : Sg) (w : Nat) (lo hi df : Int) {a : Nat} (h : a ≠ 223) (j : Nat) : (nOp σ w lo hi df).2 a j = σ a j := by
  rw [nOp]; split
  · exact nTak_ne _ _ h _
  · show nNm2 _ _ _ a j = _
    rw [nNm2_ne _ _ _ h, nTak_ne _ _ h]
def nq0 (σ : Sg) : Sg := if σ 225 4 = 24 then nBl σ 4 else σ
def nv1 (σ : Sg) : Int := nNum (nRd (nq0 σ)) 1 99
def nq1 (σ : Sg) : Sg := nNm2 (nRd (nq0 σ)) 1 99
def nv2 (σ : Sg) : Int := nNum (nBeh1 (nq1 σ) 4) 0 7
def nq2 (σ : Sg) : Sg := nNm2 (nBeh1 (nq1 σ) 4) 0 7
def nv3 (σ : Sg) : Int := nNum (nBeh1 (nq2 σ) 5) 0 600
def nq3 (σ : Sg) : Sg := nNm2 (nBeh1 (nq2 σ) 5) 0 600
def nq4 (σ : Sg) : Int × Sg := nOp (nq3 σ) 6 0 3 0
def nq5 (σ : Sg) : Int × Sg := nOp (nq4 σ).2 7 1 9 1
def nq6 (σ : Sg) : Int × Sg := nOp (nq5 σ).2 8 0 999 (-1)
theorem Rk_q0 {σ : Sg} (h : Rk σ) : Rk (nq0 σ) := by rw [nq0]; split; exact Rk_bl h _; exact h
theorem Rk_q1 {σ : Sg} (h : Rk σ) : Rk (nq1 σ) := Rk_num (Rk_rd' (Rk_q0 h)) _ _
theorem Rk_q2 {σ : Sg} (h : Rk σ) : Rk (nq2 σ) := Rk_num (Rk_beh (Rk_q1 h) _) _ _
theorem Rk_q3 {σ : Sg} (h : Rk σ) : Rk (nq3 σ) := Rk_num (Rk_beh (Rk_q2 h) _) _ _
theorem Rk_q4 {σ : Sg} (h : Rk σ) : Rk (nq4 σ).2 := Rk_op (Rk_q3 h) _ _ _ _
theorem Rk_q5 {σ : Sg} (h : Rk σ) : Rk (nq5 σ).2 := Rk_op (Rk_q4 h) _ _ _ _
theorem Rk_q6 {σ : Sg} (h : Rk σ) : Rk (nq6 σ).2 := Rk_op (Rk_q5 h) _ _ _ _
theorem nq0_ne (σ : Sg) {a : Nat} (h : a ≠ 223) (j : Nat) : nq0 σ a j = σ a j := by rw [nq0]; split; exact nBl_ne _ _ (Or.inl h); rfl
theorem nq6_ne (σ : Sg) {a : Nat} (h : a ≠ 223) (j : Nat) : (nq6 σ).2 a j = σ a j := by
  rw [nq6, nOp_ne _ _ _ _ _ h, nq5, nOp_ne _ _ _ _ _ h, nq4, nOp_ne _ _ _ _ _ h, nq3, nNm2_ne _ _ _ h, nBeh_ne _ _ h, nq2, nNm2_ne _ _ _ h, nBeh_ne _ _ h, nq1, nNm2_ne _ _ _ h, nRd_ne _ h, nq0_ne _ h]
def nz1 (σ : Sg) : Sg := su (nq6 σ).2 225 (20 + 7 * σ 225 4 + 0).toNat (nv1 σ)
def nz2 (σ : Sg) : Sg := su (nz1 σ) 225 (20 + 7 * σ 225 4 + 1).toNat (nv2 σ)
def nz3 (σ : Sg) : Sg := su (nz2 σ) 225 (20 + 7 * σ 225 4 + 2).toNat (nv3 σ)
def nz4 (σ : Sg) : Sg := su (nz3 σ) 225 (20 + 7 * σ 225 4 + 3).toNat (nq4 σ).1
def nz5 (σ : Sg) : Sg := su (nz4 σ) 225 (20 + 7 * σ 225 4 + 4).toNat (nq5 σ).1
def nz6 (σ : Sg) : Sg := su (nz5 σ) 225 (20 + 7 * σ 225 4 + 5).toNat (nq6 σ).1
def nz7 (σ : Sg) : Sg := su (nz6 σ) 225 (20 + 7 * σ 225 4 + 6).toNat 1
def nz8 (σ : Sg) : Sg := su (nz7 σ) 225 (608 + σ 225 4).toNat (nv1 σ)
def nz9 (σ : Sg) : Sg := su (nz8 σ) 225 4 (wr (nz8 σ 225 4 + 1))
def nz10 (σ : Sg) : Sg := su (nz9 σ) 225 668 (wr (nz9 σ 225 668 + 1))
theorem nz7_4 (σ : Sg) (h : 0 ≤ σ 225 4) : nz7 σ 225 4 = σ 225 4 := by
  rw [nz7, su_ne _ _ (Or.inr (by omega)), nz6, su_ne _ _ (Or.inr (by omega)), nz5, su_ne _ _ (Or.inr (by omega)), nz4, su_ne _ _ (Or.inr (by omega)), nz3, su_ne _ _ (Or.inr (by omega)), nz2, su_ne _ _ (Or.inr (by omega)), nz1, su_ne _ _ (Or.inr (by omega)), nq6_ne _ (by decide)]
def nSk (σ : Sg) : Sg := if nq0 σ 223 13 ≠ 0 then nq0 σ else if (nq6 σ).2 223 13 ≠ 0 then (nq6 σ).2 else nz10 σ
set_option maxRecDepth 4000 in
theorem s_X11_readSack (ad : Nat → Nat) (σ : Sg)  (hR : Rk σ) (hF : 0 ≤ σ 225 4 ∧ σ 225 4 ≤ 24) : gw_Sp yX11_readSack cX11_readSack 8 none 8 0 0 [vR (some 223)] (gw_M0 ad) σ (gw_D none (gw_M0 ad) (nSk σ)) gw_no := by
  refine gw_Sp.of [some (vR (some 223)), none, none, none, none, none, none, none] (by decide +kernel) rfl (Nat.le_of_ble_eq_true rfl) ?_
  intro X G fx het hnm
  refine g_aload_n fx dX11_readSack_0 rfl ?_
  refine g_getr fx dX11_readSack_1 fk_RX11_13 o_223 rf_223_1 ?_
  refine g_iconst fx dX11_readSack_4 (by unfold okI; omega) ?_
  refine g_iald fx dX11_readSack_5 o_225 (by decide) (by decide) ?_
  rw [show Int.toNat 4 = 4 from rfl]
  refine g_bipush fx dX11_readSack_6 (by decide) ?_
  refine g_icmp_ne (tgt := 16) fx dX11_readSack_8 (by decide) (fun h8 => ?_) (fun h8 => ?_)
  · refine gw_cg (σ' := nq0 σ) (by rw [nq0]; (repeat first | rw [if_pos (by omega)] | rw [if_neg (by omega)]) <;> rfl) rfl ?_
    refine g_aload_n fx dX11_readSack_16 rfl ?_
    refine g_geti fx dX11_readSack_17 fk_RX11_120 (by decide) o_223 ?_
    refine g_if_eq (tgt := 24) fx dX11_readSack_20 (by decide) (fun h20 => ?_) (fun h20 => ?_)
    · refine g_aload_n fx dX11_readSack_24 rfl ?_
      refine g_callVD0 fx dX11_readSack_25 mv_RX11_140 my_X11_reads (s_X11_readsR ad _ (Rk_q0 hR)) o_223 rfl rfl rfl (Nat.le_of_ble_eq_true rfl) (by decide) (by decide) ?_
      refine g_bipush fx dX11_readSack_28 (by decide) ?_
      refine g_bipush fx dX11_readSack_30 (by decide) ?_
      refine g_aload_n fx dX11_readSack_32 rfl ?_
      refine g_getr fx dX11_readSack_33 fk_RX11_13 o_223 rf_223_1 ?_
      refine g_iconst fx dX11_readSack_36 (by unfold okI; omega) ?_
      refine g_iald fx dX11_readSack_37 o_225 (by decide) (by decide) ?_
      rw [show Int.toNat 4 = 4 from rfl]
      refine g_imul fx dX11_readSack_38 ?_
      refine g_iadd fx dX11_readSack_39 ?_
      have hn1 : nRd (nq0 σ) 225 4 = σ 225 4 := by rw [nRd_ne _ (by decide), nq0_ne _ (by decide)]
      refine gw_cgt rfl (show wr (20 + wr (7 * nRd (nq0 σ) 225 4)) = 20 + 7 * σ 225 4 by rw [hn1, wr_id (show okI (7 * σ 225 4) by unfold okI; omega), wr_id (by unfold okI; omega)]) ?_
      refine g_istore_n fx dX11_readSack_40 (by decide) rfl rfl ?_
      refine g_aload_n fx dX11_readSack_41 rfl ?_
      refine g_iconst fx dX11_readSack_42 (by unfold okI; omega) ?_
      refine g_bipush fx dX11_readSack_43 (by decide) ?_
      refine g_callVD fx dX11_readSack_45 mv_RX11_154 my_X11_number (s_X11_number ad _ _ _ (Rk_rd' (Rk_q0 hR))) o_223 rfl rfl rfl (Nat.le_of_ble_eq_true rfl) (by decide) (by decide) ?_
      refine gw_cgt (σ' := nq1 σ) (v' := nv1 σ) rfl rfl ?_
      refine g_istore_n fx dX11_readSack_48 (by decide) rfl rfl ?_
      refine g_aload_n fx dX11_readSack_49 rfl ?_
      refine g_ldcS fx dX11_readSack_50 (by decide +kernel : (RX11, 158, "of", 4) ∈ gw_strT) ?_
      refine g_iconst fx dX11_readSack_52 (by unfold okI; omega) ?_
      refine g_bipush fx dX11_readSack_53 (by decide) ?_
      refine g_callVD fx dX11_readSack_55 mv_RX11_160 my_X11_behind (s_X11_behind ad _ 4 _ _ (by decide) (Rk_q1 hR)) o_223 rfl rfl rfl (Nat.le_of_ble_eq_true rfl) (by decide) (by decide) ?_
      refine gw_cgt (σ' := nq2 σ) (v' := nv2 σ) rfl rfl ?_
      refine g_istore_n fx dX11_readSack_58 (by decide) rfl rfl ?_
      refine g_aload_n fx dX11_readSack_59 rfl ?_
      refine g_ldcS fx dX11_readSack_60 (by decide +kernel : (RX11, 164, "at", 5) ∈ gw_strT) ?_
      refine g_iconst fx dX11_readSack_62 (by unfold okI; omega) ?_
      refine g_sipush fx dX11_readSack_63 (by decide) ?_
      refine g_callVD fx dX11_readSack_66 mv_RX11_160 my_X11_behind (s_X11_behind ad _ 5 _ _ (by decide) (Rk_q2 hR)) o_223 rfl rfl rfl (Nat.le_of_ble_eq_true rfl) (by decide) (by decide) ?_
      refine gw_cgt (σ' := nq3 σ) (v' := nv3 σ) rfl rfl ?_
      refine g_istore fx dX11_readSack_69 (by decide) rfl rfl ?_
      refine g_aload_n fx dX11_readSack_71 rfl ?_
      refine g_ldcS fx dX11_readSack_72 (by decide +kernel : (RX11, 165, "sort", 6) ∈ gw_strT) ?_
      refine g_callVD fx dX11_readSack_74 mv_RX11_151 my_X11_took (s_X11_took ad _ 6 (by decide) (Rk_q3 hR)) o_223 rfl rfl rfl (Nat.le_of_ble_eq_true rfl) (by decide) (by decide) ?_
      refine g_if_eq (tgt := 89) fx dX11_readSack_77 (by decide) (fun h77 => ?_) (fun h77 => ?_)
      · refine g_iconst fx dX11_readSack_89 (by unfold okI; omega) ?_
        refine gw_cgt (σ' := (nq4 σ).2) (v' := (nq4 σ).1) (by rw [nq4, nOp]; first | rw [if_pos (by assumption)] | rw [if_neg (by assumption)]) (by rw [nq4, nOp]; first | rw [if_pos (by assumption)] | rw [if_neg (by assumption)]) ?_
        refine g_istore fx dX11_readSack_90 (by decide) rfl rfl ?_
        refine g_aload_n fx dX11_readSack_92 rfl ?_
        refine g_ldcS fx dX11_readSack_93 (by decide +kernel : (RX11, 167, "worth", 7) ∈ gw_strT) ?_
        refine g_callVD fx dX11_readSack_95 mv_RX11_151 my_X11_took (s_X11_took ad _ 7 (by decide) (Rk_q4 hR)) o_223 rfl rfl rfl (Nat.le_of_ble_eq_true rfl) (by decide) (by decide) ?_
        refine g_if_eq (tgt := 111) fx dX11_readSack_98 (by decide) (fun h98 => ?_) (fun h98 => ?_)
        · refine g_iconst fx dX11_readSack_111 (by unfold okI; omega) ?_
          refine gw_cgt (σ' := (nq5 σ).2) (v' := (nq5 σ).1) (by rw [nq5, nOp]; first | rw [if_pos (by assumption)] | rw [if_neg (by assumption)]) (by rw [nq5, nOp]; first | rw [if_pos (by assumption)] | rw [if_neg (by assumption)]) ?_
          refine g_istore fx dX11_readSack_112 (by decide) rfl rfl ?_
          refine g_aload_n fx dX11_readSack_114 rfl ?_
          refine g_ldcS fx dX11_readSack_115 (by decide +kernel : (RX11, 169, "home", 8) ∈ gw_strT) ?_
          refine g_callVD fx dX11_readSack_117 mv_RX11_151 my_X11_took (s_X11_took ad _ 8 (by decide) (Rk_q5 hR)) o_223 rfl rfl rfl (Nat.le_of_ble_eq_true rfl) (by decide) (by decide) ?_
          refine g_if_eq (tgt := 134) fx dX11_readSack_120 (by decide) (fun h120 => ?_) (fun h120 => ?_)
          · refine g_iconst fx dX11_readSack_134 (by unfold okI; omega) ?_
            refine gw_cgt (σ' := (nq6 σ).2) (v' := (nq6 σ).1) (by rw [nq6, nOp]; first | rw [if_pos (by assumption)] | rw [if_neg (by assumption)]) (by rw [nq6, nOp]; first | rw [if_pos (by assumption)] | rw [if_neg (by assumption)]) ?_
            refine g_istore fx dX11_readSack_135 (by decide) rfl rfl ?_
            refine g_aload_n fx dX11_readSack_137 rfl ?_
            refine g_geti fx dX11_readSack_138 fk_RX11_120 (by decide) o_223 ?_
            refine g_if_eq (tgt := 145) fx dX11_readSack_141 (by decide) (fun h141 => ?_) (fun h141 => ?_)
            · refine g_aload_n fx dX11_readSack_145 rfl ?_
              refine g_getr fx dX11_readSack_146 fk_RX11_13 o_223 rf_223_1 ?_
              refine g_iload_n fx dX11_readSack_149 rfl ?_
              refine g_iconst fx dX11_readSack_150 (by unfold okI; omega) ?_
              refine g_iadd fx dX11_readSack_151 ?_
              refine gw_cgt rfl (wr_id (show okI (20 + 7 * σ 225 4 + 0) by unfold okI; omega)) ?_
              refine g_iload_n fx dX11_readSack_152 rfl ?_
              refine g_iast fx dX11_readSack_153 o_225 (by omega) (by show _ < ((672 : Nat) : Int); omega) ?_
              refine gw_cg (σ' := nz1 σ) rfl rfl ?_
              refine g_aload_n fx dX11_readSack_154 rfl ?_
              refine g_getr fx dX11_readSack_155 fk_RX11_13 o_223 rf_223_1 ?_
              refine g_iload_n fx dX11_readSack_158 rfl ?_
              refine g_iconst fx dX11_readSack_159 (by unfold okI; omega) ?_
              refine g_iadd fx dX11_readSack_160 ?_
              refine gw_cgt rfl (wr_id (show okI (20 + 7 * σ 225 4 + 1) by unfold okI; omega)) ?_
              refine g_iload_n fx dX11_readSack_161 rfl ?_
              refine g_iast fx dX11_readSack_162 o_225 (by omega) (by show _ < ((672 : Nat) : Int); omega) ?_
              refine gw_cg (σ' := nz2 σ) rfl rfl ?_
              refine g_aload_n fx dX11_readSack_163 rfl ?_
              refine g_getr fx dX11_readSack_164 fk_RX11_13 o_223 rf_223_1 ?_
              refine g_iload_n fx dX11_readSack_167 rfl ?_
              refine g_iconst fx dX11_readSack_168 (by unfold okI; omega) ?_
              refine g_iadd fx dX11_readSack_169 ?_
              refine gw_cgt rfl (wr_id (show okI (20 + 7 * σ 225 4 + 2) by unfold okI; omega)) ?_
              refine g_iload fx dX11_readSack_170 rfl ?_
              refine g_iast fx dX11_readSack_172 o_225 (by omega) (by show _ < ((672 : Nat) : Int); omega) ?_
              refine gw_cg (σ' := nz3 σ) rfl rfl ?_
              refine g_aload_n fx dX11_readSack_173 rfl ?_
              refine g_getr fx dX11_readSack_174 fk_RX11_13 o_223 rf_223_1 ?_
              refine g_iload_n fx dX11_readSack_177 rfl ?_
              refine g_iconst fx dX11_readSack_178 (by unfold okI; omega) ?_
              refine g_iadd fx dX11_readSack_179 ?_
              refine gw_cgt rfl (wr_id (show okI (20 + 7 * σ 225 4 + 3) by unfold okI; omega)) ?_
              refine g_iload fx dX11_readSack_180 rfl ?_
              refine g_iast fx dX11_readSack_182 o_225 (by omega) (by show _ < ((672 : Nat) : Int); omega) ?_
              refine gw_cg (σ' := nz4 σ) rfl rfl ?_
              refine g_aload_n fx dX11_readSack_183 rfl ?_
              refine g_getr fx dX11_readSack_184 fk_RX11_13 o_223 rf_223_1 ?_
              refine g_iload_n fx dX11_readSack_187 rfl ?_
              refine g_iconst fx dX11_readSack_188 (by unfold okI; omega) ?_
              refine g_iadd fx dX11_readSack_189 ?_
              refine gw_cgt rfl (wr_id (show okI (20 + 7 * σ 225 4 + 4) by unfold okI; omega)) ?_
              refine g_iload fx dX11_readSack_190 rfl ?_
              refine g_iast fx dX11_readSack_192 o_225 (by omega) (by show _ < ((672 : Nat) : Int); omega) ?_
              refine gw_cg (σ' := nz5 σ) rfl rfl ?_
              refine g_aload_n fx dX11_readSack_193 rfl ?_
              refine g_getr fx dX11_readSack_194 fk_RX11_13 o_223 rf_223_1 ?_
              refine g_iload_n fx dX11_readSack_197 rfl ?_
              refine g_iconst fx dX11_readSack_198 (by unfold okI; omega) ?_
              refine g_iadd fx dX11_readSack_199 ?_
              refine gw_cgt rfl (wr_id (show okI (20 + 7 * σ 225 4 + 5) by unfold okI; omega)) ?_
              refine g_iload fx dX11_readSack_200 rfl ?_
              refine g_iast fx dX11_readSack_202 o_225 (by omega) (by show _ < ((672 : Nat) : Int); omega) ?_
              refine gw_cg (σ' := nz6 σ) rfl rfl ?_
              refine g_aload_n fx dX11_readSack_203 rfl ?_
              refine g_getr fx dX11_readSack_204 fk_RX11_13 o_223 rf_223_1 ?_
              refine g_iload_n fx dX11_readSack_207 rfl ?_
              refine g_bipush fx dX11_readSack_208 (by decide) ?_
              refine g_iadd fx dX11_readSack_210 ?_
              refine gw_cgt rfl (wr_id (show okI (20 + 7 * σ 225 4 + 6) by unfold okI; omega)) ?_
              refine g_iconst fx dX11_readSack_211 (by unfold okI; omega) ?_
              refine g_iast fx dX11_readSack_212 o_225 (by omega) (by show _ < ((672 : Nat) : Int); omega) ?_
              refine gw_cg (σ' := nz7 σ) rfl rfl ?_
              refine g_aload_n fx dX11_readSack_213 rfl ?_
              refine g_getr fx dX11_readSack_214 fk_RX11_13 o_223 rf_223_1 ?_
              refine g_sipush fx dX11_readSack_217 (by decide) ?_
              refine g_aload_n fx dX11_readSack_220 rfl ?_
              refine g_getr fx dX11_readSack_221 fk_RX11_13 o_223 rf_223_1 ?_
              refine g_iconst fx dX11_readSack_224 (by unfold okI; omega) ?_
              refine g_iald fx dX11_readSack_225 o_225 (by decide) (by decide) ?_
              rw [show Int.toNat 4 = 4 from rfl]
              rw [nz7_4 σ hF.1]
              refine g_iadd fx dX11_readSack_226 ?_
              refine gw_cgt rfl (wr_id (show okI (608 + σ 225 4) by unfold okI; omega)) ?_
              refine g_iload_n fx dX11_readSack_227 rfl ?_
              refine g_iast fx dX11_readSack_228 o_225 (by omega) (by show _ < ((672 : Nat) : Int); omega) ?_
              refine gw_cg (σ' := nz8 σ) rfl rfl ?_
              refine g_aload_n fx dX11_readSack_229 rfl ?_
              refine g_getr fx dX11_readSack_230 fk_RX11_13 o_223 rf_223_1 ?_
              refine g_iconst fx dX11_readSack_233 (by unfold okI; omega) ?_
              refine g_dup2 fx dX11_readSack_234 rfl rfl ?_
              refine g_iald fx dX11_readSack_235 o_225 (by decide) (by decide) ?_
              refine g_iconst fx dX11_readSack_236 (by unfold okI; omega) ?_
              refine g_iadd fx dX11_readSack_237 ?_
              refine g_iast fx dX11_readSack_238 o_225 (by decide) (by decide) ?_
              refine gw_cg (σ' := nz9 σ) rfl rfl ?_
              refine g_aload_n fx dX11_readSack_239 rfl ?_
              refine g_getr fx dX11_readSack_240 fk_RX11_13 o_223 rf_223_1 ?_
              refine g_sipush fx dX11_readSack_243 (by decide) ?_
              refine g_dup2 fx dX11_readSack_246 rfl rfl ?_
              refine g_iald fx dX11_readSack_247 o_225 (by decide) (by decide) ?_
              refine g_iconst fx dX11_readSack_248 (by unfold okI; omega) ?_
              refine g_iadd fx dX11_readSack_249 ?_
              refine g_iast fx dX11_readSack_250 o_225 (by decide) (by decide) ?_
              exact g_vret fx rfl dX11_readSack_251 (by decide) (by decide) (gw_le.rf _) ⟨rfl, rfl, by rw [nSk]; (repeat first | rw [if_pos (by omega)] | rw [if_neg (by omega)]) <;> rfl⟩
            · exact g_vret fx rfl dX11_readSack_144 (by decide) (by decide) (gw_le.rf _) ⟨rfl, rfl, by rw [nSk]; (repeat first | rw [if_pos (by omega)] | rw [if_neg (by omega)]) <;> rfl⟩
          · refine g_aload_n fx dX11_readSack_123 rfl ?_
            refine g_iconst fx dX11_readSack_124 (by unfold okI; omega) ?_
            refine g_sipush fx dX11_readSack_125 (by decide) ?_
            refine g_callVD fx dX11_readSack_128 mv_RX11_154 my_X11_number (s_X11_number ad _ _ _ (Rk_tak (Rk_q5 hR) 8)) o_223 rfl rfl rfl (Nat.le_of_ble_eq_true rfl) (by decide) (by decide) ?_
            refine g_goto (tgt := 135) fx dX11_readSack_131 (by decide) ?_
            refine gw_cgt (σ' := (nq6 σ).2) (v' := (nq6 σ).1) (by rw [nq6, nOp]; first | rw [if_pos (by assumption)] | rw [if_neg (by assumption)]) (by rw [nq6, nOp]; first | rw [if_pos (by assumption)] | rw [if_neg (by assumption)]) ?_
            refine g_istore fx dX11_readSack_135 (by decide) rfl rfl ?_
            refine g_aload_n fx dX11_readSack_137 rfl ?_
            refine g_geti fx dX11_readSack_138 fk_RX11_120 (by decide) o_223 ?_
            refine g_if_eq (tgt := 145) fx dX11_readSack_141 (by decide) (fun h141 => ?_) (fun h141 => ?_)
            · refine g_aload_n fx dX11_readSack_145 rfl ?_
              refine g_getr fx dX11_readSack_146 fk_RX11_13 o_223 rf_223_1 ?_
              refine g_iload_n fx dX11_readSack_149 rfl ?_
              refine g_iconst fx dX11_readSack_150 (by unfold okI; omega) ?_
              refine g_iadd fx dX11_readSack_151 ?_
              refine gw_cgt rfl (wr_id (show okI (20 + 7 * σ 225 4 + 0) by unfold okI; omega)) ?_
              refine g_iload_n fx dX11_readSack_152 rfl ?_
              refine g_iast fx dX11_readSack_153 o_225 (by omega) (by show _ < ((672 : Nat) : Int); omega) ?_
              refine gw_cg (σ' := nz1 σ) rfl rfl ?_
              refine g_aload_n fx dX11_readSack_154 rfl ?_
              refine g_getr fx dX11_readSack_155 fk_RX11_13 o_223 rf_223_1 ?_
              refine g_iload_n fx dX11_readSack_158 rfl ?_
              refine g_iconst fx dX11_readSack_159 (by unfold okI; omega) ?_
              refine g_iadd fx dX11_readSack_160 ?_
              refine gw_cgt rfl (wr_id (show okI (20 + 7 * σ 225 4 + 1) by unfold okI; omega)) ?_
              refine g_iload_n fx dX11_readSack_161 rfl ?_
              refine g_iast fx dX11_readSack_162 o_225 (by omega) (by show _ < ((672 : Nat) : Int); omega) ?_
              refine gw_cg (σ' := nz2 σ) rfl rfl ?_
              refine g_aload_n fx dX11_readSack_163 rfl ?_
              refine g_getr fx dX11_readSack_164 fk_RX11_13 o_223 rf_223_1 ?_
              refine g_iload_n fx dX11_readSack_167 rfl ?_
              refine g_iconst fx dX11_readSack_168 (by unfold okI; omega) ?_
              refine g_iadd fx dX11_readSack_169 ?_
              refine gw_cgt rfl (wr_id (show okI (20 + 7 * σ 225 4 + 2) by unfold okI; omega)) ?_
              refine g_iload fx dX11_readSack_170 rfl ?_
              refine g_iast fx dX11_readSack_172 o_225 (by omega) (by show _ < ((672 : Nat) : Int); omega) ?_
              refine gw_cg (σ' := nz3 σ) rfl rfl ?_
              refine g_aload_n fx dX11_readSack_173 rfl ?_
              refine g_getr fx dX11_readSack_174 fk_RX11_13 o_223 rf_223_1 ?_
              refine g_iload_n fx dX11_readSack_177 rfl ?_
              refine g_iconst fx dX11_readSack_178 (by unfold okI; omega) ?_
              refine g_iadd fx dX11_readSack_179 ?_
              refine gw_cgt rfl (wr_id (show okI (20 + 7 * σ 225 4 + 3) by unfold okI; omega)) ?_
              refine g_iload fx dX11_readSack_180 rfl ?_
              refine g_iast fx dX11_readSack_182 o_225 (by omega) (by show _ < ((672 : Nat) : Int); omega) ?_
              refine gw_cg (σ' := nz4 σ) rfl rfl ?_
              refine g_aload_n fx dX11_readSack_183 rfl ?_
              refine g_getr fx dX11_readSack_184 fk_RX11_13 o_223 rf_223_1 ?_
              refine g_iload_n fx dX11_readSack_187 rfl ?_
              refine g_iconst fx dX11_readSack_188 (by unfold okI; omega) ?_
              refine g_iadd fx dX11_readSack_189 ?_
              refine gw_cgt rfl (wr_id (show okI (20 + 7 * σ 225 4 + 4) by unfold okI; omega)) ?_
              refine g_iload fx dX11_readSack_190 rfl ?_
              refine g_iast fx dX11_readSack_192 o_225 (by omega) (by show _ < ((672 : Nat) : Int); omega) ?_
              refine gw_cg (σ' := nz5 σ) rfl rfl ?_
              refine g_aload_n fx dX11_readSack_193 rfl ?_
              refine g_getr fx dX11_readSack_194 fk_RX11_13 o_223 rf_223_1 ?_
              refine g_iload_n fx dX11_readSack_197 rfl ?_
              refine g_iconst fx dX11_readSack_198 (by unfold okI; omega) ?_
              refine g_iadd fx dX11_readSack_199 ?_
              refine gw_cgt rfl (wr_id (show okI (20 + 7 * σ 225 4 + 5) by unfold okI; omega)) ?_
              refine g_iload fx dX11_readSack_200 rfl ?_
              refine g_iast fx dX11_readSack_202 o_225 (by omega) (by show _ < ((672 : Nat) : Int); omega) ?_
              refine gw_cg (σ' := nz6 σ) rfl rfl ?_
              refine g_aload_n fx dX11_readSack_203 rfl ?_
              refine g_getr fx dX11_readSack_204 fk_RX11_13 o_223 rf_223_1 ?_
              refine g_iload_n fx dX11_readSack_207 rfl ?_
              refine g_bipush fx dX11_readSack_208 (by decide) ?_
              refine g_iadd fx dX11_readSack_210 ?_
              refine gw_cgt rfl (wr_id (show okI (20 + 7 * σ 225 4 + 6) by unfold okI; omega)) ?_
              refine g_iconst fx dX11_readSack_211 (by unfold okI; omega) ?_
              refine g_iast fx dX11_readSack_212 o_225 (by omega) (by show _ < ((672 : Nat) : Int); omega) ?_
              refine gw_cg (σ' := nz7 σ) rfl rfl ?_
              refine g_aload_n fx dX11_readSack_213 rfl ?_
              refine g_getr fx dX11_readSack_214 fk_RX11_13 o_223 rf_223_1 ?_
              refine g_sipush fx dX11_readSack_217 (by decide) ?_
              refine g_aload_n fx dX11_readSack_220 rfl ?_
              refine g_getr fx dX11_readSack_221 fk_RX11_13 o_223 rf_223_1 ?_
              refine g_iconst fx dX11_readSack_224 (by unfold okI; omega) ?_
              refine g_iald fx dX11_readSack_225 o_225 (by decide) (by decide) ?_
              rw [show Int.toNat 4 = 4 from rfl]
              rw [nz7_4 σ hF.1]
              refine g_iadd fx dX11_readSack_226 ?_
              refine gw_cgt rfl (wr_id (show okI (608 + σ 225 4) by unfold okI; omega)) ?_
              refine g_iload_n fx dX11_readSack_227 rfl ?_
              refine g_iast fx dX11_readSack_228 o_225 (by omega) (by show _ < ((672 : Nat) : Int); omega) ?_
              refine gw_cg (σ' := nz8 σ) rfl rfl ?_
              refine g_aload_n fx dX11_readSack_229 rfl ?_
              refine g_getr fx dX11_readSack_230 fk_RX11_13 o_223 rf_223_1 ?_
              refine g_iconst fx dX11_readSack_233 (by unfold okI; omega) ?_
              refine g_dup2 fx dX11_readSack_234 rfl rfl ?_
              refine g_iald fx dX11_readSack_235 o_225 (by decide) (by decide) ?_
              refine g_iconst fx dX11_readSack_236 (by unfold okI; omega) ?_
              refine g_iadd fx dX11_readSack_237 ?_
              refine g_iast fx dX11_readSack_238 o_225 (by decide) (by decide) ?_
              refine gw_cg (σ' := nz9 σ) rfl rfl ?_
              refine g_aload_n fx dX11_readSack_239 rfl ?_
              refine g_getr fx dX11_readSack_240 fk_RX11_13 o_223 rf_223_1 ?_
              refine g_sipush fx dX11_readSack_243 (by decide) ?_
              refine g_dup2 fx dX11_readSack_246 rfl rfl ?_
              refine g_iald fx dX11_readSack_247 o_225 (by decide) (by decide) ?_
              refine g_iconst fx dX11_readSack_248 (by unfold okI; omega) ?_
              refine g_iadd fx dX11_readSack_249 ?_
              refine g_iast fx dX11_readSack_250 o_225 (by decide) (by decide) ?_
              exact g_vret fx rfl dX11_readSack_251 (by decide) (by decide) (gw_le.rf _) ⟨rfl, rfl, by rw [nSk]; (repeat first | rw [if_pos (by omega)] | rw [if_neg (by omega)]) <;> rfl⟩
            · exact g_vret fx rfl dX11_readSack_144 (by decide) (by decide) (gw_le.rf _) ⟨rfl, rfl, by rw [nSk]; (repeat first | rw [if_pos (by omega)] | rw [if_neg (by omega)]) <;> rfl⟩
        · refine g_aload_n fx dX11_readSack_101 rfl ?_
          refine g_iconst fx dX11_readSack_102 (by unfold okI; omega) ?_
          refine g_bipush fx dX11_readSack_103 (by decide) ?_
          refine g_callVD fx dX11_readSack_105 mv_RX11_154 my_X11_number (s_X11_number ad _ _ _ (Rk_tak (Rk_q4 hR) 7)) o_223 rfl rfl rfl (Nat.le_of_ble_eq_true rfl) (by decide) (by decide) ?_
          refine g_goto (tgt := 112) fx dX11_readSack_108 (by decide) ?_
          refine gw_cgt (σ' := (nq5 σ).2) (v' := (nq5 σ).1) (by rw [nq5, nOp]; first | rw [if_pos (by assumption)] | rw [if_neg (by assumption)]) (by rw [nq5, nOp]; first | rw [if_pos (by assumption)] | rw [if_neg (by assumption)]) ?_
          refine g_istore fx dX11_readSack_112 (by decide) rfl rfl ?_
          refine g_aload_n fx dX11_readSack_114 rfl ?_
          refine g_ldcS fx dX11_readSack_115 (by decide +kernel : (RX11, 169, "home", 8) ∈ gw_strT) ?_
          refine g_callVD fx dX11_readSack_117 mv_RX11_151 my_X11_took (s_X11_took ad _ 8 (by decide) (Rk_q5 hR)) o_223 rfl rfl rfl (Nat.le_of_ble_eq_true rfl) (by decide) (by decide) ?_
          refine g_if_eq (tgt := 134) fx dX11_readSack_120 (by decide) (fun h120 => ?_) (fun h120 => ?_)
          · refine g_iconst fx dX11_readSack_134 (by unfold okI; omega) ?_
            refine gw_cgt (σ' := (nq6 σ).2) (v' := (nq6 σ).1) (by rw [nq6, nOp]; first | rw [if_pos (by assumption)] | rw [if_neg (by assumption)]) (by rw [nq6, nOp]; first | rw [if_pos (by assumption)] | rw [if_neg (by assumption)]) ?_
            refine g_istore fx dX11_readSack_135 (by decide) rfl rfl ?_
            refine g_aload_n fx dX11_readSack_137 rfl ?_
            refine g_geti fx dX11_readSack_138 fk_RX11_120 (by decide) o_223 ?_
            refine g_if_eq (tgt := 145) fx dX11_readSack_141 (by decide) (fun h141 => ?_) (fun h141 => ?_)
            · refine g_aload_n fx dX11_readSack_145 rfl ?_
              refine g_getr fx dX11_readSack_146 fk_RX11_13 o_223 rf_223_1 ?_
              refine g_iload_n fx dX11_readSack_149 rfl ?_
              refine g_iconst fx dX11_readSack_150 (by unfold okI; omega) ?_
              refine g_iadd fx dX11_readSack_151 ?_
              refine gw_cgt rfl (wr_id (show okI (20 + 7 * σ 225 4 + 0) by unfold okI; omega)) ?_
              refine g_iload_n fx dX11_readSack_152 rfl ?_
              refine g_iast fx dX11_readSack_153 o_225 (by omega) (by show _ < ((672 : Nat) : Int); omega) ?_
              refine gw_cg (σ' := nz1 σ) rfl rfl ?_
              refine g_aload_n fx dX11_readSack_154 rfl ?_
              refine g_getr fx dX11_readSack_155 fk_RX11_13 o_223 rf_223_1 ?_
              refine g_iload_n fx dX11_readSack_158 rfl ?_
              refine g_iconst fx dX11_readSack_159 (by unfold okI; omega) ?_
              refine g_iadd fx dX11_readSack_160 ?_
              refine gw_cgt rfl (wr_id (show okI (20 + 7 * σ 225 4 + 1) by unfold okI; omega)) ?_
              refine g_iload_n fx dX11_readSack_161 rfl ?_
              refine g_iast fx dX11_readSack_162 o_225 (by omega) (by show _ < ((672 : Nat) : Int); omega) ?_
              refine gw_cg (σ' := nz2 σ) rfl rfl ?_
              refine g_aload_n fx dX11_readSack_163 rfl ?_
              refine g_getr fx dX11_readSack_164 fk_RX11_13 o_223 rf_223_1 ?_
              refine g_iload_n fx dX11_readSack_167 rfl ?_
              refine g_iconst fx dX11_readSack_168 (by unfold okI; omega) ?_
              refine g_iadd fx dX11_readSack_169 ?_
              refine gw_cgt rfl (wr_id (show okI (20 + 7 * σ 225 4 + 2) by unfold okI; omega)) ?_
              refine g_iload fx dX11_readSack_170 rfl ?_
              refine g_iast fx dX11_readSack_172 o_225 (by omega) (by show _ < ((672 : Nat) : Int); omega) ?_
              refine gw_cg (σ' := nz3 σ) rfl rfl ?_
              refine g_aload_n fx dX11_readSack_173 rfl ?_
              refine g_getr fx dX11_readSack_174 fk_RX11_13 o_223 rf_223_1 ?_
              refine g_iload_n fx dX11_readSack_177 rfl ?_
              refine g_iconst fx dX11_readSack_178 (by unfold okI; omega) ?_
              refine g_iadd fx dX11_readSack_179 ?_
              refine gw_cgt rfl (wr_id (show okI (20 + 7 * σ 225 4 + 3) by unfold okI; omega)) ?_
              refine g_iload fx dX11_readSack_180 rfl ?_
              refine g_iast fx dX11_readSack_182 o_225 (by omega) (by show _ < ((672 : Nat) : Int); omega) ?_
              refine gw_cg (σ' := nz4 σ) rfl rfl ?_
              refine g_aload_n fx dX11_readSack_183 rfl ?_
              refine g_getr fx dX11_readSack_184 fk_RX11_13 o_223 rf_223_1 ?_
              refine g_iload_n fx dX11_readSack_187 rfl ?_
              refine g_iconst fx dX11_readSack_188 (by unfold okI; omega) ?_
              refine g_iadd fx dX11_readSack_189 ?_
              refine gw_cgt rfl (wr_id (show okI (20 + 7 * σ 225 4 + 4) by unfold okI; omega)) ?_
              refine g_iload fx dX11_readSack_190 rfl ?_
              refine g_iast fx dX11_readSack_192 o_225 (by omega) (by show _ < ((672 : Nat) : Int); omega) ?_
              refine gw_cg (σ' := nz5 σ) rfl rfl ?_
              refine g_aload_n fx dX11_readSack_193 rfl ?_
              refine g_getr fx dX11_readSack_194 fk_RX11_13 o_223 rf_223_1 ?_
              refine g_iload_n fx dX11_readSack_197 rfl ?_
              refine g_iconst fx dX11_readSack_198 (by unfold okI; omega) ?_
              refine g_iadd fx dX11_readSack_199 ?_
              refine gw_cgt rfl (wr_id (show okI (20 + 7 * σ 225 4 + 5) by unfold okI; omega)) ?_
              refine g_iload fx dX11_readSack_200 rfl ?_
              refine g_iast fx dX11_readSack_202 o_225 (by omega) (by show _ < ((672 : Nat) : Int); omega) ?_
              refine gw_cg (σ' := nz6 σ) rfl rfl ?_
              refine g_aload_n fx dX11_readSack_203 rfl ?_
              refine g_getr fx dX11_readSack_204 fk_RX11_13 o_223 rf_223_1 ?_
              refine g_iload_n fx dX11_readSack_207 rfl ?_
              refine g_bipush fx dX11_readSack_208 (by decide) ?_
              refine g_iadd fx dX11_readSack_210 ?_
              refine gw_cgt rfl (wr_id (show okI (20 + 7 * σ 225 4 + 6) by unfold okI; omega)) ?_
              refine g_iconst fx dX11_readSack_211 (by unfold okI; omega) ?_
              refine g_iast fx dX11_readSack_212 o_225 (by omega) (by show _ < ((672 : Nat) : Int); omega) ?_
              refine gw_cg (σ' := nz7 σ) rfl rfl ?_
              refine g_aload_n fx dX11_readSack_213 rfl ?_
              refine g_getr fx dX11_readSack_214 fk_RX11_13 o_223 rf_223_1 ?_
              refine g_sipush fx dX11_readSack_217 (by decide) ?_
              refine g_aload_n fx dX11_readSack_220 rfl ?_
              refine g_getr fx dX11_readSack_221 fk_RX11_13 o_223 rf_223_1 ?_
              refine g_iconst fx dX11_readSack_224 (by unfold okI; omega) ?_
              refine g_iald fx dX11_readSack_225 o_225 (by decide) (by decide) ?_
              rw [show Int.toNat 4 = 4 from rfl]
              rw [nz7_4 σ hF.1]
              refine g_iadd fx dX11_readSack_226 ?_
              refine gw_cgt rfl (wr_id (show okI (608 + σ 225 4) by unfold okI; omega)) ?_
              refine g_iload_n fx dX11_readSack_227 rfl ?_
              refine g_iast fx dX11_readSack_228 o_225 (by omega) (by show _ < ((672 : Nat) : Int); omega) ?_
              refine gw_cg (σ' := nz8 σ) rfl rfl ?_
              refine g_aload_n fx dX11_readSack_229 rfl ?_
              refine g_getr fx dX11_readSack_230 fk_RX11_13 o_223 rf_223_1 ?_
              refine g_iconst fx dX11_readSack_233 (by unfold okI; omega) ?_
              refine g_dup2 fx dX11_readSack_234 rfl rfl ?_
              refine g_iald fx dX11_readSack_235 o_225 (by decide) (by decide) ?_
              refine g_iconst fx dX11_readSack_236 (by unfold okI; omega) ?_
              refine g_iadd fx dX11_readSack_237 ?_
              refine g_iast fx dX11_readSack_238 o_225 (by decide) (by decide) ?_
              refine gw_cg (σ' := nz9 σ) rfl rfl ?_
              refine g_aload_n fx dX11_readSack_239 rfl ?_
              refine g_getr fx dX11_readSack_240 fk_RX11_13 o_223 rf_223_1 ?_
              refine g_sipush fx dX11_readSack_243 (by decide) ?_
              refine g_dup2 fx dX11_readSack_246 rfl rfl ?_
              refine g_iald fx dX11_readSack_247 o_225 (by decide) (by decide) ?_
              refine g_iconst fx dX11_readSack_248 (by unfold okI; omega) ?_
              refine g_iadd fx dX11_readSack_249 ?_
              refine g_iast fx dX11_readSack_250 o_225 (by decide) (by decide) ?_
              exact g_vret fx rfl dX11_readSack_251 (by decide) (by decide) (gw_le.rf _) ⟨rfl, rfl, by rw [nSk]; (repeat first | rw [if_pos (by omega)] | rw [if_neg (by omega)]) <;> rfl⟩
            · exact g_vret fx rfl dX11_readSack_144 (by decide) (by decide) (gw_le.rf _) ⟨rfl, rfl, by rw [nSk]; (repeat first | rw [if_pos (by omega)] | rw [if_neg (by omega)]) <;> rfl⟩
          · refine g_aload_n fx dX11_readSack_123 rfl ?_
            refine g_iconst fx dX11_readSack_124 (by unfold okI; omega) ?_
            refine g_sipush fx dX11_readSack_125 (by decide) ?_
            refine g_callVD fx dX11_readSack_128 mv_RX11_154 my_X11_number (s_X11_number ad _ _ _ (Rk_tak (Rk_q5 hR) 8)) o_223 rfl rfl rfl (Nat.le_of_ble_eq_true rfl) (by decide) (by decide) ?_
            refine g_goto (tgt := 135) fx dX11_readSack_131 (by decide) ?_
            refine gw_cgt (σ' := (nq6 σ).2) (v' := (nq6 σ).1) (by rw [nq6, nOp]; first | rw [if_pos (by assumption)] | rw [if_neg (by assumption)]) (by rw [nq6, nOp]; first | rw [if_pos (by assumption)] | rw [if_neg (by assumption)]) ?_
            refine g_istore fx dX11_readSack_135 (by decide) rfl rfl ?_
            refine g_aload_n fx dX11_readSack_137 rfl ?_
            refine g_geti fx dX11_readSack_138 fk_RX11_120 (by decide) o_223 ?_
            refine g_if_eq (tgt := 145) fx dX11_readSack_141 (by decide) (fun h141 => ?_) (fun h141 => ?_)
            · refine g_aload_n fx dX11_readSack_145 rfl ?_
              refine g_getr fx dX11_readSack_146 fk_RX11_13 o_223 rf_223_1 ?_
              refine g_iload_n fx dX11_readSack_149 rfl ?_
              refine g_iconst fx dX11_readSack_150 (by unfold okI; omega) ?_
              refine g_iadd fx dX11_readSack_151 ?_
              refine gw_cgt rfl (wr_id (show okI (20 + 7 * σ 225 4 + 0) by unfold okI; omega)) ?_
              refine g_iload_n fx dX11_readSack_152 rfl ?_
              refine g_iast fx dX11_readSack_153 o_225 (by omega) (by show _ < ((672 : Nat) : Int); omega) ?_
              refine gw_cg (σ' := nz1 σ) rfl rfl ?_
              refine g_aload_n fx dX11_readSack_154 rfl ?_
              refine g_getr fx dX11_readSack_155 fk_RX11_13 o_223 rf_223_1 ?_
              refine g_iload_n fx dX11_readSack_158 rfl ?_
              refine g_iconst fx dX11_readSack_159 (by unfold okI; omega) ?_
              refine g_iadd fx dX11_readSack_160 ?_
              refine gw_cgt rfl (wr_id (show okI (20 + 7 * σ 225 4 + 1) by unfold okI; omega)) ?_
              refine g_iload_n fx dX11_readSack_161 rfl ?_
              refine g_iast fx dX11_readSack_162 o_225 (by omega) (by show _ < ((672 : Nat) : Int); omega) ?_
              refine gw_cg (σ' := nz2 σ) rfl rfl ?_
              refine g_aload_n fx dX11_readSack_163 rfl ?_
              refine g_getr fx dX11_readSack_164 fk_RX11_13 o_223 rf_223_1 ?_
              refine g_iload_n fx dX11_readSack_167 rfl ?_
              refine g_iconst fx dX11_readSack_168 (by unfold okI; omega) ?_
              refine g_iadd fx dX11_readSack_169 ?_
              refine gw_cgt rfl (wr_id (show okI (20 + 7 * σ 225 4 + 2) by unfold okI; omega)) ?_
              refine g_iload fx dX11_readSack_170 rfl ?_
              refine g_iast fx dX11_readSack_172 o_225 (by omega) (by show _ < ((672 : Nat) : Int); omega) ?_
              refine gw_cg (σ' := nz3 σ) rfl rfl ?_
              refine g_aload_n fx dX11_readSack_173 rfl ?_
              refine g_getr fx dX11_readSack_174 fk_RX11_13 o_223 rf_223_1 ?_
              refine g_iload_n fx dX11_readSack_177 rfl ?_
              refine g_iconst fx dX11_readSack_178 (by unfold okI; omega) ?_
              refine g_iadd fx dX11_readSack_179 ?_
              refine gw_cgt rfl (wr_id (show okI (20 + 7 * σ 225 4 + 3) by unfold okI; omega)) ?_
              refine g_iload fx dX11_readSack_180 rfl ?_
              refine g_iast fx dX11_readSack_182 o_225 (by omega) (by show _ < ((672 : Nat) : Int); omega) ?_
              refine gw_cg (σ' := nz4 σ) rfl rfl ?_
              refine g_aload_n fx dX11_readSack_183 rfl ?_
              refine g_getr fx dX11_readSack_184 fk_RX11_13 o_223 rf_223_1 ?_
              refine g_iload_n fx dX11_readSack_187 rfl ?_
              refine g_iconst fx dX11_readSack_188 (by unfold okI; omega) ?_
              refine g_iadd fx dX11_readSack_189 ?_
              refine gw_cgt rfl (wr_id (show okI (20 + 7 * σ 225 4 + 4) by unfold okI; omega)) ?_
              refine g_iload fx dX11_readSack_190 rfl ?_
              refine g_iast fx dX11_readSack_192 o_225 (by omega) (by show _ < ((672 : Nat) : Int); omega) ?_
              refine gw_cg (σ' := nz5 σ) rfl rfl ?_
              refine g_aload_n fx dX11_readSack_193 rfl ?_
              refine g_getr fx dX11_readSack_194 fk_RX11_13 o_223 rf_223_1 ?_
              refine g_iload_n fx dX11_readSack_197 rfl ?_
              refine g_iconst fx dX11_readSack_198 (by unfold okI; omega) ?_
              refine g_iadd fx dX11_readSack_199 ?_
              refine gw_cgt rfl (wr_id (show okI (20 + 7 * σ 225 4 + 5) by unfold okI; omega)) ?_
              refine g_iload fx dX11_readSack_200 rfl ?_
              refine g_iast fx dX11_readSack_202 o_225 (by omega) (by show _ < ((672 : Nat) : Int); omega) ?_
              refine gw_cg (σ' := nz6 σ) rfl rfl ?_
              refine g_aload_n fx dX11_readSack_203 rfl ?_
              refine g_getr fx dX11_readSack_204 fk_RX11_13 o_223 rf_223_1 ?_
              refine g_iload_n fx dX11_readSack_207 rfl ?_
              refine g_bipush fx dX11_readSack_208 (by decide) ?_
              refine g_iadd fx dX11_readSack_210 ?_
              refine gw_cgt rfl (wr_id (show okI (20 + 7 * σ 225 4 + 6) by unfold okI; omega)) ?_
              refine g_iconst fx dX11_readSack_211 (by unfold okI; omega) ?_
              refine g_iast fx dX11_readSack_212 o_225 (by omega) (by show _ < ((672 : Nat) : Int); omega) ?_
              refine gw_cg (σ' := nz7 σ) rfl rfl ?_
              refine g_aload_n fx dX11_readSack_213 rfl ?_
              refine g_getr fx dX11_readSack_214 fk_RX11_13 o_223 rf_223_1 ?_
              refine g_sipush fx dX11_readSack_217 (by decide) ?_
              refine g_aload_n fx dX11_readSack_220 rfl ?_
              refine g_getr fx dX11_readSack_221 fk_RX11_13 o_223 rf_223_1 ?_
              refine g_iconst fx dX11_readSack_224 (by unfold okI; omega) ?_
              refine g_iald fx dX11_readSack_225 o_225 (by decide) (by decide) ?_
              rw [show Int.toNat 4 = 4 from rfl]
              rw [nz7_4 σ hF.1]
              refine g_iadd fx dX11_readSack_226 ?_
              refine gw_cgt rfl (wr_id (show okI (608 + σ 225 4) by unfold okI; omega)) ?_
              refine g_iload_n fx dX11_readSack_227 rfl ?_
              refine g_iast fx dX11_readSack_228 o_225 (by omega) (by show _ < ((672 : Nat) : Int); omega) ?_
              refine gw_cg (σ' := nz8 σ) rfl rfl ?_
              refine g_aload_n fx dX11_readSack_229 rfl ?_
              refine g_getr fx dX11_readSack_230 fk_RX11_13 o_223 rf_223_1 ?_
              refine g_iconst fx dX11_readSack_233 (by unfold okI; omega) ?_
              refine g_dup2 fx dX11_readSack_234 rfl rfl ?_
              refine g_iald fx dX11_readSack_235 o_225 (by decide) (by decide) ?_
              refine g_iconst fx dX11_readSack_236 (by unfold okI; omega) ?_
              refine g_iadd fx dX11_readSack_237 ?_
              refine g_iast fx dX11_readSack_238 o_225 (by decide) (by decide) ?_
              refine gw_cg (σ' := nz9 σ) rfl rfl ?_
              refine g_aload_n fx dX11_readSack_239 rfl ?_
              refine g_getr fx dX11_readSack_240 fk_RX11_13 o_223 rf_223_1 ?_
              refine g_sipush fx dX11_readSack_243 (by decide) ?_
              refine g_dup2 fx dX11_readSack_246 rfl rfl ?_
              refine g_iald fx dX11_readSack_247 o_225 (by decide) (by decide) ?_
              refine g_iconst fx dX11_readSack_248 (by unfold okI; omega) ?_
              refine g_iadd fx dX11_readSack_249 ?_
              refine g_iast fx dX11_readSack_250 o_225 (by decide) (by decide) ?_
              exact g_vret fx rfl dX11_readSack_251 (by decide) (by decide) (gw_le.rf _) ⟨rfl, rfl, by rw [nSk]; (repeat first | rw [if_pos (by omega)] | rw [if_neg (by omega)]) <;> rfl⟩
            · exact g_vret fx rfl dX11_readSack_144 (by decide) (by decide) (gw_le.rf _) ⟨rfl, rfl, by rw [nSk]; (repeat first | rw [if_pos (by omega)] | rw [if_neg (by omega)]) <;> rfl⟩
      · refine g_aload_n fx dX11_readSack_80 rfl ?_
        refine g_iconst fx dX11_readSack_81 (by unfold okI; omega) ?_
        refine g_iconst fx dX11_readSack_82 (by unfold okI; omega) ?_
        refine g_callVD fx dX11_readSack_83 mv_RX11_154 my_X11_number (s_X11_number ad _ _ _ (Rk_tak (Rk_q3 hR) 6)) o_223 rfl rfl rfl (Nat.le_of_ble_eq_true rfl) (by decide) (by decide) ?_
        refine g_goto (tgt := 90) fx dX11_readSack_86 (by decide) ?_
        refine gw_cgt (σ' := (nq4 σ).2) (v' := (nq4 σ).1) (by rw [nq4, nOp]; first | rw [if_pos (by assumption)] | rw [if_neg (by assumption)]) (by rw [nq4, nOp]; first | rw [if_pos (by assumption)] | rw [if_neg (by assumption)]) ?_
        refine g_istore fx dX11_readSack_90 (by decide) rfl rfl ?_
        refine g_aload_n fx dX11_readSack_92 rfl ?_
        refine g_ldcS fx dX11_readSack_93 (by decide +kernel : (RX11, 167, "worth", 7) ∈ gw_strT) ?_
        refine g_callVD fx dX11_readSack_95 mv_RX11_151 my_X11_took (s_X11_took ad _ 7 (by decide) (Rk_q4 hR)) o_223 rfl rfl rfl (Nat.le_of_ble_eq_true rfl) (by decide) (by decide) ?_
        refine g_if_eq (tgt := 111) fx dX11_readSack_98 (by decide) (fun h98 => ?_) (fun h98 => ?_)
        · refine g_iconst fx dX11_readSack_111 (by unfold okI; omega) ?_
          refine gw_cgt (σ' := (nq5 σ).2) (v' := (nq5 σ).1) (by rw [nq5, nOp]; first | rw [if_pos (by assumption)] | rw [if_neg (by assumption)]) (by rw [nq5, nOp]; first | rw [if_pos (by assumption)] | rw [if_neg (by assumption)]) ?_
          refine g_istore fx dX11_readSack_112 (by decide) rfl rfl ?_
          refine g_aload_n fx dX11_readSack_114 rfl ?_
          refine g_ldcS fx dX11_readSack_115 (by decide +kernel : (RX11, 169, "home", 8) ∈ gw_strT) ?_
          refine g_callVD fx dX11_readSack_117 mv_RX11_151 my_X11_took (s_X11_took ad _ 8 (by decide) (Rk_q5 hR)) o_223 rfl rfl rfl (Nat.le_of_ble_eq_true rfl) (by decide) (by decide) ?_
          refine g_if_eq (tgt := 134) fx dX11_readSack_120 (by decide) (fun h120 => ?_) (fun h120 => ?_)
          · refine g_iconst fx dX11_readSack_134 (by unfold okI; omega) ?_
            refine gw_cgt (σ' := (nq6 σ).2) (v' := (nq6 σ).1) (by rw [nq6, nOp]; first | rw [if_pos (by assumption)] | rw [if_neg (by assumption)]) (by rw [nq6, nOp]; first | rw [if_pos (by assumption)] | rw [if_neg (by assumption)]) ?_
            refine g_istore fx dX11_readSack_135 (by decide) rfl rfl ?_
            refine g_aload_n fx dX11_readSack_137 rfl ?_
            refine g_geti fx dX11_readSack_138 fk_RX11_120 (by decide) o_223 ?_
            refine g_if_eq (tgt := 145) fx dX11_readSack_141 (by decide) (fun h141 => ?_) (fun h141 => ?_)
            · refine g_aload_n fx dX11_readSack_145 rfl ?_
              refine g_getr fx dX11_readSack_146 fk_RX11_13 o_223 rf_223_1 ?_
              refine g_iload_n fx dX11_readSack_149 rfl ?_
              refine g_iconst fx dX11_readSack_150 (by unfold okI; omega) ?_
              refine g_iadd fx dX11_readSack_151 ?_
              refine gw_cgt rfl (wr_id (show okI (20 + 7 * σ 225 4 + 0) by unfold okI; omega)) ?_
              refine g_iload_n fx dX11_readSack_152 rfl ?_
              refine g_iast fx dX11_readSack_153 o_225 (by omega) (by show _ < ((672 : Nat) : Int); omega) ?_
              refine gw_cg (σ' := nz1 σ) rfl rfl ?_
              refine g_aload_n fx dX11_readSack_154 rfl ?_
              refine g_getr fx dX11_readSack_155 fk_RX11_13 o_223 rf_223_1 ?_
              refine g_iload_n fx dX11_readSack_158 rfl ?_
              refine g_iconst fx dX11_readSack_159 (by unfold okI; omega) ?_
              refine g_iadd fx dX11_readSack_160 ?_
              refine gw_cgt rfl (wr_id (show okI (20 + 7 * σ 225 4 + 1) by unfold okI; omega)) ?_
              refine g_iload_n fx dX11_readSack_161 rfl ?_
              refine g_iast fx dX11_readSack_162 o_225 (by omega) (by show _ < ((672 : Nat) : Int); omega) ?_
              refine gw_cg (σ' := nz2 σ) rfl rfl ?_
              refine g_aload_n fx dX11_readSack_163 rfl ?_
              refine g_getr fx dX11_readSack_164 fk_RX11_13 o_223 rf_223_1 ?_
              refine g_iload_n fx dX11_readSack_167 rfl ?_
              refine g_iconst fx dX11_readSack_168 (by unfold okI; omega) ?_
              refine g_iadd fx dX11_readSack_169 ?_
              refine gw_cgt rfl (wr_id (show okI (20 + 7 * σ 225 4 + 2) by unfold okI; omega)) ?_
              refine g_iload fx dX11_readSack_170 rfl ?_
              refine g_iast fx dX11_readSack_172 o_225 (by omega) (by show _ < ((672 : Nat) : Int); omega) ?_
              refine gw_cg (σ' := nz3 σ) rfl rfl ?_
              refine g_aload_n fx dX11_readSack_173 rfl ?_
              refine g_getr fx dX11_readSack_174 fk_RX11_13 o_223 rf_223_1 ?_
              refine g_iload_n fx dX11_readSack_177 rfl ?_
              refine g_iconst fx dX11_readSack_178 (by unfold okI; omega) ?_
              refine g_iadd fx dX11_readSack_179 ?_
              refine gw_cgt rfl (wr_id (show okI (20 + 7 * σ 225 4 + 3) by unfold okI; omega)) ?_
              refine g_iload fx dX11_readSack_180 rfl ?_
              refine g_iast fx dX11_readSack_182 o_225 (by omega) (by show _ < ((672 : Nat) : Int); omega) ?_
              refine gw_cg (σ' := nz4 σ) rfl rfl ?_
              refine g_aload_n fx dX11_readSack_183 rfl ?_
              refine g_getr fx dX11_readSack_184 fk_RX11_13 o_223 rf_223_1 ?_
              refine g_iload_n fx dX11_readSack_187 rfl ?_
              refine g_iconst fx dX11_readSack_188 (by unfold okI; omega) ?_
              refine g_iadd fx dX11_readSack_189 ?_
              refine gw_cgt rfl (wr_id (show okI (20 + 7 * σ 225 4 + 4) by unfold okI; omega)) ?_
              refine g_iload fx dX11_readSack_190 rfl ?_
              refine g_iast fx dX11_readSack_192 o_225 (by omega) (by show _ < ((672 : Nat) : Int); omega) ?_
              refine gw_cg (σ' := nz5 σ) rfl rfl ?_
              refine g_aload_n fx dX11_readSack_193 rfl ?_
              refine g_getr fx dX11_readSack_194 fk_RX11_13 o_223 rf_223_1 ?_
              refine g_iload_n fx dX11_readSack_197 rfl ?_
              refine g_iconst fx dX11_readSack_198 (by unfold okI; omega) ?_
              refine g_iadd fx dX11_readSack_199 ?_
              refine gw_cgt rfl (wr_id (show okI (20 + 7 * σ 225 4 + 5) by unfold okI; omega)) ?_
              refine g_iload fx dX11_readSack_200 rfl ?_
              refine g_iast fx dX11_readSack_202 o_225 (by omega) (by show _ < ((672 : Nat) : Int); omega) ?_
              refine gw_cg (σ' := nz6 σ) rfl rfl ?_
              refine g_aload_n fx dX11_readSack_203 rfl ?_
              refine g_getr fx dX11_readSack_204 fk_RX11_13 o_223 rf_223_1 ?_
              refine g_iload_n fx dX11_readSack_207 rfl ?_
              refine g_bipush fx dX11_readSack_208 (by decide) ?_
              refine g_iadd fx dX11_readSack_210 ?_
              refine gw_cgt rfl (wr_id (show okI (20 + 7 * σ 225 4 + 6) by unfold okI; omega)) ?_
              refine g_iconst fx dX11_readSack_211 (by unfold okI; omega) ?_
              refine g_iast fx dX11_readSack_212 o_225 (by omega) (by show _ < ((672 : Nat) : Int); omega) ?_
              refine gw_cg (σ' := nz7 σ) rfl rfl ?_
              refine g_aload_n fx dX11_readSack_213 rfl ?_
              refine g_getr fx dX11_readSack_214 fk_RX11_13 o_223 rf_223_1 ?_
              refine g_sipush fx dX11_readSack_217 (by decide) ?_
              refine g_aload_n fx dX11_readSack_220 rfl ?_
              refine g_getr fx dX11_readSack_221 fk_RX11_13 o_223 rf_223_1 ?_
              refine g_iconst fx dX11_readSack_224 (by unfold okI; omega) ?_
              refine g_iald fx dX11_readSack_225 o_225 (by decide) (by decide) ?_
              rw [show Int.toNat 4 = 4 from rfl]
              rw [nz7_4 σ hF.1]
              refine g_iadd fx dX11_readSack_226 ?_
              refine gw_cgt rfl (wr_id (show okI (608 + σ 225 4) by unfold okI; omega)) ?_
              refine g_iload_n fx dX11_readSack_227 rfl ?_
              refine g_iast fx dX11_readSack_228 o_225 (by omega) (by show _ < ((672 : Nat) : Int); omega) ?_
              refine gw_cg (σ' := nz8 σ) rfl rfl ?_
              refine g_aload_n fx dX11_readSack_229 rfl ?_
              refine g_getr fx dX11_readSack_230 fk_RX11_13 o_223 rf_223_1 ?_
              refine g_iconst fx dX11_readSack_233 (by unfold okI; omega) ?_
              refine g_dup2 fx dX11_readSack_234 rfl rfl ?_
              refine g_iald fx dX11_readSack_235 o_225 (by decide) (by decide) ?_
              refine g_iconst fx dX11_readSack_236 (by unfold okI; omega) ?_
              refine g_iadd fx dX11_readSack_237 ?_
              refine g_iast fx dX11_readSack_238 o_225 (by decide) (by decide) ?_
              refine gw_cg (σ' := nz9 σ) rfl rfl ?_
              refine g_aload_n fx dX11_readSack_239 rfl ?_
              refine g_getr fx dX11_readSack_240 fk_RX11_13 o_223 rf_223_1 ?_
              refine g_sipush fx dX11_readSack_243 (by decide) ?_
              refine g_dup2 fx dX11_readSack_246 rfl rfl ?_
              refine g_iald fx dX11_readSack_247 o_225 (by decide) (by decide) ?_
              refine g_iconst fx dX11_readSack_248 (by unfold okI; omega) ?_
              refine g_iadd fx dX11_readSack_249 ?_
              refine g_iast fx dX11_readSack_250 o_225 (by decide) (by decide) ?_
              exact g_vret fx rfl dX11_readSack_251 (by decide) (by decide) (gw_le.rf _) ⟨rfl, rfl, by rw [nSk]; (repeat first | rw [if_pos (by omega)] | rw [if_neg (by omega)]) <;> rfl⟩
            · exact g_vret fx rfl dX11_readSack_144 (by decide) (by decide) (gw_le.rf _) ⟨rfl, rfl, by rw [nSk]; (repeat first | rw [if_pos (by omega)] | rw [if_neg (by omega)]) <;> rfl⟩
          · refine g_aload_n fx dX11_readSack_123 rfl ?_
            refine g_iconst fx dX11_readSack_124 (by unfold okI; omega) ?_
            refine g_sipush fx dX11_readSack_125 (by decide) ?_
            refine g_callVD fx dX11_readSack_128 mv_RX11_154 my_X11_number (s_X11_number ad _ _ _ (Rk_tak (Rk_q5 hR) 8)) o_223 rfl rfl rfl (Nat.le_of_ble_eq_true rfl) (by decide) (by decide) ?_
            refine g_goto (tgt := 135) fx dX11_readSack_131 (by decide) ?_
            refine gw_cgt (σ' := (nq6 σ).2) (v' := (nq6 σ).1) (by rw [nq6, nOp]; first | rw [if_pos (by assumption)] | rw [if_neg (by assumption)]) (by rw [nq6, nOp]; first | rw [if_pos (by assumption)] | rw [if_neg (by assumption)]) ?_
            refine g_istore fx dX11_readSack_135 (by decide) rfl rfl ?_
            refine g_aload_n fx dX11_readSack_137 rfl ?_
            refine g_geti fx dX11_readSack_138 fk_RX11_120 (by decide) o_223 ?_
            refine g_if_eq (tgt := 145) fx dX11_readSack_141 (by decide) (fun h141 => ?_) (fun h141 => ?_)
            · refine g_aload_n fx dX11_readSack_145 rfl ?_
              refine g_getr fx dX11_readSack_146 fk_RX11_13 o_223 rf_223_1 ?_
              refine g_iload_n fx dX11_readSack_149 rfl ?_
              refine g_iconst fx dX11_readSack_150 (by unfold okI; omega) ?_
              refine g_iadd fx dX11_readSack_151 ?_
              refine gw_cgt rfl (wr_id (show okI (20 + 7 * σ 225 4 + 0) by unfold okI; omega)) ?_
              refine g_iload_n fx dX11_readSack_152 rfl ?_
              refine g_iast fx dX11_readSack_153 o_225 (by omega) (by show _ < ((672 : Nat) : Int); omega) ?_
              refine gw_cg (σ' := nz1 σ) rfl rfl ?_
              refine g_aload_n fx dX11_readSack_154 rfl ?_
              refine g_getr fx dX11_readSack_155 fk_RX11_13 o_223 rf_223_1 ?_
              refine g_iload_n fx dX11_readSack_158 rfl ?_
              refine g_iconst fx dX11_readSack_159 (by unfold okI; omega) ?_
              refine g_iadd fx dX11_readSack_160 ?_
              refine gw_cgt rfl (wr_id (show okI (20 + 7 * σ 225 4 + 1) by unfold okI; omega)) ?_
              refine g_iload_n fx dX11_readSack_161 rfl ?_
              refine g_iast fx dX11_readSack_162 o_225 (by omega) (by show _ < ((672 : Nat) : Int); omega) ?_
              refine gw_cg (σ' := nz2 σ) rfl rfl ?_
              refine g_aload_n fx dX11_readSack_163 rfl ?_
              refine g_getr fx dX11_readSack_164 fk_RX11_13 o_223 rf_223_1 ?_
              refine g_iload_n fx dX11_readSack_167 rfl ?_
              refine g_iconst fx dX11_readSack_168 (by unfold okI; omega) ?_
              refine g_iadd fx dX11_readSack_169 ?_
              refine gw_cgt rfl (wr_id (show okI (20 + 7 * σ 225 4 + 2) by unfold okI; omega)) ?_
              refine g_iload fx dX11_readSack_170 rfl ?_
              refine g_iast fx dX11_readSack_172 o_225 (by omega) (by show _ < ((672 : Nat) : Int); omega) ?_
              refine gw_cg (σ' := nz3 σ) rfl rfl ?_
              refine g_aload_n fx dX11_readSack_173 rfl ?_
              refine g_getr fx dX11_readSack_174 fk_RX11_13 o_223 rf_223_1 ?_
              refine g_iload_n fx dX11_readSack_177 rfl ?_
              refine g_iconst fx dX11_readSack_178 (by unfold okI; omega) ?_
              refine g_iadd fx dX11_readSack_179 ?_
              refine gw_cgt rfl (wr_id (show okI (20 + 7 * σ 225 4 + 3) by unfold okI; omega)) ?_
              refine g_iload fx dX11_readSack_180 rfl ?_
              refine g_iast fx dX11_readSack_182 o_225 (by omega) (by show _ < ((672 : Nat) : Int); omega) ?_
              refine gw_cg (σ' := nz4 σ) rfl rfl ?_
              refine g_aload_n fx dX11_readSack_183 rfl ?_
              refine g_getr fx dX11_readSack_184 fk_RX11_13 o_223 rf_223_1 ?_
              refine g_iload_n fx dX11_readSack_187 rfl ?_
              refine g_iconst fx dX11_readSack_188 (by unfold okI; omega) ?_
              refine g_iadd fx dX11_readSack_189 ?_
              refine gw_cgt rfl (wr_id (show okI (20 + 7 * σ 225 4 + 4) by unfold okI; omega)) ?_
              refine g_iload fx dX11_readSack_190 rfl ?_
              refine g_iast fx dX11_readSack_192 o_225 (by omega) (by show _ < ((672 : Nat) : Int); omega) ?_
              refine gw_cg (σ' := nz5 σ) rfl rfl ?_
              refine g_aload_n fx dX11_readSack_193 rfl ?_
              refine g_getr fx dX11_readSack_194 fk_RX11_13 o_223 rf_223_1 ?_
              refine g_iload_n fx dX11_readSack_197 rfl ?_
              refine g_iconst fx dX11_readSack_198 (by unfold okI; omega) ?_
              refine g_iadd fx dX11_readSack_199 ?_
              refine gw_cgt rfl (wr_id (show okI (20 + 7 * σ 225 4 + 5) by unfold okI; omega)) ?_
              refine g_iload fx dX11_readSack_200 rfl ?_
              refine g_iast fx dX11_readSack_202 o_225 (by omega) (by show _ < ((672 : Nat) : Int); omega) ?_
              refine gw_cg (σ' := nz6 σ) rfl rfl ?_
              refine g_aload_n fx dX11_readSack_203 rfl ?_
              refine g_getr fx dX11_readSack_204 fk_RX11_13 o_223 rf_223_1 ?_
              refine g_iload_n fx dX11_readSack_207 rfl ?_
              refine g_bipush fx dX11_readSack_208 (by decide) ?_
              refine g_iadd fx dX11_readSack_210 ?_
              refine gw_cgt rfl (wr_id (show okI (20 + 7 * σ 225 4 + 6) by unfold okI; omega)) ?_
              refine g_iconst fx dX11_readSack_211 (by unfold okI; omega) ?_
              refine g_iast fx dX11_readSack_212 o_225 (by omega) (by show _ < ((672 : Nat) : Int); omega) ?_
              refine gw_cg (σ' := nz7 σ) rfl rfl ?_
              refine g_aload_n fx dX11_readSack_213 rfl ?_
              refine g_getr fx dX11_readSack_214 fk_RX11_13 o_223 rf_223_1 ?_
              refine g_sipush fx dX11_readSack_217 (by decide) ?_
              refine g_aload_n fx dX11_readSack_220 rfl ?_
              refine g_getr fx dX11_readSack_221 fk_RX11_13 o_223 rf_223_1 ?_
              refine g_iconst fx dX11_readSack_224 (by unfold okI; omega) ?_
              refine g_iald fx dX11_readSack_225 o_225 (by decide) (by decide) ?_
              rw [show Int.toNat 4 = 4 from rfl]
              rw [nz7_4 σ hF.1]
              refine g_iadd fx dX11_readSack_226 ?_
              refine gw_cgt rfl (wr_id (show okI (608 + σ 225 4) by unfold okI; omega)) ?_
              refine g_iload_n fx dX11_readSack_227 rfl ?_
              refine g_iast fx dX11_readSack_228 o_225 (by omega) (by show _ < ((672 : Nat) : Int); omega) ?_
              refine gw_cg (σ' := nz8 σ) rfl rfl ?_
              refine g_aload_n fx dX11_readSack_229 rfl ?_
              refine g_getr fx dX11_readSack_230 fk_RX11_13 o_223 rf_223_1 ?_
              refine g_iconst fx dX11_readSack_233 (by unfold okI; omega) ?_
              refine g_dup2 fx dX11_readSack_234 rfl rfl ?_
              refine g_iald fx dX11_readSack_235 o_225 (by decide) (by decide) ?_
              refine g_iconst fx dX11_readSack_236 (by unfold okI; omega) ?_
              refine g_iadd fx dX11_readSack_237 ?_
              refine g_iast fx dX11_readSack_238 o_225 (by decide) (by decide) ?_
              refine gw_cg (σ' := nz9 σ) rfl rfl ?_
              refine g_aload_n fx dX11_readSack_239 rfl ?_
              refine g_getr fx dX11_readSack_240 fk_RX11_13 o_223 rf_223_1 ?_
              refine g_sipush fx dX11_readSack_243 (by decide) ?_
              refine g_dup2 fx dX11_readSack_246 rfl rfl ?_
              refine g_iald fx dX11_readSack_247 o_225 (by decide) (by decide) ?_
              refine g_iconst fx dX11_readSack_248 (by unfold okI; omega) ?_
              refine g_iadd fx dX11_readSack_249 ?_
              refine g_iast fx dX11_readSack_250 o_225 (by decide) (by decide) ?_
              exact g_vret fx rfl dX11_readSack_251 (by decide) (by decide) (gw_le.rf _) ⟨rfl, rfl, by rw [nSk]; (repeat first | rw [if_pos (by omega)] | rw [if_neg (by omega)]) <;> rfl⟩
            · exact g_vret fx rfl dX11_readSack_144 (by decide) (by decide) (gw_le.rf _) ⟨rfl, rfl, by rw [nSk]; (repeat first | rw [if_pos (by omega)] | rw [if_neg (by omega)]) <;> rfl⟩
        · refine g_aload_n fx dX11_readSack_101 rfl ?_
          refine g_iconst fx dX11_readSack_102 (by unfold okI; omega) ?_
          refine g_bipush fx dX11_readSack_103 (by decide) ?_
          refine g_callVD fx dX11_readSack_105 mv_RX11_154 my_X11_number (s_X11_number ad _ _ _ (Rk_tak (Rk_q4 hR) 7)) o_223 rfl rfl rfl (Nat.le_of_ble_eq_true rfl) (by decide) (by decide) ?_
          refine g_goto (tgt := 112) fx dX11_readSack_108 (by decide) ?_
          refine gw_cgt (σ' := (nq5 σ).2) (v' := (nq5 σ).1) (by rw [nq5, nOp]; first | rw [if_pos (by assumption)] | rw [if_neg (by assumption)]) (by rw [nq5, nOp]; first | rw [if_pos (by assumption)] | rw [if_neg (by assumption)]) ?_
          refine g_istore fx dX11_readSack_112 (by decide) rfl rfl ?_
          refine g_aload_n fx dX11_readSack_114 rfl ?_
          refine g_ldcS fx dX11_readSack_115 (by decide +kernel : (RX11, 169, "home", 8) ∈ gw_strT) ?_
          refine g_callVD fx dX11_readSack_117 mv_RX11_151 my_X11_took (s_X11_took ad _ 8 (by decide) (Rk_q5 hR)) o_223 rfl rfl rfl (Nat.le_of_ble_eq_true rfl) (by decide) (by decide) ?_
          refine g_if_eq (tgt := 134) fx dX11_readSack_120 (by decide) (fun h120 => ?_) (fun h120 => ?_)
          · refine g_iconst fx dX11_readSack_134 (by unfold okI; omega) ?_
            refine gw_cgt (σ' := (nq6 σ).2) (v' := (nq6 σ).1) (by rw [nq6, nOp]; first | rw [if_pos (by assumption)] | rw [if_neg (by assumption)]) (by rw [nq6, nOp]; first | rw [if_pos (by assumption)] | rw [if_neg (by assumption)]) ?_
            refine g_istore fx dX11_readSack_135 (by decide) rfl rfl ?_
            refine g_aload_n fx dX11_readSack_137 rfl ?_
            refine g_geti fx dX11_readSack_138 fk_RX11_120 (by decide) o_223 ?_
            refine g_if_eq (tgt := 145) fx dX11_readSack_141 (by decide) (fun h141 => ?_) (fun h141 => ?_)
            · refine g_aload_n fx dX11_readSack_145 rfl ?_
              refine g_getr fx dX11_readSack_146 fk_RX11_13 o_223 rf_223_1 ?_
              refine g_iload_n fx dX11_readSack_149 rfl ?_
              refine g_iconst fx dX11_readSack_150 (by unfold okI; omega) ?_
              refine g_iadd fx dX11_readSack_151 ?_
              refine gw_cgt rfl (wr_id (show okI (20 + 7 * σ 225 4 + 0) by unfold okI; omega)) ?_
              refine g_iload_n fx dX11_readSack_152 rfl ?_
              refine g_iast fx dX11_readSack_153 o_225 (by omega) (by show _ < ((672 : Nat) : Int); omega) ?_
              refine gw_cg (σ' := nz1 σ) rfl rfl ?_
              refine g_aload_n fx dX11_readSack_154 rfl ?_
              refine g_getr fx dX11_readSack_155 fk_RX11_13 o_223 rf_223_1 ?_
              refine g_iload_n fx dX11_readSack_158 rfl ?_
              refine g_iconst fx dX11_readSack_159 (by unfold okI; omega) ?_
              refine g_iadd fx dX11_readSack_160 ?_
              refine gw_cgt rfl (wr_id (show okI (20 + 7 * σ 225 4 + 1) by unfold okI; omega)) ?_
              refine g_iload_n fx dX11_readSack_161 rfl ?_
              refine g_iast fx dX11_readSack_162 o_225 (by omega) (by show _ < ((672 : Nat) : Int); omega) ?_
              refine gw_cg (σ' := nz2 σ) rfl rfl ?_
              refine g_aload_n fx dX11_readSack_163 rfl ?_
              refine g_getr fx dX11_readSack_164 fk_RX11_13 o_223 rf_223_1 ?_
              refine g_iload_n fx dX11_readSack_167 rfl ?_
              refine g_iconst fx dX11_readSack_168 (by unfold okI; omega) ?_
              refine g_iadd fx dX11_readSack_169 ?_
              refine gw_cgt rfl (wr_id (show okI (20 + 7 * σ 225 4 + 2) by unfold okI; omega)) ?_
              refine g_iload fx dX11_readSack_170 rfl ?_
              refine g_iast fx dX11_readSack_172 o_225 (by omega) (by show _ < ((672 : Nat) : Int); omega) ?_
              refine gw_cg (σ' := nz3 σ) rfl rfl ?_
              refine g_aload_n fx dX11_readSack_173 rfl ?_
              refine g_getr fx dX11_readSack_174 fk_RX11_13 o_223 rf_223_1 ?_
              refine g_iload_n fx dX11_readSack_177 rfl ?_
              refine g_iconst fx dX11_readSack_178 (by unfold okI; omega) ?_
              refine g_iadd fx dX11_readSack_179 ?_
              refine gw_cgt rfl (wr_id (show okI (20 + 7 * σ 225 4 + 3) by unfold okI; omega)) ?_
              refine g_iload fx dX11_readSack_180 rfl ?_
              refine g_iast fx dX11_readSack_182 o_225 (by omega) (by show _ < ((672 : Nat) : Int); omega) ?_
              refine gw_cg (σ' := nz4 σ) rfl rfl ?_
              refine g_aload_n fx dX11_readSack_183 rfl ?_
              refine g_getr fx dX11_readSack_184 fk_RX11_13 o_223 rf_223_1 ?_
              refine g_iload_n fx dX11_readSack_187 rfl ?_
              refine g_iconst fx dX11_readSack_188 (by unfold okI; omega) ?_
              refine g_iadd fx dX11_readSack_189 ?_
              refine gw_cgt rfl (wr_id (show okI (20 + 7 * σ 225 4 + 4) by unfold okI; omega)) ?_
              refine g_iload fx dX11_readSack_190 rfl ?_
              refine g_iast fx dX11_readSack_192 o_225 (by omega) (by show _ < ((672 : Nat) : Int); omega) ?_
              refine gw_cg (σ' := nz5 σ) rfl rfl ?_
              refine g_aload_n fx dX11_readSack_193 rfl ?_
              refine g_getr fx dX11_readSack_194 fk_RX11_13 o_223 rf_223_1 ?_
              refine g_iload_n fx dX11_readSack_197 rfl ?_
              refine g_iconst fx dX11_readSack_198 (by unfold okI; omega) ?_
              refine g_iadd fx dX11_readSack_199 ?_
              refine gw_cgt rfl (wr_id (show okI (20 + 7 * σ 225 4 + 5) by unfold okI; omega)) ?_
              refine g_iload fx dX11_readSack_200 rfl ?_
              refine g_iast fx dX11_readSack_202 o_225 (by omega) (by show _ < ((672 : Nat) : Int); omega) ?_
              refine gw_cg (σ' := nz6 σ) rfl rfl ?_
              refine g_aload_n fx dX11_readSack_203 rfl ?_
              refine g_getr fx dX11_readSack_204 fk_RX11_13 o_223 rf_223_1 ?_
              refine g_iload_n fx dX11_readSack_207 rfl ?_
              refine g_bipush fx dX11_readSack_208 (by decide) ?_
              refine g_iadd fx dX11_readSack_210 ?_
              refine gw_cgt rfl (wr_id (show okI (20 + 7 * σ 225 4 + 6) by unfold okI; omega)) ?_
              refine g_iconst fx dX11_readSack_211 (by unfold okI; omega) ?_
              refine g_iast fx dX11_readSack_212 o_225 (by omega) (by show _ < ((672 : Nat) : Int); omega) ?_
              refine gw_cg (σ' := nz7 σ) rfl rfl ?_
              refine g_aload_n fx dX11_readSack_213 rfl ?_
              refine g_getr fx dX11_readSack_214 fk_RX11_13 o_223 rf_223_1 ?_
              refine g_sipush fx dX11_readSack_217 (by decide) ?_
              refine g_aload_n fx dX11_readSack_220 rfl ?_
              refine g_getr fx dX11_readSack_221 fk_RX11_13 o_223 rf_223_1 ?_
              refine g_iconst fx dX11_readSack_224 (by unfold okI; omega) ?_
              refine g_iald fx dX11_readSack_225 o_225 (by decide) (by decide) ?_
              rw [show Int.toNat 4 = 4 from rfl]
              rw [nz7_4 σ hF.1]
              refine g_iadd fx dX11_readSack_226 ?_
              refine gw_cgt rfl (wr_id (show okI (608 + σ 225 4) by unfold okI; omega)) ?_
              refine g_iload_n fx dX11_readSack_227 rfl ?_
              refine g_iast fx dX11_readSack_228 o_225 (by omega) (by show _ < ((672 : Nat) : Int); omega) ?_
              refine gw_cg (σ' := nz8 σ) rfl rfl ?_
              refine g_aload_n fx dX11_readSack_229 rfl ?_
              refine g_getr fx dX11_readSack_230 fk_RX11_13 o_223 rf_223_1 ?_
              refine g_iconst fx dX11_readSack_233 (by unfold okI; omega) ?_
              refine g_dup2 fx dX11_readSack_234 rfl rfl ?_
              refine g_iald fx dX11_readSack_235 o_225 (by decide) (by decide) ?_
              refine g_iconst fx dX11_readSack_236 (by unfold okI; omega) ?_
              refine g_iadd fx dX11_readSack_237 ?_
              refine g_iast fx dX11_readSack_238 o_225 (by decide) (by decide) ?_
              refine gw_cg (σ' := nz9 σ) rfl rfl ?_
              refine g_aload_n fx dX11_readSack_239 rfl ?_
              refine g_getr fx dX11_readSack_240 fk_RX11_13 o_223 rf_223_1 ?_
              refine g_sipush fx dX11_readSack_243 (by decide) ?_
              refine g_dup2 fx dX11_readSack_246 rfl rfl ?_
              refine g_iald fx dX11_readSack_247 o_225 (by decide) (by decide) ?_
              refine g_iconst fx dX11_readSack_248 (by unfold okI; omega) ?_
              refine g_iadd fx dX11_readSack_249 ?_
              refine g_iast fx dX11_readSack_250 o_225 (by decide) (by decide) ?_
              exact g_vret fx rfl dX11_readSack_251 (by decide) (by decide) (gw_le.rf _) ⟨rfl, rfl, by rw [nSk]; (repeat first | rw [if_pos (by omega)] | rw [if_neg (by omega)]) <;> rfl⟩
            · exact g_vret fx rfl dX11_readSack_144 (by decide) (by decide) (gw_le.rf _) ⟨rfl, rfl, by rw [nSk]; (repeat first | rw [if_pos (by omega)] | rw [if_neg (by omega)]) <;> rfl⟩
          · refine g_aload_n fx dX11_readSack_123 rfl ?_
            refine g_iconst fx dX11_readSack_124 (by unfold okI; omega) ?_
            refine g_sipush fx dX11_readSack_125 (by decide) ?_
            refine g_callVD fx dX11_readSack_128 mv_RX11_154 my_X11_number (s_X11_number ad _ _ _ (Rk_tak (Rk_q5 hR) 8)) o_223 rfl rfl rfl (Nat.le_of_ble_eq_true rfl) (by decide) (by decide) ?_
            refine g_goto (tgt := 135) fx dX11_readSack_131 (by decide) ?_
            refine gw_cgt (σ' := (nq6 σ).2) (v' := (nq6 σ).1) (by rw [nq6, nOp]; first | rw [if_pos (by assumption)] | rw [if_neg (by assumption)]) (by rw [nq6, nOp]; first | rw [if_pos (by assumption)] | rw [if_neg (by assumption)]) ?_
            refine g_istore fx dX11_readSack_135 (by decide) rfl rfl ?_
            refine g_aload_n fx dX11_readSack_137 rfl ?_
            refine g_geti fx dX11_readSack_138 fk_RX11_120 (by decide) o_223 ?_
            refine g_if_eq (tgt := 145) fx dX11_readSack_141 (by decide) (fun h141 => ?_) (fun h141 => ?_)
            · refine g_aload_n fx dX11_readSack_145 rfl ?_
              refine g_getr fx dX11_readSack_146 fk_RX11_13 o_223 rf_223_1 ?_
              refine g_iload_n fx dX11_readSack_149 rfl ?_
              refine g_iconst fx dX11_readSack_150 (by unfold okI; omega) ?_
              refine g_iadd fx dX11_readSack_151 ?_
              refine gw_cgt rfl (wr_id (show okI (20 + 7 * σ 225 4 + 0) by unfold okI; omega)) ?_
              refine g_iload_n fx dX11_readSack_152 rfl ?_
              refine g_iast fx dX11_readSack_153 o_225 (by omega) (by show _ < ((672 : Nat) : Int); omega) ?_
              refine gw_cg (σ' := nz1 σ) rfl rfl ?_
              refine g_aload_n fx dX11_readSack_154 rfl ?_
              refine g_getr fx dX11_readSack_155 fk_RX11_13 o_223 rf_223_1 ?_
              refine g_iload_n fx dX11_readSack_158 rfl ?_
              refine g_iconst fx dX11_readSack_159 (by unfold okI; omega) ?_
              refine g_iadd fx dX11_readSack_160 ?_
              refine gw_cgt rfl (wr_id (show okI (20 + 7 * σ 225 4 + 1) by unfold okI; omega)) ?_
              refine g_iload_n fx dX11_readSack_161 rfl ?_
              refine g_iast fx dX11_readSack_162 o_225 (by omega) (by show _ < ((672 : Nat) : Int); omega) ?_
              refine gw_cg (σ' := nz2 σ) rfl rfl ?_
              refine g_aload_n fx dX11_readSack_163 rfl ?_
              refine g_getr fx dX11_readSack_164 fk_RX11_13 o_223 rf_223_1 ?_
              refine g_iload_n fx dX11_readSack_167 rfl ?_
              refine g_iconst fx dX11_readSack_168 (by unfold okI; omega) ?_
              refine g_iadd fx dX11_readSack_169 ?_
              refine gw_cgt rfl (wr_id (show okI (20 + 7 * σ 225 4 + 2) by unfold okI; omega)) ?_
              refine g_iload fx dX11_readSack_170 rfl ?_
              refine g_iast fx dX11_readSack_172 o_225 (by omega) (by show _ < ((672 : Nat) : Int); omega) ?_
              refine gw_cg (σ' := nz3 σ) rfl rfl ?_
              refine g_aload_n fx dX11_readSack_173 rfl ?_
              refine g_getr fx dX11_readSack_174 fk_RX11_13 o_223 rf_223_1 ?_
              refine g_iload_n fx dX11_readSack_177 rfl ?_
              refine g_iconst fx dX11_readSack_178 (by unfold okI; omega) ?_
              refine g_iadd fx dX11_readSack_179 ?_
              refine gw_cgt rfl (wr_id (show okI (20 + 7 * σ 225 4 + 3) by unfold okI; omega)) ?_
              refine g_iload fx dX11_readSack_180 rfl ?_
              refine g_iast fx dX11_readSack_182 o_225 (by omega) (by show _ < ((672 : Nat) : Int); omega) ?_
              refine gw_cg (σ' := nz4 σ) rfl rfl ?_
              refine g_aload_n fx dX11_readSack_183 rfl ?_
              refine g_getr fx dX11_readSack_184 fk_RX11_13 o_223 rf_223_1 ?_
              refine g_iload_n fx dX11_readSack_187 rfl ?_
              refine g_iconst fx dX11_readSack_188 (by unfold okI; omega) ?_
              refine g_iadd fx dX11_readSack_189 ?_
              refine gw_cgt rfl (wr_id (show okI (20 + 7 * σ 225 4 + 4) by unfold okI; omega)) ?_
              refine g_iload fx dX11_readSack_190 rfl ?_
              refine g_iast fx dX11_readSack_192 o_225 (by omega) (by show _ < ((672 : Nat) : Int); omega) ?_
              refine gw_cg (σ' := nz5 σ) rfl rfl ?_
              refine g_aload_n fx dX11_readSack_193 rfl ?_
              refine g_getr fx dX11_readSack_194 fk_RX11_13 o_223 rf_223_1 ?_
              refine g_iload_n fx dX11_readSack_197 rfl ?_
              refine g_iconst fx dX11_readSack_198 (by unfold okI; omega) ?_
              refine g_iadd fx dX11_readSack_199 ?_
              refine gw_cgt rfl (wr_id (show okI (20 + 7 * σ 225 4 + 5) by unfold okI; omega)) ?_
              refine g_iload fx dX11_readSack_200 rfl ?_
              refine g_iast fx dX11_readSack_202 o_225 (by omega) (by show _ < ((672 : Nat) : Int); omega) ?_
              refine gw_cg (σ' := nz6 σ) rfl rfl ?_
              refine g_aload_n fx dX11_readSack_203 rfl ?_
              refine g_getr fx dX11_readSack_204 fk_RX11_13 o_223 rf_223_1 ?_
              refine g_iload_n fx dX11_readSack_207 rfl ?_
              refine g_bipush fx dX11_readSack_208 (by decide) ?_
              refine g_iadd fx dX11_readSack_210 ?_
              refine gw_cgt rfl (wr_id (show okI (20 + 7 * σ 225 4 + 6) by unfold okI; omega)) ?_
              refine g_iconst fx dX11_readSack_211 (by unfold okI; omega) ?_
              refine g_iast fx dX11_readSack_212 o_225 (by omega) (by show _ < ((672 : Nat) : Int); omega) ?_
              refine gw_cg (σ' := nz7 σ) rfl rfl ?_
              refine g_aload_n fx dX11_readSack_213 rfl ?_
              refine g_getr fx dX11_readSack_214 fk_RX11_13 o_223 rf_223_1 ?_
              refine g_sipush fx dX11_readSack_217 (by decide) ?_
              refine g_aload_n fx dX11_readSack_220 rfl ?_
              refine g_getr fx dX11_readSack_221 fk_RX11_13 o_223 rf_223_1 ?_
              refine g_iconst fx dX11_readSack_224 (by unfold okI; omega) ?_
              refine g_iald fx dX11_readSack_225 o_225 (by decide) (by decide) ?_
              rw [show Int.toNat 4 = 4 from rfl]
              rw [nz7_4 σ hF.1]
              refine g_iadd fx dX11_readSack_226 ?_
              refine gw_cgt rfl (wr_id (show okI (608 + σ 225 4) by unfold okI; omega)) ?_
              refine g_iload_n fx dX11_readSack_227 rfl ?_
              refine g_iast fx dX11_readSack_228 o_225 (by omega) (by show _ < ((672 : Nat) : Int); omega) ?_
              refine gw_cg (σ' := nz8 σ) rfl rfl ?_
              refine g_aload_n fx dX11_readSack_229 rfl ?_
              refine g_getr fx dX11_readSack_230 fk_RX11_13 o_223 rf_223_1 ?_
              refine g_iconst fx dX11_readSack_233 (by unfold okI; omega) ?_
              refine g_dup2 fx dX11_readSack_234 rfl rfl ?_
              refine g_iald fx dX11_readSack_235 o_225 (by decide) (by decide) ?_
              refine g_iconst fx dX11_readSack_236 (by unfold okI; omega) ?_
              refine g_iadd fx dX11_readSack_237 ?_
              refine g_iast fx dX11_readSack_238 o_225 (by decide) (by decide) ?_
              refine gw_cg (σ' := nz9 σ) rfl rfl ?_
              refine g_aload_n fx dX11_readSack_239 rfl ?_
              refine g_getr fx dX11_readSack_240 fk_RX11_13 o_223 rf_223_1 ?_
              refine g_sipush fx dX11_readSack_243 (by decide) ?_
              refine g_dup2 fx dX11_readSack_246 rfl rfl ?_
              refine g_iald fx dX11_readSack_247 o_225 (by decide) (by decide) ?_
              refine g_iconst fx dX11_readSack_248 (by unfold okI; omega) ?_
              refine g_iadd fx dX11_readSack_249 ?_
              refine g_iast fx dX11_readSack_250 o_225 (by decide) (by decide) ?_
              exact g_vret fx rfl dX11_readSack_251 (by decide) (by decide) (gw_le.rf _) ⟨rfl, rfl, by rw [nSk]; (repeat first | rw [if_pos (by omega)] | rw [if_neg (by omega)]) <;> rfl⟩
            · exact g_vret fx rfl dX11_readSack_144 (by decide) (by decide) (gw_le.rf _) ⟨rfl, rfl, by rw [nSk]; (repeat first | rw [if_pos (by omega)] | rw [if_neg (by omega)]) <;> rfl⟩
    · exact g_vret fx rfl dX11_readSack_23 (by decide) (by decide) (gw_le.rf _) ⟨rfl, rfl, by rw [nSk]; (repeat first | rw [if_pos (by omega)] | rw [if_neg (by omega)]) <;> rfl⟩
  · refine g_aload_n fx dX11_readSack_11 rfl ?_
    refine g_iconst fx dX11_readSack_12 (by unfold okI; omega) ?_
    refine g_callVD0 fx dX11_readSack_13 mv_RX11_143 my_X11_blames (s_X11_blames ad _ _) o_223 rfl rfl rfl (Nat.le_of_ble_eq_true rfl) (by decide) (by decide) ?_
    refine gw_cg (σ' := nq0 σ) (by rw [nq0]; (repeat first | rw [if_pos (by omega)] | rw [if_neg (by omega)]) <;> rfl) rfl ?_
    refine g_aload_n fx dX11_readSack_16 rfl ?_
    refine g_geti fx dX11_readSack_17 fk_RX11_120 (by decide) o_223 ?_
    refine g_if_eq (tgt := 24) fx dX11_readSack_20 (by decide) (fun h20 => ?_) (fun h20 => ?_)
    · refine g_aload_n fx dX11_readSack_24 rfl ?_
      refine g_callVD0 fx dX11_readSack_25 mv_RX11_140 my_X11_reads (s_X11_readsR ad _ (Rk_q0 hR)) o_223 rfl rfl rfl (Nat.le_of_ble_eq_true rfl) (by decide) (by decide) ?_
      refine g_bipush fx dX11_readSack_28 (by decide) ?_
      refine g_bipush fx dX11_readSack_30 (by decide) ?_
      refine g_aload_n fx dX11_readSack_32 rfl ?_
      refine g_getr fx dX11_readSack_33 fk_RX11_13 o_223 rf_223_1 ?_
      refine g_iconst fx dX11_readSack_36 (by unfold okI; omega) ?_
      refine g_iald fx dX11_readSack_37 o_225 (by decide) (by decide) ?_
      rw [show Int.toNat 4 = 4 from rfl]
      refine g_imul fx dX11_readSack_38 ?_
      refine g_iadd fx dX11_readSack_39 ?_
      have hn1 : nRd (nq0 σ) 225 4 = σ 225 4 := by rw [nRd_ne _ (by decide), nq0_ne _ (by decide)]
      refine gw_cgt rfl (show wr (20 + wr (7 * nRd (nq0 σ) 225 4)) = 20 + 7 * σ 225 4 by rw [hn1, wr_id (show okI (7 * σ 225 4) by unfold okI; omega), wr_id (by unfold okI; omega)]) ?_
      refine g_istore_n fx dX11_readSack_40 (by decide) rfl rfl ?_
      refine g_aload_n fx dX11_readSack_41 rfl ?_
      refine g_iconst fx dX11_readSack_42 (by unfold okI; omega) ?_
      refine g_bipush fx dX11_readSack_43 (by decide) ?_
      refine g_callVD fx dX11_readSack_45 mv_RX11_154 my_X11_number (s_X11_number ad _ _ _ (Rk_rd' (Rk_q0 hR))) o_223 rfl rfl rfl (Nat.le_of_ble_eq_true rfl) (by decide) (by decide) ?_
      refine gw_cgt (σ' := nq1 σ) (v' := nv1 σ) rfl rfl ?_
      refine g_istore_n fx dX11_readSack_48 (by decide) rfl rfl ?_
      refine g_aload_n fx dX11_readSack_49 rfl ?_
      refine g_ldcS fx dX11_readSack_50 (by decide +kernel : (RX11, 158, "of", 4) ∈ gw_strT) ?_
      refine g_iconst fx dX11_readSack_52 (by unfold okI; omega) ?_
      refine g_bipush fx dX11_readSack_53 (by decide) ?_
      refine g_callVD fx dX11_readSack_55 mv_RX11_160 my_X11_behind (s_X11_behind ad _ 4 _ _ (by decide) (Rk_q1 hR)) o_223 rfl rfl rfl (Nat.le_of_ble_eq_true rfl) (by decide) (by decide) ?_
      refine gw_cgt (σ' := nq2 σ) (v' := nv2 σ) rfl rfl ?_
      refine g_istore_n fx dX11_readSack_58 (by decide) rfl rfl ?_
      refine g_aload_n fx dX11_readSack_59 rfl ?_
      refine g_ldcS fx dX11_readSack_60 (by decide +kernel : (RX11, 164, "at", 5) ∈ gw_strT) ?_
      refine g_iconst fx dX11_readSack_62 (by unfold okI; omega) ?_
      refine g_sipush fx dX11_readSack_63 (by decide) ?_
      refine g_callVD fx dX11_readSack_66 mv_RX11_160 my_X11_behind (s_X11_behind ad _ 5 _ _ (by decide) (Rk_q2 hR)) o_223 rfl rfl rfl (Nat.le_of_ble_eq_true rfl) (by decide) (by decide) ?_
      refine gw_cgt (σ' := nq3 σ) (v' := nv3 σ) rfl rfl ?_
      refine g_istore fx dX11_readSack_69 (by decide) rfl rfl ?_
      refine g_aload_n fx dX11_readSack_71 rfl ?_
      refine g_ldcS fx dX11_readSack_72 (by decide +kernel : (RX11, 165, "sort", 6) ∈ gw_strT) ?_
      refine g_callVD fx dX11_readSack_74 mv_RX11_151 my_X11_took (s_X11_took ad _ 6 (by decide) (Rk_q3 hR)) o_223 rfl rfl rfl (Nat.le_of_ble_eq_true rfl) (by decide) (by decide) ?_
      refine g_if_eq (tgt := 89) fx dX11_readSack_77 (by decide) (fun h77 => ?_) (fun h77 => ?_)
      · refine g_iconst fx dX11_readSack_89 (by unfold okI; omega) ?_
        refine gw_cgt (σ' := (nq4 σ).2) (v' := (nq4 σ).1) (by rw [nq4, nOp]; first | rw [if_pos (by assumption)] | rw [if_neg (by assumption)]) (by rw [nq4, nOp]; first | rw [if_pos (by assumption)] | rw [if_neg (by assumption)]) ?_
        refine g_istore fx dX11_readSack_90 (by decide) rfl rfl ?_
        refine g_aload_n fx dX11_readSack_92 rfl ?_
        refine g_ldcS fx dX11_readSack_93 (by decide +kernel : (RX11, 167, "worth", 7) ∈ gw_strT) ?_
        refine g_callVD fx dX11_readSack_95 mv_RX11_151 my_X11_took (s_X11_took ad _ 7 (by decide) (Rk_q4 hR)) o_223 rfl rfl rfl (Nat.le_of_ble_eq_true rfl) (by decide) (by decide) ?_
        refine g_if_eq (tgt := 111) fx dX11_readSack_98 (by decide) (fun h98 => ?_) (fun h98 => ?_)
        · refine g_iconst fx dX11_readSack_111 (by unfold okI; omega) ?_
          refine gw_cgt (σ' := (nq5 σ).2) (v' := (nq5 σ).1) (by rw [nq5, nOp]; first | rw [if_pos (by assumption)] | rw [if_neg (by assumption)]) (by rw [nq5, nOp]; first | rw [if_pos (by assumption)] | rw [if_neg (by assumption)]) ?_
          refine g_istore fx dX11_readSack_112 (by decide) rfl rfl ?_
          refine g_aload_n fx dX11_readSack_114 rfl ?_
          refine g_ldcS fx dX11_readSack_115 (by decide +kernel : (RX11, 169, "home", 8) ∈ gw_strT) ?_
          refine g_callVD fx dX11_readSack_117 mv_RX11_151 my_X11_took (s_X11_took ad _ 8 (by decide) (Rk_q5 hR)) o_223 rfl rfl rfl (Nat.le_of_ble_eq_true rfl) (by decide) (by decide) ?_
          refine g_if_eq (tgt := 134) fx dX11_readSack_120 (by decide) (fun h120 => ?_) (fun h120 => ?_)
          · refine g_iconst fx dX11_readSack_134 (by unfold okI; omega) ?_
            refine gw_cgt (σ' := (nq6 σ).2) (v' := (nq6 σ).1) (by rw [nq6, nOp]; first | rw [if_pos (by assumption)] | rw [if_neg (by assumption)]) (by rw [nq6, nOp]; first | rw [if_pos (by assumption)] | rw [if_neg (by assumption)]) ?_
            refine g_istore fx dX11_readSack_135 (by decide) rfl rfl ?_
            refine g_aload_n fx dX11_readSack_137 rfl ?_
            refine g_geti fx dX11_readSack_138 fk_RX11_120 (by decide) o_223 ?_
            refine g_if_eq (tgt := 145) fx dX11_readSack_141 (by decide) (fun h141 => ?_) (fun h141 => ?_)
            · refine g_aload_n fx dX11_readSack_145 rfl ?_
              refine g_getr fx dX11_readSack_146 fk_RX11_13 o_223 rf_223_1 ?_
              refine g_iload_n fx dX11_readSack_149 rfl ?_
              refine g_iconst fx dX11_readSack_150 (by unfold okI; omega) ?_
              refine g_iadd fx dX11_readSack_151 ?_
              refine gw_cgt rfl (wr_id (show okI (20 + 7 * σ 225 4 + 0) by unfold okI; omega)) ?_
              refine g_iload_n fx dX11_readSack_152 rfl ?_
              refine g_iast fx dX11_readSack_153 o_225 (by omega) (by show _ < ((672 : Nat) : Int); omega) ?_
              refine gw_cg (σ' := nz1 σ) rfl rfl ?_
              refine g_aload_n fx dX11_readSack_154 rfl ?_
              refine g_getr fx dX11_readSack_155 fk_RX11_13 o_223 rf_223_1 ?_
              refine g_iload_n fx dX11_readSack_158 rfl ?_
              refine g_iconst fx dX11_readSack_159 (by unfold okI; omega) ?_
              refine g_iadd fx dX11_readSack_160 ?_
              refine gw_cgt rfl (wr_id (show okI (20 + 7 * σ 225 4 + 1) by unfold okI; omega)) ?_
              refine g_iload_n fx dX11_readSack_161 rfl ?_
              refine g_iast fx dX11_readSack_162 o_225 (by omega) (by show _ < ((672 : Nat) : Int); omega) ?_
              refine gw_cg (σ' := nz2 σ) rfl rfl ?_
              refine g_aload_n fx dX11_readSack_163 rfl ?_
              refine g_getr fx dX11_readSack_164 fk_RX11_13 o_223 rf_223_1 ?_
              refine g_iload_n fx dX11_readSack_167 rfl ?_
              refine g_iconst fx dX11_readSack_168 (by unfold okI; omega) ?_
              refine g_iadd fx dX11_readSack_169 ?_
              refine gw_cgt rfl (wr_id (show okI (20 + 7 * σ 225 4 + 2) by unfold okI; omega)) ?_
              refine g_iload fx dX11_readSack_170 rfl ?_
              refine g_iast fx dX11_readSack_172 o_225 (by omega) (by show _ < ((672 : Nat) : Int); omega) ?_
              refine gw_cg (σ' := nz3 σ) rfl rfl ?_
              refine g_aload_n fx dX11_readSack_173 rfl ?_
              refine g_getr fx dX11_readSack_174 fk_RX11_13 o_223 rf_223_1 ?_
              refine g_iload_n fx dX11_readSack_177 rfl ?_
              refine g_iconst fx dX11_readSack_178 (by unfold okI; omega) ?_
              refine g_iadd fx dX11_readSack_179 ?_
              refine gw_cgt rfl (wr_id (show okI (20 + 7 * σ 225 4 + 3) by unfold okI; omega)) ?_
              refine g_iload fx dX11_readSack_180 rfl ?_
              refine g_iast fx dX11_readSack_182 o_225 (by omega) (by show _ < ((672 : Nat) : Int); omega) ?_
              refine gw_cg (σ' := nz4 σ) rfl rfl ?_
              refine g_aload_n fx dX11_readSack_183 rfl ?_
              refine g_getr fx dX11_readSack_184 fk_RX11_13 o_223 rf_223_1 ?_
              refine g_iload_n fx dX11_readSack_187 rfl ?_
              refine g_iconst fx dX11_readSack_188 (by unfold okI; omega) ?_
              refine g_iadd fx dX11_readSack_189 ?_
              refine gw_cgt rfl (wr_id (show okI (20 + 7 * σ 225 4 + 4) by unfold okI; omega)) ?_
              refine g_iload fx dX11_readSack_190 rfl ?_
              refine g_iast fx dX11_readSack_192 o_225 (by omega) (by show _ < ((672 : Nat) : Int); omega) ?_
              refine gw_cg (σ' := nz5 σ) rfl rfl ?_
              refine g_aload_n fx dX11_readSack_193 rfl ?_
              refine g_getr fx dX11_readSack_194 fk_RX11_13 o_223 rf_223_1 ?_
              refine g_iload_n fx dX11_readSack_197 rfl ?_
              refine g_iconst fx dX11_readSack_198 (by unfold okI; omega) ?_
              refine g_iadd fx dX11_readSack_199 ?_
              refine gw_cgt rfl (wr_id (show okI (20 + 7 * σ 225 4 + 5) by unfold okI; omega)) ?_
              refine g_iload fx dX11_readSack_200 rfl ?_
              refine g_iast fx dX11_readSack_202 o_225 (by omega) (by show _ < ((672 : Nat) : Int); omega) ?_
              refine gw_cg (σ' := nz6 σ) rfl rfl ?_
              refine g_aload_n fx dX11_readSack_203 rfl ?_
              refine g_getr fx dX11_readSack_204 fk_RX11_13 o_223 rf_223_1 ?_
              refine g_iload_n fx dX11_readSack_207 rfl ?_
              refine g_bipush fx dX11_readSack_208 (by decide) ?_
              refine g_iadd fx dX11_readSack_210 ?_
              refine gw_cgt rfl (wr_id (show okI (20 + 7 * σ 225 4 + 6) by unfold okI; omega)) ?_
              refine g_iconst fx dX11_readSack_211 (by unfold okI; omega) ?_
              refine g_iast fx dX11_readSack_212 o_225 (by omega) (by show _ < ((672 : Nat) : Int); omega) ?_
              refine gw_cg (σ' := nz7 σ) rfl rfl ?_
              refine g_aload_n fx dX11_readSack_213 rfl ?_
              refine g_getr fx dX11_readSack_214 fk_RX11_13 o_223 rf_223_1 ?_
              refine g_sipush fx dX11_readSack_217 (by decide) ?_
              refine g_aload_n fx dX11_readSack_220 rfl ?_
              refine g_getr fx dX11_readSack_221 fk_RX11_13 o_223 rf_223_1 ?_
              refine g_iconst fx dX11_readSack_224 (by unfold okI; omega) ?_
              refine g_iald fx dX11_readSack_225 o_225 (by decide) (by decide) ?_
              rw [show Int.toNat 4 = 4 from rfl]
              rw [nz7_4 σ hF.1]
              refine g_iadd fx dX11_readSack_226 ?_
              refine gw_cgt rfl (wr_id (show okI (608 + σ 225 4) by unfold okI; omega)) ?_
              refine g_iload_n fx dX11_readSack_227 rfl ?_
              refine g_iast fx dX11_readSack_228 o_225 (by omega) (by show _ < ((672 : Nat) : Int); omega) ?_
              refine gw_cg (σ' := nz8 σ) rfl rfl ?_
              refine g_aload_n fx dX11_readSack_229 rfl ?_
              refine g_getr fx dX11_readSack_230 fk_RX11_13 o_223 rf_223_1 ?_
              refine g_iconst fx dX11_readSack_233 (by unfold okI; omega) ?_
              refine g_dup2 fx dX11_readSack_234 rfl rfl ?_
              refine g_iald fx dX11_readSack_235 o_225 (by decide) (by decide) ?_
              refine g_iconst fx dX11_readSack_236 (by unfold okI; omega) ?_
              refine g_iadd fx dX11_readSack_237 ?_
              refine g_iast fx dX11_readSack_238 o_225 (by decide) (by decide) ?_
              refine gw_cg (σ' := nz9 σ) rfl rfl ?_
              refine g_aload_n fx dX11_readSack_239 rfl ?_
              refine g_getr fx dX11_readSack_240 fk_RX11_13 o_223 rf_223_1 ?_
              refine g_sipush fx dX11_readSack_243 (by decide) ?_
              refine g_dup2 fx dX11_readSack_246 rfl rfl ?_
              refine g_iald fx dX11_readSack_247 o_225 (by decide) (by decide) ?_
              refine g_iconst fx dX11_readSack_248 (by unfold okI; omega) ?_
              refine g_iadd fx dX11_readSack_249 ?_
              refine g_iast fx dX11_readSack_250 o_225 (by decide) (by decide) ?_
              exact g_vret fx rfl dX11_readSack_251 (by decide) (by decide) (gw_le.rf _) ⟨rfl, rfl, by rw [nSk]; (repeat first | rw [if_pos (by omega)] | rw [if_neg (by omega)]) <;> rfl⟩
            · exact g_vret fx rfl dX11_readSack_144 (by decide) (by decide) (gw_le.rf _) ⟨rfl, rfl, by rw [nSk]; (repeat first | rw [if_pos (by omega)] | rw [if_neg (by omega)]) <;> rfl⟩
          · refine g_aload_n fx dX11_readSack_123 rfl ?_
            refine g_iconst fx dX11_readSack_124 (by unfold okI; omega) ?_
            refine g_sipush fx dX11_readSack_125 (by decide) ?_
            refine g_callVD fx dX11_readSack_128 mv_RX11_154 my_X11_number (s_X11_number ad _ _ _ (Rk_tak (Rk_q5 hR) 8)) o_223 rfl rfl rfl (Nat.le_of_ble_eq_true rfl) (by decide) (by decide) ?_
            refine g_goto (tgt := 135) fx dX11_readSack_131 (by decide) ?_
            refine gw_cgt (σ' := (nq6 σ).2) (v' := (nq6 σ).1) (by rw [nq6, nOp]; first | rw [if_pos (by assumption)] | rw [if_neg (by assumption)]) (by rw [nq6, nOp]; first | rw [if_pos (by assumption)] | rw [if_neg (by assumption)]) ?_
            refine g_istore fx dX11_readSack_135 (by decide) rfl rfl ?_
            refine g_aload_n fx dX11_readSack_137 rfl ?_
            refine g_geti fx dX11_readSack_138 fk_RX11_120 (by decide) o_223 ?_
            refine g_if_eq (tgt := 145) fx dX11_readSack_141 (by decide) (fun h141 => ?_) (fun h141 => ?_)
            · refine g_aload_n fx dX11_readSack_145 rfl ?_
              refine g_getr fx dX11_readSack_146 fk_RX11_13 o_223 rf_223_1 ?_
              refine g_iload_n fx dX11_readSack_149 rfl ?_
              refine g_iconst fx dX11_readSack_150 (by unfold okI; omega) ?_
              refine g_iadd fx dX11_readSack_151 ?_
              refine gw_cgt rfl (wr_id (show okI (20 + 7 * σ 225 4 + 0) by unfold okI; omega)) ?_
              refine g_iload_n fx dX11_readSack_152 rfl ?_
              refine g_iast fx dX11_readSack_153 o_225 (by omega) (by show _ < ((672 : Nat) : Int); omega) ?_
              refine gw_cg (σ' := nz1 σ) rfl rfl ?_
              refine g_aload_n fx dX11_readSack_154 rfl ?_
              refine g_getr fx dX11_readSack_155 fk_RX11_13 o_223 rf_223_1 ?_
              refine g_iload_n fx dX11_readSack_158 rfl ?_
              refine g_iconst fx dX11_readSack_159 (by unfold okI; omega) ?_
              refine g_iadd fx dX11_readSack_160 ?_
              refine gw_cgt rfl (wr_id (show okI (20 + 7 * σ 225 4 + 1) by unfold okI; omega)) ?_
              refine g_iload_n fx dX11_readSack_161 rfl ?_
              refine g_iast fx dX11_readSack_162 o_225 (by omega) (by show _ < ((672 : Nat) : Int); omega) ?_
              refine gw_cg (σ' := nz2 σ) rfl rfl ?_
              refine g_aload_n fx dX11_readSack_163 rfl ?_
              refine g_getr fx dX11_readSack_164 fk_RX11_13 o_223 rf_223_1 ?_
              refine g_iload_n fx dX11_readSack_167 rfl ?_
              refine g_iconst fx dX11_readSack_168 (by unfold okI; omega) ?_
              refine g_iadd fx dX11_readSack_169 ?_
              refine gw_cgt rfl (wr_id (show okI (20 + 7 * σ 225 4 + 2) by unfold okI; omega)) ?_
              refine g_iload fx dX11_readSack_170 rfl ?_
              refine g_iast fx dX11_readSack_172 o_225 (by omega) (by show _ < ((672 : Nat) : Int); omega) ?_
              refine gw_cg (σ' := nz3 σ) rfl rfl ?_
              refine g_aload_n fx dX11_readSack_173 rfl ?_
              refine g_getr fx dX11_readSack_174 fk_RX11_13 o_223 rf_223_1 ?_
              refine g_iload_n fx dX11_readSack_177 rfl ?_
              refine g_iconst fx dX11_readSack_178 (by unfold okI; omega) ?_
              refine g_iadd fx dX11_readSack_179 ?_
              refine gw_cgt rfl (wr_id (show okI (20 + 7 * σ 225 4 + 3) by unfold okI; omega)) ?_
              refine g_iload fx dX11_readSack_180 rfl ?_
              refine g_iast fx dX11_readSack_182 o_225 (by omega) (by show _ < ((672 : Nat) : Int); omega) ?_
              refine gw_cg (σ' := nz4 σ) rfl rfl ?_
              refine g_aload_n fx dX11_readSack_183 rfl ?_
              refine g_getr fx dX11_readSack_184 fk_RX11_13 o_223 rf_223_1 ?_
              refine g_iload_n fx dX11_readSack_187 rfl ?_
              refine g_iconst fx dX11_readSack_188 (by unfold okI; omega) ?_
              refine g_iadd fx dX11_readSack_189 ?_
              refine gw_cgt rfl (wr_id (show okI (20 + 7 * σ 225 4 + 4) by unfold okI; omega)) ?_
              refine g_iload fx dX11_readSack_190 rfl ?_
              refine g_iast fx dX11_readSack_192 o_225 (by omega) (by show _ < ((672 : Nat) : Int); omega) ?_
              refine gw_cg (σ' := nz5 σ) rfl rfl ?_
              refine g_aload_n fx dX11_readSack_193 rfl ?_
              refine g_getr fx dX11_readSack_194 fk_RX11_13 o_223 rf_223_1 ?_
              refine g_iload_n fx dX11_readSack_197 rfl ?_
              refine g_iconst fx dX11_readSack_198 (by unfold okI; omega) ?_
              refine g_iadd fx dX11_readSack_199 ?_
              refine gw_cgt rfl (wr_id (show okI (20 + 7 * σ 225 4 + 5) by unfold okI; omega)) ?_
              refine g_iload fx dX11_readSack_200 rfl ?_
              refine g_iast fx dX11_readSack_202 o_225 (by omega) (by show _ < ((672 : Nat) : Int); omega) ?_
              refine gw_cg (σ' := nz6 σ) rfl rfl ?_
              refine g_aload_n fx dX11_readSack_203 rfl ?_
              refine g_getr fx dX11_readSack_204 fk_RX11_13 o_223 rf_223_1 ?_
              refine g_iload_n fx dX11_readSack_207 rfl ?_
              refine g_bipush fx dX11_readSack_208 (by decide) ?_
              refine g_iadd fx dX11_readSack_210 ?_
              refine gw_cgt rfl (wr_id (show okI (20 + 7 * σ 225 4 + 6) by unfold okI; omega)) ?_
              refine g_iconst fx dX11_readSack_211 (by unfold okI; omega) ?_
              refine g_iast fx dX11_readSack_212 o_225 (by omega) (by show _ < ((672 : Nat) : Int); omega) ?_
              refine gw_cg (σ' := nz7 σ) rfl rfl ?_
              refine g_aload_n fx dX11_readSack_213 rfl ?_
              refine g_getr fx dX11_readSack_214 fk_RX11_13 o_223 rf_223_1 ?_
              refine g_sipush fx dX11_readSack_217 (by decide) ?_
              refine g_aload_n fx dX11_readSack_220 rfl ?_
              refine g_getr fx dX11_readSack_221 fk_RX11_13 o_223 rf_223_1 ?_
              refine g_iconst fx dX11_readSack_224 (by unfold okI; omega) ?_
              refine g_iald fx dX11_readSack_225 o_225 (by decide) (by decide) ?_
              rw [show Int.toNat 4 = 4 from rfl]
              rw [nz7_4 σ hF.1]
              refine g_iadd fx dX11_readSack_226 ?_
              refine gw_cgt rfl (wr_id (show okI (608 + σ 225 4) by unfold okI; omega)) ?_
              refine g_iload_n fx dX11_readSack_227 rfl ?_
              refine g_iast fx dX11_readSack_228 o_225 (by omega) (by show _ < ((672 : Nat) : Int); omega) ?_
              refine gw_cg (σ' := nz8 σ) rfl rfl ?_
              refine g_aload_n fx dX11_readSack_229 rfl ?_
              refine g_getr fx dX11_readSack_230 fk_RX11_13 o_223 rf_223_1 ?_
              refine g_iconst fx dX11_readSack_233 (by unfold okI; omega) ?_
              refine g_dup2 fx dX11_readSack_234 rfl rfl ?_
              refine g_iald fx dX11_readSack_235 o_225 (by decide) (by decide) ?_
              refine g_iconst fx dX11_readSack_236 (by unfold okI; omega) ?_
              refine g_iadd fx dX11_readSack_237 ?_
              refine g_iast fx dX11_readSack_238 o_225 (by decide) (by decide) ?_
              refine gw_cg (σ' := nz9 σ) rfl rfl ?_
              refine g_aload_n fx dX11_readSack_239 rfl ?_
              refine g_getr fx dX11_readSack_240 fk_RX11_13 o_223 rf_223_1 ?_
              refine g_sipush fx dX11_readSack_243 (by decide) ?_
              refine g_dup2 fx dX11_readSack_246 rfl rfl ?_
              refine g_iald fx dX11_readSack_247 o_225 (by decide) (by decide) ?_
              refine g_iconst fx dX11_readSack_248 (by unfold okI; omega) ?_
              refine g_iadd fx dX11_readSack_249 ?_
              refine g_iast fx dX11_readSack_250 o_225 (by decide) (by decide) ?_
              exact g_vret fx rfl dX11_readSack_251 (by decide) (by decide) (gw_le.rf _) ⟨rfl, rfl, by rw [nSk]; (repeat first | rw [if_pos (by omega)] | rw [if_neg (by omega)]) <;> rfl⟩
            · exact g_vret fx rfl dX11_readSack_144 (by decide) (by decide) (gw_le.rf _) ⟨rfl, rfl, by rw [nSk]; (repeat first | rw [if_pos (by omega)] | rw [if_neg (by omega)]) <;> rfl⟩
        · refine g_aload_n fx dX11_readSack_101 rfl ?_
          refine g_iconst fx dX11_readSack_102 (by unfold okI; omega) ?_
          refine g_bipush fx dX11_readSack_103 (by decide) ?_
          refine g_callVD fx dX11_readSack_105 mv_RX11_154 my_X11_number (s_X11_number ad _ _ _ (Rk_tak (Rk_q4 hR) 7)) o_223 rfl rfl rfl (Nat.le_of_ble_eq_true rfl) (by decide) (by decide) ?_
          refine g_goto (tgt := 112) fx dX11_readSack_108 (by decide) ?_
          refine gw_cgt (σ' := (nq5 σ).2) (v' := (nq5 σ).1) (by rw [nq5, nOp]; first | rw [if_pos (by assumption)] | rw [if_neg (by assumption)]) (by rw [nq5, nOp]; first | rw [if_pos (by assumption)] | rw [if_neg (by assumption)]) ?_
          refine g_istore fx dX11_readSack_112 (by decide) rfl rfl ?_
          refine g_aload_n fx dX11_readSack_114 rfl ?_
          refine g_ldcS fx dX11_readSack_115 (by decide +kernel : (RX11, 169, "home", 8) ∈ gw_strT) ?_
          refine g_callVD fx dX11_readSack_117 mv_RX11_151 my_X11_took (s_X11_took ad _ 8 (by decide) (Rk_q5 hR)) o_223 rfl rfl rfl (Nat.le_of_ble_eq_true rfl) (by decide) (by decide) ?_
          refine g_if_eq (tgt := 134) fx dX11_readSack_120 (by decide) (fun h120 => ?_) (fun h120 => ?_)
          · refine g_iconst fx dX11_readSack_134 (by unfold okI; omega) ?_
            refine gw_cgt (σ' := (nq6 σ).2) (v' := (nq6 σ).1) (by rw [nq6, nOp]; first | rw [if_pos (by assumption)] | rw [if_neg (by assumption)]) (by rw [nq6, nOp]; first | rw [if_pos (by assumption)] | rw [if_neg (by assumption)]) ?_
            refine g_istore fx dX11_readSack_135 (by decide) rfl rfl ?_
            refine g_aload_n fx dX11_readSack_137 rfl ?_
            refine g_geti fx dX11_readSack_138 fk_RX11_120 (by decide) o_223 ?_
            refine g_if_eq (tgt := 145) fx dX11_readSack_141 (by decide) (fun h141 => ?_) (fun h141 => ?_)
            · refine g_aload_n fx dX11_readSack_145 rfl ?_
              refine g_getr fx dX11_readSack_146 fk_RX11_13 o_223 rf_223_1 ?_
              refine g_iload_n fx dX11_readSack_149 rfl ?_
              refine g_iconst fx dX11_readSack_150 (by unfold okI; omega) ?_
              refine g_iadd fx dX11_readSack_151 ?_
              refine gw_cgt rfl (wr_id (show okI (20 + 7 * σ 225 4 + 0) by unfold okI; omega)) ?_
              refine g_iload_n fx dX11_readSack_152 rfl ?_
              refine g_iast fx dX11_readSack_153 o_225 (by omega) (by show _ < ((672 : Nat) : Int); omega) ?_
              refine gw_cg (σ' := nz1 σ) rfl rfl ?_
              refine g_aload_n fx dX11_readSack_154 rfl ?_
              refine g_getr fx dX11_readSack_155 fk_RX11_13 o_223 rf_223_1 ?_
              refine g_iload_n fx dX11_readSack_158 rfl ?_
              refine g_iconst fx dX11_readSack_159 (by unfold okI; omega) ?_
              refine g_iadd fx dX11_readSack_160 ?_
              refine gw_cgt rfl (wr_id (show okI (20 + 7 * σ 225 4 + 1) by unfold okI; omega)) ?_
              refine g_iload_n fx dX11_readSack_161 rfl ?_
              refine g_iast fx dX11_readSack_162 o_225 (by omega) (by show _ < ((672 : Nat) : Int); omega) ?_
              refine gw_cg (σ' := nz2 σ) rfl rfl ?_
              refine g_aload_n fx dX11_readSack_163 rfl ?_
              refine g_getr fx dX11_readSack_164 fk_RX11_13 o_223 rf_223_1 ?_
              refine g_iload_n fx dX11_readSack_167 rfl ?_
              refine g_iconst fx dX11_readSack_168 (by unfold okI; omega) ?_
              refine g_iadd fx dX11_readSack_169 ?_
              refine gw_cgt rfl (wr_id (show okI (20 + 7 * σ 225 4 + 2) by unfold okI; omega)) ?_
              refine g_iload fx dX11_readSack_170 rfl ?_
              refine g_iast fx dX11_readSack_172 o_225 (by omega) (by show _ < ((672 : Nat) : Int); omega) ?_
              refine gw_cg (σ' := nz3 σ) rfl rfl ?_
              refine g_aload_n fx dX11_readSack_173 rfl ?_
              refine g_getr fx dX11_readSack_174 fk_RX11_13 o_223 rf_223_1 ?_
              refine g_iload_n fx dX11_readSack_177 rfl ?_
              refine g_iconst fx dX11_readSack_178 (by unfold okI; omega) ?_
              refine g_iadd fx dX11_readSack_179 ?_
              refine gw_cgt rfl (wr_id (show okI (20 + 7 * σ 225 4 + 3) by unfold okI; omega)) ?_
              refine g_iload fx dX11_readSack_180 rfl ?_
              refine g_iast fx dX11_readSack_182 o_225 (by omega) (by show _ < ((672 : Nat) : Int); omega) ?_
              refine gw_cg (σ' := nz4 σ) rfl rfl ?_
              refine g_aload_n fx dX11_readSack_183 rfl ?_
              refine g_getr fx dX11_readSack_184 fk_RX11_13 o_223 rf_223_1 ?_
              refine g_iload_n fx dX11_readSack_187 rfl ?_
              refine g_iconst fx dX11_readSack_188 (by unfold okI; omega) ?_
              refine g_iadd fx dX11_readSack_189 ?_
              refine gw_cgt rfl (wr_id (show okI (20 + 7 * σ 225 4 + 4) by unfold okI; omega)) ?_
              refine g_iload fx dX11_readSack_190 rfl ?_
              refine g_iast fx dX11_readSack_192 o_225 (by omega) (by show _ < ((672 : Nat) : Int); omega) ?_
              refine gw_cg (σ' := nz5 σ) rfl rfl ?_
              refine g_aload_n fx dX11_readSack_193 rfl ?_
              refine g_getr fx dX11_readSack_194 fk_RX11_13 o_223 rf_223_1 ?_
              refine g_iload_n fx dX11_readSack_197 rfl ?_
              refine g_iconst fx dX11_readSack_198 (by unfold okI; omega) ?_
              refine g_iadd fx dX11_readSack_199 ?_
              refine gw_cgt rfl (wr_id (show okI (20 + 7 * σ 225 4 + 5) by unfold okI; omega)) ?_
              refine g_iload fx dX11_readSack_200 rfl ?_
              refine g_iast fx dX11_readSack_202 o_225 (by omega) (by show _ < ((672 : Nat) : Int); omega) ?_
              refine gw_cg (σ' := nz6 σ) rfl rfl ?_
              refine g_aload_n fx dX11_readSack_203 rfl ?_
              refine g_getr fx dX11_readSack_204 fk_RX11_13 o_223 rf_223_1 ?_
              refine g_iload_n fx dX11_readSack_207 rfl ?_
              refine g_bipush fx dX11_readSack_208 (by decide) ?_
              refine g_iadd fx dX11_readSack_210 ?_
              refine gw_cgt rfl (wr_id (show okI (20 + 7 * σ 225 4 + 6) by unfold okI; omega)) ?_
              refine g_iconst fx dX11_readSack_211 (by unfold okI; omega) ?_
              refine g_iast fx dX11_readSack_212 o_225 (by omega) (by show _ < ((672 : Nat) : Int); omega) ?_
              refine gw_cg (σ' := nz7 σ) rfl rfl ?_
              refine g_aload_n fx dX11_readSack_213 rfl ?_
              refine g_getr fx dX11_readSack_214 fk_RX11_13 o_223 rf_223_1 ?_
              refine g_sipush fx dX11_readSack_217 (by decide) ?_
              refine g_aload_n fx dX11_readSack_220 rfl ?_
              refine g_getr fx dX11_readSack_221 fk_RX11_13 o_223 rf_223_1 ?_
              refine g_iconst fx dX11_readSack_224 (by unfold okI; omega) ?_
              refine g_iald fx dX11_readSack_225 o_225 (by decide) (by decide) ?_
              rw [show Int.toNat 4 = 4 from rfl]
              rw [nz7_4 σ hF.1]
              refine g_iadd fx dX11_readSack_226 ?_
              refine gw_cgt rfl (wr_id (show okI (608 + σ 225 4) by unfold okI; omega)) ?_
              refine g_iload_n fx dX11_readSack_227 rfl ?_
              refine g_iast fx dX11_readSack_228 o_225 (by omega) (by show _ < ((672 : Nat) : Int); omega) ?_
              refine gw_cg (σ' := nz8 σ) rfl rfl ?_
              refine g_aload_n fx dX11_readSack_229 rfl ?_
              refine g_getr fx dX11_readSack_230 fk_RX11_13 o_223 rf_223_1 ?_
              refine g_iconst fx dX11_readSack_233 (by unfold okI; omega) ?_
              refine g_dup2 fx dX11_readSack_234 rfl rfl ?_
              refine g_iald fx dX11_readSack_235 o_225 (by decide) (by decide) ?_
              refine g_iconst fx dX11_readSack_236 (by unfold okI; omega) ?_
              refine g_iadd fx dX11_readSack_237 ?_
              refine g_iast fx dX11_readSack_238 o_225 (by decide) (by decide) ?_
              refine gw_cg (σ' := nz9 σ) rfl rfl ?_
              refine g_aload_n fx dX11_readSack_239 rfl ?_
              refine g_getr fx dX11_readSack_240 fk_RX11_13 o_223 rf_223_1 ?_
              refine g_sipush fx dX11_readSack_243 (by decide) ?_
              refine g_dup2 fx dX11_readSack_246 rfl rfl ?_
              refine g_iald fx dX11_readSack_247 o_225 (by decide) (by decide) ?_
              refine g_iconst fx dX11_readSack_248 (by unfold okI; omega) ?_
              refine g_iadd fx dX11_readSack_249 ?_
              refine g_iast fx dX11_readSack_250 o_225 (by decide) (by decide) ?_
              exact g_vret fx rfl dX11_readSack_251 (by decide) (by decide) (gw_le.rf _) ⟨rfl, rfl, by rw [nSk]; (repeat first | rw [if_pos (by omega)] | rw [if_neg (by omega)]) <;> rfl⟩
            · exact g_vret fx rfl dX11_readSack_144 (by decide) (by decide) (gw_le.rf _) ⟨rfl, rfl, by rw [nSk]; (repeat first | rw [if_pos (by omega)] | rw [if_neg (by omega)]) <;> rfl⟩
          · refine g_aload_n fx dX11_readSack_123 rfl ?_
            refine g_iconst fx dX11_readSack_124 (by unfold okI; omega) ?_
            refine g_sipush fx dX11_readSack_125 (by decide) ?_
            refine g_callVD fx dX11_readSack_128 mv_RX11_154 my_X11_number (s_X11_number ad _ _ _ (Rk_tak (Rk_q5 hR) 8)) o_223 rfl rfl rfl (Nat.le_of_ble_eq_true rfl) (by decide) (by decide) ?_
            refine g_goto (tgt := 135) fx dX11_readSack_131 (by decide) ?_
            refine gw_cgt (σ' := (nq6 σ).2) (v' := (nq6 σ).1) (by rw [nq6, nOp]; first | rw [if_pos (by assumption)] | rw [if_neg (by assumption)]) (by rw [nq6, nOp]; first | rw [if_pos (by assumption)] | rw [if_neg (by assumption)]) ?_
            refine g_istore fx dX11_readSack_135 (by decide) rfl rfl ?_
            refine g_aload_n fx dX11_readSack_137 rfl ?_
            refine g_geti fx dX11_readSack_138 fk_RX11_120 (by decide) o_223 ?_
            refine g_if_eq (tgt := 145) fx dX11_readSack_141 (by decide) (fun h141 => ?_) (fun h141 => ?_)
            · refine g_aload_n fx dX11_readSack_145 rfl ?_
              refine g_getr fx dX11_readSack_146 fk_RX11_13 o_223 rf_223_1 ?_
              refine g_iload_n fx dX11_readSack_149 rfl ?_
              refine g_iconst fx dX11_readSack_150 (by unfold okI; omega) ?_
              refine g_iadd fx dX11_readSack_151 ?_
              refine gw_cgt rfl (wr_id (show okI (20 + 7 * σ 225 4 + 0) by unfold okI; omega)) ?_
              refine g_iload_n fx dX11_readSack_152 rfl ?_
              refine g_iast fx dX11_readSack_153 o_225 (by omega) (by show _ < ((672 : Nat) : Int); omega) ?_
              refine gw_cg (σ' := nz1 σ) rfl rfl ?_
              refine g_aload_n fx dX11_readSack_154 rfl ?_
              refine g_getr fx dX11_readSack_155 fk_RX11_13 o_223 rf_223_1 ?_
              refine g_iload_n fx dX11_readSack_158 rfl ?_
              refine g_iconst fx dX11_readSack_159 (by unfold okI; omega) ?_
              refine g_iadd fx dX11_readSack_160 ?_
              refine gw_cgt rfl (wr_id (show okI (20 + 7 * σ 225 4 + 1) by unfold okI; omega)) ?_
              refine g_iload_n fx dX11_readSack_161 rfl ?_
              refine g_iast fx dX11_readSack_162 o_225 (by omega) (by show _ < ((672 : Nat) : Int); omega) ?_
              refine gw_cg (σ' := nz2 σ) rfl rfl ?_
              refine g_aload_n fx dX11_readSack_163 rfl ?_
              refine g_getr fx dX11_readSack_164 fk_RX11_13 o_223 rf_223_1 ?_
              refine g_iload_n fx dX11_readSack_167 rfl ?_
              refine g_iconst fx dX11_readSack_168 (by unfold okI; omega) ?_
              refine g_iadd fx dX11_readSack_169 ?_
              refine gw_cgt rfl (wr_id (show okI (20 + 7 * σ 225 4 + 2) by unfold okI; omega)) ?_
              refine g_iload fx dX11_readSack_170 rfl ?_
              refine g_iast fx dX11_readSack_172 o_225 (by omega) (by show _ < ((672 : Nat) : Int); omega) ?_
              refine gw_cg (σ' := nz3 σ) rfl rfl ?_
              refine g_aload_n fx dX11_readSack_173 rfl ?_
              refine g_getr fx dX11_readSack_174 fk_RX11_13 o_223 rf_223_1 ?_
              refine g_iload_n fx dX11_readSack_177 rfl ?_
              refine g_iconst fx dX11_readSack_178 (by unfold okI; omega) ?_
              refine g_iadd fx dX11_readSack_179 ?_
              refine gw_cgt rfl (wr_id (show okI (20 + 7 * σ 225 4 + 3) by unfold okI; omega)) ?_
              refine g_iload fx dX11_readSack_180 rfl ?_
              refine g_iast fx dX11_readSack_182 o_225 (by omega) (by show _ < ((672 : Nat) : Int); omega) ?_
              refine gw_cg (σ' := nz4 σ) rfl rfl ?_
              refine g_aload_n fx dX11_readSack_183 rfl ?_
              refine g_getr fx dX11_readSack_184 fk_RX11_13 o_223 rf_223_1 ?_
              refine g_iload_n fx dX11_readSack_187 rfl ?_
              refine g_iconst fx dX11_readSack_188 (by unfold okI; omega) ?_
              refine g_iadd fx dX11_readSack_189 ?_
              refine gw_cgt rfl (wr_id (show okI (20 + 7 * σ 225 4 + 4) by unfold okI; omega)) ?_
              refine g_iload fx dX11_readSack_190 rfl ?_
              refine g_iast fx dX11_readSack_192 o_225 (by omega) (by show _ < ((672 : Nat) : Int); omega) ?_
              refine gw_cg (σ' := nz5 σ) rfl rfl ?_
              refine g_aload_n fx dX11_readSack_193 rfl ?_
              refine g_getr fx dX11_readSack_194 fk_RX11_13 o_223 rf_223_1 ?_
              refine g_iload_n fx dX11_readSack_197 rfl ?_
              refine g_iconst fx dX11_readSack_198 (by unfold okI; omega) ?_
              refine g_iadd fx dX11_readSack_199 ?_
              refine gw_cgt rfl (wr_id (show okI (20 + 7 * σ 225 4 + 5) by unfold okI; omega)) ?_
              refine g_iload fx dX11_readSack_200 rfl ?_
              refine g_iast fx dX11_readSack_202 o_225 (by omega) (by show _ < ((672 : Nat) : Int); omega) ?_
              refine gw_cg (σ' := nz6 σ) rfl rfl ?_
              refine g_aload_n fx dX11_readSack_203 rfl ?_
              refine g_getr fx dX11_readSack_204 fk_RX11_13 o_223 rf_223_1 ?_
              refine g_iload_n fx dX11_readSack_207 rfl ?_
              refine g_bipush fx dX11_readSack_208 (by decide) ?_
              refine g_iadd fx dX11_readSack_210 ?_
              refine gw_cgt rfl (wr_id (show okI (20 + 7 * σ 225 4 + 6) by unfold okI; omega)) ?_
              refine g_iconst fx dX11_readSack_211 (by unfold okI; omega) ?_
              refine g_iast fx dX11_readSack_212 o_225 (by omega) (by show _ < ((672 : Nat) : Int); omega) ?_
              refine gw_cg (σ' := nz7 σ) rfl rfl ?_
              refine g_aload_n fx dX11_readSack_213 rfl ?_
              refine g_getr fx dX11_readSack_214 fk_RX11_13 o_223 rf_223_1 ?_
              refine g_sipush fx dX11_readSack_217 (by decide) ?_
              refine g_aload_n fx dX11_readSack_220 rfl ?_
              refine g_getr fx dX11_readSack_221 fk_RX11_13 o_223 rf_223_1 ?_
              refine g_iconst fx dX11_readSack_224 (by unfold okI; omega) ?_
              refine g_iald fx dX11_readSack_225 o_225 (by decide) (by decide) ?_
              rw [show Int.toNat 4 = 4 from rfl]
              rw [nz7_4 σ hF.1]
              refine g_iadd fx dX11_readSack_226 ?_
              refine gw_cgt rfl (wr_id (show okI (608 + σ 225 4) by unfold okI; omega)) ?_
              refine g_iload_n fx dX11_readSack_227 rfl ?_
              refine g_iast fx dX11_readSack_228 o_225 (by omega) (by show _ < ((672 : Nat) : Int); omega) ?_
              refine gw_cg (σ' := nz8 σ) rfl rfl ?_
              refine g_aload_n fx dX11_readSack_229 rfl ?_
              refine g_getr fx dX11_readSack_230 fk_RX11_13 o_223 rf_223_1 ?_
              refine g_iconst fx dX11_readSack_233 (by unfold okI; omega) ?_
              refine g_dup2 fx dX11_readSack_234 rfl rfl ?_
              refine g_iald fx dX11_readSack_235 o_225 (by decide) (by decide) ?_
              refine g_iconst fx dX11_readSack_236 (by unfold okI; omega) ?_
              refine g_iadd fx dX11_readSack_237 ?_
              refine g_iast fx dX11_readSack_238 o_225 (by decide) (by decide) ?_
              refine gw_cg (σ' := nz9 σ) rfl rfl ?_
              refine g_aload_n fx dX11_readSack_239 rfl ?_
              refine g_getr fx dX11_readSack_240 fk_RX11_13 o_223 rf_223_1 ?_
              refine g_sipush fx dX11_readSack_243 (by decide) ?_
              refine g_dup2 fx dX11_readSack_246 rfl rfl ?_
              refine g_iald fx dX11_readSack_247 o_225 (by decide) (by decide) ?_
              refine g_iconst fx dX11_readSack_248 (by unfold okI; omega) ?_
              refine g_iadd fx dX11_readSack_249 ?_
              refine g_iast fx dX11_readSack_250 o_225 (by decide) (by decide) ?_
              exact g_vret fx rfl dX11_readSack_251 (by decide) (by decide) (gw_le.rf _) ⟨rfl, rfl, by rw [nSk]; (repeat first | rw [if_pos (by omega)] | rw [if_neg (by omega)]) <;> rfl⟩
            · exact g_vret fx rfl dX11_readSack_144 (by decide) (by decide) (gw_le.rf _) ⟨rfl, rfl, by rw [nSk]; (repeat first | rw [if_pos (by omega)] | rw [if_neg (by omega)]) <;> rfl⟩
      · refine g_aload_n fx dX11_readSack_80 rfl ?_
        refine g_iconst fx dX11_readSack_81 (by unfold okI; omega) ?_
        refine g_iconst fx dX11_readSack_82 (by unfold okI; omega) ?_
        refine g_callVD fx dX11_readSack_83 mv_RX11_154 my_X11_number (s_X11_number ad _ _ _ (Rk_tak (Rk_q3 hR) 6)) o_223 rfl rfl rfl (Nat.le_of_ble_eq_true rfl) (by decide) (by decide) ?_
        refine g_goto (tgt := 90) fx dX11_readSack_86 (by decide) ?_
        refine gw_cgt (σ' := (nq4 σ).2) (v' := (nq4 σ).1) (by rw [nq4, nOp]; first | rw [if_pos (by assumption)] | rw [if_neg (by assumption)]) (by rw [nq4, nOp]; first | rw [if_pos (by assumption)] | rw [if_neg (by assumption)]) ?_
        refine g_istore fx dX11_readSack_90 (by decide) rfl rfl ?_
        refine g_aload_n fx dX11_readSack_92 rfl ?_
        refine g_ldcS fx dX11_readSack_93 (by decide +kernel : (RX11, 167, "worth", 7) ∈ gw_strT) ?_
        refine g_callVD fx dX11_readSack_95 mv_RX11_151 my_X11_took (s_X11_took ad _ 7 (by decide) (Rk_q4 hR)) o_223 rfl rfl rfl (Nat.le_of_ble_eq_true rfl) (by decide) (by decide) ?_
        refine g_if_eq (tgt := 111) fx dX11_readSack_98 (by decide) (fun h98 => ?_) (fun h98 => ?_)
        · refine g_iconst fx dX11_readSack_111 (by unfold okI; omega) ?_
          refine gw_cgt (σ' := (nq5 σ).2) (v' := (nq5 σ).1) (by rw [nq5, nOp]; first | rw [if_pos (by assumption)] | rw [if_neg (by assumption)]) (by rw [nq5, nOp]; first | rw [if_pos (by assumption)] | rw [if_neg (by assumption)]) ?_
          refine g_istore fx dX11_readSack_112 (by decide) rfl rfl ?_
          refine g_aload_n fx dX11_readSack_114 rfl ?_
          refine g_ldcS fx dX11_readSack_115 (by decide +kernel : (RX11, 169, "home", 8) ∈ gw_strT) ?_
          refine g_callVD fx dX11_readSack_117 mv_RX11_151 my_X11_took (s_X11_took ad _ 8 (by decide) (Rk_q5 hR)) o_223 rfl rfl rfl (Nat.le_of_ble_eq_true rfl) (by decide) (by decide) ?_
          refine g_if_eq (tgt := 134) fx dX11_readSack_120 (by decide) (fun h120 => ?_) (fun h120 => ?_)
          · refine g_iconst fx dX11_readSack_134 (by unfold okI; omega) ?_
            refine gw_cgt (σ' := (nq6 σ).2) (v' := (nq6 σ).1) (by rw [nq6, nOp]; first | rw [if_pos (by assumption)] | rw [if_neg (by assumption)]) (by rw [nq6, nOp]; first | rw [if_pos (by assumption)] | rw [if_neg (by assumption)]) ?_
            refine g_istore fx dX11_readSack_135 (by decide) rfl rfl ?_
            refine g_aload_n fx dX11_readSack_137 rfl ?_
            refine g_geti fx dX11_readSack_138 fk_RX11_120 (by decide) o_223 ?_
            refine g_if_eq (tgt := 145) fx dX11_readSack_141 (by decide) (fun h141 => ?_) (fun h141 => ?_)
            · refine g_aload_n fx dX11_readSack_145 rfl ?_
              refine g_getr fx dX11_readSack_146 fk_RX11_13 o_223 rf_223_1 ?_
              refine g_iload_n fx dX11_readSack_149 rfl ?_
              refine g_iconst fx dX11_readSack_150 (by unfold okI; omega) ?_
              refine g_iadd fx dX11_readSack_151 ?_
              refine gw_cgt rfl (wr_id (show okI (20 + 7 * σ 225 4 + 0) by unfold okI; omega)) ?_
              refine g_iload_n fx dX11_readSack_152 rfl ?_
              refine g_iast fx dX11_readSack_153 o_225 (by omega) (by show _ < ((672 : Nat) : Int); omega) ?_
              refine gw_cg (σ' := nz1 σ) rfl rfl ?_
              refine g_aload_n fx dX11_readSack_154 rfl ?_
              refine g_getr fx dX11_readSack_155 fk_RX11_13 o_223 rf_223_1 ?_
              refine g_iload_n fx dX11_readSack_158 rfl ?_
              refine g_iconst fx dX11_readSack_159 (by unfold okI; omega) ?_
              refine g_iadd fx dX11_readSack_160 ?_
              refine gw_cgt rfl (wr_id (show okI (20 + 7 * σ 225 4 + 1) by unfold okI; omega)) ?_
              refine g_iload_n fx dX11_readSack_161 rfl ?_
              refine g_iast fx dX11_readSack_162 o_225 (by omega) (by show _ < ((672 : Nat) : Int); omega) ?_
              refine gw_cg (σ' := nz2 σ) rfl rfl ?_
              refine g_aload_n fx dX11_readSack_163 rfl ?_
              refine g_getr fx dX11_readSack_164 fk_RX11_13 o_223 rf_223_1 ?_
              refine g_iload_n fx dX11_readSack_167 rfl ?_
              refine g_iconst fx dX11_readSack_168 (by unfold okI; omega) ?_
              refine g_iadd fx dX11_readSack_169 ?_
              refine gw_cgt rfl (wr_id (show okI (20 + 7 * σ 225 4 + 2) by unfold okI; omega)) ?_
              refine g_iload fx dX11_readSack_170 rfl ?_
              refine g_iast fx dX11_readSack_172 o_225 (by omega) (by show _ < ((672 : Nat) : Int); omega) ?_
              refine gw_cg (σ' := nz3 σ) rfl rfl ?_
              refine g_aload_n fx dX11_readSack_173 rfl ?_
              refine g_getr fx dX11_readSack_174 fk_RX11_13 o_223 rf_223_1 ?_
              refine g_iload_n fx dX11_readSack_177 rfl ?_
              refine g_iconst fx dX11_readSack_178 (by unfold okI; omega) ?_
              refine g_iadd fx dX11_readSack_179 ?_
              refine gw_cgt rfl (wr_id (show okI (20 + 7 * σ 225 4 + 3) by unfold okI; omega)) ?_
              refine g_iload fx dX11_readSack_180 rfl ?_
              refine g_iast fx dX11_readSack_182 o_225 (by omega) (by show _ < ((672 : Nat) : Int); omega) ?_
              refine gw_cg (σ' := nz4 σ) rfl rfl ?_
              refine g_aload_n fx dX11_readSack_183 rfl ?_
              refine g_getr fx dX11_readSack_184 fk_RX11_13 o_223 rf_223_1 ?_
              refine g_iload_n fx dX11_readSack_187 rfl ?_
              refine g_iconst fx dX11_readSack_188 (by unfold okI; omega) ?_
              refine g_iadd fx dX11_readSack_189 ?_
              refine gw_cgt rfl (wr_id (show okI (20 + 7 * σ 225 4 + 4) by unfold okI; omega)) ?_
              refine g_iload fx dX11_readSack_190 rfl ?_
              refine g_iast fx dX11_readSack_192 o_225 (by omega) (by show _ < ((672 : Nat) : Int); omega) ?_
              refine gw_cg (σ' := nz5 σ) rfl rfl ?_
              refine g_aload_n fx dX11_readSack_193 rfl ?_
              refine g_getr fx dX11_readSack_194 fk_RX11_13 o_223 rf_223_1 ?_
              refine g_iload_n fx dX11_readSack_197 rfl ?_
              refine g_iconst fx dX11_readSack_198 (by unfold okI; omega) ?_
              refine g_iadd fx dX11_readSack_199 ?_
              refine gw_cgt rfl (wr_id (show okI (20 + 7 * σ 225 4 + 5) by unfold okI; omega)) ?_
              refine g_iload fx dX11_readSack_200 rfl ?_
              refine g_iast fx dX11_readSack_202 o_225 (by omega) (by show _ < ((672 : Nat) : Int); omega) ?_
              refine gw_cg (σ' := nz6 σ) rfl rfl ?_
              refine g_aload_n fx dX11_readSack_203 rfl ?_
              refine g_getr fx dX11_readSack_204 fk_RX11_13 o_223 rf_223_1 ?_
              refine g_iload_n fx dX11_readSack_207 rfl ?_
              refine g_bipush fx dX11_readSack_208 (by decide) ?_
              refine g_iadd fx dX11_readSack_210 ?_
              refine gw_cgt rfl (wr_id (show okI (20 + 7 * σ 225 4 + 6) by unfold okI; omega)) ?_
              refine g_iconst fx dX11_readSack_211 (by unfold okI; omega) ?_
              refine g_iast fx dX11_readSack_212 o_225 (by omega) (by show _ < ((672 : Nat) : Int); omega) ?_
              refine gw_cg (σ' := nz7 σ) rfl rfl ?_
              refine g_aload_n fx dX11_readSack_213 rfl ?_
              refine g_getr fx dX11_readSack_214 fk_RX11_13 o_223 rf_223_1 ?_
              refine g_sipush fx dX11_readSack_217 (by decide) ?_
              refine g_aload_n fx dX11_readSack_220 rfl ?_
              refine g_getr fx dX11_readSack_221 fk_RX11_13 o_223 rf_223_1 ?_
              refine g_iconst fx dX11_readSack_224 (by unfold okI; omega) ?_
              refine g_iald fx dX11_readSack_225 o_225 (by decide) (by decide) ?_
              rw [show Int.toNat 4 = 4 from rfl]
              rw [nz7_4 σ hF.1]
              refine g_iadd fx dX11_readSack_226 ?_
              refine gw_cgt rfl (wr_id (show okI (608 + σ 225 4) by unfold okI; omega)) ?_
              refine g_iload_n fx dX11_readSack_227 rfl ?_
              refine g_iast fx dX11_readSack_228 o_225 (by omega) (by show _ < ((672 : Nat) : Int); omega) ?_
              refine gw_cg (σ' := nz8 σ) rfl rfl ?_
              refine g_aload_n fx dX11_readSack_229 rfl ?_
              refine g_getr fx dX11_readSack_230 fk_RX11_13 o_223 rf_223_1 ?_
              refine g_iconst fx dX11_readSack_233 (by unfold okI; omega) ?_
              refine g_dup2 fx dX11_readSack_234 rfl rfl ?_
              refine g_iald fx dX11_readSack_235 o_225 (by decide) (by decide) ?_
              refine g_iconst fx dX11_readSack_236 (by unfold okI; omega) ?_
              refine g_iadd fx dX11_readSack_237 ?_
              refine g_iast fx dX11_readSack_238 o_225 (by decide) (by decide) ?_
              refine gw_cg (σ' := nz9 σ) rfl rfl ?_
              refine g_aload_n fx dX11_readSack_239 rfl ?_
              refine g_getr fx dX11_readSack_240 fk_RX11_13 o_223 rf_223_1 ?_
              refine g_sipush fx dX11_readSack_243 (by decide) ?_
              refine g_dup2 fx dX11_readSack_246 rfl rfl ?_
              refine g_iald fx dX11_readSack_247 o_225 (by decide) (by decide) ?_
              refine g_iconst fx dX11_readSack_248 (by unfold okI; omega) ?_
              refine g_iadd fx dX11_readSack_249 ?_
              refine g_iast fx dX11_readSack_250 o_225 (by decide) (by decide) ?_
              exact g_vret fx rfl dX11_readSack_251 (by decide) (by decide) (gw_le.rf _) ⟨rfl, rfl, by rw [nSk]; (repeat first | rw [if_pos (by omega)] | rw [if_neg (by omega)]) <;> rfl⟩
            · exact g_vret fx rfl dX11_readSack_144 (by decide) (by decide) (gw_le.rf _) ⟨rfl, rfl, by rw [nSk]; (repeat first | rw [if_pos (by omega)] | rw [if_neg (by omega)]) <;> rfl⟩
          · refine g_aload_n fx dX11_readSack_123 rfl ?_
            refine g_iconst fx dX11_readSack_124 (by unfold okI; omega) ?_
            refine g_sipush fx dX11_readSack_125 (by decide) ?_
            refine g_callVD fx dX11_readSack_128 mv_RX11_154 my_X11_number (s_X11_number ad _ _ _ (Rk_tak (Rk_q5 hR) 8)) o_223 rfl rfl rfl (Nat.le_of_ble_eq_true rfl) (by decide) (by decide) ?_
            refine g_goto (tgt := 135) fx dX11_readSack_131 (by decide) ?_
            refine gw_cgt (σ' := (nq6 σ).2) (v' := (nq6 σ).1) (by rw [nq6, nOp]; first | rw [if_pos (by assumption)] | rw [if_neg (by assumption)]) (by rw [nq6, nOp]; first | rw [if_pos (by assumption)] | rw [if_neg (by assumption)]) ?_
            refine g_istore fx dX11_readSack_135 (by decide) rfl rfl ?_
            refine g_aload_n fx dX11_readSack_137 rfl ?_
            refine g_geti fx dX11_readSack_138 fk_RX11_120 (by decide) o_223 ?_
            refine g_if_eq (tgt := 145) fx dX11_readSack_141 (by decide) (fun h141 => ?_) (fun h141 => ?_)
            · refine g_aload_n fx dX11_readSack_145 rfl ?_
              refine g_getr fx dX11_readSack_146 fk_RX11_13 o_223 rf_223_1 ?_
              refine g_iload_n fx dX11_readSack_149 rfl ?_
              refine g_iconst fx dX11_readSack_150 (by unfold okI; omega) ?_
              refine g_iadd fx dX11_readSack_151 ?_
              refine gw_cgt rfl (wr_id (show okI (20 + 7 * σ 225 4 + 0) by unfold okI; omega)) ?_
              refine g_iload_n fx dX11_readSack_152 rfl ?_
              refine g_iast fx dX11_readSack_153 o_225 (by omega) (by show _ < ((672 : Nat) : Int); omega) ?_
              refine gw_cg (σ' := nz1 σ) rfl rfl ?_
              refine g_aload_n fx dX11_readSack_154 rfl ?_
              refine g_getr fx dX11_readSack_155 fk_RX11_13 o_223 rf_223_1 ?_
              refine g_iload_n fx dX11_readSack_158 rfl ?_
              refine g_iconst fx dX11_readSack_159 (by unfold okI; omega) ?_
              refine g_iadd fx dX11_readSack_160 ?_
              refine gw_cgt rfl (wr_id (show okI (20 + 7 * σ 225 4 + 1) by unfold okI; omega)) ?_
              refine g_iload_n fx dX11_readSack_161 rfl ?_
              refine g_iast fx dX11_readSack_162 o_225 (by omega) (by show _ < ((672 : Nat) : Int); omega) ?_
              refine gw_cg (σ' := nz2 σ) rfl rfl ?_
              refine g_aload_n fx dX11_readSack_163 rfl ?_
              refine g_getr fx dX11_readSack_164 fk_RX11_13 o_223 rf_223_1 ?_
              refine g_iload_n fx dX11_readSack_167 rfl ?_
              refine g_iconst fx dX11_readSack_168 (by unfold okI; omega) ?_
              refine g_iadd fx dX11_readSack_169 ?_
              refine gw_cgt rfl (wr_id (show okI (20 + 7 * σ 225 4 + 2) by unfold okI; omega)) ?_
              refine g_iload fx dX11_readSack_170 rfl ?_
              refine g_iast fx dX11_readSack_172 o_225 (by omega) (by show _ < ((672 : Nat) : Int); omega) ?_
              refine gw_cg (σ' := nz3 σ) rfl rfl ?_
              refine g_aload_n fx dX11_readSack_173 rfl ?_
              refine g_getr fx dX11_readSack_174 fk_RX11_13 o_223 rf_223_1 ?_
              refine g_iload_n fx dX11_readSack_177 rfl ?_
              refine g_iconst fx dX11_readSack_178 (by unfold okI; omega) ?_
              refine g_iadd fx dX11_readSack_179 ?_
              refine gw_cgt rfl (wr_id (show okI (20 + 7 * σ 225 4 + 3) by unfold okI; omega)) ?_
              refine g_iload fx dX11_readSack_180 rfl ?_
              refine g_iast fx dX11_readSack_182 o_225 (by omega) (by show _ < ((672 : Nat) : Int); omega) ?_
              refine gw_cg (σ' := nz4 σ) rfl rfl ?_
              refine g_aload_n fx dX11_readSack_183 rfl ?_
              refine g_getr fx dX11_readSack_184 fk_RX11_13 o_223 rf_223_1 ?_
              refine g_iload_n fx dX11_readSack_187 rfl ?_
              refine g_iconst fx dX11_readSack_188 (by unfold okI; omega) ?_
              refine g_iadd fx dX11_readSack_189 ?_
              refine gw_cgt rfl (wr_id (show okI (20 + 7 * σ 225 4 + 4) by unfold okI; omega)) ?_
              refine g_iload fx dX11_readSack_190 rfl ?_
              refine g_iast fx dX11_readSack_192 o_225 (by omega) (by show _ < ((672 : Nat) : Int); omega) ?_
              refine gw_cg (σ' := nz5 σ) rfl rfl ?_
              refine g_aload_n fx dX11_readSack_193 rfl ?_
              refine g_getr fx dX11_readSack_194 fk_RX11_13 o_223 rf_223_1 ?_
              refine g_iload_n fx dX11_readSack_197 rfl ?_
              refine g_iconst fx dX11_readSack_198 (by unfold okI; omega) ?_
              refine g_iadd fx dX11_readSack_199 ?_
              refine gw_cgt rfl (wr_id (show okI (20 + 7 * σ 225 4 + 5) by unfold okI; omega)) ?_
              refine g_iload fx dX11_readSack_200 rfl ?_
              refine g_iast fx dX11_readSack_202 o_225 (by omega) (by show _ < ((672 : Nat) : Int); omega) ?_
              refine gw_cg (σ' := nz6 σ) rfl rfl ?_
              refine g_aload_n fx dX11_readSack_203 rfl ?_
              refine g_getr fx dX11_readSack_204 fk_RX11_13 o_223 rf_223_1 ?_
              refine g_iload_n fx dX11_readSack_207 rfl ?_
              refine g_bipush fx dX11_readSack_208 (by decide) ?_
              refine g_iadd fx dX11_readSack_210 ?_
              refine gw_cgt rfl (wr_id (show okI (20 + 7 * σ 225 4 + 6) by unfold okI; omega)) ?_
              refine g_iconst fx dX11_readSack_211 (by unfold okI; omega) ?_
              refine g_iast fx dX11_readSack_212 o_225 (by omega) (by show _ < ((672 : Nat) : Int); omega) ?_
              refine gw_cg (σ' := nz7 σ) rfl rfl ?_
              refine g_aload_n fx dX11_readSack_213 rfl ?_
              refine g_getr fx dX11_readSack_214 fk_RX11_13 o_223 rf_223_1 ?_
              refine g_sipush fx dX11_readSack_217 (by decide) ?_
              refine g_aload_n fx dX11_readSack_220 rfl ?_
              refine g_getr fx dX11_readSack_221 fk_RX11_13 o_223 rf_223_1 ?_
              refine g_iconst fx dX11_readSack_224 (by unfold okI; omega) ?_
              refine g_iald fx dX11_readSack_225 o_225 (by decide) (by decide) ?_
              rw [show Int.toNat 4 = 4 from rfl]
              rw [nz7_4 σ hF.1]
              refine g_iadd fx dX11_readSack_226 ?_
              refine gw_cgt rfl (wr_id (show okI (608 + σ 225 4) by unfold okI; omega)) ?_
              refine g_iload_n fx dX11_readSack_227 rfl ?_
              refine g_iast fx dX11_readSack_228 o_225 (by omega) (by show _ < ((672 : Nat) : Int); omega) ?_
              refine gw_cg (σ' := nz8 σ) rfl rfl ?_
              refine g_aload_n fx dX11_readSack_229 rfl ?_
              refine g_getr fx dX11_readSack_230 fk_RX11_13 o_223 rf_223_1 ?_
              refine g_iconst fx dX11_readSack_233 (by unfold okI; omega) ?_
              refine g_dup2 fx dX11_readSack_234 rfl rfl ?_
              refine g_iald fx dX11_readSack_235 o_225 (by decide) (by decide) ?_
              refine g_iconst fx dX11_readSack_236 (by unfold okI; omega) ?_
              refine g_iadd fx dX11_readSack_237 ?_
              refine g_iast fx dX11_readSack_238 o_225 (by decide) (by decide) ?_
              refine gw_cg (σ' := nz9 σ) rfl rfl ?_
              refine g_aload_n fx dX11_readSack_239 rfl ?_
              refine g_getr fx dX11_readSack_240 fk_RX11_13 o_223 rf_223_1 ?_
              refine g_sipush fx dX11_readSack_243 (by decide) ?_
              refine g_dup2 fx dX11_readSack_246 rfl rfl ?_
              refine g_iald fx dX11_readSack_247 o_225 (by decide) (by decide) ?_
              refine g_iconst fx dX11_readSack_248 (by unfold okI; omega) ?_
              refine g_iadd fx dX11_readSack_249 ?_
              refine g_iast fx dX11_readSack_250 o_225 (by decide) (by decide) ?_
              exact g_vret fx rfl dX11_readSack_251 (by decide) (by decide) (gw_le.rf _) ⟨rfl, rfl, by rw [nSk]; (repeat first | rw [if_pos (by omega)] | rw [if_neg (by omega)]) <;> rfl⟩
            · exact g_vret fx rfl dX11_readSack_144 (by decide) (by decide) (gw_le.rf _) ⟨rfl, rfl, by rw [nSk]; (repeat first | rw [if_pos (by omega)] | rw [if_neg (by omega)]) <;> rfl⟩
        · refine g_aload_n fx dX11_readSack_101 rfl ?_
          refine g_iconst fx dX11_readSack_102 (by unfold okI; omega) ?_
          refine g_bipush fx dX11_readSack_103 (by decide) ?_
          refine g_callVD fx dX11_readSack_105 mv_RX11_154 my_X11_number (s_X11_number ad _ _ _ (Rk_tak (Rk_q4 hR) 7)) o_223 rfl rfl rfl (Nat.le_of_ble_eq_true rfl) (by decide) (by decide) ?_
          refine g_goto (tgt := 112) fx dX11_readSack_108 (by decide) ?_
          refine gw_cgt (σ' := (nq5 σ).2) (v' := (nq5 σ).1) (by rw [nq5, nOp]; first | rw [if_pos (by assumption)] | rw [if_neg (by assumption)]) (by rw [nq5, nOp]; first | rw [if_pos (by assumption)] | rw [if_neg (by assumption)]) ?_
          refine g_istore fx dX11_readSack_112 (by decide) rfl rfl ?_
          refine g_aload_n fx dX11_readSack_114 rfl ?_
          refine g_ldcS fx dX11_readSack_115 (by decide +kernel : (RX11, 169, "home", 8) ∈ gw_strT) ?_
          refine g_callVD fx dX11_readSack_117 mv_RX11_151 my_X11_took (s_X11_took ad _ 8 (by decide) (Rk_q5 hR)) o_223 rfl rfl rfl (Nat.le_of_ble_eq_true rfl) (by decide) (by decide) ?_
          refine g_if_eq (tgt := 134) fx dX11_readSack_120 (by decide) (fun h120 => ?_) (fun h120 => ?_)
          · refine g_iconst fx dX11_readSack_134 (by unfold okI; omega) ?_
            refine gw_cgt (σ' := (nq6 σ).2) (v' := (nq6 σ).1) (by rw [nq6, nOp]; first | rw [if_pos (by assumption)] | rw [if_neg (by assumption)]) (by rw [nq6, nOp]; first | rw [if_pos (by assumption)] | rw [if_neg (by assumption)]) ?_
            refine g_istore fx dX11_readSack_135 (by decide) rfl rfl ?_
            refine g_aload_n fx dX11_readSack_137 rfl ?_
            refine g_geti fx dX11_readSack_138 fk_RX11_120 (by decide) o_223 ?_
            refine g_if_eq (tgt := 145) fx dX11_readSack_141 (by decide) (fun h141 => ?_) (fun h141 => ?_)
            · refine g_aload_n fx dX11_readSack_145 rfl ?_
              refine g_getr fx dX11_readSack_146 fk_RX11_13 o_223 rf_223_1 ?_
              refine g_iload_n fx dX11_readSack_149 rfl ?_
              refine g_iconst fx dX11_readSack_150 (by unfold okI; omega) ?_
              refine g_iadd fx dX11_readSack_151 ?_
              refine gw_cgt rfl (wr_id (show okI (20 + 7 * σ 225 4 + 0) by unfold okI; omega)) ?_
              refine g_iload_n fx dX11_readSack_152 rfl ?_
              refine g_iast fx dX11_readSack_153 o_225 (by omega) (by show _ < ((672 : Nat) : Int); omega) ?_
              refine gw_cg (σ' := nz1 σ) rfl rfl ?_
              refine g_aload_n fx dX11_readSack_154 rfl ?_
              refine g_getr fx dX11_readSack_155 fk_RX11_13 o_223 rf_223_1 ?_
              refine g_iload_n fx dX11_readSack_158 rfl ?_
              refine g_iconst fx dX11_readSack_159 (by unfold okI; omega) ?_
              refine g_iadd fx dX11_readSack_160 ?_
              refine gw_cgt rfl (wr_id (show okI (20 + 7 * σ 225 4 + 1) by unfold okI; omega)) ?_
              refine g_iload_n fx dX11_readSack_161 rfl ?_
              refine g_iast fx dX11_readSack_162 o_225 (by omega) (by show _ < ((672 : Nat) : Int); omega) ?_
              refine gw_cg (σ' := nz2 σ) rfl rfl ?_
              refine g_aload_n fx dX11_readSack_163 rfl ?_
              refine g_getr fx dX11_readSack_164 fk_RX11_13 o_223 rf_223_1 ?_
              refine g_iload_n fx dX11_readSack_167 rfl ?_
              refine g_iconst fx dX11_readSack_168 (by unfold okI; omega) ?_
              refine g_iadd fx dX11_readSack_169 ?_
              refine gw_cgt rfl (wr_id (show okI (20 + 7 * σ 225 4 + 2) by unfold okI; omega)) ?_
              refine g_iload fx dX11_readSack_170 rfl ?_
              refine g_iast fx dX11_readSack_172 o_225 (by omega) (by show _ < ((672 : Nat) : Int); omega) ?_
              refine gw_cg (σ' := nz3 σ) rfl rfl ?_
              refine g_aload_n fx dX11_readSack_173 rfl ?_
              refine g_getr fx dX11_readSack_174 fk_RX11_13 o_223 rf_223_1 ?_
              refine g_iload_n fx dX11_readSack_177 rfl ?_
              refine g_iconst fx dX11_readSack_178 (by unfold okI; omega) ?_
              refine g_iadd fx dX11_readSack_179 ?_
              refine gw_cgt rfl (wr_id (show okI (20 + 7 * σ 225 4 + 3) by unfold okI; omega)) ?_
              refine g_iload fx dX11_readSack_180 rfl ?_
              refine g_iast fx dX11_readSack_182 o_225 (by omega) (by show _ < ((672 : Nat) : Int); omega) ?_
              refine gw_cg (σ' := nz4 σ) rfl rfl ?_
              refine g_aload_n fx dX11_readSack_183 rfl ?_
              refine g_getr fx dX11_readSack_184 fk_RX11_13 o_223 rf_223_1 ?_
              refine g_iload_n fx dX11_readSack_187 rfl ?_
              refine g_iconst fx dX11_readSack_188 (by unfold okI; omega) ?_
              refine g_iadd fx dX11_readSack_189 ?_
              refine gw_cgt rfl (wr_id (show okI (20 + 7 * σ 225 4 + 4) by unfold okI; omega)) ?_
              refine g_iload fx dX11_readSack_190 rfl ?_
              refine g_iast fx dX11_readSack_192 o_225 (by omega) (by show _ < ((672 : Nat) : Int); omega) ?_
              refine gw_cg (σ' := nz5 σ) rfl rfl ?_
              refine g_aload_n fx dX11_readSack_193 rfl ?_
              refine g_getr fx dX11_readSack_194 fk_RX11_13 o_223 rf_223_1 ?_
              refine g_iload_n fx dX11_readSack_197 rfl ?_
              refine g_iconst fx dX11_readSack_198 (by unfold okI; omega) ?_
              refine g_iadd fx dX11_readSack_199 ?_
              refine gw_cgt rfl (wr_id (show okI (20 + 7 * σ 225 4 + 5) by unfold okI; omega)) ?_
              refine g_iload fx dX11_readSack_200 rfl ?_
              refine g_iast fx dX11_readSack_202 o_225 (by omega) (by show _ < ((672 : Nat) : Int); omega) ?_
              refine gw_cg (σ' := nz6 σ) rfl rfl ?_
              refine g_aload_n fx dX11_readSack_203 rfl ?_
              refine g_getr fx dX11_readSack_204 fk_RX11_13 o_223 rf_223_1 ?_
              refine g_iload_n fx dX11_readSack_207 rfl ?_
              refine g_bipush fx dX11_readSack_208 (by decide) ?_
              refine g_iadd fx dX11_readSack_210 ?_
              refine gw_cgt rfl (wr_id (show okI (20 + 7 * σ 225 4 + 6) by unfold okI; omega)) ?_
              refine g_iconst fx dX11_readSack_211 (by unfold okI; omega) ?_
              refine g_iast fx dX11_readSack_212 o_225 (by omega) (by show _ < ((672 : Nat) : Int); omega) ?_
              refine gw_cg (σ' := nz7 σ) rfl rfl ?_
              refine g_aload_n fx dX11_readSack_213 rfl ?_
              refine g_getr fx dX11_readSack_214 fk_RX11_13 o_223 rf_223_1 ?_
              refine g_sipush fx dX11_readSack_217 (by decide) ?_
              refine g_aload_n fx dX11_readSack_220 rfl ?_
              refine g_getr fx dX11_readSack_221 fk_RX11_13 o_223 rf_223_1 ?_
              refine g_iconst fx dX11_readSack_224 (by unfold okI; omega) ?_
              refine g_iald fx dX11_readSack_225 o_225 (by decide) (by decide) ?_
              rw [show Int.toNat 4 = 4 from rfl]
              rw [nz7_4 σ hF.1]
              refine g_iadd fx dX11_readSack_226 ?_
              refine gw_cgt rfl (wr_id (show okI (608 + σ 225 4) by unfold okI; omega)) ?_
              refine g_iload_n fx dX11_readSack_227 rfl ?_
              refine g_iast fx dX11_readSack_228 o_225 (by omega) (by show _ < ((672 : Nat) : Int); omega) ?_
              refine gw_cg (σ' := nz8 σ) rfl rfl ?_
              refine g_aload_n fx dX11_readSack_229 rfl ?_
              refine g_getr fx dX11_readSack_230 fk_RX11_13 o_223 rf_223_1 ?_
              refine g_iconst fx dX11_readSack_233 (by unfold okI; omega) ?_
              refine g_dup2 fx dX11_readSack_234 rfl rfl ?_
              refine g_iald fx dX11_readSack_235 o_225 (by decide) (by decide) ?_
              refine g_iconst fx dX11_readSack_236 (by unfold okI; omega) ?_
              refine g_iadd fx dX11_readSack_237 ?_
              refine g_iast fx dX11_readSack_238 o_225 (by decide) (by decide) ?_
              refine gw_cg (σ' := nz9 σ) rfl rfl ?_
              refine g_aload_n fx dX11_readSack_239 rfl ?_
              refine g_getr fx dX11_readSack_240 fk_RX11_13 o_223 rf_223_1 ?_
              refine g_sipush fx dX11_readSack_243 (by decide) ?_
              refine g_dup2 fx dX11_readSack_246 rfl rfl ?_
              refine g_iald fx dX11_readSack_247 o_225 (by decide) (by decide) ?_
              refine g_iconst fx dX11_readSack_248 (by unfold okI; omega) ?_
              refine g_iadd fx dX11_readSack_249 ?_
              refine g_iast fx dX11_readSack_250 o_225 (by decide) (by decide) ?_
              exact g_vret fx rfl dX11_readSack_251 (by decide) (by decide) (gw_le.rf _) ⟨rfl, rfl, by rw [nSk]; (repeat first | rw [if_pos (by omega)] | rw [if_neg (by omega)]) <;> rfl⟩
            · exact g_vret fx rfl dX11_readSack_144 (by decide) (by decide) (gw_le.rf _) ⟨rfl, rfl, by rw [nSk]; (repeat first | rw [if_pos (by omega)] | rw [if_neg (by omega)]) <;> rfl⟩
          · refine g_aload_n fx dX11_readSack_123 rfl ?_
            refine g_iconst fx dX11_readSack_124 (by unfold okI; omega) ?_
            refine g_sipush fx dX11_readSack_125 (by decide) ?_
            refine g_callVD fx dX11_readSack_128 mv_RX11_154 my_X11_number (s_X11_number ad _ _ _ (Rk_tak (Rk_q5 hR) 8)) o_223 rfl rfl rfl (Nat.le_of_ble_eq_true rfl) (by decide) (by decide) ?_
            refine g_goto (tgt := 135) fx dX11_readSack_131 (by decide) ?_
            refine gw_cgt (σ' := (nq6 σ).2) (v' := (nq6 σ).1) (by rw [nq6, nOp]; first | rw [if_pos (by assumption)] | rw [if_neg (by assumption)]) (by rw [nq6, nOp]; first | rw [if_pos (by assumption)] | rw [if_neg (by assumption)]) ?_
            refine g_istore fx dX11_readSack_135 (by decide) rfl rfl ?_
            refine g_aload_n fx dX11_readSack_137 rfl ?_
            refine g_geti fx dX11_readSack_138 fk_RX11_120 (by decide) o_223 ?_
            refine g_if_eq (tgt := 145) fx dX11_readSack_141 (by decide) (fun h141 => ?_) (fun h141 => ?_)
            · refine g_aload_n fx dX11_readSack_145 rfl ?_
              refine g_getr fx dX11_readSack_146 fk_RX11_13 o_223 rf_223_1 ?_
              refine g_iload_n fx dX11_readSack_149 rfl ?_
              refine g_iconst fx dX11_readSack_150 (by unfold okI; omega) ?_
              refine g_iadd fx dX11_readSack_151 ?_
              refine gw_cgt rfl (wr_id (show okI (20 + 7 * σ 225 4 + 0) by unfold okI; omega)) ?_
              refine g_iload_n fx dX11_readSack_152 rfl ?_
              refine g_iast fx dX11_readSack_153 o_225 (by omega) (by show _ < ((672 : Nat) : Int); omega) ?_
              refine gw_cg (σ' := nz1 σ) rfl rfl ?_
              refine g_aload_n fx dX11_readSack_154 rfl ?_
              refine g_getr fx dX11_readSack_155 fk_RX11_13 o_223 rf_223_1 ?_
              refine g_iload_n fx dX11_readSack_158 rfl ?_
              refine g_iconst fx dX11_readSack_159 (by unfold okI; omega) ?_
              refine g_iadd fx dX11_readSack_160 ?_
              refine gw_cgt rfl (wr_id (show okI (20 + 7 * σ 225 4 + 1) by unfold okI; omega)) ?_
              refine g_iload_n fx dX11_readSack_161 rfl ?_
              refine g_iast fx dX11_readSack_162 o_225 (by omega) (by show _ < ((672 : Nat) : Int); omega) ?_
              refine gw_cg (σ' := nz2 σ) rfl rfl ?_
              refine g_aload_n fx dX11_readSack_163 rfl ?_
              refine g_getr fx dX11_readSack_164 fk_RX11_13 o_223 rf_223_1 ?_
              refine g_iload_n fx dX11_readSack_167 rfl ?_
              refine g_iconst fx dX11_readSack_168 (by unfold okI; omega) ?_
              refine g_iadd fx dX11_readSack_169 ?_
              refine gw_cgt rfl (wr_id (show okI (20 + 7 * σ 225 4 + 2) by unfold okI; omega)) ?_
              refine g_iload fx dX11_readSack_170 rfl ?_
              refine g_iast fx dX11_readSack_172 o_225 (by omega) (by show _ < ((672 : Nat) : Int); omega) ?_
              refine gw_cg (σ' := nz3 σ) rfl rfl ?_
              refine g_aload_n fx dX11_readSack_173 rfl ?_
              refine g_getr fx dX11_readSack_174 fk_RX11_13 o_223 rf_223_1 ?_
              refine g_iload_n fx dX11_readSack_177 rfl ?_
              refine g_iconst fx dX11_readSack_178 (by unfold okI; omega) ?_
              refine g_iadd fx dX11_readSack_179 ?_
              refine gw_cgt rfl (wr_id (show okI (20 + 7 * σ 225 4 + 3) by unfold okI; omega)) ?_
              refine g_iload fx dX11_readSack_180 rfl ?_
              refine g_iast fx dX11_readSack_182 o_225 (by omega) (by show _ < ((672 : Nat) : Int); omega) ?_
              refine gw_cg (σ' := nz4 σ) rfl rfl ?_
              refine g_aload_n fx dX11_readSack_183 rfl ?_
              refine g_getr fx dX11_readSack_184 fk_RX11_13 o_223 rf_223_1 ?_
              refine g_iload_n fx dX11_readSack_187 rfl ?_
              refine g_iconst fx dX11_readSack_188 (by unfold okI; omega) ?_
              refine g_iadd fx dX11_readSack_189 ?_
              refine gw_cgt rfl (wr_id (show okI (20 + 7 * σ 225 4 + 4) by unfold okI; omega)) ?_
              refine g_iload fx dX11_readSack_190 rfl ?_
              refine g_iast fx dX11_readSack_192 o_225 (by omega) (by show _ < ((672 : Nat) : Int); omega) ?_
              refine gw_cg (σ' := nz5 σ) rfl rfl ?_
              refine g_aload_n fx dX11_readSack_193 rfl ?_
              refine g_getr fx dX11_readSack_194 fk_RX11_13 o_223 rf_223_1 ?_
              refine g_iload_n fx dX11_readSack_197 rfl ?_
              refine g_iconst fx dX11_readSack_198 (by unfold okI; omega) ?_
              refine g_iadd fx dX11_readSack_199 ?_
              refine gw_cgt rfl (wr_id (show okI (20 + 7 * σ 225 4 + 5) by unfold okI; omega)) ?_
              refine g_iload fx dX11_readSack_200 rfl ?_
              refine g_iast fx dX11_readSack_202 o_225 (by omega) (by show _ < ((672 : Nat) : Int); omega) ?_
              refine gw_cg (σ' := nz6 σ) rfl rfl ?_
              refine g_aload_n fx dX11_readSack_203 rfl ?_
              refine g_getr fx dX11_readSack_204 fk_RX11_13 o_223 rf_223_1 ?_
              refine g_iload_n fx dX11_readSack_207 rfl ?_
              refine g_bipush fx dX11_readSack_208 (by decide) ?_
              refine g_iadd fx dX11_readSack_210 ?_
              refine gw_cgt rfl (wr_id (show okI (20 + 7 * σ 225 4 + 6) by unfold okI; omega)) ?_
              refine g_iconst fx dX11_readSack_211 (by unfold okI; omega) ?_
              refine g_iast fx dX11_readSack_212 o_225 (by omega) (by show _ < ((672 : Nat) : Int); omega) ?_
              refine gw_cg (σ' := nz7 σ) rfl rfl ?_
              refine g_aload_n fx dX11_readSack_213 rfl ?_
              refine g_getr fx dX11_readSack_214 fk_RX11_13 o_223 rf_223_1 ?_
              refine g_sipush fx dX11_readSack_217 (by decide) ?_
              refine g_aload_n fx dX11_readSack_220 rfl ?_
              refine g_getr fx dX11_readSack_221 fk_RX11_13 o_223 rf_223_1 ?_
              refine g_iconst fx dX11_readSack_224 (by unfold okI; omega) ?_
              refine g_iald fx dX11_readSack_225 o_225 (by decide) (by decide) ?_
              rw [show Int.toNat 4 = 4 from rfl]
              rw [nz7_4 σ hF.1]
              refine g_iadd fx dX11_readSack_226 ?_
              refine gw_cgt rfl (wr_id (show okI (608 + σ 225 4) by unfold okI; omega)) ?_
              refine g_iload_n fx dX11_readSack_227 rfl ?_
              refine g_iast fx dX11_readSack_228 o_225 (by omega) (by show _ < ((672 : Nat) : Int); omega) ?_
              refine gw_cg (σ' := nz8 σ) rfl rfl ?_
              refine g_aload_n fx dX11_readSack_229 rfl ?_
              refine g_getr fx dX11_readSack_230 fk_RX11_13 o_223 rf_223_1 ?_
              refine g_iconst fx dX11_readSack_233 (by unfold okI; omega) ?_
              refine g_dup2 fx dX11_readSack_234 rfl rfl ?_
              refine g_iald fx dX11_readSack_235 o_225 (by decide) (by decide) ?_
              refine g_iconst fx dX11_readSack_236 (by unfold okI; omega) ?_
              refine g_iadd fx dX11_readSack_237 ?_
              refine g_iast fx dX11_readSack_238 o_225 (by decide) (by decide) ?_
              refine gw_cg (σ' := nz9 σ) rfl rfl ?_
              refine g_aload_n fx dX11_readSack_239 rfl ?_
              refine g_getr fx dX11_readSack_240 fk_RX11_13 o_223 rf_223_1 ?_
              refine g_sipush fx dX11_readSack_243 (by decide) ?_
              refine g_dup2 fx dX11_readSack_246 rfl rfl ?_
              refine g_iald fx dX11_readSack_247 o_225 (by decide) (by decide) ?_
              refine g_iconst fx dX11_readSack_248 (by unfold okI; omega) ?_
              refine g_iadd fx dX11_readSack_249 ?_
              refine g_iast fx dX11_readSack_250 o_225 (by decide) (by decide) ?_
              exact g_vret fx rfl dX11_readSack_251 (by decide) (by decide) (gw_le.rf _) ⟨rfl, rfl, by rw [nSk]; (repeat first | rw [if_pos (by omega)] | rw [if_neg (by omega)]) <;> rfl⟩
            · exact g_vret fx rfl dX11_readSack_144 (by decide) (by decide) (gw_le.rf _) ⟨rfl, rfl, by rw [nSk]; (repeat first | rw [if_pos (by omega)] | rw [if_neg (by omega)]) <;> rfl⟩
    · exact g_vret fx rfl dX11_readSack_23 (by decide) (by decide) (gw_le.rf _) ⟨rfl, rfl, by rw [nSk]; (repeat first | rw [if_pos (by omega)] | rw [if_neg (by omega)]) <;> rfl⟩
