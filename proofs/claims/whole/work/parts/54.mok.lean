theorem dX11_sackOf_0 : gw_dc cX11_sackOf 0 (.iconst 0) 1 1 := ⟨by decide +kernel, rfl⟩
theorem dX11_sackOf_1 : gw_dc cX11_sackOf 1 (.istore_n 2) 1 2 := ⟨by decide +kernel, rfl⟩
theorem dX11_sackOf_2 : gw_dc cX11_sackOf 2 (.iload_n 1) 1 3 := ⟨by decide +kernel, rfl⟩
theorem dX11_sackOf_3 : gw_dc cX11_sackOf 3 (.istore_n 3) 1 4 := ⟨by decide +kernel, rfl⟩
theorem dX11_sackOf_4 : gw_dc cX11_sackOf 4 (.iload_n 3) 1 5 := ⟨by decide +kernel, rfl⟩
theorem dX11_sackOf_5 : gw_dc cX11_sackOf 5 (.aload_n 0) 1 6 := ⟨by decide +kernel, rfl⟩
theorem dX11_sackOf_6 : gw_dc cX11_sackOf 6 (.iload_n 2) 1 7 := ⟨by decide +kernel, rfl⟩
theorem dX11_sackOf_7 : gw_dc cX11_sackOf 7 (.bipush 6) 2 9 := ⟨by decide +kernel, rfl⟩
theorem dX11_sackOf_9 : gw_dc cX11_sackOf 9 (.invokevirtual 242) 3 12 := ⟨by decide +kernel, rfl⟩
theorem dX11_sackOf_12 : gw_dc cX11_sackOf 12 (.if_icmp .lt 19) 3 15 := ⟨by decide +kernel, rfl⟩
theorem dX11_sackOf_31 : gw_dc cX11_sackOf 31 (.iload_n 2) 1 32 := ⟨by decide +kernel, rfl⟩
theorem dX11_sackOf_32 : decode cX11_sackOf 32 = .ok (.ireturn, 1) := by decide +kernel
theorem dX11_sackOf_15 : gw_dc cX11_sackOf 15 (.iload_n 3) 1 16 := ⟨by decide +kernel, rfl⟩
theorem dX11_sackOf_16 : gw_dc cX11_sackOf 16 (.aload_n 0) 1 17 := ⟨by decide +kernel, rfl⟩
theorem dX11_sackOf_17 : gw_dc cX11_sackOf 17 (.iload_n 2) 1 18 := ⟨by decide +kernel, rfl⟩
theorem dX11_sackOf_18 : gw_dc cX11_sackOf 18 (.bipush 6) 2 20 := ⟨by decide +kernel, rfl⟩
theorem dX11_sackOf_20 : gw_dc cX11_sackOf 20 (.invokevirtual 242) 3 23 := ⟨by decide +kernel, rfl⟩
theorem dX11_sackOf_23 : gw_dc cX11_sackOf 23 (.isub) 1 24 := ⟨by decide +kernel, rfl⟩
theorem dX11_sackOf_24 : gw_dc cX11_sackOf 24 (.istore_n 3) 1 25 := ⟨by decide +kernel, rfl⟩
theorem dX11_sackOf_25 : gw_dc cX11_sackOf 25 (.iinc 2 1) 3 28 := ⟨by decide +kernel, rfl⟩
theorem dX11_sackOf_28 : gw_dc cX11_sackOf 28 (.goto (-24)) 3 31 := ⟨by decide +kernel, rfl⟩
theorem dX11_dueOf_0 : gw_dc cX11_dueOf 0 (.aload_n 0) 1 1 := ⟨by decide +kernel, rfl⟩
theorem dX11_dueOf_1 : gw_dc cX11_dueOf 1 (.aload_n 0) 1 2 := ⟨by decide +kernel, rfl⟩
theorem dX11_dueOf_2 : gw_dc cX11_dueOf 2 (.getfield 36) 3 5 := ⟨by decide +kernel, rfl⟩
theorem dX11_dueOf_5 : gw_dc cX11_dueOf 5 (.iload_n 1) 1 6 := ⟨by decide +kernel, rfl⟩
theorem dX11_dueOf_6 : gw_dc cX11_dueOf 6 (.iaload) 1 7 := ⟨by decide +kernel, rfl⟩
theorem dX11_dueOf_7 : gw_dc cX11_dueOf 7 (.iconst 5) 1 8 := ⟨by decide +kernel, rfl⟩
theorem dX11_dueOf_8 : gw_dc cX11_dueOf 8 (.invokevirtual 242) 3 11 := ⟨by decide +kernel, rfl⟩
theorem dX11_dueOf_11 : gw_dc cX11_dueOf 11 (.istore_n 2) 1 12 := ⟨by decide +kernel, rfl⟩
theorem dX11_dueOf_12 : gw_dc cX11_dueOf 12 (.iload_n 2) 1 13 := ⟨by decide +kernel, rfl⟩
theorem dX11_dueOf_13 : gw_dc cX11_dueOf 13 (.iconst (-1)) 1 14 := ⟨by decide +kernel, rfl⟩
theorem dX11_dueOf_14 : gw_dc cX11_dueOf 14 (.if_icmp .ne 9) 3 17 := ⟨by decide +kernel, rfl⟩
theorem dX11_dueOf_23 : gw_dc cX11_dueOf 23 (.iload_n 2) 1 24 := ⟨by decide +kernel, rfl⟩
theorem dX11_dueOf_24 : decode cX11_dueOf 24 = .ok (.ireturn, 1) := by decide +kernel
theorem dX11_dueOf_17 : gw_dc cX11_dueOf 17 (.ldc_w 276) 3 20 := ⟨by decide +kernel, rfl⟩
theorem kc_RX11_276 : Cond.constant RX11 276 (Int32.ofInt 1000000) ∈ wsG := gw_mem 1765 (by decide +kernel) rfl
theorem dX11_dueOf_20 : gw_dc cX11_dueOf 20 (.goto 4) 3 23 := ⟨by decide +kernel, rfl⟩
theorem dX11_byKey_0 : gw_dc cX11_byKey 0 (.aload_n 0) 1 1 := ⟨by decide +kernel, rfl⟩
theorem dX11_byKey_1 : gw_dc cX11_byKey 1 (.getfield 36) 3 4 := ⟨by decide +kernel, rfl⟩
theorem dX11_byKey_4 : gw_dc cX11_byKey 4 (.iload_n 2) 1 5 := ⟨by decide +kernel, rfl⟩
theorem dX11_byKey_5 : gw_dc cX11_byKey 5 (.iaload) 1 6 := ⟨by decide +kernel, rfl⟩
theorem dX11_byKey_6 : gw_dc cX11_byKey 6 (.istore 5) 2 8 := ⟨by decide +kernel, rfl⟩
theorem dX11_byKey_8 : gw_dc cX11_byKey 8 (.aload_n 0) 1 9 := ⟨by decide +kernel, rfl⟩
theorem dX11_byKey_9 : gw_dc cX11_byKey 9 (.getfield 36) 3 12 := ⟨by decide +kernel, rfl⟩
theorem dX11_byKey_12 : gw_dc cX11_byKey 12 (.iload_n 3) 1 13 := ⟨by decide +kernel, rfl⟩
theorem dX11_byKey_13 : gw_dc cX11_byKey 13 (.iaload) 1 14 := ⟨by decide +kernel, rfl⟩
theorem dX11_byKey_14 : gw_dc cX11_byKey 14 (.istore 6) 2 16 := ⟨by decide +kernel, rfl⟩
theorem dX11_byKey_16 : gw_dc cX11_byKey 16 (.iload_n 1) 1 17 := ⟨by decide +kernel, rfl⟩
theorem dX11_byKey_17 : decode cX11_byKey 17 = .ok (.tableswitch 165 0 6 #[43, 55, 67, 83, 99, 127, 139], 43) := by decide +kernel
theorem dX11_byKey_60 : gw_dc cX11_byKey 60 (.aload_n 0) 1 61 := ⟨by decide +kernel, rfl⟩
theorem dX11_byKey_61 : gw_dc cX11_byKey 61 (.iload_n 3) 1 62 := ⟨by decide +kernel, rfl⟩
theorem dX11_byKey_62 : gw_dc cX11_byKey 62 (.invokevirtual 277) 3 65 := ⟨by decide +kernel, rfl⟩
theorem mv_RX11_277 : gw_mv RX11 277 yX11_small := ⟨gw_mem 1753 (by decide +kernel) rfl, gw_mem 1755 (by decide +kernel) rfl, gw_mem 69 (by decide +kernel) rfl⟩
theorem my_X11_small : gw_my yX11_small cX11_small 2 (some .int) 1 := ⟨gw_mem 1756 (by decide +kernel) rfl, gw_mem 106 (by decide +kernel) rfl, by decide +kernel, by decide⟩
theorem dX11_byKey_65 : gw_dc cX11_byKey 65 (.aload_n 0) 1 66 := ⟨by decide +kernel, rfl⟩
theorem dX11_byKey_66 : gw_dc cX11_byKey 66 (.iload_n 2) 1 67 := ⟨by decide +kernel, rfl⟩
theorem dX11_byKey_67 : gw_dc cX11_byKey 67 (.invokevirtual 277) 3 70 := ⟨by decide +kernel, rfl⟩
theorem dX11_byKey_70 : gw_dc cX11_byKey 70 (.isub) 1 71 := ⟨by decide +kernel, rfl⟩
theorem dX11_byKey_71 : decode cX11_byKey 71 = .ok (.ireturn, 1) := by decide +kernel
theorem dX11_byKey_72 : gw_dc cX11_byKey 72 (.aload_n 0) 1 73 := ⟨by decide +kernel, rfl⟩
theorem dX11_byKey_73 : gw_dc cX11_byKey 73 (.iload_n 2) 1 74 := ⟨by decide +kernel, rfl⟩
theorem dX11_byKey_74 : gw_dc cX11_byKey 74 (.invokevirtual 277) 3 77 := ⟨by decide +kernel, rfl⟩
theorem dX11_byKey_77 : gw_dc cX11_byKey 77 (.aload_n 0) 1 78 := ⟨by decide +kernel, rfl⟩
theorem dX11_byKey_78 : gw_dc cX11_byKey 78 (.iload_n 3) 1 79 := ⟨by decide +kernel, rfl⟩
theorem dX11_byKey_79 : gw_dc cX11_byKey 79 (.invokevirtual 277) 3 82 := ⟨by decide +kernel, rfl⟩
theorem dX11_byKey_82 : gw_dc cX11_byKey 82 (.isub) 1 83 := ⟨by decide +kernel, rfl⟩
theorem dX11_byKey_83 : decode cX11_byKey 83 = .ok (.ireturn, 1) := by decide +kernel
theorem dX11_byKey_84 : gw_dc cX11_byKey 84 (.aload_n 0) 1 85 := ⟨by decide +kernel, rfl⟩
theorem dX11_byKey_85 : gw_dc cX11_byKey 85 (.iload 6) 2 87 := ⟨by decide +kernel, rfl⟩
theorem dX11_byKey_87 : gw_dc cX11_byKey 87 (.iconst 2) 1 88 := ⟨by decide +kernel, rfl⟩
theorem dX11_byKey_88 : gw_dc cX11_byKey 88 (.invokevirtual 242) 3 91 := ⟨by decide +kernel, rfl⟩
theorem dX11_byKey_91 : gw_dc cX11_byKey 91 (.aload_n 0) 1 92 := ⟨by decide +kernel, rfl⟩
theorem dX11_byKey_92 : gw_dc cX11_byKey 92 (.iload 5) 2 94 := ⟨by decide +kernel, rfl⟩
theorem dX11_byKey_94 : gw_dc cX11_byKey 94 (.iconst 2) 1 95 := ⟨by decide +kernel, rfl⟩
theorem dX11_byKey_95 : gw_dc cX11_byKey 95 (.invokevirtual 242) 3 98 := ⟨by decide +kernel, rfl⟩
theorem dX11_byKey_98 : gw_dc cX11_byKey 98 (.isub) 1 99 := ⟨by decide +kernel, rfl⟩
theorem dX11_byKey_99 : decode cX11_byKey 99 = .ok (.ireturn, 1) := by decide +kernel
theorem dX11_byKey_100 : gw_dc cX11_byKey 100 (.aload_n 0) 1 101 := ⟨by decide +kernel, rfl⟩
theorem dX11_byKey_101 : gw_dc cX11_byKey 101 (.iload 5) 2 103 := ⟨by decide +kernel, rfl⟩
theorem dX11_byKey_103 : gw_dc cX11_byKey 103 (.iconst 2) 1 104 := ⟨by decide +kernel, rfl⟩
theorem dX11_byKey_104 : gw_dc cX11_byKey 104 (.invokevirtual 242) 3 107 := ⟨by decide +kernel, rfl⟩
theorem dX11_byKey_107 : gw_dc cX11_byKey 107 (.aload_n 0) 1 108 := ⟨by decide +kernel, rfl⟩
theorem dX11_byKey_108 : gw_dc cX11_byKey 108 (.iload 6) 2 110 := ⟨by decide +kernel, rfl⟩
theorem dX11_byKey_110 : gw_dc cX11_byKey 110 (.iconst 2) 1 111 := ⟨by decide +kernel, rfl⟩
theorem dX11_byKey_111 : gw_dc cX11_byKey 111 (.invokevirtual 242) 3 114 := ⟨by decide +kernel, rfl⟩
theorem dX11_byKey_114 : gw_dc cX11_byKey 114 (.isub) 1 115 := ⟨by decide +kernel, rfl⟩
theorem dX11_byKey_115 : decode cX11_byKey 115 = .ok (.ireturn, 1) := by decide +kernel
theorem dX11_byKey_116 : gw_dc cX11_byKey 116 (.aload_n 0) 1 117 := ⟨by decide +kernel, rfl⟩
theorem dX11_byKey_117 : gw_dc cX11_byKey 117 (.iload 5) 2 119 := ⟨by decide +kernel, rfl⟩
theorem dX11_byKey_119 : gw_dc cX11_byKey 119 (.iconst 4) 1 120 := ⟨by decide +kernel, rfl⟩
theorem dX11_byKey_120 : gw_dc cX11_byKey 120 (.invokevirtual 242) 3 123 := ⟨by decide +kernel, rfl⟩
theorem dX11_byKey_123 : gw_dc cX11_byKey 123 (.aload_n 0) 1 124 := ⟨by decide +kernel, rfl⟩
theorem dX11_byKey_124 : gw_dc cX11_byKey 124 (.iload_n 3) 1 125 := ⟨by decide +kernel, rfl⟩
theorem dX11_byKey_125 : gw_dc cX11_byKey 125 (.invokevirtual 273) 3 128 := ⟨by decide +kernel, rfl⟩
theorem dX11_byKey_128 : gw_dc cX11_byKey 128 (.imul) 1 129 := ⟨by decide +kernel, rfl⟩
theorem dX11_byKey_129 : gw_dc cX11_byKey 129 (.aload_n 0) 1 130 := ⟨by decide +kernel, rfl⟩
theorem dX11_byKey_130 : gw_dc cX11_byKey 130 (.iload 6) 2 132 := ⟨by decide +kernel, rfl⟩
theorem dX11_byKey_132 : gw_dc cX11_byKey 132 (.iconst 4) 1 133 := ⟨by decide +kernel, rfl⟩
theorem dX11_byKey_133 : gw_dc cX11_byKey 133 (.invokevirtual 242) 3 136 := ⟨by decide +kernel, rfl⟩
theorem dX11_byKey_136 : gw_dc cX11_byKey 136 (.aload_n 0) 1 137 := ⟨by decide +kernel, rfl⟩
theorem dX11_byKey_137 : gw_dc cX11_byKey 137 (.iload_n 2) 1 138 := ⟨by decide +kernel, rfl⟩
theorem dX11_byKey_138 : gw_dc cX11_byKey 138 (.invokevirtual 273) 3 141 := ⟨by decide +kernel, rfl⟩
theorem dX11_byKey_141 : gw_dc cX11_byKey 141 (.imul) 1 142 := ⟨by decide +kernel, rfl⟩
theorem dX11_byKey_142 : gw_dc cX11_byKey 142 (.isub) 1 143 := ⟨by decide +kernel, rfl⟩
theorem dX11_byKey_143 : decode cX11_byKey 143 = .ok (.ireturn, 1) := by decide +kernel
theorem dX11_byKey_144 : gw_dc cX11_byKey 144 (.aload_n 0) 1 145 := ⟨by decide +kernel, rfl⟩
theorem dX11_byKey_145 : gw_dc cX11_byKey 145 (.iload_n 3) 1 146 := ⟨by decide +kernel, rfl⟩
theorem dX11_byKey_146 : gw_dc cX11_byKey 146 (.invokevirtual 279) 3 149 := ⟨by decide +kernel, rfl⟩
theorem mv_RX11_279 : gw_mv RX11 279 yX11_dueOf := ⟨gw_mem 1761 (by decide +kernel) rfl, gw_mem 1763 (by decide +kernel) rfl, gw_mem 71 (by decide +kernel) rfl⟩
theorem my_X11_dueOf : gw_my yX11_dueOf cX11_dueOf 3 (some .int) 1 := ⟨gw_mem 1764 (by decide +kernel) rfl, gw_mem 106 (by decide +kernel) rfl, by decide +kernel, by decide⟩
theorem dX11_byKey_149 : gw_dc cX11_byKey 149 (.aload_n 0) 1 150 := ⟨by decide +kernel, rfl⟩
theorem dX11_byKey_150 : gw_dc cX11_byKey 150 (.iload_n 2) 1 151 := ⟨by decide +kernel, rfl⟩
theorem dX11_byKey_151 : gw_dc cX11_byKey 151 (.invokevirtual 279) 3 154 := ⟨by decide +kernel, rfl⟩
theorem dX11_byKey_154 : gw_dc cX11_byKey 154 (.isub) 1 155 := ⟨by decide +kernel, rfl⟩
theorem dX11_byKey_155 : decode cX11_byKey 155 = .ok (.ireturn, 1) := by decide +kernel
theorem dX11_byKey_156 : gw_dc cX11_byKey 156 (.aload_n 0) 1 157 := ⟨by decide +kernel, rfl⟩
theorem dX11_byKey_157 : gw_dc cX11_byKey 157 (.getfield 57) 3 160 := ⟨by decide +kernel, rfl⟩
theorem fk_RX11_57 : gw_fk RX11 57 11 25 42 1 true := ⟨_, _, _, ck_11, by decide, by decide, fun h => absurd h (by decide), fun h => absurd h (by decide), fun _ => Or.inr ⟨_, rfl⟩, rfl, Or.inl (gw_mem 1446 (by decide +kernel) rfl)⟩
theorem rf_223_25 {ad : Nat → Nat} : (gw_M0 ad).2.2 223 25 = some 238 := (by decide +kernel : gw_rh 223 25 = some 238)
theorem dX11_byKey_160 : gw_dc cX11_byKey 160 (.aload_n 0) 1 161 := ⟨by decide +kernel, rfl⟩
theorem dX11_byKey_161 : gw_dc cX11_byKey 161 (.iload 6) 2 163 := ⟨by decide +kernel, rfl⟩
theorem dX11_byKey_163 : gw_dc cX11_byKey 163 (.iconst 1) 1 164 := ⟨by decide +kernel, rfl⟩
theorem dX11_byKey_164 : gw_dc cX11_byKey 164 (.invokevirtual 242) 3 167 := ⟨by decide +kernel, rfl⟩
theorem dX11_byKey_167 : gw_dc cX11_byKey 167 (.iaload) 1 168 := ⟨by decide +kernel, rfl⟩
theorem o_238 {ad : Nat → Nat} : isO (gw_M0 ad) 238 21 8 := (by decide +kernel : 238 < gw_N0 ∧ gw_sh 238 = (21, 8))
theorem dX11_byKey_168 : gw_dc cX11_byKey 168 (.aload_n 0) 1 169 := ⟨by decide +kernel, rfl⟩
theorem dX11_byKey_169 : gw_dc cX11_byKey 169 (.getfield 57) 3 172 := ⟨by decide +kernel, rfl⟩
theorem dX11_byKey_172 : gw_dc cX11_byKey 172 (.aload_n 0) 1 173 := ⟨by decide +kernel, rfl⟩
theorem dX11_byKey_173 : gw_dc cX11_byKey 173 (.iload 5) 2 175 := ⟨by decide +kernel, rfl⟩
theorem dX11_byKey_175 : gw_dc cX11_byKey 175 (.iconst 1) 1 176 := ⟨by decide +kernel, rfl⟩
theorem dX11_byKey_176 : gw_dc cX11_byKey 176 (.invokevirtual 242) 3 179 := ⟨by decide +kernel, rfl⟩
theorem dX11_byKey_179 : gw_dc cX11_byKey 179 (.iaload) 1 180 := ⟨by decide +kernel, rfl⟩
theorem dX11_byKey_180 : gw_dc cX11_byKey 180 (.isub) 1 181 := ⟨by decide +kernel, rfl⟩
theorem dX11_byKey_181 : decode cX11_byKey 181 = .ok (.ireturn, 1) := by decide +kernel
theorem dX11_byKey_182 : gw_dc cX11_byKey 182 (.aload_n 0) 1 183 := ⟨by decide +kernel, rfl⟩
theorem dX11_byKey_183 : gw_dc cX11_byKey 183 (.iload 5) 2 185 := ⟨by decide +kernel, rfl⟩
theorem dX11_byKey_185 : gw_dc cX11_byKey 185 (.iconst 3) 1 186 := ⟨by decide +kernel, rfl⟩
theorem dX11_byKey_186 : gw_dc cX11_byKey 186 (.invokevirtual 242) 3 189 := ⟨by decide +kernel, rfl⟩
theorem dX11_byKey_189 : gw_dc cX11_byKey 189 (.iload 4) 2 191 := ⟨by decide +kernel, rfl⟩
theorem dX11_byKey_191 : gw_dc cX11_byKey 191 (.if_icmp .ne 7) 3 194 := ⟨by decide +kernel, rfl⟩
theorem dX11_byKey_198 : gw_dc cX11_byKey 198 (.iconst 0) 1 199 := ⟨by decide +kernel, rfl⟩
theorem dX11_byKey_199 : gw_dc cX11_byKey 199 (.aload_n 0) 1 200 := ⟨by decide +kernel, rfl⟩
theorem dX11_byKey_200 : gw_dc cX11_byKey 200 (.iload 6) 2 202 := ⟨by decide +kernel, rfl⟩
theorem dX11_byKey_202 : gw_dc cX11_byKey 202 (.iconst 3) 1 203 := ⟨by decide +kernel, rfl⟩
theorem dX11_byKey_203 : gw_dc cX11_byKey 203 (.invokevirtual 242) 3 206 := ⟨by decide +kernel, rfl⟩
theorem dX11_byKey_206 : gw_dc cX11_byKey 206 (.iload 4) 2 208 := ⟨by decide +kernel, rfl⟩
theorem dX11_byKey_208 : gw_dc cX11_byKey 208 (.if_icmp .ne 7) 3 211 := ⟨by decide +kernel, rfl⟩
theorem dX11_byKey_215 : gw_dc cX11_byKey 215 (.iconst 0) 1 216 := ⟨by decide +kernel, rfl⟩
theorem dX11_byKey_216 : gw_dc cX11_byKey 216 (.isub) 1 217 := ⟨by decide +kernel, rfl⟩
theorem dX11_byKey_217 : decode cX11_byKey 217 = .ok (.ireturn, 1) := by decide +kernel
theorem dX11_byKey_211 : gw_dc cX11_byKey 211 (.iconst 1) 1 212 := ⟨by decide +kernel, rfl⟩
theorem dX11_byKey_212 : gw_dc cX11_byKey 212 (.goto 4) 3 215 := ⟨by decide +kernel, rfl⟩
theorem dX11_byKey_194 : gw_dc cX11_byKey 194 (.iconst 1) 1 195 := ⟨by decide +kernel, rfl⟩
theorem dX11_byKey_195 : gw_dc cX11_byKey 195 (.goto 4) 3 198 := ⟨by decide +kernel, rfl⟩
theorem dX11_isAhead_0 : gw_dc cX11_isAhead 0 (.iconst 0) 1 1 := ⟨by decide +kernel, rfl⟩
theorem dX11_isAhead_1 : gw_dc cX11_isAhead 1 (.istore 4) 2 3 := ⟨by decide +kernel, rfl⟩
theorem dX11_isAhead_3 : gw_dc cX11_isAhead 3 (.iload 4) 2 5 := ⟨by decide +kernel, rfl⟩
theorem dX11_isAhead_5 : gw_dc cX11_isAhead 5 (.aload_n 0) 1 6 := ⟨by decide +kernel, rfl⟩
theorem dX11_isAhead_6 : gw_dc cX11_isAhead 6 (.getfield 9) 3 9 := ⟨by decide +kernel, rfl⟩
theorem dX11_isAhead_9 : gw_dc cX11_isAhead 9 (.bipush 8) 2 11 := ⟨by decide +kernel, rfl⟩
theorem dX11_isAhead_11 : gw_dc cX11_isAhead 11 (.iaload) 1 12 := ⟨by decide +kernel, rfl⟩
theorem dX11_isAhead_12 : gw_dc cX11_isAhead 12 (.if_icmp .ge 44) 3 15 := ⟨by decide +kernel, rfl⟩
theorem dX11_isAhead_56 : gw_dc cX11_isAhead 56 (.iload_n 1) 1 57 := ⟨by decide +kernel, rfl⟩
theorem dX11_isAhead_57 : gw_dc cX11_isAhead 57 (.iload_n 2) 1 58 := ⟨by decide +kernel, rfl⟩
theorem dX11_isAhead_58 : gw_dc cX11_isAhead 58 (.if_icmp .ge 7) 3 61 := ⟨by decide +kernel, rfl⟩
theorem dX11_isAhead_65 : gw_dc cX11_isAhead 65 (.iconst 0) 1 66 := ⟨by decide +kernel, rfl⟩
theorem dX11_isAhead_66 : decode cX11_isAhead 66 = .ok (.ireturn, 1) := by decide +kernel
theorem dX11_isAhead_61 : gw_dc cX11_isAhead 61 (.iconst 1) 1 62 := ⟨by decide +kernel, rfl⟩
theorem dX11_isAhead_62 : gw_dc cX11_isAhead 62 (.goto 4) 3 65 := ⟨by decide +kernel, rfl⟩
theorem dX11_isAhead_15 : gw_dc cX11_isAhead 15 (.aload_n 0) 1 16 := ⟨by decide +kernel, rfl⟩
theorem dX11_isAhead_16 : gw_dc cX11_isAhead 16 (.aload_n 0) 1 17 := ⟨by decide +kernel, rfl⟩
theorem dX11_isAhead_17 : gw_dc cX11_isAhead 17 (.getfield 9) 3 20 := ⟨by decide +kernel, rfl⟩
theorem dX11_isAhead_20 : gw_dc cX11_isAhead 20 (.bipush 9) 2 22 := ⟨by decide +kernel, rfl⟩
theorem dX11_isAhead_22 : gw_dc cX11_isAhead 22 (.iload 4) 2 24 := ⟨by decide +kernel, rfl⟩
theorem dX11_isAhead_24 : gw_dc cX11_isAhead 24 (.iadd) 1 25 := ⟨by decide +kernel, rfl⟩
theorem dX11_isAhead_25 : gw_dc cX11_isAhead 25 (.iaload) 1 26 := ⟨by decide +kernel, rfl⟩
theorem dX11_isAhead_26 : gw_dc cX11_isAhead 26 (.iload_n 1) 1 27 := ⟨by decide +kernel, rfl⟩
theorem dX11_isAhead_27 : gw_dc cX11_isAhead 27 (.iload_n 2) 1 28 := ⟨by decide +kernel, rfl⟩
theorem dX11_isAhead_28 : gw_dc cX11_isAhead 28 (.iload_n 3) 1 29 := ⟨by decide +kernel, rfl⟩
theorem dX11_isAhead_29 : gw_dc cX11_isAhead 29 (.invokevirtual 282) 3 32 := ⟨by decide +kernel, rfl⟩
theorem mv_RX11_282 : gw_mv RX11 282 yX11_byKey := ⟨gw_mem 1749 (by decide +kernel) rfl, gw_mem 1751 (by decide +kernel) rfl, gw_mem 68 (by decide +kernel) rfl⟩
theorem my_X11_byKey : gw_my yX11_byKey cX11_byKey 7 (some .int) 4 := ⟨gw_mem 1752 (by decide +kernel) rfl, gw_mem 106 (by decide +kernel) rfl, by decide +kernel, by decide⟩
theorem dX11_isAhead_32 : gw_dc cX11_isAhead 32 (.istore 5) 2 34 := ⟨by decide +kernel, rfl⟩
theorem dX11_isAhead_34 : gw_dc cX11_isAhead 34 (.iload 5) 2 36 := ⟨by decide +kernel, rfl⟩
theorem dX11_isAhead_36 : gw_dc cX11_isAhead 36 (.ifCond .eq 14) 3 39 := ⟨by decide +kernel, rfl⟩
theorem dX11_isAhead_50 : gw_dc cX11_isAhead 50 (.iinc 4 1) 3 53 := ⟨by decide +kernel, rfl⟩
theorem dX11_isAhead_53 : gw_dc cX11_isAhead 53 (.goto (-50)) 3 56 := ⟨by decide +kernel, rfl⟩
theorem dX11_isAhead_39 : gw_dc cX11_isAhead 39 (.iload 5) 2 41 := ⟨by decide +kernel, rfl⟩
theorem dX11_isAhead_41 : gw_dc cX11_isAhead 41 (.ifCond .le 7) 3 44 := ⟨by decide +kernel, rfl⟩
theorem dX11_isAhead_48 : gw_dc cX11_isAhead 48 (.iconst 0) 1 49 := ⟨by decide +kernel, rfl⟩
theorem dX11_isAhead_49 : decode cX11_isAhead 49 = .ok (.ireturn, 1) := by decide +kernel
theorem dX11_isAhead_44 : gw_dc cX11_isAhead 44 (.iconst 1) 1 45 := ⟨by decide +kernel, rfl⟩
theorem dX11_isAhead_45 : gw_dc cX11_isAhead 45 (.goto 4) 3 48 := ⟨by decide +kernel, rfl⟩
theorem dX11_forgets_0 : gw_dc cX11_forgets 0 (.aload_n 0) 1 1 := ⟨by decide +kernel, rfl⟩
theorem dX11_forgets_1 : gw_dc cX11_forgets 1 (.iconst 0) 1 2 := ⟨by decide +kernel, rfl⟩
theorem dX11_forgets_2 : gw_dc cX11_forgets 2 (.putfield 286) 3 5 := ⟨by decide +kernel, rfl⟩
theorem fk_RX11_286 : gw_fk RX11 286 11 27 42 0 false := ⟨_, _, _, ck_11, by decide, by decide, fun _ => rfl, fun h => absurd h (by decide), fun h => absurd h (by decide), rfl, Or.inl (gw_mem 1448 (by decide +kernel) rfl)⟩
theorem dX11_forgets_5 : gw_dc cX11_forgets 5 (.aload_n 0) 1 6 := ⟨by decide +kernel, rfl⟩
theorem dX11_forgets_6 : gw_dc cX11_forgets 6 (.iconst 0) 1 7 := ⟨by decide +kernel, rfl⟩
theorem dX11_forgets_7 : gw_dc cX11_forgets 7 (.putfield 289) 3 10 := ⟨by decide +kernel, rfl⟩
theorem fk_RX11_289 : gw_fk RX11 289 11 28 42 0 false := ⟨_, _, _, ck_11, by decide, by decide, fun _ => rfl, fun h => absurd h (by decide), fun h => absurd h (by decide), rfl, Or.inl (gw_mem 1449 (by decide +kernel) rfl)⟩
theorem dX11_forgets_10 : gw_dc cX11_forgets 10 (.iconst 0) 1 11 := ⟨by decide +kernel, rfl⟩
theorem dX11_forgets_11 : gw_dc cX11_forgets 11 (.istore_n 1) 1 12 := ⟨by decide +kernel, rfl⟩
theorem dX11_forgets_12 : gw_dc cX11_forgets 12 (.iload_n 1) 1 13 := ⟨by decide +kernel, rfl⟩
theorem dX11_forgets_13 : gw_dc cX11_forgets 13 (.bipush 8) 2 15 := ⟨by decide +kernel, rfl⟩
theorem dX11_forgets_15 : gw_dc cX11_forgets 15 (.if_icmp .ge 16) 3 18 := ⟨by decide +kernel, rfl⟩
theorem dX11_forgets_31 : gw_dc cX11_forgets 31 (.iconst 0) 1 32 := ⟨by decide +kernel, rfl⟩
theorem dX11_forgets_32 : gw_dc cX11_forgets 32 (.istore_n 1) 1 33 := ⟨by decide +kernel, rfl⟩
theorem dX11_forgets_33 : gw_dc cX11_forgets 33 (.iload_n 1) 1 34 := ⟨by decide +kernel, rfl⟩
theorem dX11_forgets_34 : gw_dc cX11_forgets 34 (.iconst 3) 1 35 := ⟨by decide +kernel, rfl⟩
theorem dX11_forgets_35 : gw_dc cX11_forgets 35 (.if_icmp .ge 23) 3 38 := ⟨by decide +kernel, rfl⟩
theorem dX11_forgets_58 : gw_dc cX11_forgets 58 (.iconst 0) 1 59 := ⟨by decide +kernel, rfl⟩
theorem dX11_forgets_59 : gw_dc cX11_forgets 59 (.istore_n 1) 1 60 := ⟨by decide +kernel, rfl⟩
theorem dX11_forgets_60 : gw_dc cX11_forgets 60 (.iload_n 1) 1 61 := ⟨by decide +kernel, rfl⟩
theorem dX11_forgets_61 : gw_dc cX11_forgets 61 (.aload_n 0) 1 62 := ⟨by decide +kernel, rfl⟩
theorem dX11_forgets_62 : gw_dc cX11_forgets 62 (.getfield 9) 3 65 := ⟨by decide +kernel, rfl⟩
theorem dX11_forgets_65 : gw_dc cX11_forgets 65 (.sipush 668) 3 68 := ⟨by decide +kernel, rfl⟩
theorem dX11_forgets_68 : gw_dc cX11_forgets 68 (.iaload) 1 69 := ⟨by decide +kernel, rfl⟩
theorem dX11_forgets_69 : gw_dc cX11_forgets 69 (.if_icmp .ge 27) 3 72 := ⟨by decide +kernel, rfl⟩
theorem dX11_forgets_96 : decode cX11_forgets 96 = .ok (.return_, 1) := by decide +kernel
theorem dX11_forgets_72 : gw_dc cX11_forgets 72 (.aload_n 0) 1 73 := ⟨by decide +kernel, rfl⟩
theorem dX11_forgets_73 : gw_dc cX11_forgets 73 (.getfield 39) 3 76 := ⟨by decide +kernel, rfl⟩
theorem fk_RX11_39 : gw_fk RX11 39 11 19 42 1 true := ⟨_, _, _, ck_11, by decide, by decide, fun h => absurd h (by decide), fun h => absurd h (by decide), fun _ => Or.inr ⟨_, rfl⟩, rfl, Or.inl (gw_mem 1440 (by decide +kernel) rfl)⟩
theorem rf_223_19 {ad : Nat → Nat} : (gw_M0 ad).2.2 223 19 = some 232 := (by decide +kernel : gw_rh 223 19 = some 232)
theorem dX11_forgets_76 : gw_dc cX11_forgets 76 (.iload_n 1) 1 77 := ⟨by decide +kernel, rfl⟩
theorem dX11_forgets_77 : gw_dc cX11_forgets 77 (.iconst (-1)) 1 78 := ⟨by decide +kernel, rfl⟩
theorem dX11_forgets_78 : gw_dc cX11_forgets 78 (.iastore) 1 79 := ⟨by decide +kernel, rfl⟩
theorem o_232 {ad : Nat → Nat} : isO (gw_M0 ad) 232 21 60 := (by decide +kernel : 232 < gw_N0 ∧ gw_sh 232 = (21, 60))
theorem dX11_forgets_79 : gw_dc cX11_forgets 79 (.aload_n 0) 1 80 := ⟨by decide +kernel, rfl⟩
theorem dX11_forgets_80 : gw_dc cX11_forgets 80 (.getfield 36) 3 83 := ⟨by decide +kernel, rfl⟩
theorem dX11_forgets_83 : gw_dc cX11_forgets 83 (.iload_n 1) 1 84 := ⟨by decide +kernel, rfl⟩
theorem dX11_forgets_84 : gw_dc cX11_forgets 84 (.aload_n 0) 1 85 := ⟨by decide +kernel, rfl⟩
theorem dX11_forgets_85 : gw_dc cX11_forgets 85 (.iload_n 1) 1 86 := ⟨by decide +kernel, rfl⟩
theorem dX11_forgets_86 : gw_dc cX11_forgets 86 (.invokevirtual 292) 3 89 := ⟨by decide +kernel, rfl⟩
theorem mv_RX11_292 : gw_mv RX11 292 yX11_sackOf := ⟨gw_mem 1732 (by decide +kernel) rfl, gw_mem 1734 (by decide +kernel) rfl, gw_mem 64 (by decide +kernel) rfl⟩
theorem my_X11_sackOf : gw_my yX11_sackOf cX11_sackOf 4 (some .int) 1 := ⟨gw_mem 1735 (by decide +kernel) rfl, gw_mem 106 (by decide +kernel) rfl, by decide +kernel, by decide⟩
theorem dX11_forgets_89 : gw_dc cX11_forgets 89 (.iastore) 1 90 := ⟨by decide +kernel, rfl⟩
theorem dX11_forgets_90 : gw_dc cX11_forgets 90 (.iinc 1 1) 3 93 := ⟨by decide +kernel, rfl⟩
theorem dX11_forgets_93 : gw_dc cX11_forgets 93 (.goto (-33)) 3 96 := ⟨by decide +kernel, rfl⟩
theorem dX11_forgets_38 : gw_dc cX11_forgets 38 (.aload_n 0) 1 39 := ⟨by decide +kernel, rfl⟩
theorem dX11_forgets_39 : gw_dc cX11_forgets 39 (.getfield 51) 3 42 := ⟨by decide +kernel, rfl⟩
theorem fk_RX11_51 : gw_fk RX11 51 11 23 42 1 true := ⟨_, _, _, ck_11, by decide, by decide, fun h => absurd h (by decide), fun h => absurd h (by decide), fun _ => Or.inr ⟨_, rfl⟩, rfl, Or.inl (gw_mem 1444 (by decide +kernel) rfl)⟩
theorem rf_223_23 {ad : Nat → Nat} : (gw_M0 ad).2.2 223 23 = some 236 := (by decide +kernel : gw_rh 223 23 = some 236)
theorem dX11_forgets_42 : gw_dc cX11_forgets 42 (.iload_n 1) 1 43 := ⟨by decide +kernel, rfl⟩
theorem dX11_forgets_43 : gw_dc cX11_forgets 43 (.iconst 0) 1 44 := ⟨by decide +kernel, rfl⟩
theorem dX11_forgets_44 : gw_dc cX11_forgets 44 (.iastore) 1 45 := ⟨by decide +kernel, rfl⟩
theorem o_236 {ad : Nat → Nat} : isO (gw_M0 ad) 236 21 3 := (by decide +kernel : 236 < gw_N0 ∧ gw_sh 236 = (21, 3))
theorem dX11_forgets_45 : gw_dc cX11_forgets 45 (.aload_n 0) 1 46 := ⟨by decide +kernel, rfl⟩
theorem dX11_forgets_46 : gw_dc cX11_forgets 46 (.getfield 54) 3 49 := ⟨by decide +kernel, rfl⟩
theorem fk_RX11_54 : gw_fk RX11 54 11 24 42 1 true := ⟨_, _, _, ck_11, by decide, by decide, fun h => absurd h (by decide), fun h => absurd h (by decide), fun _ => Or.inr ⟨_, rfl⟩, rfl, Or.inl (gw_mem 1445 (by decide +kernel) rfl)⟩
theorem rf_223_24 {ad : Nat → Nat} : (gw_M0 ad).2.2 223 24 = some 237 := (by decide +kernel : gw_rh 223 24 = some 237)
theorem dX11_forgets_49 : gw_dc cX11_forgets 49 (.iload_n 1) 1 50 := ⟨by decide +kernel, rfl⟩
theorem dX11_forgets_50 : gw_dc cX11_forgets 50 (.iconst (-1)) 1 51 := ⟨by decide +kernel, rfl⟩
theorem dX11_forgets_51 : gw_dc cX11_forgets 51 (.iastore) 1 52 := ⟨by decide +kernel, rfl⟩
theorem o_237 {ad : Nat → Nat} : isO (gw_M0 ad) 237 21 3 := (by decide +kernel : 237 < gw_N0 ∧ gw_sh 237 = (21, 3))
theorem dX11_forgets_52 : gw_dc cX11_forgets 52 (.iinc 1 1) 3 55 := ⟨by decide +kernel, rfl⟩
theorem dX11_forgets_55 : gw_dc cX11_forgets 55 (.goto (-22)) 3 58 := ⟨by decide +kernel, rfl⟩
theorem dX11_forgets_18 : gw_dc cX11_forgets 18 (.aload_n 0) 1 19 := ⟨by decide +kernel, rfl⟩
theorem dX11_forgets_19 : gw_dc cX11_forgets 19 (.getfield 57) 3 22 := ⟨by decide +kernel, rfl⟩
theorem dX11_forgets_22 : gw_dc cX11_forgets 22 (.iload_n 1) 1 23 := ⟨by decide +kernel, rfl⟩
theorem dX11_forgets_23 : gw_dc cX11_forgets 23 (.iconst 0) 1 24 := ⟨by decide +kernel, rfl⟩
theorem dX11_forgets_24 : gw_dc cX11_forgets 24 (.iastore) 1 25 := ⟨by decide +kernel, rfl⟩
theorem dX11_forgets_25 : gw_dc cX11_forgets 25 (.iinc 1 1) 3 28 := ⟨by decide +kernel, rfl⟩
theorem dX11_forgets_28 : gw_dc cX11_forgets 28 (.goto (-16)) 3 31 := ⟨by decide +kernel, rfl⟩
/-! The model, 10: what the run is made of -/
set_option maxRecDepth 4000 in
theorem s_X11_sackOf (ad : Nat → Nat) (σ : Sg)  (p : Int) (hT : TW (σ 224)) (h0 : 0 ≤ p) (h1 : p < σ 224 668) : gw_Sp yX11_sackOf cX11_sackOf 4 (some .int) 2 0 0 [vR (some 223), vI p] (gw_M0 ad) σ (gw_D (some (vI (nSo σ p))) (gw_M0 ad) (σ)) gw_no := by
  refine gw_Sp.of [some (vR (some 223)), some (vI p), none, none] (by decide +kernel) rfl (Nat.le_of_ble_eq_true rfl) ?_
  intro X G fx het hnm
  have hS := hT.sacks
  have hP := hT.p60
  refine g_iconst fx dX11_sackOf_0 (by unfold okI; omega) ?_
  refine g_istore_n fx dX11_sackOf_1 (by decide) rfl rfl ?_
  refine g_iload_n fx dX11_sackOf_2 rfl ?_
  refine g_istore_n fx dX11_sackOf_3 (by decide) rfl rfl ?_
  have loop4 : ∀ s : Nat, s ≤ (σ 224 4).toNat → tPre (σ 224) s ≤ p → nSo σ p = nSoR (σ 224) (61 - s) s (p - tPre (σ 224) s) → gw_W X (yX11_sackOf.cls, cX11_sackOf, 4, (some .int), 2, 0, 0) G (gw_Z X G (gw_M0 ad) σ (gw_D (some (vI (nSo σ p))) (gw_M0 ad) (σ)) gw_no 0 0) 0 0 (gw_M0 ad) (σ) 4 [some (vR (some 223)), some (vI p), some (vI (s : Nat)), some (vI (p - tPre (σ 224) s))] [] := by
    refine up_ind _ _ (fun s hs ih => ?_)
    intro hp he
    have hlt : ((s : Nat) : Int) < σ 224 4 := by
      by_cases q : ((s : Nat) : Int) < σ 224 4
      · exact q
      · exfalso
        have h5 := hT.sum
        rw [show (σ 224 4).toNat = s by omega] at h5
        omega
    have hm : nOf σ ((s : Nat) : Int) 6 = tM (σ 224) s := nOf_n σ s (by decide)
    have hq := hT.many s hlt
    have hnn := tPre_nn hT (a := s) (by omega)
    have e9 : tPre (σ 224) (s + 1) = tPre (σ 224) s + tM (σ 224) s := rfl
    rw [show 61 - s = 60 - s + 1 by omega, nSoR] at he
    refine g_iload_n fx dX11_sackOf_4 rfl ?_
    refine g_aload_n fx dX11_sackOf_5 rfl ?_
    refine g_iload_n fx dX11_sackOf_6 rfl ?_
    refine g_bipush fx dX11_sackOf_7 (by decide) ?_
    refine g_callVD fx dX11_sackOf_9 mv_RX11_242 my_X11_of (s_X11_of ad _ _ _ (by omega)) o_223 rfl rfl rfl (Nat.le_of_ble_eq_true rfl) (by decide) (by decide) ?_
    refine g_icmp_lt (tgt := 31) fx dX11_sackOf_12 (by decide) (fun h12 => ?_) (fun h12 => ?_)
    · refine g_iload_n fx dX11_sackOf_31 rfl ?_
      exact g_iret fx rfl dX11_sackOf_32 (by decide) (by decide) (gw_le.rf _) ⟨by rw [he, if_neg (by omega)], rfl, rfl⟩
    · refine g_iload_n fx dX11_sackOf_15 rfl ?_
      refine g_aload_n fx dX11_sackOf_16 rfl ?_
      refine g_iload_n fx dX11_sackOf_17 rfl ?_
      refine g_bipush fx dX11_sackOf_18 (by decide) ?_
      refine g_callVD fx dX11_sackOf_20 mv_RX11_242 my_X11_of (s_X11_of ad _ _ _ (by omega)) o_223 rfl rfl rfl (Nat.le_of_ble_eq_true rfl) (by decide) (by decide) ?_
      refine g_isub1 fx dX11_sackOf_23 (by unfold okI; omega) ?_
      refine g_istore_n fx dX11_sackOf_24 (by decide) rfl rfl ?_
      refine g_iinc1 fx dX11_sackOf_25 (by decide) rfl rfl (by unfold okI; omega) rfl ?_
      refine g_goto (tgt := 4) fx dX11_sackOf_28 (by decide) ?_
      exact gw_cg rfl (by rw [show ((s : Nat) : Int) + 1 = ((s + 1 : Nat) : Int) by omega, hm, show p - tPre (σ 224) s - tM (σ 224) s = p - tPre (σ 224) (s + 1) by omega] <;> rfl) (ih (by omega) (by omega) (by rw [he, if_pos (by omega), show p - tPre (σ 224) s - tM (σ 224) s = p - tPre (σ 224) (s + 1) by omega, show 60 - s = 61 - (s + 1) by omega]))
  exact gw_cg rfl (by rw [show tPre (σ 224) 0 = 0 from rfl, show p - 0 = p by omega]; rfl) (loop4 0 (Nat.zero_le _) h0 (by rw [show tPre (σ 224) 0 = 0 from rfl, show p - 0 = p by omega]; rfl))
set_option maxRecDepth 4000 in
theorem s_X11_dueOf (ad : Nat → Nat) (σ : Sg)  (p : Int) (hR : RS σ) (hp : 0 ≤ p ∧ p < σ 224 668) : gw_Sp yX11_dueOf cX11_dueOf 3 (some .int) 2 0 0 [vR (some 223), vI p] (gw_M0 ad) σ (gw_D (some (vI (nDu σ p))) (gw_M0 ad) (σ)) gw_no := by
  refine gw_Sp.of [some (vR (some 223)), some (vI p), none] (by decide +kernel) rfl (Nat.le_of_ble_eq_true rfl) ?_
  intro X G fx het hnm
  have hT := hR.1
  have hS := hT.sacks
  have hP := hT.p60
  have hs := hR.so hp.1 hp.2
  refine g_aload_n fx dX11_dueOf_0 rfl ?_
  refine g_aload_n fx dX11_dueOf_1 rfl ?_
  refine g_getr fx dX11_dueOf_2 fk_RX11_36 o_223 rf_223_18 ?_
  refine g_iload_n fx dX11_dueOf_5 rfl ?_
  refine g_iald fx dX11_dueOf_6 o_231 (by omega) (by show _ < ((60 : Nat) : Int); omega) ?_
  refine g_iconst fx dX11_dueOf_7 (by unfold okI; omega) ?_
  refine g_callVD fx dX11_dueOf_8 mv_RX11_242 my_X11_of (s_X11_of ad _ _ _ (by omega)) o_223 rfl rfl rfl (Nat.le_of_ble_eq_true rfl) (by decide) (by decide) ?_
  refine g_istore_n fx dX11_dueOf_11 (by decide) rfl rfl ?_
  refine g_iload_n fx dX11_dueOf_12 rfl ?_
  refine g_iconst fx dX11_dueOf_13 (by unfold okI; omega) ?_
  refine g_icmp_ne (tgt := 23) fx dX11_dueOf_14 (by decide) (fun h14 => ?_) (fun h14 => ?_)
  · refine g_iload_n fx dX11_dueOf_23 rfl ?_
    exact g_iret fx rfl dX11_dueOf_24 (by decide) (by decide) (gw_le.rf _) ⟨by first | (exfalso; omega) | (rw [nDu]; (repeat first | rw [if_pos (by omega)] | rw [if_neg (by omega)]) <;> rfl), rfl, rfl⟩
  · refine g_ldcWI fx dX11_dueOf_17 kc_RX11_276 (by unfold okI; omega) ?_
    refine g_goto (tgt := 24) fx dX11_dueOf_20 (by decide) ?_
    exact g_iret fx rfl dX11_dueOf_24 (by decide) (by decide) (gw_le.rf _) ⟨by first | (exfalso; omega) | (rw [nDu]; (repeat first | rw [if_pos (by omega)] | rw [if_neg (by omega)]) <;> rfl), rfl, rfl⟩
set_option maxRecDepth 4000 in
theorem s_X11_byKey (ad : Nat → Nat) (σ : Sg)  (key : Int) (p : Int) (q : Int) (last : Int) (hR : RS σ) (hp : 0 ≤ p ∧ p < σ 224 668) (hq : 0 ≤ q ∧ q < σ 224 668) : gw_Sp yX11_byKey cX11_byKey 7 (some .int) 3 0 0 [vR (some 223), vI key, vI p, vI q, vI last] (gw_M0 ad) σ (gw_D (some (vI (nBk σ key p q last))) (gw_M0 ad) (σ)) gw_no := by
  refine gw_Sp.of [some (vR (some 223)), some (vI key), some (vI p), some (vI q), some (vI last), none, none] (by decide +kernel) rfl (Nat.le_of_ble_eq_true rfl) ?_
  intro X G fx het hnm
  have hT := hR.1
  have hS := hT.sacks
  have hP := hT.p60
  have hs := hR.so hp.1 hp.2
  have ht := hR.so hq.1 hq.2
  have hs1 := hT.of hs.1 hs.2
  have ht1 := hT.of ht.1 ht.2
  refine g_aload_n fx dX11_byKey_0 rfl ?_
  refine g_getr fx dX11_byKey_1 fk_RX11_36 o_223 rf_223_18 ?_
  refine g_iload_n fx dX11_byKey_4 rfl ?_
  refine g_iald fx dX11_byKey_5 o_231 (by omega) (by show _ < ((60 : Nat) : Int); omega) ?_
  refine g_istore fx dX11_byKey_6 (by decide) rfl rfl ?_
  refine g_aload_n fx dX11_byKey_8 rfl ?_
  refine g_getr fx dX11_byKey_9 fk_RX11_36 o_223 rf_223_18 ?_
  refine g_iload_n fx dX11_byKey_12 rfl ?_
  refine g_iald fx dX11_byKey_13 o_231 (by omega) (by show _ < ((60 : Nat) : Int); omega) ?_
  refine g_istore fx dX11_byKey_14 (by decide) rfl rfl ?_
  refine g_iload_n fx dX11_byKey_16 rfl ?_
  by_cases h17_0 : key = 0
  · refine g_tsw 0 (tgt := 60) fx dX11_byKey_17 (by omega) (by decide) rfl (by decide) ?_
    refine g_aload_n fx dX11_byKey_60 rfl ?_
    refine g_iload_n fx dX11_byKey_61 rfl ?_
    refine g_callVD fx dX11_byKey_62 mv_RX11_277 my_X11_small (s_X11_small ad _ _ (by omega)) o_223 rfl rfl rfl (Nat.le_of_ble_eq_true rfl) (by decide) (by decide) ?_
    refine g_aload_n fx dX11_byKey_65 rfl ?_
    refine g_iload_n fx dX11_byKey_66 rfl ?_
    refine g_callVD fx dX11_byKey_67 mv_RX11_277 my_X11_small (s_X11_small ad _ _ (by omega)) o_223 rfl rfl rfl (Nat.le_of_ble_eq_true rfl) (by decide) (by decide) ?_
    refine g_isub fx dX11_byKey_70 ?_
    exact g_iret fx rfl dX11_byKey_71 (by decide) (by decide) (gw_le.rf _) ⟨by first | (exfalso; omega) | (rw [nBk]; (repeat first | rw [if_pos (by omega)] | rw [if_neg (by omega)]) <;> rfl), rfl, rfl⟩
  by_cases h17_1 : key = 1
  · refine g_tsw 1 (tgt := 72) fx dX11_byKey_17 (by omega) (by decide) rfl (by decide) ?_
    refine g_aload_n fx dX11_byKey_72 rfl ?_
    refine g_iload_n fx dX11_byKey_73 rfl ?_
    refine g_callVD fx dX11_byKey_74 mv_RX11_277 my_X11_small (s_X11_small ad _ _ (by omega)) o_223 rfl rfl rfl (Nat.le_of_ble_eq_true rfl) (by decide) (by decide) ?_
    refine g_aload_n fx dX11_byKey_77 rfl ?_
    refine g_iload_n fx dX11_byKey_78 rfl ?_
    refine g_callVD fx dX11_byKey_79 mv_RX11_277 my_X11_small (s_X11_small ad _ _ (by omega)) o_223 rfl rfl rfl (Nat.le_of_ble_eq_true rfl) (by decide) (by decide) ?_
    refine g_isub fx dX11_byKey_82 ?_
    exact g_iret fx rfl dX11_byKey_83 (by decide) (by decide) (gw_le.rf _) ⟨by first | (exfalso; omega) | (rw [nBk]; (repeat first | rw [if_pos (by omega)] | rw [if_neg (by omega)]) <;> rfl), rfl, rfl⟩
  by_cases h17_2 : key = 2
  · refine g_tsw 2 (tgt := 84) fx dX11_byKey_17 (by omega) (by decide) rfl (by decide) ?_
    refine g_aload_n fx dX11_byKey_84 rfl ?_
    refine g_iload fx dX11_byKey_85 rfl ?_
    refine g_iconst fx dX11_byKey_87 (by unfold okI; omega) ?_
    refine g_callVD fx dX11_byKey_88 mv_RX11_242 my_X11_of (s_X11_of ad _ _ _ (by omega)) o_223 rfl rfl rfl (Nat.le_of_ble_eq_true rfl) (by decide) (by decide) ?_
    refine g_aload_n fx dX11_byKey_91 rfl ?_
    refine g_iload fx dX11_byKey_92 rfl ?_
    refine g_iconst fx dX11_byKey_94 (by unfold okI; omega) ?_
    refine g_callVD fx dX11_byKey_95 mv_RX11_242 my_X11_of (s_X11_of ad _ _ _ (by omega)) o_223 rfl rfl rfl (Nat.le_of_ble_eq_true rfl) (by decide) (by decide) ?_
    refine g_isub fx dX11_byKey_98 ?_
    exact g_iret fx rfl dX11_byKey_99 (by decide) (by decide) (gw_le.rf _) ⟨by first | (exfalso; omega) | (rw [nBk]; (repeat first | rw [if_pos (by omega)] | rw [if_neg (by omega)]) <;> rfl), rfl, rfl⟩
  by_cases h17_3 : key = 3
  · refine g_tsw 3 (tgt := 100) fx dX11_byKey_17 (by omega) (by decide) rfl (by decide) ?_
    refine g_aload_n fx dX11_byKey_100 rfl ?_
    refine g_iload fx dX11_byKey_101 rfl ?_
    refine g_iconst fx dX11_byKey_103 (by unfold okI; omega) ?_
    refine g_callVD fx dX11_byKey_104 mv_RX11_242 my_X11_of (s_X11_of ad _ _ _ (by omega)) o_223 rfl rfl rfl (Nat.le_of_ble_eq_true rfl) (by decide) (by decide) ?_
    refine g_aload_n fx dX11_byKey_107 rfl ?_
    refine g_iload fx dX11_byKey_108 rfl ?_
    refine g_iconst fx dX11_byKey_110 (by unfold okI; omega) ?_
    refine g_callVD fx dX11_byKey_111 mv_RX11_242 my_X11_of (s_X11_of ad _ _ _ (by omega)) o_223 rfl rfl rfl (Nat.le_of_ble_eq_true rfl) (by decide) (by decide) ?_
    refine g_isub fx dX11_byKey_114 ?_
    exact g_iret fx rfl dX11_byKey_115 (by decide) (by decide) (gw_le.rf _) ⟨by first | (exfalso; omega) | (rw [nBk]; (repeat first | rw [if_pos (by omega)] | rw [if_neg (by omega)]) <;> rfl), rfl, rfl⟩
  by_cases h17_4 : key = 4
  · refine g_tsw 4 (tgt := 116) fx dX11_byKey_17 (by omega) (by decide) rfl (by decide) ?_
    refine g_aload_n fx dX11_byKey_116 rfl ?_
    refine g_iload fx dX11_byKey_117 rfl ?_
    refine g_iconst fx dX11_byKey_119 (by unfold okI; omega) ?_
    refine g_callVD fx dX11_byKey_120 mv_RX11_242 my_X11_of (s_X11_of ad _ _ _ (by omega)) o_223 rfl rfl rfl (Nat.le_of_ble_eq_true rfl) (by decide) (by decide) ?_
    refine g_aload_n fx dX11_byKey_123 rfl ?_
    refine g_iload_n fx dX11_byKey_124 rfl ?_
    refine g_callVD fx dX11_byKey_125 mv_RX11_273 my_X11_pounds (s_X11_pounds ad _ _ (by omega)) o_223 rfl rfl rfl (Nat.le_of_ble_eq_true rfl) (by decide) (by decide) ?_
    refine g_imul fx dX11_byKey_128 ?_
    refine g_aload_n fx dX11_byKey_129 rfl ?_
    refine g_iload fx dX11_byKey_130 rfl ?_
    refine g_iconst fx dX11_byKey_132 (by unfold okI; omega) ?_
    refine g_callVD fx dX11_byKey_133 mv_RX11_242 my_X11_of (s_X11_of ad _ _ _ (by omega)) o_223 rfl rfl rfl (Nat.le_of_ble_eq_true rfl) (by decide) (by decide) ?_
    refine g_aload_n fx dX11_byKey_136 rfl ?_
    refine g_iload_n fx dX11_byKey_137 rfl ?_
    refine g_callVD fx dX11_byKey_138 mv_RX11_273 my_X11_pounds (s_X11_pounds ad _ _ (by omega)) o_223 rfl rfl rfl (Nat.le_of_ble_eq_true rfl) (by decide) (by decide) ?_
    refine g_imul fx dX11_byKey_141 ?_
    refine g_isub fx dX11_byKey_142 ?_
    exact g_iret fx rfl dX11_byKey_143 (by decide) (by decide) (gw_le.rf _) ⟨by first | (exfalso; omega) | (rw [nBk]; (repeat first | rw [if_pos (by omega)] | rw [if_neg (by omega)]) <;> rfl), rfl, rfl⟩
  by_cases h17_5 : key = 5
  · refine g_tsw 5 (tgt := 144) fx dX11_byKey_17 (by omega) (by decide) rfl (by decide) ?_
    refine g_aload_n fx dX11_byKey_144 rfl ?_
    refine g_iload_n fx dX11_byKey_145 rfl ?_
    refine g_callVD fx dX11_byKey_146 mv_RX11_279 my_X11_dueOf (s_X11_dueOf ad _ _ hR (by omega)) o_223 rfl rfl rfl (Nat.le_of_ble_eq_true rfl) (by decide) (by decide) ?_
    refine g_aload_n fx dX11_byKey_149 rfl ?_
    refine g_iload_n fx dX11_byKey_150 rfl ?_
    refine g_callVD fx dX11_byKey_151 mv_RX11_279 my_X11_dueOf (s_X11_dueOf ad _ _ hR (by omega)) o_223 rfl rfl rfl (Nat.le_of_ble_eq_true rfl) (by decide) (by decide) ?_
    refine g_isub fx dX11_byKey_154 ?_
    exact g_iret fx rfl dX11_byKey_155 (by decide) (by decide) (gw_le.rf _) ⟨by first | (exfalso; omega) | (rw [nBk]; (repeat first | rw [if_pos (by omega)] | rw [if_neg (by omega)]) <;> rfl), rfl, rfl⟩
  by_cases h17_6 : key = 6
  · refine g_tsw 6 (tgt := 156) fx dX11_byKey_17 (by omega) (by decide) rfl (by decide) ?_
    refine g_aload_n fx dX11_byKey_156 rfl ?_
    refine g_getr fx dX11_byKey_157 fk_RX11_57 o_223 rf_223_25 ?_
    refine g_aload_n fx dX11_byKey_160 rfl ?_
    refine g_iload fx dX11_byKey_161 rfl ?_
    refine g_iconst fx dX11_byKey_163 (by unfold okI; omega) ?_
    refine g_callVD fx dX11_byKey_164 mv_RX11_242 my_X11_of (s_X11_of ad _ _ _ (by omega)) o_223 rfl rfl rfl (Nat.le_of_ble_eq_true rfl) (by decide) (by decide) ?_
    refine g_iald fx dX11_byKey_167 o_238 (by omega) (by show _ < ((8 : Nat) : Int); omega) ?_
    refine g_aload_n fx dX11_byKey_168 rfl ?_
    refine g_getr fx dX11_byKey_169 fk_RX11_57 o_223 rf_223_25 ?_
    refine g_aload_n fx dX11_byKey_172 rfl ?_
    refine g_iload fx dX11_byKey_173 rfl ?_
    refine g_iconst fx dX11_byKey_175 (by unfold okI; omega) ?_
    refine g_callVD fx dX11_byKey_176 mv_RX11_242 my_X11_of (s_X11_of ad _ _ _ (by omega)) o_223 rfl rfl rfl (Nat.le_of_ble_eq_true rfl) (by decide) (by decide) ?_
    refine g_iald fx dX11_byKey_179 o_238 (by omega) (by show _ < ((8 : Nat) : Int); omega) ?_
    refine g_isub fx dX11_byKey_180 ?_
    exact g_iret fx rfl dX11_byKey_181 (by decide) (by decide) (gw_le.rf _) ⟨by first | (exfalso; omega) | (rw [nBk]; (repeat first | rw [if_pos (by omega)] | rw [if_neg (by omega)]) <;> rfl), rfl, rfl⟩
  refine g_tswO (tgt := 182) fx dX11_byKey_17 (by omega) (by decide) ?_
  refine g_aload_n fx dX11_byKey_182 rfl ?_
  refine g_iload fx dX11_byKey_183 rfl ?_
  refine g_iconst fx dX11_byKey_185 (by unfold okI; omega) ?_
  refine g_callVD fx dX11_byKey_186 mv_RX11_242 my_X11_of (s_X11_of ad _ _ _ (by omega)) o_223 rfl rfl rfl (Nat.le_of_ble_eq_true rfl) (by decide) (by decide) ?_
  refine g_iload fx dX11_byKey_189 rfl ?_
  refine g_icmp_ne (tgt := 198) fx dX11_byKey_191 (by decide) (fun h191 => ?_) (fun h191 => ?_)
  · refine g_iconst fx dX11_byKey_198 (by unfold okI; omega) ?_
    refine g_aload_n fx dX11_byKey_199 rfl ?_
    refine g_iload fx dX11_byKey_200 rfl ?_
    refine g_iconst fx dX11_byKey_202 (by unfold okI; omega) ?_
    refine g_callVD fx dX11_byKey_203 mv_RX11_242 my_X11_of (s_X11_of ad _ _ _ (by omega)) o_223 rfl rfl rfl (Nat.le_of_ble_eq_true rfl) (by decide) (by decide) ?_
    refine g_iload fx dX11_byKey_206 rfl ?_
    refine g_icmp_ne (tgt := 215) fx dX11_byKey_208 (by decide) (fun h208 => ?_) (fun h208 => ?_)
    · refine g_iconst fx dX11_byKey_215 (by unfold okI; omega) ?_
      refine g_isub fx dX11_byKey_216 ?_
      exact g_iret fx rfl dX11_byKey_217 (by decide) (by decide) (gw_le.rf _) ⟨by first | (exfalso; omega) | (rw [nBk]; (repeat first | rw [if_pos (by omega)] | rw [if_neg (by omega)]) <;> rfl), rfl, rfl⟩
    · refine g_iconst fx dX11_byKey_211 (by unfold okI; omega) ?_
      refine g_goto (tgt := 216) fx dX11_byKey_212 (by decide) ?_
      refine g_isub fx dX11_byKey_216 ?_
      exact g_iret fx rfl dX11_byKey_217 (by decide) (by decide) (gw_le.rf _) ⟨by first | (exfalso; omega) | (rw [nBk]; (repeat first | rw [if_pos (by omega)] | rw [if_neg (by omega)]) <;> rfl), rfl, rfl⟩
  · refine g_iconst fx dX11_byKey_194 (by unfold okI; omega) ?_
    refine g_goto (tgt := 199) fx dX11_byKey_195 (by decide) ?_
    refine g_aload_n fx dX11_byKey_199 rfl ?_
    refine g_iload fx dX11_byKey_200 rfl ?_
    refine g_iconst fx dX11_byKey_202 (by unfold okI; omega) ?_
    refine g_callVD fx dX11_byKey_203 mv_RX11_242 my_X11_of (s_X11_of ad _ _ _ (by omega)) o_223 rfl rfl rfl (Nat.le_of_ble_eq_true rfl) (by decide) (by decide) ?_
    refine g_iload fx dX11_byKey_206 rfl ?_
    refine g_icmp_ne (tgt := 215) fx dX11_byKey_208 (by decide) (fun h208 => ?_) (fun h208 => ?_)
    · refine g_iconst fx dX11_byKey_215 (by unfold okI; omega) ?_
      refine g_isub fx dX11_byKey_216 ?_
      exact g_iret fx rfl dX11_byKey_217 (by decide) (by decide) (gw_le.rf _) ⟨by first | (exfalso; omega) | (rw [nBk]; (repeat first | rw [if_pos (by omega)] | rw [if_neg (by omega)]) <;> rfl), rfl, rfl⟩
    · refine g_iconst fx dX11_byKey_211 (by unfold okI; omega) ?_
      refine g_goto (tgt := 216) fx dX11_byKey_212 (by decide) ?_
      refine g_isub fx dX11_byKey_216 ?_
      exact g_iret fx rfl dX11_byKey_217 (by decide) (by decide) (gw_le.rf _) ⟨by first | (exfalso; omega) | (rw [nBk]; (repeat first | rw [if_pos (by omega)] | rw [if_neg (by omega)]) <;> rfl), rfl, rfl⟩
set_option maxRecDepth 4000 in
theorem s_X11_isAhead (ad : Nat → Nat) (σ : Sg)  (p : Int) (q : Int) (last : Int) (hR : RS σ) (hp : 0 ≤ p ∧ p < σ 224 668) (hq : 0 ≤ q ∧ q < σ 224 668) : gw_Sp yX11_isAhead cX11_isAhead 6 (some .boolean) 4 0 0 [vR (some 223), vI p, vI q, vI last] (gw_M0 ad) σ (gw_D (some (vI (nIa σ p q last))) (gw_M0 ad) (σ)) gw_no := by
  refine gw_Sp.of [some (vR (some 223)), some (vI p), some (vI q), some (vI last), none, none] (by decide +kernel) rfl (Nat.le_of_ble_eq_true rfl) ?_
  intro X G fx het hnm
  have hK := hR.1.keys
  refine g_iconst fx dX11_isAhead_0 (by unfold okI; omega) ?_
  refine g_istore fx dX11_isAhead_1 (by decide) rfl rfl ?_
  have loop3 : ∀ i : Nat, i ≤ (σ 224 8).toNat → nIa σ p q last = nIaV (fnz (nKf σ p q last) ((σ 224 8).toNat - i) i) p q → gw_W X (yX11_isAhead.cls, cX11_isAhead, 6, (some .boolean), 4, 0, 0) G (gw_Z X G (gw_M0 ad) σ (gw_D (some (vI (nIa σ p q last))) (gw_M0 ad) (σ)) gw_no 0 0) 0 0 (gw_M0 ad) (σ) 3 [some (vR (some 223)), some (vI p), some (vI q), some (vI last), some (vI (i : Nat)), none] [] := by
    refine up_ind _ _ (fun i hi ih => ?_)
    intro he
    refine g_iload fx dX11_isAhead_3 rfl ?_
    refine g_aload_n fx dX11_isAhead_5 rfl ?_
    refine g_getr fx dX11_isAhead_6 fk_RX11_9 o_223 rf_223_0 ?_
    refine g_bipush fx dX11_isAhead_9 (by decide) ?_
    refine g_iald fx dX11_isAhead_11 o_224 (by decide) (by decide) ?_
    rw [show Int.toNat 8 = 8 from rfl]
    refine g_icmp_ge (tgt := 56) fx dX11_isAhead_12 (by decide) (fun h12 => ?_) (fun h12 => ?_)
    · refine g_iload_n fx dX11_isAhead_56 rfl ?_
      refine g_iload_n fx dX11_isAhead_57 rfl ?_
      refine g_icmp_ge (tgt := 65) fx dX11_isAhead_58 (by decide) (fun h58 => ?_) (fun h58 => ?_)
      · refine g_iconst fx dX11_isAhead_65 (by unfold okI; omega) ?_
        exact g_zret fx rfl dX11_isAhead_66 (by first | exact Or.inl rfl | exact Or.inr rfl | omega) (by decide) (by decide) (gw_le.rf _) ⟨by rw [he, show (σ 224 8).toNat - i = 0 by omega, fnz, nIaV]; (repeat first | rw [if_pos (by omega)] | rw [if_neg (by omega)]) <;> rfl, rfl, rfl⟩
      · refine g_iconst fx dX11_isAhead_61 (by unfold okI; omega) ?_
        refine g_goto (tgt := 66) fx dX11_isAhead_62 (by decide) ?_
        exact g_zret fx rfl dX11_isAhead_66 (by first | exact Or.inl rfl | exact Or.inr rfl | omega) (by decide) (by decide) (gw_le.rf _) ⟨by rw [he, show (σ 224 8).toNat - i = 0 by omega, fnz, nIaV]; (repeat first | rw [if_pos (by omega)] | rw [if_neg (by omega)]) <;> rfl, rfl, rfl⟩
    · refine g_aload_n fx dX11_isAhead_15 rfl ?_
      refine g_aload_n fx dX11_isAhead_16 rfl ?_
      refine g_getr fx dX11_isAhead_17 fk_RX11_9 o_223 rf_223_0 ?_
      refine g_bipush fx dX11_isAhead_20 (by decide) ?_
      refine g_iload fx dX11_isAhead_22 rfl ?_
      refine g_iadd1 fx dX11_isAhead_24 (by unfold okI; omega) ?_
      rw [show (9 + ((i : Nat) : Int)) = ((9 + i : Nat) : Int) by omega]
      refine g_iald fx dX11_isAhead_25 o_224 (by omega) (by show _ < ((672 : Nat) : Int); omega) ?_
      rw [show ((9 + i : Nat) : Int).toNat = 9 + i from rfl]
      refine g_iload_n fx dX11_isAhead_26 rfl ?_
      refine g_iload_n fx dX11_isAhead_27 rfl ?_
      refine g_iload_n fx dX11_isAhead_28 rfl ?_
      refine g_callVD fx dX11_isAhead_29 mv_RX11_282 my_X11_byKey (s_X11_byKey ad _ _ _ _ _ hR (by omega) (by omega)) o_223 rfl rfl rfl (Nat.le_of_ble_eq_true rfl) (by decide) (by decide) ?_
      refine g_istore fx dX11_isAhead_32 (by decide) rfl rfl ?_
      refine g_iload fx dX11_isAhead_34 rfl ?_
      refine g_if_eq (tgt := 50) fx dX11_isAhead_36 (by decide) (fun h36 => ?_) (fun h36 => ?_)
      · refine g_iinc1 fx dX11_isAhead_50 (by decide) rfl rfl (by unfold okI; omega) rfl ?_
        refine g_goto (tgt := 3) fx dX11_isAhead_53 (by decide) ?_
        refine g_kill 5 rfl ?_
        exact gw_cg rfl (by rw [show ((i : Nat) : Int) + 1 = ((i + 1 : Nat) : Int) by omega] <;> rfl) (ih (by omega) (by rw [he, show (σ 224 8).toNat - i = (σ 224 8).toNat - (i + 1) + 1 by omega, fnz, if_neg (by show ¬ (nBk σ (σ 224 (9 + i)) p q last ≠ 0); omega)]))
      · refine g_iload fx dX11_isAhead_39 rfl ?_
        refine g_if_le (tgt := 48) fx dX11_isAhead_41 (by decide) (fun h41 => ?_) (fun h41 => ?_)
        · refine g_iconst fx dX11_isAhead_48 (by unfold okI; omega) ?_
          exact g_zret fx rfl dX11_isAhead_49 (by first | exact Or.inl rfl | exact Or.inr rfl | omega) (by decide) (by decide) (gw_le.rf _) ⟨by rw [he, show (σ 224 8).toNat - i = (σ 224 8).toNat - (i + 1) + 1 by omega, fnz, if_pos (by show nBk σ (σ 224 (9 + i)) p q last ≠ 0; omega), show nKf σ p q last i = nBk σ (σ 224 (9 + i)) p q last from rfl, nIaV]; (repeat first | rw [if_pos (by omega)] | rw [if_neg (by omega)]) <;> rfl, rfl, rfl⟩
        · refine g_iconst fx dX11_isAhead_44 (by unfold okI; omega) ?_
          refine g_goto (tgt := 49) fx dX11_isAhead_45 (by decide) ?_
          exact g_zret fx rfl dX11_isAhead_49 (by first | exact Or.inl rfl | exact Or.inr rfl | omega) (by decide) (by decide) (gw_le.rf _) ⟨by rw [he, show (σ 224 8).toNat - i = (σ 224 8).toNat - (i + 1) + 1 by omega, fnz, if_pos (by show nBk σ (σ 224 (9 + i)) p q last ≠ 0; omega), show nKf σ p q last i = nBk σ (σ 224 (9 + i)) p q last from rfl, nIaV]; (repeat first | rw [if_pos (by omega)] | rw [if_neg (by omega)]) <;> rfl, rfl, rfl⟩
  exact loop3 0 (Nat.zero_le _) rfl
set_option maxRecDepth 4000 in
theorem s_X11_forgets (ad : Nat → Nat) (σ : Sg)  (hT : TW (σ 224)) : gw_Sp yX11_forgets cX11_forgets 2 none 3 0 0 [vR (some 223)] (gw_M0 ad) σ (gw_D none (gw_M0 ad) (nFg σ)) gw_no := by
  refine gw_Sp.of [some (vR (some 223)), none] (by decide +kernel) rfl (Nat.le_of_ble_eq_true rfl) ?_
  intro X G fx het hnm
  have hP := hT.p60
  have hP0 := hT.p0
  refine g_aload_n fx dX11_forgets_0 rfl ?_
  refine g_iconst fx dX11_forgets_1 (by unfold okI; omega) ?_
  refine g_puti fx dX11_forgets_2 fk_RX11_286 o_223 ?_
  refine g_aload_n fx dX11_forgets_5 rfl ?_
  refine g_iconst fx dX11_forgets_6 (by unfold okI; omega) ?_
  refine g_puti fx dX11_forgets_7 fk_RX11_289 o_223 ?_
  refine gw_cg (σ' := fgA σ) rfl rfl ?_
  refine g_iconst fx dX11_forgets_10 (by unfold okI; omega) ?_
  refine g_istore_n fx dX11_forgets_11 (by decide) rfl rfl ?_
  have loop12 : ∀ k : Nat, k ≤ 8 → gw_W X (yX11_forgets.cls, cX11_forgets, 2, none, 3, 0, 0) G (gw_Z X G (gw_M0 ad) σ (gw_D none (gw_M0 ad) (nFg σ)) gw_no 0 0) 0 0 (gw_M0 ad) (fgB σ k) 12 [some (vR (some 223)), some (vI (k : Nat))] [] := by
    refine up_ind _ (8) (fun k hk ih => ?_)
    refine g_iload_n fx dX11_forgets_12 rfl ?_
    refine g_bipush fx dX11_forgets_13 (by decide) ?_
    refine g_icmp_ge (tgt := 31) fx dX11_forgets_15 (by decide) (fun h15 => ?_) (fun h15 => ?_)
    · refine g_iconst fx dX11_forgets_31 (by unfold okI; omega) ?_
      refine g_istore_n fx dX11_forgets_32 (by decide) rfl rfl ?_
      have loop33 : ∀ i : Nat, i ≤ 3 → gw_W X (yX11_forgets.cls, cX11_forgets, 2, none, 3, 0, 0) G (gw_Z X G (gw_M0 ad) σ (gw_D none (gw_M0 ad) (nFg σ)) gw_no 0 0) 0 0 (gw_M0 ad) (fgC σ i) 33 [some (vR (some 223)), some (vI (i : Nat))] [] := by
        refine up_ind _ (3) (fun i hi ih => ?_)
        refine g_iload_n fx dX11_forgets_33 rfl ?_
        refine g_iconst fx dX11_forgets_34 (by unfold okI; omega) ?_
        refine g_icmp_ge (tgt := 58) fx dX11_forgets_35 (by decide) (fun h35 => ?_) (fun h35 => ?_)
        · refine g_iconst fx dX11_forgets_58 (by unfold okI; omega) ?_
          refine g_istore_n fx dX11_forgets_59 (by decide) rfl rfl ?_
          have loop60 : ∀ p : Nat, p ≤ (σ 224 668).toNat → gw_W X (yX11_forgets.cls, cX11_forgets, 2, none, 3, 0, 0) G (gw_Z X G (gw_M0 ad) σ (gw_D none (gw_M0 ad) (nFg σ)) gw_no 0 0) 0 0 (gw_M0 ad) (fgD σ p) 60 [some (vR (some 223)), some (vI (p : Nat))] [] := by
            refine up_ind _ ((σ 224 668).toNat) (fun p hp ih => ?_)
            have e2 := fgD_224 σ p
            have e3 : fgD σ p 224 668 = σ 224 668 := by rw [e2]
            refine g_iload_n fx dX11_forgets_60 rfl ?_
            refine g_aload_n fx dX11_forgets_61 rfl ?_
            refine g_getr fx dX11_forgets_62 fk_RX11_9 o_223 rf_223_0 ?_
            refine g_sipush fx dX11_forgets_65 (by decide) ?_
            refine g_iald fx dX11_forgets_68 o_224 (by decide) (by decide) ?_
            rw [show Int.toNat 668 = 668 from rfl]
            refine g_icmp_ge (tgt := 96) fx dX11_forgets_69 (by decide) (fun h69 => ?_) (fun h69 => ?_)
            · exact g_vret fx rfl dX11_forgets_96 (by decide) (by decide) (gw_le.rf _) ⟨rfl, rfl, by rw [nFg, show (σ 224 668).toNat = p by omega]⟩
            · refine g_aload_n fx dX11_forgets_72 rfl ?_
              refine g_getr fx dX11_forgets_73 fk_RX11_39 o_223 rf_223_19 ?_
              refine g_iload_n fx dX11_forgets_76 rfl ?_
              refine g_iconst fx dX11_forgets_77 (by unfold okI; omega) ?_
              refine g_iast fx dX11_forgets_78 o_232 (by omega) (by show _ < ((60 : Nat) : Int); omega) ?_
              refine g_aload_n fx dX11_forgets_79 rfl ?_
              refine g_getr fx dX11_forgets_80 fk_RX11_36 o_223 rf_223_18 ?_
              refine g_iload_n fx dX11_forgets_83 rfl ?_
              refine g_aload_n fx dX11_forgets_84 rfl ?_
              refine g_iload_n fx dX11_forgets_85 rfl ?_
              refine g_callVD fx dX11_forgets_86 mv_RX11_292 my_X11_sackOf (s_X11_sackOf ad _ _ (by exact (show TW (fgD σ p 224) by rw [e2]; exact hT)) (by omega) (by show ((p : Nat) : Int) < fgD σ p 224 668; omega)) o_223 rfl rfl rfl (Nat.le_of_ble_eq_true rfl) (by decide) (by decide) ?_
              refine gw_cgt rfl (nSo_of (σ := σ) (show (su (fgD σ p) 232 p (-1)) 224 = σ 224 from e2) _) ?_
              refine g_iast fx dX11_forgets_89 o_231 (by omega) (by show _ < ((60 : Nat) : Int); omega) ?_
              refine g_iinc1 fx dX11_forgets_90 (by decide) rfl rfl (by unfold okI; omega) rfl ?_
              refine g_goto (tgt := 60) fx dX11_forgets_93 (by decide) ?_
              exact gw_cg (by rw [← fgD_s]; rfl) (by rw [show ((p : Nat) : Int) + 1 = ((p + 1 : Nat) : Int) by omega] <;> rfl) (ih (by omega))
          exact gw_cg (by rw [show i = 3 by omega]; exact (fgD_0 σ).symm) rfl (loop60 0 (Nat.zero_le _))
        · refine g_aload_n fx dX11_forgets_38 rfl ?_
          refine g_getr fx dX11_forgets_39 fk_RX11_51 o_223 rf_223_23 ?_
          refine g_iload_n fx dX11_forgets_42 rfl ?_
          refine g_iconst fx dX11_forgets_43 (by unfold okI; omega) ?_
          refine g_iast fx dX11_forgets_44 o_236 (by omega) (by show _ < ((3 : Nat) : Int); omega) ?_
          refine g_aload_n fx dX11_forgets_45 rfl ?_
          refine g_getr fx dX11_forgets_46 fk_RX11_54 o_223 rf_223_24 ?_
          refine g_iload_n fx dX11_forgets_49 rfl ?_
          refine g_iconst fx dX11_forgets_50 (by unfold okI; omega) ?_
          refine g_iast fx dX11_forgets_51 o_237 (by omega) (by show _ < ((3 : Nat) : Int); omega) ?_
          refine g_iinc1 fx dX11_forgets_52 (by decide) rfl rfl (by unfold okI; omega) rfl ?_
          refine g_goto (tgt := 33) fx dX11_forgets_55 (by decide) ?_
          exact gw_cg (fgC_s σ i) (by rw [show ((i : Nat) : Int) + 1 = ((i + 1 : Nat) : Int) by omega] <;> rfl) (ih (by omega))
      exact gw_cg (by rw [show k = 8 by omega]; exact (fgC_0 σ).symm) rfl (loop33 0 (Nat.zero_le _))
    · refine g_aload_n fx dX11_forgets_18 rfl ?_
      refine g_getr fx dX11_forgets_19 fk_RX11_57 o_223 rf_223_25 ?_
      refine g_iload_n fx dX11_forgets_22 rfl ?_
      refine g_iconst fx dX11_forgets_23 (by unfold okI; omega) ?_
      refine g_iast fx dX11_forgets_24 o_238 (by omega) (by show _ < ((8 : Nat) : Int); omega) ?_
      refine g_iinc1 fx dX11_forgets_25 (by decide) rfl rfl (by unfold okI; omega) rfl ?_
      refine g_goto (tgt := 12) fx dX11_forgets_28 (by decide) ?_
      exact gw_cg (rFill_succ (fgA σ) 238 k 0) (by rw [show ((k : Nat) : Int) + 1 = ((k + 1 : Nat) : Int) by omega] <;> rfl) (ih (by omega))
  exact gw_cg (fgB_0 σ).symm rfl (loop12 0 (Nat.zero_le _))
