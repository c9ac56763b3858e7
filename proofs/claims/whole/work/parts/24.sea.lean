theorem dX6_place_0 : gw_dc cX6_place 0 (.aload_n 0) 1 1 := ⟨by decide +kernel, rfl⟩
theorem dX6_place_1 : gw_dc cX6_place 1 (.getfield 42) 3 4 := ⟨by decide +kernel, rfl⟩
theorem fk_RX6_42 : gw_fk RX6 42 6 1 10 1 true := ⟨_, _, _, ck_6, by decide, by decide, fun h => absurd h (by decide), fun h => absurd h (by decide), fun _ => Or.inl ⟨_, rfl⟩, rfl, Or.inl (gw_mem 442 (by decide +kernel) rfl)⟩
theorem rf_128_1 {ad : Nat → Nat} : (gw_M0 ad).2.2 128 1 = some 26 := (by decide +kernel : gw_rh 128 1 = some 26)
theorem in_26 : (26, 4) ∈ gw_runs := by decide +kernel
theorem o_128 {ad : Nat → Nat} : isO (gw_M0 ad) 128 6 10 := (by decide +kernel : 128 < gw_N0 ∧ gw_sh 128 = (6, 10))
theorem dX6_place_4 : gw_dc cX6_place 4 (.getfield 92) 3 7 := ⟨by decide +kernel, rfl⟩
theorem fk_RX6_92 : gw_fk RX6 92 5 3 15 1 true := ⟨_, _, _, ck_5, by decide, by decide, fun h => absurd h (by decide), fun h => absurd h (by decide), fun _ => Or.inl ⟨_, rfl⟩, rfl, Or.inr ⟨"LightestSack", gw_memN 333 (by decide +kernel) rfl⟩⟩
theorem dX6_place_7 : gw_dc cX6_place 7 (.iload_n 2) 1 8 := ⟨by decide +kernel, rfl⟩
theorem dX6_place_8 : gw_dc cX6_place 8 (.invokevirtual 63) 3 11 := ⟨by decide +kernel, rfl⟩
theorem mv_RX6_63 : gw_mv RX6 63 yX4_at := ⟨gw_mem 692 (by decide +kernel) rfl, gw_mem 573 (by decide +kernel) rfl, gw_mem 574 (by decide +kernel) rfl⟩
theorem dX6_place_11 : gw_dc cX6_place 11 (.istore_n 3) 1 12 := ⟨by decide +kernel, rfl⟩
theorem dX6_place_12 : gw_dc cX6_place 12 (.aload_n 0) 1 13 := ⟨by decide +kernel, rfl⟩
theorem dX6_place_13 : gw_dc cX6_place 13 (.getfield 38) 3 16 := ⟨by decide +kernel, rfl⟩
theorem fk_RX6_38 : gw_fk RX6 38 6 0 10 1 true := ⟨_, _, _, ck_6, by decide, by decide, fun h => absurd h (by decide), fun h => absurd h (by decide), fun _ => Or.inl ⟨_, rfl⟩, rfl, Or.inl (gw_mem 441 (by decide +kernel) rfl)⟩
theorem rf_128_0 {ad : Nat → Nat} : (gw_M0 ad).2.2 128 0 = some 4 := (by decide +kernel : gw_rh 128 0 = some 4)
theorem in_4 : 4 ∈ gw_mills := by decide +kernel
theorem dX6_place_16 : gw_dc cX6_place 16 (.getfield 95) 3 19 := ⟨by decide +kernel, rfl⟩
theorem fk_RX6_95 : gw_fk RX6 95 1 11 16 1 true := ⟨_, _, _, ck_1, by decide, by decide, fun h => absurd h (by decide), fun h => absurd h (by decide), fun _ => Or.inl ⟨_, rfl⟩, rfl, Or.inr ⟨"LightestSack", gw_memN 269 (by decide +kernel) rfl⟩⟩
theorem dX6_place_19 : gw_dc cX6_place 19 (.iload_n 3) 1 20 := ⟨by decide +kernel, rfl⟩
theorem dX6_place_20 : gw_dc cX6_place 20 (.invokevirtual 63) 3 23 := ⟨by decide +kernel, rfl⟩
theorem dX6_place_23 : gw_dc cX6_place 23 (.istore 4) 2 25 := ⟨by decide +kernel, rfl⟩
theorem dX6_place_25 : gw_dc cX6_place 25 (.aload_n 0) 1 26 := ⟨by decide +kernel, rfl⟩
theorem dX6_place_26 : gw_dc cX6_place 26 (.getfield 29) 3 29 := ⟨by decide +kernel, rfl⟩
theorem fk_RX6_29 : gw_fk RX6 29 6 6 10 1 true := ⟨_, _, _, ck_6, by decide, by decide, fun h => absurd h (by decide), fun h => absurd h (by decide), fun _ => Or.inl ⟨_, rfl⟩, rfl, Or.inl (gw_mem 447 (by decide +kernel) rfl)⟩
theorem rf_128_6 {ad : Nat → Nat} : (gw_M0 ad).2.2 128 6 = some 137 := (by decide +kernel : gw_rh 128 6 = some 137)
theorem in_137 : (137, 9) ∈ gw_rows := by decide +kernel
theorem dX6_place_29 : gw_dc cX6_place 29 (.iload_n 1) 1 30 := ⟨by decide +kernel, rfl⟩
theorem dX6_place_30 : gw_dc cX6_place 30 (.invokevirtual 63) 3 33 := ⟨by decide +kernel, rfl⟩
theorem dX6_place_33 : gw_dc cX6_place 33 (.istore 5) 2 35 := ⟨by decide +kernel, rfl⟩
theorem dX6_place_35 : gw_dc cX6_place 35 (.aload_n 0) 1 36 := ⟨by decide +kernel, rfl⟩
theorem dX6_place_36 : gw_dc cX6_place 36 (.getfield 38) 3 39 := ⟨by decide +kernel, rfl⟩
theorem dX6_place_39 : gw_dc cX6_place 39 (.getfield 98) 3 42 := ⟨by decide +kernel, rfl⟩
theorem fk_RX6_98 : gw_fk RX6 98 1 10 16 1 true := ⟨_, _, _, ck_1, by decide, by decide, fun h => absurd h (by decide), fun h => absurd h (by decide), fun _ => Or.inl ⟨_, rfl⟩, rfl, Or.inr ⟨"LightestSack", gw_memN 265 (by decide +kernel) rfl⟩⟩
theorem dX6_place_42 : gw_dc cX6_place 42 (.iload_n 3) 1 43 := ⟨by decide +kernel, rfl⟩
theorem dX6_place_43 : gw_dc cX6_place 43 (.invokevirtual 63) 3 46 := ⟨by decide +kernel, rfl⟩
theorem dX6_place_46 : gw_dc cX6_place 46 (.istore 6) 2 48 := ⟨by decide +kernel, rfl⟩
theorem dX6_place_48 : gw_dc cX6_place 48 (.iload 5) 2 50 := ⟨by decide +kernel, rfl⟩
theorem dX6_place_50 : gw_dc cX6_place 50 (.iconst (-1)) 1 51 := ⟨by decide +kernel, rfl⟩
theorem dX6_place_51 : gw_dc cX6_place 51 (.if_icmp .eq 10) 3 54 := ⟨by decide +kernel, rfl⟩
theorem dX6_place_61 : gw_dc cX6_place 61 (.iconst 0) 1 62 := ⟨by decide +kernel, rfl⟩
theorem dX6_place_62 : gw_dc cX6_place 62 (.goto 10) 3 65 := ⟨by decide +kernel, rfl⟩
theorem dX6_place_72 : gw_dc cX6_place 72 (.istore 7) 2 74 := ⟨by decide +kernel, rfl⟩
theorem dX6_place_74 : gw_dc cX6_place 74 (.aload_n 0) 1 75 := ⟨by decide +kernel, rfl⟩
theorem dX6_place_75 : gw_dc cX6_place 75 (.getfield 26) 3 78 := ⟨by decide +kernel, rfl⟩
theorem fk_RX6_26 : gw_fk RX6 26 6 5 10 1 true := ⟨_, _, _, ck_6, by decide, by decide, fun h => absurd h (by decide), fun h => absurd h (by decide), fun _ => Or.inl ⟨_, rfl⟩, rfl, Or.inl (gw_mem 446 (by decide +kernel) rfl)⟩
theorem rf_128_5 {ad : Nat → Nat} : (gw_M0 ad).2.2 128 5 = some 135 := (by decide +kernel : gw_rh 128 5 = some 135)
theorem in_135 : (135, 9) ∈ gw_rows := by decide +kernel
theorem dX6_place_78 : gw_dc cX6_place 78 (.iload_n 1) 1 79 := ⟨by decide +kernel, rfl⟩
theorem dX6_place_79 : gw_dc cX6_place 79 (.invokevirtual 63) 3 82 := ⟨by decide +kernel, rfl⟩
theorem dX6_place_82 : gw_dc cX6_place 82 (.iload 6) 2 84 := ⟨by decide +kernel, rfl⟩
theorem dX6_place_84 : gw_dc cX6_place 84 (.invokestatic 104) 3 87 := ⟨by decide +kernel, rfl⟩
theorem mm_RX6_104 : gw_mm RX6 104 Lib.Math.max.name Lib.Math.max.code := ⟨gw_mem 706 (by decide +kernel) rfl, gw_mem 619 (by decide +kernel) rfl, gw_mem 116 (by decide +kernel) rfl, gw_mem 620 (by decide +kernel) rfl⟩
theorem dX6_place_87 : gw_dc cX6_place 87 (.iload 7) 2 89 := ⟨by decide +kernel, rfl⟩
theorem dX6_place_89 : gw_dc cX6_place 89 (.iadd) 1 90 := ⟨by decide +kernel, rfl⟩
theorem dX6_place_90 : gw_dc cX6_place 90 (.aload_n 0) 1 91 := ⟨by decide +kernel, rfl⟩
theorem dX6_place_91 : gw_dc cX6_place 91 (.getfield 38) 3 94 := ⟨by decide +kernel, rfl⟩
theorem dX6_place_94 : gw_dc cX6_place 94 (.getfield 110) 3 97 := ⟨by decide +kernel, rfl⟩
theorem fk_RX6_110 : gw_fk RX6 110 1 7 16 1 true := ⟨_, _, _, ck_1, by decide, by decide, fun h => absurd h (by decide), fun h => absurd h (by decide), fun _ => Or.inl ⟨_, rfl⟩, rfl, Or.inr ⟨"LightestSack", gw_memN 256 (by decide +kernel) rfl⟩⟩
theorem dX6_place_97 : gw_dc cX6_place 97 (.iconst 0) 1 98 := ⟨by decide +kernel, rfl⟩
theorem dX6_place_98 : gw_dc cX6_place 98 (.invokevirtual 63) 3 101 := ⟨by decide +kernel, rfl⟩
theorem dX6_place_101 : gw_dc cX6_place 101 (.aload_n 0) 1 102 := ⟨by decide +kernel, rfl⟩
theorem dX6_place_102 : gw_dc cX6_place 102 (.getfield 42) 3 105 := ⟨by decide +kernel, rfl⟩
theorem dX6_place_105 : gw_dc cX6_place 105 (.getfield 113) 3 108 := ⟨by decide +kernel, rfl⟩
theorem fk_RX6_113 : gw_fk RX6 113 5 4 15 1 true := ⟨_, _, _, ck_5, by decide, by decide, fun h => absurd h (by decide), fun h => absurd h (by decide), fun _ => Or.inl ⟨_, rfl⟩, rfl, Or.inr ⟨"LightestSack", gw_memN 336 (by decide +kernel) rfl⟩⟩
theorem dX6_place_108 : gw_dc cX6_place 108 (.iload_n 2) 1 109 := ⟨by decide +kernel, rfl⟩
theorem dX6_place_109 : gw_dc cX6_place 109 (.invokevirtual 63) 3 112 := ⟨by decide +kernel, rfl⟩
theorem dX6_place_112 : gw_dc cX6_place 112 (.imul) 1 113 := ⟨by decide +kernel, rfl⟩
theorem dX6_place_113 : gw_dc cX6_place 113 (.iadd) 1 114 := ⟨by decide +kernel, rfl⟩
theorem dX6_place_114 : gw_dc cX6_place 114 (.istore 8) 2 116 := ⟨by decide +kernel, rfl⟩
theorem dX6_place_116 : gw_dc cX6_place 116 (.aload_n 0) 1 117 := ⟨by decide +kernel, rfl⟩
theorem dX6_place_117 : gw_dc cX6_place 117 (.getfield 14) 3 120 := ⟨by decide +kernel, rfl⟩
theorem fk_RX6_14 : gw_fk RX6 14 6 2 10 1 true := ⟨_, _, _, ck_6, by decide, by decide, fun h => absurd h (by decide), fun h => absurd h (by decide), fun _ => Or.inl ⟨_, rfl⟩, rfl, Or.inl (gw_mem 443 (by decide +kernel) rfl)⟩
theorem rf_128_2 {ad : Nat → Nat} : (gw_M0 ad).2.2 128 2 = some 129 := (by decide +kernel : gw_rh 128 2 = some 129)
theorem in_129 : (129, 8) ∈ gw_rows := by decide +kernel
theorem dX6_place_120 : gw_dc cX6_place 120 (.iload_n 1) 1 121 := ⟨by decide +kernel, rfl⟩
theorem dX6_place_121 : gw_dc cX6_place 121 (.iload_n 2) 1 122 := ⟨by decide +kernel, rfl⟩
theorem dX6_place_122 : gw_dc cX6_place 122 (.invokevirtual 67) 3 125 := ⟨by decide +kernel, rfl⟩
theorem mv_RX6_67 : gw_mv RX6 67 yX4_put := ⟨gw_mem 693 (by decide +kernel) rfl, gw_mem 207 (by decide +kernel) rfl, gw_mem 208 (by decide +kernel) rfl⟩
theorem dX6_place_125 : gw_dc cX6_place 125 (.aload_n 0) 1 126 := ⟨by decide +kernel, rfl⟩
theorem dX6_place_126 : gw_dc cX6_place 126 (.getfield 20) 3 129 := ⟨by decide +kernel, rfl⟩
theorem fk_RX6_20 : gw_fk RX6 20 6 3 10 1 true := ⟨_, _, _, ck_6, by decide, by decide, fun h => absurd h (by decide), fun h => absurd h (by decide), fun _ => Or.inl ⟨_, rfl⟩, rfl, Or.inl (gw_mem 444 (by decide +kernel) rfl)⟩
theorem rf_128_3 {ad : Nat → Nat} : (gw_M0 ad).2.2 128 3 = some 131 := (by decide +kernel : gw_rh 128 3 = some 131)
theorem in_131 : (131, 8) ∈ gw_rows := by decide +kernel
theorem dX6_place_129 : gw_dc cX6_place 129 (.iload_n 2) 1 130 := ⟨by decide +kernel, rfl⟩
theorem dX6_place_130 : gw_dc cX6_place 130 (.iconst 1) 1 131 := ⟨by decide +kernel, rfl⟩
theorem dX6_place_131 : gw_dc cX6_place 131 (.invokevirtual 67) 3 134 := ⟨by decide +kernel, rfl⟩
theorem dX6_place_134 : gw_dc cX6_place 134 (.aload_n 0) 1 135 := ⟨by decide +kernel, rfl⟩
theorem dX6_place_135 : gw_dc cX6_place 135 (.getfield 23) 3 138 := ⟨by decide +kernel, rfl⟩
theorem fk_RX6_23 : gw_fk RX6 23 6 4 10 1 true := ⟨_, _, _, ck_6, by decide, by decide, fun h => absurd h (by decide), fun h => absurd h (by decide), fun _ => Or.inl ⟨_, rfl⟩, rfl, Or.inl (gw_mem 445 (by decide +kernel) rfl)⟩
theorem rf_128_4 {ad : Nat → Nat} : (gw_M0 ad).2.2 128 4 = some 133 := (by decide +kernel : gw_rh 128 4 = some 133)
theorem in_133 : (133, 8) ∈ gw_rows := by decide +kernel
theorem dX6_place_138 : gw_dc cX6_place 138 (.iload_n 3) 1 139 := ⟨by decide +kernel, rfl⟩
theorem dX6_place_139 : gw_dc cX6_place 139 (.aload_n 0) 1 140 := ⟨by decide +kernel, rfl⟩
theorem dX6_place_140 : gw_dc cX6_place 140 (.getfield 23) 3 143 := ⟨by decide +kernel, rfl⟩
theorem dX6_place_143 : gw_dc cX6_place 143 (.iload_n 3) 1 144 := ⟨by decide +kernel, rfl⟩
theorem dX6_place_144 : gw_dc cX6_place 144 (.invokevirtual 63) 3 147 := ⟨by decide +kernel, rfl⟩
theorem dX6_place_147 : gw_dc cX6_place 147 (.iconst 1) 1 148 := ⟨by decide +kernel, rfl⟩
theorem dX6_place_148 : gw_dc cX6_place 148 (.isub) 1 149 := ⟨by decide +kernel, rfl⟩
theorem dX6_place_149 : gw_dc cX6_place 149 (.invokevirtual 67) 3 152 := ⟨by decide +kernel, rfl⟩
theorem dX6_place_152 : gw_dc cX6_place 152 (.aload_n 0) 1 153 := ⟨by decide +kernel, rfl⟩
theorem dX6_place_153 : gw_dc cX6_place 153 (.getfield 26) 3 156 := ⟨by decide +kernel, rfl⟩
theorem dX6_place_156 : gw_dc cX6_place 156 (.iload_n 1) 1 157 := ⟨by decide +kernel, rfl⟩
theorem dX6_place_157 : gw_dc cX6_place 157 (.iconst 1) 1 158 := ⟨by decide +kernel, rfl⟩
theorem dX6_place_158 : gw_dc cX6_place 158 (.iadd) 1 159 := ⟨by decide +kernel, rfl⟩
theorem dX6_place_159 : gw_dc cX6_place 159 (.iload 8) 2 161 := ⟨by decide +kernel, rfl⟩
theorem dX6_place_161 : gw_dc cX6_place 161 (.invokevirtual 67) 3 164 := ⟨by decide +kernel, rfl⟩
theorem dX6_place_164 : gw_dc cX6_place 164 (.aload_n 0) 1 165 := ⟨by decide +kernel, rfl⟩
theorem dX6_place_165 : gw_dc cX6_place 165 (.getfield 29) 3 168 := ⟨by decide +kernel, rfl⟩
theorem dX6_place_168 : gw_dc cX6_place 168 (.iload_n 1) 1 169 := ⟨by decide +kernel, rfl⟩
theorem dX6_place_169 : gw_dc cX6_place 169 (.iconst 1) 1 170 := ⟨by decide +kernel, rfl⟩
theorem dX6_place_170 : gw_dc cX6_place 170 (.iadd) 1 171 := ⟨by decide +kernel, rfl⟩
theorem dX6_place_171 : gw_dc cX6_place 171 (.iload 4) 2 173 := ⟨by decide +kernel, rfl⟩
theorem dX6_place_173 : gw_dc cX6_place 173 (.invokevirtual 67) 3 176 := ⟨by decide +kernel, rfl⟩
theorem dX6_place_176 : gw_dc cX6_place 176 (.aload_n 0) 1 177 := ⟨by decide +kernel, rfl⟩
theorem dX6_place_177 : gw_dc cX6_place 177 (.getfield 23) 3 180 := ⟨by decide +kernel, rfl⟩
theorem dX6_place_180 : gw_dc cX6_place 180 (.iload_n 3) 1 181 := ⟨by decide +kernel, rfl⟩
theorem dX6_place_181 : gw_dc cX6_place 181 (.invokevirtual 63) 3 184 := ⟨by decide +kernel, rfl⟩
theorem dX6_place_184 : gw_dc cX6_place 184 (.ifCond .ne 23) 3 187 := ⟨by decide +kernel, rfl⟩
theorem dX6_place_207 : gw_dc cX6_place 207 (.iconst 0) 1 208 := ⟨by decide +kernel, rfl⟩
theorem dX6_place_208 : gw_dc cX6_place 208 (.istore 9) 2 210 := ⟨by decide +kernel, rfl⟩
theorem dX6_place_210 : gw_dc cX6_place 210 (.aload_n 0) 1 211 := ⟨by decide +kernel, rfl⟩
theorem dX6_place_211 : gw_dc cX6_place 211 (.getfield 32) 3 214 := ⟨by decide +kernel, rfl⟩
theorem fk_RX6_32 : gw_fk RX6 32 6 7 10 1 true := ⟨_, _, _, ck_6, by decide, by decide, fun h => absurd h (by decide), fun h => absurd h (by decide), fun _ => Or.inl ⟨_, rfl⟩, rfl, Or.inl (gw_mem 448 (by decide +kernel) rfl)⟩
theorem rf_128_7 {ad : Nat → Nat} : (gw_M0 ad).2.2 128 7 = some 139 := (by decide +kernel : gw_rh 128 7 = some 139)
theorem in_139 : (139, 9) ∈ gw_rows := by decide +kernel
theorem dX6_place_214 : gw_dc cX6_place 214 (.iload_n 1) 1 215 := ⟨by decide +kernel, rfl⟩
theorem dX6_place_215 : gw_dc cX6_place 215 (.iconst 1) 1 216 := ⟨by decide +kernel, rfl⟩
theorem dX6_place_216 : gw_dc cX6_place 216 (.iadd) 1 217 := ⟨by decide +kernel, rfl⟩
theorem dX6_place_217 : gw_dc cX6_place 217 (.aload_n 0) 1 218 := ⟨by decide +kernel, rfl⟩
theorem dX6_place_218 : gw_dc cX6_place 218 (.getfield 32) 3 221 := ⟨by decide +kernel, rfl⟩
theorem dX6_place_221 : gw_dc cX6_place 221 (.iload_n 1) 1 222 := ⟨by decide +kernel, rfl⟩
theorem dX6_place_222 : gw_dc cX6_place 222 (.invokevirtual 63) 3 225 := ⟨by decide +kernel, rfl⟩
theorem dX6_place_225 : gw_dc cX6_place 225 (.iload 9) 2 227 := ⟨by decide +kernel, rfl⟩
theorem dX6_place_227 : gw_dc cX6_place 227 (.iadd) 1 228 := ⟨by decide +kernel, rfl⟩
theorem dX6_place_228 : gw_dc cX6_place 228 (.invokevirtual 67) 3 231 := ⟨by decide +kernel, rfl⟩
theorem dX6_place_231 : decode cX6_place 231 = .ok (.return_, 1) := by decide +kernel
theorem dX6_place_187 : gw_dc cX6_place 187 (.aload_n 0) 1 188 := ⟨by decide +kernel, rfl⟩
theorem dX6_place_188 : gw_dc cX6_place 188 (.getfield 38) 3 191 := ⟨by decide +kernel, rfl⟩
theorem dX6_place_191 : gw_dc cX6_place 191 (.getfield 116) 3 194 := ⟨by decide +kernel, rfl⟩
theorem fk_RX6_116 : gw_fk RX6 116 1 12 16 1 true := ⟨_, _, _, ck_1, by decide, by decide, fun h => absurd h (by decide), fun h => absurd h (by decide), fun _ => Or.inl ⟨_, rfl⟩, rfl, Or.inr ⟨"LightestSack", gw_memN 274 (by decide +kernel) rfl⟩⟩
theorem dX6_place_194 : gw_dc cX6_place 194 (.iload_n 3) 1 195 := ⟨by decide +kernel, rfl⟩
theorem dX6_place_195 : gw_dc cX6_place 195 (.invokevirtual 63) 3 198 := ⟨by decide +kernel, rfl⟩
theorem dX6_place_198 : gw_dc cX6_place 198 (.iload 8) 2 200 := ⟨by decide +kernel, rfl⟩
theorem dX6_place_200 : gw_dc cX6_place 200 (.iload 6) 2 202 := ⟨by decide +kernel, rfl⟩
theorem dX6_place_202 : gw_dc cX6_place 202 (.isub) 1 203 := ⟨by decide +kernel, rfl⟩
theorem dX6_place_203 : gw_dc cX6_place 203 (.imul) 1 204 := ⟨by decide +kernel, rfl⟩
theorem dX6_place_204 : gw_dc cX6_place 204 (.goto 4) 3 207 := ⟨by decide +kernel, rfl⟩
theorem dX6_place_54 : gw_dc cX6_place 54 (.iload 5) 2 56 := ⟨by decide +kernel, rfl⟩
theorem dX6_place_56 : gw_dc cX6_place 56 (.iload 4) 2 58 := ⟨by decide +kernel, rfl⟩
theorem dX6_place_58 : gw_dc cX6_place 58 (.if_icmp .ne 7) 3 61 := ⟨by decide +kernel, rfl⟩
theorem dX6_place_65 : gw_dc cX6_place 65 (.aload_n 0) 1 66 := ⟨by decide +kernel, rfl⟩
theorem dX6_place_66 : gw_dc cX6_place 66 (.getfield 38) 3 69 := ⟨by decide +kernel, rfl⟩
theorem dX6_place_69 : gw_dc cX6_place 69 (.getfield 101) 3 72 := ⟨by decide +kernel, rfl⟩
theorem fk_RX6_101 : gw_fk RX6 101 1 3 16 0 false := ⟨_, _, _, ck_1, by decide, by decide, fun _ => rfl, fun h => absurd h (by decide), fun h => absurd h (by decide), rfl, Or.inr ⟨"LightestSack", gw_memN 242 (by decide +kernel) rfl⟩⟩
theorem dX6_takeBack_0 : gw_dc cX6_takeBack 0 (.aload_n 0) 1 1 := ⟨by decide +kernel, rfl⟩
theorem dX6_takeBack_1 : gw_dc cX6_takeBack 1 (.getfield 42) 3 4 := ⟨by decide +kernel, rfl⟩
theorem dX6_takeBack_4 : gw_dc cX6_takeBack 4 (.getfield 92) 3 7 := ⟨by decide +kernel, rfl⟩
theorem dX6_takeBack_7 : gw_dc cX6_takeBack 7 (.iload_n 1) 1 8 := ⟨by decide +kernel, rfl⟩
theorem dX6_takeBack_8 : gw_dc cX6_takeBack 8 (.invokevirtual 63) 3 11 := ⟨by decide +kernel, rfl⟩
theorem dX6_takeBack_11 : gw_dc cX6_takeBack 11 (.istore_n 2) 1 12 := ⟨by decide +kernel, rfl⟩
theorem dX6_takeBack_12 : gw_dc cX6_takeBack 12 (.aload_n 0) 1 13 := ⟨by decide +kernel, rfl⟩
theorem dX6_takeBack_13 : gw_dc cX6_takeBack 13 (.getfield 20) 3 16 := ⟨by decide +kernel, rfl⟩
theorem dX6_takeBack_16 : gw_dc cX6_takeBack 16 (.iload_n 1) 1 17 := ⟨by decide +kernel, rfl⟩
theorem dX6_takeBack_17 : gw_dc cX6_takeBack 17 (.iconst 0) 1 18 := ⟨by decide +kernel, rfl⟩
theorem dX6_takeBack_18 : gw_dc cX6_takeBack 18 (.invokevirtual 67) 3 21 := ⟨by decide +kernel, rfl⟩
theorem dX6_takeBack_21 : gw_dc cX6_takeBack 21 (.aload_n 0) 1 22 := ⟨by decide +kernel, rfl⟩
theorem dX6_takeBack_22 : gw_dc cX6_takeBack 22 (.getfield 23) 3 25 := ⟨by decide +kernel, rfl⟩
theorem dX6_takeBack_25 : gw_dc cX6_takeBack 25 (.iload_n 2) 1 26 := ⟨by decide +kernel, rfl⟩
theorem dX6_takeBack_26 : gw_dc cX6_takeBack 26 (.aload_n 0) 1 27 := ⟨by decide +kernel, rfl⟩
theorem dX6_takeBack_27 : gw_dc cX6_takeBack 27 (.getfield 23) 3 30 := ⟨by decide +kernel, rfl⟩
theorem dX6_takeBack_30 : gw_dc cX6_takeBack 30 (.iload_n 2) 1 31 := ⟨by decide +kernel, rfl⟩
theorem dX6_takeBack_31 : gw_dc cX6_takeBack 31 (.invokevirtual 63) 3 34 := ⟨by decide +kernel, rfl⟩
theorem dX6_takeBack_34 : gw_dc cX6_takeBack 34 (.iconst 1) 1 35 := ⟨by decide +kernel, rfl⟩
theorem dX6_takeBack_35 : gw_dc cX6_takeBack 35 (.iadd) 1 36 := ⟨by decide +kernel, rfl⟩
theorem dX6_takeBack_36 : gw_dc cX6_takeBack 36 (.invokevirtual 67) 3 39 := ⟨by decide +kernel, rfl⟩
theorem dX6_takeBack_39 : decode cX6_takeBack 39 = .ok (.return_, 1) := by decide +kernel
theorem dX6_extend_0 : gw_dc cX6_extend 0 (.iload_n 1) 1 1 := ⟨by decide +kernel, rfl⟩
theorem dX6_extend_1 : gw_dc cX6_extend 1 (.bipush 8) 2 3 := ⟨by decide +kernel, rfl⟩
theorem dX6_extend_3 : gw_dc cX6_extend 3 (.if_icmp .gt 18) 3 6 := ⟨by decide +kernel, rfl⟩
theorem dX6_extend_21 : decode cX6_extend 21 = .ok (.return_, 1) := by decide +kernel
theorem dX6_extend_6 : gw_dc cX6_extend 6 (.aload_n 0) 1 7 := ⟨by decide +kernel, rfl⟩
theorem dX6_extend_7 : gw_dc cX6_extend 7 (.getfield 32) 3 10 := ⟨by decide +kernel, rfl⟩
theorem dX6_extend_10 : gw_dc cX6_extend 10 (.iload_n 1) 1 11 := ⟨by decide +kernel, rfl⟩
theorem dX6_extend_11 : gw_dc cX6_extend 11 (.invokevirtual 63) 3 14 := ⟨by decide +kernel, rfl⟩
theorem dX6_extend_14 : gw_dc cX6_extend 14 (.aload_n 0) 1 15 := ⟨by decide +kernel, rfl⟩
theorem dX6_extend_15 : gw_dc cX6_extend 15 (.getfield 72) 3 18 := ⟨by decide +kernel, rfl⟩
theorem fk_RX6_72 : gw_fk RX6 72 6 9 10 0 false := ⟨_, _, _, ck_6, by decide, by decide, fun _ => rfl, fun h => absurd h (by decide), fun h => absurd h (by decide), rfl, Or.inl (gw_mem 451 (by decide +kernel) rfl)⟩
theorem dX6_extend_18 : gw_dc cX6_extend 18 (.if_icmp .lt 4) 3 21 := ⟨by decide +kernel, rfl⟩
theorem dX6_extend_22 : gw_dc cX6_extend 22 (.iload_n 1) 1 23 := ⟨by decide +kernel, rfl⟩
theorem dX6_extend_23 : gw_dc cX6_extend 23 (.aload_n 0) 1 24 := ⟨by decide +kernel, rfl⟩
theorem dX6_extend_24 : gw_dc cX6_extend 24 (.getfield 42) 3 27 := ⟨by decide +kernel, rfl⟩
theorem dX6_extend_27 : gw_dc cX6_extend 27 (.getfield 79) 3 30 := ⟨by decide +kernel, rfl⟩
theorem fk_RX6_79 : gw_fk RX6 79 5 1 15 0 false := ⟨_, _, _, ck_5, by decide, by decide, fun _ => rfl, fun h => absurd h (by decide), fun h => absurd h (by decide), rfl, Or.inr ⟨"LightestSack", gw_memN 328 (by decide +kernel) rfl⟩⟩
theorem dX6_extend_30 : gw_dc cX6_extend 30 (.if_icmp .ne 27) 3 33 := ⟨by decide +kernel, rfl⟩
theorem dX6_extend_57 : gw_dc cX6_extend 57 (.iconst 0) 1 58 := ⟨by decide +kernel, rfl⟩
theorem dX6_extend_58 : gw_dc cX6_extend 58 (.istore_n 2) 1 59 := ⟨by decide +kernel, rfl⟩
theorem dX6_extend_59 : gw_dc cX6_extend 59 (.iload_n 2) 1 60 := ⟨by decide +kernel, rfl⟩
theorem dX6_extend_60 : gw_dc cX6_extend 60 (.aload_n 0) 1 61 := ⟨by decide +kernel, rfl⟩
theorem dX6_extend_61 : gw_dc cX6_extend 61 (.getfield 42) 3 64 := ⟨by decide +kernel, rfl⟩
theorem dX6_extend_64 : gw_dc cX6_extend 64 (.getfield 79) 3 67 := ⟨by decide +kernel, rfl⟩
theorem dX6_extend_67 : gw_dc cX6_extend 67 (.if_icmp .ge 38) 3 70 := ⟨by decide +kernel, rfl⟩
theorem dX6_extend_105 : decode cX6_extend 105 = .ok (.return_, 1) := by decide +kernel
theorem dX6_extend_70 : gw_dc cX6_extend 70 (.aload_n 0) 1 71 := ⟨by decide +kernel, rfl⟩
theorem dX6_extend_71 : gw_dc cX6_extend 71 (.getfield 20) 3 74 := ⟨by decide +kernel, rfl⟩
theorem dX6_extend_74 : gw_dc cX6_extend 74 (.iload_n 2) 1 75 := ⟨by decide +kernel, rfl⟩
theorem dX6_extend_75 : gw_dc cX6_extend 75 (.invokevirtual 63) 3 78 := ⟨by decide +kernel, rfl⟩
theorem dX6_extend_78 : gw_dc cX6_extend 78 (.ifCond .ne 21) 3 81 := ⟨by decide +kernel, rfl⟩
theorem dX6_extend_99 : gw_dc cX6_extend 99 (.iinc 2 1) 3 102 := ⟨by decide +kernel, rfl⟩
theorem dX6_extend_102 : gw_dc cX6_extend 102 (.goto (-43)) 3 105 := ⟨by decide +kernel, rfl⟩
theorem dX6_extend_81 : gw_dc cX6_extend 81 (.aload_n 0) 1 82 := ⟨by decide +kernel, rfl⟩
theorem dX6_extend_82 : gw_dc cX6_extend 82 (.iload_n 1) 1 83 := ⟨by decide +kernel, rfl⟩
theorem dX6_extend_83 : gw_dc cX6_extend 83 (.iload_n 2) 1 84 := ⟨by decide +kernel, rfl⟩
theorem dX6_extend_84 : gw_dc cX6_extend 84 (.invokevirtual 86) 3 87 := ⟨by decide +kernel, rfl⟩
theorem mv_RX6_86 : gw_mv RX6 86 yX6_place := ⟨gw_mem 702 (by decide +kernel) rfl, gw_mem 704 (by decide +kernel) rfl, gw_mem 6 (by decide +kernel) rfl⟩
theorem my_X6_place : gw_my yX6_place cX6_place 10 none 2 := ⟨gw_mem 705 (by decide +kernel) rfl, gw_mem 104 (by decide +kernel) rfl, by decide +kernel, by decide⟩
theorem dX6_extend_87 : gw_dc cX6_extend 87 (.aload_n 0) 1 88 := ⟨by decide +kernel, rfl⟩
theorem dX6_extend_88 : gw_dc cX6_extend 88 (.iload_n 1) 1 89 := ⟨by decide +kernel, rfl⟩
theorem dX6_extend_89 : gw_dc cX6_extend 89 (.iconst 1) 1 90 := ⟨by decide +kernel, rfl⟩
theorem dX6_extend_90 : gw_dc cX6_extend 90 (.iadd) 1 91 := ⟨by decide +kernel, rfl⟩
theorem dX6_extend_91 : gw_dc cX6_extend 91 (.invokestatic 75) 3 94 := ⟨by decide +kernel, rfl⟩
theorem ms_RX6_75 : gw_mst RX6 75 yX6_extend := ⟨gw_mem 695 (by decide +kernel) rfl, gw_mem 696 (by decide +kernel) rfl⟩
theorem my_X6_extend : gw_my yX6_extend cX6_extend 3 none 2 := ⟨gw_mem 697 (by decide +kernel) rfl, gw_mem 104 (by decide +kernel) rfl, by decide +kernel, by decide⟩
theorem dX6_extend_94 : gw_dc cX6_extend 94 (.aload_n 0) 1 95 := ⟨by decide +kernel, rfl⟩
theorem dX6_extend_95 : gw_dc cX6_extend 95 (.iload_n 2) 1 96 := ⟨by decide +kernel, rfl⟩
theorem dX6_extend_96 : gw_dc cX6_extend 96 (.invokevirtual 89) 3 99 := ⟨by decide +kernel, rfl⟩
theorem mv_RX6_89 : gw_mv RX6 89 yX6_takeBack := ⟨gw_mem 707 (by decide +kernel) rfl, gw_mem 709 (by decide +kernel) rfl, gw_mem 7 (by decide +kernel) rfl⟩
theorem my_X6_takeBack : gw_my yX6_takeBack cX6_takeBack 3 none 1 := ⟨gw_mem 710 (by decide +kernel) rfl, gw_mem 104 (by decide +kernel) rfl, by decide +kernel, by decide⟩
theorem dX6_extend_33 : gw_dc cX6_extend 33 (.aload_n 0) 1 34 := ⟨by decide +kernel, rfl⟩
theorem dX6_extend_34 : gw_dc cX6_extend 34 (.aload_n 0) 1 35 := ⟨by decide +kernel, rfl⟩
theorem dX6_extend_35 : gw_dc cX6_extend 35 (.getfield 32) 3 38 := ⟨by decide +kernel, rfl⟩
theorem dX6_extend_38 : gw_dc cX6_extend 38 (.iload_n 1) 1 39 := ⟨by decide +kernel, rfl⟩
theorem dX6_extend_39 : gw_dc cX6_extend 39 (.invokevirtual 63) 3 42 := ⟨by decide +kernel, rfl⟩
theorem dX6_extend_42 : gw_dc cX6_extend 42 (.putfield 72) 3 45 := ⟨by decide +kernel, rfl⟩
theorem dX6_extend_45 : gw_dc cX6_extend 45 (.aload_n 0) 1 46 := ⟨by decide +kernel, rfl⟩
theorem dX6_extend_46 : gw_dc cX6_extend 46 (.getfield 35) 3 49 := ⟨by decide +kernel, rfl⟩
theorem fk_RX6_35 : gw_fk RX6 35 6 8 10 1 true := ⟨_, _, _, ck_6, by decide, by decide, fun h => absurd h (by decide), fun h => absurd h (by decide), fun _ => Or.inl ⟨_, rfl⟩, rfl, Or.inl (gw_mem 449 (by decide +kernel) rfl)⟩
theorem rf_128_8 {ad : Nat → Nat} : (gw_M0 ad).2.2 128 8 = some 141 := (by decide +kernel : gw_rh 128 8 = some 141)
theorem in_141 : (141, 8) ∈ gw_rows := by decide +kernel
theorem dX6_extend_49 : gw_dc cX6_extend 49 (.aload_n 0) 1 50 := ⟨by decide +kernel, rfl⟩
theorem dX6_extend_50 : gw_dc cX6_extend 50 (.getfield 14) 3 53 := ⟨by decide +kernel, rfl⟩
theorem dX6_extend_53 : gw_dc cX6_extend 53 (.invokevirtual 82) 3 56 := ⟨by decide +kernel, rfl⟩
theorem mv_RX6_82 : gw_mv RX6 82 yX4_copyOf := ⟨gw_mem 698 (by decide +kernel) rfl, gw_mem 699 (by decide +kernel) rfl, gw_mem 700 (by decide +kernel) rfl⟩
theorem dX6_extend_56 : decode cX6_extend 56 = .ok (.return_, 1) := by decide +kernel
theorem dX6_seek_0 : gw_dc cX6_seek 0 (.aload_n 0) 1 1 := ⟨by decide +kernel, rfl⟩
theorem dX6_seek_1 : gw_dc cX6_seek 1 (.getfield 42) 3 4 := ⟨by decide +kernel, rfl⟩
theorem dX6_seek_4 : gw_dc cX6_seek 4 (.invokevirtual 46) 3 7 := ⟨by decide +kernel, rfl⟩
theorem mv_RX6_46 : gw_mv RX6 46 yX5_lay := ⟨gw_mem 690 (by decide +kernel) rfl, gw_mem 589 (by decide +kernel) rfl, gw_mem 590 (by decide +kernel) rfl⟩
theorem dX6_seek_7 : gw_dc cX6_seek 7 (.aload_n 0) 1 8 := ⟨by decide +kernel, rfl⟩
theorem dX6_seek_8 : gw_dc cX6_seek 8 (.getfield 20) 3 11 := ⟨by decide +kernel, rfl⟩
theorem dX6_seek_11 : gw_dc cX6_seek 11 (.iconst 0) 1 12 := ⟨by decide +kernel, rfl⟩
theorem dX6_seek_12 : gw_dc cX6_seek 12 (.invokevirtual 51) 3 15 := ⟨by decide +kernel, rfl⟩
theorem mv_RX6_51 : gw_mv RX6 51 yX4_fill := ⟨gw_mem 691 (by decide +kernel) rfl, gw_mem 599 (by decide +kernel) rfl, gw_mem 600 (by decide +kernel) rfl⟩
theorem dX6_seek_15 : gw_dc cX6_seek 15 (.iconst 0) 1 16 := ⟨by decide +kernel, rfl⟩
theorem dX6_seek_16 : gw_dc cX6_seek 16 (.istore_n 1) 1 17 := ⟨by decide +kernel, rfl⟩
theorem dX6_seek_17 : gw_dc cX6_seek 17 (.iload_n 1) 1 18 := ⟨by decide +kernel, rfl⟩
theorem dX6_seek_18 : gw_dc cX6_seek 18 (.aload_n 0) 1 19 := ⟨by decide +kernel, rfl⟩
theorem dX6_seek_19 : gw_dc cX6_seek 19 (.getfield 38) 3 22 := ⟨by decide +kernel, rfl⟩
theorem dX6_seek_22 : gw_dc cX6_seek 22 (.getfield 54) 3 25 := ⟨by decide +kernel, rfl⟩
theorem fk_RX6_54 : gw_fk RX6 54 1 5 16 0 false := ⟨_, _, _, ck_1, by decide, by decide, fun _ => rfl, fun h => absurd h (by decide), fun h => absurd h (by decide), rfl, Or.inr ⟨"LightestSack", gw_memN 250 (by decide +kernel) rfl⟩⟩
theorem dX6_seek_25 : gw_dc cX6_seek 25 (.if_icmp .ge 28) 3 28 := ⟨by decide +kernel, rfl⟩
theorem dX6_seek_53 : gw_dc cX6_seek 53 (.aload_n 0) 1 54 := ⟨by decide +kernel, rfl⟩
theorem dX6_seek_54 : gw_dc cX6_seek 54 (.getfield 26) 3 57 := ⟨by decide +kernel, rfl⟩
theorem dX6_seek_57 : gw_dc cX6_seek 57 (.iconst 0) 1 58 := ⟨by decide +kernel, rfl⟩
theorem dX6_seek_58 : gw_dc cX6_seek 58 (.iconst 0) 1 59 := ⟨by decide +kernel, rfl⟩
theorem dX6_seek_59 : gw_dc cX6_seek 59 (.invokevirtual 67) 3 62 := ⟨by decide +kernel, rfl⟩
theorem dX6_seek_62 : gw_dc cX6_seek 62 (.aload_n 0) 1 63 := ⟨by decide +kernel, rfl⟩
theorem dX6_seek_63 : gw_dc cX6_seek 63 (.getfield 29) 3 66 := ⟨by decide +kernel, rfl⟩
theorem dX6_seek_66 : gw_dc cX6_seek 66 (.iconst 0) 1 67 := ⟨by decide +kernel, rfl⟩
theorem dX6_seek_67 : gw_dc cX6_seek 67 (.iconst (-1)) 1 68 := ⟨by decide +kernel, rfl⟩
theorem dX6_seek_68 : gw_dc cX6_seek 68 (.invokevirtual 67) 3 71 := ⟨by decide +kernel, rfl⟩
theorem dX6_seek_71 : gw_dc cX6_seek 71 (.aload_n 0) 1 72 := ⟨by decide +kernel, rfl⟩
theorem dX6_seek_72 : gw_dc cX6_seek 72 (.getfield 32) 3 75 := ⟨by decide +kernel, rfl⟩
theorem dX6_seek_75 : gw_dc cX6_seek 75 (.iconst 0) 1 76 := ⟨by decide +kernel, rfl⟩
theorem dX6_seek_76 : gw_dc cX6_seek 76 (.iconst 0) 1 77 := ⟨by decide +kernel, rfl⟩
theorem dX6_seek_77 : gw_dc cX6_seek 77 (.invokevirtual 67) 3 80 := ⟨by decide +kernel, rfl⟩
theorem dX6_seek_80 : gw_dc cX6_seek 80 (.aload_n 0) 1 81 := ⟨by decide +kernel, rfl⟩
theorem dX6_seek_81 : gw_dc cX6_seek 81 (.ldc 71) 2 83 := ⟨by decide +kernel, rfl⟩
theorem kc_RX6_71 : Cond.constant RX6 71 (Int32.ofInt 1000000000) ∈ wsG := gw_mem 694 (by decide +kernel) rfl
theorem dX6_seek_83 : gw_dc cX6_seek 83 (.putfield 72) 3 86 := ⟨by decide +kernel, rfl⟩
theorem dX6_seek_86 : gw_dc cX6_seek 86 (.aload_n 0) 1 87 := ⟨by decide +kernel, rfl⟩
theorem dX6_seek_87 : gw_dc cX6_seek 87 (.iconst 0) 1 88 := ⟨by decide +kernel, rfl⟩
theorem dX6_seek_88 : gw_dc cX6_seek 88 (.invokestatic 75) 3 91 := ⟨by decide +kernel, rfl⟩
theorem dX6_seek_91 : decode cX6_seek 91 = .ok (.return_, 1) := by decide +kernel
theorem dX6_seek_28 : gw_dc cX6_seek 28 (.aload_n 0) 1 29 := ⟨by decide +kernel, rfl⟩
theorem dX6_seek_29 : gw_dc cX6_seek 29 (.getfield 23) 3 32 := ⟨by decide +kernel, rfl⟩
theorem dX6_seek_32 : gw_dc cX6_seek 32 (.iload_n 1) 1 33 := ⟨by decide +kernel, rfl⟩
theorem dX6_seek_33 : gw_dc cX6_seek 33 (.aload_n 0) 1 34 := ⟨by decide +kernel, rfl⟩
theorem dX6_seek_34 : gw_dc cX6_seek 34 (.getfield 38) 3 37 := ⟨by decide +kernel, rfl⟩
theorem dX6_seek_37 : gw_dc cX6_seek 37 (.getfield 60) 3 40 := ⟨by decide +kernel, rfl⟩
theorem fk_RX6_60 : gw_fk RX6 60 1 14 16 1 true := ⟨_, _, _, ck_1, by decide, by decide, fun h => absurd h (by decide), fun h => absurd h (by decide), fun _ => Or.inl ⟨_, rfl⟩, rfl, Or.inr ⟨"LightestSack", gw_memN 281 (by decide +kernel) rfl⟩⟩
theorem dX6_seek_40 : gw_dc cX6_seek 40 (.iload_n 1) 1 41 := ⟨by decide +kernel, rfl⟩
theorem dX6_seek_41 : gw_dc cX6_seek 41 (.invokevirtual 63) 3 44 := ⟨by decide +kernel, rfl⟩
theorem dX6_seek_44 : gw_dc cX6_seek 44 (.invokevirtual 67) 3 47 := ⟨by decide +kernel, rfl⟩
theorem dX6_seek_47 : gw_dc cX6_seek 47 (.iinc 1 1) 3 50 := ⟨by decide +kernel, rfl⟩
theorem dX6_seek_50 : gw_dc cX6_seek 50 (.goto (-33)) 3 53 := ⟨by decide +kernel, rfl⟩
/-! Search (128: 130 path, 132 used, 134 left, 136 minutes, 138 lastSorts, 140 costs, 142 first, its field 9 least), over the mill 4 and the run 26 -/
def pl (σ : Sg) (depth p : Int) : Sg :=
  let s := rAt σ 28 60 p
  let sort := rAt σ 17 60 s
  let last := rAt σ 138 9 depth
  let come := rAt σ 15 60 s
  let cl := if last = -1 ∨ last = sort then 0 else σ 4 3
  let e := wr (wr (max (rAt σ 136 9 depth) come + cl) + wr (rAt σ 9 3 0 * rAt σ 30 60 p))
  let σ1 := rPut σ 130 8 depth p
  let σ2 := rPut σ1 132 8 p 1
  let σ3 := rPut σ2 134 8 s (wr (rAt σ2 134 8 s - 1))
  let σ4 := rPut σ3 136 9 (wr (depth + 1)) e
  let σ5 := rPut σ4 138 9 (wr (depth + 1)) sort
  let more := if rAt σ5 134 8 s = 0 then wr (rAt σ5 19 60 s * wr (e - come)) else 0
  rPut σ5 140 9 (wr (depth + 1)) (wr (rAt σ5 140 9 depth + more))
def tb (σ : Sg) (p : Int) : Sg := rPut (rPut σ 132 8 p 0) 134 8 (rAt σ 28 60 p) (wr (rAt (rPut σ 132 8 p 0) 134 8 (rAt σ 28 60 p) + 1))
def exS (rec : Nat → Sg → Sg) (d p : Nat) (σ : Sg) : Sg := if rAt σ 132 8 p = 0 then tb (rec (d + 1) (pl σ d p)) p else σ
/-- extend at depth d, with n levels left (n + d = 9) -/
def exF : Nat → Nat → Sg → Sg
  | 0, _, σ => σ
  | n + 1, d, σ => if σ 128 9 ≤ rAt σ 140 9 d then σ else if (d : Nat) = σ 26 1 then rCopy (su σ 128 9 (rAt σ 140 9 d)) 142 130 8 else itr (σ 26 1).toNat (exS (exF n) d) σ
theorem pl_off (σ : Sg) (d p : Int) : off 128 143 σ (pl σ d p) := by
  unfold pl; exact ((((((off.rf _ _ _).put (by omega)).put (by omega)).put (by omega)).put (by omega)).put (by omega)).put (by omega)
theorem tb_off (σ : Sg) (p : Int) : off 128 143 σ (tb σ p) := by
  unfold tb; exact ((off.rf _ _ _).put (by omega)).put (by omega)
theorem rCopy_ne {σ : Sg} {c e k a j : Nat} (h : a ≠ c) : rCopy σ c e k a j = σ a j := by simp [rCopy, h]
theorem off.copy {lo hi : Nat} {σ σ' : Sg} (h : off lo hi σ σ') {c e k : Nat} (hc : lo ≤ c ∧ c < hi) : off lo hi σ (rCopy σ' c e k) := fun a ha j => (rCopy_ne (by omega)).trans (h a ha j)
theorem exS_off {rec : Nat → Sg → Sg} (hr : ∀ d σ, off 128 143 σ (rec d σ)) (d p : Nat) (σ : Sg) : off 128 143 σ (exS rec d p σ) := by
  unfold exS; split
  · exact ((pl_off _ _ _).trans (hr _ _)).trans (tb_off _ _)
  · exact off.rf _ _ _
theorem exF_off : ∀ (n d : Nat) (σ : Sg), off 128 143 σ (exF n d σ) := by
  intro n
  induction n with
  | zero => intro d σ; exact off.rf _ _ _
  | succ n ih =>
    intro d σ
    unfold exF
    split
    · exact off.rf _ _ _
    · split
      · exact ((off.rf _ _ _).su (by omega)).copy (by omega)
      · exact (off.rf _ _ _).itr (fun k x => exS_off ih _ k x) _
def ssS (σ0 : Sg) (s : Nat) (σ : Sg) : Sg := rPut σ 134 8 s (rAt σ0 23 60 s)
def ss0 (σ : Sg) : Sg := rFill (ly σ 26 4) 132 8 0
def ss1 (σ : Sg) : Sg := su (rPut (rPut (rPut (itr (σ 4 5).toNat (ssS σ) (ss0 σ)) 136 9 0 0) 138 9 0 (-1)) 140 9 0 0) 128 9 1000000000
def seek (σ : Sg) : Sg := exF 9 0 (ss1 σ)
set_option maxRecDepth 4000 in
theorem s_X6_place (ad : Nat → Nat) (σ : Sg)  (depth : Int) (p : Int) : gw_Sp yX6_place cX6_place 10 none 2 0 0 [vR (some 128), vI depth, vI p] (gw_M0 ad) σ (gw_D none (gw_M0 ad) (pl σ depth p)) gw_no := by
  refine gw_Sp.of [some (vR (some 128)), some (vI depth), some (vI p), none, none, none, none, none, none, none] (by decide +kernel) rfl (Nat.le_of_ble_eq_true rfl) ?_
  intro X G fx het hnm
  refine g_aload_n fx dX6_place_0 rfl ?_
  refine g_getr fx dX6_place_1 fk_RX6_42 o_128 rf_128_1 ?_
  refine g_getr fx dX6_place_4 fk_RX6_92 (run_O in_26) (run_f3 in_26) ?_
  refine g_iload_n fx dX6_place_7 rfl ?_
  refine g_callVD fx dX6_place_8 mv_RX6_63 my_X4_at (s_X4_atC ad _ (run_h3 in_26) (show 27 + 1 = 28 from rfl) _) (row_O (run_h3 in_26)) rfl rfl rfl (Nat.le_of_ble_eq_true rfl) (by decide) (by decide) ?_
  refine g_istore_n fx dX6_place_11 (by decide) rfl rfl ?_
  refine g_aload_n fx dX6_place_12 rfl ?_
  refine g_getr fx dX6_place_13 fk_RX6_38 o_128 rf_128_0 ?_
  refine g_getr fx dX6_place_16 fk_RX6_95 (mill_O in_4) (mill_f11 in_4) ?_
  refine g_iload_n fx dX6_place_19 rfl ?_
  refine g_callVD fx dX6_place_20 mv_RX6_63 my_X4_at (s_X4_atC ad _ (mill_h11 in_4) (show 16 + 1 = 17 from rfl) _) (row_O (mill_h11 in_4)) rfl rfl rfl (Nat.le_of_ble_eq_true rfl) (by decide) (by decide) ?_
  refine g_istore fx dX6_place_23 (by decide) rfl rfl ?_
  refine g_aload_n fx dX6_place_25 rfl ?_
  refine g_getr fx dX6_place_26 fk_RX6_29 o_128 rf_128_6 ?_
  refine g_iload_n fx dX6_place_29 rfl ?_
  refine g_callVD fx dX6_place_30 mv_RX6_63 my_X4_at (s_X4_atC ad _ in_137 (show 137 + 1 = 138 from rfl) _) (row_O in_137) rfl rfl rfl (Nat.le_of_ble_eq_true rfl) (by decide) (by decide) ?_
  refine g_istore fx dX6_place_33 (by decide) rfl rfl ?_
  refine g_aload_n fx dX6_place_35 rfl ?_
  refine g_getr fx dX6_place_36 fk_RX6_38 o_128 rf_128_0 ?_
  refine g_getr fx dX6_place_39 fk_RX6_98 (mill_O in_4) (mill_f10 in_4) ?_
  refine g_iload_n fx dX6_place_42 rfl ?_
  refine g_callVD fx dX6_place_43 mv_RX6_63 my_X4_at (s_X4_atC ad _ (mill_h10 in_4) (show 14 + 1 = 15 from rfl) _) (row_O (mill_h10 in_4)) rfl rfl rfl (Nat.le_of_ble_eq_true rfl) (by decide) (by decide) ?_
  refine g_istore fx dX6_place_46 (by decide) rfl rfl ?_
  refine g_iload fx dX6_place_48 rfl ?_
  refine g_iconst fx dX6_place_50 (by unfold okI; omega) ?_
  refine g_icmp_eq (tgt := 61) fx dX6_place_51 (by decide) (fun h51 => ?_) (fun h51 => ?_)
  · refine g_iconst fx dX6_place_61 (by unfold okI; omega) ?_
    refine g_goto (tgt := 72) fx dX6_place_62 (by decide) ?_
    refine g_istore fx dX6_place_72 (by decide) rfl rfl ?_
    refine g_aload_n fx dX6_place_74 rfl ?_
    refine g_getr fx dX6_place_75 fk_RX6_26 o_128 rf_128_5 ?_
    refine g_iload_n fx dX6_place_78 rfl ?_
    refine g_callVD fx dX6_place_79 mv_RX6_63 my_X4_at (s_X4_atC ad _ in_135 (show 135 + 1 = 136 from rfl) _) (row_O in_135) rfl rfl rfl (Nat.le_of_ble_eq_true rfl) (by decide) (by decide) ?_
    refine g_iload fx dX6_place_82 rfl ?_
    refine g_max fx dX6_place_84 mm_RX6_104 (by decide) (by decide) (by decide) (Nat.le_of_ble_eq_true rfl) ?_
    refine g_iload fx dX6_place_87 rfl ?_
    refine g_iadd fx dX6_place_89 ?_
    refine g_aload_n fx dX6_place_90 rfl ?_
    refine g_getr fx dX6_place_91 fk_RX6_38 o_128 rf_128_0 ?_
    refine g_getr fx dX6_place_94 fk_RX6_110 (mill_O in_4) (mill_f7 in_4) ?_
    refine g_iconst fx dX6_place_97 (by unfold okI; omega) ?_
    refine g_callVD fx dX6_place_98 mv_RX6_63 my_X4_at (s_X4_atC ad _ (mill_h7 in_4) (show 8 + 1 = 9 from rfl) _) (row_O (mill_h7 in_4)) rfl rfl rfl (Nat.le_of_ble_eq_true rfl) (by decide) (by decide) ?_
    refine g_aload_n fx dX6_place_101 rfl ?_
    refine g_getr fx dX6_place_102 fk_RX6_42 o_128 rf_128_1 ?_
    refine g_getr fx dX6_place_105 fk_RX6_113 (run_O in_26) (run_f4 in_26) ?_
    refine g_iload_n fx dX6_place_108 rfl ?_
    refine g_callVD fx dX6_place_109 mv_RX6_63 my_X4_at (s_X4_atC ad _ (run_h4 in_26) (show 29 + 1 = 30 from rfl) _) (row_O (run_h4 in_26)) rfl rfl rfl (Nat.le_of_ble_eq_true rfl) (by decide) (by decide) ?_
    refine g_imul fx dX6_place_112 ?_
    refine g_iadd fx dX6_place_113 ?_
    refine g_istore fx dX6_place_114 (by decide) rfl rfl ?_
    refine g_aload_n fx dX6_place_116 rfl ?_
    refine g_getr fx dX6_place_117 fk_RX6_14 o_128 rf_128_2 ?_
    refine g_iload_n fx dX6_place_120 rfl ?_
    refine g_iload_n fx dX6_place_121 rfl ?_
    refine g_callVD0 fx dX6_place_122 mv_RX6_67 my_X4_put (s_X4_putC ad _ in_129 (show 129 + 1 = 130 from rfl) _ _) (row_O in_129) rfl rfl rfl (Nat.le_of_ble_eq_true rfl) (by decide) (by decide) ?_
    refine g_aload_n fx dX6_place_125 rfl ?_
    refine g_getr fx dX6_place_126 fk_RX6_20 o_128 rf_128_3 ?_
    refine g_iload_n fx dX6_place_129 rfl ?_
    refine g_iconst fx dX6_place_130 (by unfold okI; omega) ?_
    refine g_callVD0 fx dX6_place_131 mv_RX6_67 my_X4_put (s_X4_putC ad _ in_131 (show 131 + 1 = 132 from rfl) _ _) (row_O in_131) rfl rfl rfl (Nat.le_of_ble_eq_true rfl) (by decide) (by decide) ?_
    refine g_aload_n fx dX6_place_134 rfl ?_
    refine g_getr fx dX6_place_135 fk_RX6_23 o_128 rf_128_4 ?_
    refine g_iload_n fx dX6_place_138 rfl ?_
    refine g_aload_n fx dX6_place_139 rfl ?_
    refine g_getr fx dX6_place_140 fk_RX6_23 o_128 rf_128_4 ?_
    refine g_iload_n fx dX6_place_143 rfl ?_
    refine g_callVD fx dX6_place_144 mv_RX6_63 my_X4_at (s_X4_atC ad _ in_133 (show 133 + 1 = 134 from rfl) _) (row_O in_133) rfl rfl rfl (Nat.le_of_ble_eq_true rfl) (by decide) (by decide) ?_
    refine g_iconst fx dX6_place_147 (by unfold okI; omega) ?_
    refine g_isub fx dX6_place_148 ?_
    refine g_callVD0 fx dX6_place_149 mv_RX6_67 my_X4_put (s_X4_putC ad _ in_133 (show 133 + 1 = 134 from rfl) _ _) (row_O in_133) rfl rfl rfl (Nat.le_of_ble_eq_true rfl) (by decide) (by decide) ?_
    refine g_aload_n fx dX6_place_152 rfl ?_
    refine g_getr fx dX6_place_153 fk_RX6_26 o_128 rf_128_5 ?_
    refine g_iload_n fx dX6_place_156 rfl ?_
    refine g_iconst fx dX6_place_157 (by unfold okI; omega) ?_
    refine g_iadd fx dX6_place_158 ?_
    refine g_iload fx dX6_place_159 rfl ?_
    refine g_callVD0 fx dX6_place_161 mv_RX6_67 my_X4_put (s_X4_putC ad _ in_135 (show 135 + 1 = 136 from rfl) _ _) (row_O in_135) rfl rfl rfl (Nat.le_of_ble_eq_true rfl) (by decide) (by decide) ?_
    refine g_aload_n fx dX6_place_164 rfl ?_
    refine g_getr fx dX6_place_165 fk_RX6_29 o_128 rf_128_6 ?_
    refine g_iload_n fx dX6_place_168 rfl ?_
    refine g_iconst fx dX6_place_169 (by unfold okI; omega) ?_
    refine g_iadd fx dX6_place_170 ?_
    refine g_iload fx dX6_place_171 rfl ?_
    refine g_callVD0 fx dX6_place_173 mv_RX6_67 my_X4_put (s_X4_putC ad _ in_137 (show 137 + 1 = 138 from rfl) _ _) (row_O in_137) rfl rfl rfl (Nat.le_of_ble_eq_true rfl) (by decide) (by decide) ?_
    refine g_aload_n fx dX6_place_176 rfl ?_
    refine g_getr fx dX6_place_177 fk_RX6_23 o_128 rf_128_4 ?_
    refine g_iload_n fx dX6_place_180 rfl ?_
    refine g_callVD fx dX6_place_181 mv_RX6_63 my_X4_at (s_X4_atC ad _ in_133 (show 133 + 1 = 134 from rfl) _) (row_O in_133) rfl rfl rfl (Nat.le_of_ble_eq_true rfl) (by decide) (by decide) ?_
    refine g_if_ne (tgt := 207) fx dX6_place_184 (by decide) (fun h184 => ?_) (fun h184 => ?_)
    · refine g_iconst fx dX6_place_207 (by unfold okI; omega) ?_
      refine g_istore fx dX6_place_208 (by decide) rfl rfl ?_
      refine g_aload_n fx dX6_place_210 rfl ?_
      refine g_getr fx dX6_place_211 fk_RX6_32 o_128 rf_128_7 ?_
      refine g_iload_n fx dX6_place_214 rfl ?_
      refine g_iconst fx dX6_place_215 (by unfold okI; omega) ?_
      refine g_iadd fx dX6_place_216 ?_
      refine g_aload_n fx dX6_place_217 rfl ?_
      refine g_getr fx dX6_place_218 fk_RX6_32 o_128 rf_128_7 ?_
      refine g_iload_n fx dX6_place_221 rfl ?_
      refine g_callVD fx dX6_place_222 mv_RX6_63 my_X4_at (s_X4_atC ad _ in_139 (show 139 + 1 = 140 from rfl) _) (row_O in_139) rfl rfl rfl (Nat.le_of_ble_eq_true rfl) (by decide) (by decide) ?_
      refine g_iload fx dX6_place_225 rfl ?_
      refine g_iadd fx dX6_place_227 ?_
      refine g_callVD0 fx dX6_place_228 mv_RX6_67 my_X4_put (s_X4_putC ad _ in_139 (show 139 + 1 = 140 from rfl) _ _) (row_O in_139) rfl rfl rfl (Nat.le_of_ble_eq_true rfl) (by decide) (by decide) ?_
      exact g_vret fx rfl dX6_place_231 (by decide) (by decide) (gw_le.rf _) ⟨rfl, rfl, by rw [pl]; (try dsimp only); (repeat first | rw [if_pos (by omega)] | rw [if_neg (by omega)]) <;> rfl⟩
    · refine g_aload_n fx dX6_place_187 rfl ?_
      refine g_getr fx dX6_place_188 fk_RX6_38 o_128 rf_128_0 ?_
      refine g_getr fx dX6_place_191 fk_RX6_116 (mill_O in_4) (mill_f12 in_4) ?_
      refine g_iload_n fx dX6_place_194 rfl ?_
      refine g_callVD fx dX6_place_195 mv_RX6_63 my_X4_at (s_X4_atC ad _ (mill_h12 in_4) (show 18 + 1 = 19 from rfl) _) (row_O (mill_h12 in_4)) rfl rfl rfl (Nat.le_of_ble_eq_true rfl) (by decide) (by decide) ?_
      refine g_iload fx dX6_place_198 rfl ?_
      refine g_iload fx dX6_place_200 rfl ?_
      refine g_isub fx dX6_place_202 ?_
      refine g_imul fx dX6_place_203 ?_
      refine g_goto (tgt := 208) fx dX6_place_204 (by decide) ?_
      refine g_istore fx dX6_place_208 (by decide) rfl rfl ?_
      refine g_aload_n fx dX6_place_210 rfl ?_
      refine g_getr fx dX6_place_211 fk_RX6_32 o_128 rf_128_7 ?_
      refine g_iload_n fx dX6_place_214 rfl ?_
      refine g_iconst fx dX6_place_215 (by unfold okI; omega) ?_
      refine g_iadd fx dX6_place_216 ?_
      refine g_aload_n fx dX6_place_217 rfl ?_
      refine g_getr fx dX6_place_218 fk_RX6_32 o_128 rf_128_7 ?_
      refine g_iload_n fx dX6_place_221 rfl ?_
      refine g_callVD fx dX6_place_222 mv_RX6_63 my_X4_at (s_X4_atC ad _ in_139 (show 139 + 1 = 140 from rfl) _) (row_O in_139) rfl rfl rfl (Nat.le_of_ble_eq_true rfl) (by decide) (by decide) ?_
      refine g_iload fx dX6_place_225 rfl ?_
      refine g_iadd fx dX6_place_227 ?_
      refine g_callVD0 fx dX6_place_228 mv_RX6_67 my_X4_put (s_X4_putC ad _ in_139 (show 139 + 1 = 140 from rfl) _ _) (row_O in_139) rfl rfl rfl (Nat.le_of_ble_eq_true rfl) (by decide) (by decide) ?_
      exact g_vret fx rfl dX6_place_231 (by decide) (by decide) (gw_le.rf _) ⟨rfl, rfl, by rw [pl]; (try dsimp only); (repeat first | rw [if_pos (by omega)] | rw [if_neg (by omega)]) <;> rfl⟩
  · refine g_iload fx dX6_place_54 rfl ?_
    refine g_iload fx dX6_place_56 rfl ?_
    refine g_icmp_ne (tgt := 65) fx dX6_place_58 (by decide) (fun h58 => ?_) (fun h58 => ?_)
    · refine g_aload_n fx dX6_place_65 rfl ?_
      refine g_getr fx dX6_place_66 fk_RX6_38 o_128 rf_128_0 ?_
      refine g_geti fx dX6_place_69 fk_RX6_101 (by decide) (mill_O in_4) ?_
      refine g_istore fx dX6_place_72 (by decide) rfl rfl ?_
      refine g_aload_n fx dX6_place_74 rfl ?_
      refine g_getr fx dX6_place_75 fk_RX6_26 o_128 rf_128_5 ?_
      refine g_iload_n fx dX6_place_78 rfl ?_
      refine g_callVD fx dX6_place_79 mv_RX6_63 my_X4_at (s_X4_atC ad _ in_135 (show 135 + 1 = 136 from rfl) _) (row_O in_135) rfl rfl rfl (Nat.le_of_ble_eq_true rfl) (by decide) (by decide) ?_
      refine g_iload fx dX6_place_82 rfl ?_
      refine g_max fx dX6_place_84 mm_RX6_104 (by decide) (by decide) (by decide) (Nat.le_of_ble_eq_true rfl) ?_
      refine g_iload fx dX6_place_87 rfl ?_
      refine g_iadd fx dX6_place_89 ?_
      refine g_aload_n fx dX6_place_90 rfl ?_
      refine g_getr fx dX6_place_91 fk_RX6_38 o_128 rf_128_0 ?_
      refine g_getr fx dX6_place_94 fk_RX6_110 (mill_O in_4) (mill_f7 in_4) ?_
      refine g_iconst fx dX6_place_97 (by unfold okI; omega) ?_
      refine g_callVD fx dX6_place_98 mv_RX6_63 my_X4_at (s_X4_atC ad _ (mill_h7 in_4) (show 8 + 1 = 9 from rfl) _) (row_O (mill_h7 in_4)) rfl rfl rfl (Nat.le_of_ble_eq_true rfl) (by decide) (by decide) ?_
      refine g_aload_n fx dX6_place_101 rfl ?_
      refine g_getr fx dX6_place_102 fk_RX6_42 o_128 rf_128_1 ?_
      refine g_getr fx dX6_place_105 fk_RX6_113 (run_O in_26) (run_f4 in_26) ?_
      refine g_iload_n fx dX6_place_108 rfl ?_
      refine g_callVD fx dX6_place_109 mv_RX6_63 my_X4_at (s_X4_atC ad _ (run_h4 in_26) (show 29 + 1 = 30 from rfl) _) (row_O (run_h4 in_26)) rfl rfl rfl (Nat.le_of_ble_eq_true rfl) (by decide) (by decide) ?_
      refine g_imul fx dX6_place_112 ?_
      refine g_iadd fx dX6_place_113 ?_
      refine g_istore fx dX6_place_114 (by decide) rfl rfl ?_
      refine g_aload_n fx dX6_place_116 rfl ?_
      refine g_getr fx dX6_place_117 fk_RX6_14 o_128 rf_128_2 ?_
      refine g_iload_n fx dX6_place_120 rfl ?_
      refine g_iload_n fx dX6_place_121 rfl ?_
      refine g_callVD0 fx dX6_place_122 mv_RX6_67 my_X4_put (s_X4_putC ad _ in_129 (show 129 + 1 = 130 from rfl) _ _) (row_O in_129) rfl rfl rfl (Nat.le_of_ble_eq_true rfl) (by decide) (by decide) ?_
      refine g_aload_n fx dX6_place_125 rfl ?_
      refine g_getr fx dX6_place_126 fk_RX6_20 o_128 rf_128_3 ?_
      refine g_iload_n fx dX6_place_129 rfl ?_
      refine g_iconst fx dX6_place_130 (by unfold okI; omega) ?_
      refine g_callVD0 fx dX6_place_131 mv_RX6_67 my_X4_put (s_X4_putC ad _ in_131 (show 131 + 1 = 132 from rfl) _ _) (row_O in_131) rfl rfl rfl (Nat.le_of_ble_eq_true rfl) (by decide) (by decide) ?_
      refine g_aload_n fx dX6_place_134 rfl ?_
      refine g_getr fx dX6_place_135 fk_RX6_23 o_128 rf_128_4 ?_
      refine g_iload_n fx dX6_place_138 rfl ?_
      refine g_aload_n fx dX6_place_139 rfl ?_
      refine g_getr fx dX6_place_140 fk_RX6_23 o_128 rf_128_4 ?_
      refine g_iload_n fx dX6_place_143 rfl ?_
      refine g_callVD fx dX6_place_144 mv_RX6_63 my_X4_at (s_X4_atC ad _ in_133 (show 133 + 1 = 134 from rfl) _) (row_O in_133) rfl rfl rfl (Nat.le_of_ble_eq_true rfl) (by decide) (by decide) ?_
      refine g_iconst fx dX6_place_147 (by unfold okI; omega) ?_
      refine g_isub fx dX6_place_148 ?_
      refine g_callVD0 fx dX6_place_149 mv_RX6_67 my_X4_put (s_X4_putC ad _ in_133 (show 133 + 1 = 134 from rfl) _ _) (row_O in_133) rfl rfl rfl (Nat.le_of_ble_eq_true rfl) (by decide) (by decide) ?_
      refine g_aload_n fx dX6_place_152 rfl ?_
      refine g_getr fx dX6_place_153 fk_RX6_26 o_128 rf_128_5 ?_
      refine g_iload_n fx dX6_place_156 rfl ?_
      refine g_iconst fx dX6_place_157 (by unfold okI; omega) ?_
      refine g_iadd fx dX6_place_158 ?_
      refine g_iload fx dX6_place_159 rfl ?_
      refine g_callVD0 fx dX6_place_161 mv_RX6_67 my_X4_put (s_X4_putC ad _ in_135 (show 135 + 1 = 136 from rfl) _ _) (row_O in_135) rfl rfl rfl (Nat.le_of_ble_eq_true rfl) (by decide) (by decide) ?_
      refine g_aload_n fx dX6_place_164 rfl ?_
      refine g_getr fx dX6_place_165 fk_RX6_29 o_128 rf_128_6 ?_
      refine g_iload_n fx dX6_place_168 rfl ?_
      refine g_iconst fx dX6_place_169 (by unfold okI; omega) ?_
      refine g_iadd fx dX6_place_170 ?_
      refine g_iload fx dX6_place_171 rfl ?_
      refine g_callVD0 fx dX6_place_173 mv_RX6_67 my_X4_put (s_X4_putC ad _ in_137 (show 137 + 1 = 138 from rfl) _ _) (row_O in_137) rfl rfl rfl (Nat.le_of_ble_eq_true rfl) (by decide) (by decide) ?_
      refine g_aload_n fx dX6_place_176 rfl ?_
      refine g_getr fx dX6_place_177 fk_RX6_23 o_128 rf_128_4 ?_
      refine g_iload_n fx dX6_place_180 rfl ?_
      refine g_callVD fx dX6_place_181 mv_RX6_63 my_X4_at (s_X4_atC ad _ in_133 (show 133 + 1 = 134 from rfl) _) (row_O in_133) rfl rfl rfl (Nat.le_of_ble_eq_true rfl) (by decide) (by decide) ?_
      refine g_if_ne (tgt := 207) fx dX6_place_184 (by decide) (fun h184 => ?_) (fun h184 => ?_)
      · refine g_iconst fx dX6_place_207 (by unfold okI; omega) ?_
        refine g_istore fx dX6_place_208 (by decide) rfl rfl ?_
        refine g_aload_n fx dX6_place_210 rfl ?_
        refine g_getr fx dX6_place_211 fk_RX6_32 o_128 rf_128_7 ?_
        refine g_iload_n fx dX6_place_214 rfl ?_
        refine g_iconst fx dX6_place_215 (by unfold okI; omega) ?_
        refine g_iadd fx dX6_place_216 ?_
        refine g_aload_n fx dX6_place_217 rfl ?_
        refine g_getr fx dX6_place_218 fk_RX6_32 o_128 rf_128_7 ?_
        refine g_iload_n fx dX6_place_221 rfl ?_
        refine g_callVD fx dX6_place_222 mv_RX6_63 my_X4_at (s_X4_atC ad _ in_139 (show 139 + 1 = 140 from rfl) _) (row_O in_139) rfl rfl rfl (Nat.le_of_ble_eq_true rfl) (by decide) (by decide) ?_
        refine g_iload fx dX6_place_225 rfl ?_
        refine g_iadd fx dX6_place_227 ?_
        refine g_callVD0 fx dX6_place_228 mv_RX6_67 my_X4_put (s_X4_putC ad _ in_139 (show 139 + 1 = 140 from rfl) _ _) (row_O in_139) rfl rfl rfl (Nat.le_of_ble_eq_true rfl) (by decide) (by decide) ?_
        exact g_vret fx rfl dX6_place_231 (by decide) (by decide) (gw_le.rf _) ⟨rfl, rfl, by rw [pl]; (try dsimp only); (repeat first | rw [if_pos (by omega)] | rw [if_neg (by omega)]) <;> rfl⟩
      · refine g_aload_n fx dX6_place_187 rfl ?_
        refine g_getr fx dX6_place_188 fk_RX6_38 o_128 rf_128_0 ?_
        refine g_getr fx dX6_place_191 fk_RX6_116 (mill_O in_4) (mill_f12 in_4) ?_
        refine g_iload_n fx dX6_place_194 rfl ?_
        refine g_callVD fx dX6_place_195 mv_RX6_63 my_X4_at (s_X4_atC ad _ (mill_h12 in_4) (show 18 + 1 = 19 from rfl) _) (row_O (mill_h12 in_4)) rfl rfl rfl (Nat.le_of_ble_eq_true rfl) (by decide) (by decide) ?_
        refine g_iload fx dX6_place_198 rfl ?_
        refine g_iload fx dX6_place_200 rfl ?_
        refine g_isub fx dX6_place_202 ?_
        refine g_imul fx dX6_place_203 ?_
        refine g_goto (tgt := 208) fx dX6_place_204 (by decide) ?_
        refine g_istore fx dX6_place_208 (by decide) rfl rfl ?_
        refine g_aload_n fx dX6_place_210 rfl ?_
        refine g_getr fx dX6_place_211 fk_RX6_32 o_128 rf_128_7 ?_
        refine g_iload_n fx dX6_place_214 rfl ?_
        refine g_iconst fx dX6_place_215 (by unfold okI; omega) ?_
        refine g_iadd fx dX6_place_216 ?_
        refine g_aload_n fx dX6_place_217 rfl ?_
        refine g_getr fx dX6_place_218 fk_RX6_32 o_128 rf_128_7 ?_
        refine g_iload_n fx dX6_place_221 rfl ?_
        refine g_callVD fx dX6_place_222 mv_RX6_63 my_X4_at (s_X4_atC ad _ in_139 (show 139 + 1 = 140 from rfl) _) (row_O in_139) rfl rfl rfl (Nat.le_of_ble_eq_true rfl) (by decide) (by decide) ?_
        refine g_iload fx dX6_place_225 rfl ?_
        refine g_iadd fx dX6_place_227 ?_
        refine g_callVD0 fx dX6_place_228 mv_RX6_67 my_X4_put (s_X4_putC ad _ in_139 (show 139 + 1 = 140 from rfl) _ _) (row_O in_139) rfl rfl rfl (Nat.le_of_ble_eq_true rfl) (by decide) (by decide) ?_
        exact g_vret fx rfl dX6_place_231 (by decide) (by decide) (gw_le.rf _) ⟨rfl, rfl, by rw [pl]; (try dsimp only); (repeat first | rw [if_pos (by omega)] | rw [if_neg (by omega)]) <;> rfl⟩
    · refine g_iconst fx dX6_place_61 (by unfold okI; omega) ?_
      refine g_goto (tgt := 72) fx dX6_place_62 (by decide) ?_
      refine g_istore fx dX6_place_72 (by decide) rfl rfl ?_
      refine g_aload_n fx dX6_place_74 rfl ?_
      refine g_getr fx dX6_place_75 fk_RX6_26 o_128 rf_128_5 ?_
      refine g_iload_n fx dX6_place_78 rfl ?_
      refine g_callVD fx dX6_place_79 mv_RX6_63 my_X4_at (s_X4_atC ad _ in_135 (show 135 + 1 = 136 from rfl) _) (row_O in_135) rfl rfl rfl (Nat.le_of_ble_eq_true rfl) (by decide) (by decide) ?_
      refine g_iload fx dX6_place_82 rfl ?_
      refine g_max fx dX6_place_84 mm_RX6_104 (by decide) (by decide) (by decide) (Nat.le_of_ble_eq_true rfl) ?_
      refine g_iload fx dX6_place_87 rfl ?_
      refine g_iadd fx dX6_place_89 ?_
      refine g_aload_n fx dX6_place_90 rfl ?_
      refine g_getr fx dX6_place_91 fk_RX6_38 o_128 rf_128_0 ?_
      refine g_getr fx dX6_place_94 fk_RX6_110 (mill_O in_4) (mill_f7 in_4) ?_
      refine g_iconst fx dX6_place_97 (by unfold okI; omega) ?_
      refine g_callVD fx dX6_place_98 mv_RX6_63 my_X4_at (s_X4_atC ad _ (mill_h7 in_4) (show 8 + 1 = 9 from rfl) _) (row_O (mill_h7 in_4)) rfl rfl rfl (Nat.le_of_ble_eq_true rfl) (by decide) (by decide) ?_
      refine g_aload_n fx dX6_place_101 rfl ?_
      refine g_getr fx dX6_place_102 fk_RX6_42 o_128 rf_128_1 ?_
      refine g_getr fx dX6_place_105 fk_RX6_113 (run_O in_26) (run_f4 in_26) ?_
      refine g_iload_n fx dX6_place_108 rfl ?_
      refine g_callVD fx dX6_place_109 mv_RX6_63 my_X4_at (s_X4_atC ad _ (run_h4 in_26) (show 29 + 1 = 30 from rfl) _) (row_O (run_h4 in_26)) rfl rfl rfl (Nat.le_of_ble_eq_true rfl) (by decide) (by decide) ?_
      refine g_imul fx dX6_place_112 ?_
      refine g_iadd fx dX6_place_113 ?_
      refine g_istore fx dX6_place_114 (by decide) rfl rfl ?_
      refine g_aload_n fx dX6_place_116 rfl ?_
      refine g_getr fx dX6_place_117 fk_RX6_14 o_128 rf_128_2 ?_
      refine g_iload_n fx dX6_place_120 rfl ?_
      refine g_iload_n fx dX6_place_121 rfl ?_
      refine g_callVD0 fx dX6_place_122 mv_RX6_67 my_X4_put (s_X4_putC ad _ in_129 (show 129 + 1 = 130 from rfl) _ _) (row_O in_129) rfl rfl rfl (Nat.le_of_ble_eq_true rfl) (by decide) (by decide) ?_
      refine g_aload_n fx dX6_place_125 rfl ?_
      refine g_getr fx dX6_place_126 fk_RX6_20 o_128 rf_128_3 ?_
      refine g_iload_n fx dX6_place_129 rfl ?_
      refine g_iconst fx dX6_place_130 (by unfold okI; omega) ?_
      refine g_callVD0 fx dX6_place_131 mv_RX6_67 my_X4_put (s_X4_putC ad _ in_131 (show 131 + 1 = 132 from rfl) _ _) (row_O in_131) rfl rfl rfl (Nat.le_of_ble_eq_true rfl) (by decide) (by decide) ?_
      refine g_aload_n fx dX6_place_134 rfl ?_
      refine g_getr fx dX6_place_135 fk_RX6_23 o_128 rf_128_4 ?_
      refine g_iload_n fx dX6_place_138 rfl ?_
      refine g_aload_n fx dX6_place_139 rfl ?_
      refine g_getr fx dX6_place_140 fk_RX6_23 o_128 rf_128_4 ?_
      refine g_iload_n fx dX6_place_143 rfl ?_
      refine g_callVD fx dX6_place_144 mv_RX6_63 my_X4_at (s_X4_atC ad _ in_133 (show 133 + 1 = 134 from rfl) _) (row_O in_133) rfl rfl rfl (Nat.le_of_ble_eq_true rfl) (by decide) (by decide) ?_
      refine g_iconst fx dX6_place_147 (by unfold okI; omega) ?_
      refine g_isub fx dX6_place_148 ?_
      refine g_callVD0 fx dX6_place_149 mv_RX6_67 my_X4_put (s_X4_putC ad _ in_133 (show 133 + 1 = 134 from rfl) _ _) (row_O in_133) rfl rfl rfl (Nat.le_of_ble_eq_true rfl) (by decide) (by decide) ?_
      refine g_aload_n fx dX6_place_152 rfl ?_
      refine g_getr fx dX6_place_153 fk_RX6_26 o_128 rf_128_5 ?_
      refine g_iload_n fx dX6_place_156 rfl ?_
      refine g_iconst fx dX6_place_157 (by unfold okI; omega) ?_
      refine g_iadd fx dX6_place_158 ?_
      refine g_iload fx dX6_place_159 rfl ?_
      refine g_callVD0 fx dX6_place_161 mv_RX6_67 my_X4_put (s_X4_putC ad _ in_135 (show 135 + 1 = 136 from rfl) _ _) (row_O in_135) rfl rfl rfl (Nat.le_of_ble_eq_true rfl) (by decide) (by decide) ?_
      refine g_aload_n fx dX6_place_164 rfl ?_
      refine g_getr fx dX6_place_165 fk_RX6_29 o_128 rf_128_6 ?_
      refine g_iload_n fx dX6_place_168 rfl ?_
      refine g_iconst fx dX6_place_169 (by unfold okI; omega) ?_
      refine g_iadd fx dX6_place_170 ?_
      refine g_iload fx dX6_place_171 rfl ?_
      refine g_callVD0 fx dX6_place_173 mv_RX6_67 my_X4_put (s_X4_putC ad _ in_137 (show 137 + 1 = 138 from rfl) _ _) (row_O in_137) rfl rfl rfl (Nat.le_of_ble_eq_true rfl) (by decide) (by decide) ?_
      refine g_aload_n fx dX6_place_176 rfl ?_
      refine g_getr fx dX6_place_177 fk_RX6_23 o_128 rf_128_4 ?_
      refine g_iload_n fx dX6_place_180 rfl ?_
      refine g_callVD fx dX6_place_181 mv_RX6_63 my_X4_at (s_X4_atC ad _ in_133 (show 133 + 1 = 134 from rfl) _) (row_O in_133) rfl rfl rfl (Nat.le_of_ble_eq_true rfl) (by decide) (by decide) ?_
      refine g_if_ne (tgt := 207) fx dX6_place_184 (by decide) (fun h184 => ?_) (fun h184 => ?_)
      · refine g_iconst fx dX6_place_207 (by unfold okI; omega) ?_
        refine g_istore fx dX6_place_208 (by decide) rfl rfl ?_
        refine g_aload_n fx dX6_place_210 rfl ?_
        refine g_getr fx dX6_place_211 fk_RX6_32 o_128 rf_128_7 ?_
        refine g_iload_n fx dX6_place_214 rfl ?_
        refine g_iconst fx dX6_place_215 (by unfold okI; omega) ?_
        refine g_iadd fx dX6_place_216 ?_
        refine g_aload_n fx dX6_place_217 rfl ?_
        refine g_getr fx dX6_place_218 fk_RX6_32 o_128 rf_128_7 ?_
        refine g_iload_n fx dX6_place_221 rfl ?_
        refine g_callVD fx dX6_place_222 mv_RX6_63 my_X4_at (s_X4_atC ad _ in_139 (show 139 + 1 = 140 from rfl) _) (row_O in_139) rfl rfl rfl (Nat.le_of_ble_eq_true rfl) (by decide) (by decide) ?_
        refine g_iload fx dX6_place_225 rfl ?_
        refine g_iadd fx dX6_place_227 ?_
        refine g_callVD0 fx dX6_place_228 mv_RX6_67 my_X4_put (s_X4_putC ad _ in_139 (show 139 + 1 = 140 from rfl) _ _) (row_O in_139) rfl rfl rfl (Nat.le_of_ble_eq_true rfl) (by decide) (by decide) ?_
        exact g_vret fx rfl dX6_place_231 (by decide) (by decide) (gw_le.rf _) ⟨rfl, rfl, by rw [pl]; (try dsimp only); (repeat first | rw [if_pos (by omega)] | rw [if_neg (by omega)]) <;> rfl⟩
      · refine g_aload_n fx dX6_place_187 rfl ?_
        refine g_getr fx dX6_place_188 fk_RX6_38 o_128 rf_128_0 ?_
        refine g_getr fx dX6_place_191 fk_RX6_116 (mill_O in_4) (mill_f12 in_4) ?_
        refine g_iload_n fx dX6_place_194 rfl ?_
        refine g_callVD fx dX6_place_195 mv_RX6_63 my_X4_at (s_X4_atC ad _ (mill_h12 in_4) (show 18 + 1 = 19 from rfl) _) (row_O (mill_h12 in_4)) rfl rfl rfl (Nat.le_of_ble_eq_true rfl) (by decide) (by decide) ?_
        refine g_iload fx dX6_place_198 rfl ?_
        refine g_iload fx dX6_place_200 rfl ?_
        refine g_isub fx dX6_place_202 ?_
        refine g_imul fx dX6_place_203 ?_
        refine g_goto (tgt := 208) fx dX6_place_204 (by decide) ?_
        refine g_istore fx dX6_place_208 (by decide) rfl rfl ?_
        refine g_aload_n fx dX6_place_210 rfl ?_
        refine g_getr fx dX6_place_211 fk_RX6_32 o_128 rf_128_7 ?_
        refine g_iload_n fx dX6_place_214 rfl ?_
        refine g_iconst fx dX6_place_215 (by unfold okI; omega) ?_
        refine g_iadd fx dX6_place_216 ?_
        refine g_aload_n fx dX6_place_217 rfl ?_
        refine g_getr fx dX6_place_218 fk_RX6_32 o_128 rf_128_7 ?_
        refine g_iload_n fx dX6_place_221 rfl ?_
        refine g_callVD fx dX6_place_222 mv_RX6_63 my_X4_at (s_X4_atC ad _ in_139 (show 139 + 1 = 140 from rfl) _) (row_O in_139) rfl rfl rfl (Nat.le_of_ble_eq_true rfl) (by decide) (by decide) ?_
        refine g_iload fx dX6_place_225 rfl ?_
        refine g_iadd fx dX6_place_227 ?_
        refine g_callVD0 fx dX6_place_228 mv_RX6_67 my_X4_put (s_X4_putC ad _ in_139 (show 139 + 1 = 140 from rfl) _ _) (row_O in_139) rfl rfl rfl (Nat.le_of_ble_eq_true rfl) (by decide) (by decide) ?_
        exact g_vret fx rfl dX6_place_231 (by decide) (by decide) (gw_le.rf _) ⟨rfl, rfl, by rw [pl]; (try dsimp only); (repeat first | rw [if_pos (by omega)] | rw [if_neg (by omega)]) <;> rfl⟩
set_option maxRecDepth 4000 in
theorem s_X6_takeBack (ad : Nat → Nat) (σ : Sg)  (p : Int) : gw_Sp yX6_takeBack cX6_takeBack 3 none 2 0 0 [vR (some 128), vI p] (gw_M0 ad) σ (gw_D none (gw_M0 ad) (tb σ p)) gw_no := by
  refine gw_Sp.of [some (vR (some 128)), some (vI p), none] (by decide +kernel) rfl (Nat.le_of_ble_eq_true rfl) ?_
  intro X G fx het hnm
  refine g_aload_n fx dX6_takeBack_0 rfl ?_
  refine g_getr fx dX6_takeBack_1 fk_RX6_42 o_128 rf_128_1 ?_
  refine g_getr fx dX6_takeBack_4 fk_RX6_92 (run_O in_26) (run_f3 in_26) ?_
  refine g_iload_n fx dX6_takeBack_7 rfl ?_
  refine g_callVD fx dX6_takeBack_8 mv_RX6_63 my_X4_at (s_X4_atC ad _ (run_h3 in_26) (show 27 + 1 = 28 from rfl) _) (row_O (run_h3 in_26)) rfl rfl rfl (Nat.le_of_ble_eq_true rfl) (by decide) (by decide) ?_
  refine g_istore_n fx dX6_takeBack_11 (by decide) rfl rfl ?_
  refine g_aload_n fx dX6_takeBack_12 rfl ?_
  refine g_getr fx dX6_takeBack_13 fk_RX6_20 o_128 rf_128_3 ?_
  refine g_iload_n fx dX6_takeBack_16 rfl ?_
  refine g_iconst fx dX6_takeBack_17 (by unfold okI; omega) ?_
  refine g_callVD0 fx dX6_takeBack_18 mv_RX6_67 my_X4_put (s_X4_putC ad _ in_131 (show 131 + 1 = 132 from rfl) _ _) (row_O in_131) rfl rfl rfl (Nat.le_of_ble_eq_true rfl) (by decide) (by decide) ?_
  refine g_aload_n fx dX6_takeBack_21 rfl ?_
  refine g_getr fx dX6_takeBack_22 fk_RX6_23 o_128 rf_128_4 ?_
  refine g_iload_n fx dX6_takeBack_25 rfl ?_
  refine g_aload_n fx dX6_takeBack_26 rfl ?_
  refine g_getr fx dX6_takeBack_27 fk_RX6_23 o_128 rf_128_4 ?_
  refine g_iload_n fx dX6_takeBack_30 rfl ?_
  refine g_callVD fx dX6_takeBack_31 mv_RX6_63 my_X4_at (s_X4_atC ad _ in_133 (show 133 + 1 = 134 from rfl) _) (row_O in_133) rfl rfl rfl (Nat.le_of_ble_eq_true rfl) (by decide) (by decide) ?_
  refine g_iconst fx dX6_takeBack_34 (by unfold okI; omega) ?_
  refine g_iadd fx dX6_takeBack_35 ?_
  refine g_callVD0 fx dX6_takeBack_36 mv_RX6_67 my_X4_put (s_X4_putC ad _ in_133 (show 133 + 1 = 134 from rfl) _ _) (row_O in_133) rfl rfl rfl (Nat.le_of_ble_eq_true rfl) (by decide) (by decide) ?_
  exact g_vret fx rfl dX6_takeBack_39 (by decide) (by decide) (gw_le.rf _) ⟨rfl, rfl, rfl⟩

set_option maxRecDepth 4000 in
theorem s_X6_extend_0 (ad : Nat → Nat) (σ : Sg)  (dp : Int) (hd9 : dp = 9) : gw_Sp yX6_extend cX6_extend 3 none 3 0 0 [vR (some 128), vI dp] (gw_M0 ad) σ (gw_D none (gw_M0 ad) (exF 0 9 σ)) gw_no := by
  refine gw_Sp.of [some (vR (some 128)), some (vI dp), none] (by decide +kernel) rfl (Nat.le_of_ble_eq_true rfl) ?_
  intro X G fx het hnm
  refine g_iload_n fx dX6_extend_0 rfl ?_
  refine g_bipush fx dX6_extend_1 (by decide) ?_
  refine g_icmp_gt (tgt := 21) fx dX6_extend_3 (by decide) (fun h3 => ?_) (fun h3 => absurd h3 (by omega))
  exact g_vret fx rfl dX6_extend_21 (by decide) (by decide) (gw_le.rf _) ⟨rfl, rfl, rfl⟩
set_option maxRecDepth 4000 in
theorem s_X6_extend_1 (ad : Nat → Nat) (σ : Sg)  (dp : Int) (hd9 : dp = (8 : Nat)) : gw_Sp yX6_extend cX6_extend 3 none 4 0 0 [vR (some 128), vI dp] (gw_M0 ad) σ (gw_D none (gw_M0 ad) (exF 1 8 σ)) gw_no := by
  refine gw_Sp.of [some (vR (some 128)), some (vI dp), none] (by decide +kernel) rfl (Nat.le_of_ble_eq_true rfl) ?_
  intro X G fx het hnm
  subst hd9
  refine g_okS (fun hok => ?_)
  have hq1 := gw_okO 1 hok (run_O in_26) (by decide)
  unfold okI at hq1
  refine g_iload_n fx dX6_extend_0 rfl ?_
  refine g_bipush fx dX6_extend_1 (by decide) ?_
  refine g_icmp_gt (tgt := 21) fx dX6_extend_3 (by decide) (fun h3 => absurd h3 (by omega)) (fun h3 => ?_)
  refine g_aload_n fx dX6_extend_6 rfl ?_
  refine g_getr fx dX6_extend_7 fk_RX6_32 o_128 rf_128_7 ?_
  refine g_iload_n fx dX6_extend_10 rfl ?_
  refine g_callVD fx dX6_extend_11 mv_RX6_63 my_X4_at (s_X4_atC ad _ in_139 (show 139 + 1 = 140 from rfl) _) (row_O in_139) rfl rfl rfl (Nat.le_of_ble_eq_true rfl) (by decide) (by decide) ?_
  refine g_aload_n fx dX6_extend_14 rfl ?_
  refine g_geti fx dX6_extend_15 fk_RX6_72 (by decide) o_128 ?_
  refine g_icmp_lt (tgt := 22) fx dX6_extend_18 (by decide) (fun h18 => ?_) (fun h18 => ?_)
  · refine g_iload_n fx dX6_extend_22 rfl ?_
    refine g_aload_n fx dX6_extend_23 rfl ?_
    refine g_getr fx dX6_extend_24 fk_RX6_42 o_128 rf_128_1 ?_
    refine g_geti fx dX6_extend_27 fk_RX6_79 (by decide) (run_O in_26) ?_
    refine g_icmp_ne (tgt := 57) fx dX6_extend_30 (by decide) (fun h30 => ?_) (fun h30 => ?_)
    · refine g_iconst fx dX6_extend_57 (by unfold okI; omega) ?_
      refine g_istore_n fx dX6_extend_58 (by decide) rfl rfl ?_
      have loop59 : ∀ k : Nat, k ≤ (σ 26 1).toNat → gw_W X (yX6_extend.cls, cX6_extend, 3, none, 4, 0, 0) G (gw_Z X G (gw_M0 ad) σ (gw_D none (gw_M0 ad) (exF 1 8 σ)) gw_no 0 0) 0 0 (gw_M0 ad) (itr k (exS (exF 0) 8) σ) 59 [some (vR (some 128)), some (vI (8 : Nat)), some (vI (k : Nat))] [] := by
        refine up_ind _ ((σ 26 1).toNat) (fun k hk ih => ?_)
        have hof := (off.rf 128 143 σ).itr (fun k x => exS_off (exF_off 0) 8 k x) k
        have h1 := hof 26 (by omega) 1
        refine g_iload_n fx dX6_extend_59 rfl ?_
        refine g_aload_n fx dX6_extend_60 rfl ?_
        refine g_getr fx dX6_extend_61 fk_RX6_42 o_128 rf_128_1 ?_
        refine g_geti fx dX6_extend_64 fk_RX6_79 (by decide) (run_O in_26) ?_
        refine g_icmp_ge (tgt := 105) fx dX6_extend_67 (by decide) (fun h67 => ?_) (fun h67 => ?_)
        · exact g_vret fx rfl dX6_extend_105 (by decide) (by decide) (gw_le.rf _) ⟨rfl, rfl, by rw [exF, if_neg (by omega), if_neg (by omega), show (σ 26 1).toNat = k by omega]⟩
        · refine g_aload_n fx dX6_extend_70 rfl ?_
          refine g_getr fx dX6_extend_71 fk_RX6_20 o_128 rf_128_3 ?_
          refine g_iload_n fx dX6_extend_74 rfl ?_
          refine g_callVD fx dX6_extend_75 mv_RX6_63 my_X4_at (s_X4_atC ad _ in_131 (show 131 + 1 = 132 from rfl) _) (row_O in_131) rfl rfl rfl (Nat.le_of_ble_eq_true rfl) (by decide) (by decide) ?_
          refine g_if_ne (tgt := 99) fx dX6_extend_78 (by decide) (fun h78 => ?_) (fun h78 => ?_)
          · refine g_iinc1 fx dX6_extend_99 (by decide) rfl rfl (by unfold okI; omega) rfl ?_
            refine g_goto (tgt := 59) fx dX6_extend_102 (by decide) ?_
            exact gw_cg (by rw [itr_s, exS]; (first | rw [if_pos (by omega)] | rw [if_neg (by omega)])) rfl (ih (by omega))
          · refine g_aload_n fx dX6_extend_81 rfl ?_
            refine g_iload_n fx dX6_extend_82 rfl ?_
            refine g_iload_n fx dX6_extend_83 rfl ?_
            refine g_callVD0 fx dX6_extend_84 mv_RX6_86 my_X6_place (s_X6_place ad _ _ _) o_128 rfl rfl rfl (Nat.le_of_ble_eq_true rfl) (by decide) (by decide) ?_
            refine g_aload_n fx dX6_extend_87 rfl ?_
            refine g_iload_n fx dX6_extend_88 rfl ?_
            refine g_iconst fx dX6_extend_89 (by unfold okI; omega) ?_
            refine g_iadd fx dX6_extend_90 ?_
            refine g_callSD0 fx dX6_extend_91 ms_RX6_75 my_X6_extend (s_X6_extend_0 ad _ _ (by decide)) rfl rfl (Nat.le_of_ble_eq_true rfl) (by decide) (by decide) ?_
            refine g_aload_n fx dX6_extend_94 rfl ?_
            refine g_iload_n fx dX6_extend_95 rfl ?_
            refine g_callVD0 fx dX6_extend_96 mv_RX6_89 my_X6_takeBack (s_X6_takeBack ad _ _) o_128 rfl rfl rfl (Nat.le_of_ble_eq_true rfl) (by decide) (by decide) ?_
            refine g_iinc1 fx dX6_extend_99 (by decide) rfl rfl (by unfold okI; omega) rfl ?_
            refine g_goto (tgt := 59) fx dX6_extend_102 (by decide) ?_
            exact gw_cg (by rw [itr_s, exS]; (first | rw [if_pos (by omega)] | rw [if_neg (by omega)])) rfl (ih (by omega))
      exact loop59 0 (Nat.zero_le _)
    · refine g_aload_n fx dX6_extend_33 rfl ?_
      refine g_aload_n fx dX6_extend_34 rfl ?_
      refine g_getr fx dX6_extend_35 fk_RX6_32 o_128 rf_128_7 ?_
      refine g_iload_n fx dX6_extend_38 rfl ?_
      refine g_callVD fx dX6_extend_39 mv_RX6_63 my_X4_at (s_X4_atC ad _ in_139 (show 139 + 1 = 140 from rfl) _) (row_O in_139) rfl rfl rfl (Nat.le_of_ble_eq_true rfl) (by decide) (by decide) ?_
      refine g_puti fx dX6_extend_42 fk_RX6_72 o_128 ?_
      refine g_aload_n fx dX6_extend_45 rfl ?_
      refine g_getr fx dX6_extend_46 fk_RX6_35 o_128 rf_128_8 ?_
      refine g_aload_n fx dX6_extend_49 rfl ?_
      refine g_getr fx dX6_extend_50 fk_RX6_14 o_128 rf_128_2 ?_
      refine g_callVD0 fx dX6_extend_53 mv_RX6_82 my_X4_copyOf (s_X4_copyOfC ad _ in_141 in_129 (show 141 + 1 = 142 from rfl) (show 129 + 1 = 130 from rfl) (by omega)) (row_O in_141) rfl rfl rfl (Nat.le_of_ble_eq_true rfl) (by decide) (by decide) ?_
      exact g_vret fx rfl dX6_extend_56 (by decide) (by decide) (gw_le.rf _) ⟨rfl, rfl, by rw [exF, if_neg (by omega), if_pos (by omega)]; rfl⟩
  · exact g_vret fx rfl dX6_extend_21 (by decide) (by decide) (gw_le.rf _) ⟨rfl, rfl, by rw [exF, if_pos (by omega)]⟩
set_option maxRecDepth 4000 in
theorem s_X6_extend_2 (ad : Nat → Nat) (σ : Sg)  (dp : Int) (hd9 : dp = (7 : Nat)) : gw_Sp yX6_extend cX6_extend 3 none 5 0 0 [vR (some 128), vI dp] (gw_M0 ad) σ (gw_D none (gw_M0 ad) (exF 2 7 σ)) gw_no := by
  refine gw_Sp.of [some (vR (some 128)), some (vI dp), none] (by decide +kernel) rfl (Nat.le_of_ble_eq_true rfl) ?_
  intro X G fx het hnm
  subst hd9
  refine g_okS (fun hok => ?_)
  have hq1 := gw_okO 1 hok (run_O in_26) (by decide)
  unfold okI at hq1
  refine g_iload_n fx dX6_extend_0 rfl ?_
  refine g_bipush fx dX6_extend_1 (by decide) ?_
  refine g_icmp_gt (tgt := 21) fx dX6_extend_3 (by decide) (fun h3 => absurd h3 (by omega)) (fun h3 => ?_)
  refine g_aload_n fx dX6_extend_6 rfl ?_
  refine g_getr fx dX6_extend_7 fk_RX6_32 o_128 rf_128_7 ?_
  refine g_iload_n fx dX6_extend_10 rfl ?_
  refine g_callVD fx dX6_extend_11 mv_RX6_63 my_X4_at (s_X4_atC ad _ in_139 (show 139 + 1 = 140 from rfl) _) (row_O in_139) rfl rfl rfl (Nat.le_of_ble_eq_true rfl) (by decide) (by decide) ?_
  refine g_aload_n fx dX6_extend_14 rfl ?_
  refine g_geti fx dX6_extend_15 fk_RX6_72 (by decide) o_128 ?_
  refine g_icmp_lt (tgt := 22) fx dX6_extend_18 (by decide) (fun h18 => ?_) (fun h18 => ?_)
  · refine g_iload_n fx dX6_extend_22 rfl ?_
    refine g_aload_n fx dX6_extend_23 rfl ?_
    refine g_getr fx dX6_extend_24 fk_RX6_42 o_128 rf_128_1 ?_
    refine g_geti fx dX6_extend_27 fk_RX6_79 (by decide) (run_O in_26) ?_
    refine g_icmp_ne (tgt := 57) fx dX6_extend_30 (by decide) (fun h30 => ?_) (fun h30 => ?_)
    · refine g_iconst fx dX6_extend_57 (by unfold okI; omega) ?_
      refine g_istore_n fx dX6_extend_58 (by decide) rfl rfl ?_
      have loop59 : ∀ k : Nat, k ≤ (σ 26 1).toNat → gw_W X (yX6_extend.cls, cX6_extend, 3, none, 5, 0, 0) G (gw_Z X G (gw_M0 ad) σ (gw_D none (gw_M0 ad) (exF 2 7 σ)) gw_no 0 0) 0 0 (gw_M0 ad) (itr k (exS (exF 1) 7) σ) 59 [some (vR (some 128)), some (vI (7 : Nat)), some (vI (k : Nat))] [] := by
        refine up_ind _ ((σ 26 1).toNat) (fun k hk ih => ?_)
        have hof := (off.rf 128 143 σ).itr (fun k x => exS_off (exF_off 1) 7 k x) k
        have h1 := hof 26 (by omega) 1
        refine g_iload_n fx dX6_extend_59 rfl ?_
        refine g_aload_n fx dX6_extend_60 rfl ?_
        refine g_getr fx dX6_extend_61 fk_RX6_42 o_128 rf_128_1 ?_
        refine g_geti fx dX6_extend_64 fk_RX6_79 (by decide) (run_O in_26) ?_
        refine g_icmp_ge (tgt := 105) fx dX6_extend_67 (by decide) (fun h67 => ?_) (fun h67 => ?_)
        · exact g_vret fx rfl dX6_extend_105 (by decide) (by decide) (gw_le.rf _) ⟨rfl, rfl, by rw [exF, if_neg (by omega), if_neg (by omega), show (σ 26 1).toNat = k by omega]⟩
        · refine g_aload_n fx dX6_extend_70 rfl ?_
          refine g_getr fx dX6_extend_71 fk_RX6_20 o_128 rf_128_3 ?_
          refine g_iload_n fx dX6_extend_74 rfl ?_
          refine g_callVD fx dX6_extend_75 mv_RX6_63 my_X4_at (s_X4_atC ad _ in_131 (show 131 + 1 = 132 from rfl) _) (row_O in_131) rfl rfl rfl (Nat.le_of_ble_eq_true rfl) (by decide) (by decide) ?_
          refine g_if_ne (tgt := 99) fx dX6_extend_78 (by decide) (fun h78 => ?_) (fun h78 => ?_)
          · refine g_iinc1 fx dX6_extend_99 (by decide) rfl rfl (by unfold okI; omega) rfl ?_
            refine g_goto (tgt := 59) fx dX6_extend_102 (by decide) ?_
            exact gw_cg (by rw [itr_s, exS]; (first | rw [if_pos (by omega)] | rw [if_neg (by omega)])) rfl (ih (by omega))
          · refine g_aload_n fx dX6_extend_81 rfl ?_
            refine g_iload_n fx dX6_extend_82 rfl ?_
            refine g_iload_n fx dX6_extend_83 rfl ?_
            refine g_callVD0 fx dX6_extend_84 mv_RX6_86 my_X6_place (s_X6_place ad _ _ _) o_128 rfl rfl rfl (Nat.le_of_ble_eq_true rfl) (by decide) (by decide) ?_
            refine g_aload_n fx dX6_extend_87 rfl ?_
            refine g_iload_n fx dX6_extend_88 rfl ?_
            refine g_iconst fx dX6_extend_89 (by unfold okI; omega) ?_
            refine g_iadd fx dX6_extend_90 ?_
            refine g_callSD0 fx dX6_extend_91 ms_RX6_75 my_X6_extend (s_X6_extend_1 ad _ _ (by decide)) rfl rfl (Nat.le_of_ble_eq_true rfl) (by decide) (by decide) ?_
            refine g_aload_n fx dX6_extend_94 rfl ?_
            refine g_iload_n fx dX6_extend_95 rfl ?_
            refine g_callVD0 fx dX6_extend_96 mv_RX6_89 my_X6_takeBack (s_X6_takeBack ad _ _) o_128 rfl rfl rfl (Nat.le_of_ble_eq_true rfl) (by decide) (by decide) ?_
            refine g_iinc1 fx dX6_extend_99 (by decide) rfl rfl (by unfold okI; omega) rfl ?_
            refine g_goto (tgt := 59) fx dX6_extend_102 (by decide) ?_
            exact gw_cg (by rw [itr_s, exS]; (first | rw [if_pos (by omega)] | rw [if_neg (by omega)])) rfl (ih (by omega))
      exact loop59 0 (Nat.zero_le _)
    · refine g_aload_n fx dX6_extend_33 rfl ?_
      refine g_aload_n fx dX6_extend_34 rfl ?_
      refine g_getr fx dX6_extend_35 fk_RX6_32 o_128 rf_128_7 ?_
      refine g_iload_n fx dX6_extend_38 rfl ?_
      refine g_callVD fx dX6_extend_39 mv_RX6_63 my_X4_at (s_X4_atC ad _ in_139 (show 139 + 1 = 140 from rfl) _) (row_O in_139) rfl rfl rfl (Nat.le_of_ble_eq_true rfl) (by decide) (by decide) ?_
      refine g_puti fx dX6_extend_42 fk_RX6_72 o_128 ?_
      refine g_aload_n fx dX6_extend_45 rfl ?_
      refine g_getr fx dX6_extend_46 fk_RX6_35 o_128 rf_128_8 ?_
      refine g_aload_n fx dX6_extend_49 rfl ?_
      refine g_getr fx dX6_extend_50 fk_RX6_14 o_128 rf_128_2 ?_
      refine g_callVD0 fx dX6_extend_53 mv_RX6_82 my_X4_copyOf (s_X4_copyOfC ad _ in_141 in_129 (show 141 + 1 = 142 from rfl) (show 129 + 1 = 130 from rfl) (by omega)) (row_O in_141) rfl rfl rfl (Nat.le_of_ble_eq_true rfl) (by decide) (by decide) ?_
      exact g_vret fx rfl dX6_extend_56 (by decide) (by decide) (gw_le.rf _) ⟨rfl, rfl, by rw [exF, if_neg (by omega), if_pos (by omega)]; rfl⟩
  · exact g_vret fx rfl dX6_extend_21 (by decide) (by decide) (gw_le.rf _) ⟨rfl, rfl, by rw [exF, if_pos (by omega)]⟩
set_option maxRecDepth 4000 in
theorem s_X6_extend_3 (ad : Nat → Nat) (σ : Sg)  (dp : Int) (hd9 : dp = (6 : Nat)) : gw_Sp yX6_extend cX6_extend 3 none 6 0 0 [vR (some 128), vI dp] (gw_M0 ad) σ (gw_D none (gw_M0 ad) (exF 3 6 σ)) gw_no := by
  refine gw_Sp.of [some (vR (some 128)), some (vI dp), none] (by decide +kernel) rfl (Nat.le_of_ble_eq_true rfl) ?_
  intro X G fx het hnm
  subst hd9
  refine g_okS (fun hok => ?_)
  have hq1 := gw_okO 1 hok (run_O in_26) (by decide)
  unfold okI at hq1
  refine g_iload_n fx dX6_extend_0 rfl ?_
  refine g_bipush fx dX6_extend_1 (by decide) ?_
  refine g_icmp_gt (tgt := 21) fx dX6_extend_3 (by decide) (fun h3 => absurd h3 (by omega)) (fun h3 => ?_)
  refine g_aload_n fx dX6_extend_6 rfl ?_
  refine g_getr fx dX6_extend_7 fk_RX6_32 o_128 rf_128_7 ?_
  refine g_iload_n fx dX6_extend_10 rfl ?_
  refine g_callVD fx dX6_extend_11 mv_RX6_63 my_X4_at (s_X4_atC ad _ in_139 (show 139 + 1 = 140 from rfl) _) (row_O in_139) rfl rfl rfl (Nat.le_of_ble_eq_true rfl) (by decide) (by decide) ?_
  refine g_aload_n fx dX6_extend_14 rfl ?_
  refine g_geti fx dX6_extend_15 fk_RX6_72 (by decide) o_128 ?_
  refine g_icmp_lt (tgt := 22) fx dX6_extend_18 (by decide) (fun h18 => ?_) (fun h18 => ?_)
  · refine g_iload_n fx dX6_extend_22 rfl ?_
    refine g_aload_n fx dX6_extend_23 rfl ?_
    refine g_getr fx dX6_extend_24 fk_RX6_42 o_128 rf_128_1 ?_
    refine g_geti fx dX6_extend_27 fk_RX6_79 (by decide) (run_O in_26) ?_
    refine g_icmp_ne (tgt := 57) fx dX6_extend_30 (by decide) (fun h30 => ?_) (fun h30 => ?_)
    · refine g_iconst fx dX6_extend_57 (by unfold okI; omega) ?_
      refine g_istore_n fx dX6_extend_58 (by decide) rfl rfl ?_
      have loop59 : ∀ k : Nat, k ≤ (σ 26 1).toNat → gw_W X (yX6_extend.cls, cX6_extend, 3, none, 6, 0, 0) G (gw_Z X G (gw_M0 ad) σ (gw_D none (gw_M0 ad) (exF 3 6 σ)) gw_no 0 0) 0 0 (gw_M0 ad) (itr k (exS (exF 2) 6) σ) 59 [some (vR (some 128)), some (vI (6 : Nat)), some (vI (k : Nat))] [] := by
        refine up_ind _ ((σ 26 1).toNat) (fun k hk ih => ?_)
        have hof := (off.rf 128 143 σ).itr (fun k x => exS_off (exF_off 2) 6 k x) k
        have h1 := hof 26 (by omega) 1
        refine g_iload_n fx dX6_extend_59 rfl ?_
        refine g_aload_n fx dX6_extend_60 rfl ?_
        refine g_getr fx dX6_extend_61 fk_RX6_42 o_128 rf_128_1 ?_
        refine g_geti fx dX6_extend_64 fk_RX6_79 (by decide) (run_O in_26) ?_
        refine g_icmp_ge (tgt := 105) fx dX6_extend_67 (by decide) (fun h67 => ?_) (fun h67 => ?_)
        · exact g_vret fx rfl dX6_extend_105 (by decide) (by decide) (gw_le.rf _) ⟨rfl, rfl, by rw [exF, if_neg (by omega), if_neg (by omega), show (σ 26 1).toNat = k by omega]⟩
        · refine g_aload_n fx dX6_extend_70 rfl ?_
          refine g_getr fx dX6_extend_71 fk_RX6_20 o_128 rf_128_3 ?_
          refine g_iload_n fx dX6_extend_74 rfl ?_
          refine g_callVD fx dX6_extend_75 mv_RX6_63 my_X4_at (s_X4_atC ad _ in_131 (show 131 + 1 = 132 from rfl) _) (row_O in_131) rfl rfl rfl (Nat.le_of_ble_eq_true rfl) (by decide) (by decide) ?_
          refine g_if_ne (tgt := 99) fx dX6_extend_78 (by decide) (fun h78 => ?_) (fun h78 => ?_)
          · refine g_iinc1 fx dX6_extend_99 (by decide) rfl rfl (by unfold okI; omega) rfl ?_
            refine g_goto (tgt := 59) fx dX6_extend_102 (by decide) ?_
            exact gw_cg (by rw [itr_s, exS]; (first | rw [if_pos (by omega)] | rw [if_neg (by omega)])) rfl (ih (by omega))
          · refine g_aload_n fx dX6_extend_81 rfl ?_
            refine g_iload_n fx dX6_extend_82 rfl ?_
            refine g_iload_n fx dX6_extend_83 rfl ?_
            refine g_callVD0 fx dX6_extend_84 mv_RX6_86 my_X6_place (s_X6_place ad _ _ _) o_128 rfl rfl rfl (Nat.le_of_ble_eq_true rfl) (by decide) (by decide) ?_
            refine g_aload_n fx dX6_extend_87 rfl ?_
            refine g_iload_n fx dX6_extend_88 rfl ?_
            refine g_iconst fx dX6_extend_89 (by unfold okI; omega) ?_
            refine g_iadd fx dX6_extend_90 ?_
            refine g_callSD0 fx dX6_extend_91 ms_RX6_75 my_X6_extend (s_X6_extend_2 ad _ _ (by decide)) rfl rfl (Nat.le_of_ble_eq_true rfl) (by decide) (by decide) ?_
            refine g_aload_n fx dX6_extend_94 rfl ?_
            refine g_iload_n fx dX6_extend_95 rfl ?_
            refine g_callVD0 fx dX6_extend_96 mv_RX6_89 my_X6_takeBack (s_X6_takeBack ad _ _) o_128 rfl rfl rfl (Nat.le_of_ble_eq_true rfl) (by decide) (by decide) ?_
            refine g_iinc1 fx dX6_extend_99 (by decide) rfl rfl (by unfold okI; omega) rfl ?_
            refine g_goto (tgt := 59) fx dX6_extend_102 (by decide) ?_
            exact gw_cg (by rw [itr_s, exS]; (first | rw [if_pos (by omega)] | rw [if_neg (by omega)])) rfl (ih (by omega))
      exact loop59 0 (Nat.zero_le _)
    · refine g_aload_n fx dX6_extend_33 rfl ?_
      refine g_aload_n fx dX6_extend_34 rfl ?_
      refine g_getr fx dX6_extend_35 fk_RX6_32 o_128 rf_128_7 ?_
      refine g_iload_n fx dX6_extend_38 rfl ?_
      refine g_callVD fx dX6_extend_39 mv_RX6_63 my_X4_at (s_X4_atC ad _ in_139 (show 139 + 1 = 140 from rfl) _) (row_O in_139) rfl rfl rfl (Nat.le_of_ble_eq_true rfl) (by decide) (by decide) ?_
      refine g_puti fx dX6_extend_42 fk_RX6_72 o_128 ?_
      refine g_aload_n fx dX6_extend_45 rfl ?_
      refine g_getr fx dX6_extend_46 fk_RX6_35 o_128 rf_128_8 ?_
      refine g_aload_n fx dX6_extend_49 rfl ?_
      refine g_getr fx dX6_extend_50 fk_RX6_14 o_128 rf_128_2 ?_
      refine g_callVD0 fx dX6_extend_53 mv_RX6_82 my_X4_copyOf (s_X4_copyOfC ad _ in_141 in_129 (show 141 + 1 = 142 from rfl) (show 129 + 1 = 130 from rfl) (by omega)) (row_O in_141) rfl rfl rfl (Nat.le_of_ble_eq_true rfl) (by decide) (by decide) ?_
      exact g_vret fx rfl dX6_extend_56 (by decide) (by decide) (gw_le.rf _) ⟨rfl, rfl, by rw [exF, if_neg (by omega), if_pos (by omega)]; rfl⟩
  · exact g_vret fx rfl dX6_extend_21 (by decide) (by decide) (gw_le.rf _) ⟨rfl, rfl, by rw [exF, if_pos (by omega)]⟩
set_option maxRecDepth 4000 in
theorem s_X6_extend_4 (ad : Nat → Nat) (σ : Sg)  (dp : Int) (hd9 : dp = (5 : Nat)) : gw_Sp yX6_extend cX6_extend 3 none 7 0 0 [vR (some 128), vI dp] (gw_M0 ad) σ (gw_D none (gw_M0 ad) (exF 4 5 σ)) gw_no := by
  refine gw_Sp.of [some (vR (some 128)), some (vI dp), none] (by decide +kernel) rfl (Nat.le_of_ble_eq_true rfl) ?_
  intro X G fx het hnm
  subst hd9
  refine g_okS (fun hok => ?_)
  have hq1 := gw_okO 1 hok (run_O in_26) (by decide)
  unfold okI at hq1
  refine g_iload_n fx dX6_extend_0 rfl ?_
  refine g_bipush fx dX6_extend_1 (by decide) ?_
  refine g_icmp_gt (tgt := 21) fx dX6_extend_3 (by decide) (fun h3 => absurd h3 (by omega)) (fun h3 => ?_)
  refine g_aload_n fx dX6_extend_6 rfl ?_
  refine g_getr fx dX6_extend_7 fk_RX6_32 o_128 rf_128_7 ?_
  refine g_iload_n fx dX6_extend_10 rfl ?_
  refine g_callVD fx dX6_extend_11 mv_RX6_63 my_X4_at (s_X4_atC ad _ in_139 (show 139 + 1 = 140 from rfl) _) (row_O in_139) rfl rfl rfl (Nat.le_of_ble_eq_true rfl) (by decide) (by decide) ?_
  refine g_aload_n fx dX6_extend_14 rfl ?_
  refine g_geti fx dX6_extend_15 fk_RX6_72 (by decide) o_128 ?_
  refine g_icmp_lt (tgt := 22) fx dX6_extend_18 (by decide) (fun h18 => ?_) (fun h18 => ?_)
  · refine g_iload_n fx dX6_extend_22 rfl ?_
    refine g_aload_n fx dX6_extend_23 rfl ?_
    refine g_getr fx dX6_extend_24 fk_RX6_42 o_128 rf_128_1 ?_
    refine g_geti fx dX6_extend_27 fk_RX6_79 (by decide) (run_O in_26) ?_
    refine g_icmp_ne (tgt := 57) fx dX6_extend_30 (by decide) (fun h30 => ?_) (fun h30 => ?_)
    · refine g_iconst fx dX6_extend_57 (by unfold okI; omega) ?_
      refine g_istore_n fx dX6_extend_58 (by decide) rfl rfl ?_
      have loop59 : ∀ k : Nat, k ≤ (σ 26 1).toNat → gw_W X (yX6_extend.cls, cX6_extend, 3, none, 7, 0, 0) G (gw_Z X G (gw_M0 ad) σ (gw_D none (gw_M0 ad) (exF 4 5 σ)) gw_no 0 0) 0 0 (gw_M0 ad) (itr k (exS (exF 3) 5) σ) 59 [some (vR (some 128)), some (vI (5 : Nat)), some (vI (k : Nat))] [] := by
        refine up_ind _ ((σ 26 1).toNat) (fun k hk ih => ?_)
        have hof := (off.rf 128 143 σ).itr (fun k x => exS_off (exF_off 3) 5 k x) k
        have h1 := hof 26 (by omega) 1
        refine g_iload_n fx dX6_extend_59 rfl ?_
        refine g_aload_n fx dX6_extend_60 rfl ?_
        refine g_getr fx dX6_extend_61 fk_RX6_42 o_128 rf_128_1 ?_
        refine g_geti fx dX6_extend_64 fk_RX6_79 (by decide) (run_O in_26) ?_
        refine g_icmp_ge (tgt := 105) fx dX6_extend_67 (by decide) (fun h67 => ?_) (fun h67 => ?_)
        · exact g_vret fx rfl dX6_extend_105 (by decide) (by decide) (gw_le.rf _) ⟨rfl, rfl, by rw [exF, if_neg (by omega), if_neg (by omega), show (σ 26 1).toNat = k by omega]⟩
        · refine g_aload_n fx dX6_extend_70 rfl ?_
          refine g_getr fx dX6_extend_71 fk_RX6_20 o_128 rf_128_3 ?_
          refine g_iload_n fx dX6_extend_74 rfl ?_
          refine g_callVD fx dX6_extend_75 mv_RX6_63 my_X4_at (s_X4_atC ad _ in_131 (show 131 + 1 = 132 from rfl) _) (row_O in_131) rfl rfl rfl (Nat.le_of_ble_eq_true rfl) (by decide) (by decide) ?_
          refine g_if_ne (tgt := 99) fx dX6_extend_78 (by decide) (fun h78 => ?_) (fun h78 => ?_)
          · refine g_iinc1 fx dX6_extend_99 (by decide) rfl rfl (by unfold okI; omega) rfl ?_
            refine g_goto (tgt := 59) fx dX6_extend_102 (by decide) ?_
            exact gw_cg (by rw [itr_s, exS]; (first | rw [if_pos (by omega)] | rw [if_neg (by omega)])) rfl (ih (by omega))
          · refine g_aload_n fx dX6_extend_81 rfl ?_
            refine g_iload_n fx dX6_extend_82 rfl ?_
            refine g_iload_n fx dX6_extend_83 rfl ?_
            refine g_callVD0 fx dX6_extend_84 mv_RX6_86 my_X6_place (s_X6_place ad _ _ _) o_128 rfl rfl rfl (Nat.le_of_ble_eq_true rfl) (by decide) (by decide) ?_
            refine g_aload_n fx dX6_extend_87 rfl ?_
            refine g_iload_n fx dX6_extend_88 rfl ?_
            refine g_iconst fx dX6_extend_89 (by unfold okI; omega) ?_
            refine g_iadd fx dX6_extend_90 ?_
            refine g_callSD0 fx dX6_extend_91 ms_RX6_75 my_X6_extend (s_X6_extend_3 ad _ _ (by decide)) rfl rfl (Nat.le_of_ble_eq_true rfl) (by decide) (by decide) ?_
            refine g_aload_n fx dX6_extend_94 rfl ?_
            refine g_iload_n fx dX6_extend_95 rfl ?_
            refine g_callVD0 fx dX6_extend_96 mv_RX6_89 my_X6_takeBack (s_X6_takeBack ad _ _) o_128 rfl rfl rfl (Nat.le_of_ble_eq_true rfl) (by decide) (by decide) ?_
            refine g_iinc1 fx dX6_extend_99 (by decide) rfl rfl (by unfold okI; omega) rfl ?_
            refine g_goto (tgt := 59) fx dX6_extend_102 (by decide) ?_
            exact gw_cg (by rw [itr_s, exS]; (first | rw [if_pos (by omega)] | rw [if_neg (by omega)])) rfl (ih (by omega))
      exact loop59 0 (Nat.zero_le _)
    · refine g_aload_n fx dX6_extend_33 rfl ?_
      refine g_aload_n fx dX6_extend_34 rfl ?_
      refine g_getr fx dX6_extend_35 fk_RX6_32 o_128 rf_128_7 ?_
      refine g_iload_n fx dX6_extend_38 rfl ?_
      refine g_callVD fx dX6_extend_39 mv_RX6_63 my_X4_at (s_X4_atC ad _ in_139 (show 139 + 1 = 140 from rfl) _) (row_O in_139) rfl rfl rfl (Nat.le_of_ble_eq_true rfl) (by decide) (by decide) ?_
      refine g_puti fx dX6_extend_42 fk_RX6_72 o_128 ?_
      refine g_aload_n fx dX6_extend_45 rfl ?_
      refine g_getr fx dX6_extend_46 fk_RX6_35 o_128 rf_128_8 ?_
      refine g_aload_n fx dX6_extend_49 rfl ?_
      refine g_getr fx dX6_extend_50 fk_RX6_14 o_128 rf_128_2 ?_
      refine g_callVD0 fx dX6_extend_53 mv_RX6_82 my_X4_copyOf (s_X4_copyOfC ad _ in_141 in_129 (show 141 + 1 = 142 from rfl) (show 129 + 1 = 130 from rfl) (by omega)) (row_O in_141) rfl rfl rfl (Nat.le_of_ble_eq_true rfl) (by decide) (by decide) ?_
      exact g_vret fx rfl dX6_extend_56 (by decide) (by decide) (gw_le.rf _) ⟨rfl, rfl, by rw [exF, if_neg (by omega), if_pos (by omega)]; rfl⟩
  · exact g_vret fx rfl dX6_extend_21 (by decide) (by decide) (gw_le.rf _) ⟨rfl, rfl, by rw [exF, if_pos (by omega)]⟩
set_option maxRecDepth 4000 in
theorem s_X6_extend_5 (ad : Nat → Nat) (σ : Sg)  (dp : Int) (hd9 : dp = (4 : Nat)) : gw_Sp yX6_extend cX6_extend 3 none 8 0 0 [vR (some 128), vI dp] (gw_M0 ad) σ (gw_D none (gw_M0 ad) (exF 5 4 σ)) gw_no := by
  refine gw_Sp.of [some (vR (some 128)), some (vI dp), none] (by decide +kernel) rfl (Nat.le_of_ble_eq_true rfl) ?_
  intro X G fx het hnm
  subst hd9
  refine g_okS (fun hok => ?_)
  have hq1 := gw_okO 1 hok (run_O in_26) (by decide)
  unfold okI at hq1
  refine g_iload_n fx dX6_extend_0 rfl ?_
  refine g_bipush fx dX6_extend_1 (by decide) ?_
  refine g_icmp_gt (tgt := 21) fx dX6_extend_3 (by decide) (fun h3 => absurd h3 (by omega)) (fun h3 => ?_)
  refine g_aload_n fx dX6_extend_6 rfl ?_
  refine g_getr fx dX6_extend_7 fk_RX6_32 o_128 rf_128_7 ?_
  refine g_iload_n fx dX6_extend_10 rfl ?_
  refine g_callVD fx dX6_extend_11 mv_RX6_63 my_X4_at (s_X4_atC ad _ in_139 (show 139 + 1 = 140 from rfl) _) (row_O in_139) rfl rfl rfl (Nat.le_of_ble_eq_true rfl) (by decide) (by decide) ?_
  refine g_aload_n fx dX6_extend_14 rfl ?_
  refine g_geti fx dX6_extend_15 fk_RX6_72 (by decide) o_128 ?_
  refine g_icmp_lt (tgt := 22) fx dX6_extend_18 (by decide) (fun h18 => ?_) (fun h18 => ?_)
  · refine g_iload_n fx dX6_extend_22 rfl ?_
    refine g_aload_n fx dX6_extend_23 rfl ?_
    refine g_getr fx dX6_extend_24 fk_RX6_42 o_128 rf_128_1 ?_
    refine g_geti fx dX6_extend_27 fk_RX6_79 (by decide) (run_O in_26) ?_
    refine g_icmp_ne (tgt := 57) fx dX6_extend_30 (by decide) (fun h30 => ?_) (fun h30 => ?_)
    · refine g_iconst fx dX6_extend_57 (by unfold okI; omega) ?_
      refine g_istore_n fx dX6_extend_58 (by decide) rfl rfl ?_
      have loop59 : ∀ k : Nat, k ≤ (σ 26 1).toNat → gw_W X (yX6_extend.cls, cX6_extend, 3, none, 8, 0, 0) G (gw_Z X G (gw_M0 ad) σ (gw_D none (gw_M0 ad) (exF 5 4 σ)) gw_no 0 0) 0 0 (gw_M0 ad) (itr k (exS (exF 4) 4) σ) 59 [some (vR (some 128)), some (vI (4 : Nat)), some (vI (k : Nat))] [] := by
        refine up_ind _ ((σ 26 1).toNat) (fun k hk ih => ?_)
        have hof := (off.rf 128 143 σ).itr (fun k x => exS_off (exF_off 4) 4 k x) k
        have h1 := hof 26 (by omega) 1
        refine g_iload_n fx dX6_extend_59 rfl ?_
        refine g_aload_n fx dX6_extend_60 rfl ?_
        refine g_getr fx dX6_extend_61 fk_RX6_42 o_128 rf_128_1 ?_
        refine g_geti fx dX6_extend_64 fk_RX6_79 (by decide) (run_O in_26) ?_
        refine g_icmp_ge (tgt := 105) fx dX6_extend_67 (by decide) (fun h67 => ?_) (fun h67 => ?_)
        · exact g_vret fx rfl dX6_extend_105 (by decide) (by decide) (gw_le.rf _) ⟨rfl, rfl, by rw [exF, if_neg (by omega), if_neg (by omega), show (σ 26 1).toNat = k by omega]⟩
        · refine g_aload_n fx dX6_extend_70 rfl ?_
          refine g_getr fx dX6_extend_71 fk_RX6_20 o_128 rf_128_3 ?_
          refine g_iload_n fx dX6_extend_74 rfl ?_
          refine g_callVD fx dX6_extend_75 mv_RX6_63 my_X4_at (s_X4_atC ad _ in_131 (show 131 + 1 = 132 from rfl) _) (row_O in_131) rfl rfl rfl (Nat.le_of_ble_eq_true rfl) (by decide) (by decide) ?_
          refine g_if_ne (tgt := 99) fx dX6_extend_78 (by decide) (fun h78 => ?_) (fun h78 => ?_)
          · refine g_iinc1 fx dX6_extend_99 (by decide) rfl rfl (by unfold okI; omega) rfl ?_
            refine g_goto (tgt := 59) fx dX6_extend_102 (by decide) ?_
            exact gw_cg (by rw [itr_s, exS]; (first | rw [if_pos (by omega)] | rw [if_neg (by omega)])) rfl (ih (by omega))
          · refine g_aload_n fx dX6_extend_81 rfl ?_
            refine g_iload_n fx dX6_extend_82 rfl ?_
            refine g_iload_n fx dX6_extend_83 rfl ?_
            refine g_callVD0 fx dX6_extend_84 mv_RX6_86 my_X6_place (s_X6_place ad _ _ _) o_128 rfl rfl rfl (Nat.le_of_ble_eq_true rfl) (by decide) (by decide) ?_
            refine g_aload_n fx dX6_extend_87 rfl ?_
            refine g_iload_n fx dX6_extend_88 rfl ?_
            refine g_iconst fx dX6_extend_89 (by unfold okI; omega) ?_
            refine g_iadd fx dX6_extend_90 ?_
            refine g_callSD0 fx dX6_extend_91 ms_RX6_75 my_X6_extend (s_X6_extend_4 ad _ _ (by decide)) rfl rfl (Nat.le_of_ble_eq_true rfl) (by decide) (by decide) ?_
            refine g_aload_n fx dX6_extend_94 rfl ?_
            refine g_iload_n fx dX6_extend_95 rfl ?_
            refine g_callVD0 fx dX6_extend_96 mv_RX6_89 my_X6_takeBack (s_X6_takeBack ad _ _) o_128 rfl rfl rfl (Nat.le_of_ble_eq_true rfl) (by decide) (by decide) ?_
            refine g_iinc1 fx dX6_extend_99 (by decide) rfl rfl (by unfold okI; omega) rfl ?_
            refine g_goto (tgt := 59) fx dX6_extend_102 (by decide) ?_
            exact gw_cg (by rw [itr_s, exS]; (first | rw [if_pos (by omega)] | rw [if_neg (by omega)])) rfl (ih (by omega))
      exact loop59 0 (Nat.zero_le _)
    · refine g_aload_n fx dX6_extend_33 rfl ?_
      refine g_aload_n fx dX6_extend_34 rfl ?_
      refine g_getr fx dX6_extend_35 fk_RX6_32 o_128 rf_128_7 ?_
      refine g_iload_n fx dX6_extend_38 rfl ?_
      refine g_callVD fx dX6_extend_39 mv_RX6_63 my_X4_at (s_X4_atC ad _ in_139 (show 139 + 1 = 140 from rfl) _) (row_O in_139) rfl rfl rfl (Nat.le_of_ble_eq_true rfl) (by decide) (by decide) ?_
      refine g_puti fx dX6_extend_42 fk_RX6_72 o_128 ?_
      refine g_aload_n fx dX6_extend_45 rfl ?_
      refine g_getr fx dX6_extend_46 fk_RX6_35 o_128 rf_128_8 ?_
      refine g_aload_n fx dX6_extend_49 rfl ?_
      refine g_getr fx dX6_extend_50 fk_RX6_14 o_128 rf_128_2 ?_
      refine g_callVD0 fx dX6_extend_53 mv_RX6_82 my_X4_copyOf (s_X4_copyOfC ad _ in_141 in_129 (show 141 + 1 = 142 from rfl) (show 129 + 1 = 130 from rfl) (by omega)) (row_O in_141) rfl rfl rfl (Nat.le_of_ble_eq_true rfl) (by decide) (by decide) ?_
      exact g_vret fx rfl dX6_extend_56 (by decide) (by decide) (gw_le.rf _) ⟨rfl, rfl, by rw [exF, if_neg (by omega), if_pos (by omega)]; rfl⟩
  · exact g_vret fx rfl dX6_extend_21 (by decide) (by decide) (gw_le.rf _) ⟨rfl, rfl, by rw [exF, if_pos (by omega)]⟩
set_option maxRecDepth 4000 in
theorem s_X6_extend_6 (ad : Nat → Nat) (σ : Sg)  (dp : Int) (hd9 : dp = (3 : Nat)) : gw_Sp yX6_extend cX6_extend 3 none 9 0 0 [vR (some 128), vI dp] (gw_M0 ad) σ (gw_D none (gw_M0 ad) (exF 6 3 σ)) gw_no := by
  refine gw_Sp.of [some (vR (some 128)), some (vI dp), none] (by decide +kernel) rfl (Nat.le_of_ble_eq_true rfl) ?_
  intro X G fx het hnm
  subst hd9
  refine g_okS (fun hok => ?_)
  have hq1 := gw_okO 1 hok (run_O in_26) (by decide)
  unfold okI at hq1
  refine g_iload_n fx dX6_extend_0 rfl ?_
  refine g_bipush fx dX6_extend_1 (by decide) ?_
  refine g_icmp_gt (tgt := 21) fx dX6_extend_3 (by decide) (fun h3 => absurd h3 (by omega)) (fun h3 => ?_)
  refine g_aload_n fx dX6_extend_6 rfl ?_
  refine g_getr fx dX6_extend_7 fk_RX6_32 o_128 rf_128_7 ?_
  refine g_iload_n fx dX6_extend_10 rfl ?_
  refine g_callVD fx dX6_extend_11 mv_RX6_63 my_X4_at (s_X4_atC ad _ in_139 (show 139 + 1 = 140 from rfl) _) (row_O in_139) rfl rfl rfl (Nat.le_of_ble_eq_true rfl) (by decide) (by decide) ?_
  refine g_aload_n fx dX6_extend_14 rfl ?_
  refine g_geti fx dX6_extend_15 fk_RX6_72 (by decide) o_128 ?_
  refine g_icmp_lt (tgt := 22) fx dX6_extend_18 (by decide) (fun h18 => ?_) (fun h18 => ?_)
  · refine g_iload_n fx dX6_extend_22 rfl ?_
    refine g_aload_n fx dX6_extend_23 rfl ?_
    refine g_getr fx dX6_extend_24 fk_RX6_42 o_128 rf_128_1 ?_
    refine g_geti fx dX6_extend_27 fk_RX6_79 (by decide) (run_O in_26) ?_
    refine g_icmp_ne (tgt := 57) fx dX6_extend_30 (by decide) (fun h30 => ?_) (fun h30 => ?_)
    · refine g_iconst fx dX6_extend_57 (by unfold okI; omega) ?_
      refine g_istore_n fx dX6_extend_58 (by decide) rfl rfl ?_
      have loop59 : ∀ k : Nat, k ≤ (σ 26 1).toNat → gw_W X (yX6_extend.cls, cX6_extend, 3, none, 9, 0, 0) G (gw_Z X G (gw_M0 ad) σ (gw_D none (gw_M0 ad) (exF 6 3 σ)) gw_no 0 0) 0 0 (gw_M0 ad) (itr k (exS (exF 5) 3) σ) 59 [some (vR (some 128)), some (vI (3 : Nat)), some (vI (k : Nat))] [] := by
        refine up_ind _ ((σ 26 1).toNat) (fun k hk ih => ?_)
        have hof := (off.rf 128 143 σ).itr (fun k x => exS_off (exF_off 5) 3 k x) k
        have h1 := hof 26 (by omega) 1
        refine g_iload_n fx dX6_extend_59 rfl ?_
        refine g_aload_n fx dX6_extend_60 rfl ?_
        refine g_getr fx dX6_extend_61 fk_RX6_42 o_128 rf_128_1 ?_
        refine g_geti fx dX6_extend_64 fk_RX6_79 (by decide) (run_O in_26) ?_
        refine g_icmp_ge (tgt := 105) fx dX6_extend_67 (by decide) (fun h67 => ?_) (fun h67 => ?_)
        · exact g_vret fx rfl dX6_extend_105 (by decide) (by decide) (gw_le.rf _) ⟨rfl, rfl, by rw [exF, if_neg (by omega), if_neg (by omega), show (σ 26 1).toNat = k by omega]⟩
        · refine g_aload_n fx dX6_extend_70 rfl ?_
          refine g_getr fx dX6_extend_71 fk_RX6_20 o_128 rf_128_3 ?_
          refine g_iload_n fx dX6_extend_74 rfl ?_
          refine g_callVD fx dX6_extend_75 mv_RX6_63 my_X4_at (s_X4_atC ad _ in_131 (show 131 + 1 = 132 from rfl) _) (row_O in_131) rfl rfl rfl (Nat.le_of_ble_eq_true rfl) (by decide) (by decide) ?_
          refine g_if_ne (tgt := 99) fx dX6_extend_78 (by decide) (fun h78 => ?_) (fun h78 => ?_)
          · refine g_iinc1 fx dX6_extend_99 (by decide) rfl rfl (by unfold okI; omega) rfl ?_
            refine g_goto (tgt := 59) fx dX6_extend_102 (by decide) ?_
            exact gw_cg (by rw [itr_s, exS]; (first | rw [if_pos (by omega)] | rw [if_neg (by omega)])) rfl (ih (by omega))
          · refine g_aload_n fx dX6_extend_81 rfl ?_
            refine g_iload_n fx dX6_extend_82 rfl ?_
            refine g_iload_n fx dX6_extend_83 rfl ?_
            refine g_callVD0 fx dX6_extend_84 mv_RX6_86 my_X6_place (s_X6_place ad _ _ _) o_128 rfl rfl rfl (Nat.le_of_ble_eq_true rfl) (by decide) (by decide) ?_
            refine g_aload_n fx dX6_extend_87 rfl ?_
            refine g_iload_n fx dX6_extend_88 rfl ?_
            refine g_iconst fx dX6_extend_89 (by unfold okI; omega) ?_
            refine g_iadd fx dX6_extend_90 ?_
            refine g_callSD0 fx dX6_extend_91 ms_RX6_75 my_X6_extend (s_X6_extend_5 ad _ _ (by decide)) rfl rfl (Nat.le_of_ble_eq_true rfl) (by decide) (by decide) ?_
            refine g_aload_n fx dX6_extend_94 rfl ?_
            refine g_iload_n fx dX6_extend_95 rfl ?_
            refine g_callVD0 fx dX6_extend_96 mv_RX6_89 my_X6_takeBack (s_X6_takeBack ad _ _) o_128 rfl rfl rfl (Nat.le_of_ble_eq_true rfl) (by decide) (by decide) ?_
            refine g_iinc1 fx dX6_extend_99 (by decide) rfl rfl (by unfold okI; omega) rfl ?_
            refine g_goto (tgt := 59) fx dX6_extend_102 (by decide) ?_
            exact gw_cg (by rw [itr_s, exS]; (first | rw [if_pos (by omega)] | rw [if_neg (by omega)])) rfl (ih (by omega))
      exact loop59 0 (Nat.zero_le _)
    · refine g_aload_n fx dX6_extend_33 rfl ?_
      refine g_aload_n fx dX6_extend_34 rfl ?_
      refine g_getr fx dX6_extend_35 fk_RX6_32 o_128 rf_128_7 ?_
      refine g_iload_n fx dX6_extend_38 rfl ?_
      refine g_callVD fx dX6_extend_39 mv_RX6_63 my_X4_at (s_X4_atC ad _ in_139 (show 139 + 1 = 140 from rfl) _) (row_O in_139) rfl rfl rfl (Nat.le_of_ble_eq_true rfl) (by decide) (by decide) ?_
      refine g_puti fx dX6_extend_42 fk_RX6_72 o_128 ?_
      refine g_aload_n fx dX6_extend_45 rfl ?_
      refine g_getr fx dX6_extend_46 fk_RX6_35 o_128 rf_128_8 ?_
      refine g_aload_n fx dX6_extend_49 rfl ?_
      refine g_getr fx dX6_extend_50 fk_RX6_14 o_128 rf_128_2 ?_
      refine g_callVD0 fx dX6_extend_53 mv_RX6_82 my_X4_copyOf (s_X4_copyOfC ad _ in_141 in_129 (show 141 + 1 = 142 from rfl) (show 129 + 1 = 130 from rfl) (by omega)) (row_O in_141) rfl rfl rfl (Nat.le_of_ble_eq_true rfl) (by decide) (by decide) ?_
      exact g_vret fx rfl dX6_extend_56 (by decide) (by decide) (gw_le.rf _) ⟨rfl, rfl, by rw [exF, if_neg (by omega), if_pos (by omega)]; rfl⟩
  · exact g_vret fx rfl dX6_extend_21 (by decide) (by decide) (gw_le.rf _) ⟨rfl, rfl, by rw [exF, if_pos (by omega)]⟩
set_option maxRecDepth 4000 in
theorem s_X6_extend_7 (ad : Nat → Nat) (σ : Sg)  (dp : Int) (hd9 : dp = (2 : Nat)) : gw_Sp yX6_extend cX6_extend 3 none 10 0 0 [vR (some 128), vI dp] (gw_M0 ad) σ (gw_D none (gw_M0 ad) (exF 7 2 σ)) gw_no := by
  refine gw_Sp.of [some (vR (some 128)), some (vI dp), none] (by decide +kernel) rfl (Nat.le_of_ble_eq_true rfl) ?_
  intro X G fx het hnm
  subst hd9
  refine g_okS (fun hok => ?_)
  have hq1 := gw_okO 1 hok (run_O in_26) (by decide)
  unfold okI at hq1
  refine g_iload_n fx dX6_extend_0 rfl ?_
  refine g_bipush fx dX6_extend_1 (by decide) ?_
  refine g_icmp_gt (tgt := 21) fx dX6_extend_3 (by decide) (fun h3 => absurd h3 (by omega)) (fun h3 => ?_)
  refine g_aload_n fx dX6_extend_6 rfl ?_
  refine g_getr fx dX6_extend_7 fk_RX6_32 o_128 rf_128_7 ?_
  refine g_iload_n fx dX6_extend_10 rfl ?_
  refine g_callVD fx dX6_extend_11 mv_RX6_63 my_X4_at (s_X4_atC ad _ in_139 (show 139 + 1 = 140 from rfl) _) (row_O in_139) rfl rfl rfl (Nat.le_of_ble_eq_true rfl) (by decide) (by decide) ?_
  refine g_aload_n fx dX6_extend_14 rfl ?_
  refine g_geti fx dX6_extend_15 fk_RX6_72 (by decide) o_128 ?_
  refine g_icmp_lt (tgt := 22) fx dX6_extend_18 (by decide) (fun h18 => ?_) (fun h18 => ?_)
  · refine g_iload_n fx dX6_extend_22 rfl ?_
    refine g_aload_n fx dX6_extend_23 rfl ?_
    refine g_getr fx dX6_extend_24 fk_RX6_42 o_128 rf_128_1 ?_
    refine g_geti fx dX6_extend_27 fk_RX6_79 (by decide) (run_O in_26) ?_
    refine g_icmp_ne (tgt := 57) fx dX6_extend_30 (by decide) (fun h30 => ?_) (fun h30 => ?_)
    · refine g_iconst fx dX6_extend_57 (by unfold okI; omega) ?_
      refine g_istore_n fx dX6_extend_58 (by decide) rfl rfl ?_
      have loop59 : ∀ k : Nat, k ≤ (σ 26 1).toNat → gw_W X (yX6_extend.cls, cX6_extend, 3, none, 10, 0, 0) G (gw_Z X G (gw_M0 ad) σ (gw_D none (gw_M0 ad) (exF 7 2 σ)) gw_no 0 0) 0 0 (gw_M0 ad) (itr k (exS (exF 6) 2) σ) 59 [some (vR (some 128)), some (vI (2 : Nat)), some (vI (k : Nat))] [] := by
        refine up_ind _ ((σ 26 1).toNat) (fun k hk ih => ?_)
        have hof := (off.rf 128 143 σ).itr (fun k x => exS_off (exF_off 6) 2 k x) k
        have h1 := hof 26 (by omega) 1
        refine g_iload_n fx dX6_extend_59 rfl ?_
        refine g_aload_n fx dX6_extend_60 rfl ?_
        refine g_getr fx dX6_extend_61 fk_RX6_42 o_128 rf_128_1 ?_
        refine g_geti fx dX6_extend_64 fk_RX6_79 (by decide) (run_O in_26) ?_
        refine g_icmp_ge (tgt := 105) fx dX6_extend_67 (by decide) (fun h67 => ?_) (fun h67 => ?_)
        · exact g_vret fx rfl dX6_extend_105 (by decide) (by decide) (gw_le.rf _) ⟨rfl, rfl, by rw [exF, if_neg (by omega), if_neg (by omega), show (σ 26 1).toNat = k by omega]⟩
        · refine g_aload_n fx dX6_extend_70 rfl ?_
          refine g_getr fx dX6_extend_71 fk_RX6_20 o_128 rf_128_3 ?_
          refine g_iload_n fx dX6_extend_74 rfl ?_
          refine g_callVD fx dX6_extend_75 mv_RX6_63 my_X4_at (s_X4_atC ad _ in_131 (show 131 + 1 = 132 from rfl) _) (row_O in_131) rfl rfl rfl (Nat.le_of_ble_eq_true rfl) (by decide) (by decide) ?_
          refine g_if_ne (tgt := 99) fx dX6_extend_78 (by decide) (fun h78 => ?_) (fun h78 => ?_)
          · refine g_iinc1 fx dX6_extend_99 (by decide) rfl rfl (by unfold okI; omega) rfl ?_
            refine g_goto (tgt := 59) fx dX6_extend_102 (by decide) ?_
            exact gw_cg (by rw [itr_s, exS]; (first | rw [if_pos (by omega)] | rw [if_neg (by omega)])) rfl (ih (by omega))
          · refine g_aload_n fx dX6_extend_81 rfl ?_
            refine g_iload_n fx dX6_extend_82 rfl ?_
            refine g_iload_n fx dX6_extend_83 rfl ?_
            refine g_callVD0 fx dX6_extend_84 mv_RX6_86 my_X6_place (s_X6_place ad _ _ _) o_128 rfl rfl rfl (Nat.le_of_ble_eq_true rfl) (by decide) (by decide) ?_
            refine g_aload_n fx dX6_extend_87 rfl ?_
            refine g_iload_n fx dX6_extend_88 rfl ?_
            refine g_iconst fx dX6_extend_89 (by unfold okI; omega) ?_
            refine g_iadd fx dX6_extend_90 ?_
            refine g_callSD0 fx dX6_extend_91 ms_RX6_75 my_X6_extend (s_X6_extend_6 ad _ _ (by decide)) rfl rfl (Nat.le_of_ble_eq_true rfl) (by decide) (by decide) ?_
            refine g_aload_n fx dX6_extend_94 rfl ?_
            refine g_iload_n fx dX6_extend_95 rfl ?_
            refine g_callVD0 fx dX6_extend_96 mv_RX6_89 my_X6_takeBack (s_X6_takeBack ad _ _) o_128 rfl rfl rfl (Nat.le_of_ble_eq_true rfl) (by decide) (by decide) ?_
            refine g_iinc1 fx dX6_extend_99 (by decide) rfl rfl (by unfold okI; omega) rfl ?_
            refine g_goto (tgt := 59) fx dX6_extend_102 (by decide) ?_
            exact gw_cg (by rw [itr_s, exS]; (first | rw [if_pos (by omega)] | rw [if_neg (by omega)])) rfl (ih (by omega))
      exact loop59 0 (Nat.zero_le _)
    · refine g_aload_n fx dX6_extend_33 rfl ?_
      refine g_aload_n fx dX6_extend_34 rfl ?_
      refine g_getr fx dX6_extend_35 fk_RX6_32 o_128 rf_128_7 ?_
      refine g_iload_n fx dX6_extend_38 rfl ?_
      refine g_callVD fx dX6_extend_39 mv_RX6_63 my_X4_at (s_X4_atC ad _ in_139 (show 139 + 1 = 140 from rfl) _) (row_O in_139) rfl rfl rfl (Nat.le_of_ble_eq_true rfl) (by decide) (by decide) ?_
      refine g_puti fx dX6_extend_42 fk_RX6_72 o_128 ?_
      refine g_aload_n fx dX6_extend_45 rfl ?_
      refine g_getr fx dX6_extend_46 fk_RX6_35 o_128 rf_128_8 ?_
      refine g_aload_n fx dX6_extend_49 rfl ?_
      refine g_getr fx dX6_extend_50 fk_RX6_14 o_128 rf_128_2 ?_
      refine g_callVD0 fx dX6_extend_53 mv_RX6_82 my_X4_copyOf (s_X4_copyOfC ad _ in_141 in_129 (show 141 + 1 = 142 from rfl) (show 129 + 1 = 130 from rfl) (by omega)) (row_O in_141) rfl rfl rfl (Nat.le_of_ble_eq_true rfl) (by decide) (by decide) ?_
      exact g_vret fx rfl dX6_extend_56 (by decide) (by decide) (gw_le.rf _) ⟨rfl, rfl, by rw [exF, if_neg (by omega), if_pos (by omega)]; rfl⟩
  · exact g_vret fx rfl dX6_extend_21 (by decide) (by decide) (gw_le.rf _) ⟨rfl, rfl, by rw [exF, if_pos (by omega)]⟩
set_option maxRecDepth 4000 in
theorem s_X6_extend_8 (ad : Nat → Nat) (σ : Sg)  (dp : Int) (hd9 : dp = (1 : Nat)) : gw_Sp yX6_extend cX6_extend 3 none 11 0 0 [vR (some 128), vI dp] (gw_M0 ad) σ (gw_D none (gw_M0 ad) (exF 8 1 σ)) gw_no := by
  refine gw_Sp.of [some (vR (some 128)), some (vI dp), none] (by decide +kernel) rfl (Nat.le_of_ble_eq_true rfl) ?_
  intro X G fx het hnm
  subst hd9
  refine g_okS (fun hok => ?_)
  have hq1 := gw_okO 1 hok (run_O in_26) (by decide)
  unfold okI at hq1
  refine g_iload_n fx dX6_extend_0 rfl ?_
  refine g_bipush fx dX6_extend_1 (by decide) ?_
  refine g_icmp_gt (tgt := 21) fx dX6_extend_3 (by decide) (fun h3 => absurd h3 (by omega)) (fun h3 => ?_)
  refine g_aload_n fx dX6_extend_6 rfl ?_
  refine g_getr fx dX6_extend_7 fk_RX6_32 o_128 rf_128_7 ?_
  refine g_iload_n fx dX6_extend_10 rfl ?_
  refine g_callVD fx dX6_extend_11 mv_RX6_63 my_X4_at (s_X4_atC ad _ in_139 (show 139 + 1 = 140 from rfl) _) (row_O in_139) rfl rfl rfl (Nat.le_of_ble_eq_true rfl) (by decide) (by decide) ?_
  refine g_aload_n fx dX6_extend_14 rfl ?_
  refine g_geti fx dX6_extend_15 fk_RX6_72 (by decide) o_128 ?_
  refine g_icmp_lt (tgt := 22) fx dX6_extend_18 (by decide) (fun h18 => ?_) (fun h18 => ?_)
  · refine g_iload_n fx dX6_extend_22 rfl ?_
    refine g_aload_n fx dX6_extend_23 rfl ?_
    refine g_getr fx dX6_extend_24 fk_RX6_42 o_128 rf_128_1 ?_
    refine g_geti fx dX6_extend_27 fk_RX6_79 (by decide) (run_O in_26) ?_
    refine g_icmp_ne (tgt := 57) fx dX6_extend_30 (by decide) (fun h30 => ?_) (fun h30 => ?_)
    · refine g_iconst fx dX6_extend_57 (by unfold okI; omega) ?_
      refine g_istore_n fx dX6_extend_58 (by decide) rfl rfl ?_
      have loop59 : ∀ k : Nat, k ≤ (σ 26 1).toNat → gw_W X (yX6_extend.cls, cX6_extend, 3, none, 11, 0, 0) G (gw_Z X G (gw_M0 ad) σ (gw_D none (gw_M0 ad) (exF 8 1 σ)) gw_no 0 0) 0 0 (gw_M0 ad) (itr k (exS (exF 7) 1) σ) 59 [some (vR (some 128)), some (vI (1 : Nat)), some (vI (k : Nat))] [] := by
        refine up_ind _ ((σ 26 1).toNat) (fun k hk ih => ?_)
        have hof := (off.rf 128 143 σ).itr (fun k x => exS_off (exF_off 7) 1 k x) k
        have h1 := hof 26 (by omega) 1
        refine g_iload_n fx dX6_extend_59 rfl ?_
        refine g_aload_n fx dX6_extend_60 rfl ?_
        refine g_getr fx dX6_extend_61 fk_RX6_42 o_128 rf_128_1 ?_
        refine g_geti fx dX6_extend_64 fk_RX6_79 (by decide) (run_O in_26) ?_
        refine g_icmp_ge (tgt := 105) fx dX6_extend_67 (by decide) (fun h67 => ?_) (fun h67 => ?_)
        · exact g_vret fx rfl dX6_extend_105 (by decide) (by decide) (gw_le.rf _) ⟨rfl, rfl, by rw [exF, if_neg (by omega), if_neg (by omega), show (σ 26 1).toNat = k by omega]⟩
        · refine g_aload_n fx dX6_extend_70 rfl ?_
          refine g_getr fx dX6_extend_71 fk_RX6_20 o_128 rf_128_3 ?_
          refine g_iload_n fx dX6_extend_74 rfl ?_
          refine g_callVD fx dX6_extend_75 mv_RX6_63 my_X4_at (s_X4_atC ad _ in_131 (show 131 + 1 = 132 from rfl) _) (row_O in_131) rfl rfl rfl (Nat.le_of_ble_eq_true rfl) (by decide) (by decide) ?_
          refine g_if_ne (tgt := 99) fx dX6_extend_78 (by decide) (fun h78 => ?_) (fun h78 => ?_)
          · refine g_iinc1 fx dX6_extend_99 (by decide) rfl rfl (by unfold okI; omega) rfl ?_
            refine g_goto (tgt := 59) fx dX6_extend_102 (by decide) ?_
            exact gw_cg (by rw [itr_s, exS]; (first | rw [if_pos (by omega)] | rw [if_neg (by omega)])) rfl (ih (by omega))
          · refine g_aload_n fx dX6_extend_81 rfl ?_
            refine g_iload_n fx dX6_extend_82 rfl ?_
            refine g_iload_n fx dX6_extend_83 rfl ?_
            refine g_callVD0 fx dX6_extend_84 mv_RX6_86 my_X6_place (s_X6_place ad _ _ _) o_128 rfl rfl rfl (Nat.le_of_ble_eq_true rfl) (by decide) (by decide) ?_
            refine g_aload_n fx dX6_extend_87 rfl ?_
            refine g_iload_n fx dX6_extend_88 rfl ?_
            refine g_iconst fx dX6_extend_89 (by unfold okI; omega) ?_
            refine g_iadd fx dX6_extend_90 ?_
            refine g_callSD0 fx dX6_extend_91 ms_RX6_75 my_X6_extend (s_X6_extend_7 ad _ _ (by decide)) rfl rfl (Nat.le_of_ble_eq_true rfl) (by decide) (by decide) ?_
            refine g_aload_n fx dX6_extend_94 rfl ?_
            refine g_iload_n fx dX6_extend_95 rfl ?_
            refine g_callVD0 fx dX6_extend_96 mv_RX6_89 my_X6_takeBack (s_X6_takeBack ad _ _) o_128 rfl rfl rfl (Nat.le_of_ble_eq_true rfl) (by decide) (by decide) ?_
            refine g_iinc1 fx dX6_extend_99 (by decide) rfl rfl (by unfold okI; omega) rfl ?_
            refine g_goto (tgt := 59) fx dX6_extend_102 (by decide) ?_
            exact gw_cg (by rw [itr_s, exS]; (first | rw [if_pos (by omega)] | rw [if_neg (by omega)])) rfl (ih (by omega))
      exact loop59 0 (Nat.zero_le _)
    · refine g_aload_n fx dX6_extend_33 rfl ?_
      refine g_aload_n fx dX6_extend_34 rfl ?_
      refine g_getr fx dX6_extend_35 fk_RX6_32 o_128 rf_128_7 ?_
      refine g_iload_n fx dX6_extend_38 rfl ?_
      refine g_callVD fx dX6_extend_39 mv_RX6_63 my_X4_at (s_X4_atC ad _ in_139 (show 139 + 1 = 140 from rfl) _) (row_O in_139) rfl rfl rfl (Nat.le_of_ble_eq_true rfl) (by decide) (by decide) ?_
      refine g_puti fx dX6_extend_42 fk_RX6_72 o_128 ?_
      refine g_aload_n fx dX6_extend_45 rfl ?_
      refine g_getr fx dX6_extend_46 fk_RX6_35 o_128 rf_128_8 ?_
      refine g_aload_n fx dX6_extend_49 rfl ?_
      refine g_getr fx dX6_extend_50 fk_RX6_14 o_128 rf_128_2 ?_
      refine g_callVD0 fx dX6_extend_53 mv_RX6_82 my_X4_copyOf (s_X4_copyOfC ad _ in_141 in_129 (show 141 + 1 = 142 from rfl) (show 129 + 1 = 130 from rfl) (by omega)) (row_O in_141) rfl rfl rfl (Nat.le_of_ble_eq_true rfl) (by decide) (by decide) ?_
      exact g_vret fx rfl dX6_extend_56 (by decide) (by decide) (gw_le.rf _) ⟨rfl, rfl, by rw [exF, if_neg (by omega), if_pos (by omega)]; rfl⟩
  · exact g_vret fx rfl dX6_extend_21 (by decide) (by decide) (gw_le.rf _) ⟨rfl, rfl, by rw [exF, if_pos (by omega)]⟩
set_option maxRecDepth 4000 in
theorem s_X6_extend_9 (ad : Nat → Nat) (σ : Sg)  (dp : Int) (hd9 : dp = (0 : Nat)) : gw_Sp yX6_extend cX6_extend 3 none 12 0 0 [vR (some 128), vI dp] (gw_M0 ad) σ (gw_D none (gw_M0 ad) (exF 9 0 σ)) gw_no := by
  refine gw_Sp.of [some (vR (some 128)), some (vI dp), none] (by decide +kernel) rfl (Nat.le_of_ble_eq_true rfl) ?_
  intro X G fx het hnm
  subst hd9
  refine g_okS (fun hok => ?_)
  have hq1 := gw_okO 1 hok (run_O in_26) (by decide)
  unfold okI at hq1
  refine g_iload_n fx dX6_extend_0 rfl ?_
  refine g_bipush fx dX6_extend_1 (by decide) ?_
  refine g_icmp_gt (tgt := 21) fx dX6_extend_3 (by decide) (fun h3 => absurd h3 (by omega)) (fun h3 => ?_)
  refine g_aload_n fx dX6_extend_6 rfl ?_
  refine g_getr fx dX6_extend_7 fk_RX6_32 o_128 rf_128_7 ?_
  refine g_iload_n fx dX6_extend_10 rfl ?_
  refine g_callVD fx dX6_extend_11 mv_RX6_63 my_X4_at (s_X4_atC ad _ in_139 (show 139 + 1 = 140 from rfl) _) (row_O in_139) rfl rfl rfl (Nat.le_of_ble_eq_true rfl) (by decide) (by decide) ?_
  refine g_aload_n fx dX6_extend_14 rfl ?_
  refine g_geti fx dX6_extend_15 fk_RX6_72 (by decide) o_128 ?_
  refine g_icmp_lt (tgt := 22) fx dX6_extend_18 (by decide) (fun h18 => ?_) (fun h18 => ?_)
  · refine g_iload_n fx dX6_extend_22 rfl ?_
    refine g_aload_n fx dX6_extend_23 rfl ?_
    refine g_getr fx dX6_extend_24 fk_RX6_42 o_128 rf_128_1 ?_
    refine g_geti fx dX6_extend_27 fk_RX6_79 (by decide) (run_O in_26) ?_
    refine g_icmp_ne (tgt := 57) fx dX6_extend_30 (by decide) (fun h30 => ?_) (fun h30 => ?_)
    · refine g_iconst fx dX6_extend_57 (by unfold okI; omega) ?_
      refine g_istore_n fx dX6_extend_58 (by decide) rfl rfl ?_
      have loop59 : ∀ k : Nat, k ≤ (σ 26 1).toNat → gw_W X (yX6_extend.cls, cX6_extend, 3, none, 12, 0, 0) G (gw_Z X G (gw_M0 ad) σ (gw_D none (gw_M0 ad) (exF 9 0 σ)) gw_no 0 0) 0 0 (gw_M0 ad) (itr k (exS (exF 8) 0) σ) 59 [some (vR (some 128)), some (vI (0 : Nat)), some (vI (k : Nat))] [] := by
        refine up_ind _ ((σ 26 1).toNat) (fun k hk ih => ?_)
        have hof := (off.rf 128 143 σ).itr (fun k x => exS_off (exF_off 8) 0 k x) k
        have h1 := hof 26 (by omega) 1
        refine g_iload_n fx dX6_extend_59 rfl ?_
        refine g_aload_n fx dX6_extend_60 rfl ?_
        refine g_getr fx dX6_extend_61 fk_RX6_42 o_128 rf_128_1 ?_
        refine g_geti fx dX6_extend_64 fk_RX6_79 (by decide) (run_O in_26) ?_
        refine g_icmp_ge (tgt := 105) fx dX6_extend_67 (by decide) (fun h67 => ?_) (fun h67 => ?_)
        · exact g_vret fx rfl dX6_extend_105 (by decide) (by decide) (gw_le.rf _) ⟨rfl, rfl, by rw [exF, if_neg (by omega), if_neg (by omega), show (σ 26 1).toNat = k by omega]⟩
        · refine g_aload_n fx dX6_extend_70 rfl ?_
          refine g_getr fx dX6_extend_71 fk_RX6_20 o_128 rf_128_3 ?_
          refine g_iload_n fx dX6_extend_74 rfl ?_
          refine g_callVD fx dX6_extend_75 mv_RX6_63 my_X4_at (s_X4_atC ad _ in_131 (show 131 + 1 = 132 from rfl) _) (row_O in_131) rfl rfl rfl (Nat.le_of_ble_eq_true rfl) (by decide) (by decide) ?_
          refine g_if_ne (tgt := 99) fx dX6_extend_78 (by decide) (fun h78 => ?_) (fun h78 => ?_)
          · refine g_iinc1 fx dX6_extend_99 (by decide) rfl rfl (by unfold okI; omega) rfl ?_
            refine g_goto (tgt := 59) fx dX6_extend_102 (by decide) ?_
            exact gw_cg (by rw [itr_s, exS]; (first | rw [if_pos (by omega)] | rw [if_neg (by omega)])) rfl (ih (by omega))
          · refine g_aload_n fx dX6_extend_81 rfl ?_
            refine g_iload_n fx dX6_extend_82 rfl ?_
            refine g_iload_n fx dX6_extend_83 rfl ?_
            refine g_callVD0 fx dX6_extend_84 mv_RX6_86 my_X6_place (s_X6_place ad _ _ _) o_128 rfl rfl rfl (Nat.le_of_ble_eq_true rfl) (by decide) (by decide) ?_
            refine g_aload_n fx dX6_extend_87 rfl ?_
            refine g_iload_n fx dX6_extend_88 rfl ?_
            refine g_iconst fx dX6_extend_89 (by unfold okI; omega) ?_
            refine g_iadd fx dX6_extend_90 ?_
            refine g_callSD0 fx dX6_extend_91 ms_RX6_75 my_X6_extend (s_X6_extend_8 ad _ _ (by decide)) rfl rfl (Nat.le_of_ble_eq_true rfl) (by decide) (by decide) ?_
            refine g_aload_n fx dX6_extend_94 rfl ?_
            refine g_iload_n fx dX6_extend_95 rfl ?_
            refine g_callVD0 fx dX6_extend_96 mv_RX6_89 my_X6_takeBack (s_X6_takeBack ad _ _) o_128 rfl rfl rfl (Nat.le_of_ble_eq_true rfl) (by decide) (by decide) ?_
            refine g_iinc1 fx dX6_extend_99 (by decide) rfl rfl (by unfold okI; omega) rfl ?_
            refine g_goto (tgt := 59) fx dX6_extend_102 (by decide) ?_
            exact gw_cg (by rw [itr_s, exS]; (first | rw [if_pos (by omega)] | rw [if_neg (by omega)])) rfl (ih (by omega))
      exact loop59 0 (Nat.zero_le _)
    · refine g_aload_n fx dX6_extend_33 rfl ?_
      refine g_aload_n fx dX6_extend_34 rfl ?_
      refine g_getr fx dX6_extend_35 fk_RX6_32 o_128 rf_128_7 ?_
      refine g_iload_n fx dX6_extend_38 rfl ?_
      refine g_callVD fx dX6_extend_39 mv_RX6_63 my_X4_at (s_X4_atC ad _ in_139 (show 139 + 1 = 140 from rfl) _) (row_O in_139) rfl rfl rfl (Nat.le_of_ble_eq_true rfl) (by decide) (by decide) ?_
      refine g_puti fx dX6_extend_42 fk_RX6_72 o_128 ?_
      refine g_aload_n fx dX6_extend_45 rfl ?_
      refine g_getr fx dX6_extend_46 fk_RX6_35 o_128 rf_128_8 ?_
      refine g_aload_n fx dX6_extend_49 rfl ?_
      refine g_getr fx dX6_extend_50 fk_RX6_14 o_128 rf_128_2 ?_
      refine g_callVD0 fx dX6_extend_53 mv_RX6_82 my_X4_copyOf (s_X4_copyOfC ad _ in_141 in_129 (show 141 + 1 = 142 from rfl) (show 129 + 1 = 130 from rfl) (by omega)) (row_O in_141) rfl rfl rfl (Nat.le_of_ble_eq_true rfl) (by decide) (by decide) ?_
      exact g_vret fx rfl dX6_extend_56 (by decide) (by decide) (gw_le.rf _) ⟨rfl, rfl, by rw [exF, if_neg (by omega), if_pos (by omega)]; rfl⟩
  · exact g_vret fx rfl dX6_extend_21 (by decide) (by decide) (gw_le.rf _) ⟨rfl, rfl, by rw [exF, if_pos (by omega)]⟩
theorem ss_off (σ : Sg) (k : Nat) : ∀ a, a < 26 → ∀ j, itr k (ssS σ) (ss0 σ) a j = σ a j := by
  intro a ha j
  induction k with
  | zero => exact (rFill_ne (by omega)).trans (ly_off (r := 26) (m := 4) σ a (by omega) j)
  | succ k ih => rw [itr_s, ssS, rPut_ne (by omega)]; exact ih
theorem ss_5 (σ : Sg) (k : Nat) : itr k (ssS σ) (ss0 σ) 4 5 = σ 4 5 := ss_off σ k 4 (by omega) 5
theorem ss_23 (σ : Sg) (k : Nat) : ∀ j, itr k (ssS σ) (ss0 σ) 23 j = σ 23 j := ss_off σ k 23 (by omega)
set_option maxRecDepth 4000 in
theorem s_X6_seek (ad : Nat → Nat) (σ : Sg)  : gw_Sp yX6_seek cX6_seek 2 none 13 0 0 [vR (some 128)] (gw_M0 ad) σ (gw_D none (gw_M0 ad) (seek σ)) gw_no := by
  refine gw_Sp.of [some (vR (some 128)), none] (by decide +kernel) rfl (Nat.le_of_ble_eq_true rfl) ?_
  intro X G fx het hnm
  refine g_okS (fun hok => ?_)
  have hq5 := gw_okO 5 hok (mill_O in_4) (by decide)
  unfold okI at hq5
  have hly := (ly_off (r := 26) (m := 4) σ)
  refine g_aload_n fx dX6_seek_0 rfl ?_
  refine g_getr fx dX6_seek_1 fk_RX6_42 o_128 rf_128_1 ?_
  refine g_callVD0 fx dX6_seek_4 mv_RX6_46 my_X5_lay (s_X5_lay ad _ in_26) (run_O in_26) rfl rfl rfl (Nat.le_of_ble_eq_true rfl) (by decide) (by decide) ?_
  refine g_aload_n fx dX6_seek_7 rfl ?_
  refine g_getr fx dX6_seek_8 fk_RX6_20 o_128 rf_128_3 ?_
  refine g_iconst fx dX6_seek_11 (by unfold okI; omega) ?_
  refine g_callVD0 fx dX6_seek_12 mv_RX6_51 my_X4_fill (s_X4_fillC ad _ in_131 (show 131 + 1 = 132 from rfl) _) (row_O in_131) rfl rfl rfl (Nat.le_of_ble_eq_true rfl) (by decide) (by decide) ?_
  refine g_iconst fx dX6_seek_15 (by unfold okI; omega) ?_
  refine g_istore_n fx dX6_seek_16 (by decide) rfl rfl ?_
  have loop17 : ∀ k : Nat, k ≤ (σ 4 5).toNat → gw_W X (yX6_seek.cls, cX6_seek, 2, none, 13, 0, 0) G (gw_Z X G (gw_M0 ad) σ (gw_D none (gw_M0 ad) (seek σ)) gw_no 0 0) 0 0 (gw_M0 ad) (itr k (ssS σ) (ss0 σ)) 17 [some (vR (some 128)), some (vI (k : Nat))] [] := by
    refine up_ind _ ((σ 4 5).toNat) (fun k hk ih => ?_)
    have h5 : itr k (ssS σ) (ss0 σ) 4 5 = σ 4 5 := ss_5 σ k
    have h23 : ∀ j, itr k (ssS σ) (ss0 σ) 23 j = σ 23 j := ss_23 σ k
    refine g_iload_n fx dX6_seek_17 rfl ?_
    refine g_aload_n fx dX6_seek_18 rfl ?_
    refine g_getr fx dX6_seek_19 fk_RX6_38 o_128 rf_128_0 ?_
    refine g_geti fx dX6_seek_22 fk_RX6_54 (by decide) (mill_O in_4) ?_
    refine g_icmp_ge (tgt := 53) fx dX6_seek_25 (by decide) (fun h25 => ?_) (fun h25 => ?_)
    · rw [show k = (σ 4 5).toNat by omega]
      refine g_aload_n fx dX6_seek_53 rfl ?_
      refine g_getr fx dX6_seek_54 fk_RX6_26 o_128 rf_128_5 ?_
      refine g_iconst fx dX6_seek_57 (by unfold okI; omega) ?_
      refine g_iconst fx dX6_seek_58 (by unfold okI; omega) ?_
      refine g_callVD0 fx dX6_seek_59 mv_RX6_67 my_X4_put (s_X4_putC ad _ in_135 (show 135 + 1 = 136 from rfl) _ _) (row_O in_135) rfl rfl rfl (Nat.le_of_ble_eq_true rfl) (by decide) (by decide) ?_
      refine g_aload_n fx dX6_seek_62 rfl ?_
      refine g_getr fx dX6_seek_63 fk_RX6_29 o_128 rf_128_6 ?_
      refine g_iconst fx dX6_seek_66 (by unfold okI; omega) ?_
      refine g_iconst fx dX6_seek_67 (by unfold okI; omega) ?_
      refine g_callVD0 fx dX6_seek_68 mv_RX6_67 my_X4_put (s_X4_putC ad _ in_137 (show 137 + 1 = 138 from rfl) _ _) (row_O in_137) rfl rfl rfl (Nat.le_of_ble_eq_true rfl) (by decide) (by decide) ?_
      refine g_aload_n fx dX6_seek_71 rfl ?_
      refine g_getr fx dX6_seek_72 fk_RX6_32 o_128 rf_128_7 ?_
      refine g_iconst fx dX6_seek_75 (by unfold okI; omega) ?_
      refine g_iconst fx dX6_seek_76 (by unfold okI; omega) ?_
      refine g_callVD0 fx dX6_seek_77 mv_RX6_67 my_X4_put (s_X4_putC ad _ in_139 (show 139 + 1 = 140 from rfl) _ _) (row_O in_139) rfl rfl rfl (Nat.le_of_ble_eq_true rfl) (by decide) (by decide) ?_
      refine g_aload_n fx dX6_seek_80 rfl ?_
      refine g_ldcI fx dX6_seek_81 kc_RX6_71 (by unfold okI; omega) ?_
      refine g_puti fx dX6_seek_83 fk_RX6_72 o_128 ?_
      refine g_aload_n fx dX6_seek_86 rfl ?_
      refine g_iconst fx dX6_seek_87 (by unfold okI; omega) ?_
      refine g_callSD0 fx dX6_seek_88 ms_RX6_75 my_X6_extend (s_X6_extend_9 ad _ _ rfl) rfl rfl (Nat.le_of_ble_eq_true rfl) (by decide) (by decide) ?_
      exact g_vret fx rfl dX6_seek_91 (by decide) (by decide) (gw_le.rf _) ⟨rfl, rfl, rfl⟩
    · refine g_aload_n fx dX6_seek_28 rfl ?_
      refine g_getr fx dX6_seek_29 fk_RX6_23 o_128 rf_128_4 ?_
      refine g_iload_n fx dX6_seek_32 rfl ?_
      refine g_aload_n fx dX6_seek_33 rfl ?_
      refine g_getr fx dX6_seek_34 fk_RX6_38 o_128 rf_128_0 ?_
      refine g_getr fx dX6_seek_37 fk_RX6_60 (mill_O in_4) (mill_f14 in_4) ?_
      refine g_iload_n fx dX6_seek_40 rfl ?_
      refine g_callVD fx dX6_seek_41 mv_RX6_63 my_X4_at (s_X4_atC ad _ (mill_h14 in_4) (show 22 + 1 = 23 from rfl) _) (row_O (mill_h14 in_4)) rfl rfl rfl (Nat.le_of_ble_eq_true rfl) (by decide) (by decide) ?_
      refine g_callVD0 fx dX6_seek_44 mv_RX6_67 my_X4_put (s_X4_putC ad _ in_133 (show 133 + 1 = 134 from rfl) _ _) (row_O in_133) rfl rfl rfl (Nat.le_of_ble_eq_true rfl) (by decide) (by decide) ?_
      refine g_iinc1 fx dX6_seek_47 (by decide) rfl rfl (by unfold okI; omega) rfl ?_
      refine g_goto (tgt := 17) fx dX6_seek_50 (by decide) ?_
      exact gw_cg (by rw [itr_s, ssS, rAt_cg h23]) rfl (ih (by omega))
  exact loop17 0 (Nat.zero_le _)
