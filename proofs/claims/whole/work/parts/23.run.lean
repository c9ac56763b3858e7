theorem dX5_comeOf_0 : gw_dc cX5_comeOf 0 (.aload_n 0) 1 1 := ⟨by decide +kernel, rfl⟩
theorem dX5_comeOf_1 : gw_dc cX5_comeOf 1 (.getfield 53) 3 4 := ⟨by decide +kernel, rfl⟩
theorem fk_RX5_53 : gw_fk RX5 53 5 0 15 1 true := ⟨_, _, _, ck_5, by decide, by decide, fun h => absurd h (by decide), fun h => absurd h (by decide), fun _ => Or.inl ⟨_, rfl⟩, rfl, Or.inl (gw_mem 326 (by decide +kernel) rfl)⟩
theorem dX5_comeOf_4 : gw_dc cX5_comeOf 4 (.getfield 157) 3 7 := ⟨by decide +kernel, rfl⟩
theorem fk_RX5_157 : gw_fk RX5 157 1 10 16 1 true := ⟨_, _, _, ck_1, by decide, by decide, fun h => absurd h (by decide), fun h => absurd h (by decide), fun _ => Or.inl ⟨_, rfl⟩, rfl, Or.inr ⟨"LightestSack", gw_memN 267 (by decide +kernel) rfl⟩⟩
theorem dX5_comeOf_7 : gw_dc cX5_comeOf 7 (.aload_n 0) 1 8 := ⟨by decide +kernel, rfl⟩
theorem dX5_comeOf_8 : gw_dc cX5_comeOf 8 (.getfield 14) 3 11 := ⟨by decide +kernel, rfl⟩
theorem fk_RX5_14 : gw_fk RX5 14 5 3 15 1 true := ⟨_, _, _, ck_5, by decide, by decide, fun h => absurd h (by decide), fun h => absurd h (by decide), fun _ => Or.inl ⟨_, rfl⟩, rfl, Or.inl (gw_mem 332 (by decide +kernel) rfl)⟩
theorem dX5_comeOf_11 : gw_dc cX5_comeOf 11 (.iload_n 1) 1 12 := ⟨by decide +kernel, rfl⟩
theorem dX5_comeOf_12 : gw_dc cX5_comeOf 12 (.invokevirtual 72) 3 15 := ⟨by decide +kernel, rfl⟩
theorem mv_RX5_72 : gw_mv RX5 72 yX4_at := ⟨gw_mem 592 (by decide +kernel) rfl, gw_mem 573 (by decide +kernel) rfl, gw_mem 574 (by decide +kernel) rfl⟩
theorem dX5_comeOf_15 : gw_dc cX5_comeOf 15 (.invokevirtual 72) 3 18 := ⟨by decide +kernel, rfl⟩
theorem dX5_comeOf_18 : decode cX5_comeOf 18 = .ok (.ireturn, 1) := by decide +kernel
theorem dX5_firstComing_0 : gw_dc cX5_firstComing 0 (.ldc 127) 2 2 := ⟨by decide +kernel, rfl⟩
theorem kc_RX5_127 : Cond.constant RX5 127 (Int32.ofInt 1000000000) ∈ wsG := gw_mem 606 (by decide +kernel) rfl
theorem dX5_firstComing_2 : gw_dc cX5_firstComing 2 (.istore_n 1) 1 3 := ⟨by decide +kernel, rfl⟩
theorem dX5_firstComing_3 : gw_dc cX5_firstComing 3 (.iconst 0) 1 4 := ⟨by decide +kernel, rfl⟩
theorem dX5_firstComing_4 : gw_dc cX5_firstComing 4 (.istore_n 2) 1 5 := ⟨by decide +kernel, rfl⟩
theorem dX5_firstComing_5 : gw_dc cX5_firstComing 5 (.iload_n 2) 1 6 := ⟨by decide +kernel, rfl⟩
theorem dX5_firstComing_6 : gw_dc cX5_firstComing 6 (.aload_n 0) 1 7 := ⟨by decide +kernel, rfl⟩
theorem dX5_firstComing_7 : gw_dc cX5_firstComing 7 (.getfield 60) 3 10 := ⟨by decide +kernel, rfl⟩
theorem fk_RX5_60 : gw_fk RX5 60 5 1 15 0 false := ⟨_, _, _, ck_5, by decide, by decide, fun _ => rfl, fun h => absurd h (by decide), fun h => absurd h (by decide), rfl, Or.inl (gw_mem 327 (by decide +kernel) rfl)⟩
theorem dX5_firstComing_10 : gw_dc cX5_firstComing 10 (.if_icmp .ge 31) 3 13 := ⟨by decide +kernel, rfl⟩
theorem dX5_firstComing_41 : gw_dc cX5_firstComing 41 (.iload_n 1) 1 42 := ⟨by decide +kernel, rfl⟩
theorem dX5_firstComing_42 : decode cX5_firstComing 42 = .ok (.ireturn, 1) := by decide +kernel
theorem dX5_firstComing_13 : gw_dc cX5_firstComing 13 (.aload_n 0) 1 14 := ⟨by decide +kernel, rfl⟩
theorem dX5_firstComing_14 : gw_dc cX5_firstComing 14 (.getfield 23) 3 17 := ⟨by decide +kernel, rfl⟩
theorem fk_RX5_23 : gw_fk RX5 23 5 5 15 1 true := ⟨_, _, _, ck_5, by decide, by decide, fun h => absurd h (by decide), fun h => absurd h (by decide), fun _ => Or.inl ⟨_, rfl⟩, rfl, Or.inl (gw_mem 338 (by decide +kernel) rfl)⟩
theorem dX5_firstComing_17 : gw_dc cX5_firstComing 17 (.iload_n 2) 1 18 := ⟨by decide +kernel, rfl⟩
theorem dX5_firstComing_18 : gw_dc cX5_firstComing 18 (.invokevirtual 72) 3 21 := ⟨by decide +kernel, rfl⟩
theorem dX5_firstComing_21 : gw_dc cX5_firstComing 21 (.iconst (-1)) 1 22 := ⟨by decide +kernel, rfl⟩
theorem dX5_firstComing_22 : gw_dc cX5_firstComing 22 (.if_icmp .ne 13) 3 25 := ⟨by decide +kernel, rfl⟩
theorem dX5_firstComing_35 : gw_dc cX5_firstComing 35 (.iinc 2 1) 3 38 := ⟨by decide +kernel, rfl⟩
theorem dX5_firstComing_38 : gw_dc cX5_firstComing 38 (.goto (-33)) 3 41 := ⟨by decide +kernel, rfl⟩
theorem dX5_firstComing_25 : gw_dc cX5_firstComing 25 (.iload_n 1) 1 26 := ⟨by decide +kernel, rfl⟩
theorem dX5_firstComing_26 : gw_dc cX5_firstComing 26 (.aload_n 0) 1 27 := ⟨by decide +kernel, rfl⟩
theorem dX5_firstComing_27 : gw_dc cX5_firstComing 27 (.iload_n 2) 1 28 := ⟨by decide +kernel, rfl⟩
theorem dX5_firstComing_28 : gw_dc cX5_firstComing 28 (.invokevirtual 88) 3 31 := ⟨by decide +kernel, rfl⟩
theorem mv_RX5_88 : gw_mv RX5 88 yX5_comeOf := ⟨gw_mem 607 (by decide +kernel) rfl, gw_mem 609 (by decide +kernel) rfl, gw_mem 1 (by decide +kernel) rfl⟩
theorem my_X5_comeOf : gw_my yX5_comeOf cX5_comeOf 2 (some .int) 1 := ⟨gw_mem 610 (by decide +kernel) rfl, gw_mem 101 (by decide +kernel) rfl, by decide +kernel, by decide⟩
theorem dX5_firstComing_31 : gw_dc cX5_firstComing 31 (.invokestatic 128) 3 34 := ⟨by decide +kernel, rfl⟩
theorem mm_RX5_128 : gw_mm RX5 128 Lib.Math.min.name Lib.Math.min.code := ⟨gw_mem 611 (by decide +kernel) rfl, gw_mem 612 (by decide +kernel) rfl, gw_mem 116 (by decide +kernel) rfl, gw_mem 613 (by decide +kernel) rfl⟩
theorem dX5_firstComing_34 : gw_dc cX5_firstComing 34 (.istore_n 1) 1 35 := ⟨by decide +kernel, rfl⟩
theorem dX5_firstStone_0 : gw_dc cX5_firstStone 0 (.iconst 0) 1 1 := ⟨by decide +kernel, rfl⟩
theorem dX5_firstStone_1 : gw_dc cX5_firstStone 1 (.istore_n 2) 1 2 := ⟨by decide +kernel, rfl⟩
theorem dX5_firstStone_2 : gw_dc cX5_firstStone 2 (.iconst 1) 1 3 := ⟨by decide +kernel, rfl⟩
theorem dX5_firstStone_3 : gw_dc cX5_firstStone 3 (.istore_n 3) 1 4 := ⟨by decide +kernel, rfl⟩
theorem dX5_firstStone_4 : gw_dc cX5_firstStone 4 (.iload_n 3) 1 5 := ⟨by decide +kernel, rfl⟩
theorem dX5_firstStone_5 : gw_dc cX5_firstStone 5 (.aload_n 0) 1 6 := ⟨by decide +kernel, rfl⟩
theorem dX5_firstStone_6 : gw_dc cX5_firstStone 6 (.getfield 53) 3 9 := ⟨by decide +kernel, rfl⟩
theorem dX5_firstStone_9 : gw_dc cX5_firstStone 9 (.getfield 131) 3 12 := ⟨by decide +kernel, rfl⟩
theorem fk_RX5_131 : gw_fk RX5 131 1 2 16 0 false := ⟨_, _, _, ck_1, by decide, by decide, fun _ => rfl, fun h => absurd h (by decide), fun h => absurd h (by decide), rfl, Or.inr ⟨"LightestSack", gw_memN 238 (by decide +kernel) rfl⟩⟩
theorem dX5_firstStone_12 : gw_dc cX5_firstStone 12 (.if_icmp .ge 38) 3 15 := ⟨by decide +kernel, rfl⟩
theorem dX5_firstStone_50 : gw_dc cX5_firstStone 50 (.iload_n 2) 1 51 := ⟨by decide +kernel, rfl⟩
theorem dX5_firstStone_51 : decode cX5_firstStone 51 = .ok (.ireturn, 1) := by decide +kernel
theorem dX5_firstStone_15 : gw_dc cX5_firstStone 15 (.aload_n 0) 1 16 := ⟨by decide +kernel, rfl⟩
theorem dX5_firstStone_16 : gw_dc cX5_firstStone 16 (.getfield 44) 3 19 := ⟨by decide +kernel, rfl⟩
theorem fk_RX5_44 : gw_fk RX5 44 5 12 15 1 true := ⟨_, _, _, ck_5, by decide, by decide, fun h => absurd h (by decide), fun h => absurd h (by decide), fun _ => Or.inl ⟨_, rfl⟩, rfl, Or.inl (gw_mem 350 (by decide +kernel) rfl)⟩
theorem dX5_firstStone_19 : gw_dc cX5_firstStone 19 (.iload_n 3) 1 20 := ⟨by decide +kernel, rfl⟩
theorem dX5_firstStone_20 : gw_dc cX5_firstStone 20 (.invokevirtual 72) 3 23 := ⟨by decide +kernel, rfl⟩
theorem dX5_firstStone_23 : gw_dc cX5_firstStone 23 (.iload_n 1) 1 24 := ⟨by decide +kernel, rfl⟩
theorem dX5_firstStone_24 : gw_dc cX5_firstStone 24 (.invokestatic 75) 3 27 := ⟨by decide +kernel, rfl⟩
theorem mm_RX5_75 : gw_mm RX5 75 Lib.Math.max.name Lib.Math.max.code := ⟨gw_mem 618 (by decide +kernel) rfl, gw_mem 619 (by decide +kernel) rfl, gw_mem 116 (by decide +kernel) rfl, gw_mem 620 (by decide +kernel) rfl⟩
theorem dX5_firstStone_27 : gw_dc cX5_firstStone 27 (.aload_n 0) 1 28 := ⟨by decide +kernel, rfl⟩
theorem dX5_firstStone_28 : gw_dc cX5_firstStone 28 (.getfield 44) 3 31 := ⟨by decide +kernel, rfl⟩
theorem dX5_firstStone_31 : gw_dc cX5_firstStone 31 (.iload_n 2) 1 32 := ⟨by decide +kernel, rfl⟩
theorem dX5_firstStone_32 : gw_dc cX5_firstStone 32 (.invokevirtual 72) 3 35 := ⟨by decide +kernel, rfl⟩
theorem dX5_firstStone_35 : gw_dc cX5_firstStone 35 (.iload_n 1) 1 36 := ⟨by decide +kernel, rfl⟩
theorem dX5_firstStone_36 : gw_dc cX5_firstStone 36 (.invokestatic 75) 3 39 := ⟨by decide +kernel, rfl⟩
theorem dX5_firstStone_39 : gw_dc cX5_firstStone 39 (.if_icmp .ge 5) 3 42 := ⟨by decide +kernel, rfl⟩
theorem dX5_firstStone_44 : gw_dc cX5_firstStone 44 (.iinc 3 1) 3 47 := ⟨by decide +kernel, rfl⟩
theorem dX5_firstStone_47 : gw_dc cX5_firstStone 47 (.goto (-43)) 3 50 := ⟨by decide +kernel, rfl⟩
theorem dX5_firstStone_42 : gw_dc cX5_firstStone 42 (.iload_n 3) 1 43 := ⟨by decide +kernel, rfl⟩
theorem dX5_firstStone_43 : gw_dc cX5_firstStone 43 (.istore_n 2) 1 44 := ⟨by decide +kernel, rfl⟩
theorem dX5_margin_0 : gw_dc cX5_margin 0 (.aload_n 0) 1 1 := ⟨by decide +kernel, rfl⟩
theorem dX5_margin_1 : gw_dc cX5_margin 1 (.getfield 14) 3 4 := ⟨by decide +kernel, rfl⟩
theorem dX5_margin_4 : gw_dc cX5_margin 4 (.iload_n 2) 1 5 := ⟨by decide +kernel, rfl⟩
theorem dX5_margin_5 : gw_dc cX5_margin 5 (.invokevirtual 72) 3 8 := ⟨by decide +kernel, rfl⟩
theorem dX5_margin_8 : gw_dc cX5_margin 8 (.istore 5) 2 10 := ⟨by decide +kernel, rfl⟩
theorem dX5_margin_10 : gw_dc cX5_margin 10 (.aload_n 0) 1 11 := ⟨by decide +kernel, rfl⟩
theorem dX5_margin_11 : gw_dc cX5_margin 11 (.getfield 14) 3 14 := ⟨by decide +kernel, rfl⟩
theorem dX5_margin_14 : gw_dc cX5_margin 14 (.iload_n 3) 1 15 := ⟨by decide +kernel, rfl⟩
theorem dX5_margin_15 : gw_dc cX5_margin 15 (.invokevirtual 72) 3 18 := ⟨by decide +kernel, rfl⟩
theorem dX5_margin_18 : gw_dc cX5_margin 18 (.istore 6) 2 20 := ⟨by decide +kernel, rfl⟩
theorem dX5_margin_20 : gw_dc cX5_margin 20 (.aload_n 0) 1 21 := ⟨by decide +kernel, rfl⟩
theorem dX5_margin_21 : gw_dc cX5_margin 21 (.getfield 53) 3 24 := ⟨by decide +kernel, rfl⟩
theorem dX5_margin_24 : gw_dc cX5_margin 24 (.getfield 138) 3 27 := ⟨by decide +kernel, rfl⟩
theorem fk_RX5_138 : gw_fk RX5 138 1 0 16 1 true := ⟨_, _, _, ck_1, by decide, by decide, fun h => absurd h (by decide), fun h => absurd h (by decide), fun _ => Or.inl ⟨_, rfl⟩, rfl, Or.inr ⟨"LightestSack", gw_memN 232 (by decide +kernel) rfl⟩⟩
theorem dX5_margin_27 : gw_dc cX5_margin 27 (.getfield 154) 3 30 := ⟨by decide +kernel, rfl⟩
theorem fk_RX5_154 : gw_fk RX5 154 0 2 3 0 false := ⟨_, _, _, ck_0, by decide, by decide, fun _ => rfl, fun h => absurd h (by decide), fun h => absurd h (by decide), rfl, Or.inr ⟨"LightestSack", gw_memN 218 (by decide +kernel) rfl⟩⟩
theorem dX5_margin_30 : gw_dc cX5_margin 30 (.istore 7) 2 32 := ⟨by decide +kernel, rfl⟩
theorem dX5_margin_32 : gw_dc cX5_margin 32 (.aload_n 0) 1 33 := ⟨by decide +kernel, rfl⟩
theorem dX5_margin_33 : gw_dc cX5_margin 33 (.getfield 47) 3 36 := ⟨by decide +kernel, rfl⟩
theorem fk_RX5_47 : gw_fk RX5 47 5 13 15 1 true := ⟨_, _, _, ck_5, by decide, by decide, fun h => absurd h (by decide), fun h => absurd h (by decide), fun _ => Or.inl ⟨_, rfl⟩, rfl, Or.inl (gw_mem 351 (by decide +kernel) rfl)⟩
theorem dX5_margin_36 : gw_dc cX5_margin 36 (.iload 4) 2 38 := ⟨by decide +kernel, rfl⟩
theorem dX5_margin_38 : gw_dc cX5_margin 38 (.invokevirtual 72) 3 41 := ⟨by decide +kernel, rfl⟩
theorem dX5_margin_41 : gw_dc cX5_margin 41 (.istore 8) 2 43 := ⟨by decide +kernel, rfl⟩
theorem dX5_margin_43 : gw_dc cX5_margin 43 (.iload_n 1) 1 44 := ⟨by decide +kernel, rfl⟩
theorem dX5_margin_44 : decode cX5_margin 44 = .ok (.tableswitch 306 0 7 #[48, 76, 104, 130, 156, 200, 220, 260], 48) := by decide +kernel
theorem dX5_margin_92 : gw_dc cX5_margin 92 (.aload_n 0) 1 93 := ⟨by decide +kernel, rfl⟩
theorem dX5_margin_93 : gw_dc cX5_margin 93 (.getfield 20) 3 96 := ⟨by decide +kernel, rfl⟩
theorem fk_RX5_20 : gw_fk RX5 20 5 4 15 1 true := ⟨_, _, _, ck_5, by decide, by decide, fun h => absurd h (by decide), fun h => absurd h (by decide), fun _ => Or.inl ⟨_, rfl⟩, rfl, Or.inl (gw_mem 335 (by decide +kernel) rfl)⟩
theorem dX5_margin_96 : gw_dc cX5_margin 96 (.iload_n 3) 1 97 := ⟨by decide +kernel, rfl⟩
theorem dX5_margin_97 : gw_dc cX5_margin 97 (.invokevirtual 72) 3 100 := ⟨by decide +kernel, rfl⟩
theorem dX5_margin_100 : gw_dc cX5_margin 100 (.iload 7) 2 102 := ⟨by decide +kernel, rfl⟩
theorem dX5_margin_102 : gw_dc cX5_margin 102 (.invokestatic 75) 3 105 := ⟨by decide +kernel, rfl⟩
theorem dX5_margin_105 : gw_dc cX5_margin 105 (.aload_n 0) 1 106 := ⟨by decide +kernel, rfl⟩
theorem dX5_margin_106 : gw_dc cX5_margin 106 (.getfield 20) 3 109 := ⟨by decide +kernel, rfl⟩
theorem dX5_margin_109 : gw_dc cX5_margin 109 (.iload_n 2) 1 110 := ⟨by decide +kernel, rfl⟩
theorem dX5_margin_110 : gw_dc cX5_margin 110 (.invokevirtual 72) 3 113 := ⟨by decide +kernel, rfl⟩
theorem dX5_margin_113 : gw_dc cX5_margin 113 (.iload 7) 2 115 := ⟨by decide +kernel, rfl⟩
theorem dX5_margin_115 : gw_dc cX5_margin 115 (.invokestatic 75) 3 118 := ⟨by decide +kernel, rfl⟩
theorem dX5_margin_118 : gw_dc cX5_margin 118 (.isub) 1 119 := ⟨by decide +kernel, rfl⟩
theorem dX5_margin_119 : decode cX5_margin 119 = .ok (.ireturn, 1) := by decide +kernel
theorem dX5_margin_120 : gw_dc cX5_margin 120 (.aload_n 0) 1 121 := ⟨by decide +kernel, rfl⟩
theorem dX5_margin_121 : gw_dc cX5_margin 121 (.getfield 20) 3 124 := ⟨by decide +kernel, rfl⟩
theorem dX5_margin_124 : gw_dc cX5_margin 124 (.iload_n 2) 1 125 := ⟨by decide +kernel, rfl⟩
theorem dX5_margin_125 : gw_dc cX5_margin 125 (.invokevirtual 72) 3 128 := ⟨by decide +kernel, rfl⟩
theorem dX5_margin_128 : gw_dc cX5_margin 128 (.iload 7) 2 130 := ⟨by decide +kernel, rfl⟩
theorem dX5_margin_130 : gw_dc cX5_margin 130 (.invokestatic 75) 3 133 := ⟨by decide +kernel, rfl⟩
theorem dX5_margin_133 : gw_dc cX5_margin 133 (.aload_n 0) 1 134 := ⟨by decide +kernel, rfl⟩
theorem dX5_margin_134 : gw_dc cX5_margin 134 (.getfield 20) 3 137 := ⟨by decide +kernel, rfl⟩
theorem dX5_margin_137 : gw_dc cX5_margin 137 (.iload_n 3) 1 138 := ⟨by decide +kernel, rfl⟩
theorem dX5_margin_138 : gw_dc cX5_margin 138 (.invokevirtual 72) 3 141 := ⟨by decide +kernel, rfl⟩
theorem dX5_margin_141 : gw_dc cX5_margin 141 (.iload 7) 2 143 := ⟨by decide +kernel, rfl⟩
theorem dX5_margin_143 : gw_dc cX5_margin 143 (.invokestatic 75) 3 146 := ⟨by decide +kernel, rfl⟩
theorem dX5_margin_146 : gw_dc cX5_margin 146 (.isub) 1 147 := ⟨by decide +kernel, rfl⟩
theorem dX5_margin_147 : decode cX5_margin 147 = .ok (.ireturn, 1) := by decide +kernel
theorem dX5_margin_148 : gw_dc cX5_margin 148 (.aload_n 0) 1 149 := ⟨by decide +kernel, rfl⟩
theorem dX5_margin_149 : gw_dc cX5_margin 149 (.getfield 53) 3 152 := ⟨by decide +kernel, rfl⟩
theorem dX5_margin_152 : gw_dc cX5_margin 152 (.getfield 157) 3 155 := ⟨by decide +kernel, rfl⟩
theorem dX5_margin_155 : gw_dc cX5_margin 155 (.iload 6) 2 157 := ⟨by decide +kernel, rfl⟩
theorem dX5_margin_157 : gw_dc cX5_margin 157 (.invokevirtual 72) 3 160 := ⟨by decide +kernel, rfl⟩
theorem dX5_margin_160 : gw_dc cX5_margin 160 (.aload_n 0) 1 161 := ⟨by decide +kernel, rfl⟩
theorem dX5_margin_161 : gw_dc cX5_margin 161 (.getfield 53) 3 164 := ⟨by decide +kernel, rfl⟩
theorem dX5_margin_164 : gw_dc cX5_margin 164 (.getfield 157) 3 167 := ⟨by decide +kernel, rfl⟩
theorem dX5_margin_167 : gw_dc cX5_margin 167 (.iload 5) 2 169 := ⟨by decide +kernel, rfl⟩
theorem dX5_margin_169 : gw_dc cX5_margin 169 (.invokevirtual 72) 3 172 := ⟨by decide +kernel, rfl⟩
theorem dX5_margin_172 : gw_dc cX5_margin 172 (.isub) 1 173 := ⟨by decide +kernel, rfl⟩
theorem dX5_margin_173 : decode cX5_margin 173 = .ok (.ireturn, 1) := by decide +kernel
theorem dX5_margin_174 : gw_dc cX5_margin 174 (.aload_n 0) 1 175 := ⟨by decide +kernel, rfl⟩
theorem dX5_margin_175 : gw_dc cX5_margin 175 (.getfield 53) 3 178 := ⟨by decide +kernel, rfl⟩
theorem dX5_margin_178 : gw_dc cX5_margin 178 (.getfield 157) 3 181 := ⟨by decide +kernel, rfl⟩
theorem dX5_margin_181 : gw_dc cX5_margin 181 (.iload 5) 2 183 := ⟨by decide +kernel, rfl⟩
theorem dX5_margin_183 : gw_dc cX5_margin 183 (.invokevirtual 72) 3 186 := ⟨by decide +kernel, rfl⟩
theorem dX5_margin_186 : gw_dc cX5_margin 186 (.aload_n 0) 1 187 := ⟨by decide +kernel, rfl⟩
theorem dX5_margin_187 : gw_dc cX5_margin 187 (.getfield 53) 3 190 := ⟨by decide +kernel, rfl⟩
theorem dX5_margin_190 : gw_dc cX5_margin 190 (.getfield 157) 3 193 := ⟨by decide +kernel, rfl⟩
theorem dX5_margin_193 : gw_dc cX5_margin 193 (.iload 6) 2 195 := ⟨by decide +kernel, rfl⟩
theorem dX5_margin_195 : gw_dc cX5_margin 195 (.invokevirtual 72) 3 198 := ⟨by decide +kernel, rfl⟩
theorem dX5_margin_198 : gw_dc cX5_margin 198 (.isub) 1 199 := ⟨by decide +kernel, rfl⟩
theorem dX5_margin_199 : decode cX5_margin 199 = .ok (.ireturn, 1) := by decide +kernel
theorem dX5_margin_200 : gw_dc cX5_margin 200 (.aload_n 0) 1 201 := ⟨by decide +kernel, rfl⟩
theorem dX5_margin_201 : gw_dc cX5_margin 201 (.getfield 53) 3 204 := ⟨by decide +kernel, rfl⟩
theorem dX5_margin_204 : gw_dc cX5_margin 204 (.getfield 160) 3 207 := ⟨by decide +kernel, rfl⟩
theorem fk_RX5_160 : gw_fk RX5 160 1 12 16 1 true := ⟨_, _, _, ck_1, by decide, by decide, fun h => absurd h (by decide), fun h => absurd h (by decide), fun _ => Or.inl ⟨_, rfl⟩, rfl, Or.inr ⟨"LightestSack", gw_memN 276 (by decide +kernel) rfl⟩⟩
theorem dX5_margin_207 : gw_dc cX5_margin 207 (.iload 5) 2 209 := ⟨by decide +kernel, rfl⟩
theorem dX5_margin_209 : gw_dc cX5_margin 209 (.invokevirtual 72) 3 212 := ⟨by decide +kernel, rfl⟩
theorem dX5_margin_212 : gw_dc cX5_margin 212 (.aload_n 0) 1 213 := ⟨by decide +kernel, rfl⟩
theorem dX5_margin_213 : gw_dc cX5_margin 213 (.getfield 20) 3 216 := ⟨by decide +kernel, rfl⟩
theorem dX5_margin_216 : gw_dc cX5_margin 216 (.iload_n 3) 1 217 := ⟨by decide +kernel, rfl⟩
theorem dX5_margin_217 : gw_dc cX5_margin 217 (.invokevirtual 72) 3 220 := ⟨by decide +kernel, rfl⟩
theorem dX5_margin_220 : gw_dc cX5_margin 220 (.imul) 1 221 := ⟨by decide +kernel, rfl⟩
theorem dX5_margin_221 : gw_dc cX5_margin 221 (.aload_n 0) 1 222 := ⟨by decide +kernel, rfl⟩
theorem dX5_margin_222 : gw_dc cX5_margin 222 (.getfield 53) 3 225 := ⟨by decide +kernel, rfl⟩
theorem dX5_margin_225 : gw_dc cX5_margin 225 (.getfield 160) 3 228 := ⟨by decide +kernel, rfl⟩
theorem dX5_margin_228 : gw_dc cX5_margin 228 (.iload 6) 2 230 := ⟨by decide +kernel, rfl⟩
theorem dX5_margin_230 : gw_dc cX5_margin 230 (.invokevirtual 72) 3 233 := ⟨by decide +kernel, rfl⟩
theorem dX5_margin_233 : gw_dc cX5_margin 233 (.aload_n 0) 1 234 := ⟨by decide +kernel, rfl⟩
theorem dX5_margin_234 : gw_dc cX5_margin 234 (.getfield 20) 3 237 := ⟨by decide +kernel, rfl⟩
theorem dX5_margin_237 : gw_dc cX5_margin 237 (.iload_n 2) 1 238 := ⟨by decide +kernel, rfl⟩
theorem dX5_margin_238 : gw_dc cX5_margin 238 (.invokevirtual 72) 3 241 := ⟨by decide +kernel, rfl⟩
theorem dX5_margin_241 : gw_dc cX5_margin 241 (.imul) 1 242 := ⟨by decide +kernel, rfl⟩
theorem dX5_margin_242 : gw_dc cX5_margin 242 (.isub) 1 243 := ⟨by decide +kernel, rfl⟩
theorem dX5_margin_243 : decode cX5_margin 243 = .ok (.ireturn, 1) := by decide +kernel
theorem dX5_margin_244 : gw_dc cX5_margin 244 (.aload_n 0) 1 245 := ⟨by decide +kernel, rfl⟩
theorem dX5_margin_245 : gw_dc cX5_margin 245 (.getfield 41) 3 248 := ⟨by decide +kernel, rfl⟩
theorem fk_RX5_41 : gw_fk RX5 41 5 11 15 1 true := ⟨_, _, _, ck_5, by decide, by decide, fun h => absurd h (by decide), fun h => absurd h (by decide), fun _ => Or.inl ⟨_, rfl⟩, rfl, Or.inl (gw_mem 349 (by decide +kernel) rfl)⟩
theorem dX5_margin_248 : gw_dc cX5_margin 248 (.iload 6) 2 250 := ⟨by decide +kernel, rfl⟩
theorem dX5_margin_250 : gw_dc cX5_margin 250 (.invokevirtual 72) 3 253 := ⟨by decide +kernel, rfl⟩
theorem dX5_margin_253 : gw_dc cX5_margin 253 (.aload_n 0) 1 254 := ⟨by decide +kernel, rfl⟩
theorem dX5_margin_254 : gw_dc cX5_margin 254 (.getfield 41) 3 257 := ⟨by decide +kernel, rfl⟩
theorem dX5_margin_257 : gw_dc cX5_margin 257 (.iload 5) 2 259 := ⟨by decide +kernel, rfl⟩
theorem dX5_margin_259 : gw_dc cX5_margin 259 (.invokevirtual 72) 3 262 := ⟨by decide +kernel, rfl⟩
theorem dX5_margin_262 : gw_dc cX5_margin 262 (.isub) 1 263 := ⟨by decide +kernel, rfl⟩
theorem dX5_margin_263 : decode cX5_margin 263 = .ok (.ireturn, 1) := by decide +kernel
theorem dX5_margin_264 : gw_dc cX5_margin 264 (.aload_n 0) 1 265 := ⟨by decide +kernel, rfl⟩
theorem dX5_margin_265 : gw_dc cX5_margin 265 (.getfield 50) 3 268 := ⟨by decide +kernel, rfl⟩
theorem fk_RX5_50 : gw_fk RX5 50 5 14 15 1 true := ⟨_, _, _, ck_5, by decide, by decide, fun h => absurd h (by decide), fun h => absurd h (by decide), fun _ => Or.inl ⟨_, rfl⟩, rfl, Or.inl (gw_mem 352 (by decide +kernel) rfl)⟩
theorem dX5_margin_268 : gw_dc cX5_margin 268 (.aload_n 0) 1 269 := ⟨by decide +kernel, rfl⟩
theorem dX5_margin_269 : gw_dc cX5_margin 269 (.getfield 53) 3 272 := ⟨by decide +kernel, rfl⟩
theorem dX5_margin_272 : gw_dc cX5_margin 272 (.getfield 118) 3 275 := ⟨by decide +kernel, rfl⟩
theorem fk_RX5_118 : gw_fk RX5 118 1 9 16 1 true := ⟨_, _, _, ck_1, by decide, by decide, fun h => absurd h (by decide), fun h => absurd h (by decide), fun _ => Or.inl ⟨_, rfl⟩, rfl, Or.inr ⟨"LightestSack", gw_memN 262 (by decide +kernel) rfl⟩⟩
theorem dX5_margin_275 : gw_dc cX5_margin 275 (.iload 6) 2 277 := ⟨by decide +kernel, rfl⟩
theorem dX5_margin_277 : gw_dc cX5_margin 277 (.invokevirtual 72) 3 280 := ⟨by decide +kernel, rfl⟩
theorem dX5_margin_280 : gw_dc cX5_margin 280 (.invokevirtual 72) 3 283 := ⟨by decide +kernel, rfl⟩
theorem dX5_margin_283 : gw_dc cX5_margin 283 (.aload_n 0) 1 284 := ⟨by decide +kernel, rfl⟩
theorem dX5_margin_284 : gw_dc cX5_margin 284 (.getfield 50) 3 287 := ⟨by decide +kernel, rfl⟩
theorem dX5_margin_287 : gw_dc cX5_margin 287 (.aload_n 0) 1 288 := ⟨by decide +kernel, rfl⟩
theorem dX5_margin_288 : gw_dc cX5_margin 288 (.getfield 53) 3 291 := ⟨by decide +kernel, rfl⟩
theorem dX5_margin_291 : gw_dc cX5_margin 291 (.getfield 118) 3 294 := ⟨by decide +kernel, rfl⟩
theorem dX5_margin_294 : gw_dc cX5_margin 294 (.iload 5) 2 296 := ⟨by decide +kernel, rfl⟩
theorem dX5_margin_296 : gw_dc cX5_margin 296 (.invokevirtual 72) 3 299 := ⟨by decide +kernel, rfl⟩
theorem dX5_margin_299 : gw_dc cX5_margin 299 (.invokevirtual 72) 3 302 := ⟨by decide +kernel, rfl⟩
theorem dX5_margin_302 : gw_dc cX5_margin 302 (.isub) 1 303 := ⟨by decide +kernel, rfl⟩
theorem dX5_margin_303 : decode cX5_margin 303 = .ok (.ireturn, 1) := by decide +kernel
theorem dX5_margin_304 : gw_dc cX5_margin 304 (.aload_n 0) 1 305 := ⟨by decide +kernel, rfl⟩
theorem dX5_margin_305 : gw_dc cX5_margin 305 (.getfield 53) 3 308 := ⟨by decide +kernel, rfl⟩
theorem dX5_margin_308 : gw_dc cX5_margin 308 (.getfield 115) 3 311 := ⟨by decide +kernel, rfl⟩
theorem fk_RX5_115 : gw_fk RX5 115 1 11 16 1 true := ⟨_, _, _, ck_1, by decide, by decide, fun h => absurd h (by decide), fun h => absurd h (by decide), fun _ => Or.inl ⟨_, rfl⟩, rfl, Or.inr ⟨"LightestSack", gw_memN 270 (by decide +kernel) rfl⟩⟩
theorem dX5_margin_311 : gw_dc cX5_margin 311 (.iload 5) 2 313 := ⟨by decide +kernel, rfl⟩
theorem dX5_margin_313 : gw_dc cX5_margin 313 (.invokevirtual 72) 3 316 := ⟨by decide +kernel, rfl⟩
theorem dX5_margin_316 : gw_dc cX5_margin 316 (.iload 8) 2 318 := ⟨by decide +kernel, rfl⟩
theorem dX5_margin_318 : gw_dc cX5_margin 318 (.if_icmp .ne 7) 3 321 := ⟨by decide +kernel, rfl⟩
theorem dX5_margin_325 : gw_dc cX5_margin 325 (.iconst 0) 1 326 := ⟨by decide +kernel, rfl⟩
theorem dX5_margin_326 : gw_dc cX5_margin 326 (.aload_n 0) 1 327 := ⟨by decide +kernel, rfl⟩
theorem dX5_margin_327 : gw_dc cX5_margin 327 (.getfield 53) 3 330 := ⟨by decide +kernel, rfl⟩
theorem dX5_margin_330 : gw_dc cX5_margin 330 (.getfield 115) 3 333 := ⟨by decide +kernel, rfl⟩
theorem dX5_margin_333 : gw_dc cX5_margin 333 (.iload 6) 2 335 := ⟨by decide +kernel, rfl⟩
theorem dX5_margin_335 : gw_dc cX5_margin 335 (.invokevirtual 72) 3 338 := ⟨by decide +kernel, rfl⟩
theorem dX5_margin_338 : gw_dc cX5_margin 338 (.iload 8) 2 340 := ⟨by decide +kernel, rfl⟩
theorem dX5_margin_340 : gw_dc cX5_margin 340 (.if_icmp .ne 7) 3 343 := ⟨by decide +kernel, rfl⟩
theorem dX5_margin_347 : gw_dc cX5_margin 347 (.iconst 0) 1 348 := ⟨by decide +kernel, rfl⟩
theorem dX5_margin_348 : gw_dc cX5_margin 348 (.isub) 1 349 := ⟨by decide +kernel, rfl⟩
theorem dX5_margin_349 : decode cX5_margin 349 = .ok (.ireturn, 1) := by decide +kernel
theorem dX5_margin_343 : gw_dc cX5_margin 343 (.iconst 1) 1 344 := ⟨by decide +kernel, rfl⟩
theorem dX5_margin_344 : gw_dc cX5_margin 344 (.goto 4) 3 347 := ⟨by decide +kernel, rfl⟩
theorem dX5_margin_321 : gw_dc cX5_margin 321 (.iconst 1) 1 322 := ⟨by decide +kernel, rfl⟩
theorem dX5_margin_322 : gw_dc cX5_margin 322 (.goto 4) 3 325 := ⟨by decide +kernel, rfl⟩
theorem dX5_margin_350 : gw_dc cX5_margin 350 (.iconst 0) 1 351 := ⟨by decide +kernel, rfl⟩
theorem dX5_margin_351 : decode cX5_margin 351 = .ok (.ireturn, 1) := by decide +kernel
theorem dX5_lead_0 : gw_dc cX5_lead 0 (.iconst 0) 1 1 := ⟨by decide +kernel, rfl⟩
theorem dX5_lead_1 : gw_dc cX5_lead 1 (.istore 4) 2 3 := ⟨by decide +kernel, rfl⟩
theorem dX5_lead_3 : gw_dc cX5_lead 3 (.iload 4) 2 5 := ⟨by decide +kernel, rfl⟩
theorem dX5_lead_5 : gw_dc cX5_lead 5 (.aload_n 0) 1 6 := ⟨by decide +kernel, rfl⟩
theorem dX5_lead_6 : gw_dc cX5_lead 6 (.getfield 53) 3 9 := ⟨by decide +kernel, rfl⟩
theorem dX5_lead_9 : gw_dc cX5_lead 9 (.getfield 138) 3 12 := ⟨by decide +kernel, rfl⟩
theorem dX5_lead_12 : gw_dc cX5_lead 12 (.getfield 142) 3 15 := ⟨by decide +kernel, rfl⟩
theorem fk_RX5_142 : gw_fk RX5 142 0 1 3 0 false := ⟨_, _, _, ck_0, by decide, by decide, fun _ => rfl, fun h => absurd h (by decide), fun h => absurd h (by decide), rfl, Or.inr ⟨"LightestSack", gw_memN 215 (by decide +kernel) rfl⟩⟩
theorem dX5_lead_15 : gw_dc cX5_lead 15 (.if_icmp .ge 56) 3 18 := ⟨by decide +kernel, rfl⟩
theorem dX5_lead_71 : gw_dc cX5_lead 71 (.iconst 0) 1 72 := ⟨by decide +kernel, rfl⟩
theorem dX5_lead_72 : decode cX5_lead 72 = .ok (.ireturn, 1) := by decide +kernel
theorem dX5_lead_18 : gw_dc cX5_lead 18 (.aload_n 0) 1 19 := ⟨by decide +kernel, rfl⟩
theorem dX5_lead_19 : gw_dc cX5_lead 19 (.aload_n 0) 1 20 := ⟨by decide +kernel, rfl⟩
theorem dX5_lead_20 : gw_dc cX5_lead 20 (.getfield 53) 3 23 := ⟨by decide +kernel, rfl⟩
theorem dX5_lead_23 : gw_dc cX5_lead 23 (.getfield 138) 3 26 := ⟨by decide +kernel, rfl⟩
theorem dX5_lead_26 : gw_dc cX5_lead 26 (.getfield 147) 3 29 := ⟨by decide +kernel, rfl⟩
theorem fk_RX5_147 : gw_fk RX5 147 0 0 3 1 true := ⟨_, _, _, ck_0, by decide, by decide, fun h => absurd h (by decide), fun h => absurd h (by decide), fun _ => Or.inl ⟨_, rfl⟩, rfl, Or.inr ⟨"LightestSack", gw_memN 211 (by decide +kernel) rfl⟩⟩
theorem dX5_lead_29 : gw_dc cX5_lead 29 (.iload 4) 2 31 := ⟨by decide +kernel, rfl⟩
theorem dX5_lead_31 : gw_dc cX5_lead 31 (.invokevirtual 72) 3 34 := ⟨by decide +kernel, rfl⟩
theorem dX5_lead_34 : gw_dc cX5_lead 34 (.iload_n 1) 1 35 := ⟨by decide +kernel, rfl⟩
theorem dX5_lead_35 : gw_dc cX5_lead 35 (.iload_n 2) 1 36 := ⟨by decide +kernel, rfl⟩
theorem dX5_lead_36 : gw_dc cX5_lead 36 (.iload_n 3) 1 37 := ⟨by decide +kernel, rfl⟩
theorem dX5_lead_37 : gw_dc cX5_lead 37 (.invokevirtual 150) 3 40 := ⟨by decide +kernel, rfl⟩
theorem mv_RX5_150 : gw_mv RX5 150 yX5_margin := ⟨gw_mem 629 (by decide +kernel) rfl, gw_mem 631 (by decide +kernel) rfl, gw_mem 4 (by decide +kernel) rfl⟩
theorem my_X5_margin : gw_my yX5_margin cX5_margin 9 (some .int) 4 := ⟨gw_mem 632 (by decide +kernel) rfl, gw_mem 101 (by decide +kernel) rfl, by decide +kernel, by decide⟩
theorem dX5_lead_40 : gw_dc cX5_lead 40 (.istore 5) 2 42 := ⟨by decide +kernel, rfl⟩
theorem dX5_lead_42 : gw_dc cX5_lead 42 (.iload 5) 2 44 := ⟨by decide +kernel, rfl⟩
theorem dX5_lead_44 : gw_dc cX5_lead 44 (.ifCond .eq 21) 3 47 := ⟨by decide +kernel, rfl⟩
theorem dX5_lead_65 : gw_dc cX5_lead 65 (.iinc 4 1) 3 68 := ⟨by decide +kernel, rfl⟩
theorem dX5_lead_68 : gw_dc cX5_lead 68 (.goto (-65)) 3 71 := ⟨by decide +kernel, rfl⟩
theorem dX5_lead_47 : gw_dc cX5_lead 47 (.iload 5) 2 49 := ⟨by decide +kernel, rfl⟩
theorem dX5_lead_49 : gw_dc cX5_lead 49 (.ifCond .le 10) 3 52 := ⟨by decide +kernel, rfl⟩
theorem dX5_lead_59 : gw_dc cX5_lead 59 (.iload 4) 2 61 := ⟨by decide +kernel, rfl⟩
theorem dX5_lead_61 : gw_dc cX5_lead 61 (.ineg) 1 62 := ⟨by decide +kernel, rfl⟩
theorem dX5_lead_62 : gw_dc cX5_lead 62 (.iconst 1) 1 63 := ⟨by decide +kernel, rfl⟩
theorem dX5_lead_63 : gw_dc cX5_lead 63 (.isub) 1 64 := ⟨by decide +kernel, rfl⟩
theorem dX5_lead_64 : decode cX5_lead 64 = .ok (.ireturn, 1) := by decide +kernel
theorem dX5_lead_52 : gw_dc cX5_lead 52 (.iload 4) 2 54 := ⟨by decide +kernel, rfl⟩
theorem dX5_lead_54 : gw_dc cX5_lead 54 (.iconst 1) 1 55 := ⟨by decide +kernel, rfl⟩
theorem dX5_lead_55 : gw_dc cX5_lead 55 (.iadd) 1 56 := ⟨by decide +kernel, rfl⟩
theorem dX5_lead_56 : gw_dc cX5_lead 56 (.goto 8) 3 59 := ⟨by decide +kernel, rfl⟩
theorem dX5_firstStanding_0 : gw_dc cX5_firstStanding 0 (.iconst (-1)) 1 1 := ⟨by decide +kernel, rfl⟩
theorem dX5_firstStanding_1 : gw_dc cX5_firstStanding 1 (.istore_n 3) 1 2 := ⟨by decide +kernel, rfl⟩
theorem dX5_firstStanding_2 : gw_dc cX5_firstStanding 2 (.iconst 0) 1 3 := ⟨by decide +kernel, rfl⟩
theorem dX5_firstStanding_3 : gw_dc cX5_firstStanding 3 (.istore 4) 2 5 := ⟨by decide +kernel, rfl⟩
theorem dX5_firstStanding_5 : gw_dc cX5_firstStanding 5 (.iload 4) 2 7 := ⟨by decide +kernel, rfl⟩
theorem dX5_firstStanding_7 : gw_dc cX5_firstStanding 7 (.aload_n 0) 1 8 := ⟨by decide +kernel, rfl⟩
theorem dX5_firstStanding_8 : gw_dc cX5_firstStanding 8 (.getfield 60) 3 11 := ⟨by decide +kernel, rfl⟩
theorem dX5_firstStanding_11 : gw_dc cX5_firstStanding 11 (.if_icmp .ge 51) 3 14 := ⟨by decide +kernel, rfl⟩
theorem dX5_firstStanding_62 : gw_dc cX5_firstStanding 62 (.iload_n 3) 1 63 := ⟨by decide +kernel, rfl⟩
theorem dX5_firstStanding_63 : decode cX5_firstStanding 63 = .ok (.ireturn, 1) := by decide +kernel
theorem dX5_firstStanding_14 : gw_dc cX5_firstStanding 14 (.aload_n 0) 1 15 := ⟨by decide +kernel, rfl⟩
theorem dX5_firstStanding_15 : gw_dc cX5_firstStanding 15 (.getfield 23) 3 18 := ⟨by decide +kernel, rfl⟩
theorem dX5_firstStanding_18 : gw_dc cX5_firstStanding 18 (.iload 4) 2 20 := ⟨by decide +kernel, rfl⟩
theorem dX5_firstStanding_20 : gw_dc cX5_firstStanding 20 (.invokevirtual 72) 3 23 := ⟨by decide +kernel, rfl⟩
theorem dX5_firstStanding_23 : gw_dc cX5_firstStanding 23 (.iconst (-1)) 1 24 := ⟨by decide +kernel, rfl⟩
theorem dX5_firstStanding_24 : gw_dc cX5_firstStanding 24 (.if_icmp .ne 32) 3 27 := ⟨by decide +kernel, rfl⟩
theorem dX5_firstStanding_56 : gw_dc cX5_firstStanding 56 (.iinc 4 1) 3 59 := ⟨by decide +kernel, rfl⟩
theorem dX5_firstStanding_59 : gw_dc cX5_firstStanding 59 (.goto (-54)) 3 62 := ⟨by decide +kernel, rfl⟩
theorem dX5_firstStanding_27 : gw_dc cX5_firstStanding 27 (.aload_n 0) 1 28 := ⟨by decide +kernel, rfl⟩
theorem dX5_firstStanding_28 : gw_dc cX5_firstStanding 28 (.iload 4) 2 30 := ⟨by decide +kernel, rfl⟩
theorem dX5_firstStanding_30 : gw_dc cX5_firstStanding 30 (.invokevirtual 88) 3 33 := ⟨by decide +kernel, rfl⟩
theorem dX5_firstStanding_33 : gw_dc cX5_firstStanding 33 (.iload_n 2) 1 34 := ⟨by decide +kernel, rfl⟩
theorem dX5_firstStanding_34 : gw_dc cX5_firstStanding 34 (.if_icmp .gt 22) 3 37 := ⟨by decide +kernel, rfl⟩
theorem dX5_firstStanding_37 : gw_dc cX5_firstStanding 37 (.iload_n 3) 1 38 := ⟨by decide +kernel, rfl⟩
theorem dX5_firstStanding_38 : gw_dc cX5_firstStanding 38 (.iconst (-1)) 1 39 := ⟨by decide +kernel, rfl⟩
theorem dX5_firstStanding_39 : gw_dc cX5_firstStanding 39 (.if_icmp .eq 14) 3 42 := ⟨by decide +kernel, rfl⟩
theorem dX5_firstStanding_53 : gw_dc cX5_firstStanding 53 (.iload 4) 2 55 := ⟨by decide +kernel, rfl⟩
theorem dX5_firstStanding_55 : gw_dc cX5_firstStanding 55 (.istore_n 3) 1 56 := ⟨by decide +kernel, rfl⟩
theorem dX5_firstStanding_42 : gw_dc cX5_firstStanding 42 (.aload_n 0) 1 43 := ⟨by decide +kernel, rfl⟩
theorem dX5_firstStanding_43 : gw_dc cX5_firstStanding 43 (.iload 4) 2 45 := ⟨by decide +kernel, rfl⟩
theorem dX5_firstStanding_45 : gw_dc cX5_firstStanding 45 (.iload_n 3) 1 46 := ⟨by decide +kernel, rfl⟩
theorem dX5_firstStanding_46 : gw_dc cX5_firstStanding 46 (.iload_n 1) 1 47 := ⟨by decide +kernel, rfl⟩
theorem dX5_firstStanding_47 : gw_dc cX5_firstStanding 47 (.invokevirtual 134) 3 50 := ⟨by decide +kernel, rfl⟩
theorem mv_RX5_134 : gw_mv RX5 134 yX5_lead := ⟨gw_mem 625 (by decide +kernel) rfl, gw_mem 626 (by decide +kernel) rfl, gw_mem 627 (by decide +kernel) rfl⟩
theorem my_X5_lead : gw_my yX5_lead cX5_lead 6 (some .int) 3 := ⟨gw_mem 628 (by decide +kernel) rfl, gw_mem 101 (by decide +kernel) rfl, by decide +kernel, by decide⟩
theorem dX5_firstStanding_50 : gw_dc cX5_firstStanding 50 (.ifCond .le 6) 3 53 := ⟨by decide +kernel, rfl⟩
theorem dX5_begin_0 : gw_dc cX5_begin 0 (.aload_n 0) 1 1 := ⟨by decide +kernel, rfl⟩
theorem dX5_begin_1 : gw_dc cX5_begin 1 (.getfield 14) 3 4 := ⟨by decide +kernel, rfl⟩
theorem dX5_begin_4 : gw_dc cX5_begin 4 (.iload_n 2) 1 5 := ⟨by decide +kernel, rfl⟩
theorem dX5_begin_5 : gw_dc cX5_begin 5 (.invokevirtual 72) 3 8 := ⟨by decide +kernel, rfl⟩
theorem dX5_begin_8 : gw_dc cX5_begin 8 (.istore 5) 2 10 := ⟨by decide +kernel, rfl⟩
theorem dX5_begin_10 : gw_dc cX5_begin 10 (.aload_n 0) 1 11 := ⟨by decide +kernel, rfl⟩
theorem dX5_begin_11 : gw_dc cX5_begin 11 (.getfield 53) 3 14 := ⟨by decide +kernel, rfl⟩
theorem dX5_begin_14 : gw_dc cX5_begin 14 (.getfield 115) 3 17 := ⟨by decide +kernel, rfl⟩
theorem dX5_begin_17 : gw_dc cX5_begin 17 (.iload 5) 2 19 := ⟨by decide +kernel, rfl⟩
theorem dX5_begin_19 : gw_dc cX5_begin 19 (.invokevirtual 72) 3 22 := ⟨by decide +kernel, rfl⟩
theorem dX5_begin_22 : gw_dc cX5_begin 22 (.istore 6) 2 24 := ⟨by decide +kernel, rfl⟩
theorem dX5_begin_24 : gw_dc cX5_begin 24 (.aload_n 0) 1 25 := ⟨by decide +kernel, rfl⟩
theorem dX5_begin_25 : gw_dc cX5_begin 25 (.getfield 53) 3 28 := ⟨by decide +kernel, rfl⟩
theorem dX5_begin_28 : gw_dc cX5_begin 28 (.getfield 118) 3 31 := ⟨by decide +kernel, rfl⟩
theorem dX5_begin_31 : gw_dc cX5_begin 31 (.iload 5) 2 33 := ⟨by decide +kernel, rfl⟩
theorem dX5_begin_33 : gw_dc cX5_begin 33 (.invokevirtual 72) 3 36 := ⟨by decide +kernel, rfl⟩
theorem dX5_begin_36 : gw_dc cX5_begin 36 (.istore 7) 2 38 := ⟨by decide +kernel, rfl⟩
theorem dX5_begin_38 : gw_dc cX5_begin 38 (.aload_n 0) 1 39 := ⟨by decide +kernel, rfl⟩
theorem dX5_begin_39 : gw_dc cX5_begin 39 (.getfield 47) 3 42 := ⟨by decide +kernel, rfl⟩
theorem dX5_begin_42 : gw_dc cX5_begin 42 (.iload_n 3) 1 43 := ⟨by decide +kernel, rfl⟩
theorem dX5_begin_43 : gw_dc cX5_begin 43 (.invokevirtual 72) 3 46 := ⟨by decide +kernel, rfl⟩
theorem dX5_begin_46 : gw_dc cX5_begin 46 (.istore 8) 2 48 := ⟨by decide +kernel, rfl⟩
theorem dX5_begin_48 : gw_dc cX5_begin 48 (.iload 8) 2 50 := ⟨by decide +kernel, rfl⟩
theorem dX5_begin_50 : gw_dc cX5_begin 50 (.iconst (-1)) 1 51 := ⟨by decide +kernel, rfl⟩
theorem dX5_begin_51 : gw_dc cX5_begin 51 (.if_icmp .eq 10) 3 54 := ⟨by decide +kernel, rfl⟩
theorem dX5_begin_61 : gw_dc cX5_begin 61 (.iconst 0) 1 62 := ⟨by decide +kernel, rfl⟩
theorem dX5_begin_62 : gw_dc cX5_begin 62 (.goto 10) 3 65 := ⟨by decide +kernel, rfl⟩
theorem dX5_begin_72 : gw_dc cX5_begin 72 (.istore 9) 2 74 := ⟨by decide +kernel, rfl⟩
theorem dX5_begin_74 : gw_dc cX5_begin 74 (.iload 4) 2 76 := ⟨by decide +kernel, rfl⟩
theorem dX5_begin_76 : gw_dc cX5_begin 76 (.iload 9) 2 78 := ⟨by decide +kernel, rfl⟩
theorem dX5_begin_78 : gw_dc cX5_begin 78 (.iadd) 1 79 := ⟨by decide +kernel, rfl⟩
theorem dX5_begin_79 : gw_dc cX5_begin 79 (.aload_n 0) 1 80 := ⟨by decide +kernel, rfl⟩
theorem dX5_begin_80 : gw_dc cX5_begin 80 (.getfield 53) 3 83 := ⟨by decide +kernel, rfl⟩
theorem dX5_begin_83 : gw_dc cX5_begin 83 (.getfield 124) 3 86 := ⟨by decide +kernel, rfl⟩
theorem fk_RX5_124 : gw_fk RX5 124 1 7 16 1 true := ⟨_, _, _, ck_1, by decide, by decide, fun h => absurd h (by decide), fun h => absurd h (by decide), fun _ => Or.inl ⟨_, rfl⟩, rfl, Or.inr ⟨"LightestSack", gw_memN 257 (by decide +kernel) rfl⟩⟩
theorem dX5_begin_86 : gw_dc cX5_begin 86 (.iload_n 3) 1 87 := ⟨by decide +kernel, rfl⟩
theorem dX5_begin_87 : gw_dc cX5_begin 87 (.invokevirtual 72) 3 90 := ⟨by decide +kernel, rfl⟩
theorem dX5_begin_90 : gw_dc cX5_begin 90 (.aload_n 0) 1 91 := ⟨by decide +kernel, rfl⟩
theorem dX5_begin_91 : gw_dc cX5_begin 91 (.getfield 20) 3 94 := ⟨by decide +kernel, rfl⟩
theorem dX5_begin_94 : gw_dc cX5_begin 94 (.iload_n 2) 1 95 := ⟨by decide +kernel, rfl⟩
theorem dX5_begin_95 : gw_dc cX5_begin 95 (.invokevirtual 72) 3 98 := ⟨by decide +kernel, rfl⟩
theorem dX5_begin_98 : gw_dc cX5_begin 98 (.imul) 1 99 := ⟨by decide +kernel, rfl⟩
theorem dX5_begin_99 : gw_dc cX5_begin 99 (.iadd) 1 100 := ⟨by decide +kernel, rfl⟩
theorem dX5_begin_100 : gw_dc cX5_begin 100 (.istore 10) 2 102 := ⟨by decide +kernel, rfl⟩
theorem dX5_begin_102 : gw_dc cX5_begin 102 (.aload_n 0) 1 103 := ⟨by decide +kernel, rfl⟩
theorem dX5_begin_103 : gw_dc cX5_begin 103 (.getfield 35) 3 106 := ⟨by decide +kernel, rfl⟩
theorem fk_RX5_35 : gw_fk RX5 35 5 9 15 1 true := ⟨_, _, _, ck_5, by decide, by decide, fun h => absurd h (by decide), fun h => absurd h (by decide), fun _ => Or.inl ⟨_, rfl⟩, rfl, Or.inl (gw_mem 345 (by decide +kernel) rfl)⟩
theorem dX5_begin_106 : gw_dc cX5_begin 106 (.iload_n 1) 1 107 := ⟨by decide +kernel, rfl⟩
theorem dX5_begin_107 : gw_dc cX5_begin 107 (.iload_n 2) 1 108 := ⟨by decide +kernel, rfl⟩
theorem dX5_begin_108 : gw_dc cX5_begin 108 (.invokevirtual 102) 3 111 := ⟨by decide +kernel, rfl⟩
theorem mv_RX5_102 : gw_mv RX5 102 yX4_put := ⟨gw_mem 593 (by decide +kernel) rfl, gw_mem 207 (by decide +kernel) rfl, gw_mem 208 (by decide +kernel) rfl⟩
theorem dX5_begin_111 : gw_dc cX5_begin 111 (.aload_n 0) 1 112 := ⟨by decide +kernel, rfl⟩
theorem dX5_begin_112 : gw_dc cX5_begin 112 (.getfield 23) 3 115 := ⟨by decide +kernel, rfl⟩
theorem dX5_begin_115 : gw_dc cX5_begin 115 (.iload_n 2) 1 116 := ⟨by decide +kernel, rfl⟩
theorem dX5_begin_116 : gw_dc cX5_begin 116 (.iload 4) 2 118 := ⟨by decide +kernel, rfl⟩
theorem dX5_begin_118 : gw_dc cX5_begin 118 (.invokevirtual 102) 3 121 := ⟨by decide +kernel, rfl⟩
theorem dX5_begin_121 : gw_dc cX5_begin 121 (.aload_n 0) 1 122 := ⟨by decide +kernel, rfl⟩
theorem dX5_begin_122 : gw_dc cX5_begin 122 (.getfield 26) 3 125 := ⟨by decide +kernel, rfl⟩
theorem fk_RX5_26 : gw_fk RX5 26 5 6 15 1 true := ⟨_, _, _, ck_5, by decide, by decide, fun h => absurd h (by decide), fun h => absurd h (by decide), fun _ => Or.inl ⟨_, rfl⟩, rfl, Or.inl (gw_mem 339 (by decide +kernel) rfl)⟩
theorem dX5_begin_125 : gw_dc cX5_begin 125 (.iload_n 2) 1 126 := ⟨by decide +kernel, rfl⟩
theorem dX5_begin_126 : gw_dc cX5_begin 126 (.iload 4) 2 128 := ⟨by decide +kernel, rfl⟩
theorem dX5_begin_128 : gw_dc cX5_begin 128 (.iload 9) 2 130 := ⟨by decide +kernel, rfl⟩
theorem dX5_begin_130 : gw_dc cX5_begin 130 (.iadd) 1 131 := ⟨by decide +kernel, rfl⟩
theorem dX5_begin_131 : gw_dc cX5_begin 131 (.invokevirtual 102) 3 134 := ⟨by decide +kernel, rfl⟩
theorem dX5_begin_134 : gw_dc cX5_begin 134 (.aload_n 0) 1 135 := ⟨by decide +kernel, rfl⟩
theorem dX5_begin_135 : gw_dc cX5_begin 135 (.getfield 29) 3 138 := ⟨by decide +kernel, rfl⟩
theorem fk_RX5_29 : gw_fk RX5 29 5 7 15 1 true := ⟨_, _, _, ck_5, by decide, by decide, fun h => absurd h (by decide), fun h => absurd h (by decide), fun _ => Or.inl ⟨_, rfl⟩, rfl, Or.inl (gw_mem 341 (by decide +kernel) rfl)⟩
theorem dX5_begin_138 : gw_dc cX5_begin 138 (.iload_n 2) 1 139 := ⟨by decide +kernel, rfl⟩
theorem dX5_begin_139 : gw_dc cX5_begin 139 (.iload 10) 2 141 := ⟨by decide +kernel, rfl⟩
theorem dX5_begin_141 : gw_dc cX5_begin 141 (.invokevirtual 102) 3 144 := ⟨by decide +kernel, rfl⟩
theorem dX5_begin_144 : gw_dc cX5_begin 144 (.aload_n 0) 1 145 := ⟨by decide +kernel, rfl⟩
theorem dX5_begin_145 : gw_dc cX5_begin 145 (.getfield 32) 3 148 := ⟨by decide +kernel, rfl⟩
theorem fk_RX5_32 : gw_fk RX5 32 5 8 15 1 true := ⟨_, _, _, ck_5, by decide, by decide, fun h => absurd h (by decide), fun h => absurd h (by decide), fun _ => Or.inl ⟨_, rfl⟩, rfl, Or.inl (gw_mem 343 (by decide +kernel) rfl)⟩
theorem dX5_begin_148 : gw_dc cX5_begin 148 (.iload_n 2) 1 149 := ⟨by decide +kernel, rfl⟩
theorem dX5_begin_149 : gw_dc cX5_begin 149 (.iload_n 3) 1 150 := ⟨by decide +kernel, rfl⟩
theorem dX5_begin_150 : gw_dc cX5_begin 150 (.invokevirtual 102) 3 153 := ⟨by decide +kernel, rfl⟩
theorem dX5_begin_153 : gw_dc cX5_begin 153 (.aload_n 0) 1 154 := ⟨by decide +kernel, rfl⟩
theorem dX5_begin_154 : gw_dc cX5_begin 154 (.getfield 38) 3 157 := ⟨by decide +kernel, rfl⟩
theorem fk_RX5_38 : gw_fk RX5 38 5 10 15 1 true := ⟨_, _, _, ck_5, by decide, by decide, fun h => absurd h (by decide), fun h => absurd h (by decide), fun _ => Or.inl ⟨_, rfl⟩, rfl, Or.inl (gw_mem 347 (by decide +kernel) rfl)⟩
theorem dX5_begin_157 : gw_dc cX5_begin 157 (.iload 5) 2 159 := ⟨by decide +kernel, rfl⟩
theorem dX5_begin_159 : gw_dc cX5_begin 159 (.aload_n 0) 1 160 := ⟨by decide +kernel, rfl⟩
theorem dX5_begin_160 : gw_dc cX5_begin 160 (.getfield 38) 3 163 := ⟨by decide +kernel, rfl⟩
theorem dX5_begin_163 : gw_dc cX5_begin 163 (.iload 5) 2 165 := ⟨by decide +kernel, rfl⟩
theorem dX5_begin_165 : gw_dc cX5_begin 165 (.invokevirtual 72) 3 168 := ⟨by decide +kernel, rfl⟩
theorem dX5_begin_168 : gw_dc cX5_begin 168 (.iload 10) 2 170 := ⟨by decide +kernel, rfl⟩
theorem dX5_begin_170 : gw_dc cX5_begin 170 (.invokestatic 75) 3 173 := ⟨by decide +kernel, rfl⟩
theorem dX5_begin_173 : gw_dc cX5_begin 173 (.invokevirtual 102) 3 176 := ⟨by decide +kernel, rfl⟩
theorem dX5_begin_176 : gw_dc cX5_begin 176 (.aload_n 0) 1 177 := ⟨by decide +kernel, rfl⟩
theorem dX5_begin_177 : gw_dc cX5_begin 177 (.getfield 44) 3 180 := ⟨by decide +kernel, rfl⟩
theorem dX5_begin_180 : gw_dc cX5_begin 180 (.iload_n 3) 1 181 := ⟨by decide +kernel, rfl⟩
theorem dX5_begin_181 : gw_dc cX5_begin 181 (.iload 10) 2 183 := ⟨by decide +kernel, rfl⟩
theorem dX5_begin_183 : gw_dc cX5_begin 183 (.invokevirtual 102) 3 186 := ⟨by decide +kernel, rfl⟩
theorem dX5_begin_186 : gw_dc cX5_begin 186 (.aload_n 0) 1 187 := ⟨by decide +kernel, rfl⟩
theorem dX5_begin_187 : gw_dc cX5_begin 187 (.getfield 47) 3 190 := ⟨by decide +kernel, rfl⟩
theorem dX5_begin_190 : gw_dc cX5_begin 190 (.iload_n 3) 1 191 := ⟨by decide +kernel, rfl⟩
theorem dX5_begin_191 : gw_dc cX5_begin 191 (.iload 6) 2 193 := ⟨by decide +kernel, rfl⟩
theorem dX5_begin_193 : gw_dc cX5_begin 193 (.invokevirtual 102) 3 196 := ⟨by decide +kernel, rfl⟩
theorem dX5_begin_196 : gw_dc cX5_begin 196 (.aload_n 0) 1 197 := ⟨by decide +kernel, rfl⟩
theorem dX5_begin_197 : gw_dc cX5_begin 197 (.getfield 50) 3 200 := ⟨by decide +kernel, rfl⟩
theorem dX5_begin_200 : gw_dc cX5_begin 200 (.iload 7) 2 202 := ⟨by decide +kernel, rfl⟩
theorem dX5_begin_202 : gw_dc cX5_begin 202 (.aload_n 0) 1 203 := ⟨by decide +kernel, rfl⟩
theorem dX5_begin_203 : gw_dc cX5_begin 203 (.getfield 50) 3 206 := ⟨by decide +kernel, rfl⟩
theorem dX5_begin_206 : gw_dc cX5_begin 206 (.iload 7) 2 208 := ⟨by decide +kernel, rfl⟩
theorem dX5_begin_208 : gw_dc cX5_begin 208 (.invokevirtual 72) 3 211 := ⟨by decide +kernel, rfl⟩
theorem dX5_begin_211 : gw_dc cX5_begin 211 (.iconst 1) 1 212 := ⟨by decide +kernel, rfl⟩
theorem dX5_begin_212 : gw_dc cX5_begin 212 (.iadd) 1 213 := ⟨by decide +kernel, rfl⟩
theorem dX5_begin_213 : gw_dc cX5_begin 213 (.invokevirtual 102) 3 216 := ⟨by decide +kernel, rfl⟩
theorem dX5_begin_216 : gw_dc cX5_begin 216 (.aload_n 0) 1 217 := ⟨by decide +kernel, rfl⟩
theorem dX5_begin_217 : gw_dc cX5_begin 217 (.dup) 1 218 := ⟨by decide +kernel, rfl⟩
theorem dX5_begin_218 : gw_dc cX5_begin 218 (.getfield 91) 3 221 := ⟨by decide +kernel, rfl⟩
theorem fk_RX5_91 : gw_fk RX5 91 5 2 15 0 false := ⟨_, _, _, ck_5, by decide, by decide, fun _ => rfl, fun h => absurd h (by decide), fun h => absurd h (by decide), rfl, Or.inl (gw_mem 330 (by decide +kernel) rfl)⟩
theorem dX5_begin_221 : gw_dc cX5_begin 221 (.iload 9) 2 223 := ⟨by decide +kernel, rfl⟩
theorem dX5_begin_223 : gw_dc cX5_begin 223 (.iadd) 1 224 := ⟨by decide +kernel, rfl⟩
theorem dX5_begin_224 : gw_dc cX5_begin 224 (.putfield 91) 3 227 := ⟨by decide +kernel, rfl⟩
theorem dX5_begin_227 : decode cX5_begin 227 = .ok (.return_, 1) := by decide +kernel
theorem dX5_begin_54 : gw_dc cX5_begin 54 (.iload 8) 2 56 := ⟨by decide +kernel, rfl⟩
theorem dX5_begin_56 : gw_dc cX5_begin 56 (.iload 6) 2 58 := ⟨by decide +kernel, rfl⟩
theorem dX5_begin_58 : gw_dc cX5_begin 58 (.if_icmp .ne 7) 3 61 := ⟨by decide +kernel, rfl⟩
theorem dX5_begin_65 : gw_dc cX5_begin 65 (.aload_n 0) 1 66 := ⟨by decide +kernel, rfl⟩
theorem dX5_begin_66 : gw_dc cX5_begin 66 (.getfield 53) 3 69 := ⟨by decide +kernel, rfl⟩
theorem dX5_begin_69 : gw_dc cX5_begin 69 (.getfield 121) 3 72 := ⟨by decide +kernel, rfl⟩
theorem fk_RX5_121 : gw_fk RX5 121 1 3 16 0 false := ⟨_, _, _, ck_1, by decide, by decide, fun _ => rfl, fun h => absurd h (by decide), fun h => absurd h (by decide), rfl, Or.inr ⟨"LightestSack", gw_memN 243 (by decide +kernel) rfl⟩⟩
theorem dX5_lay_0 : gw_dc cX5_lay 0 (.aload_n 0) 1 1 := ⟨by decide +kernel, rfl⟩
theorem dX5_lay_1 : gw_dc cX5_lay 1 (.iconst 0) 1 2 := ⟨by decide +kernel, rfl⟩
theorem dX5_lay_2 : gw_dc cX5_lay 2 (.putfield 60) 3 5 := ⟨by decide +kernel, rfl⟩
theorem dX5_lay_5 : gw_dc cX5_lay 5 (.aload_n 0) 1 6 := ⟨by decide +kernel, rfl⟩
theorem dX5_lay_6 : gw_dc cX5_lay 6 (.iconst 0) 1 7 := ⟨by decide +kernel, rfl⟩
theorem dX5_lay_7 : gw_dc cX5_lay 7 (.putfield 91) 3 10 := ⟨by decide +kernel, rfl⟩
theorem dX5_lay_10 : gw_dc cX5_lay 10 (.iconst 0) 1 11 := ⟨by decide +kernel, rfl⟩
theorem dX5_lay_11 : gw_dc cX5_lay 11 (.istore_n 1) 1 12 := ⟨by decide +kernel, rfl⟩
theorem dX5_lay_12 : gw_dc cX5_lay 12 (.iload_n 1) 1 13 := ⟨by decide +kernel, rfl⟩
theorem dX5_lay_13 : gw_dc cX5_lay 13 (.aload_n 0) 1 14 := ⟨by decide +kernel, rfl⟩
theorem dX5_lay_14 : gw_dc cX5_lay 14 (.getfield 53) 3 17 := ⟨by decide +kernel, rfl⟩
theorem dX5_lay_17 : gw_dc cX5_lay 17 (.getfield 94) 3 20 := ⟨by decide +kernel, rfl⟩
theorem fk_RX5_94 : gw_fk RX5 94 1 5 16 0 false := ⟨_, _, _, ck_1, by decide, by decide, fun _ => rfl, fun h => absurd h (by decide), fun h => absurd h (by decide), rfl, Or.inr ⟨"LightestSack", gw_memN 251 (by decide +kernel) rfl⟩⟩
theorem dX5_lay_20 : gw_dc cX5_lay 20 (.if_icmp .ge 114) 3 23 := ⟨by decide +kernel, rfl⟩
theorem dX5_lay_134 : gw_dc cX5_lay 134 (.aload_n 0) 1 135 := ⟨by decide +kernel, rfl⟩
theorem dX5_lay_135 : gw_dc cX5_lay 135 (.getfield 23) 3 138 := ⟨by decide +kernel, rfl⟩
theorem dX5_lay_138 : gw_dc cX5_lay 138 (.iconst (-1)) 1 139 := ⟨by decide +kernel, rfl⟩
theorem dX5_lay_139 : gw_dc cX5_lay 139 (.invokevirtual 112) 3 142 := ⟨by decide +kernel, rfl⟩
theorem mv_RX5_112 : gw_mv RX5 112 yX4_fill := ⟨gw_mem 598 (by decide +kernel) rfl, gw_mem 599 (by decide +kernel) rfl, gw_mem 600 (by decide +kernel) rfl⟩
theorem my_X4_fill : gw_my yX4_fill cX4_fill 3 none 1 := ⟨gw_mem 601 (by decide +kernel) rfl, gw_mem 100 (by decide +kernel) rfl, by decide +kernel, by decide⟩
theorem dX5_lay_142 : gw_dc cX5_lay 142 (.aload_n 0) 1 143 := ⟨by decide +kernel, rfl⟩
theorem dX5_lay_143 : gw_dc cX5_lay 143 (.getfield 38) 3 146 := ⟨by decide +kernel, rfl⟩
theorem dX5_lay_146 : gw_dc cX5_lay 146 (.iconst 0) 1 147 := ⟨by decide +kernel, rfl⟩
theorem dX5_lay_147 : gw_dc cX5_lay 147 (.invokevirtual 112) 3 150 := ⟨by decide +kernel, rfl⟩
theorem dX5_lay_150 : gw_dc cX5_lay 150 (.aload_n 0) 1 151 := ⟨by decide +kernel, rfl⟩
theorem dX5_lay_151 : gw_dc cX5_lay 151 (.getfield 44) 3 154 := ⟨by decide +kernel, rfl⟩
theorem dX5_lay_154 : gw_dc cX5_lay 154 (.iconst 0) 1 155 := ⟨by decide +kernel, rfl⟩
theorem dX5_lay_155 : gw_dc cX5_lay 155 (.invokevirtual 112) 3 158 := ⟨by decide +kernel, rfl⟩
theorem dX5_lay_158 : gw_dc cX5_lay 158 (.aload_n 0) 1 159 := ⟨by decide +kernel, rfl⟩
theorem dX5_lay_159 : gw_dc cX5_lay 159 (.getfield 47) 3 162 := ⟨by decide +kernel, rfl⟩
theorem dX5_lay_162 : gw_dc cX5_lay 162 (.iconst (-1)) 1 163 := ⟨by decide +kernel, rfl⟩
theorem dX5_lay_163 : gw_dc cX5_lay 163 (.invokevirtual 112) 3 166 := ⟨by decide +kernel, rfl⟩
theorem dX5_lay_166 : gw_dc cX5_lay 166 (.aload_n 0) 1 167 := ⟨by decide +kernel, rfl⟩
theorem dX5_lay_167 : gw_dc cX5_lay 167 (.getfield 50) 3 170 := ⟨by decide +kernel, rfl⟩
theorem dX5_lay_170 : gw_dc cX5_lay 170 (.iconst 0) 1 171 := ⟨by decide +kernel, rfl⟩
theorem dX5_lay_171 : gw_dc cX5_lay 171 (.invokevirtual 112) 3 174 := ⟨by decide +kernel, rfl⟩
theorem dX5_lay_174 : decode cX5_lay 174 = .ok (.return_, 1) := by decide +kernel
theorem dX5_lay_23 : gw_dc cX5_lay 23 (.aload_n 0) 1 24 := ⟨by decide +kernel, rfl⟩
theorem dX5_lay_24 : gw_dc cX5_lay 24 (.getfield 41) 3 27 := ⟨by decide +kernel, rfl⟩
theorem dX5_lay_27 : gw_dc cX5_lay 27 (.iload_n 1) 1 28 := ⟨by decide +kernel, rfl⟩
theorem dX5_lay_28 : gw_dc cX5_lay 28 (.aload_n 0) 1 29 := ⟨by decide +kernel, rfl⟩
theorem dX5_lay_29 : gw_dc cX5_lay 29 (.getfield 53) 3 32 := ⟨by decide +kernel, rfl⟩
theorem dX5_lay_32 : gw_dc cX5_lay 32 (.getfield 99) 3 35 := ⟨by decide +kernel, rfl⟩
theorem fk_RX5_99 : gw_fk RX5 99 1 13 16 1 true := ⟨_, _, _, ck_1, by decide, by decide, fun h => absurd h (by decide), fun h => absurd h (by decide), fun _ => Or.inl ⟨_, rfl⟩, rfl, Or.inr ⟨"LightestSack", gw_memN 278 (by decide +kernel) rfl⟩⟩
theorem dX5_lay_35 : gw_dc cX5_lay 35 (.iload_n 1) 1 36 := ⟨by decide +kernel, rfl⟩
theorem dX5_lay_36 : gw_dc cX5_lay 36 (.invokevirtual 72) 3 39 := ⟨by decide +kernel, rfl⟩
theorem dX5_lay_39 : gw_dc cX5_lay 39 (.iconst (-1)) 1 40 := ⟨by decide +kernel, rfl⟩
theorem dX5_lay_40 : gw_dc cX5_lay 40 (.if_icmp .ne 9) 3 43 := ⟨by decide +kernel, rfl⟩
theorem dX5_lay_49 : gw_dc cX5_lay 49 (.aload_n 0) 1 50 := ⟨by decide +kernel, rfl⟩
theorem dX5_lay_50 : gw_dc cX5_lay 50 (.getfield 53) 3 53 := ⟨by decide +kernel, rfl⟩
theorem dX5_lay_53 : gw_dc cX5_lay 53 (.getfield 99) 3 56 := ⟨by decide +kernel, rfl⟩
theorem dX5_lay_56 : gw_dc cX5_lay 56 (.iload_n 1) 1 57 := ⟨by decide +kernel, rfl⟩
theorem dX5_lay_57 : gw_dc cX5_lay 57 (.invokevirtual 72) 3 60 := ⟨by decide +kernel, rfl⟩
theorem dX5_lay_60 : gw_dc cX5_lay 60 (.invokevirtual 102) 3 63 := ⟨by decide +kernel, rfl⟩
theorem dX5_lay_63 : gw_dc cX5_lay 63 (.iconst 0) 1 64 := ⟨by decide +kernel, rfl⟩
theorem dX5_lay_64 : gw_dc cX5_lay 64 (.istore_n 2) 1 65 := ⟨by decide +kernel, rfl⟩
theorem dX5_lay_65 : gw_dc cX5_lay 65 (.iload_n 2) 1 66 := ⟨by decide +kernel, rfl⟩
theorem dX5_lay_66 : gw_dc cX5_lay 66 (.aload_n 0) 1 67 := ⟨by decide +kernel, rfl⟩
theorem dX5_lay_67 : gw_dc cX5_lay 67 (.getfield 53) 3 70 := ⟨by decide +kernel, rfl⟩
theorem dX5_lay_70 : gw_dc cX5_lay 70 (.getfield 106) 3 73 := ⟨by decide +kernel, rfl⟩
theorem fk_RX5_106 : gw_fk RX5 106 1 14 16 1 true := ⟨_, _, _, ck_1, by decide, by decide, fun h => absurd h (by decide), fun h => absurd h (by decide), fun _ => Or.inl ⟨_, rfl⟩, rfl, Or.inr ⟨"LightestSack", gw_memN 282 (by decide +kernel) rfl⟩⟩
theorem dX5_lay_73 : gw_dc cX5_lay 73 (.iload_n 1) 1 74 := ⟨by decide +kernel, rfl⟩
theorem dX5_lay_74 : gw_dc cX5_lay 74 (.invokevirtual 72) 3 77 := ⟨by decide +kernel, rfl⟩
theorem dX5_lay_77 : gw_dc cX5_lay 77 (.if_icmp .ge 51) 3 80 := ⟨by decide +kernel, rfl⟩
theorem dX5_lay_128 : gw_dc cX5_lay 128 (.iinc 1 1) 3 131 := ⟨by decide +kernel, rfl⟩
theorem dX5_lay_131 : gw_dc cX5_lay 131 (.goto (-119)) 3 134 := ⟨by decide +kernel, rfl⟩
theorem dX5_lay_80 : gw_dc cX5_lay 80 (.aload_n 0) 1 81 := ⟨by decide +kernel, rfl⟩
theorem dX5_lay_81 : gw_dc cX5_lay 81 (.getfield 14) 3 84 := ⟨by decide +kernel, rfl⟩
theorem dX5_lay_84 : gw_dc cX5_lay 84 (.aload_n 0) 1 85 := ⟨by decide +kernel, rfl⟩
theorem dX5_lay_85 : gw_dc cX5_lay 85 (.getfield 60) 3 88 := ⟨by decide +kernel, rfl⟩
theorem dX5_lay_88 : gw_dc cX5_lay 88 (.iload_n 1) 1 89 := ⟨by decide +kernel, rfl⟩
theorem dX5_lay_89 : gw_dc cX5_lay 89 (.invokevirtual 102) 3 92 := ⟨by decide +kernel, rfl⟩
theorem dX5_lay_92 : gw_dc cX5_lay 92 (.aload_n 0) 1 93 := ⟨by decide +kernel, rfl⟩
theorem dX5_lay_93 : gw_dc cX5_lay 93 (.getfield 20) 3 96 := ⟨by decide +kernel, rfl⟩
theorem dX5_lay_96 : gw_dc cX5_lay 96 (.aload_n 0) 1 97 := ⟨by decide +kernel, rfl⟩
theorem dX5_lay_97 : gw_dc cX5_lay 97 (.getfield 60) 3 100 := ⟨by decide +kernel, rfl⟩
theorem dX5_lay_100 : gw_dc cX5_lay 100 (.aload_n 0) 1 101 := ⟨by decide +kernel, rfl⟩
theorem dX5_lay_101 : gw_dc cX5_lay 101 (.getfield 53) 3 104 := ⟨by decide +kernel, rfl⟩
theorem dX5_lay_104 : gw_dc cX5_lay 104 (.iload_n 1) 1 105 := ⟨by decide +kernel, rfl⟩
theorem dX5_lay_105 : gw_dc cX5_lay 105 (.iload_n 2) 1 106 := ⟨by decide +kernel, rfl⟩
theorem dX5_lay_106 : gw_dc cX5_lay 106 (.invokevirtual 109) 3 109 := ⟨by decide +kernel, rfl⟩
theorem mv_RX5_109 : gw_mv RX5 109 yX1_cutAt := ⟨gw_mem 594 (by decide +kernel) rfl, gw_mem 595 (by decide +kernel) rfl, gw_mem 596 (by decide +kernel) rfl⟩
theorem my_X1_cutAt : gw_my yX1_cutAt cX1_cutAt 3 (some .int) 2 := ⟨gw_mem 597 (by decide +kernel) rfl, gw_mem 98 (by decide +kernel) rfl, by decide +kernel, by decide⟩
theorem dX5_lay_109 : gw_dc cX5_lay 109 (.invokevirtual 102) 3 112 := ⟨by decide +kernel, rfl⟩
theorem dX5_lay_112 : gw_dc cX5_lay 112 (.aload_n 0) 1 113 := ⟨by decide +kernel, rfl⟩
theorem dX5_lay_113 : gw_dc cX5_lay 113 (.dup) 1 114 := ⟨by decide +kernel, rfl⟩
theorem dX5_lay_114 : gw_dc cX5_lay 114 (.getfield 60) 3 117 := ⟨by decide +kernel, rfl⟩
theorem dX5_lay_117 : gw_dc cX5_lay 117 (.iconst 1) 1 118 := ⟨by decide +kernel, rfl⟩
theorem dX5_lay_118 : gw_dc cX5_lay 118 (.iadd) 1 119 := ⟨by decide +kernel, rfl⟩
theorem dX5_lay_119 : gw_dc cX5_lay 119 (.putfield 60) 3 122 := ⟨by decide +kernel, rfl⟩
theorem dX5_lay_122 : gw_dc cX5_lay 122 (.iinc 2 1) 3 125 := ⟨by decide +kernel, rfl⟩
theorem dX5_lay_125 : gw_dc cX5_lay 125 (.goto (-60)) 3 128 := ⟨by decide +kernel, rfl⟩
theorem dX5_lay_43 : gw_dc cX5_lay 43 (.sipush 1000) 3 46 := ⟨by decide +kernel, rfl⟩
theorem dX5_lay_46 : gw_dc cX5_lay 46 (.goto 14) 3 49 := ⟨by decide +kernel, rfl⟩
theorem dX5_go_0 : gw_dc cX5_go 0 (.aload_n 0) 1 1 := ⟨by decide +kernel, rfl⟩
theorem dX5_go_1 : gw_dc cX5_go 1 (.invokevirtual 57) 3 4 := ⟨by decide +kernel, rfl⟩
theorem mv_RX5_57 : gw_mv RX5 57 yX5_lay := ⟨gw_mem 588 (by decide +kernel) rfl, gw_mem 589 (by decide +kernel) rfl, gw_mem 590 (by decide +kernel) rfl⟩
theorem my_X5_lay : gw_my yX5_lay cX5_lay 3 none 0 := ⟨gw_mem 591 (by decide +kernel) rfl, gw_mem 101 (by decide +kernel) rfl, by decide +kernel, by decide⟩
theorem dX5_go_4 : gw_dc cX5_go 4 (.iconst 0) 1 5 := ⟨by decide +kernel, rfl⟩
theorem dX5_go_5 : gw_dc cX5_go 5 (.istore_n 1) 1 6 := ⟨by decide +kernel, rfl⟩
theorem dX5_go_6 : gw_dc cX5_go 6 (.iload_n 1) 1 7 := ⟨by decide +kernel, rfl⟩
theorem dX5_go_7 : gw_dc cX5_go 7 (.aload_n 0) 1 8 := ⟨by decide +kernel, rfl⟩
theorem dX5_go_8 : gw_dc cX5_go 8 (.getfield 60) 3 11 := ⟨by decide +kernel, rfl⟩
theorem dX5_go_11 : gw_dc cX5_go 11 (.if_icmp .ge 49) 3 14 := ⟨by decide +kernel, rfl⟩
theorem dX5_go_60 : decode cX5_go 60 = .ok (.return_, 1) := by decide +kernel
theorem dX5_go_14 : gw_dc cX5_go 14 (.aload_n 0) 1 15 := ⟨by decide +kernel, rfl⟩
theorem dX5_go_15 : gw_dc cX5_go 15 (.invokevirtual 64) 3 18 := ⟨by decide +kernel, rfl⟩
theorem mv_RX5_64 : gw_mv RX5 64 yX5_firstComing := ⟨gw_mem 602 (by decide +kernel) rfl, gw_mem 604 (by decide +kernel) rfl, gw_mem 0 (by decide +kernel) rfl⟩
theorem my_X5_firstComing : gw_my yX5_firstComing cX5_firstComing 3 (some .int) 0 := ⟨gw_mem 605 (by decide +kernel) rfl, gw_mem 101 (by decide +kernel) rfl, by decide +kernel, by decide⟩
theorem dX5_go_18 : gw_dc cX5_go 18 (.istore_n 2) 1 19 := ⟨by decide +kernel, rfl⟩
theorem dX5_go_19 : gw_dc cX5_go 19 (.aload_n 0) 1 20 := ⟨by decide +kernel, rfl⟩
theorem dX5_go_20 : gw_dc cX5_go 20 (.iload_n 2) 1 21 := ⟨by decide +kernel, rfl⟩
theorem dX5_go_21 : gw_dc cX5_go 21 (.invokevirtual 68) 3 24 := ⟨by decide +kernel, rfl⟩
theorem mv_RX5_68 : gw_mv RX5 68 yX5_firstStone := ⟨gw_mem 614 (by decide +kernel) rfl, gw_mem 616 (by decide +kernel) rfl, gw_mem 2 (by decide +kernel) rfl⟩
theorem my_X5_firstStone : gw_my yX5_firstStone cX5_firstStone 4 (some .int) 1 := ⟨gw_mem 617 (by decide +kernel) rfl, gw_mem 101 (by decide +kernel) rfl, by decide +kernel, by decide⟩
theorem dX5_go_24 : gw_dc cX5_go 24 (.istore_n 3) 1 25 := ⟨by decide +kernel, rfl⟩
theorem dX5_go_25 : gw_dc cX5_go 25 (.aload_n 0) 1 26 := ⟨by decide +kernel, rfl⟩
theorem dX5_go_26 : gw_dc cX5_go 26 (.getfield 44) 3 29 := ⟨by decide +kernel, rfl⟩
theorem dX5_go_29 : gw_dc cX5_go 29 (.iload_n 3) 1 30 := ⟨by decide +kernel, rfl⟩
theorem dX5_go_30 : gw_dc cX5_go 30 (.invokevirtual 72) 3 33 := ⟨by decide +kernel, rfl⟩
theorem dX5_go_33 : gw_dc cX5_go 33 (.iload_n 2) 1 34 := ⟨by decide +kernel, rfl⟩
theorem dX5_go_34 : gw_dc cX5_go 34 (.invokestatic 75) 3 37 := ⟨by decide +kernel, rfl⟩
theorem dX5_go_37 : gw_dc cX5_go 37 (.istore 4) 2 39 := ⟨by decide +kernel, rfl⟩
theorem dX5_go_39 : gw_dc cX5_go 39 (.aload_n 0) 1 40 := ⟨by decide +kernel, rfl⟩
theorem dX5_go_40 : gw_dc cX5_go 40 (.iload_n 1) 1 41 := ⟨by decide +kernel, rfl⟩
theorem dX5_go_41 : gw_dc cX5_go 41 (.aload_n 0) 1 42 := ⟨by decide +kernel, rfl⟩
theorem dX5_go_42 : gw_dc cX5_go 42 (.iload_n 3) 1 43 := ⟨by decide +kernel, rfl⟩
theorem dX5_go_43 : gw_dc cX5_go 43 (.iload 4) 2 45 := ⟨by decide +kernel, rfl⟩
theorem dX5_go_45 : gw_dc cX5_go 45 (.invokevirtual 81) 3 48 := ⟨by decide +kernel, rfl⟩
theorem mv_RX5_81 : gw_mv RX5 81 yX5_firstStanding := ⟨gw_mem 621 (by decide +kernel) rfl, gw_mem 623 (by decide +kernel) rfl, gw_mem 3 (by decide +kernel) rfl⟩
theorem my_X5_firstStanding : gw_my yX5_firstStanding cX5_firstStanding 5 (some .int) 2 := ⟨gw_mem 624 (by decide +kernel) rfl, gw_mem 101 (by decide +kernel) rfl, by decide +kernel, by decide⟩
theorem dX5_go_48 : gw_dc cX5_go 48 (.iload_n 3) 1 49 := ⟨by decide +kernel, rfl⟩
theorem dX5_go_49 : gw_dc cX5_go 49 (.iload 4) 2 51 := ⟨by decide +kernel, rfl⟩
theorem dX5_go_51 : gw_dc cX5_go 51 (.invokevirtual 84) 3 54 := ⟨by decide +kernel, rfl⟩
theorem mv_RX5_84 : gw_mv RX5 84 yX5_begin := ⟨gw_mem 633 (by decide +kernel) rfl, gw_mem 635 (by decide +kernel) rfl, gw_mem 5 (by decide +kernel) rfl⟩
theorem my_X5_begin : gw_my yX5_begin cX5_begin 11 none 4 := ⟨gw_mem 636 (by decide +kernel) rfl, gw_mem 101 (by decide +kernel) rfl, by decide +kernel, by decide⟩
theorem dX5_go_54 : gw_dc cX5_go 54 (.iinc 1 1) 3 57 := ⟨by decide +kernel, rfl⟩
theorem dX5_go_57 : gw_dc cX5_go 57 (.goto (-51)) 3 60 := ⟨by decide +kernel, rfl⟩
theorem dX5_follow_0 : gw_dc cX5_follow 0 (.aload_n 0) 1 1 := ⟨by decide +kernel, rfl⟩
theorem dX5_follow_1 : gw_dc cX5_follow 1 (.invokevirtual 57) 3 4 := ⟨by decide +kernel, rfl⟩
theorem dX5_follow_4 : gw_dc cX5_follow 4 (.iconst 0) 1 5 := ⟨by decide +kernel, rfl⟩
theorem dX5_follow_5 : gw_dc cX5_follow 5 (.istore_n 2) 1 6 := ⟨by decide +kernel, rfl⟩
theorem dX5_follow_6 : gw_dc cX5_follow 6 (.iload_n 2) 1 7 := ⟨by decide +kernel, rfl⟩
theorem dX5_follow_7 : gw_dc cX5_follow 7 (.aload_n 0) 1 8 := ⟨by decide +kernel, rfl⟩
theorem dX5_follow_8 : gw_dc cX5_follow 8 (.getfield 60) 3 11 := ⟨by decide +kernel, rfl⟩
theorem dX5_follow_11 : gw_dc cX5_follow 11 (.if_icmp .ge 38) 3 14 := ⟨by decide +kernel, rfl⟩
theorem dX5_follow_49 : decode cX5_follow 49 = .ok (.return_, 1) := by decide +kernel
theorem dX5_follow_14 : gw_dc cX5_follow 14 (.aload_n 1) 1 15 := ⟨by decide +kernel, rfl⟩
theorem dX5_follow_15 : gw_dc cX5_follow 15 (.iload_n 2) 1 16 := ⟨by decide +kernel, rfl⟩
theorem dX5_follow_16 : gw_dc cX5_follow 16 (.invokevirtual 72) 3 19 := ⟨by decide +kernel, rfl⟩
theorem dX5_follow_19 : gw_dc cX5_follow 19 (.istore_n 3) 1 20 := ⟨by decide +kernel, rfl⟩
theorem dX5_follow_20 : gw_dc cX5_follow 20 (.aload_n 0) 1 21 := ⟨by decide +kernel, rfl⟩
theorem dX5_follow_21 : gw_dc cX5_follow 21 (.iload_n 2) 1 22 := ⟨by decide +kernel, rfl⟩
theorem dX5_follow_22 : gw_dc cX5_follow 22 (.iload_n 3) 1 23 := ⟨by decide +kernel, rfl⟩
theorem dX5_follow_23 : gw_dc cX5_follow 23 (.iconst 0) 1 24 := ⟨by decide +kernel, rfl⟩
theorem dX5_follow_24 : gw_dc cX5_follow 24 (.aload_n 0) 1 25 := ⟨by decide +kernel, rfl⟩
theorem dX5_follow_25 : gw_dc cX5_follow 25 (.getfield 44) 3 28 := ⟨by decide +kernel, rfl⟩
theorem dX5_follow_28 : gw_dc cX5_follow 28 (.iconst 0) 1 29 := ⟨by decide +kernel, rfl⟩
theorem dX5_follow_29 : gw_dc cX5_follow 29 (.invokevirtual 72) 3 32 := ⟨by decide +kernel, rfl⟩
theorem dX5_follow_32 : gw_dc cX5_follow 32 (.aload_n 0) 1 33 := ⟨by decide +kernel, rfl⟩
theorem dX5_follow_33 : gw_dc cX5_follow 33 (.iload_n 3) 1 34 := ⟨by decide +kernel, rfl⟩
theorem dX5_follow_34 : gw_dc cX5_follow 34 (.invokevirtual 88) 3 37 := ⟨by decide +kernel, rfl⟩
theorem dX5_follow_37 : gw_dc cX5_follow 37 (.invokestatic 75) 3 40 := ⟨by decide +kernel, rfl⟩
theorem dX5_follow_40 : gw_dc cX5_follow 40 (.invokevirtual 84) 3 43 := ⟨by decide +kernel, rfl⟩
theorem dX5_follow_43 : gw_dc cX5_follow 43 (.iinc 2 1) 3 46 := ⟨by decide +kernel, rfl⟩
theorem dX5_follow_46 : gw_dc cX5_follow 46 (.goto (-40)) 3 49 := ⟨by decide +kernel, rfl⟩
theorem dX5_pieceBegun_0 : gw_dc cX5_pieceBegun 0 (.iload_n 1) 1 1 := ⟨by decide +kernel, rfl⟩
theorem dX5_pieceBegun_1 : gw_dc cX5_pieceBegun 1 (.ifCond .lt 22) 3 4 := ⟨by decide +kernel, rfl⟩
theorem dX5_pieceBegun_23 : gw_dc cX5_pieceBegun 23 (.iconst (-1)) 1 24 := ⟨by decide +kernel, rfl⟩
theorem dX5_pieceBegun_24 : decode cX5_pieceBegun 24 = .ok (.ireturn, 1) := by decide +kernel
theorem dX5_pieceBegun_4 : gw_dc cX5_pieceBegun 4 (.iload_n 1) 1 5 := ⟨by decide +kernel, rfl⟩
theorem dX5_pieceBegun_5 : gw_dc cX5_pieceBegun 5 (.aload_n 0) 1 6 := ⟨by decide +kernel, rfl⟩
theorem dX5_pieceBegun_6 : gw_dc cX5_pieceBegun 6 (.getfield 60) 3 9 := ⟨by decide +kernel, rfl⟩
theorem dX5_pieceBegun_9 : gw_dc cX5_pieceBegun 9 (.if_icmp .ge 14) 3 12 := ⟨by decide +kernel, rfl⟩
theorem dX5_pieceBegun_12 : gw_dc cX5_pieceBegun 12 (.aload_n 0) 1 13 := ⟨by decide +kernel, rfl⟩
theorem dX5_pieceBegun_13 : gw_dc cX5_pieceBegun 13 (.getfield 35) 3 16 := ⟨by decide +kernel, rfl⟩
theorem dX5_pieceBegun_16 : gw_dc cX5_pieceBegun 16 (.iload_n 1) 1 17 := ⟨by decide +kernel, rfl⟩
theorem dX5_pieceBegun_17 : gw_dc cX5_pieceBegun 17 (.invokevirtual 72) 3 20 := ⟨by decide +kernel, rfl⟩
theorem dX5_pieceBegun_20 : gw_dc cX5_pieceBegun 20 (.goto 4) 3 23 := ⟨by decide +kernel, rfl⟩
theorem dX5_isOrdered_0 : gw_dc cX5_isOrdered 0 (.iconst 1) 1 1 := ⟨by decide +kernel, rfl⟩
theorem dX5_isOrdered_1 : gw_dc cX5_isOrdered 1 (.istore_n 2) 1 2 := ⟨by decide +kernel, rfl⟩
theorem dX5_isOrdered_2 : gw_dc cX5_isOrdered 2 (.iconst 0) 1 3 := ⟨by decide +kernel, rfl⟩
theorem dX5_isOrdered_3 : gw_dc cX5_isOrdered 3 (.istore_n 3) 1 4 := ⟨by decide +kernel, rfl⟩
theorem dX5_isOrdered_4 : gw_dc cX5_isOrdered 4 (.iload_n 3) 1 5 := ⟨by decide +kernel, rfl⟩
theorem dX5_isOrdered_5 : gw_dc cX5_isOrdered 5 (.aload_n 0) 1 6 := ⟨by decide +kernel, rfl⟩
theorem dX5_isOrdered_6 : gw_dc cX5_isOrdered 6 (.getfield 60) 3 9 := ⟨by decide +kernel, rfl⟩
theorem dX5_isOrdered_9 : gw_dc cX5_isOrdered 9 (.if_icmp .ge 35) 3 12 := ⟨by decide +kernel, rfl⟩
theorem dX5_isOrdered_44 : gw_dc cX5_isOrdered 44 (.iload_n 2) 1 45 := ⟨by decide +kernel, rfl⟩
theorem dX5_isOrdered_45 : decode cX5_isOrdered 45 = .ok (.ireturn, 1) := by decide +kernel
theorem dX5_isOrdered_12 : gw_dc cX5_isOrdered 12 (.iload_n 2) 1 13 := ⟨by decide +kernel, rfl⟩
theorem dX5_isOrdered_13 : gw_dc cX5_isOrdered 13 (.ifCond .eq 31) 3 16 := ⟨by decide +kernel, rfl⟩
theorem dX5_isOrdered_16 : gw_dc cX5_isOrdered 16 (.aload_n 0) 1 17 := ⟨by decide +kernel, rfl⟩
theorem dX5_isOrdered_17 : gw_dc cX5_isOrdered 17 (.getfield 35) 3 20 := ⟨by decide +kernel, rfl⟩
theorem dX5_isOrdered_20 : gw_dc cX5_isOrdered 20 (.iload_n 3) 1 21 := ⟨by decide +kernel, rfl⟩
theorem dX5_isOrdered_21 : gw_dc cX5_isOrdered 21 (.invokevirtual 72) 3 24 := ⟨by decide +kernel, rfl⟩
theorem dX5_isOrdered_24 : gw_dc cX5_isOrdered 24 (.aload_n 1) 1 25 := ⟨by decide +kernel, rfl⟩
theorem dX5_isOrdered_25 : gw_dc cX5_isOrdered 25 (.iload_n 3) 1 26 := ⟨by decide +kernel, rfl⟩
theorem dX5_isOrdered_26 : gw_dc cX5_isOrdered 26 (.invokevirtual 72) 3 29 := ⟨by decide +kernel, rfl⟩
theorem dX5_isOrdered_29 : gw_dc cX5_isOrdered 29 (.if_icmp .ne 7) 3 32 := ⟨by decide +kernel, rfl⟩
theorem dX5_isOrdered_36 : gw_dc cX5_isOrdered 36 (.iconst 0) 1 37 := ⟨by decide +kernel, rfl⟩
theorem dX5_isOrdered_37 : gw_dc cX5_isOrdered 37 (.istore_n 2) 1 38 := ⟨by decide +kernel, rfl⟩
theorem dX5_isOrdered_38 : gw_dc cX5_isOrdered 38 (.iinc 3 1) 3 41 := ⟨by decide +kernel, rfl⟩
theorem dX5_isOrdered_41 : gw_dc cX5_isOrdered 41 (.goto (-37)) 3 44 := ⟨by decide +kernel, rfl⟩
theorem dX5_isOrdered_32 : gw_dc cX5_isOrdered 32 (.iconst 1) 1 33 := ⟨by decide +kernel, rfl⟩
theorem dX5_isOrdered_33 : gw_dc cX5_isOrdered 33 (.goto 4) 3 36 := ⟨by decide +kernel, rfl⟩
theorem dX5_waitOf_0 : gw_dc cX5_waitOf 0 (.aload_n 0) 1 1 := ⟨by decide +kernel, rfl⟩
theorem dX5_waitOf_1 : gw_dc cX5_waitOf 1 (.getfield 38) 3 4 := ⟨by decide +kernel, rfl⟩
theorem dX5_waitOf_4 : gw_dc cX5_waitOf 4 (.iload_n 1) 1 5 := ⟨by decide +kernel, rfl⟩
theorem dX5_waitOf_5 : gw_dc cX5_waitOf 5 (.invokevirtual 72) 3 8 := ⟨by decide +kernel, rfl⟩
theorem dX5_waitOf_8 : gw_dc cX5_waitOf 8 (.aload_n 0) 1 9 := ⟨by decide +kernel, rfl⟩
theorem dX5_waitOf_9 : gw_dc cX5_waitOf 9 (.getfield 53) 3 12 := ⟨by decide +kernel, rfl⟩
theorem dX5_waitOf_12 : gw_dc cX5_waitOf 12 (.getfield 157) 3 15 := ⟨by decide +kernel, rfl⟩
theorem dX5_waitOf_15 : gw_dc cX5_waitOf 15 (.iload_n 1) 1 16 := ⟨by decide +kernel, rfl⟩
theorem dX5_waitOf_16 : gw_dc cX5_waitOf 16 (.invokevirtual 72) 3 19 := ⟨by decide +kernel, rfl⟩
theorem dX5_waitOf_19 : gw_dc cX5_waitOf 19 (.isub) 1 20 := ⟨by decide +kernel, rfl⟩
theorem dX5_waitOf_20 : decode cX5_waitOf 20 = .ok (.ireturn, 1) := by decide +kernel
theorem dX5_isLate_0 : gw_dc cX5_isLate 0 (.aload_n 0) 1 1 := ⟨by decide +kernel, rfl⟩
theorem dX5_isLate_1 : gw_dc cX5_isLate 1 (.getfield 38) 3 4 := ⟨by decide +kernel, rfl⟩
theorem dX5_isLate_4 : gw_dc cX5_isLate 4 (.iload_n 1) 1 5 := ⟨by decide +kernel, rfl⟩
theorem dX5_isLate_5 : gw_dc cX5_isLate 5 (.invokevirtual 72) 3 8 := ⟨by decide +kernel, rfl⟩
theorem dX5_isLate_8 : gw_dc cX5_isLate 8 (.aload_n 0) 1 9 := ⟨by decide +kernel, rfl⟩
theorem dX5_isLate_9 : gw_dc cX5_isLate 9 (.getfield 53) 3 12 := ⟨by decide +kernel, rfl⟩
theorem dX5_isLate_12 : gw_dc cX5_isLate 12 (.getfield 99) 3 15 := ⟨by decide +kernel, rfl⟩
theorem dX5_isLate_15 : gw_dc cX5_isLate 15 (.iload_n 1) 1 16 := ⟨by decide +kernel, rfl⟩
theorem dX5_isLate_16 : gw_dc cX5_isLate 16 (.invokevirtual 72) 3 19 := ⟨by decide +kernel, rfl⟩
theorem dX5_isLate_19 : gw_dc cX5_isLate 19 (.if_icmp .le 22) 3 22 := ⟨by decide +kernel, rfl⟩
theorem dX5_isLate_41 : gw_dc cX5_isLate 41 (.iconst 0) 1 42 := ⟨by decide +kernel, rfl⟩
theorem dX5_isLate_42 : decode cX5_isLate 42 = .ok (.ireturn, 1) := by decide +kernel
theorem dX5_isLate_22 : gw_dc cX5_isLate 22 (.aload_n 0) 1 23 := ⟨by decide +kernel, rfl⟩
theorem dX5_isLate_23 : gw_dc cX5_isLate 23 (.getfield 53) 3 26 := ⟨by decide +kernel, rfl⟩
theorem dX5_isLate_26 : gw_dc cX5_isLate 26 (.getfield 99) 3 29 := ⟨by decide +kernel, rfl⟩
theorem dX5_isLate_29 : gw_dc cX5_isLate 29 (.iload_n 1) 1 30 := ⟨by decide +kernel, rfl⟩
theorem dX5_isLate_30 : gw_dc cX5_isLate 30 (.invokevirtual 72) 3 33 := ⟨by decide +kernel, rfl⟩
theorem dX5_isLate_33 : gw_dc cX5_isLate 33 (.iconst (-1)) 1 34 := ⟨by decide +kernel, rfl⟩
theorem dX5_isLate_34 : gw_dc cX5_isLate 34 (.if_icmp .eq 7) 3 37 := ⟨by decide +kernel, rfl⟩
theorem dX5_isLate_37 : gw_dc cX5_isLate 37 (.iconst 1) 1 38 := ⟨by decide +kernel, rfl⟩
theorem dX5_isLate_38 : gw_dc cX5_isLate 38 (.goto 4) 3 41 := ⟨by decide +kernel, rfl⟩
theorem dX5_costOfAll_0 : gw_dc cX5_costOfAll 0 (.iconst 0) 1 1 := ⟨by decide +kernel, rfl⟩
theorem dX5_costOfAll_1 : gw_dc cX5_costOfAll 1 (.istore_n 1) 1 2 := ⟨by decide +kernel, rfl⟩
theorem dX5_costOfAll_2 : gw_dc cX5_costOfAll 2 (.iconst 0) 1 3 := ⟨by decide +kernel, rfl⟩
theorem dX5_costOfAll_3 : gw_dc cX5_costOfAll 3 (.istore_n 2) 1 4 := ⟨by decide +kernel, rfl⟩
theorem dX5_costOfAll_4 : gw_dc cX5_costOfAll 4 (.iload_n 2) 1 5 := ⟨by decide +kernel, rfl⟩
theorem dX5_costOfAll_5 : gw_dc cX5_costOfAll 5 (.aload_n 0) 1 6 := ⟨by decide +kernel, rfl⟩
theorem dX5_costOfAll_6 : gw_dc cX5_costOfAll 6 (.getfield 53) 3 9 := ⟨by decide +kernel, rfl⟩
theorem dX5_costOfAll_9 : gw_dc cX5_costOfAll 9 (.getfield 94) 3 12 := ⟨by decide +kernel, rfl⟩
theorem dX5_costOfAll_12 : gw_dc cX5_costOfAll 12 (.if_icmp .ge 29) 3 15 := ⟨by decide +kernel, rfl⟩
theorem dX5_costOfAll_41 : gw_dc cX5_costOfAll 41 (.iload_n 1) 1 42 := ⟨by decide +kernel, rfl⟩
theorem dX5_costOfAll_42 : decode cX5_costOfAll 42 = .ok (.ireturn, 1) := by decide +kernel
theorem dX5_costOfAll_15 : gw_dc cX5_costOfAll 15 (.iload_n 1) 1 16 := ⟨by decide +kernel, rfl⟩
theorem dX5_costOfAll_16 : gw_dc cX5_costOfAll 16 (.aload_n 0) 1 17 := ⟨by decide +kernel, rfl⟩
theorem dX5_costOfAll_17 : gw_dc cX5_costOfAll 17 (.getfield 53) 3 20 := ⟨by decide +kernel, rfl⟩
theorem dX5_costOfAll_20 : gw_dc cX5_costOfAll 20 (.getfield 160) 3 23 := ⟨by decide +kernel, rfl⟩
theorem dX5_costOfAll_23 : gw_dc cX5_costOfAll 23 (.iload_n 2) 1 24 := ⟨by decide +kernel, rfl⟩
theorem dX5_costOfAll_24 : gw_dc cX5_costOfAll 24 (.invokevirtual 72) 3 27 := ⟨by decide +kernel, rfl⟩
theorem dX5_costOfAll_27 : gw_dc cX5_costOfAll 27 (.aload_n 0) 1 28 := ⟨by decide +kernel, rfl⟩
theorem dX5_costOfAll_28 : gw_dc cX5_costOfAll 28 (.iload_n 2) 1 29 := ⟨by decide +kernel, rfl⟩
theorem dX5_costOfAll_29 : gw_dc cX5_costOfAll 29 (.invokevirtual 163) 3 32 := ⟨by decide +kernel, rfl⟩
theorem mv_RX5_163 : gw_mv RX5 163 yX5_waitOf := ⟨gw_mem 649 (by decide +kernel) rfl, gw_mem 650 (by decide +kernel) rfl, gw_mem 651 (by decide +kernel) rfl⟩
theorem my_X5_waitOf : gw_my yX5_waitOf cX5_waitOf 2 (some .int) 1 := ⟨gw_mem 652 (by decide +kernel) rfl, gw_mem 101 (by decide +kernel) rfl, by decide +kernel, by decide⟩
theorem dX5_costOfAll_32 : gw_dc cX5_costOfAll 32 (.imul) 1 33 := ⟨by decide +kernel, rfl⟩
theorem dX5_costOfAll_33 : gw_dc cX5_costOfAll 33 (.iadd) 1 34 := ⟨by decide +kernel, rfl⟩
theorem dX5_costOfAll_34 : gw_dc cX5_costOfAll 34 (.istore_n 1) 1 35 := ⟨by decide +kernel, rfl⟩
theorem dX5_costOfAll_35 : gw_dc cX5_costOfAll 35 (.iinc 2 1) 3 38 := ⟨by decide +kernel, rfl⟩
theorem dX5_costOfAll_38 : gw_dc cX5_costOfAll 38 (.goto (-34)) 3 41 := ⟨by decide +kernel, rfl⟩
theorem dX5_allWaits_0 : gw_dc cX5_allWaits 0 (.iconst 0) 1 1 := ⟨by decide +kernel, rfl⟩
theorem dX5_allWaits_1 : gw_dc cX5_allWaits 1 (.istore_n 1) 1 2 := ⟨by decide +kernel, rfl⟩
theorem dX5_allWaits_2 : gw_dc cX5_allWaits 2 (.iconst 0) 1 3 := ⟨by decide +kernel, rfl⟩
theorem dX5_allWaits_3 : gw_dc cX5_allWaits 3 (.istore_n 2) 1 4 := ⟨by decide +kernel, rfl⟩
theorem dX5_allWaits_4 : gw_dc cX5_allWaits 4 (.iload_n 2) 1 5 := ⟨by decide +kernel, rfl⟩
theorem dX5_allWaits_5 : gw_dc cX5_allWaits 5 (.aload_n 0) 1 6 := ⟨by decide +kernel, rfl⟩
theorem dX5_allWaits_6 : gw_dc cX5_allWaits 6 (.getfield 53) 3 9 := ⟨by decide +kernel, rfl⟩
theorem dX5_allWaits_9 : gw_dc cX5_allWaits 9 (.getfield 94) 3 12 := ⟨by decide +kernel, rfl⟩
theorem dX5_allWaits_12 : gw_dc cX5_allWaits 12 (.if_icmp .ge 17) 3 15 := ⟨by decide +kernel, rfl⟩
theorem dX5_allWaits_29 : gw_dc cX5_allWaits 29 (.iload_n 1) 1 30 := ⟨by decide +kernel, rfl⟩
theorem dX5_allWaits_30 : decode cX5_allWaits 30 = .ok (.ireturn, 1) := by decide +kernel
theorem dX5_allWaits_15 : gw_dc cX5_allWaits 15 (.iload_n 1) 1 16 := ⟨by decide +kernel, rfl⟩
theorem dX5_allWaits_16 : gw_dc cX5_allWaits 16 (.aload_n 0) 1 17 := ⟨by decide +kernel, rfl⟩
theorem dX5_allWaits_17 : gw_dc cX5_allWaits 17 (.iload_n 2) 1 18 := ⟨by decide +kernel, rfl⟩
theorem dX5_allWaits_18 : gw_dc cX5_allWaits 18 (.invokevirtual 163) 3 21 := ⟨by decide +kernel, rfl⟩
theorem dX5_allWaits_21 : gw_dc cX5_allWaits 21 (.iadd) 1 22 := ⟨by decide +kernel, rfl⟩
theorem dX5_allWaits_22 : gw_dc cX5_allWaits 22 (.istore_n 1) 1 23 := ⟨by decide +kernel, rfl⟩
theorem dX5_allWaits_23 : gw_dc cX5_allWaits 23 (.iinc 2 1) 3 26 := ⟨by decide +kernel, rfl⟩
theorem dX5_allWaits_26 : gw_dc cX5_allWaits 26 (.goto (-22)) 3 29 := ⟨by decide +kernel, rfl⟩
theorem dX5_lateSacks_0 : gw_dc cX5_lateSacks 0 (.iconst 0) 1 1 := ⟨by decide +kernel, rfl⟩
theorem dX5_lateSacks_1 : gw_dc cX5_lateSacks 1 (.istore_n 1) 1 2 := ⟨by decide +kernel, rfl⟩
theorem dX5_lateSacks_2 : gw_dc cX5_lateSacks 2 (.iconst 0) 1 3 := ⟨by decide +kernel, rfl⟩
theorem dX5_lateSacks_3 : gw_dc cX5_lateSacks 3 (.istore_n 2) 1 4 := ⟨by decide +kernel, rfl⟩
theorem dX5_lateSacks_4 : gw_dc cX5_lateSacks 4 (.iload_n 2) 1 5 := ⟨by decide +kernel, rfl⟩
theorem dX5_lateSacks_5 : gw_dc cX5_lateSacks 5 (.aload_n 0) 1 6 := ⟨by decide +kernel, rfl⟩
theorem dX5_lateSacks_6 : gw_dc cX5_lateSacks 6 (.getfield 53) 3 9 := ⟨by decide +kernel, rfl⟩
theorem dX5_lateSacks_9 : gw_dc cX5_lateSacks 9 (.getfield 94) 3 12 := ⟨by decide +kernel, rfl⟩
theorem dX5_lateSacks_12 : gw_dc cX5_lateSacks 12 (.if_icmp .ge 25) 3 15 := ⟨by decide +kernel, rfl⟩
theorem dX5_lateSacks_37 : gw_dc cX5_lateSacks 37 (.iload_n 1) 1 38 := ⟨by decide +kernel, rfl⟩
theorem dX5_lateSacks_38 : decode cX5_lateSacks 38 = .ok (.ireturn, 1) := by decide +kernel
theorem dX5_lateSacks_15 : gw_dc cX5_lateSacks 15 (.iload_n 1) 1 16 := ⟨by decide +kernel, rfl⟩
theorem dX5_lateSacks_16 : gw_dc cX5_lateSacks 16 (.aload_n 0) 1 17 := ⟨by decide +kernel, rfl⟩
theorem dX5_lateSacks_17 : gw_dc cX5_lateSacks 17 (.iload_n 2) 1 18 := ⟨by decide +kernel, rfl⟩
theorem dX5_lateSacks_18 : gw_dc cX5_lateSacks 18 (.invokevirtual 166) 3 21 := ⟨by decide +kernel, rfl⟩
theorem mv_RX5_166 : gw_mv RX5 166 yX5_isLate := ⟨gw_mem 661 (by decide +kernel) rfl, gw_mem 662 (by decide +kernel) rfl, gw_mem 663 (by decide +kernel) rfl⟩
theorem my_X5_isLate : gw_my yX5_isLate cX5_isLate 2 (some .boolean) 1 := ⟨gw_mem 664 (by decide +kernel) rfl, gw_mem 101 (by decide +kernel) rfl, by decide +kernel, by decide⟩
theorem dX5_lateSacks_21 : gw_dc cX5_lateSacks 21 (.ifCond .eq 7) 3 24 := ⟨by decide +kernel, rfl⟩
theorem dX5_lateSacks_28 : gw_dc cX5_lateSacks 28 (.iconst 0) 1 29 := ⟨by decide +kernel, rfl⟩
theorem dX5_lateSacks_29 : gw_dc cX5_lateSacks 29 (.iadd) 1 30 := ⟨by decide +kernel, rfl⟩
theorem dX5_lateSacks_30 : gw_dc cX5_lateSacks 30 (.istore_n 1) 1 31 := ⟨by decide +kernel, rfl⟩
theorem dX5_lateSacks_31 : gw_dc cX5_lateSacks 31 (.iinc 2 1) 3 34 := ⟨by decide +kernel, rfl⟩
theorem dX5_lateSacks_34 : gw_dc cX5_lateSacks 34 (.goto (-30)) 3 37 := ⟨by decide +kernel, rfl⟩
theorem dX5_lateSacks_24 : gw_dc cX5_lateSacks 24 (.iconst 1) 1 25 := ⟨by decide +kernel, rfl⟩
theorem dX5_lateSacks_25 : gw_dc cX5_lateSacks 25 (.goto 4) 3 28 := ⟨by decide +kernel, rfl⟩
theorem dX5_lastEnd_0 : gw_dc cX5_lastEnd 0 (.iconst 0) 1 1 := ⟨by decide +kernel, rfl⟩
theorem dX5_lastEnd_1 : gw_dc cX5_lastEnd 1 (.istore_n 1) 1 2 := ⟨by decide +kernel, rfl⟩
theorem dX5_lastEnd_2 : gw_dc cX5_lastEnd 2 (.iconst 0) 1 3 := ⟨by decide +kernel, rfl⟩
theorem dX5_lastEnd_3 : gw_dc cX5_lastEnd 3 (.istore_n 2) 1 4 := ⟨by decide +kernel, rfl⟩
theorem dX5_lastEnd_4 : gw_dc cX5_lastEnd 4 (.iload_n 2) 1 5 := ⟨by decide +kernel, rfl⟩
theorem dX5_lastEnd_5 : gw_dc cX5_lastEnd 5 (.aload_n 0) 1 6 := ⟨by decide +kernel, rfl⟩
theorem dX5_lastEnd_6 : gw_dc cX5_lastEnd 6 (.getfield 53) 3 9 := ⟨by decide +kernel, rfl⟩
theorem dX5_lastEnd_9 : gw_dc cX5_lastEnd 9 (.getfield 94) 3 12 := ⟨by decide +kernel, rfl⟩
theorem dX5_lastEnd_12 : gw_dc cX5_lastEnd 12 (.if_icmp .ge 22) 3 15 := ⟨by decide +kernel, rfl⟩
theorem dX5_lastEnd_34 : gw_dc cX5_lastEnd 34 (.iload_n 1) 1 35 := ⟨by decide +kernel, rfl⟩
theorem dX5_lastEnd_35 : decode cX5_lastEnd 35 = .ok (.ireturn, 1) := by decide +kernel
theorem dX5_lastEnd_15 : gw_dc cX5_lastEnd 15 (.iload_n 1) 1 16 := ⟨by decide +kernel, rfl⟩
theorem dX5_lastEnd_16 : gw_dc cX5_lastEnd 16 (.aload_n 0) 1 17 := ⟨by decide +kernel, rfl⟩
theorem dX5_lastEnd_17 : gw_dc cX5_lastEnd 17 (.getfield 38) 3 20 := ⟨by decide +kernel, rfl⟩
theorem dX5_lastEnd_20 : gw_dc cX5_lastEnd 20 (.iload_n 2) 1 21 := ⟨by decide +kernel, rfl⟩
theorem dX5_lastEnd_21 : gw_dc cX5_lastEnd 21 (.invokevirtual 72) 3 24 := ⟨by decide +kernel, rfl⟩
theorem dX5_lastEnd_24 : gw_dc cX5_lastEnd 24 (.invokestatic 75) 3 27 := ⟨by decide +kernel, rfl⟩
theorem dX5_lastEnd_27 : gw_dc cX5_lastEnd 27 (.istore_n 1) 1 28 := ⟨by decide +kernel, rfl⟩
theorem dX5_lastEnd_28 : gw_dc cX5_lastEnd 28 (.iinc 2 1) 3 31 := ⟨by decide +kernel, rfl⟩
theorem dX5_lastEnd_31 : gw_dc cX5_lastEnd 31 (.goto (-27)) 3 34 := ⟨by decide +kernel, rfl⟩
theorem dX5_lastEndOf_0 : gw_dc cX5_lastEndOf 0 (.iconst (-1)) 1 1 := ⟨by decide +kernel, rfl⟩
theorem dX5_lastEndOf_1 : gw_dc cX5_lastEndOf 1 (.istore_n 2) 1 2 := ⟨by decide +kernel, rfl⟩
theorem dX5_lastEndOf_2 : gw_dc cX5_lastEndOf 2 (.iconst 0) 1 3 := ⟨by decide +kernel, rfl⟩
theorem dX5_lastEndOf_3 : gw_dc cX5_lastEndOf 3 (.istore_n 3) 1 4 := ⟨by decide +kernel, rfl⟩
theorem dX5_lastEndOf_4 : gw_dc cX5_lastEndOf 4 (.iload_n 3) 1 5 := ⟨by decide +kernel, rfl⟩
theorem dX5_lastEndOf_5 : gw_dc cX5_lastEndOf 5 (.aload_n 0) 1 6 := ⟨by decide +kernel, rfl⟩
theorem dX5_lastEndOf_6 : gw_dc cX5_lastEndOf 6 (.getfield 53) 3 9 := ⟨by decide +kernel, rfl⟩
theorem dX5_lastEndOf_9 : gw_dc cX5_lastEndOf 9 (.getfield 94) 3 12 := ⟨by decide +kernel, rfl⟩
theorem dX5_lastEndOf_12 : gw_dc cX5_lastEndOf 12 (.if_icmp .ge 41) 3 15 := ⟨by decide +kernel, rfl⟩
theorem dX5_lastEndOf_53 : gw_dc cX5_lastEndOf 53 (.iload_n 2) 1 54 := ⟨by decide +kernel, rfl⟩
theorem dX5_lastEndOf_54 : decode cX5_lastEndOf 54 = .ok (.ireturn, 1) := by decide +kernel
theorem dX5_lastEndOf_15 : gw_dc cX5_lastEndOf 15 (.aload_n 0) 1 16 := ⟨by decide +kernel, rfl⟩
theorem dX5_lastEndOf_16 : gw_dc cX5_lastEndOf 16 (.getfield 53) 3 19 := ⟨by decide +kernel, rfl⟩
theorem dX5_lastEndOf_19 : gw_dc cX5_lastEndOf 19 (.getfield 118) 3 22 := ⟨by decide +kernel, rfl⟩
theorem dX5_lastEndOf_22 : gw_dc cX5_lastEndOf 22 (.iload_n 3) 1 23 := ⟨by decide +kernel, rfl⟩
theorem dX5_lastEndOf_23 : gw_dc cX5_lastEndOf 23 (.invokevirtual 72) 3 26 := ⟨by decide +kernel, rfl⟩
theorem dX5_lastEndOf_26 : gw_dc cX5_lastEndOf 26 (.iload_n 1) 1 27 := ⟨by decide +kernel, rfl⟩
theorem dX5_lastEndOf_27 : gw_dc cX5_lastEndOf 27 (.if_icmp .ne 18) 3 30 := ⟨by decide +kernel, rfl⟩
theorem dX5_lastEndOf_45 : gw_dc cX5_lastEndOf 45 (.iload_n 2) 1 46 := ⟨by decide +kernel, rfl⟩
theorem dX5_lastEndOf_46 : gw_dc cX5_lastEndOf 46 (.istore_n 2) 1 47 := ⟨by decide +kernel, rfl⟩
theorem dX5_lastEndOf_47 : gw_dc cX5_lastEndOf 47 (.iinc 3 1) 3 50 := ⟨by decide +kernel, rfl⟩
theorem dX5_lastEndOf_50 : gw_dc cX5_lastEndOf 50 (.goto (-46)) 3 53 := ⟨by decide +kernel, rfl⟩
theorem dX5_lastEndOf_30 : gw_dc cX5_lastEndOf 30 (.iload_n 2) 1 31 := ⟨by decide +kernel, rfl⟩
theorem dX5_lastEndOf_31 : gw_dc cX5_lastEndOf 31 (.aload_n 0) 1 32 := ⟨by decide +kernel, rfl⟩
theorem dX5_lastEndOf_32 : gw_dc cX5_lastEndOf 32 (.getfield 38) 3 35 := ⟨by decide +kernel, rfl⟩
theorem dX5_lastEndOf_35 : gw_dc cX5_lastEndOf 35 (.iload_n 3) 1 36 := ⟨by decide +kernel, rfl⟩
theorem dX5_lastEndOf_36 : gw_dc cX5_lastEndOf 36 (.invokevirtual 72) 3 39 := ⟨by decide +kernel, rfl⟩
theorem dX5_lastEndOf_39 : gw_dc cX5_lastEndOf 39 (.invokestatic 75) 3 42 := ⟨by decide +kernel, rfl⟩
theorem dX5_lastEndOf_42 : gw_dc cX5_lastEndOf 42 (.goto 4) 3 45 := ⟨by decide +kernel, rfl⟩
theorem dX5_isStanding_0 : gw_dc cX5_isStanding 0 (.aload_n 0) 1 1 := ⟨by decide +kernel, rfl⟩
theorem dX5_isStanding_1 : gw_dc cX5_isStanding 1 (.iload_n 1) 1 2 := ⟨by decide +kernel, rfl⟩
theorem dX5_isStanding_2 : gw_dc cX5_isStanding 2 (.invokevirtual 88) 3 5 := ⟨by decide +kernel, rfl⟩
theorem dX5_isStanding_5 : gw_dc cX5_isStanding 5 (.iload_n 2) 1 6 := ⟨by decide +kernel, rfl⟩
theorem dX5_isStanding_6 : gw_dc cX5_isStanding 6 (.if_icmp .gt 19) 3 9 := ⟨by decide +kernel, rfl⟩
theorem dX5_isStanding_25 : gw_dc cX5_isStanding 25 (.iconst 0) 1 26 := ⟨by decide +kernel, rfl⟩
theorem dX5_isStanding_26 : decode cX5_isStanding 26 = .ok (.ireturn, 1) := by decide +kernel
theorem dX5_isStanding_9 : gw_dc cX5_isStanding 9 (.aload_n 0) 1 10 := ⟨by decide +kernel, rfl⟩
theorem dX5_isStanding_10 : gw_dc cX5_isStanding 10 (.getfield 23) 3 13 := ⟨by decide +kernel, rfl⟩
theorem dX5_isStanding_13 : gw_dc cX5_isStanding 13 (.iload_n 1) 1 14 := ⟨by decide +kernel, rfl⟩
theorem dX5_isStanding_14 : gw_dc cX5_isStanding 14 (.invokevirtual 72) 3 17 := ⟨by decide +kernel, rfl⟩
theorem dX5_isStanding_17 : gw_dc cX5_isStanding 17 (.iload_n 2) 1 18 := ⟨by decide +kernel, rfl⟩
theorem dX5_isStanding_18 : gw_dc cX5_isStanding 18 (.if_icmp .le 7) 3 21 := ⟨by decide +kernel, rfl⟩
theorem dX5_isStanding_21 : gw_dc cX5_isStanding 21 (.iconst 1) 1 22 := ⟨by decide +kernel, rfl⟩
theorem dX5_isStanding_22 : gw_dc cX5_isStanding 22 (.goto 4) 3 25 := ⟨by decide +kernel, rfl⟩
theorem dX5_standingPieces_0 : gw_dc cX5_standingPieces 0 (.iconst 0) 1 1 := ⟨by decide +kernel, rfl⟩
theorem dX5_standingPieces_1 : gw_dc cX5_standingPieces 1 (.istore_n 2) 1 2 := ⟨by decide +kernel, rfl⟩
theorem dX5_standingPieces_2 : gw_dc cX5_standingPieces 2 (.iconst 0) 1 3 := ⟨by decide +kernel, rfl⟩
theorem dX5_standingPieces_3 : gw_dc cX5_standingPieces 3 (.istore_n 3) 1 4 := ⟨by decide +kernel, rfl⟩
theorem dX5_standingPieces_4 : gw_dc cX5_standingPieces 4 (.iload_n 3) 1 5 := ⟨by decide +kernel, rfl⟩
theorem dX5_standingPieces_5 : gw_dc cX5_standingPieces 5 (.aload_n 0) 1 6 := ⟨by decide +kernel, rfl⟩
theorem dX5_standingPieces_6 : gw_dc cX5_standingPieces 6 (.getfield 60) 3 9 := ⟨by decide +kernel, rfl⟩
theorem dX5_standingPieces_9 : gw_dc cX5_standingPieces 9 (.if_icmp .ge 26) 3 12 := ⟨by decide +kernel, rfl⟩
theorem dX5_standingPieces_35 : gw_dc cX5_standingPieces 35 (.iload_n 2) 1 36 := ⟨by decide +kernel, rfl⟩
theorem dX5_standingPieces_36 : decode cX5_standingPieces 36 = .ok (.ireturn, 1) := by decide +kernel
theorem dX5_standingPieces_12 : gw_dc cX5_standingPieces 12 (.iload_n 2) 1 13 := ⟨by decide +kernel, rfl⟩
theorem dX5_standingPieces_13 : gw_dc cX5_standingPieces 13 (.aload_n 0) 1 14 := ⟨by decide +kernel, rfl⟩
theorem dX5_standingPieces_14 : gw_dc cX5_standingPieces 14 (.iload_n 3) 1 15 := ⟨by decide +kernel, rfl⟩
theorem dX5_standingPieces_15 : gw_dc cX5_standingPieces 15 (.iload_n 1) 1 16 := ⟨by decide +kernel, rfl⟩
theorem dX5_standingPieces_16 : gw_dc cX5_standingPieces 16 (.invokevirtual 170) 3 19 := ⟨by decide +kernel, rfl⟩
theorem mv_RX5_170 : gw_mv RX5 170 yX5_isStanding := ⟨gw_mem 1132 (by decide +kernel) rfl, gw_mem 1134 (by decide +kernel) rfl, gw_mem 24 (by decide +kernel) rfl⟩
theorem my_X5_isStanding : gw_my yX5_isStanding cX5_isStanding 3 (some .boolean) 2 := ⟨gw_mem 1135 (by decide +kernel) rfl, gw_mem 101 (by decide +kernel) rfl, by decide +kernel, by decide⟩
theorem dX5_standingPieces_19 : gw_dc cX5_standingPieces 19 (.ifCond .eq 7) 3 22 := ⟨by decide +kernel, rfl⟩
theorem dX5_standingPieces_26 : gw_dc cX5_standingPieces 26 (.iconst 0) 1 27 := ⟨by decide +kernel, rfl⟩
theorem dX5_standingPieces_27 : gw_dc cX5_standingPieces 27 (.iadd) 1 28 := ⟨by decide +kernel, rfl⟩
theorem dX5_standingPieces_28 : gw_dc cX5_standingPieces 28 (.istore_n 2) 1 29 := ⟨by decide +kernel, rfl⟩
theorem dX5_standingPieces_29 : gw_dc cX5_standingPieces 29 (.iinc 3 1) 3 32 := ⟨by decide +kernel, rfl⟩
theorem dX5_standingPieces_32 : gw_dc cX5_standingPieces 32 (.goto (-28)) 3 35 := ⟨by decide +kernel, rfl⟩
theorem dX5_standingPieces_22 : gw_dc cX5_standingPieces 22 (.iconst 1) 1 23 := ⟨by decide +kernel, rfl⟩
theorem dX5_standingPieces_23 : gw_dc cX5_standingPieces 23 (.goto 4) 3 26 := ⟨by decide +kernel, rfl⟩
theorem dX5_standingPounds_0 : gw_dc cX5_standingPounds 0 (.iconst 0) 1 1 := ⟨by decide +kernel, rfl⟩
theorem dX5_standingPounds_1 : gw_dc cX5_standingPounds 1 (.istore_n 2) 1 2 := ⟨by decide +kernel, rfl⟩
theorem dX5_standingPounds_2 : gw_dc cX5_standingPounds 2 (.iconst 0) 1 3 := ⟨by decide +kernel, rfl⟩
theorem dX5_standingPounds_3 : gw_dc cX5_standingPounds 3 (.istore_n 3) 1 4 := ⟨by decide +kernel, rfl⟩
theorem dX5_standingPounds_4 : gw_dc cX5_standingPounds 4 (.iload_n 3) 1 5 := ⟨by decide +kernel, rfl⟩
theorem dX5_standingPounds_5 : gw_dc cX5_standingPounds 5 (.aload_n 0) 1 6 := ⟨by decide +kernel, rfl⟩
theorem dX5_standingPounds_6 : gw_dc cX5_standingPounds 6 (.getfield 60) 3 9 := ⟨by decide +kernel, rfl⟩
theorem dX5_standingPounds_9 : gw_dc cX5_standingPounds 9 (.if_icmp .ge 33) 3 12 := ⟨by decide +kernel, rfl⟩
theorem dX5_standingPounds_42 : gw_dc cX5_standingPounds 42 (.iload_n 2) 1 43 := ⟨by decide +kernel, rfl⟩
theorem dX5_standingPounds_43 : decode cX5_standingPounds 43 = .ok (.ireturn, 1) := by decide +kernel
theorem dX5_standingPounds_12 : gw_dc cX5_standingPounds 12 (.iload_n 2) 1 13 := ⟨by decide +kernel, rfl⟩
theorem dX5_standingPounds_13 : gw_dc cX5_standingPounds 13 (.aload_n 0) 1 14 := ⟨by decide +kernel, rfl⟩
theorem dX5_standingPounds_14 : gw_dc cX5_standingPounds 14 (.iload_n 3) 1 15 := ⟨by decide +kernel, rfl⟩
theorem dX5_standingPounds_15 : gw_dc cX5_standingPounds 15 (.iload_n 1) 1 16 := ⟨by decide +kernel, rfl⟩
theorem dX5_standingPounds_16 : gw_dc cX5_standingPounds 16 (.invokevirtual 170) 3 19 := ⟨by decide +kernel, rfl⟩
theorem dX5_standingPounds_19 : gw_dc cX5_standingPounds 19 (.ifCond .eq 14) 3 22 := ⟨by decide +kernel, rfl⟩
theorem dX5_standingPounds_33 : gw_dc cX5_standingPounds 33 (.iconst 0) 1 34 := ⟨by decide +kernel, rfl⟩
theorem dX5_standingPounds_34 : gw_dc cX5_standingPounds 34 (.iadd) 1 35 := ⟨by decide +kernel, rfl⟩
theorem dX5_standingPounds_35 : gw_dc cX5_standingPounds 35 (.istore_n 2) 1 36 := ⟨by decide +kernel, rfl⟩
theorem dX5_standingPounds_36 : gw_dc cX5_standingPounds 36 (.iinc 3 1) 3 39 := ⟨by decide +kernel, rfl⟩
theorem dX5_standingPounds_39 : gw_dc cX5_standingPounds 39 (.goto (-35)) 3 42 := ⟨by decide +kernel, rfl⟩
theorem dX5_standingPounds_22 : gw_dc cX5_standingPounds 22 (.aload_n 0) 1 23 := ⟨by decide +kernel, rfl⟩
theorem dX5_standingPounds_23 : gw_dc cX5_standingPounds 23 (.getfield 20) 3 26 := ⟨by decide +kernel, rfl⟩
theorem dX5_standingPounds_26 : gw_dc cX5_standingPounds 26 (.iload_n 3) 1 27 := ⟨by decide +kernel, rfl⟩
theorem dX5_standingPounds_27 : gw_dc cX5_standingPounds 27 (.invokevirtual 72) 3 30 := ⟨by decide +kernel, rfl⟩
theorem dX5_standingPounds_30 : gw_dc cX5_standingPounds 30 (.goto 4) 3 33 := ⟨by decide +kernel, rfl⟩
theorem dX5_busyStones_0 : gw_dc cX5_busyStones 0 (.iconst 0) 1 1 := ⟨by decide +kernel, rfl⟩
theorem dX5_busyStones_1 : gw_dc cX5_busyStones 1 (.istore_n 2) 1 2 := ⟨by decide +kernel, rfl⟩
theorem dX5_busyStones_2 : gw_dc cX5_busyStones 2 (.iconst 0) 1 3 := ⟨by decide +kernel, rfl⟩
theorem dX5_busyStones_3 : gw_dc cX5_busyStones 3 (.istore_n 3) 1 4 := ⟨by decide +kernel, rfl⟩
theorem dX5_busyStones_4 : gw_dc cX5_busyStones 4 (.iload_n 3) 1 5 := ⟨by decide +kernel, rfl⟩
theorem dX5_busyStones_5 : gw_dc cX5_busyStones 5 (.aload_n 0) 1 6 := ⟨by decide +kernel, rfl⟩
theorem dX5_busyStones_6 : gw_dc cX5_busyStones 6 (.getfield 60) 3 9 := ⟨by decide +kernel, rfl⟩
theorem dX5_busyStones_9 : gw_dc cX5_busyStones 9 (.if_icmp .ge 41) 3 12 := ⟨by decide +kernel, rfl⟩
theorem dX5_busyStones_50 : gw_dc cX5_busyStones 50 (.iload_n 2) 1 51 := ⟨by decide +kernel, rfl⟩
theorem dX5_busyStones_51 : decode cX5_busyStones 51 = .ok (.ireturn, 1) := by decide +kernel
theorem dX5_busyStones_12 : gw_dc cX5_busyStones 12 (.iload_n 2) 1 13 := ⟨by decide +kernel, rfl⟩
theorem dX5_busyStones_13 : gw_dc cX5_busyStones 13 (.aload_n 0) 1 14 := ⟨by decide +kernel, rfl⟩
theorem dX5_busyStones_14 : gw_dc cX5_busyStones 14 (.getfield 23) 3 17 := ⟨by decide +kernel, rfl⟩
theorem dX5_busyStones_17 : gw_dc cX5_busyStones 17 (.iload_n 3) 1 18 := ⟨by decide +kernel, rfl⟩
theorem dX5_busyStones_18 : gw_dc cX5_busyStones 18 (.invokevirtual 72) 3 21 := ⟨by decide +kernel, rfl⟩
theorem dX5_busyStones_21 : gw_dc cX5_busyStones 21 (.iload_n 1) 1 22 := ⟨by decide +kernel, rfl⟩
theorem dX5_busyStones_22 : gw_dc cX5_busyStones 22 (.if_icmp .gt 19) 3 25 := ⟨by decide +kernel, rfl⟩
theorem dX5_busyStones_41 : gw_dc cX5_busyStones 41 (.iconst 0) 1 42 := ⟨by decide +kernel, rfl⟩
theorem dX5_busyStones_42 : gw_dc cX5_busyStones 42 (.iadd) 1 43 := ⟨by decide +kernel, rfl⟩
theorem dX5_busyStones_43 : gw_dc cX5_busyStones 43 (.istore_n 2) 1 44 := ⟨by decide +kernel, rfl⟩
theorem dX5_busyStones_44 : gw_dc cX5_busyStones 44 (.iinc 3 1) 3 47 := ⟨by decide +kernel, rfl⟩
theorem dX5_busyStones_47 : gw_dc cX5_busyStones 47 (.goto (-43)) 3 50 := ⟨by decide +kernel, rfl⟩
theorem dX5_busyStones_25 : gw_dc cX5_busyStones 25 (.aload_n 0) 1 26 := ⟨by decide +kernel, rfl⟩
theorem dX5_busyStones_26 : gw_dc cX5_busyStones 26 (.getfield 29) 3 29 := ⟨by decide +kernel, rfl⟩
theorem dX5_busyStones_29 : gw_dc cX5_busyStones 29 (.iload_n 3) 1 30 := ⟨by decide +kernel, rfl⟩
theorem dX5_busyStones_30 : gw_dc cX5_busyStones 30 (.invokevirtual 72) 3 33 := ⟨by decide +kernel, rfl⟩
theorem dX5_busyStones_33 : gw_dc cX5_busyStones 33 (.iload_n 1) 1 34 := ⟨by decide +kernel, rfl⟩
theorem dX5_busyStones_34 : gw_dc cX5_busyStones 34 (.if_icmp .le 7) 3 37 := ⟨by decide +kernel, rfl⟩
theorem dX5_busyStones_37 : gw_dc cX5_busyStones 37 (.iconst 1) 1 38 := ⟨by decide +kernel, rfl⟩
theorem dX5_busyStones_38 : gw_dc cX5_busyStones 38 (.goto 4) 3 41 := ⟨by decide +kernel, rfl⟩
theorem dX5_openSacks_0 : gw_dc cX5_openSacks 0 (.iconst 0) 1 1 := ⟨by decide +kernel, rfl⟩
theorem dX5_openSacks_1 : gw_dc cX5_openSacks 1 (.istore_n 2) 1 2 := ⟨by decide +kernel, rfl⟩
theorem dX5_openSacks_2 : gw_dc cX5_openSacks 2 (.iconst 0) 1 3 := ⟨by decide +kernel, rfl⟩
theorem dX5_openSacks_3 : gw_dc cX5_openSacks 3 (.istore_n 3) 1 4 := ⟨by decide +kernel, rfl⟩
theorem dX5_openSacks_4 : gw_dc cX5_openSacks 4 (.iload_n 3) 1 5 := ⟨by decide +kernel, rfl⟩
theorem dX5_openSacks_5 : gw_dc cX5_openSacks 5 (.aload_n 0) 1 6 := ⟨by decide +kernel, rfl⟩
theorem dX5_openSacks_6 : gw_dc cX5_openSacks 6 (.getfield 53) 3 9 := ⟨by decide +kernel, rfl⟩
theorem dX5_openSacks_9 : gw_dc cX5_openSacks 9 (.getfield 94) 3 12 := ⟨by decide +kernel, rfl⟩
theorem dX5_openSacks_12 : gw_dc cX5_openSacks 12 (.if_icmp .ge 44) 3 15 := ⟨by decide +kernel, rfl⟩
theorem dX5_openSacks_56 : gw_dc cX5_openSacks 56 (.iload_n 2) 1 57 := ⟨by decide +kernel, rfl⟩
theorem dX5_openSacks_57 : decode cX5_openSacks 57 = .ok (.ireturn, 1) := by decide +kernel
theorem dX5_openSacks_15 : gw_dc cX5_openSacks 15 (.iload_n 2) 1 16 := ⟨by decide +kernel, rfl⟩
theorem dX5_openSacks_16 : gw_dc cX5_openSacks 16 (.aload_n 0) 1 17 := ⟨by decide +kernel, rfl⟩
theorem dX5_openSacks_17 : gw_dc cX5_openSacks 17 (.getfield 53) 3 20 := ⟨by decide +kernel, rfl⟩
theorem dX5_openSacks_20 : gw_dc cX5_openSacks 20 (.getfield 157) 3 23 := ⟨by decide +kernel, rfl⟩
theorem dX5_openSacks_23 : gw_dc cX5_openSacks 23 (.iload_n 3) 1 24 := ⟨by decide +kernel, rfl⟩
theorem dX5_openSacks_24 : gw_dc cX5_openSacks 24 (.invokevirtual 72) 3 27 := ⟨by decide +kernel, rfl⟩
theorem dX5_openSacks_27 : gw_dc cX5_openSacks 27 (.iload_n 1) 1 28 := ⟨by decide +kernel, rfl⟩
theorem dX5_openSacks_28 : gw_dc cX5_openSacks 28 (.if_icmp .gt 19) 3 31 := ⟨by decide +kernel, rfl⟩
theorem dX5_openSacks_47 : gw_dc cX5_openSacks 47 (.iconst 0) 1 48 := ⟨by decide +kernel, rfl⟩
theorem dX5_openSacks_48 : gw_dc cX5_openSacks 48 (.iadd) 1 49 := ⟨by decide +kernel, rfl⟩
theorem dX5_openSacks_49 : gw_dc cX5_openSacks 49 (.istore_n 2) 1 50 := ⟨by decide +kernel, rfl⟩
theorem dX5_openSacks_50 : gw_dc cX5_openSacks 50 (.iinc 3 1) 3 53 := ⟨by decide +kernel, rfl⟩
theorem dX5_openSacks_53 : gw_dc cX5_openSacks 53 (.goto (-49)) 3 56 := ⟨by decide +kernel, rfl⟩
theorem dX5_openSacks_31 : gw_dc cX5_openSacks 31 (.aload_n 0) 1 32 := ⟨by decide +kernel, rfl⟩
theorem dX5_openSacks_32 : gw_dc cX5_openSacks 32 (.getfield 38) 3 35 := ⟨by decide +kernel, rfl⟩
theorem dX5_openSacks_35 : gw_dc cX5_openSacks 35 (.iload_n 3) 1 36 := ⟨by decide +kernel, rfl⟩
theorem dX5_openSacks_36 : gw_dc cX5_openSacks 36 (.invokevirtual 72) 3 39 := ⟨by decide +kernel, rfl⟩
theorem dX5_openSacks_39 : gw_dc cX5_openSacks 39 (.iload_n 1) 1 40 := ⟨by decide +kernel, rfl⟩
theorem dX5_openSacks_40 : gw_dc cX5_openSacks 40 (.if_icmp .le 7) 3 43 := ⟨by decide +kernel, rfl⟩
theorem dX5_openSacks_43 : gw_dc cX5_openSacks 43 (.iconst 1) 1 44 := ⟨by decide +kernel, rfl⟩
theorem dX5_openSacks_44 : gw_dc cX5_openSacks 44 (.goto 4) 3 47 := ⟨by decide +kernel, rfl⟩
/-! Run (the world's cells of a run r of the mill m: r its fields, r + 2 sackOf, r + 4 pounds, r + 6 taken, r + 8 ground, r + 10 done, r + 12 stoneOf, r + 14 begins, r + 16 ends, r + 18 dues, r + 20 free, r + 22 lastSort, r + 24 turns) -/
theorem run_lt : ∀ q ∈ gw_runs, q.2 + 22 ≤ q.1 := by decide +kernel
def off (lo hi : Nat) (σ σ' : Sg) : Prop := ∀ a, (a < lo ∨ hi ≤ a) → ∀ j, σ' a j = σ a j
theorem off.rf (lo hi : Nat) (σ : Sg) : off lo hi σ σ := fun _ _ _ => rfl
theorem off.trans {lo hi : Nat} {σ σ' σ'' : Sg} (h : off lo hi σ σ') (k : off lo hi σ' σ'') : off lo hi σ σ'' := fun a ha j => (k a ha j).trans (h a ha j)
theorem rPut_ne {σ : Sg} {c n a j : Nat} {i v : Int} (h : a ≠ c) : rPut σ c n i v a j = σ a j := by
  unfold rPut; split
  · exact su_ne σ v (Or.inl h)
  · rfl
theorem off.put {lo hi : Nat} {σ σ' : Sg} (h : off lo hi σ σ') {c n : Nat} {i v : Int} (hc : lo ≤ c ∧ c < hi) : off lo hi σ (rPut σ' c n i v) := fun a ha j => (rPut_ne (by omega)).trans (h a ha j)
theorem off.su {lo hi : Nat} {σ σ' : Sg} (h : off lo hi σ σ') {c k : Nat} {v : Int} (hc : lo ≤ c ∧ c < hi) : off lo hi σ (su σ' c k v) := fun a ha j => (su_ne σ' v (Or.inl (by omega))).trans (h a ha j)
theorem rFill_ne {σ : Sg} {c k a j : Nat} {v : Int} (h : a ≠ c) : rFill σ c k v a j = σ a j := by simp [rFill, h]
theorem off.fill {lo hi : Nat} {σ σ' : Sg} (h : off lo hi σ σ') {c k : Nat} {v : Int} (hc : lo ≤ c ∧ c < hi) : off lo hi σ (rFill σ' c k v) := fun a ha j => (rFill_ne (by omega)).trans (h a ha j)
theorem off.itr {lo hi : Nat} {σ σ' : Sg} (h : off lo hi σ σ') {f : Nat → Sg → Sg} (hf : ∀ k x, off lo hi x (f k x)) (n : Nat) : off lo hi σ (itr n f σ') := by
  induction n with
  | zero => exact h
  | succ n ih => exact ih.trans (hf n _)
theorem rAt_cg {σ σ' : Sg} {c n : Nat} {i : Int} (h : ∀ j, σ' c j = σ c j) : rAt σ' c n i = rAt σ c n i := by unfold rAt; rw [h]
theorem off.at {lo hi : Nat} {σ σ' : Sg} (h : off lo hi σ σ') {c n : Nat} {i : Int} (hc : c < lo ∨ hi ≤ c) : rAt σ' c n i = rAt σ c n i := rAt_cg (h c hc)
def uCome (σ : Sg) (r m : Nat) (p : Int) : Int := rAt σ (m + 11) 60 (rAt σ (r + 2) 60 p)
def lyI (r m : Nat) (s : Int) (i : Nat) (σ : Sg) : Sg :=
  let σ1 := rPut σ (r + 2) 60 (σ r 1) s
  let σ2 := rPut σ1 (r + 4) 60 (σ1 r 1) (mCut σ1 m s i)
  su σ2 r 1 (wr (σ2 r 1 + 1))
def lyD (σ : Sg) (r m : Nat) (s : Int) : Sg := rPut σ (r + 18) 60 s (if rAt σ (m + 17) 60 s = -1 then 1000 else rAt σ (m + 17) 60 s)
def lyS (r m : Nat) (s : Nat) (σ : Sg) : Sg := itr (rAt σ (m + 19) 60 s).toNat (lyI r m s) (lyD σ r m s)
def ly0 (σ : Sg) (r : Nat) : Sg := su (su σ r 1 0) r 2 0
/-- all pieces are there, and nothing is begun -/
def ly (σ : Sg) (r m : Nat) : Sg := rFill (rFill (rFill (rFill (rFill (itr (σ m 5).toNat (lyS r m) (ly0 σ r)) (r + 6) 60 (-1)) (r + 16) 60 0) (r + 20) 3 0) (r + 22) 3 (-1)) (r + 24) 8 0
theorem lyI_off {r m : Nat} (s : Int) (i : Nat) (σ : Sg) : off r (r + 25) σ (lyI r m s i σ) := by
  unfold lyI; exact (((off.rf _ _ _).put (by omega)).put (by omega)).su (by omega)
theorem lyD_off {r m : Nat} (s : Int) (σ : Sg) : off r (r + 25) σ (lyD σ r m s) := by
  unfold lyD; exact (off.rf _ _ _).put (by omega)
theorem lyS_off {r m : Nat} (s : Nat) (σ : Sg) : off r (r + 25) σ (lyS r m s σ) := by
  unfold lyS; exact (lyD_off s σ).itr (fun k x => lyI_off s k x) _
theorem ly0_off {r : Nat} (σ : Sg) : off r (r + 25) σ (ly0 σ r) := ((off.rf _ _ _).su (by omega)).su (by omega)
theorem ly_off {r m : Nat} (σ : Sg) : off r (r + 25) σ (ly σ r m) := by
  unfold ly; exact ((((((ly0_off σ).itr (fun k x => lyS_off k x) _).fill (by omega)).fill (by omega)).fill (by omega)).fill (by omega)).fill (by omega)
def fcS (σ : Sg) (r m : Nat) (p : Nat) (c : Int) : Int := if rAt σ (r + 6) 60 p = -1 then min c (uCome σ r m p) else c
def fcF (σ : Sg) (r m : Nat) : Int := itr (σ r 1).toNat (fcS σ r m) 1000000000
def fsS (σ : Sg) (r : Nat) (come : Int) (k : Nat) (f : Int) : Int := if max (rAt σ (r + 20) 3 ((k : Nat) + 1)) come < max (rAt σ (r + 20) 3 f) come then (k : Nat) + 1 else f
def fsF (σ : Sg) (r m : Nat) (come : Int) : Int := itr (σ m 2 - 1).toNat (fsS σ r come) 0
def mg (σ : Sg) (r m : Nat) (key p q st : Int) : Int :=
  let s := rAt σ (r + 2) 60 p
  let t := rAt σ (r + 2) 60 q
  let small := σ (m + 1) 2
  let last := rAt σ (r + 22) 3 st
  if key = 0 then wr (max (rAt σ (r + 4) 60 q) small - max (rAt σ (r + 4) 60 p) small)
  else if key = 1 then wr (max (rAt σ (r + 4) 60 p) small - max (rAt σ (r + 4) 60 q) small)
  else if key = 2 then wr (rAt σ (m + 11) 60 t - rAt σ (m + 11) 60 s)
  else if key = 3 then wr (rAt σ (m + 11) 60 s - rAt σ (m + 11) 60 t)
  else if key = 4 then wr (wr (rAt σ (m + 15) 60 s * rAt σ (r + 4) 60 q) - wr (rAt σ (m + 15) 60 t * rAt σ (r + 4) 60 p))
  else if key = 5 then wr (rAt σ (r + 18) 60 t - rAt σ (r + 18) 60 s)
  else if key = 6 then wr (rAt σ (r + 24) 8 (rAt σ (m + 9) 60 t) - rAt σ (r + 24) 8 (rAt σ (m + 9) 60 s))
  else if key = 7 then wr ((if rAt σ (m + 13) 60 s = last then 1 else 0) - if rAt σ (m + 13) 60 t = last then 1 else 0)
  else 0
/-- the first of n places from i on at which f isn't 0: i + 1, below 0 where f is -/
def ldR (f : Nat → Int) : Nat → Nat → Int
  | 0, _ => 0
  | n + 1, i => if f i ≠ 0 then (if 0 < f i then wr ((i : Nat) + 1) else wr (wr (-(i : Nat)) - 1)) else ldR f n (i + 1)
def ldF (σ : Sg) (r m : Nat) (p q st : Int) (i : Nat) : Int := mg σ r m (rAt σ (m + 3) 8 i) p q st
def ld (σ : Sg) (r m : Nat) (p q st : Int) : Int := ldR (ldF σ r m p q st) (σ (m + 1) 1).toNat 0
def sdS (σ : Sg) (r m : Nat) (st minute : Int) (p : Nat) (f : Int) : Int := if rAt σ (r + 6) 60 p = -1 ∧ uCome σ r m p ≤ minute ∧ (f = -1 ∨ 0 < ld σ r m p f st) then (p : Nat) else f
def sdF (σ : Sg) (r m : Nat) (st minute : Int) : Int := itr (σ r 1).toNat (sdS σ r m st minute) (-1)
def bg (σ : Sg) (r m : Nat) (k p st mi : Int) : Sg :=
  let s := rAt σ (r + 2) 60 p
  let sort := rAt σ (m + 13) 60 s
  let person := rAt σ (m + 9) 60 s
  let last := rAt σ (r + 22) 3 st
  let cl := if last = -1 ∨ last = sort then 0 else σ m 3
  let e := wr (wr (mi + cl) + wr (rAt σ (m + 5) 3 st * rAt σ (r + 4) 60 p))
  let σ1 := rPut σ (r + 14) 60 k p
  let σ2 := rPut σ1 (r + 6) 60 p mi
  let σ3 := rPut σ2 (r + 8) 60 p (wr (mi + cl))
  let σ4 := rPut σ3 (r + 10) 60 p e
  let σ5 := rPut σ4 (r + 12) 60 p st
  let σ6 := rPut σ5 (r + 16) 60 s (max (rAt σ5 (r + 16) 60 s) e)
  let σ7 := rPut σ6 (r + 20) 3 st e
  let σ8 := rPut σ7 (r + 22) 3 st sort
  let σ9 := rPut σ8 (r + 24) 8 person (wr (rAt σ8 (r + 24) 8 person + 1))
  su σ9 r 2 (wr (σ9 r 2 + cl))
theorem bg_off {r m : Nat} (σ : Sg) (k p st mi : Int) : off r (r + 25) σ (bg σ r m k p st mi) := by
  unfold bg; exact ((((((((((off.rf _ _ _).put (by omega)).put (by omega)).put (by omega)).put (by omega)).put (by omega)).put (by omega)).put (by omega)).put (by omega)).put (by omega)).su (by omega)
theorem bg_1 {r m : Nat} (σ : Sg) (k p st mi : Int) : bg σ r m k p st mi r 1 = σ r 1 := by
  unfold bg
  rw [su_ne _ _ (Or.inr (by decide)), rPut_ne (by omega), rPut_ne (by omega), rPut_ne (by omega), rPut_ne (by omega), rPut_ne (by omega), rPut_ne (by omega), rPut_ne (by omega), rPut_ne (by omega), rPut_ne (by omega)]
def goS (r m : Nat) (k : Nat) (σ : Sg) : Sg := bg σ r m k (sdF σ r m (fsF σ r m (fcF σ r m)) (max (rAt σ (r + 20) 3 (fsF σ r m (fcF σ r m))) (fcF σ r m))) (fsF σ r m (fcF σ r m)) (max (rAt σ (r + 20) 3 (fsF σ r m (fcF σ r m))) (fcF σ r m))
def go (σ : Sg) (r m : Nat) : Sg := itr (ly σ r m r 1).toNat (goS r m) (ly σ r m)
def flS (r m w n : Nat) (k : Nat) (σ : Sg) : Sg := bg σ r m k (rAt σ w n k) 0 (max (rAt σ (r + 20) 3 0) (uCome σ r m (rAt σ w n k)))
def fl (σ : Sg) (r m w n : Nat) : Sg := itr (ly σ r m r 1).toNat (flS r m w n) (ly σ r m)
theorem goS_1 {r m : Nat} (k : Nat) (σ : Sg) : (itr k (goS r m) σ) r 1 = σ r 1 := by
  induction k with
  | zero => rfl
  | succ k ih => rw [itr_s, goS, bg_1]; exact ih
theorem flS_1 {r m w n : Nat} (k : Nat) (σ : Sg) : (itr k (flS r m w n) σ) r 1 = σ r 1 := by
  induction k with
  | zero => rfl
  | succ k ih => rw [itr_s, flS, bg_1]; exact ih
theorem go_off {r m : Nat} (σ : Sg) : off r (r + 25) σ (go σ r m) := (ly_off σ).itr (fun k x => by unfold goS; exact bg_off _ _ _ _ _) _
theorem fl_off {r m w n : Nat} (σ : Sg) : off r (r + 25) σ (fl σ r m w n) := (ly_off σ).itr (fun k x => by unfold flS; exact bg_off _ _ _ _ _) _
def uPB (σ : Sg) (r : Nat) (k : Int) : Int := if 0 ≤ k ∧ k < σ r 1 then rAt σ (r + 14) 60 k else -1
def ioS (σ : Sg) (r w n : Nat) (k : Nat) (b : Int) : Int := if b = 0 then 0 else if rAt σ (r + 14) 60 k = rAt σ w n k then 1 else 0
def ioF (σ : Sg) (r w n : Nat) : Int := itr (σ r 1).toNat (ioS σ r w n) 1
theorem ioS_0 (σ : Sg) (r w n : Nat) : ∀ k j, itr k (ioS σ r w n) 1 = 0 → itr (k + j) (ioS σ r w n) 1 = 0 := by
  intro k j h
  induction j with
  | zero => exact h
  | succ j ih => rw [← Nat.add_assoc, itr_s, ioS, if_pos ih]
theorem ioS_b (σ : Sg) (r w n : Nat) : ∀ k, itr k (ioS σ r w n) 1 = 0 ∨ itr k (ioS σ r w n) 1 = 1 := by
  intro k
  induction k with
  | zero => exact Or.inr rfl
  | succ k ih => rw [itr_s, ioS]; split; exact Or.inl rfl; split; exact Or.inr rfl; exact Or.inl rfl
def uW (σ : Sg) (r m : Nat) (s : Int) : Int := wr (rAt σ (r + 16) 60 s - rAt σ (m + 11) 60 s)
def uLate (σ : Sg) (r m : Nat) (s : Int) : Int := if rAt σ (m + 17) 60 s < rAt σ (r + 16) 60 s ∧ rAt σ (m + 17) 60 s ≠ -1 then 1 else 0
def coS (σ : Sg) (r m : Nat) (s : Nat) (c : Int) : Int := wr (c + wr (rAt σ (m + 15) 60 s * uW σ r m s))
def coF (σ : Sg) (r m : Nat) : Int := itr (σ m 5).toNat (coS σ r m) 0
def awS (σ : Sg) (r m : Nat) (s : Nat) (c : Int) : Int := wr (c + uW σ r m s)
def awF (σ : Sg) (r m : Nat) : Int := itr (σ m 5).toNat (awS σ r m) 0
def lsS (σ : Sg) (r m : Nat) (s : Nat) (c : Int) : Int := wr (c + if uLate σ r m s = 0 then 0 else 1)
def lsF (σ : Sg) (r m : Nat) : Int := itr (σ m 5).toNat (lsS σ r m) 0
def leS (σ : Sg) (r : Nat) (s : Nat) (c : Int) : Int := max c (rAt σ (r + 16) 60 s)
def leF (σ : Sg) (r m : Nat) : Int := itr (σ m 5).toNat (leS σ r) 0
def loS (σ : Sg) (r m : Nat) (person : Int) (s : Nat) (c : Int) : Int := if rAt σ (m + 9) 60 s = person then max c (rAt σ (r + 16) 60 s) else c
def loF (σ : Sg) (r m : Nat) (person : Int) : Int := itr (σ m 5).toNat (loS σ r m person) (-1)
def uSt (σ : Sg) (r m : Nat) (p minute : Int) : Int := if uCome σ r m p ≤ minute ∧ minute < rAt σ (r + 6) 60 p then 1 else 0
def spS (σ : Sg) (r m : Nat) (minute : Int) (p : Nat) (c : Int) : Int := wr (c + if uSt σ r m p minute = 0 then 0 else 1)
def spF (σ : Sg) (r m : Nat) (minute : Int) : Int := itr (σ r 1).toNat (spS σ r m minute) 0
def swS (σ : Sg) (r m : Nat) (minute : Int) (p : Nat) (c : Int) : Int := wr (c + if uSt σ r m p minute = 0 then 0 else rAt σ (r + 4) 60 p)
def swF (σ : Sg) (r m : Nat) (minute : Int) : Int := itr (σ r 1).toNat (swS σ r m minute) 0
def bsS (σ : Sg) (r : Nat) (minute : Int) (p : Nat) (c : Int) : Int := wr (c + if rAt σ (r + 6) 60 p ≤ minute ∧ minute < rAt σ (r + 10) 60 p then 1 else 0)
def bsF (σ : Sg) (r : Nat) (minute : Int) : Int := itr (σ r 1).toNat (bsS σ r minute) 0
def osS (σ : Sg) (r m : Nat) (minute : Int) (s : Nat) (c : Int) : Int := wr (c + if rAt σ (m + 11) 60 s ≤ minute ∧ minute < rAt σ (r + 16) 60 s then 1 else 0)
def osF (σ : Sg) (r m : Nat) (minute : Int) : Int := itr (σ m 5).toNat (osS σ r m minute) 0
set_option maxRecDepth 4000 in
theorem s_X5_comeOf (ad : Nat → Nat) (σ : Sg) {r m : Nat} (hr : (r, m) ∈ gw_runs) (p : Int) : gw_Sp yX5_comeOf cX5_comeOf 2 (some .int) 2 0 0 [vR (some r), vI p] (gw_M0 ad) σ (gw_D (some (vI (uCome σ r m p))) (gw_M0 ad) (σ)) gw_no := by
  refine gw_Sp.of [some (vR (some r)), some (vI p)] (by decide +kernel) rfl (Nat.le_of_ble_eq_true rfl) ?_
  intro X G fx het hnm
  refine g_aload_n fx dX5_comeOf_0 rfl ?_
  refine g_getr fx dX5_comeOf_1 fk_RX5_53 (run_O hr) (run_f0 hr) ?_
  refine g_getr fx dX5_comeOf_4 fk_RX5_157 (mill_O (run_h0 hr)) (mill_f10 (run_h0 hr)) ?_
  refine g_aload_n fx dX5_comeOf_7 rfl ?_
  refine g_getr fx dX5_comeOf_8 fk_RX5_14 (run_O hr) (run_f3 hr) ?_
  refine g_iload_n fx dX5_comeOf_11 rfl ?_
  refine g_callVD fx dX5_comeOf_12 mv_RX5_72 my_X4_at (s_X4_atC ad _ (run_h3 hr) (show (r + 1) + 1 = (r + 2) from rfl) _) (row_O (run_h3 hr)) rfl rfl rfl (Nat.le_of_ble_eq_true rfl) (by decide) (by decide) ?_
  refine g_callVD fx dX5_comeOf_15 mv_RX5_72 my_X4_at (s_X4_atC ad _ (mill_h10 (run_h0 hr)) (show (m + 10) + 1 = (m + 11) from rfl) _) (row_O (mill_h10 (run_h0 hr))) rfl rfl rfl (Nat.le_of_ble_eq_true rfl) (by decide) (by decide) ?_
  exact g_iret fx rfl dX5_comeOf_18 (by decide) (by decide) (gw_le.rf _) ⟨rfl, rfl, rfl⟩
set_option maxRecDepth 4000 in
theorem s_X5_firstComing (ad : Nat → Nat) (σ : Sg) {r m : Nat} (hr : (r, m) ∈ gw_runs) : gw_Sp yX5_firstComing cX5_firstComing 3 (some .int) 3 0 0 [vR (some r)] (gw_M0 ad) σ (gw_D (some (vI (fcF σ r m))) (gw_M0 ad) (σ)) gw_no := by
  refine gw_Sp.of [some (vR (some r)), none, none] (by decide +kernel) rfl (Nat.le_of_ble_eq_true rfl) ?_
  intro X G fx het hnm
  refine g_okS (fun hok => ?_)
  have hq1 := gw_okO 1 hok (run_O hr) (by decide)
  unfold okI at hq1
  refine g_ldcI fx dX5_firstComing_0 kc_RX5_127 (by unfold okI; omega) ?_
  refine g_istore_n fx dX5_firstComing_2 (by decide) rfl rfl ?_
  refine g_iconst fx dX5_firstComing_3 (by unfold okI; omega) ?_
  refine g_istore_n fx dX5_firstComing_4 (by decide) rfl rfl ?_
  have loop5 : ∀ k : Nat, k ≤ (σ r 1).toNat → gw_W X (yX5_firstComing.cls, cX5_firstComing, 3, (some .int), 3, 0, 0) G (gw_Z X G (gw_M0 ad) σ (gw_D (some (vI (fcF σ r m))) (gw_M0 ad) (σ)) gw_no 0 0) 0 0 (gw_M0 ad) (σ) 5 [some (vR (some r)), some (vI (itr k (fcS σ r m) 1000000000)), some (vI (k : Nat))] [] := by
    refine up_ind _ ((σ r 1).toNat) (fun k hk ih => ?_)
    refine g_iload_n fx dX5_firstComing_5 rfl ?_
    refine g_aload_n fx dX5_firstComing_6 rfl ?_
    refine g_geti fx dX5_firstComing_7 fk_RX5_60 (by decide) (run_O hr) ?_
    refine g_icmp_ge (tgt := 41) fx dX5_firstComing_10 (by decide) (fun h10 => ?_) (fun h10 => ?_)
    · refine g_iload_n fx dX5_firstComing_41 rfl ?_
      exact g_iret fx rfl dX5_firstComing_42 (by decide) (by decide) (gw_le.rf _) ⟨by rw [fcF, show k = (σ r 1).toNat by omega], rfl, rfl⟩
    · refine g_aload_n fx dX5_firstComing_13 rfl ?_
      refine g_getr fx dX5_firstComing_14 fk_RX5_23 (run_O hr) (run_f5 hr) ?_
      refine g_iload_n fx dX5_firstComing_17 rfl ?_
      refine g_callVD fx dX5_firstComing_18 mv_RX5_72 my_X4_at (s_X4_atC ad _ (run_h5 hr) (show (r + 5) + 1 = (r + 6) from rfl) _) (row_O (run_h5 hr)) rfl rfl rfl (Nat.le_of_ble_eq_true rfl) (by decide) (by decide) ?_
      refine g_iconst fx dX5_firstComing_21 (by unfold okI; omega) ?_
      refine g_icmp_ne (tgt := 35) fx dX5_firstComing_22 (by decide) (fun h22 => ?_) (fun h22 => ?_)
      · refine g_iinc1 fx dX5_firstComing_35 (by decide) rfl rfl (by unfold okI; omega) rfl ?_
        refine g_goto (tgt := 5) fx dX5_firstComing_38 (by decide) ?_
        exact gw_cg rfl (by rw [itr_s, fcS]; (repeat first | rw [if_pos (by omega)] | rw [if_neg (by omega)]); rfl) (ih (by omega))
      · refine g_iload_n fx dX5_firstComing_25 rfl ?_
        refine g_aload_n fx dX5_firstComing_26 rfl ?_
        refine g_iload_n fx dX5_firstComing_27 rfl ?_
        refine g_callVD fx dX5_firstComing_28 mv_RX5_88 my_X5_comeOf (s_X5_comeOf ad _ hr _) (run_O hr) rfl rfl rfl (Nat.le_of_ble_eq_true rfl) (by decide) (by decide) ?_
        refine g_min fx dX5_firstComing_31 mm_RX5_128 (by decide) (by decide) (by decide) (Nat.le_of_ble_eq_true rfl) ?_
        refine g_istore_n fx dX5_firstComing_34 (by decide) rfl rfl ?_
        refine g_iinc1 fx dX5_firstComing_35 (by decide) rfl rfl (by unfold okI; omega) rfl ?_
        refine g_goto (tgt := 5) fx dX5_firstComing_38 (by decide) ?_
        exact gw_cg rfl (by rw [itr_s, fcS]; (repeat first | rw [if_pos (by omega)] | rw [if_neg (by omega)]); rfl) (ih (by omega))
  exact loop5 0 (Nat.zero_le _)
set_option maxRecDepth 4000 in
theorem s_X5_firstStone (ad : Nat → Nat) (σ : Sg) {r m : Nat} (hr : (r, m) ∈ gw_runs) (come : Int) : gw_Sp yX5_firstStone cX5_firstStone 4 (some .int) 2 0 0 [vR (some r), vI come] (gw_M0 ad) σ (gw_D (some (vI (fsF σ r m come))) (gw_M0 ad) (σ)) gw_no := by
  refine gw_Sp.of [some (vR (some r)), some (vI come), none, none] (by decide +kernel) rfl (Nat.le_of_ble_eq_true rfl) ?_
  intro X G fx het hnm
  refine g_okS (fun hok => ?_)
  have hq2 := gw_okO 2 hok (mill_O (run_h0 hr)) (by decide)
  unfold okI at hq2
  refine g_iconst fx dX5_firstStone_0 (by unfold okI; omega) ?_
  refine g_istore_n fx dX5_firstStone_1 (by decide) rfl rfl ?_
  refine g_iconst fx dX5_firstStone_2 (by unfold okI; omega) ?_
  refine g_istore_n fx dX5_firstStone_3 (by decide) rfl rfl ?_
  have loop4 : ∀ k : Nat, k ≤ (σ m 2 - 1).toNat → gw_W X (yX5_firstStone.cls, cX5_firstStone, 4, (some .int), 2, 0, 0) G (gw_Z X G (gw_M0 ad) σ (gw_D (some (vI (fsF σ r m come))) (gw_M0 ad) (σ)) gw_no 0 0) 0 0 (gw_M0 ad) (σ) 4 [some (vR (some r)), some (vI come), some (vI (itr k (fsS σ r come) 0)), some (vI ((k : Nat) + 1))] [] := by
    refine up_ind _ ((σ m 2 - 1).toNat) (fun k hk ih => ?_)
    refine g_iload_n fx dX5_firstStone_4 rfl ?_
    refine g_aload_n fx dX5_firstStone_5 rfl ?_
    refine g_getr fx dX5_firstStone_6 fk_RX5_53 (run_O hr) (run_f0 hr) ?_
    refine g_geti fx dX5_firstStone_9 fk_RX5_131 (by decide) (mill_O (run_h0 hr)) ?_
    refine g_icmp_ge (tgt := 50) fx dX5_firstStone_12 (by decide) (fun h12 => ?_) (fun h12 => ?_)
    · refine g_iload_n fx dX5_firstStone_50 rfl ?_
      exact g_iret fx rfl dX5_firstStone_51 (by decide) (by decide) (gw_le.rf _) ⟨by rw [fsF, show k = (σ m 2 - 1).toNat by omega], rfl, rfl⟩
    · refine g_aload_n fx dX5_firstStone_15 rfl ?_
      refine g_getr fx dX5_firstStone_16 fk_RX5_44 (run_O hr) (run_f12 hr) ?_
      refine g_iload_n fx dX5_firstStone_19 rfl ?_
      refine g_callVD fx dX5_firstStone_20 mv_RX5_72 my_X4_at (s_X4_atC ad _ (run_h12 hr) (show (r + 19) + 1 = (r + 20) from rfl) _) (row_O (run_h12 hr)) rfl rfl rfl (Nat.le_of_ble_eq_true rfl) (by decide) (by decide) ?_
      refine g_iload_n fx dX5_firstStone_23 rfl ?_
      refine g_max fx dX5_firstStone_24 mm_RX5_75 (by decide) (by decide) (by decide) (Nat.le_of_ble_eq_true rfl) ?_
      refine g_aload_n fx dX5_firstStone_27 rfl ?_
      refine g_getr fx dX5_firstStone_28 fk_RX5_44 (run_O hr) (run_f12 hr) ?_
      refine g_iload_n fx dX5_firstStone_31 rfl ?_
      refine g_callVD fx dX5_firstStone_32 mv_RX5_72 my_X4_at (s_X4_atC ad _ (run_h12 hr) (show (r + 19) + 1 = (r + 20) from rfl) _) (row_O (run_h12 hr)) rfl rfl rfl (Nat.le_of_ble_eq_true rfl) (by decide) (by decide) ?_
      refine g_iload_n fx dX5_firstStone_35 rfl ?_
      refine g_max fx dX5_firstStone_36 mm_RX5_75 (by decide) (by decide) (by decide) (Nat.le_of_ble_eq_true rfl) ?_
      refine g_icmp_ge (tgt := 44) fx dX5_firstStone_39 (by decide) (fun h39 => ?_) (fun h39 => ?_)
      · refine g_iinc1 fx dX5_firstStone_44 (by decide) rfl rfl (by unfold okI; omega) rfl ?_
        refine g_goto (tgt := 4) fx dX5_firstStone_47 (by decide) ?_
        exact gw_cg rfl (by rw [itr_s, fsS]; (repeat first | rw [if_pos (by omega)] | rw [if_neg (by omega)]); rfl) (ih (by omega))
      · refine g_iload_n fx dX5_firstStone_42 rfl ?_
        refine g_istore_n fx dX5_firstStone_43 (by decide) rfl rfl ?_
        refine g_iinc1 fx dX5_firstStone_44 (by decide) rfl rfl (by unfold okI; omega) rfl ?_
        refine g_goto (tgt := 4) fx dX5_firstStone_47 (by decide) ?_
        exact gw_cg rfl (by rw [itr_s, fsS]; (repeat first | rw [if_pos (by omega)] | rw [if_neg (by omega)]); rfl) (ih (by omega))
  exact loop4 0 (Nat.zero_le _)
set_option maxRecDepth 4000 in
theorem s_X5_margin (ad : Nat → Nat) (σ : Sg) {r m : Nat} (hr : (r, m) ∈ gw_runs) (key : Int) (p : Int) (q : Int) (st : Int) : gw_Sp yX5_margin cX5_margin 9 (some .int) 2 0 0 [vR (some r), vI key, vI p, vI q, vI st] (gw_M0 ad) σ (gw_D (some (vI (mg σ r m key p q st))) (gw_M0 ad) (σ)) gw_no := by
  refine gw_Sp.of [some (vR (some r)), some (vI key), some (vI p), some (vI q), some (vI st), none, none, none, none] (by decide +kernel) rfl (Nat.le_of_ble_eq_true rfl) ?_
  intro X G fx het hnm
  refine g_aload_n fx dX5_margin_0 rfl ?_
  refine g_getr fx dX5_margin_1 fk_RX5_14 (run_O hr) (run_f3 hr) ?_
  refine g_iload_n fx dX5_margin_4 rfl ?_
  refine g_callVD fx dX5_margin_5 mv_RX5_72 my_X4_at (s_X4_atC ad _ (run_h3 hr) (show (r + 1) + 1 = (r + 2) from rfl) _) (row_O (run_h3 hr)) rfl rfl rfl (Nat.le_of_ble_eq_true rfl) (by decide) (by decide) ?_
  refine g_istore fx dX5_margin_8 (by decide) rfl rfl ?_
  refine g_aload_n fx dX5_margin_10 rfl ?_
  refine g_getr fx dX5_margin_11 fk_RX5_14 (run_O hr) (run_f3 hr) ?_
  refine g_iload_n fx dX5_margin_14 rfl ?_
  refine g_callVD fx dX5_margin_15 mv_RX5_72 my_X4_at (s_X4_atC ad _ (run_h3 hr) (show (r + 1) + 1 = (r + 2) from rfl) _) (row_O (run_h3 hr)) rfl rfl rfl (Nat.le_of_ble_eq_true rfl) (by decide) (by decide) ?_
  refine g_istore fx dX5_margin_18 (by decide) rfl rfl ?_
  refine g_aload_n fx dX5_margin_20 rfl ?_
  refine g_getr fx dX5_margin_21 fk_RX5_53 (run_O hr) (run_f0 hr) ?_
  refine g_getr fx dX5_margin_24 fk_RX5_138 (mill_O (run_h0 hr)) (mill_f0 (run_h0 hr)) ?_
  refine g_geti fx dX5_margin_27 fk_RX5_154 (by decide) (law_O (mill_h0 (run_h0 hr))) ?_
  refine g_istore fx dX5_margin_30 (by decide) rfl rfl ?_
  refine g_aload_n fx dX5_margin_32 rfl ?_
  refine g_getr fx dX5_margin_33 fk_RX5_47 (run_O hr) (run_f13 hr) ?_
  refine g_iload fx dX5_margin_36 rfl ?_
  refine g_callVD fx dX5_margin_38 mv_RX5_72 my_X4_at (s_X4_atC ad _ (run_h13 hr) (show (r + 21) + 1 = (r + 22) from rfl) _) (row_O (run_h13 hr)) rfl rfl rfl (Nat.le_of_ble_eq_true rfl) (by decide) (by decide) ?_
  refine g_istore fx dX5_margin_41 (by decide) rfl rfl ?_
  refine g_iload_n fx dX5_margin_43 rfl ?_
  by_cases h44_0 : key = 0
  · refine g_tsw 0 (tgt := 92) fx dX5_margin_44 (by omega) (by decide) rfl (by decide) ?_
    refine g_aload_n fx dX5_margin_92 rfl ?_
    refine g_getr fx dX5_margin_93 fk_RX5_20 (run_O hr) (run_f4 hr) ?_
    refine g_iload_n fx dX5_margin_96 rfl ?_
    refine g_callVD fx dX5_margin_97 mv_RX5_72 my_X4_at (s_X4_atC ad _ (run_h4 hr) (show (r + 3) + 1 = (r + 4) from rfl) _) (row_O (run_h4 hr)) rfl rfl rfl (Nat.le_of_ble_eq_true rfl) (by decide) (by decide) ?_
    refine g_iload fx dX5_margin_100 rfl ?_
    refine g_max fx dX5_margin_102 mm_RX5_75 (by decide) (by decide) (by decide) (Nat.le_of_ble_eq_true rfl) ?_
    refine g_aload_n fx dX5_margin_105 rfl ?_
    refine g_getr fx dX5_margin_106 fk_RX5_20 (run_O hr) (run_f4 hr) ?_
    refine g_iload_n fx dX5_margin_109 rfl ?_
    refine g_callVD fx dX5_margin_110 mv_RX5_72 my_X4_at (s_X4_atC ad _ (run_h4 hr) (show (r + 3) + 1 = (r + 4) from rfl) _) (row_O (run_h4 hr)) rfl rfl rfl (Nat.le_of_ble_eq_true rfl) (by decide) (by decide) ?_
    refine g_iload fx dX5_margin_113 rfl ?_
    refine g_max fx dX5_margin_115 mm_RX5_75 (by decide) (by decide) (by decide) (Nat.le_of_ble_eq_true rfl) ?_
    refine g_isub fx dX5_margin_118 ?_
    exact g_iret fx rfl dX5_margin_119 (by decide) (by decide) (gw_le.rf _) ⟨by rw [mg]; (try dsimp only); (repeat first | rw [if_pos (by omega)] | rw [if_neg (by omega)]) <;> rfl, rfl, rfl⟩
  by_cases h44_1 : key = 1
  · refine g_tsw 1 (tgt := 120) fx dX5_margin_44 (by omega) (by decide) rfl (by decide) ?_
    refine g_aload_n fx dX5_margin_120 rfl ?_
    refine g_getr fx dX5_margin_121 fk_RX5_20 (run_O hr) (run_f4 hr) ?_
    refine g_iload_n fx dX5_margin_124 rfl ?_
    refine g_callVD fx dX5_margin_125 mv_RX5_72 my_X4_at (s_X4_atC ad _ (run_h4 hr) (show (r + 3) + 1 = (r + 4) from rfl) _) (row_O (run_h4 hr)) rfl rfl rfl (Nat.le_of_ble_eq_true rfl) (by decide) (by decide) ?_
    refine g_iload fx dX5_margin_128 rfl ?_
    refine g_max fx dX5_margin_130 mm_RX5_75 (by decide) (by decide) (by decide) (Nat.le_of_ble_eq_true rfl) ?_
    refine g_aload_n fx dX5_margin_133 rfl ?_
    refine g_getr fx dX5_margin_134 fk_RX5_20 (run_O hr) (run_f4 hr) ?_
    refine g_iload_n fx dX5_margin_137 rfl ?_
    refine g_callVD fx dX5_margin_138 mv_RX5_72 my_X4_at (s_X4_atC ad _ (run_h4 hr) (show (r + 3) + 1 = (r + 4) from rfl) _) (row_O (run_h4 hr)) rfl rfl rfl (Nat.le_of_ble_eq_true rfl) (by decide) (by decide) ?_
    refine g_iload fx dX5_margin_141 rfl ?_
    refine g_max fx dX5_margin_143 mm_RX5_75 (by decide) (by decide) (by decide) (Nat.le_of_ble_eq_true rfl) ?_
    refine g_isub fx dX5_margin_146 ?_
    exact g_iret fx rfl dX5_margin_147 (by decide) (by decide) (gw_le.rf _) ⟨by rw [mg]; (try dsimp only); (repeat first | rw [if_pos (by omega)] | rw [if_neg (by omega)]) <;> rfl, rfl, rfl⟩
  by_cases h44_2 : key = 2
  · refine g_tsw 2 (tgt := 148) fx dX5_margin_44 (by omega) (by decide) rfl (by decide) ?_
    refine g_aload_n fx dX5_margin_148 rfl ?_
    refine g_getr fx dX5_margin_149 fk_RX5_53 (run_O hr) (run_f0 hr) ?_
    refine g_getr fx dX5_margin_152 fk_RX5_157 (mill_O (run_h0 hr)) (mill_f10 (run_h0 hr)) ?_
    refine g_iload fx dX5_margin_155 rfl ?_
    refine g_callVD fx dX5_margin_157 mv_RX5_72 my_X4_at (s_X4_atC ad _ (mill_h10 (run_h0 hr)) (show (m + 10) + 1 = (m + 11) from rfl) _) (row_O (mill_h10 (run_h0 hr))) rfl rfl rfl (Nat.le_of_ble_eq_true rfl) (by decide) (by decide) ?_
    refine g_aload_n fx dX5_margin_160 rfl ?_
    refine g_getr fx dX5_margin_161 fk_RX5_53 (run_O hr) (run_f0 hr) ?_
    refine g_getr fx dX5_margin_164 fk_RX5_157 (mill_O (run_h0 hr)) (mill_f10 (run_h0 hr)) ?_
    refine g_iload fx dX5_margin_167 rfl ?_
    refine g_callVD fx dX5_margin_169 mv_RX5_72 my_X4_at (s_X4_atC ad _ (mill_h10 (run_h0 hr)) (show (m + 10) + 1 = (m + 11) from rfl) _) (row_O (mill_h10 (run_h0 hr))) rfl rfl rfl (Nat.le_of_ble_eq_true rfl) (by decide) (by decide) ?_
    refine g_isub fx dX5_margin_172 ?_
    exact g_iret fx rfl dX5_margin_173 (by decide) (by decide) (gw_le.rf _) ⟨by rw [mg]; (try dsimp only); (repeat first | rw [if_pos (by omega)] | rw [if_neg (by omega)]) <;> rfl, rfl, rfl⟩
  by_cases h44_3 : key = 3
  · refine g_tsw 3 (tgt := 174) fx dX5_margin_44 (by omega) (by decide) rfl (by decide) ?_
    refine g_aload_n fx dX5_margin_174 rfl ?_
    refine g_getr fx dX5_margin_175 fk_RX5_53 (run_O hr) (run_f0 hr) ?_
    refine g_getr fx dX5_margin_178 fk_RX5_157 (mill_O (run_h0 hr)) (mill_f10 (run_h0 hr)) ?_
    refine g_iload fx dX5_margin_181 rfl ?_
    refine g_callVD fx dX5_margin_183 mv_RX5_72 my_X4_at (s_X4_atC ad _ (mill_h10 (run_h0 hr)) (show (m + 10) + 1 = (m + 11) from rfl) _) (row_O (mill_h10 (run_h0 hr))) rfl rfl rfl (Nat.le_of_ble_eq_true rfl) (by decide) (by decide) ?_
    refine g_aload_n fx dX5_margin_186 rfl ?_
    refine g_getr fx dX5_margin_187 fk_RX5_53 (run_O hr) (run_f0 hr) ?_
    refine g_getr fx dX5_margin_190 fk_RX5_157 (mill_O (run_h0 hr)) (mill_f10 (run_h0 hr)) ?_
    refine g_iload fx dX5_margin_193 rfl ?_
    refine g_callVD fx dX5_margin_195 mv_RX5_72 my_X4_at (s_X4_atC ad _ (mill_h10 (run_h0 hr)) (show (m + 10) + 1 = (m + 11) from rfl) _) (row_O (mill_h10 (run_h0 hr))) rfl rfl rfl (Nat.le_of_ble_eq_true rfl) (by decide) (by decide) ?_
    refine g_isub fx dX5_margin_198 ?_
    exact g_iret fx rfl dX5_margin_199 (by decide) (by decide) (gw_le.rf _) ⟨by rw [mg]; (try dsimp only); (repeat first | rw [if_pos (by omega)] | rw [if_neg (by omega)]) <;> rfl, rfl, rfl⟩
  by_cases h44_4 : key = 4
  · refine g_tsw 4 (tgt := 200) fx dX5_margin_44 (by omega) (by decide) rfl (by decide) ?_
    refine g_aload_n fx dX5_margin_200 rfl ?_
    refine g_getr fx dX5_margin_201 fk_RX5_53 (run_O hr) (run_f0 hr) ?_
    refine g_getr fx dX5_margin_204 fk_RX5_160 (mill_O (run_h0 hr)) (mill_f12 (run_h0 hr)) ?_
    refine g_iload fx dX5_margin_207 rfl ?_
    refine g_callVD fx dX5_margin_209 mv_RX5_72 my_X4_at (s_X4_atC ad _ (mill_h12 (run_h0 hr)) (show (m + 14) + 1 = (m + 15) from rfl) _) (row_O (mill_h12 (run_h0 hr))) rfl rfl rfl (Nat.le_of_ble_eq_true rfl) (by decide) (by decide) ?_
    refine g_aload_n fx dX5_margin_212 rfl ?_
    refine g_getr fx dX5_margin_213 fk_RX5_20 (run_O hr) (run_f4 hr) ?_
    refine g_iload_n fx dX5_margin_216 rfl ?_
    refine g_callVD fx dX5_margin_217 mv_RX5_72 my_X4_at (s_X4_atC ad _ (run_h4 hr) (show (r + 3) + 1 = (r + 4) from rfl) _) (row_O (run_h4 hr)) rfl rfl rfl (Nat.le_of_ble_eq_true rfl) (by decide) (by decide) ?_
    refine g_imul fx dX5_margin_220 ?_
    refine g_aload_n fx dX5_margin_221 rfl ?_
    refine g_getr fx dX5_margin_222 fk_RX5_53 (run_O hr) (run_f0 hr) ?_
    refine g_getr fx dX5_margin_225 fk_RX5_160 (mill_O (run_h0 hr)) (mill_f12 (run_h0 hr)) ?_
    refine g_iload fx dX5_margin_228 rfl ?_
    refine g_callVD fx dX5_margin_230 mv_RX5_72 my_X4_at (s_X4_atC ad _ (mill_h12 (run_h0 hr)) (show (m + 14) + 1 = (m + 15) from rfl) _) (row_O (mill_h12 (run_h0 hr))) rfl rfl rfl (Nat.le_of_ble_eq_true rfl) (by decide) (by decide) ?_
    refine g_aload_n fx dX5_margin_233 rfl ?_
    refine g_getr fx dX5_margin_234 fk_RX5_20 (run_O hr) (run_f4 hr) ?_
    refine g_iload_n fx dX5_margin_237 rfl ?_
    refine g_callVD fx dX5_margin_238 mv_RX5_72 my_X4_at (s_X4_atC ad _ (run_h4 hr) (show (r + 3) + 1 = (r + 4) from rfl) _) (row_O (run_h4 hr)) rfl rfl rfl (Nat.le_of_ble_eq_true rfl) (by decide) (by decide) ?_
    refine g_imul fx dX5_margin_241 ?_
    refine g_isub fx dX5_margin_242 ?_
    exact g_iret fx rfl dX5_margin_243 (by decide) (by decide) (gw_le.rf _) ⟨by rw [mg]; (try dsimp only); (repeat first | rw [if_pos (by omega)] | rw [if_neg (by omega)]) <;> rfl, rfl, rfl⟩
  by_cases h44_5 : key = 5
  · refine g_tsw 5 (tgt := 244) fx dX5_margin_44 (by omega) (by decide) rfl (by decide) ?_
    refine g_aload_n fx dX5_margin_244 rfl ?_
    refine g_getr fx dX5_margin_245 fk_RX5_41 (run_O hr) (run_f11 hr) ?_
    refine g_iload fx dX5_margin_248 rfl ?_
    refine g_callVD fx dX5_margin_250 mv_RX5_72 my_X4_at (s_X4_atC ad _ (run_h11 hr) (show (r + 17) + 1 = (r + 18) from rfl) _) (row_O (run_h11 hr)) rfl rfl rfl (Nat.le_of_ble_eq_true rfl) (by decide) (by decide) ?_
    refine g_aload_n fx dX5_margin_253 rfl ?_
    refine g_getr fx dX5_margin_254 fk_RX5_41 (run_O hr) (run_f11 hr) ?_
    refine g_iload fx dX5_margin_257 rfl ?_
    refine g_callVD fx dX5_margin_259 mv_RX5_72 my_X4_at (s_X4_atC ad _ (run_h11 hr) (show (r + 17) + 1 = (r + 18) from rfl) _) (row_O (run_h11 hr)) rfl rfl rfl (Nat.le_of_ble_eq_true rfl) (by decide) (by decide) ?_
    refine g_isub fx dX5_margin_262 ?_
    exact g_iret fx rfl dX5_margin_263 (by decide) (by decide) (gw_le.rf _) ⟨by rw [mg]; (try dsimp only); (repeat first | rw [if_pos (by omega)] | rw [if_neg (by omega)]) <;> rfl, rfl, rfl⟩
  by_cases h44_6 : key = 6
  · refine g_tsw 6 (tgt := 264) fx dX5_margin_44 (by omega) (by decide) rfl (by decide) ?_
    refine g_aload_n fx dX5_margin_264 rfl ?_
    refine g_getr fx dX5_margin_265 fk_RX5_50 (run_O hr) (run_f14 hr) ?_
    refine g_aload_n fx dX5_margin_268 rfl ?_
    refine g_getr fx dX5_margin_269 fk_RX5_53 (run_O hr) (run_f0 hr) ?_
    refine g_getr fx dX5_margin_272 fk_RX5_118 (mill_O (run_h0 hr)) (mill_f9 (run_h0 hr)) ?_
    refine g_iload fx dX5_margin_275 rfl ?_
    refine g_callVD fx dX5_margin_277 mv_RX5_72 my_X4_at (s_X4_atC ad _ (mill_h9 (run_h0 hr)) (show (m + 8) + 1 = (m + 9) from rfl) _) (row_O (mill_h9 (run_h0 hr))) rfl rfl rfl (Nat.le_of_ble_eq_true rfl) (by decide) (by decide) ?_
    refine g_callVD fx dX5_margin_280 mv_RX5_72 my_X4_at (s_X4_atC ad _ (run_h14 hr) (show (r + 23) + 1 = (r + 24) from rfl) _) (row_O (run_h14 hr)) rfl rfl rfl (Nat.le_of_ble_eq_true rfl) (by decide) (by decide) ?_
    refine g_aload_n fx dX5_margin_283 rfl ?_
    refine g_getr fx dX5_margin_284 fk_RX5_50 (run_O hr) (run_f14 hr) ?_
    refine g_aload_n fx dX5_margin_287 rfl ?_
    refine g_getr fx dX5_margin_288 fk_RX5_53 (run_O hr) (run_f0 hr) ?_
    refine g_getr fx dX5_margin_291 fk_RX5_118 (mill_O (run_h0 hr)) (mill_f9 (run_h0 hr)) ?_
    refine g_iload fx dX5_margin_294 rfl ?_
    refine g_callVD fx dX5_margin_296 mv_RX5_72 my_X4_at (s_X4_atC ad _ (mill_h9 (run_h0 hr)) (show (m + 8) + 1 = (m + 9) from rfl) _) (row_O (mill_h9 (run_h0 hr))) rfl rfl rfl (Nat.le_of_ble_eq_true rfl) (by decide) (by decide) ?_
    refine g_callVD fx dX5_margin_299 mv_RX5_72 my_X4_at (s_X4_atC ad _ (run_h14 hr) (show (r + 23) + 1 = (r + 24) from rfl) _) (row_O (run_h14 hr)) rfl rfl rfl (Nat.le_of_ble_eq_true rfl) (by decide) (by decide) ?_
    refine g_isub fx dX5_margin_302 ?_
    exact g_iret fx rfl dX5_margin_303 (by decide) (by decide) (gw_le.rf _) ⟨by rw [mg]; (try dsimp only); (repeat first | rw [if_pos (by omega)] | rw [if_neg (by omega)]) <;> rfl, rfl, rfl⟩
  by_cases h44_7 : key = 7
  · refine g_tsw 7 (tgt := 304) fx dX5_margin_44 (by omega) (by decide) rfl (by decide) ?_
    refine g_aload_n fx dX5_margin_304 rfl ?_
    refine g_getr fx dX5_margin_305 fk_RX5_53 (run_O hr) (run_f0 hr) ?_
    refine g_getr fx dX5_margin_308 fk_RX5_115 (mill_O (run_h0 hr)) (mill_f11 (run_h0 hr)) ?_
    refine g_iload fx dX5_margin_311 rfl ?_
    refine g_callVD fx dX5_margin_313 mv_RX5_72 my_X4_at (s_X4_atC ad _ (mill_h11 (run_h0 hr)) (show (m + 12) + 1 = (m + 13) from rfl) _) (row_O (mill_h11 (run_h0 hr))) rfl rfl rfl (Nat.le_of_ble_eq_true rfl) (by decide) (by decide) ?_
    refine g_iload fx dX5_margin_316 rfl ?_
    refine g_icmp_ne (tgt := 325) fx dX5_margin_318 (by decide) (fun h318 => ?_) (fun h318 => ?_)
    · refine g_iconst fx dX5_margin_325 (by unfold okI; omega) ?_
      refine g_aload_n fx dX5_margin_326 rfl ?_
      refine g_getr fx dX5_margin_327 fk_RX5_53 (run_O hr) (run_f0 hr) ?_
      refine g_getr fx dX5_margin_330 fk_RX5_115 (mill_O (run_h0 hr)) (mill_f11 (run_h0 hr)) ?_
      refine g_iload fx dX5_margin_333 rfl ?_
      refine g_callVD fx dX5_margin_335 mv_RX5_72 my_X4_at (s_X4_atC ad _ (mill_h11 (run_h0 hr)) (show (m + 12) + 1 = (m + 13) from rfl) _) (row_O (mill_h11 (run_h0 hr))) rfl rfl rfl (Nat.le_of_ble_eq_true rfl) (by decide) (by decide) ?_
      refine g_iload fx dX5_margin_338 rfl ?_
      refine g_icmp_ne (tgt := 347) fx dX5_margin_340 (by decide) (fun h340 => ?_) (fun h340 => ?_)
      · refine g_iconst fx dX5_margin_347 (by unfold okI; omega) ?_
        refine g_isub fx dX5_margin_348 ?_
        exact g_iret fx rfl dX5_margin_349 (by decide) (by decide) (gw_le.rf _) ⟨by rw [mg]; (try dsimp only); (repeat first | rw [if_pos (by omega)] | rw [if_neg (by omega)]) <;> rfl, rfl, rfl⟩
      · refine g_iconst fx dX5_margin_343 (by unfold okI; omega) ?_
        refine g_goto (tgt := 348) fx dX5_margin_344 (by decide) ?_
        refine g_isub fx dX5_margin_348 ?_
        exact g_iret fx rfl dX5_margin_349 (by decide) (by decide) (gw_le.rf _) ⟨by rw [mg]; (try dsimp only); (repeat first | rw [if_pos (by omega)] | rw [if_neg (by omega)]) <;> rfl, rfl, rfl⟩
    · refine g_iconst fx dX5_margin_321 (by unfold okI; omega) ?_
      refine g_goto (tgt := 326) fx dX5_margin_322 (by decide) ?_
      refine g_aload_n fx dX5_margin_326 rfl ?_
      refine g_getr fx dX5_margin_327 fk_RX5_53 (run_O hr) (run_f0 hr) ?_
      refine g_getr fx dX5_margin_330 fk_RX5_115 (mill_O (run_h0 hr)) (mill_f11 (run_h0 hr)) ?_
      refine g_iload fx dX5_margin_333 rfl ?_
      refine g_callVD fx dX5_margin_335 mv_RX5_72 my_X4_at (s_X4_atC ad _ (mill_h11 (run_h0 hr)) (show (m + 12) + 1 = (m + 13) from rfl) _) (row_O (mill_h11 (run_h0 hr))) rfl rfl rfl (Nat.le_of_ble_eq_true rfl) (by decide) (by decide) ?_
      refine g_iload fx dX5_margin_338 rfl ?_
      refine g_icmp_ne (tgt := 347) fx dX5_margin_340 (by decide) (fun h340 => ?_) (fun h340 => ?_)
      · refine g_iconst fx dX5_margin_347 (by unfold okI; omega) ?_
        refine g_isub fx dX5_margin_348 ?_
        exact g_iret fx rfl dX5_margin_349 (by decide) (by decide) (gw_le.rf _) ⟨by rw [mg]; (try dsimp only); (repeat first | rw [if_pos (by omega)] | rw [if_neg (by omega)]) <;> rfl, rfl, rfl⟩
      · refine g_iconst fx dX5_margin_343 (by unfold okI; omega) ?_
        refine g_goto (tgt := 348) fx dX5_margin_344 (by decide) ?_
        refine g_isub fx dX5_margin_348 ?_
        exact g_iret fx rfl dX5_margin_349 (by decide) (by decide) (gw_le.rf _) ⟨by rw [mg]; (try dsimp only); (repeat first | rw [if_pos (by omega)] | rw [if_neg (by omega)]) <;> rfl, rfl, rfl⟩
  refine g_tswO (tgt := 350) fx dX5_margin_44 (by omega) (by decide) ?_
  refine g_iconst fx dX5_margin_350 (by unfold okI; omega) ?_
  exact g_iret fx rfl dX5_margin_351 (by decide) (by decide) (gw_le.rf _) ⟨by rw [mg]; (try dsimp only); (repeat first | rw [if_pos (by omega)] | rw [if_neg (by omega)]) <;> rfl, rfl, rfl⟩
set_option maxRecDepth 4000 in
theorem s_X5_lead (ad : Nat → Nat) (σ : Sg) {r m : Nat} (hr : (r, m) ∈ gw_runs) (p : Int) (q : Int) (st : Int) : gw_Sp yX5_lead cX5_lead 6 (some .int) 3 0 0 [vR (some r), vI p, vI q, vI st] (gw_M0 ad) σ (gw_D (some (vI (ld σ r m p q st))) (gw_M0 ad) (σ)) gw_no := by
  refine gw_Sp.of [some (vR (some r)), some (vI p), some (vI q), some (vI st), none, none] (by decide +kernel) rfl (Nat.le_of_ble_eq_true rfl) ?_
  intro X G fx het hnm
  refine g_okS (fun hok => ?_)
  have hq1 := gw_okO 1 hok (law_O (mill_h0 (run_h0 hr))) (by decide)
  unfold okI at hq1
  refine g_iconst fx dX5_lead_0 (by unfold okI; omega) ?_
  refine g_istore fx dX5_lead_1 (by decide) rfl rfl ?_
  have loop3 : ∀ k : Nat, k ≤ (σ (m + 1) 1).toNat → ld σ r m p q st = ldR (ldF σ r m p q st) ((σ (m + 1) 1).toNat - k) k → gw_W X (yX5_lead.cls, cX5_lead, 6, (some .int), 3, 0, 0) G (gw_Z X G (gw_M0 ad) σ (gw_D (some (vI (ld σ r m p q st))) (gw_M0 ad) (σ)) gw_no 0 0) 0 0 (gw_M0 ad) (σ) 3 [some (vR (some r)), some (vI p), some (vI q), some (vI st), some (vI (k : Nat)), none] [] := by
    refine up_ind _ (σ (m + 1) 1).toNat (fun k hk ih => ?_)
    intro he
    refine g_iload fx dX5_lead_3 rfl ?_
    refine g_aload_n fx dX5_lead_5 rfl ?_
    refine g_getr fx dX5_lead_6 fk_RX5_53 (run_O hr) (run_f0 hr) ?_
    refine g_getr fx dX5_lead_9 fk_RX5_138 (mill_O (run_h0 hr)) (mill_f0 (run_h0 hr)) ?_
    refine g_geti fx dX5_lead_12 fk_RX5_142 (by decide) (law_O (mill_h0 (run_h0 hr))) ?_
    refine g_icmp_ge (tgt := 71) fx dX5_lead_15 (by decide) (fun h15 => ?_) (fun h15 => ?_)
    · refine g_iconst fx dX5_lead_71 (by unfold okI; omega) ?_
      exact g_iret fx rfl dX5_lead_72 (by decide) (by decide) (gw_le.rf _) ⟨by rw [he, show (σ (m + 1) 1).toNat - k = 0 by omega]; rfl, rfl, rfl⟩
    · refine g_aload_n fx dX5_lead_18 rfl ?_
      refine g_aload_n fx dX5_lead_19 rfl ?_
      refine g_getr fx dX5_lead_20 fk_RX5_53 (run_O hr) (run_f0 hr) ?_
      refine g_getr fx dX5_lead_23 fk_RX5_138 (mill_O (run_h0 hr)) (mill_f0 (run_h0 hr)) ?_
      refine g_getr fx dX5_lead_26 fk_RX5_147 (law_O (mill_h0 (run_h0 hr))) (law_f (mill_h0 (run_h0 hr))) ?_
      refine g_iload fx dX5_lead_29 rfl ?_
      refine g_callVD fx dX5_lead_31 mv_RX5_72 my_X4_at (s_X4_atC ad _ (law_h (mill_h0 (run_h0 hr))) (show (m + 2) + 1 = (m + 3) from rfl) _) (row_O (law_h (mill_h0 (run_h0 hr)))) rfl rfl rfl (Nat.le_of_ble_eq_true rfl) (by decide) (by decide) ?_
      refine g_iload_n fx dX5_lead_34 rfl ?_
      refine g_iload_n fx dX5_lead_35 rfl ?_
      refine g_iload_n fx dX5_lead_36 rfl ?_
      refine g_callVD fx dX5_lead_37 mv_RX5_150 my_X5_margin (s_X5_margin ad _ hr _ _ _ _) (run_O hr) rfl rfl rfl (Nat.le_of_ble_eq_true rfl) (by decide) (by decide) ?_
      refine g_istore fx dX5_lead_40 (by decide) rfl rfl ?_
      refine g_iload fx dX5_lead_42 rfl ?_
      refine g_if_eq (tgt := 65) fx dX5_lead_44 (by decide) (fun h44 => ?_) (fun h44 => ?_)
      · refine g_iinc1 fx dX5_lead_65 (by decide) rfl rfl (by unfold okI; omega) rfl ?_
        refine g_goto (tgt := 3) fx dX5_lead_68 (by decide) ?_
        have e2 : ld σ r m p q st = ldR (ldF σ r m p q st) ((σ (m + 1) 1).toNat - (k + 1)) (k + 1) := by
          rw [he, show (σ (m + 1) 1).toNat - k = (σ (m + 1) 1).toNat - (k + 1) + 1 by omega, ldR, if_neg (by intro hz; exact hz h44)]
        refine g_kill 5 rfl ?_
        exact ih (by omega) e2
      · refine g_iload fx dX5_lead_47 rfl ?_
        refine g_if_le (tgt := 59) fx dX5_lead_49 (by decide) (fun h49 => ?_) (fun h49 => ?_)
        · refine g_iload fx dX5_lead_59 rfl ?_
          refine g_ineg fx dX5_lead_61 ?_
          refine g_iconst fx dX5_lead_62 (by unfold okI; omega) ?_
          refine g_isub fx dX5_lead_63 ?_
          exact g_iret fx rfl dX5_lead_64 (by decide) (by decide) (gw_le.rf _) ⟨by rw [he, show (σ (m + 1) 1).toNat - k = (σ (m + 1) 1).toNat - (k + 1) + 1 by omega, ldR, if_pos (show ldF σ r m p q st k ≠ 0 from h44)]; (first | rw [if_pos (show 0 < ldF σ r m p q st k from h49)] | rw [if_neg (by rw [ldF]; omega)]), rfl, rfl⟩
        · refine g_iload fx dX5_lead_52 rfl ?_
          refine g_iconst fx dX5_lead_54 (by unfold okI; omega) ?_
          refine g_iadd fx dX5_lead_55 ?_
          refine g_goto (tgt := 64) fx dX5_lead_56 (by decide) ?_
          exact g_iret fx rfl dX5_lead_64 (by decide) (by decide) (gw_le.rf _) ⟨by rw [he, show (σ (m + 1) 1).toNat - k = (σ (m + 1) 1).toNat - (k + 1) + 1 by omega, ldR, if_pos (show ldF σ r m p q st k ≠ 0 from h44)]; (first | rw [if_pos (show 0 < ldF σ r m p q st k from h49)] | rw [if_neg (by rw [ldF]; omega)]), rfl, rfl⟩
  exact loop3 0 (Nat.zero_le _) rfl
set_option maxRecDepth 4000 in
theorem s_X5_firstStanding (ad : Nat → Nat) (σ : Sg) {r m : Nat} (hr : (r, m) ∈ gw_runs) (st : Int) (minute : Int) : gw_Sp yX5_firstStanding cX5_firstStanding 5 (some .int) 4 0 0 [vR (some r), vI st, vI minute] (gw_M0 ad) σ (gw_D (some (vI (sdF σ r m st minute))) (gw_M0 ad) (σ)) gw_no := by
  refine gw_Sp.of [some (vR (some r)), some (vI st), some (vI minute), none, none] (by decide +kernel) rfl (Nat.le_of_ble_eq_true rfl) ?_
  intro X G fx het hnm
  refine g_okS (fun hok => ?_)
  have hq1 := gw_okO 1 hok (run_O hr) (by decide)
  unfold okI at hq1
  refine g_iconst fx dX5_firstStanding_0 (by unfold okI; omega) ?_
  refine g_istore_n fx dX5_firstStanding_1 (by decide) rfl rfl ?_
  refine g_iconst fx dX5_firstStanding_2 (by unfold okI; omega) ?_
  refine g_istore fx dX5_firstStanding_3 (by decide) rfl rfl ?_
  have loop5 : ∀ k : Nat, k ≤ (σ r 1).toNat → gw_W X (yX5_firstStanding.cls, cX5_firstStanding, 5, (some .int), 4, 0, 0) G (gw_Z X G (gw_M0 ad) σ (gw_D (some (vI (sdF σ r m st minute))) (gw_M0 ad) (σ)) gw_no 0 0) 0 0 (gw_M0 ad) (σ) 5 [some (vR (some r)), some (vI st), some (vI minute), some (vI (itr k (sdS σ r m st minute) (-1))), some (vI (k : Nat))] [] := by
    refine up_ind _ ((σ r 1).toNat) (fun k hk ih => ?_)
    refine g_iload fx dX5_firstStanding_5 rfl ?_
    refine g_aload_n fx dX5_firstStanding_7 rfl ?_
    refine g_geti fx dX5_firstStanding_8 fk_RX5_60 (by decide) (run_O hr) ?_
    refine g_icmp_ge (tgt := 62) fx dX5_firstStanding_11 (by decide) (fun h11 => ?_) (fun h11 => ?_)
    · refine g_iload_n fx dX5_firstStanding_62 rfl ?_
      exact g_iret fx rfl dX5_firstStanding_63 (by decide) (by decide) (gw_le.rf _) ⟨by rw [sdF, show k = (σ r 1).toNat by omega], rfl, rfl⟩
    · refine g_aload_n fx dX5_firstStanding_14 rfl ?_
      refine g_getr fx dX5_firstStanding_15 fk_RX5_23 (run_O hr) (run_f5 hr) ?_
      refine g_iload fx dX5_firstStanding_18 rfl ?_
      refine g_callVD fx dX5_firstStanding_20 mv_RX5_72 my_X4_at (s_X4_atC ad _ (run_h5 hr) (show (r + 5) + 1 = (r + 6) from rfl) _) (row_O (run_h5 hr)) rfl rfl rfl (Nat.le_of_ble_eq_true rfl) (by decide) (by decide) ?_
      refine g_iconst fx dX5_firstStanding_23 (by unfold okI; omega) ?_
      refine g_icmp_ne (tgt := 56) fx dX5_firstStanding_24 (by decide) (fun h24 => ?_) (fun h24 => ?_)
      · refine g_iinc1 fx dX5_firstStanding_56 (by decide) rfl rfl (by unfold okI; omega) rfl ?_
        refine g_goto (tgt := 5) fx dX5_firstStanding_59 (by decide) ?_
        exact gw_cg rfl (by rw [itr_s, sdS]; (repeat first | rw [if_pos (by omega)] | rw [if_neg (by omega)]); rfl) (ih (by omega))
      · refine g_aload_n fx dX5_firstStanding_27 rfl ?_
        refine g_iload fx dX5_firstStanding_28 rfl ?_
        refine g_callVD fx dX5_firstStanding_30 mv_RX5_88 my_X5_comeOf (s_X5_comeOf ad _ hr _) (run_O hr) rfl rfl rfl (Nat.le_of_ble_eq_true rfl) (by decide) (by decide) ?_
        refine g_iload_n fx dX5_firstStanding_33 rfl ?_
        refine g_icmp_gt (tgt := 56) fx dX5_firstStanding_34 (by decide) (fun h34 => ?_) (fun h34 => ?_)
        · refine g_iinc1 fx dX5_firstStanding_56 (by decide) rfl rfl (by unfold okI; omega) rfl ?_
          refine g_goto (tgt := 5) fx dX5_firstStanding_59 (by decide) ?_
          exact gw_cg rfl (by rw [itr_s, sdS]; (repeat first | rw [if_pos (by omega)] | rw [if_neg (by omega)]); rfl) (ih (by omega))
        · refine g_iload_n fx dX5_firstStanding_37 rfl ?_
          refine g_iconst fx dX5_firstStanding_38 (by unfold okI; omega) ?_
          refine g_icmp_eq (tgt := 53) fx dX5_firstStanding_39 (by decide) (fun h39 => ?_) (fun h39 => ?_)
          · refine g_iload fx dX5_firstStanding_53 rfl ?_
            refine g_istore_n fx dX5_firstStanding_55 (by decide) rfl rfl ?_
            refine g_iinc1 fx dX5_firstStanding_56 (by decide) rfl rfl (by unfold okI; omega) rfl ?_
            refine g_goto (tgt := 5) fx dX5_firstStanding_59 (by decide) ?_
            exact gw_cg rfl (by rw [itr_s, sdS]; (repeat first | rw [if_pos (by omega)] | rw [if_neg (by omega)]); rfl) (ih (by omega))
          · refine g_aload_n fx dX5_firstStanding_42 rfl ?_
            refine g_iload fx dX5_firstStanding_43 rfl ?_
            refine g_iload_n fx dX5_firstStanding_45 rfl ?_
            refine g_iload_n fx dX5_firstStanding_46 rfl ?_
            refine g_callVD fx dX5_firstStanding_47 mv_RX5_134 my_X5_lead (s_X5_lead ad _ hr _ _ _) (run_O hr) rfl rfl rfl (Nat.le_of_ble_eq_true rfl) (by decide) (by decide) ?_
            refine g_if_le (tgt := 56) fx dX5_firstStanding_50 (by decide) (fun h50 => ?_) (fun h50 => ?_)
            · refine g_iinc1 fx dX5_firstStanding_56 (by decide) rfl rfl (by unfold okI; omega) rfl ?_
              refine g_goto (tgt := 5) fx dX5_firstStanding_59 (by decide) ?_
              exact gw_cg rfl (by rw [itr_s, sdS]; (repeat first | rw [if_pos (by omega)] | rw [if_neg (by omega)]); rfl) (ih (by omega))
            · refine g_iload fx dX5_firstStanding_53 rfl ?_
              refine g_istore_n fx dX5_firstStanding_55 (by decide) rfl rfl ?_
              refine g_iinc1 fx dX5_firstStanding_56 (by decide) rfl rfl (by unfold okI; omega) rfl ?_
              refine g_goto (tgt := 5) fx dX5_firstStanding_59 (by decide) ?_
              exact gw_cg rfl (by rw [itr_s, sdS]; (repeat first | rw [if_pos (by omega)] | rw [if_neg (by omega)]); rfl) (ih (by omega))
  exact loop5 0 (Nat.zero_le _)
set_option maxRecDepth 4000 in
theorem s_X5_begin (ad : Nat → Nat) (σ : Sg) {r m : Nat} (hr : (r, m) ∈ gw_runs) (k : Int) (p : Int) (st : Int) (mi : Int) : gw_Sp yX5_begin cX5_begin 11 none 2 0 0 [vR (some r), vI k, vI p, vI st, vI mi] (gw_M0 ad) σ (gw_D none (gw_M0 ad) (bg σ r m k p st mi)) gw_no := by
  refine gw_Sp.of [some (vR (some r)), some (vI k), some (vI p), some (vI st), some (vI mi), none, none, none, none, none, none] (by decide +kernel) rfl (Nat.le_of_ble_eq_true rfl) ?_
  intro X G fx het hnm
  refine g_aload_n fx dX5_begin_0 rfl ?_
  refine g_getr fx dX5_begin_1 fk_RX5_14 (run_O hr) (run_f3 hr) ?_
  refine g_iload_n fx dX5_begin_4 rfl ?_
  refine g_callVD fx dX5_begin_5 mv_RX5_72 my_X4_at (s_X4_atC ad _ (run_h3 hr) (show (r + 1) + 1 = (r + 2) from rfl) _) (row_O (run_h3 hr)) rfl rfl rfl (Nat.le_of_ble_eq_true rfl) (by decide) (by decide) ?_
  refine g_istore fx dX5_begin_8 (by decide) rfl rfl ?_
  refine g_aload_n fx dX5_begin_10 rfl ?_
  refine g_getr fx dX5_begin_11 fk_RX5_53 (run_O hr) (run_f0 hr) ?_
  refine g_getr fx dX5_begin_14 fk_RX5_115 (mill_O (run_h0 hr)) (mill_f11 (run_h0 hr)) ?_
  refine g_iload fx dX5_begin_17 rfl ?_
  refine g_callVD fx dX5_begin_19 mv_RX5_72 my_X4_at (s_X4_atC ad _ (mill_h11 (run_h0 hr)) (show (m + 12) + 1 = (m + 13) from rfl) _) (row_O (mill_h11 (run_h0 hr))) rfl rfl rfl (Nat.le_of_ble_eq_true rfl) (by decide) (by decide) ?_
  refine g_istore fx dX5_begin_22 (by decide) rfl rfl ?_
  refine g_aload_n fx dX5_begin_24 rfl ?_
  refine g_getr fx dX5_begin_25 fk_RX5_53 (run_O hr) (run_f0 hr) ?_
  refine g_getr fx dX5_begin_28 fk_RX5_118 (mill_O (run_h0 hr)) (mill_f9 (run_h0 hr)) ?_
  refine g_iload fx dX5_begin_31 rfl ?_
  refine g_callVD fx dX5_begin_33 mv_RX5_72 my_X4_at (s_X4_atC ad _ (mill_h9 (run_h0 hr)) (show (m + 8) + 1 = (m + 9) from rfl) _) (row_O (mill_h9 (run_h0 hr))) rfl rfl rfl (Nat.le_of_ble_eq_true rfl) (by decide) (by decide) ?_
  refine g_istore fx dX5_begin_36 (by decide) rfl rfl ?_
  refine g_aload_n fx dX5_begin_38 rfl ?_
  refine g_getr fx dX5_begin_39 fk_RX5_47 (run_O hr) (run_f13 hr) ?_
  refine g_iload_n fx dX5_begin_42 rfl ?_
  refine g_callVD fx dX5_begin_43 mv_RX5_72 my_X4_at (s_X4_atC ad _ (run_h13 hr) (show (r + 21) + 1 = (r + 22) from rfl) _) (row_O (run_h13 hr)) rfl rfl rfl (Nat.le_of_ble_eq_true rfl) (by decide) (by decide) ?_
  refine g_istore fx dX5_begin_46 (by decide) rfl rfl ?_
  refine g_iload fx dX5_begin_48 rfl ?_
  refine g_iconst fx dX5_begin_50 (by unfold okI; omega) ?_
  refine g_icmp_eq (tgt := 61) fx dX5_begin_51 (by decide) (fun h51 => ?_) (fun h51 => ?_)
  · refine g_iconst fx dX5_begin_61 (by unfold okI; omega) ?_
    refine g_goto (tgt := 72) fx dX5_begin_62 (by decide) ?_
    refine g_istore fx dX5_begin_72 (by decide) rfl rfl ?_
    refine g_iload fx dX5_begin_74 rfl ?_
    refine g_iload fx dX5_begin_76 rfl ?_
    refine g_iadd fx dX5_begin_78 ?_
    refine g_aload_n fx dX5_begin_79 rfl ?_
    refine g_getr fx dX5_begin_80 fk_RX5_53 (run_O hr) (run_f0 hr) ?_
    refine g_getr fx dX5_begin_83 fk_RX5_124 (mill_O (run_h0 hr)) (mill_f7 (run_h0 hr)) ?_
    refine g_iload_n fx dX5_begin_86 rfl ?_
    refine g_callVD fx dX5_begin_87 mv_RX5_72 my_X4_at (s_X4_atC ad _ (mill_h7 (run_h0 hr)) (show (m + 4) + 1 = (m + 5) from rfl) _) (row_O (mill_h7 (run_h0 hr))) rfl rfl rfl (Nat.le_of_ble_eq_true rfl) (by decide) (by decide) ?_
    refine g_aload_n fx dX5_begin_90 rfl ?_
    refine g_getr fx dX5_begin_91 fk_RX5_20 (run_O hr) (run_f4 hr) ?_
    refine g_iload_n fx dX5_begin_94 rfl ?_
    refine g_callVD fx dX5_begin_95 mv_RX5_72 my_X4_at (s_X4_atC ad _ (run_h4 hr) (show (r + 3) + 1 = (r + 4) from rfl) _) (row_O (run_h4 hr)) rfl rfl rfl (Nat.le_of_ble_eq_true rfl) (by decide) (by decide) ?_
    refine g_imul fx dX5_begin_98 ?_
    refine g_iadd fx dX5_begin_99 ?_
    refine g_istore fx dX5_begin_100 (by decide) rfl rfl ?_
    refine g_aload_n fx dX5_begin_102 rfl ?_
    refine g_getr fx dX5_begin_103 fk_RX5_35 (run_O hr) (run_f9 hr) ?_
    refine g_iload_n fx dX5_begin_106 rfl ?_
    refine g_iload_n fx dX5_begin_107 rfl ?_
    refine g_callVD0 fx dX5_begin_108 mv_RX5_102 my_X4_put (s_X4_putC ad _ (run_h9 hr) (show (r + 13) + 1 = (r + 14) from rfl) _ _) (row_O (run_h9 hr)) rfl rfl rfl (Nat.le_of_ble_eq_true rfl) (by decide) (by decide) ?_
    refine g_aload_n fx dX5_begin_111 rfl ?_
    refine g_getr fx dX5_begin_112 fk_RX5_23 (run_O hr) (run_f5 hr) ?_
    refine g_iload_n fx dX5_begin_115 rfl ?_
    refine g_iload fx dX5_begin_116 rfl ?_
    refine g_callVD0 fx dX5_begin_118 mv_RX5_102 my_X4_put (s_X4_putC ad _ (run_h5 hr) (show (r + 5) + 1 = (r + 6) from rfl) _ _) (row_O (run_h5 hr)) rfl rfl rfl (Nat.le_of_ble_eq_true rfl) (by decide) (by decide) ?_
    refine g_aload_n fx dX5_begin_121 rfl ?_
    refine g_getr fx dX5_begin_122 fk_RX5_26 (run_O hr) (run_f6 hr) ?_
    refine g_iload_n fx dX5_begin_125 rfl ?_
    refine g_iload fx dX5_begin_126 rfl ?_
    refine g_iload fx dX5_begin_128 rfl ?_
    refine g_iadd fx dX5_begin_130 ?_
    refine g_callVD0 fx dX5_begin_131 mv_RX5_102 my_X4_put (s_X4_putC ad _ (run_h6 hr) (show (r + 7) + 1 = (r + 8) from rfl) _ _) (row_O (run_h6 hr)) rfl rfl rfl (Nat.le_of_ble_eq_true rfl) (by decide) (by decide) ?_
    refine g_aload_n fx dX5_begin_134 rfl ?_
    refine g_getr fx dX5_begin_135 fk_RX5_29 (run_O hr) (run_f7 hr) ?_
    refine g_iload_n fx dX5_begin_138 rfl ?_
    refine g_iload fx dX5_begin_139 rfl ?_
    refine g_callVD0 fx dX5_begin_141 mv_RX5_102 my_X4_put (s_X4_putC ad _ (run_h7 hr) (show (r + 9) + 1 = (r + 10) from rfl) _ _) (row_O (run_h7 hr)) rfl rfl rfl (Nat.le_of_ble_eq_true rfl) (by decide) (by decide) ?_
    refine g_aload_n fx dX5_begin_144 rfl ?_
    refine g_getr fx dX5_begin_145 fk_RX5_32 (run_O hr) (run_f8 hr) ?_
    refine g_iload_n fx dX5_begin_148 rfl ?_
    refine g_iload_n fx dX5_begin_149 rfl ?_
    refine g_callVD0 fx dX5_begin_150 mv_RX5_102 my_X4_put (s_X4_putC ad _ (run_h8 hr) (show (r + 11) + 1 = (r + 12) from rfl) _ _) (row_O (run_h8 hr)) rfl rfl rfl (Nat.le_of_ble_eq_true rfl) (by decide) (by decide) ?_
    refine g_aload_n fx dX5_begin_153 rfl ?_
    refine g_getr fx dX5_begin_154 fk_RX5_38 (run_O hr) (run_f10 hr) ?_
    refine g_iload fx dX5_begin_157 rfl ?_
    refine g_aload_n fx dX5_begin_159 rfl ?_
    refine g_getr fx dX5_begin_160 fk_RX5_38 (run_O hr) (run_f10 hr) ?_
    refine g_iload fx dX5_begin_163 rfl ?_
    refine g_callVD fx dX5_begin_165 mv_RX5_72 my_X4_at (s_X4_atC ad _ (run_h10 hr) (show (r + 15) + 1 = (r + 16) from rfl) _) (row_O (run_h10 hr)) rfl rfl rfl (Nat.le_of_ble_eq_true rfl) (by decide) (by decide) ?_
    refine g_iload fx dX5_begin_168 rfl ?_
    refine g_max fx dX5_begin_170 mm_RX5_75 (by decide) (by decide) (by decide) (Nat.le_of_ble_eq_true rfl) ?_
    refine g_callVD0 fx dX5_begin_173 mv_RX5_102 my_X4_put (s_X4_putC ad _ (run_h10 hr) (show (r + 15) + 1 = (r + 16) from rfl) _ _) (row_O (run_h10 hr)) rfl rfl rfl (Nat.le_of_ble_eq_true rfl) (by decide) (by decide) ?_
    refine g_aload_n fx dX5_begin_176 rfl ?_
    refine g_getr fx dX5_begin_177 fk_RX5_44 (run_O hr) (run_f12 hr) ?_
    refine g_iload_n fx dX5_begin_180 rfl ?_
    refine g_iload fx dX5_begin_181 rfl ?_
    refine g_callVD0 fx dX5_begin_183 mv_RX5_102 my_X4_put (s_X4_putC ad _ (run_h12 hr) (show (r + 19) + 1 = (r + 20) from rfl) _ _) (row_O (run_h12 hr)) rfl rfl rfl (Nat.le_of_ble_eq_true rfl) (by decide) (by decide) ?_
    refine g_aload_n fx dX5_begin_186 rfl ?_
    refine g_getr fx dX5_begin_187 fk_RX5_47 (run_O hr) (run_f13 hr) ?_
    refine g_iload_n fx dX5_begin_190 rfl ?_
    refine g_iload fx dX5_begin_191 rfl ?_
    refine g_callVD0 fx dX5_begin_193 mv_RX5_102 my_X4_put (s_X4_putC ad _ (run_h13 hr) (show (r + 21) + 1 = (r + 22) from rfl) _ _) (row_O (run_h13 hr)) rfl rfl rfl (Nat.le_of_ble_eq_true rfl) (by decide) (by decide) ?_
    refine g_aload_n fx dX5_begin_196 rfl ?_
    refine g_getr fx dX5_begin_197 fk_RX5_50 (run_O hr) (run_f14 hr) ?_
    refine g_iload fx dX5_begin_200 rfl ?_
    refine g_aload_n fx dX5_begin_202 rfl ?_
    refine g_getr fx dX5_begin_203 fk_RX5_50 (run_O hr) (run_f14 hr) ?_
    refine g_iload fx dX5_begin_206 rfl ?_
    refine g_callVD fx dX5_begin_208 mv_RX5_72 my_X4_at (s_X4_atC ad _ (run_h14 hr) (show (r + 23) + 1 = (r + 24) from rfl) _) (row_O (run_h14 hr)) rfl rfl rfl (Nat.le_of_ble_eq_true rfl) (by decide) (by decide) ?_
    refine g_iconst fx dX5_begin_211 (by unfold okI; omega) ?_
    refine g_iadd fx dX5_begin_212 ?_
    refine g_callVD0 fx dX5_begin_213 mv_RX5_102 my_X4_put (s_X4_putC ad _ (run_h14 hr) (show (r + 23) + 1 = (r + 24) from rfl) _ _) (row_O (run_h14 hr)) rfl rfl rfl (Nat.le_of_ble_eq_true rfl) (by decide) (by decide) ?_
    refine g_aload_n fx dX5_begin_216 rfl ?_
    refine g_dup fx dX5_begin_217 rfl ?_
    refine g_geti fx dX5_begin_218 fk_RX5_91 (by decide) (run_O hr) ?_
    refine g_iload fx dX5_begin_221 rfl ?_
    refine g_iadd fx dX5_begin_223 ?_
    refine g_puti fx dX5_begin_224 fk_RX5_91 (run_O hr) ?_
    exact g_vret fx rfl dX5_begin_227 (by decide) (by decide) (gw_le.rf _) ⟨rfl, rfl, by rw [bg]; (try dsimp only); (repeat first | rw [if_pos (by omega)] | rw [if_neg (by omega)]) <;> rfl⟩
  · refine g_iload fx dX5_begin_54 rfl ?_
    refine g_iload fx dX5_begin_56 rfl ?_
    refine g_icmp_ne (tgt := 65) fx dX5_begin_58 (by decide) (fun h58 => ?_) (fun h58 => ?_)
    · refine g_aload_n fx dX5_begin_65 rfl ?_
      refine g_getr fx dX5_begin_66 fk_RX5_53 (run_O hr) (run_f0 hr) ?_
      refine g_geti fx dX5_begin_69 fk_RX5_121 (by decide) (mill_O (run_h0 hr)) ?_
      refine g_istore fx dX5_begin_72 (by decide) rfl rfl ?_
      refine g_iload fx dX5_begin_74 rfl ?_
      refine g_iload fx dX5_begin_76 rfl ?_
      refine g_iadd fx dX5_begin_78 ?_
      refine g_aload_n fx dX5_begin_79 rfl ?_
      refine g_getr fx dX5_begin_80 fk_RX5_53 (run_O hr) (run_f0 hr) ?_
      refine g_getr fx dX5_begin_83 fk_RX5_124 (mill_O (run_h0 hr)) (mill_f7 (run_h0 hr)) ?_
      refine g_iload_n fx dX5_begin_86 rfl ?_
      refine g_callVD fx dX5_begin_87 mv_RX5_72 my_X4_at (s_X4_atC ad _ (mill_h7 (run_h0 hr)) (show (m + 4) + 1 = (m + 5) from rfl) _) (row_O (mill_h7 (run_h0 hr))) rfl rfl rfl (Nat.le_of_ble_eq_true rfl) (by decide) (by decide) ?_
      refine g_aload_n fx dX5_begin_90 rfl ?_
      refine g_getr fx dX5_begin_91 fk_RX5_20 (run_O hr) (run_f4 hr) ?_
      refine g_iload_n fx dX5_begin_94 rfl ?_
      refine g_callVD fx dX5_begin_95 mv_RX5_72 my_X4_at (s_X4_atC ad _ (run_h4 hr) (show (r + 3) + 1 = (r + 4) from rfl) _) (row_O (run_h4 hr)) rfl rfl rfl (Nat.le_of_ble_eq_true rfl) (by decide) (by decide) ?_
      refine g_imul fx dX5_begin_98 ?_
      refine g_iadd fx dX5_begin_99 ?_
      refine g_istore fx dX5_begin_100 (by decide) rfl rfl ?_
      refine g_aload_n fx dX5_begin_102 rfl ?_
      refine g_getr fx dX5_begin_103 fk_RX5_35 (run_O hr) (run_f9 hr) ?_
      refine g_iload_n fx dX5_begin_106 rfl ?_
      refine g_iload_n fx dX5_begin_107 rfl ?_
      refine g_callVD0 fx dX5_begin_108 mv_RX5_102 my_X4_put (s_X4_putC ad _ (run_h9 hr) (show (r + 13) + 1 = (r + 14) from rfl) _ _) (row_O (run_h9 hr)) rfl rfl rfl (Nat.le_of_ble_eq_true rfl) (by decide) (by decide) ?_
      refine g_aload_n fx dX5_begin_111 rfl ?_
      refine g_getr fx dX5_begin_112 fk_RX5_23 (run_O hr) (run_f5 hr) ?_
      refine g_iload_n fx dX5_begin_115 rfl ?_
      refine g_iload fx dX5_begin_116 rfl ?_
      refine g_callVD0 fx dX5_begin_118 mv_RX5_102 my_X4_put (s_X4_putC ad _ (run_h5 hr) (show (r + 5) + 1 = (r + 6) from rfl) _ _) (row_O (run_h5 hr)) rfl rfl rfl (Nat.le_of_ble_eq_true rfl) (by decide) (by decide) ?_
      refine g_aload_n fx dX5_begin_121 rfl ?_
      refine g_getr fx dX5_begin_122 fk_RX5_26 (run_O hr) (run_f6 hr) ?_
      refine g_iload_n fx dX5_begin_125 rfl ?_
      refine g_iload fx dX5_begin_126 rfl ?_
      refine g_iload fx dX5_begin_128 rfl ?_
      refine g_iadd fx dX5_begin_130 ?_
      refine g_callVD0 fx dX5_begin_131 mv_RX5_102 my_X4_put (s_X4_putC ad _ (run_h6 hr) (show (r + 7) + 1 = (r + 8) from rfl) _ _) (row_O (run_h6 hr)) rfl rfl rfl (Nat.le_of_ble_eq_true rfl) (by decide) (by decide) ?_
      refine g_aload_n fx dX5_begin_134 rfl ?_
      refine g_getr fx dX5_begin_135 fk_RX5_29 (run_O hr) (run_f7 hr) ?_
      refine g_iload_n fx dX5_begin_138 rfl ?_
      refine g_iload fx dX5_begin_139 rfl ?_
      refine g_callVD0 fx dX5_begin_141 mv_RX5_102 my_X4_put (s_X4_putC ad _ (run_h7 hr) (show (r + 9) + 1 = (r + 10) from rfl) _ _) (row_O (run_h7 hr)) rfl rfl rfl (Nat.le_of_ble_eq_true rfl) (by decide) (by decide) ?_
      refine g_aload_n fx dX5_begin_144 rfl ?_
      refine g_getr fx dX5_begin_145 fk_RX5_32 (run_O hr) (run_f8 hr) ?_
      refine g_iload_n fx dX5_begin_148 rfl ?_
      refine g_iload_n fx dX5_begin_149 rfl ?_
      refine g_callVD0 fx dX5_begin_150 mv_RX5_102 my_X4_put (s_X4_putC ad _ (run_h8 hr) (show (r + 11) + 1 = (r + 12) from rfl) _ _) (row_O (run_h8 hr)) rfl rfl rfl (Nat.le_of_ble_eq_true rfl) (by decide) (by decide) ?_
      refine g_aload_n fx dX5_begin_153 rfl ?_
      refine g_getr fx dX5_begin_154 fk_RX5_38 (run_O hr) (run_f10 hr) ?_
      refine g_iload fx dX5_begin_157 rfl ?_
      refine g_aload_n fx dX5_begin_159 rfl ?_
      refine g_getr fx dX5_begin_160 fk_RX5_38 (run_O hr) (run_f10 hr) ?_
      refine g_iload fx dX5_begin_163 rfl ?_
      refine g_callVD fx dX5_begin_165 mv_RX5_72 my_X4_at (s_X4_atC ad _ (run_h10 hr) (show (r + 15) + 1 = (r + 16) from rfl) _) (row_O (run_h10 hr)) rfl rfl rfl (Nat.le_of_ble_eq_true rfl) (by decide) (by decide) ?_
      refine g_iload fx dX5_begin_168 rfl ?_
      refine g_max fx dX5_begin_170 mm_RX5_75 (by decide) (by decide) (by decide) (Nat.le_of_ble_eq_true rfl) ?_
      refine g_callVD0 fx dX5_begin_173 mv_RX5_102 my_X4_put (s_X4_putC ad _ (run_h10 hr) (show (r + 15) + 1 = (r + 16) from rfl) _ _) (row_O (run_h10 hr)) rfl rfl rfl (Nat.le_of_ble_eq_true rfl) (by decide) (by decide) ?_
      refine g_aload_n fx dX5_begin_176 rfl ?_
      refine g_getr fx dX5_begin_177 fk_RX5_44 (run_O hr) (run_f12 hr) ?_
      refine g_iload_n fx dX5_begin_180 rfl ?_
      refine g_iload fx dX5_begin_181 rfl ?_
      refine g_callVD0 fx dX5_begin_183 mv_RX5_102 my_X4_put (s_X4_putC ad _ (run_h12 hr) (show (r + 19) + 1 = (r + 20) from rfl) _ _) (row_O (run_h12 hr)) rfl rfl rfl (Nat.le_of_ble_eq_true rfl) (by decide) (by decide) ?_
      refine g_aload_n fx dX5_begin_186 rfl ?_
      refine g_getr fx dX5_begin_187 fk_RX5_47 (run_O hr) (run_f13 hr) ?_
      refine g_iload_n fx dX5_begin_190 rfl ?_
      refine g_iload fx dX5_begin_191 rfl ?_
      refine g_callVD0 fx dX5_begin_193 mv_RX5_102 my_X4_put (s_X4_putC ad _ (run_h13 hr) (show (r + 21) + 1 = (r + 22) from rfl) _ _) (row_O (run_h13 hr)) rfl rfl rfl (Nat.le_of_ble_eq_true rfl) (by decide) (by decide) ?_
      refine g_aload_n fx dX5_begin_196 rfl ?_
      refine g_getr fx dX5_begin_197 fk_RX5_50 (run_O hr) (run_f14 hr) ?_
      refine g_iload fx dX5_begin_200 rfl ?_
      refine g_aload_n fx dX5_begin_202 rfl ?_
      refine g_getr fx dX5_begin_203 fk_RX5_50 (run_O hr) (run_f14 hr) ?_
      refine g_iload fx dX5_begin_206 rfl ?_
      refine g_callVD fx dX5_begin_208 mv_RX5_72 my_X4_at (s_X4_atC ad _ (run_h14 hr) (show (r + 23) + 1 = (r + 24) from rfl) _) (row_O (run_h14 hr)) rfl rfl rfl (Nat.le_of_ble_eq_true rfl) (by decide) (by decide) ?_
      refine g_iconst fx dX5_begin_211 (by unfold okI; omega) ?_
      refine g_iadd fx dX5_begin_212 ?_
      refine g_callVD0 fx dX5_begin_213 mv_RX5_102 my_X4_put (s_X4_putC ad _ (run_h14 hr) (show (r + 23) + 1 = (r + 24) from rfl) _ _) (row_O (run_h14 hr)) rfl rfl rfl (Nat.le_of_ble_eq_true rfl) (by decide) (by decide) ?_
      refine g_aload_n fx dX5_begin_216 rfl ?_
      refine g_dup fx dX5_begin_217 rfl ?_
      refine g_geti fx dX5_begin_218 fk_RX5_91 (by decide) (run_O hr) ?_
      refine g_iload fx dX5_begin_221 rfl ?_
      refine g_iadd fx dX5_begin_223 ?_
      refine g_puti fx dX5_begin_224 fk_RX5_91 (run_O hr) ?_
      exact g_vret fx rfl dX5_begin_227 (by decide) (by decide) (gw_le.rf _) ⟨rfl, rfl, by rw [bg]; (try dsimp only); (repeat first | rw [if_pos (by omega)] | rw [if_neg (by omega)]) <;> rfl⟩
    · refine g_iconst fx dX5_begin_61 (by unfold okI; omega) ?_
      refine g_goto (tgt := 72) fx dX5_begin_62 (by decide) ?_
      refine g_istore fx dX5_begin_72 (by decide) rfl rfl ?_
      refine g_iload fx dX5_begin_74 rfl ?_
      refine g_iload fx dX5_begin_76 rfl ?_
      refine g_iadd fx dX5_begin_78 ?_
      refine g_aload_n fx dX5_begin_79 rfl ?_
      refine g_getr fx dX5_begin_80 fk_RX5_53 (run_O hr) (run_f0 hr) ?_
      refine g_getr fx dX5_begin_83 fk_RX5_124 (mill_O (run_h0 hr)) (mill_f7 (run_h0 hr)) ?_
      refine g_iload_n fx dX5_begin_86 rfl ?_
      refine g_callVD fx dX5_begin_87 mv_RX5_72 my_X4_at (s_X4_atC ad _ (mill_h7 (run_h0 hr)) (show (m + 4) + 1 = (m + 5) from rfl) _) (row_O (mill_h7 (run_h0 hr))) rfl rfl rfl (Nat.le_of_ble_eq_true rfl) (by decide) (by decide) ?_
      refine g_aload_n fx dX5_begin_90 rfl ?_
      refine g_getr fx dX5_begin_91 fk_RX5_20 (run_O hr) (run_f4 hr) ?_
      refine g_iload_n fx dX5_begin_94 rfl ?_
      refine g_callVD fx dX5_begin_95 mv_RX5_72 my_X4_at (s_X4_atC ad _ (run_h4 hr) (show (r + 3) + 1 = (r + 4) from rfl) _) (row_O (run_h4 hr)) rfl rfl rfl (Nat.le_of_ble_eq_true rfl) (by decide) (by decide) ?_
      refine g_imul fx dX5_begin_98 ?_
      refine g_iadd fx dX5_begin_99 ?_
      refine g_istore fx dX5_begin_100 (by decide) rfl rfl ?_
      refine g_aload_n fx dX5_begin_102 rfl ?_
      refine g_getr fx dX5_begin_103 fk_RX5_35 (run_O hr) (run_f9 hr) ?_
      refine g_iload_n fx dX5_begin_106 rfl ?_
      refine g_iload_n fx dX5_begin_107 rfl ?_
      refine g_callVD0 fx dX5_begin_108 mv_RX5_102 my_X4_put (s_X4_putC ad _ (run_h9 hr) (show (r + 13) + 1 = (r + 14) from rfl) _ _) (row_O (run_h9 hr)) rfl rfl rfl (Nat.le_of_ble_eq_true rfl) (by decide) (by decide) ?_
      refine g_aload_n fx dX5_begin_111 rfl ?_
      refine g_getr fx dX5_begin_112 fk_RX5_23 (run_O hr) (run_f5 hr) ?_
      refine g_iload_n fx dX5_begin_115 rfl ?_
      refine g_iload fx dX5_begin_116 rfl ?_
      refine g_callVD0 fx dX5_begin_118 mv_RX5_102 my_X4_put (s_X4_putC ad _ (run_h5 hr) (show (r + 5) + 1 = (r + 6) from rfl) _ _) (row_O (run_h5 hr)) rfl rfl rfl (Nat.le_of_ble_eq_true rfl) (by decide) (by decide) ?_
      refine g_aload_n fx dX5_begin_121 rfl ?_
      refine g_getr fx dX5_begin_122 fk_RX5_26 (run_O hr) (run_f6 hr) ?_
      refine g_iload_n fx dX5_begin_125 rfl ?_
      refine g_iload fx dX5_begin_126 rfl ?_
      refine g_iload fx dX5_begin_128 rfl ?_
      refine g_iadd fx dX5_begin_130 ?_
      refine g_callVD0 fx dX5_begin_131 mv_RX5_102 my_X4_put (s_X4_putC ad _ (run_h6 hr) (show (r + 7) + 1 = (r + 8) from rfl) _ _) (row_O (run_h6 hr)) rfl rfl rfl (Nat.le_of_ble_eq_true rfl) (by decide) (by decide) ?_
      refine g_aload_n fx dX5_begin_134 rfl ?_
      refine g_getr fx dX5_begin_135 fk_RX5_29 (run_O hr) (run_f7 hr) ?_
      refine g_iload_n fx dX5_begin_138 rfl ?_
      refine g_iload fx dX5_begin_139 rfl ?_
      refine g_callVD0 fx dX5_begin_141 mv_RX5_102 my_X4_put (s_X4_putC ad _ (run_h7 hr) (show (r + 9) + 1 = (r + 10) from rfl) _ _) (row_O (run_h7 hr)) rfl rfl rfl (Nat.le_of_ble_eq_true rfl) (by decide) (by decide) ?_
      refine g_aload_n fx dX5_begin_144 rfl ?_
      refine g_getr fx dX5_begin_145 fk_RX5_32 (run_O hr) (run_f8 hr) ?_
      refine g_iload_n fx dX5_begin_148 rfl ?_
      refine g_iload_n fx dX5_begin_149 rfl ?_
      refine g_callVD0 fx dX5_begin_150 mv_RX5_102 my_X4_put (s_X4_putC ad _ (run_h8 hr) (show (r + 11) + 1 = (r + 12) from rfl) _ _) (row_O (run_h8 hr)) rfl rfl rfl (Nat.le_of_ble_eq_true rfl) (by decide) (by decide) ?_
      refine g_aload_n fx dX5_begin_153 rfl ?_
      refine g_getr fx dX5_begin_154 fk_RX5_38 (run_O hr) (run_f10 hr) ?_
      refine g_iload fx dX5_begin_157 rfl ?_
      refine g_aload_n fx dX5_begin_159 rfl ?_
      refine g_getr fx dX5_begin_160 fk_RX5_38 (run_O hr) (run_f10 hr) ?_
      refine g_iload fx dX5_begin_163 rfl ?_
      refine g_callVD fx dX5_begin_165 mv_RX5_72 my_X4_at (s_X4_atC ad _ (run_h10 hr) (show (r + 15) + 1 = (r + 16) from rfl) _) (row_O (run_h10 hr)) rfl rfl rfl (Nat.le_of_ble_eq_true rfl) (by decide) (by decide) ?_
      refine g_iload fx dX5_begin_168 rfl ?_
      refine g_max fx dX5_begin_170 mm_RX5_75 (by decide) (by decide) (by decide) (Nat.le_of_ble_eq_true rfl) ?_
      refine g_callVD0 fx dX5_begin_173 mv_RX5_102 my_X4_put (s_X4_putC ad _ (run_h10 hr) (show (r + 15) + 1 = (r + 16) from rfl) _ _) (row_O (run_h10 hr)) rfl rfl rfl (Nat.le_of_ble_eq_true rfl) (by decide) (by decide) ?_
      refine g_aload_n fx dX5_begin_176 rfl ?_
      refine g_getr fx dX5_begin_177 fk_RX5_44 (run_O hr) (run_f12 hr) ?_
      refine g_iload_n fx dX5_begin_180 rfl ?_
      refine g_iload fx dX5_begin_181 rfl ?_
      refine g_callVD0 fx dX5_begin_183 mv_RX5_102 my_X4_put (s_X4_putC ad _ (run_h12 hr) (show (r + 19) + 1 = (r + 20) from rfl) _ _) (row_O (run_h12 hr)) rfl rfl rfl (Nat.le_of_ble_eq_true rfl) (by decide) (by decide) ?_
      refine g_aload_n fx dX5_begin_186 rfl ?_
      refine g_getr fx dX5_begin_187 fk_RX5_47 (run_O hr) (run_f13 hr) ?_
      refine g_iload_n fx dX5_begin_190 rfl ?_
      refine g_iload fx dX5_begin_191 rfl ?_
      refine g_callVD0 fx dX5_begin_193 mv_RX5_102 my_X4_put (s_X4_putC ad _ (run_h13 hr) (show (r + 21) + 1 = (r + 22) from rfl) _ _) (row_O (run_h13 hr)) rfl rfl rfl (Nat.le_of_ble_eq_true rfl) (by decide) (by decide) ?_
      refine g_aload_n fx dX5_begin_196 rfl ?_
      refine g_getr fx dX5_begin_197 fk_RX5_50 (run_O hr) (run_f14 hr) ?_
      refine g_iload fx dX5_begin_200 rfl ?_
      refine g_aload_n fx dX5_begin_202 rfl ?_
      refine g_getr fx dX5_begin_203 fk_RX5_50 (run_O hr) (run_f14 hr) ?_
      refine g_iload fx dX5_begin_206 rfl ?_
      refine g_callVD fx dX5_begin_208 mv_RX5_72 my_X4_at (s_X4_atC ad _ (run_h14 hr) (show (r + 23) + 1 = (r + 24) from rfl) _) (row_O (run_h14 hr)) rfl rfl rfl (Nat.le_of_ble_eq_true rfl) (by decide) (by decide) ?_
      refine g_iconst fx dX5_begin_211 (by unfold okI; omega) ?_
      refine g_iadd fx dX5_begin_212 ?_
      refine g_callVD0 fx dX5_begin_213 mv_RX5_102 my_X4_put (s_X4_putC ad _ (run_h14 hr) (show (r + 23) + 1 = (r + 24) from rfl) _ _) (row_O (run_h14 hr)) rfl rfl rfl (Nat.le_of_ble_eq_true rfl) (by decide) (by decide) ?_
      refine g_aload_n fx dX5_begin_216 rfl ?_
      refine g_dup fx dX5_begin_217 rfl ?_
      refine g_geti fx dX5_begin_218 fk_RX5_91 (by decide) (run_O hr) ?_
      refine g_iload fx dX5_begin_221 rfl ?_
      refine g_iadd fx dX5_begin_223 ?_
      refine g_puti fx dX5_begin_224 fk_RX5_91 (run_O hr) ?_
      exact g_vret fx rfl dX5_begin_227 (by decide) (by decide) (gw_le.rf _) ⟨rfl, rfl, by rw [bg]; (try dsimp only); (repeat first | rw [if_pos (by omega)] | rw [if_neg (by omega)]) <;> rfl⟩
set_option maxRecDepth 4000 in
theorem s_X5_lay (ad : Nat → Nat) (σ : Sg) {r m : Nat} (hr : (r, m) ∈ gw_runs) : gw_Sp yX5_lay cX5_lay 3 none 3 0 0 [vR (some r)] (gw_M0 ad) σ (gw_D none (gw_M0 ad) (ly σ r m)) gw_no := by
  refine gw_Sp.of [some (vR (some r)), none, none] (by decide +kernel) rfl (Nat.le_of_ble_eq_true rfl) ?_
  intro X G fx het hnm
  refine g_okS (fun hok => ?_)
  have hq5 := gw_okO 5 hok (mill_O (run_h0 hr)) (by decide)
  unfold okI at hq5
  have hlt := run_lt _ hr
  dsimp only at hlt
  refine g_aload_n fx dX5_lay_0 rfl ?_
  refine g_iconst fx dX5_lay_1 (by unfold okI; omega) ?_
  refine g_puti fx dX5_lay_2 fk_RX5_60 (run_O hr) ?_
  refine g_aload_n fx dX5_lay_5 rfl ?_
  refine g_iconst fx dX5_lay_6 (by unfold okI; omega) ?_
  refine g_puti fx dX5_lay_7 fk_RX5_91 (run_O hr) ?_
  refine g_iconst fx dX5_lay_10 (by unfold okI; omega) ?_
  refine g_istore_n fx dX5_lay_11 (by decide) rfl rfl ?_
  have loop12 : ∀ k : Nat, k ≤ (σ m 5).toNat → gw_W X (yX5_lay.cls, cX5_lay, 3, none, 3, 0, 0) G (gw_Z X G (gw_M0 ad) σ (gw_D none (gw_M0 ad) (ly σ r m)) gw_no 0 0) 0 0 (gw_M0 ad) (itr k (lyS r m) (ly0 σ r)) 12 [some (vR (some r)), some (vI (k : Nat)), none] [] := by
    refine up_ind _ ((σ m 5).toNat) (fun k hk ih => ?_)
    have hof := (ly0_off (r := r) σ).itr (fun k x => lyS_off (m := m) k x) k
    have h5 := hof m (by omega) 5
    have hpt := fun s : Int => hof.at (c := m + 19) (n := 60) (i := s) (by omega)
    generalize hσ1 : itr k (lyS r m) (ly0 σ r) = σ1 at *
    have hdf := lyD_off (r := r) (m := m) (k : Nat) σ1
    refine g_iload_n fx dX5_lay_12 rfl ?_
    refine g_aload_n fx dX5_lay_13 rfl ?_
    refine g_getr fx dX5_lay_14 fk_RX5_53 (run_O hr) (run_f0 hr) ?_
    refine g_geti fx dX5_lay_17 fk_RX5_94 (by decide) (mill_O (run_h0 hr)) ?_
    refine g_icmp_ge (tgt := 134) fx dX5_lay_20 (by decide) (fun h20 => ?_) (fun h20 => ?_)
    · refine g_aload_n fx dX5_lay_134 rfl ?_
      refine g_getr fx dX5_lay_135 fk_RX5_23 (run_O hr) (run_f5 hr) ?_
      refine g_iconst fx dX5_lay_138 (by unfold okI; omega) ?_
      refine g_callVD0 fx dX5_lay_139 mv_RX5_112 my_X4_fill (s_X4_fillC ad _ (run_h5 hr) (show (r + 5) + 1 = (r + 6) from rfl) _) (row_O (run_h5 hr)) rfl rfl rfl (Nat.le_of_ble_eq_true rfl) (by decide) (by decide) ?_
      refine g_aload_n fx dX5_lay_142 rfl ?_
      refine g_getr fx dX5_lay_143 fk_RX5_38 (run_O hr) (run_f10 hr) ?_
      refine g_iconst fx dX5_lay_146 (by unfold okI; omega) ?_
      refine g_callVD0 fx dX5_lay_147 mv_RX5_112 my_X4_fill (s_X4_fillC ad _ (run_h10 hr) (show (r + 15) + 1 = (r + 16) from rfl) _) (row_O (run_h10 hr)) rfl rfl rfl (Nat.le_of_ble_eq_true rfl) (by decide) (by decide) ?_
      refine g_aload_n fx dX5_lay_150 rfl ?_
      refine g_getr fx dX5_lay_151 fk_RX5_44 (run_O hr) (run_f12 hr) ?_
      refine g_iconst fx dX5_lay_154 (by unfold okI; omega) ?_
      refine g_callVD0 fx dX5_lay_155 mv_RX5_112 my_X4_fill (s_X4_fillC ad _ (run_h12 hr) (show (r + 19) + 1 = (r + 20) from rfl) _) (row_O (run_h12 hr)) rfl rfl rfl (Nat.le_of_ble_eq_true rfl) (by decide) (by decide) ?_
      refine g_aload_n fx dX5_lay_158 rfl ?_
      refine g_getr fx dX5_lay_159 fk_RX5_47 (run_O hr) (run_f13 hr) ?_
      refine g_iconst fx dX5_lay_162 (by unfold okI; omega) ?_
      refine g_callVD0 fx dX5_lay_163 mv_RX5_112 my_X4_fill (s_X4_fillC ad _ (run_h13 hr) (show (r + 21) + 1 = (r + 22) from rfl) _) (row_O (run_h13 hr)) rfl rfl rfl (Nat.le_of_ble_eq_true rfl) (by decide) (by decide) ?_
      refine g_aload_n fx dX5_lay_166 rfl ?_
      refine g_getr fx dX5_lay_167 fk_RX5_50 (run_O hr) (run_f14 hr) ?_
      refine g_iconst fx dX5_lay_170 (by unfold okI; omega) ?_
      refine g_callVD0 fx dX5_lay_171 mv_RX5_112 my_X4_fill (s_X4_fillC ad _ (run_h14 hr) (show (r + 23) + 1 = (r + 24) from rfl) _) (row_O (run_h14 hr)) rfl rfl rfl (Nat.le_of_ble_eq_true rfl) (by decide) (by decide) ?_
      exact g_vret fx rfl dX5_lay_174 (by decide) (by decide) (gw_le.rf _) ⟨rfl, rfl, by rw [ly, show (σ m 5).toNat = k by omega, hσ1]⟩
    · refine g_okS (fun hok1 => ?_)
      have hok9 : ∀ j, okI (σ1 (m + 19) j) := fun j => gw_rgI hok1 (row_c (mill_h14 (run_h0 hr)))
      refine g_aload_n fx dX5_lay_23 rfl ?_
      refine g_getr fx dX5_lay_24 fk_RX5_41 (run_O hr) (run_f11 hr) ?_
      refine g_iload_n fx dX5_lay_27 rfl ?_
      refine g_aload_n fx dX5_lay_28 rfl ?_
      refine g_getr fx dX5_lay_29 fk_RX5_53 (run_O hr) (run_f0 hr) ?_
      refine g_getr fx dX5_lay_32 fk_RX5_99 (mill_O (run_h0 hr)) (mill_f13 (run_h0 hr)) ?_
      refine g_iload_n fx dX5_lay_35 rfl ?_
      refine g_callVD fx dX5_lay_36 mv_RX5_72 my_X4_at (s_X4_atC ad _ (mill_h13 (run_h0 hr)) (show (m + 16) + 1 = (m + 17) from rfl) _) (row_O (mill_h13 (run_h0 hr))) rfl rfl rfl (Nat.le_of_ble_eq_true rfl) (by decide) (by decide) ?_
      refine g_iconst fx dX5_lay_39 (by unfold okI; omega) ?_
      refine g_icmp_ne (tgt := 49) fx dX5_lay_40 (by decide) (fun h40 => ?_) (fun h40 => ?_)
      · refine g_aload_n fx dX5_lay_49 rfl ?_
        refine g_getr fx dX5_lay_50 fk_RX5_53 (run_O hr) (run_f0 hr) ?_
        refine g_getr fx dX5_lay_53 fk_RX5_99 (mill_O (run_h0 hr)) (mill_f13 (run_h0 hr)) ?_
        refine g_iload_n fx dX5_lay_56 rfl ?_
        refine g_callVD fx dX5_lay_57 mv_RX5_72 my_X4_at (s_X4_atC ad _ (mill_h13 (run_h0 hr)) (show (m + 16) + 1 = (m + 17) from rfl) _) (row_O (mill_h13 (run_h0 hr))) rfl rfl rfl (Nat.le_of_ble_eq_true rfl) (by decide) (by decide) ?_
        refine g_callVD0 fx dX5_lay_60 mv_RX5_102 my_X4_put (s_X4_putC ad _ (run_h11 hr) (show (r + 17) + 1 = (r + 18) from rfl) _ _) (row_O (run_h11 hr)) rfl rfl rfl (Nat.le_of_ble_eq_true rfl) (by decide) (by decide) ?_
        refine g_iconst fx dX5_lay_63 (by unfold okI; omega) ?_
        refine g_istore_n fx dX5_lay_64 (by decide) rfl rfl ?_
        have loop65 : ∀ i : Nat, i ≤ (rAt σ1 (m + 19) 60 (k : Nat)).toNat → gw_W X (yX5_lay.cls, cX5_lay, 3, none, 3, 0, 0) G (gw_Z X G (gw_M0 ad) σ (gw_D none (gw_M0 ad) (ly σ r m)) gw_no 0 0) 0 0 (gw_M0 ad) (itr i (lyI r m (k : Nat)) (lyD σ1 r m (k : Nat))) 65 [some (vR (some r)), some (vI (k : Nat)), some (vI (i : Nat))] [] := by
          refine up_ind _ ((rAt σ1 (m + 19) 60 (k : Nat)).toNat) (fun i hi ihi => ?_)
          have hof2 := hdf.itr (fun j x => lyI_off (m := m) (k : Nat) j x) i
          have h19 := hof2.at (c := m + 19) (n := 60) (i := (k : Nat)) (by omega)
          have hp9 : okI (rAt σ1 (m + 19) 60 (k : Nat)) := by
            unfold rAt; split
            · exact hok9 _
            · unfold okI; omega
          unfold okI at hp9
          refine g_iload_n fx dX5_lay_65 rfl ?_
          refine g_aload_n fx dX5_lay_66 rfl ?_
          refine g_getr fx dX5_lay_67 fk_RX5_53 (run_O hr) (run_f0 hr) ?_
          refine g_getr fx dX5_lay_70 fk_RX5_106 (mill_O (run_h0 hr)) (mill_f14 (run_h0 hr)) ?_
          refine g_iload_n fx dX5_lay_73 rfl ?_
          refine g_callVD fx dX5_lay_74 mv_RX5_72 my_X4_at (s_X4_atC ad _ (mill_h14 (run_h0 hr)) (show (m + 18) + 1 = (m + 19) from rfl) _) (row_O (mill_h14 (run_h0 hr))) rfl rfl rfl (Nat.le_of_ble_eq_true rfl) (by decide) (by decide) ?_
          refine g_icmp_ge (tgt := 128) fx dX5_lay_77 (by decide) (fun h77 => ?_) (fun h77 => ?_)
          · refine g_iinc1 fx dX5_lay_128 (by decide) rfl rfl (by unfold okI; omega) rfl ?_
            refine g_goto (tgt := 12) fx dX5_lay_131 (by decide) ?_
            refine g_kill 2 rfl ?_
            exact gw_cg (by rw [itr_s, hσ1, lyS]; congr 1; omega) rfl (ih (by omega))
          · refine g_aload_n fx dX5_lay_80 rfl ?_
            refine g_getr fx dX5_lay_81 fk_RX5_14 (run_O hr) (run_f3 hr) ?_
            refine g_aload_n fx dX5_lay_84 rfl ?_
            refine g_geti fx dX5_lay_85 fk_RX5_60 (by decide) (run_O hr) ?_
            refine g_iload_n fx dX5_lay_88 rfl ?_
            refine g_callVD0 fx dX5_lay_89 mv_RX5_102 my_X4_put (s_X4_putC ad _ (run_h3 hr) (show (r + 1) + 1 = (r + 2) from rfl) _ _) (row_O (run_h3 hr)) rfl rfl rfl (Nat.le_of_ble_eq_true rfl) (by decide) (by decide) ?_
            refine g_aload_n fx dX5_lay_92 rfl ?_
            refine g_getr fx dX5_lay_93 fk_RX5_20 (run_O hr) (run_f4 hr) ?_
            refine g_aload_n fx dX5_lay_96 rfl ?_
            refine g_geti fx dX5_lay_97 fk_RX5_60 (by decide) (run_O hr) ?_
            refine g_aload_n fx dX5_lay_100 rfl ?_
            refine g_getr fx dX5_lay_101 fk_RX5_53 (run_O hr) (run_f0 hr) ?_
            refine g_iload_n fx dX5_lay_104 rfl ?_
            refine g_iload_n fx dX5_lay_105 rfl ?_
            refine g_callVD fx dX5_lay_106 mv_RX5_109 my_X1_cutAt (s_X1_cutAt ad _ (run_h0 hr) _ _) (mill_O (run_h0 hr)) rfl rfl rfl (Nat.le_of_ble_eq_true rfl) (by decide) (by decide) ?_
            refine g_callVD0 fx dX5_lay_109 mv_RX5_102 my_X4_put (s_X4_putC ad _ (run_h4 hr) (show (r + 3) + 1 = (r + 4) from rfl) _ _) (row_O (run_h4 hr)) rfl rfl rfl (Nat.le_of_ble_eq_true rfl) (by decide) (by decide) ?_
            refine g_aload_n fx dX5_lay_112 rfl ?_
            refine g_dup fx dX5_lay_113 rfl ?_
            refine g_geti fx dX5_lay_114 fk_RX5_60 (by decide) (run_O hr) ?_
            refine g_iconst fx dX5_lay_117 (by unfold okI; omega) ?_
            refine g_iadd fx dX5_lay_118 ?_
            refine g_puti fx dX5_lay_119 fk_RX5_60 (run_O hr) ?_
            refine g_iinc1 fx dX5_lay_122 (by decide) rfl rfl (by unfold okI; omega) rfl ?_
            refine g_goto (tgt := 65) fx dX5_lay_125 (by decide) ?_
            exact gw_cg (by rw [itr_s, lyI]) rfl (ihi (by omega))
        exact gw_cg (by rw [lyD]; (repeat first | rw [if_pos (by omega)] | rw [if_neg (by omega)]) <;> rfl) rfl (loop65 0 (Nat.zero_le _))
      · refine g_sipush fx dX5_lay_43 (by decide) ?_
        refine g_goto (tgt := 60) fx dX5_lay_46 (by decide) ?_
        refine g_callVD0 fx dX5_lay_60 mv_RX5_102 my_X4_put (s_X4_putC ad _ (run_h11 hr) (show (r + 17) + 1 = (r + 18) from rfl) _ _) (row_O (run_h11 hr)) rfl rfl rfl (Nat.le_of_ble_eq_true rfl) (by decide) (by decide) ?_
        refine g_iconst fx dX5_lay_63 (by unfold okI; omega) ?_
        refine g_istore_n fx dX5_lay_64 (by decide) rfl rfl ?_
        have loop65 : ∀ i : Nat, i ≤ (rAt σ1 (m + 19) 60 (k : Nat)).toNat → gw_W X (yX5_lay.cls, cX5_lay, 3, none, 3, 0, 0) G (gw_Z X G (gw_M0 ad) σ (gw_D none (gw_M0 ad) (ly σ r m)) gw_no 0 0) 0 0 (gw_M0 ad) (itr i (lyI r m (k : Nat)) (lyD σ1 r m (k : Nat))) 65 [some (vR (some r)), some (vI (k : Nat)), some (vI (i : Nat))] [] := by
          refine up_ind _ ((rAt σ1 (m + 19) 60 (k : Nat)).toNat) (fun i hi ihi => ?_)
          have hof2 := hdf.itr (fun j x => lyI_off (m := m) (k : Nat) j x) i
          have h19 := hof2.at (c := m + 19) (n := 60) (i := (k : Nat)) (by omega)
          have hp9 : okI (rAt σ1 (m + 19) 60 (k : Nat)) := by
            unfold rAt; split
            · exact hok9 _
            · unfold okI; omega
          unfold okI at hp9
          refine g_iload_n fx dX5_lay_65 rfl ?_
          refine g_aload_n fx dX5_lay_66 rfl ?_
          refine g_getr fx dX5_lay_67 fk_RX5_53 (run_O hr) (run_f0 hr) ?_
          refine g_getr fx dX5_lay_70 fk_RX5_106 (mill_O (run_h0 hr)) (mill_f14 (run_h0 hr)) ?_
          refine g_iload_n fx dX5_lay_73 rfl ?_
          refine g_callVD fx dX5_lay_74 mv_RX5_72 my_X4_at (s_X4_atC ad _ (mill_h14 (run_h0 hr)) (show (m + 18) + 1 = (m + 19) from rfl) _) (row_O (mill_h14 (run_h0 hr))) rfl rfl rfl (Nat.le_of_ble_eq_true rfl) (by decide) (by decide) ?_
          refine g_icmp_ge (tgt := 128) fx dX5_lay_77 (by decide) (fun h77 => ?_) (fun h77 => ?_)
          · refine g_iinc1 fx dX5_lay_128 (by decide) rfl rfl (by unfold okI; omega) rfl ?_
            refine g_goto (tgt := 12) fx dX5_lay_131 (by decide) ?_
            refine g_kill 2 rfl ?_
            exact gw_cg (by rw [itr_s, hσ1, lyS]; congr 1; omega) rfl (ih (by omega))
          · refine g_aload_n fx dX5_lay_80 rfl ?_
            refine g_getr fx dX5_lay_81 fk_RX5_14 (run_O hr) (run_f3 hr) ?_
            refine g_aload_n fx dX5_lay_84 rfl ?_
            refine g_geti fx dX5_lay_85 fk_RX5_60 (by decide) (run_O hr) ?_
            refine g_iload_n fx dX5_lay_88 rfl ?_
            refine g_callVD0 fx dX5_lay_89 mv_RX5_102 my_X4_put (s_X4_putC ad _ (run_h3 hr) (show (r + 1) + 1 = (r + 2) from rfl) _ _) (row_O (run_h3 hr)) rfl rfl rfl (Nat.le_of_ble_eq_true rfl) (by decide) (by decide) ?_
            refine g_aload_n fx dX5_lay_92 rfl ?_
            refine g_getr fx dX5_lay_93 fk_RX5_20 (run_O hr) (run_f4 hr) ?_
            refine g_aload_n fx dX5_lay_96 rfl ?_
            refine g_geti fx dX5_lay_97 fk_RX5_60 (by decide) (run_O hr) ?_
            refine g_aload_n fx dX5_lay_100 rfl ?_
            refine g_getr fx dX5_lay_101 fk_RX5_53 (run_O hr) (run_f0 hr) ?_
            refine g_iload_n fx dX5_lay_104 rfl ?_
            refine g_iload_n fx dX5_lay_105 rfl ?_
            refine g_callVD fx dX5_lay_106 mv_RX5_109 my_X1_cutAt (s_X1_cutAt ad _ (run_h0 hr) _ _) (mill_O (run_h0 hr)) rfl rfl rfl (Nat.le_of_ble_eq_true rfl) (by decide) (by decide) ?_
            refine g_callVD0 fx dX5_lay_109 mv_RX5_102 my_X4_put (s_X4_putC ad _ (run_h4 hr) (show (r + 3) + 1 = (r + 4) from rfl) _ _) (row_O (run_h4 hr)) rfl rfl rfl (Nat.le_of_ble_eq_true rfl) (by decide) (by decide) ?_
            refine g_aload_n fx dX5_lay_112 rfl ?_
            refine g_dup fx dX5_lay_113 rfl ?_
            refine g_geti fx dX5_lay_114 fk_RX5_60 (by decide) (run_O hr) ?_
            refine g_iconst fx dX5_lay_117 (by unfold okI; omega) ?_
            refine g_iadd fx dX5_lay_118 ?_
            refine g_puti fx dX5_lay_119 fk_RX5_60 (run_O hr) ?_
            refine g_iinc1 fx dX5_lay_122 (by decide) rfl rfl (by unfold okI; omega) rfl ?_
            refine g_goto (tgt := 65) fx dX5_lay_125 (by decide) ?_
            exact gw_cg (by rw [itr_s, lyI]) rfl (ihi (by omega))
        exact gw_cg (by rw [lyD]; (repeat first | rw [if_pos (by omega)] | rw [if_neg (by omega)]) <;> rfl) rfl (loop65 0 (Nat.zero_le _))
  exact loop12 0 (Nat.zero_le _)
set_option maxRecDepth 4000 in
theorem s_X5_go (ad : Nat → Nat) (σ : Sg) {r m : Nat} (hr : (r, m) ∈ gw_runs) : gw_Sp yX5_go cX5_go 5 none 5 0 0 [vR (some r)] (gw_M0 ad) σ (gw_D none (gw_M0 ad) (go σ r m)) gw_no := by
  refine gw_Sp.of [some (vR (some r)), none, none, none, none] (by decide +kernel) rfl (Nat.le_of_ble_eq_true rfl) ?_
  intro X G fx het hnm
  refine g_aload_n fx dX5_go_0 rfl ?_
  refine g_callVD0 fx dX5_go_1 mv_RX5_57 my_X5_lay (s_X5_lay ad _ hr) (run_O hr) rfl rfl rfl (Nat.le_of_ble_eq_true rfl) (by decide) (by decide) ?_
  refine g_okS (fun hok => ?_)
  have hq1 := gw_okO 1 hok (run_O hr) (by decide)
  unfold okI at hq1
  refine g_iconst fx dX5_go_4 (by unfold okI; omega) ?_
  refine g_istore_n fx dX5_go_5 (by decide) rfl rfl ?_
  have loop6 : ∀ k : Nat, k ≤ (ly σ r m r 1).toNat → gw_W X (yX5_go.cls, cX5_go, 5, none, 5, 0, 0) G (gw_Z X G (gw_M0 ad) σ (gw_D none (gw_M0 ad) (go σ r m)) gw_no 0 0) 0 0 (gw_M0 ad) (itr k (goS r m) (ly σ r m)) 6 [some (vR (some r)), some (vI (k : Nat)), none, none, none] [] := by
    refine up_ind _ ((ly σ r m r 1).toNat) (fun k hk ih => ?_)
    have h1 := goS_1 (r := r) (m := m) k (ly σ r m)
    refine g_iload_n fx dX5_go_6 rfl ?_
    refine g_aload_n fx dX5_go_7 rfl ?_
    refine g_geti fx dX5_go_8 fk_RX5_60 (by decide) (run_O hr) ?_
    refine g_icmp_ge (tgt := 60) fx dX5_go_11 (by decide) (fun h11 => ?_) (fun h11 => ?_)
    · exact g_vret fx rfl dX5_go_60 (by decide) (by decide) (gw_le.rf _) ⟨rfl, rfl, by rw [go, show k = (ly σ r m r 1).toNat by omega]⟩
    · refine g_aload_n fx dX5_go_14 rfl ?_
      refine g_callVD fx dX5_go_15 mv_RX5_64 my_X5_firstComing (s_X5_firstComing ad _ hr) (run_O hr) rfl rfl rfl (Nat.le_of_ble_eq_true rfl) (by decide) (by decide) ?_
      refine g_istore_n fx dX5_go_18 (by decide) rfl rfl ?_
      refine g_aload_n fx dX5_go_19 rfl ?_
      refine g_iload_n fx dX5_go_20 rfl ?_
      refine g_callVD fx dX5_go_21 mv_RX5_68 my_X5_firstStone (s_X5_firstStone ad _ hr _) (run_O hr) rfl rfl rfl (Nat.le_of_ble_eq_true rfl) (by decide) (by decide) ?_
      refine g_istore_n fx dX5_go_24 (by decide) rfl rfl ?_
      refine g_aload_n fx dX5_go_25 rfl ?_
      refine g_getr fx dX5_go_26 fk_RX5_44 (run_O hr) (run_f12 hr) ?_
      refine g_iload_n fx dX5_go_29 rfl ?_
      refine g_callVD fx dX5_go_30 mv_RX5_72 my_X4_at (s_X4_atC ad _ (run_h12 hr) (show (r + 19) + 1 = (r + 20) from rfl) _) (row_O (run_h12 hr)) rfl rfl rfl (Nat.le_of_ble_eq_true rfl) (by decide) (by decide) ?_
      refine g_iload_n fx dX5_go_33 rfl ?_
      refine g_max fx dX5_go_34 mm_RX5_75 (by decide) (by decide) (by decide) (Nat.le_of_ble_eq_true rfl) ?_
      refine g_istore fx dX5_go_37 (by decide) rfl rfl ?_
      refine g_aload_n fx dX5_go_39 rfl ?_
      refine g_iload_n fx dX5_go_40 rfl ?_
      refine g_aload_n fx dX5_go_41 rfl ?_
      refine g_iload_n fx dX5_go_42 rfl ?_
      refine g_iload fx dX5_go_43 rfl ?_
      refine g_callVD fx dX5_go_45 mv_RX5_81 my_X5_firstStanding (s_X5_firstStanding ad _ hr _ _) (run_O hr) rfl rfl rfl (Nat.le_of_ble_eq_true rfl) (by decide) (by decide) ?_
      refine g_iload_n fx dX5_go_48 rfl ?_
      refine g_iload fx dX5_go_49 rfl ?_
      refine g_callVD0 fx dX5_go_51 mv_RX5_84 my_X5_begin (s_X5_begin ad _ hr _ _ _ _) (run_O hr) rfl rfl rfl (Nat.le_of_ble_eq_true rfl) (by decide) (by decide) ?_
      refine g_iinc1 fx dX5_go_54 (by decide) rfl rfl (by unfold okI; omega) rfl ?_
      refine g_goto (tgt := 6) fx dX5_go_57 (by decide) ?_
      refine g_kill 2 rfl (g_kill 3 rfl (g_kill 4 rfl ?_))
      exact gw_cg (by rw [itr_s, goS]) rfl (ih (by omega))
  exact loop6 0 (Nat.zero_le _)
set_option maxRecDepth 4000 in
theorem s_X5_follow (ad : Nat → Nat) (σ : Sg) {r m : Nat} (hr : (r, m) ∈ gw_runs) {w n : Nat} (hw : (w, n) ∈ gw_rows) : gw_Sp yX5_follow cX5_follow 4 none 4 0 0 [vR (some r), vR (some w)] (gw_M0 ad) σ (gw_D none (gw_M0 ad) (fl σ r m (w + 1) n)) gw_no := by
  refine gw_Sp.of [some (vR (some r)), some (vR (some w)), none, none] (by decide +kernel) rfl (Nat.le_of_ble_eq_true rfl) ?_
  intro X G fx het hnm
  refine g_aload_n fx dX5_follow_0 rfl ?_
  refine g_callVD0 fx dX5_follow_1 mv_RX5_57 my_X5_lay (s_X5_lay ad _ hr) (run_O hr) rfl rfl rfl (Nat.le_of_ble_eq_true rfl) (by decide) (by decide) ?_
  refine g_okS (fun hok => ?_)
  have hq1 := gw_okO 1 hok (run_O hr) (by decide)
  unfold okI at hq1
  refine g_iconst fx dX5_follow_4 (by unfold okI; omega) ?_
  refine g_istore_n fx dX5_follow_5 (by decide) rfl rfl ?_
  have loop6 : ∀ k : Nat, k ≤ (ly σ r m r 1).toNat → gw_W X (yX5_follow.cls, cX5_follow, 4, none, 4, 0, 0) G (gw_Z X G (gw_M0 ad) σ (gw_D none (gw_M0 ad) (fl σ r m (w + 1) n)) gw_no 0 0) 0 0 (gw_M0 ad) (itr k (flS r m (w + 1) n) (ly σ r m)) 6 [some (vR (some r)), some (vR (some w)), some (vI (k : Nat)), none] [] := by
    refine up_ind _ ((ly σ r m r 1).toNat) (fun k hk ih => ?_)
    have h1 := flS_1 (r := r) (m := m) (w := w + 1) (n := n) k (ly σ r m)
    refine g_iload_n fx dX5_follow_6 rfl ?_
    refine g_aload_n fx dX5_follow_7 rfl ?_
    refine g_geti fx dX5_follow_8 fk_RX5_60 (by decide) (run_O hr) ?_
    refine g_icmp_ge (tgt := 49) fx dX5_follow_11 (by decide) (fun h11 => ?_) (fun h11 => ?_)
    · exact g_vret fx rfl dX5_follow_49 (by decide) (by decide) (gw_le.rf _) ⟨rfl, rfl, by rw [fl, show k = (ly σ r m r 1).toNat by omega]⟩
    · refine g_aload_n fx dX5_follow_14 rfl ?_
      refine g_iload_n fx dX5_follow_15 rfl ?_
      refine g_callVD fx dX5_follow_16 mv_RX5_72 my_X4_at (s_X4_atC ad _ hw (show w + 1 = (w + 1) from rfl) _) (row_O hw) rfl rfl rfl (Nat.le_of_ble_eq_true rfl) (by decide) (by decide) ?_
      refine g_istore_n fx dX5_follow_19 (by decide) rfl rfl ?_
      refine g_aload_n fx dX5_follow_20 rfl ?_
      refine g_iload_n fx dX5_follow_21 rfl ?_
      refine g_iload_n fx dX5_follow_22 rfl ?_
      refine g_iconst fx dX5_follow_23 (by unfold okI; omega) ?_
      refine g_aload_n fx dX5_follow_24 rfl ?_
      refine g_getr fx dX5_follow_25 fk_RX5_44 (run_O hr) (run_f12 hr) ?_
      refine g_iconst fx dX5_follow_28 (by unfold okI; omega) ?_
      refine g_callVD fx dX5_follow_29 mv_RX5_72 my_X4_at (s_X4_atC ad _ (run_h12 hr) (show (r + 19) + 1 = (r + 20) from rfl) _) (row_O (run_h12 hr)) rfl rfl rfl (Nat.le_of_ble_eq_true rfl) (by decide) (by decide) ?_
      refine g_aload_n fx dX5_follow_32 rfl ?_
      refine g_iload_n fx dX5_follow_33 rfl ?_
      refine g_callVD fx dX5_follow_34 mv_RX5_88 my_X5_comeOf (s_X5_comeOf ad _ hr _) (run_O hr) rfl rfl rfl (Nat.le_of_ble_eq_true rfl) (by decide) (by decide) ?_
      refine g_max fx dX5_follow_37 mm_RX5_75 (by decide) (by decide) (by decide) (Nat.le_of_ble_eq_true rfl) ?_
      refine g_callVD0 fx dX5_follow_40 mv_RX5_84 my_X5_begin (s_X5_begin ad _ hr _ _ _ _) (run_O hr) rfl rfl rfl (Nat.le_of_ble_eq_true rfl) (by decide) (by decide) ?_
      refine g_iinc1 fx dX5_follow_43 (by decide) rfl rfl (by unfold okI; omega) rfl ?_
      refine g_goto (tgt := 6) fx dX5_follow_46 (by decide) ?_
      refine g_kill 3 rfl ?_
      exact gw_cg (by rw [itr_s, flS]) rfl (ih (by omega))
  exact loop6 0 (Nat.zero_le _)
set_option maxRecDepth 4000 in
theorem s_X5_pieceBegun (ad : Nat → Nat) (σ : Sg) {r m : Nat} (hr : (r, m) ∈ gw_runs) (k : Int) : gw_Sp yX5_pieceBegun cX5_pieceBegun 2 (some .int) 2 0 0 [vR (some r), vI k] (gw_M0 ad) σ (gw_D (some (vI (uPB σ r k))) (gw_M0 ad) (σ)) gw_no := by
  refine gw_Sp.of [some (vR (some r)), some (vI k)] (by decide +kernel) rfl (Nat.le_of_ble_eq_true rfl) ?_
  intro X G fx het hnm
  refine g_iload_n fx dX5_pieceBegun_0 rfl ?_
  refine g_if_lt (tgt := 23) fx dX5_pieceBegun_1 (by decide) (fun h1 => ?_) (fun h1 => ?_)
  · refine g_iconst fx dX5_pieceBegun_23 (by unfold okI; omega) ?_
    exact g_iret fx rfl dX5_pieceBegun_24 (by decide) (by decide) (gw_le.rf _) ⟨by rw [uPB]; (repeat first | rw [if_pos (by omega)] | rw [if_neg (by omega)]) <;> rfl, rfl, rfl⟩
  · refine g_iload_n fx dX5_pieceBegun_4 rfl ?_
    refine g_aload_n fx dX5_pieceBegun_5 rfl ?_
    refine g_geti fx dX5_pieceBegun_6 fk_RX5_60 (by decide) (run_O hr) ?_
    refine g_icmp_ge (tgt := 23) fx dX5_pieceBegun_9 (by decide) (fun h9 => ?_) (fun h9 => ?_)
    · refine g_iconst fx dX5_pieceBegun_23 (by unfold okI; omega) ?_
      exact g_iret fx rfl dX5_pieceBegun_24 (by decide) (by decide) (gw_le.rf _) ⟨by rw [uPB]; (repeat first | rw [if_pos (by omega)] | rw [if_neg (by omega)]) <;> rfl, rfl, rfl⟩
    · refine g_aload_n fx dX5_pieceBegun_12 rfl ?_
      refine g_getr fx dX5_pieceBegun_13 fk_RX5_35 (run_O hr) (run_f9 hr) ?_
      refine g_iload_n fx dX5_pieceBegun_16 rfl ?_
      refine g_callVD fx dX5_pieceBegun_17 mv_RX5_72 my_X4_at (s_X4_atC ad _ (run_h9 hr) (show (r + 13) + 1 = (r + 14) from rfl) _) (row_O (run_h9 hr)) rfl rfl rfl (Nat.le_of_ble_eq_true rfl) (by decide) (by decide) ?_
      refine g_goto (tgt := 24) fx dX5_pieceBegun_20 (by decide) ?_
      exact g_iret fx rfl dX5_pieceBegun_24 (by decide) (by decide) (gw_le.rf _) ⟨by rw [uPB]; (repeat first | rw [if_pos (by omega)] | rw [if_neg (by omega)]) <;> rfl, rfl, rfl⟩
set_option maxRecDepth 4000 in
theorem s_X5_isOrdered (ad : Nat → Nat) (σ : Sg) {r m : Nat} (hr : (r, m) ∈ gw_runs) {w n : Nat} (hw : (w, n) ∈ gw_rows) : gw_Sp yX5_isOrdered cX5_isOrdered 4 (some .boolean) 2 0 0 [vR (some r), vR (some w)] (gw_M0 ad) σ (gw_D (some (vI (ioF σ r (w + 1) n))) (gw_M0 ad) (σ)) gw_no := by
  refine gw_Sp.of [some (vR (some r)), some (vR (some w)), none, none] (by decide +kernel) rfl (Nat.le_of_ble_eq_true rfl) ?_
  intro X G fx het hnm
  refine g_okS (fun hok => ?_)
  have hq1 := gw_okO 1 hok (run_O hr) (by decide)
  unfold okI at hq1
  refine g_iconst fx dX5_isOrdered_0 (by unfold okI; omega) ?_
  refine g_istore_n fx dX5_isOrdered_1 (by decide) rfl rfl ?_
  refine g_iconst fx dX5_isOrdered_2 (by unfold okI; omega) ?_
  refine g_istore_n fx dX5_isOrdered_3 (by decide) rfl rfl ?_
  have loop4 : ∀ k : Nat, k ≤ (σ r 1).toNat → gw_W X (yX5_isOrdered.cls, cX5_isOrdered, 4, (some .boolean), 2, 0, 0) G (gw_Z X G (gw_M0 ad) σ (gw_D (some (vI (ioF σ r (w + 1) n))) (gw_M0 ad) (σ)) gw_no 0 0) 0 0 (gw_M0 ad) (σ) 4 [some (vR (some r)), some (vR (some w)), some (vI (itr k (ioS σ r (w + 1) n) 1)), some (vI (k : Nat))] [] := by
    refine up_ind _ ((σ r 1).toNat) (fun k hk ih => ?_)
    have hb := ioS_b σ r (w + 1) n k
    refine g_iload_n fx dX5_isOrdered_4 rfl ?_
    refine g_aload_n fx dX5_isOrdered_5 rfl ?_
    refine g_geti fx dX5_isOrdered_6 fk_RX5_60 (by decide) (run_O hr) ?_
    refine g_icmp_ge (tgt := 44) fx dX5_isOrdered_9 (by decide) (fun h9 => ?_) (fun h9 => ?_)
    · refine g_iload_n fx dX5_isOrdered_44 rfl ?_
      exact g_zret fx rfl dX5_isOrdered_45 hb (by decide) (by decide) (gw_le.rf _) ⟨by first | rw [ioF, show k = (σ r 1).toNat by omega] | (have hz := ioS_0 σ r (w + 1) n k ((σ r 1).toNat - k) h13; rw [show k + ((σ r 1).toNat - k) = (σ r 1).toNat by omega] at hz; rw [ioF, hz, h13]), rfl, rfl⟩
    · refine g_iload_n fx dX5_isOrdered_12 rfl ?_
      refine g_if_eq (tgt := 44) fx dX5_isOrdered_13 (by decide) (fun h13 => ?_) (fun h13 => ?_)
      · refine g_iload_n fx dX5_isOrdered_44 rfl ?_
        exact g_zret fx rfl dX5_isOrdered_45 hb (by decide) (by decide) (gw_le.rf _) ⟨by first | rw [ioF, show k = (σ r 1).toNat by omega] | (have hz := ioS_0 σ r (w + 1) n k ((σ r 1).toNat - k) h13; rw [show k + ((σ r 1).toNat - k) = (σ r 1).toNat by omega] at hz; rw [ioF, hz, h13]), rfl, rfl⟩
      · refine g_aload_n fx dX5_isOrdered_16 rfl ?_
        refine g_getr fx dX5_isOrdered_17 fk_RX5_35 (run_O hr) (run_f9 hr) ?_
        refine g_iload_n fx dX5_isOrdered_20 rfl ?_
        refine g_callVD fx dX5_isOrdered_21 mv_RX5_72 my_X4_at (s_X4_atC ad _ (run_h9 hr) (show (r + 13) + 1 = (r + 14) from rfl) _) (row_O (run_h9 hr)) rfl rfl rfl (Nat.le_of_ble_eq_true rfl) (by decide) (by decide) ?_
        refine g_aload_n fx dX5_isOrdered_24 rfl ?_
        refine g_iload_n fx dX5_isOrdered_25 rfl ?_
        refine g_callVD fx dX5_isOrdered_26 mv_RX5_72 my_X4_at (s_X4_atC ad _ hw (show w + 1 = (w + 1) from rfl) _) (row_O hw) rfl rfl rfl (Nat.le_of_ble_eq_true rfl) (by decide) (by decide) ?_
        refine g_icmp_ne (tgt := 36) fx dX5_isOrdered_29 (by decide) (fun h29 => ?_) (fun h29 => ?_)
        · refine g_iconst fx dX5_isOrdered_36 (by unfold okI; omega) ?_
          refine g_istore_n fx dX5_isOrdered_37 (by decide) rfl rfl ?_
          refine g_iinc1 fx dX5_isOrdered_38 (by decide) rfl rfl (by unfold okI; omega) rfl ?_
          refine g_goto (tgt := 4) fx dX5_isOrdered_41 (by decide) ?_
          exact gw_cg rfl (by rw [itr_s, ioS]; (repeat first | rw [if_pos (by omega)] | rw [if_neg (by omega)]); rfl) (ih (by omega))
        · refine g_iconst fx dX5_isOrdered_32 (by unfold okI; omega) ?_
          refine g_goto (tgt := 37) fx dX5_isOrdered_33 (by decide) ?_
          refine g_istore_n fx dX5_isOrdered_37 (by decide) rfl rfl ?_
          refine g_iinc1 fx dX5_isOrdered_38 (by decide) rfl rfl (by unfold okI; omega) rfl ?_
          refine g_goto (tgt := 4) fx dX5_isOrdered_41 (by decide) ?_
          exact gw_cg rfl (by rw [itr_s, ioS]; (repeat first | rw [if_pos (by omega)] | rw [if_neg (by omega)]); rfl) (ih (by omega))
  exact loop4 0 (Nat.zero_le _)
set_option maxRecDepth 4000 in
theorem s_X5_waitOf (ad : Nat → Nat) (σ : Sg) {r m : Nat} (hr : (r, m) ∈ gw_runs) (s : Int) : gw_Sp yX5_waitOf cX5_waitOf 2 (some .int) 2 0 0 [vR (some r), vI s] (gw_M0 ad) σ (gw_D (some (vI (uW σ r m s))) (gw_M0 ad) (σ)) gw_no := by
  refine gw_Sp.of [some (vR (some r)), some (vI s)] (by decide +kernel) rfl (Nat.le_of_ble_eq_true rfl) ?_
  intro X G fx het hnm
  refine g_aload_n fx dX5_waitOf_0 rfl ?_
  refine g_getr fx dX5_waitOf_1 fk_RX5_38 (run_O hr) (run_f10 hr) ?_
  refine g_iload_n fx dX5_waitOf_4 rfl ?_
  refine g_callVD fx dX5_waitOf_5 mv_RX5_72 my_X4_at (s_X4_atC ad _ (run_h10 hr) (show (r + 15) + 1 = (r + 16) from rfl) _) (row_O (run_h10 hr)) rfl rfl rfl (Nat.le_of_ble_eq_true rfl) (by decide) (by decide) ?_
  refine g_aload_n fx dX5_waitOf_8 rfl ?_
  refine g_getr fx dX5_waitOf_9 fk_RX5_53 (run_O hr) (run_f0 hr) ?_
  refine g_getr fx dX5_waitOf_12 fk_RX5_157 (mill_O (run_h0 hr)) (mill_f10 (run_h0 hr)) ?_
  refine g_iload_n fx dX5_waitOf_15 rfl ?_
  refine g_callVD fx dX5_waitOf_16 mv_RX5_72 my_X4_at (s_X4_atC ad _ (mill_h10 (run_h0 hr)) (show (m + 10) + 1 = (m + 11) from rfl) _) (row_O (mill_h10 (run_h0 hr))) rfl rfl rfl (Nat.le_of_ble_eq_true rfl) (by decide) (by decide) ?_
  refine g_isub fx dX5_waitOf_19 ?_
  exact g_iret fx rfl dX5_waitOf_20 (by decide) (by decide) (gw_le.rf _) ⟨rfl, rfl, rfl⟩
set_option maxRecDepth 4000 in
theorem s_X5_isLate (ad : Nat → Nat) (σ : Sg) {r m : Nat} (hr : (r, m) ∈ gw_runs) (s : Int) : gw_Sp yX5_isLate cX5_isLate 2 (some .boolean) 2 0 0 [vR (some r), vI s] (gw_M0 ad) σ (gw_D (some (vI (uLate σ r m s))) (gw_M0 ad) (σ)) gw_no := by
  refine gw_Sp.of [some (vR (some r)), some (vI s)] (by decide +kernel) rfl (Nat.le_of_ble_eq_true rfl) ?_
  intro X G fx het hnm
  refine g_aload_n fx dX5_isLate_0 rfl ?_
  refine g_getr fx dX5_isLate_1 fk_RX5_38 (run_O hr) (run_f10 hr) ?_
  refine g_iload_n fx dX5_isLate_4 rfl ?_
  refine g_callVD fx dX5_isLate_5 mv_RX5_72 my_X4_at (s_X4_atC ad _ (run_h10 hr) (show (r + 15) + 1 = (r + 16) from rfl) _) (row_O (run_h10 hr)) rfl rfl rfl (Nat.le_of_ble_eq_true rfl) (by decide) (by decide) ?_
  refine g_aload_n fx dX5_isLate_8 rfl ?_
  refine g_getr fx dX5_isLate_9 fk_RX5_53 (run_O hr) (run_f0 hr) ?_
  refine g_getr fx dX5_isLate_12 fk_RX5_99 (mill_O (run_h0 hr)) (mill_f13 (run_h0 hr)) ?_
  refine g_iload_n fx dX5_isLate_15 rfl ?_
  refine g_callVD fx dX5_isLate_16 mv_RX5_72 my_X4_at (s_X4_atC ad _ (mill_h13 (run_h0 hr)) (show (m + 16) + 1 = (m + 17) from rfl) _) (row_O (mill_h13 (run_h0 hr))) rfl rfl rfl (Nat.le_of_ble_eq_true rfl) (by decide) (by decide) ?_
  refine g_icmp_le (tgt := 41) fx dX5_isLate_19 (by decide) (fun h19 => ?_) (fun h19 => ?_)
  · refine g_iconst fx dX5_isLate_41 (by unfold okI; omega) ?_
    exact g_zret fx rfl dX5_isLate_42 (by first | exact Or.inl rfl | exact Or.inr rfl | omega) (by decide) (by decide) (gw_le.rf _) ⟨by rw [uLate]; (repeat first | rw [if_pos (by omega)] | rw [if_neg (by omega)]) <;> rfl, rfl, rfl⟩
  · refine g_aload_n fx dX5_isLate_22 rfl ?_
    refine g_getr fx dX5_isLate_23 fk_RX5_53 (run_O hr) (run_f0 hr) ?_
    refine g_getr fx dX5_isLate_26 fk_RX5_99 (mill_O (run_h0 hr)) (mill_f13 (run_h0 hr)) ?_
    refine g_iload_n fx dX5_isLate_29 rfl ?_
    refine g_callVD fx dX5_isLate_30 mv_RX5_72 my_X4_at (s_X4_atC ad _ (mill_h13 (run_h0 hr)) (show (m + 16) + 1 = (m + 17) from rfl) _) (row_O (mill_h13 (run_h0 hr))) rfl rfl rfl (Nat.le_of_ble_eq_true rfl) (by decide) (by decide) ?_
    refine g_iconst fx dX5_isLate_33 (by unfold okI; omega) ?_
    refine g_icmp_eq (tgt := 41) fx dX5_isLate_34 (by decide) (fun h34 => ?_) (fun h34 => ?_)
    · refine g_iconst fx dX5_isLate_41 (by unfold okI; omega) ?_
      exact g_zret fx rfl dX5_isLate_42 (by first | exact Or.inl rfl | exact Or.inr rfl | omega) (by decide) (by decide) (gw_le.rf _) ⟨by rw [uLate]; (repeat first | rw [if_pos (by omega)] | rw [if_neg (by omega)]) <;> rfl, rfl, rfl⟩
    · refine g_iconst fx dX5_isLate_37 (by unfold okI; omega) ?_
      refine g_goto (tgt := 42) fx dX5_isLate_38 (by decide) ?_
      exact g_zret fx rfl dX5_isLate_42 (by first | exact Or.inl rfl | exact Or.inr rfl | omega) (by decide) (by decide) (gw_le.rf _) ⟨by rw [uLate]; (repeat first | rw [if_pos (by omega)] | rw [if_neg (by omega)]) <;> rfl, rfl, rfl⟩
set_option maxRecDepth 4000 in
theorem s_X5_costOfAll (ad : Nat → Nat) (σ : Sg) {r m : Nat} (hr : (r, m) ∈ gw_runs) : gw_Sp yX5_costOfAll cX5_costOfAll 3 (some .int) 3 0 0 [vR (some r)] (gw_M0 ad) σ (gw_D (some (vI (coF σ r m))) (gw_M0 ad) (σ)) gw_no := by
  refine gw_Sp.of [some (vR (some r)), none, none] (by decide +kernel) rfl (Nat.le_of_ble_eq_true rfl) ?_
  intro X G fx het hnm
  refine g_okS (fun hok => ?_)
  have hq5 := gw_okO 5 hok (mill_O (run_h0 hr)) (by decide)
  unfold okI at hq5
  refine g_iconst fx dX5_costOfAll_0 (by unfold okI; omega) ?_
  refine g_istore_n fx dX5_costOfAll_1 (by decide) rfl rfl ?_
  refine g_iconst fx dX5_costOfAll_2 (by unfold okI; omega) ?_
  refine g_istore_n fx dX5_costOfAll_3 (by decide) rfl rfl ?_
  have loop4 : ∀ k : Nat, k ≤ (σ m 5).toNat → gw_W X (yX5_costOfAll.cls, cX5_costOfAll, 3, (some .int), 3, 0, 0) G (gw_Z X G (gw_M0 ad) σ (gw_D (some (vI (coF σ r m))) (gw_M0 ad) (σ)) gw_no 0 0) 0 0 (gw_M0 ad) (σ) 4 [some (vR (some r)), some (vI (itr k (coS σ r m) 0)), some (vI (k : Nat))] [] := by
    refine up_ind _ ((σ m 5).toNat) (fun k hk ih => ?_)
    refine g_iload_n fx dX5_costOfAll_4 rfl ?_
    refine g_aload_n fx dX5_costOfAll_5 rfl ?_
    refine g_getr fx dX5_costOfAll_6 fk_RX5_53 (run_O hr) (run_f0 hr) ?_
    refine g_geti fx dX5_costOfAll_9 fk_RX5_94 (by decide) (mill_O (run_h0 hr)) ?_
    refine g_icmp_ge (tgt := 41) fx dX5_costOfAll_12 (by decide) (fun h12 => ?_) (fun h12 => ?_)
    · refine g_iload_n fx dX5_costOfAll_41 rfl ?_
      exact g_iret fx rfl dX5_costOfAll_42 (by decide) (by decide) (gw_le.rf _) ⟨by rw [coF, show k = (σ m 5).toNat by omega], rfl, rfl⟩
    · refine g_iload_n fx dX5_costOfAll_15 rfl ?_
      refine g_aload_n fx dX5_costOfAll_16 rfl ?_
      refine g_getr fx dX5_costOfAll_17 fk_RX5_53 (run_O hr) (run_f0 hr) ?_
      refine g_getr fx dX5_costOfAll_20 fk_RX5_160 (mill_O (run_h0 hr)) (mill_f12 (run_h0 hr)) ?_
      refine g_iload_n fx dX5_costOfAll_23 rfl ?_
      refine g_callVD fx dX5_costOfAll_24 mv_RX5_72 my_X4_at (s_X4_atC ad _ (mill_h12 (run_h0 hr)) (show (m + 14) + 1 = (m + 15) from rfl) _) (row_O (mill_h12 (run_h0 hr))) rfl rfl rfl (Nat.le_of_ble_eq_true rfl) (by decide) (by decide) ?_
      refine g_aload_n fx dX5_costOfAll_27 rfl ?_
      refine g_iload_n fx dX5_costOfAll_28 rfl ?_
      refine g_callVD fx dX5_costOfAll_29 mv_RX5_163 my_X5_waitOf (s_X5_waitOf ad _ hr _) (run_O hr) rfl rfl rfl (Nat.le_of_ble_eq_true rfl) (by decide) (by decide) ?_
      refine g_imul fx dX5_costOfAll_32 ?_
      refine g_iadd fx dX5_costOfAll_33 ?_
      refine g_istore_n fx dX5_costOfAll_34 (by decide) rfl rfl ?_
      refine g_iinc1 fx dX5_costOfAll_35 (by decide) rfl rfl (by unfold okI; omega) rfl ?_
      refine g_goto (tgt := 4) fx dX5_costOfAll_38 (by decide) ?_
      exact gw_cg rfl (by rw [itr_s, coS]; rfl) (ih (by omega))
  exact loop4 0 (Nat.zero_le _)
set_option maxRecDepth 4000 in
theorem s_X5_allWaits (ad : Nat → Nat) (σ : Sg) {r m : Nat} (hr : (r, m) ∈ gw_runs) : gw_Sp yX5_allWaits cX5_allWaits 3 (some .int) 3 0 0 [vR (some r)] (gw_M0 ad) σ (gw_D (some (vI (awF σ r m))) (gw_M0 ad) (σ)) gw_no := by
  refine gw_Sp.of [some (vR (some r)), none, none] (by decide +kernel) rfl (Nat.le_of_ble_eq_true rfl) ?_
  intro X G fx het hnm
  refine g_okS (fun hok => ?_)
  have hq5 := gw_okO 5 hok (mill_O (run_h0 hr)) (by decide)
  unfold okI at hq5
  refine g_iconst fx dX5_allWaits_0 (by unfold okI; omega) ?_
  refine g_istore_n fx dX5_allWaits_1 (by decide) rfl rfl ?_
  refine g_iconst fx dX5_allWaits_2 (by unfold okI; omega) ?_
  refine g_istore_n fx dX5_allWaits_3 (by decide) rfl rfl ?_
  have loop4 : ∀ k : Nat, k ≤ (σ m 5).toNat → gw_W X (yX5_allWaits.cls, cX5_allWaits, 3, (some .int), 3, 0, 0) G (gw_Z X G (gw_M0 ad) σ (gw_D (some (vI (awF σ r m))) (gw_M0 ad) (σ)) gw_no 0 0) 0 0 (gw_M0 ad) (σ) 4 [some (vR (some r)), some (vI (itr k (awS σ r m) 0)), some (vI (k : Nat))] [] := by
    refine up_ind _ ((σ m 5).toNat) (fun k hk ih => ?_)
    refine g_iload_n fx dX5_allWaits_4 rfl ?_
    refine g_aload_n fx dX5_allWaits_5 rfl ?_
    refine g_getr fx dX5_allWaits_6 fk_RX5_53 (run_O hr) (run_f0 hr) ?_
    refine g_geti fx dX5_allWaits_9 fk_RX5_94 (by decide) (mill_O (run_h0 hr)) ?_
    refine g_icmp_ge (tgt := 29) fx dX5_allWaits_12 (by decide) (fun h12 => ?_) (fun h12 => ?_)
    · refine g_iload_n fx dX5_allWaits_29 rfl ?_
      exact g_iret fx rfl dX5_allWaits_30 (by decide) (by decide) (gw_le.rf _) ⟨by rw [awF, show k = (σ m 5).toNat by omega], rfl, rfl⟩
    · refine g_iload_n fx dX5_allWaits_15 rfl ?_
      refine g_aload_n fx dX5_allWaits_16 rfl ?_
      refine g_iload_n fx dX5_allWaits_17 rfl ?_
      refine g_callVD fx dX5_allWaits_18 mv_RX5_163 my_X5_waitOf (s_X5_waitOf ad _ hr _) (run_O hr) rfl rfl rfl (Nat.le_of_ble_eq_true rfl) (by decide) (by decide) ?_
      refine g_iadd fx dX5_allWaits_21 ?_
      refine g_istore_n fx dX5_allWaits_22 (by decide) rfl rfl ?_
      refine g_iinc1 fx dX5_allWaits_23 (by decide) rfl rfl (by unfold okI; omega) rfl ?_
      refine g_goto (tgt := 4) fx dX5_allWaits_26 (by decide) ?_
      exact gw_cg rfl (by rw [itr_s, awS]; rfl) (ih (by omega))
  exact loop4 0 (Nat.zero_le _)
set_option maxRecDepth 4000 in
theorem s_X5_lateSacks (ad : Nat → Nat) (σ : Sg) {r m : Nat} (hr : (r, m) ∈ gw_runs) : gw_Sp yX5_lateSacks cX5_lateSacks 3 (some .int) 3 0 0 [vR (some r)] (gw_M0 ad) σ (gw_D (some (vI (lsF σ r m))) (gw_M0 ad) (σ)) gw_no := by
  refine gw_Sp.of [some (vR (some r)), none, none] (by decide +kernel) rfl (Nat.le_of_ble_eq_true rfl) ?_
  intro X G fx het hnm
  refine g_okS (fun hok => ?_)
  have hq5 := gw_okO 5 hok (mill_O (run_h0 hr)) (by decide)
  unfold okI at hq5
  refine g_iconst fx dX5_lateSacks_0 (by unfold okI; omega) ?_
  refine g_istore_n fx dX5_lateSacks_1 (by decide) rfl rfl ?_
  refine g_iconst fx dX5_lateSacks_2 (by unfold okI; omega) ?_
  refine g_istore_n fx dX5_lateSacks_3 (by decide) rfl rfl ?_
  have loop4 : ∀ k : Nat, k ≤ (σ m 5).toNat → gw_W X (yX5_lateSacks.cls, cX5_lateSacks, 3, (some .int), 3, 0, 0) G (gw_Z X G (gw_M0 ad) σ (gw_D (some (vI (lsF σ r m))) (gw_M0 ad) (σ)) gw_no 0 0) 0 0 (gw_M0 ad) (σ) 4 [some (vR (some r)), some (vI (itr k (lsS σ r m) 0)), some (vI (k : Nat))] [] := by
    refine up_ind _ ((σ m 5).toNat) (fun k hk ih => ?_)
    refine g_iload_n fx dX5_lateSacks_4 rfl ?_
    refine g_aload_n fx dX5_lateSacks_5 rfl ?_
    refine g_getr fx dX5_lateSacks_6 fk_RX5_53 (run_O hr) (run_f0 hr) ?_
    refine g_geti fx dX5_lateSacks_9 fk_RX5_94 (by decide) (mill_O (run_h0 hr)) ?_
    refine g_icmp_ge (tgt := 37) fx dX5_lateSacks_12 (by decide) (fun h12 => ?_) (fun h12 => ?_)
    · refine g_iload_n fx dX5_lateSacks_37 rfl ?_
      exact g_iret fx rfl dX5_lateSacks_38 (by decide) (by decide) (gw_le.rf _) ⟨by rw [lsF, show k = (σ m 5).toNat by omega], rfl, rfl⟩
    · refine g_iload_n fx dX5_lateSacks_15 rfl ?_
      refine g_aload_n fx dX5_lateSacks_16 rfl ?_
      refine g_iload_n fx dX5_lateSacks_17 rfl ?_
      refine g_callVD fx dX5_lateSacks_18 mv_RX5_166 my_X5_isLate (s_X5_isLate ad _ hr _) (run_O hr) rfl rfl rfl (Nat.le_of_ble_eq_true rfl) (by decide) (by decide) ?_
      refine g_if_eq (tgt := 28) fx dX5_lateSacks_21 (by decide) (fun h21 => ?_) (fun h21 => ?_)
      · refine g_iconst fx dX5_lateSacks_28 (by unfold okI; omega) ?_
        refine g_iadd fx dX5_lateSacks_29 ?_
        refine g_istore_n fx dX5_lateSacks_30 (by decide) rfl rfl ?_
        refine g_iinc1 fx dX5_lateSacks_31 (by decide) rfl rfl (by unfold okI; omega) rfl ?_
        refine g_goto (tgt := 4) fx dX5_lateSacks_34 (by decide) ?_
        exact gw_cg rfl (by rw [itr_s, lsS]; (repeat first | rw [if_pos (by omega)] | rw [if_neg (by omega)]); rfl) (ih (by omega))
      · refine g_iconst fx dX5_lateSacks_24 (by unfold okI; omega) ?_
        refine g_goto (tgt := 29) fx dX5_lateSacks_25 (by decide) ?_
        refine g_iadd fx dX5_lateSacks_29 ?_
        refine g_istore_n fx dX5_lateSacks_30 (by decide) rfl rfl ?_
        refine g_iinc1 fx dX5_lateSacks_31 (by decide) rfl rfl (by unfold okI; omega) rfl ?_
        refine g_goto (tgt := 4) fx dX5_lateSacks_34 (by decide) ?_
        exact gw_cg rfl (by rw [itr_s, lsS]; (repeat first | rw [if_pos (by omega)] | rw [if_neg (by omega)]); rfl) (ih (by omega))
  exact loop4 0 (Nat.zero_le _)
set_option maxRecDepth 4000 in
theorem s_X5_lastEnd (ad : Nat → Nat) (σ : Sg) {r m : Nat} (hr : (r, m) ∈ gw_runs) : gw_Sp yX5_lastEnd cX5_lastEnd 3 (some .int) 2 0 0 [vR (some r)] (gw_M0 ad) σ (gw_D (some (vI (leF σ r m))) (gw_M0 ad) (σ)) gw_no := by
  refine gw_Sp.of [some (vR (some r)), none, none] (by decide +kernel) rfl (Nat.le_of_ble_eq_true rfl) ?_
  intro X G fx het hnm
  refine g_okS (fun hok => ?_)
  have hq5 := gw_okO 5 hok (mill_O (run_h0 hr)) (by decide)
  unfold okI at hq5
  refine g_iconst fx dX5_lastEnd_0 (by unfold okI; omega) ?_
  refine g_istore_n fx dX5_lastEnd_1 (by decide) rfl rfl ?_
  refine g_iconst fx dX5_lastEnd_2 (by unfold okI; omega) ?_
  refine g_istore_n fx dX5_lastEnd_3 (by decide) rfl rfl ?_
  have loop4 : ∀ k : Nat, k ≤ (σ m 5).toNat → gw_W X (yX5_lastEnd.cls, cX5_lastEnd, 3, (some .int), 2, 0, 0) G (gw_Z X G (gw_M0 ad) σ (gw_D (some (vI (leF σ r m))) (gw_M0 ad) (σ)) gw_no 0 0) 0 0 (gw_M0 ad) (σ) 4 [some (vR (some r)), some (vI (itr k (leS σ r) 0)), some (vI (k : Nat))] [] := by
    refine up_ind _ ((σ m 5).toNat) (fun k hk ih => ?_)
    refine g_iload_n fx dX5_lastEnd_4 rfl ?_
    refine g_aload_n fx dX5_lastEnd_5 rfl ?_
    refine g_getr fx dX5_lastEnd_6 fk_RX5_53 (run_O hr) (run_f0 hr) ?_
    refine g_geti fx dX5_lastEnd_9 fk_RX5_94 (by decide) (mill_O (run_h0 hr)) ?_
    refine g_icmp_ge (tgt := 34) fx dX5_lastEnd_12 (by decide) (fun h12 => ?_) (fun h12 => ?_)
    · refine g_iload_n fx dX5_lastEnd_34 rfl ?_
      exact g_iret fx rfl dX5_lastEnd_35 (by decide) (by decide) (gw_le.rf _) ⟨by rw [leF, show k = (σ m 5).toNat by omega], rfl, rfl⟩
    · refine g_iload_n fx dX5_lastEnd_15 rfl ?_
      refine g_aload_n fx dX5_lastEnd_16 rfl ?_
      refine g_getr fx dX5_lastEnd_17 fk_RX5_38 (run_O hr) (run_f10 hr) ?_
      refine g_iload_n fx dX5_lastEnd_20 rfl ?_
      refine g_callVD fx dX5_lastEnd_21 mv_RX5_72 my_X4_at (s_X4_atC ad _ (run_h10 hr) (show (r + 15) + 1 = (r + 16) from rfl) _) (row_O (run_h10 hr)) rfl rfl rfl (Nat.le_of_ble_eq_true rfl) (by decide) (by decide) ?_
      refine g_max fx dX5_lastEnd_24 mm_RX5_75 (by decide) (by decide) (by decide) (Nat.le_of_ble_eq_true rfl) ?_
      refine g_istore_n fx dX5_lastEnd_27 (by decide) rfl rfl ?_
      refine g_iinc1 fx dX5_lastEnd_28 (by decide) rfl rfl (by unfold okI; omega) rfl ?_
      refine g_goto (tgt := 4) fx dX5_lastEnd_31 (by decide) ?_
      exact gw_cg rfl (by rw [itr_s, leS]; rfl) (ih (by omega))
  exact loop4 0 (Nat.zero_le _)
set_option maxRecDepth 4000 in
theorem s_X5_lastEndOf (ad : Nat → Nat) (σ : Sg) {r m : Nat} (hr : (r, m) ∈ gw_runs) (person : Int) : gw_Sp yX5_lastEndOf cX5_lastEndOf 4 (some .int) 2 0 0 [vR (some r), vI person] (gw_M0 ad) σ (gw_D (some (vI (loF σ r m person))) (gw_M0 ad) (σ)) gw_no := by
  refine gw_Sp.of [some (vR (some r)), some (vI person), none, none] (by decide +kernel) rfl (Nat.le_of_ble_eq_true rfl) ?_
  intro X G fx het hnm
  refine g_okS (fun hok => ?_)
  have hq5 := gw_okO 5 hok (mill_O (run_h0 hr)) (by decide)
  unfold okI at hq5
  refine g_iconst fx dX5_lastEndOf_0 (by unfold okI; omega) ?_
  refine g_istore_n fx dX5_lastEndOf_1 (by decide) rfl rfl ?_
  refine g_iconst fx dX5_lastEndOf_2 (by unfold okI; omega) ?_
  refine g_istore_n fx dX5_lastEndOf_3 (by decide) rfl rfl ?_
  have loop4 : ∀ k : Nat, k ≤ (σ m 5).toNat → gw_W X (yX5_lastEndOf.cls, cX5_lastEndOf, 4, (some .int), 2, 0, 0) G (gw_Z X G (gw_M0 ad) σ (gw_D (some (vI (loF σ r m person))) (gw_M0 ad) (σ)) gw_no 0 0) 0 0 (gw_M0 ad) (σ) 4 [some (vR (some r)), some (vI person), some (vI (itr k (loS σ r m person) (-1))), some (vI (k : Nat))] [] := by
    refine up_ind _ ((σ m 5).toNat) (fun k hk ih => ?_)
    refine g_iload_n fx dX5_lastEndOf_4 rfl ?_
    refine g_aload_n fx dX5_lastEndOf_5 rfl ?_
    refine g_getr fx dX5_lastEndOf_6 fk_RX5_53 (run_O hr) (run_f0 hr) ?_
    refine g_geti fx dX5_lastEndOf_9 fk_RX5_94 (by decide) (mill_O (run_h0 hr)) ?_
    refine g_icmp_ge (tgt := 53) fx dX5_lastEndOf_12 (by decide) (fun h12 => ?_) (fun h12 => ?_)
    · refine g_iload_n fx dX5_lastEndOf_53 rfl ?_
      exact g_iret fx rfl dX5_lastEndOf_54 (by decide) (by decide) (gw_le.rf _) ⟨by rw [loF, show k = (σ m 5).toNat by omega], rfl, rfl⟩
    · refine g_aload_n fx dX5_lastEndOf_15 rfl ?_
      refine g_getr fx dX5_lastEndOf_16 fk_RX5_53 (run_O hr) (run_f0 hr) ?_
      refine g_getr fx dX5_lastEndOf_19 fk_RX5_118 (mill_O (run_h0 hr)) (mill_f9 (run_h0 hr)) ?_
      refine g_iload_n fx dX5_lastEndOf_22 rfl ?_
      refine g_callVD fx dX5_lastEndOf_23 mv_RX5_72 my_X4_at (s_X4_atC ad _ (mill_h9 (run_h0 hr)) (show (m + 8) + 1 = (m + 9) from rfl) _) (row_O (mill_h9 (run_h0 hr))) rfl rfl rfl (Nat.le_of_ble_eq_true rfl) (by decide) (by decide) ?_
      refine g_iload_n fx dX5_lastEndOf_26 rfl ?_
      refine g_icmp_ne (tgt := 45) fx dX5_lastEndOf_27 (by decide) (fun h27 => ?_) (fun h27 => ?_)
      · refine g_iload_n fx dX5_lastEndOf_45 rfl ?_
        refine g_istore_n fx dX5_lastEndOf_46 (by decide) rfl rfl ?_
        refine g_iinc1 fx dX5_lastEndOf_47 (by decide) rfl rfl (by unfold okI; omega) rfl ?_
        refine g_goto (tgt := 4) fx dX5_lastEndOf_50 (by decide) ?_
        exact gw_cg rfl (by rw [itr_s, loS]; (repeat first | rw [if_pos (by omega)] | rw [if_neg (by omega)]); rfl) (ih (by omega))
      · refine g_iload_n fx dX5_lastEndOf_30 rfl ?_
        refine g_aload_n fx dX5_lastEndOf_31 rfl ?_
        refine g_getr fx dX5_lastEndOf_32 fk_RX5_38 (run_O hr) (run_f10 hr) ?_
        refine g_iload_n fx dX5_lastEndOf_35 rfl ?_
        refine g_callVD fx dX5_lastEndOf_36 mv_RX5_72 my_X4_at (s_X4_atC ad _ (run_h10 hr) (show (r + 15) + 1 = (r + 16) from rfl) _) (row_O (run_h10 hr)) rfl rfl rfl (Nat.le_of_ble_eq_true rfl) (by decide) (by decide) ?_
        refine g_max fx dX5_lastEndOf_39 mm_RX5_75 (by decide) (by decide) (by decide) (Nat.le_of_ble_eq_true rfl) ?_
        refine g_goto (tgt := 46) fx dX5_lastEndOf_42 (by decide) ?_
        refine g_istore_n fx dX5_lastEndOf_46 (by decide) rfl rfl ?_
        refine g_iinc1 fx dX5_lastEndOf_47 (by decide) rfl rfl (by unfold okI; omega) rfl ?_
        refine g_goto (tgt := 4) fx dX5_lastEndOf_50 (by decide) ?_
        exact gw_cg rfl (by rw [itr_s, loS]; (repeat first | rw [if_pos (by omega)] | rw [if_neg (by omega)]); rfl) (ih (by omega))
  exact loop4 0 (Nat.zero_le _)
set_option maxRecDepth 4000 in
theorem s_X5_isStanding (ad : Nat → Nat) (σ : Sg) {r m : Nat} (hr : (r, m) ∈ gw_runs) (p : Int) (minute : Int) : gw_Sp yX5_isStanding cX5_isStanding 3 (some .boolean) 3 0 0 [vR (some r), vI p, vI minute] (gw_M0 ad) σ (gw_D (some (vI (uSt σ r m p minute))) (gw_M0 ad) (σ)) gw_no := by
  refine gw_Sp.of [some (vR (some r)), some (vI p), some (vI minute)] (by decide +kernel) rfl (Nat.le_of_ble_eq_true rfl) ?_
  intro X G fx het hnm
  refine g_aload_n fx dX5_isStanding_0 rfl ?_
  refine g_iload_n fx dX5_isStanding_1 rfl ?_
  refine g_callVD fx dX5_isStanding_2 mv_RX5_88 my_X5_comeOf (s_X5_comeOf ad _ hr _) (run_O hr) rfl rfl rfl (Nat.le_of_ble_eq_true rfl) (by decide) (by decide) ?_
  refine g_iload_n fx dX5_isStanding_5 rfl ?_
  refine g_icmp_gt (tgt := 25) fx dX5_isStanding_6 (by decide) (fun h6 => ?_) (fun h6 => ?_)
  · refine g_iconst fx dX5_isStanding_25 (by unfold okI; omega) ?_
    exact g_zret fx rfl dX5_isStanding_26 (by first | exact Or.inl rfl | exact Or.inr rfl | omega) (by decide) (by decide) (gw_le.rf _) ⟨by rw [uSt]; (repeat first | rw [if_pos (by omega)] | rw [if_neg (by omega)]) <;> rfl, rfl, rfl⟩
  · refine g_aload_n fx dX5_isStanding_9 rfl ?_
    refine g_getr fx dX5_isStanding_10 fk_RX5_23 (run_O hr) (run_f5 hr) ?_
    refine g_iload_n fx dX5_isStanding_13 rfl ?_
    refine g_callVD fx dX5_isStanding_14 mv_RX5_72 my_X4_at (s_X4_atC ad _ (run_h5 hr) (show (r + 5) + 1 = (r + 6) from rfl) _) (row_O (run_h5 hr)) rfl rfl rfl (Nat.le_of_ble_eq_true rfl) (by decide) (by decide) ?_
    refine g_iload_n fx dX5_isStanding_17 rfl ?_
    refine g_icmp_le (tgt := 25) fx dX5_isStanding_18 (by decide) (fun h18 => ?_) (fun h18 => ?_)
    · refine g_iconst fx dX5_isStanding_25 (by unfold okI; omega) ?_
      exact g_zret fx rfl dX5_isStanding_26 (by first | exact Or.inl rfl | exact Or.inr rfl | omega) (by decide) (by decide) (gw_le.rf _) ⟨by rw [uSt]; (repeat first | rw [if_pos (by omega)] | rw [if_neg (by omega)]) <;> rfl, rfl, rfl⟩
    · refine g_iconst fx dX5_isStanding_21 (by unfold okI; omega) ?_
      refine g_goto (tgt := 26) fx dX5_isStanding_22 (by decide) ?_
      exact g_zret fx rfl dX5_isStanding_26 (by first | exact Or.inl rfl | exact Or.inr rfl | omega) (by decide) (by decide) (gw_le.rf _) ⟨by rw [uSt]; (repeat first | rw [if_pos (by omega)] | rw [if_neg (by omega)]) <;> rfl, rfl, rfl⟩
set_option maxRecDepth 4000 in
theorem s_X5_standingPieces (ad : Nat → Nat) (σ : Sg) {r m : Nat} (hr : (r, m) ∈ gw_runs) (minute : Int) : gw_Sp yX5_standingPieces cX5_standingPieces 4 (some .int) 4 0 0 [vR (some r), vI minute] (gw_M0 ad) σ (gw_D (some (vI (spF σ r m minute))) (gw_M0 ad) (σ)) gw_no := by
  refine gw_Sp.of [some (vR (some r)), some (vI minute), none, none] (by decide +kernel) rfl (Nat.le_of_ble_eq_true rfl) ?_
  intro X G fx het hnm
  refine g_okS (fun hok => ?_)
  have hq1 := gw_okO 1 hok (run_O hr) (by decide)
  unfold okI at hq1
  refine g_iconst fx dX5_standingPieces_0 (by unfold okI; omega) ?_
  refine g_istore_n fx dX5_standingPieces_1 (by decide) rfl rfl ?_
  refine g_iconst fx dX5_standingPieces_2 (by unfold okI; omega) ?_
  refine g_istore_n fx dX5_standingPieces_3 (by decide) rfl rfl ?_
  have loop4 : ∀ k : Nat, k ≤ (σ r 1).toNat → gw_W X (yX5_standingPieces.cls, cX5_standingPieces, 4, (some .int), 4, 0, 0) G (gw_Z X G (gw_M0 ad) σ (gw_D (some (vI (spF σ r m minute))) (gw_M0 ad) (σ)) gw_no 0 0) 0 0 (gw_M0 ad) (σ) 4 [some (vR (some r)), some (vI minute), some (vI (itr k (spS σ r m minute) 0)), some (vI (k : Nat))] [] := by
    refine up_ind _ ((σ r 1).toNat) (fun k hk ih => ?_)
    refine g_iload_n fx dX5_standingPieces_4 rfl ?_
    refine g_aload_n fx dX5_standingPieces_5 rfl ?_
    refine g_geti fx dX5_standingPieces_6 fk_RX5_60 (by decide) (run_O hr) ?_
    refine g_icmp_ge (tgt := 35) fx dX5_standingPieces_9 (by decide) (fun h9 => ?_) (fun h9 => ?_)
    · refine g_iload_n fx dX5_standingPieces_35 rfl ?_
      exact g_iret fx rfl dX5_standingPieces_36 (by decide) (by decide) (gw_le.rf _) ⟨by rw [spF, show k = (σ r 1).toNat by omega], rfl, rfl⟩
    · refine g_iload_n fx dX5_standingPieces_12 rfl ?_
      refine g_aload_n fx dX5_standingPieces_13 rfl ?_
      refine g_iload_n fx dX5_standingPieces_14 rfl ?_
      refine g_iload_n fx dX5_standingPieces_15 rfl ?_
      refine g_callVD fx dX5_standingPieces_16 mv_RX5_170 my_X5_isStanding (s_X5_isStanding ad _ hr _ _) (run_O hr) rfl rfl rfl (Nat.le_of_ble_eq_true rfl) (by decide) (by decide) ?_
      refine g_if_eq (tgt := 26) fx dX5_standingPieces_19 (by decide) (fun h19 => ?_) (fun h19 => ?_)
      · refine g_iconst fx dX5_standingPieces_26 (by unfold okI; omega) ?_
        refine g_iadd fx dX5_standingPieces_27 ?_
        refine g_istore_n fx dX5_standingPieces_28 (by decide) rfl rfl ?_
        refine g_iinc1 fx dX5_standingPieces_29 (by decide) rfl rfl (by unfold okI; omega) rfl ?_
        refine g_goto (tgt := 4) fx dX5_standingPieces_32 (by decide) ?_
        exact gw_cg rfl (by rw [itr_s, spS]; (repeat first | rw [if_pos (by omega)] | rw [if_neg (by omega)]); rfl) (ih (by omega))
      · refine g_iconst fx dX5_standingPieces_22 (by unfold okI; omega) ?_
        refine g_goto (tgt := 27) fx dX5_standingPieces_23 (by decide) ?_
        refine g_iadd fx dX5_standingPieces_27 ?_
        refine g_istore_n fx dX5_standingPieces_28 (by decide) rfl rfl ?_
        refine g_iinc1 fx dX5_standingPieces_29 (by decide) rfl rfl (by unfold okI; omega) rfl ?_
        refine g_goto (tgt := 4) fx dX5_standingPieces_32 (by decide) ?_
        exact gw_cg rfl (by rw [itr_s, spS]; (repeat first | rw [if_pos (by omega)] | rw [if_neg (by omega)]); rfl) (ih (by omega))
  exact loop4 0 (Nat.zero_le _)
set_option maxRecDepth 4000 in
theorem s_X5_standingPounds (ad : Nat → Nat) (σ : Sg) {r m : Nat} (hr : (r, m) ∈ gw_runs) (minute : Int) : gw_Sp yX5_standingPounds cX5_standingPounds 4 (some .int) 4 0 0 [vR (some r), vI minute] (gw_M0 ad) σ (gw_D (some (vI (swF σ r m minute))) (gw_M0 ad) (σ)) gw_no := by
  refine gw_Sp.of [some (vR (some r)), some (vI minute), none, none] (by decide +kernel) rfl (Nat.le_of_ble_eq_true rfl) ?_
  intro X G fx het hnm
  refine g_okS (fun hok => ?_)
  have hq1 := gw_okO 1 hok (run_O hr) (by decide)
  unfold okI at hq1
  refine g_iconst fx dX5_standingPounds_0 (by unfold okI; omega) ?_
  refine g_istore_n fx dX5_standingPounds_1 (by decide) rfl rfl ?_
  refine g_iconst fx dX5_standingPounds_2 (by unfold okI; omega) ?_
  refine g_istore_n fx dX5_standingPounds_3 (by decide) rfl rfl ?_
  have loop4 : ∀ k : Nat, k ≤ (σ r 1).toNat → gw_W X (yX5_standingPounds.cls, cX5_standingPounds, 4, (some .int), 4, 0, 0) G (gw_Z X G (gw_M0 ad) σ (gw_D (some (vI (swF σ r m minute))) (gw_M0 ad) (σ)) gw_no 0 0) 0 0 (gw_M0 ad) (σ) 4 [some (vR (some r)), some (vI minute), some (vI (itr k (swS σ r m minute) 0)), some (vI (k : Nat))] [] := by
    refine up_ind _ ((σ r 1).toNat) (fun k hk ih => ?_)
    refine g_iload_n fx dX5_standingPounds_4 rfl ?_
    refine g_aload_n fx dX5_standingPounds_5 rfl ?_
    refine g_geti fx dX5_standingPounds_6 fk_RX5_60 (by decide) (run_O hr) ?_
    refine g_icmp_ge (tgt := 42) fx dX5_standingPounds_9 (by decide) (fun h9 => ?_) (fun h9 => ?_)
    · refine g_iload_n fx dX5_standingPounds_42 rfl ?_
      exact g_iret fx rfl dX5_standingPounds_43 (by decide) (by decide) (gw_le.rf _) ⟨by rw [swF, show k = (σ r 1).toNat by omega], rfl, rfl⟩
    · refine g_iload_n fx dX5_standingPounds_12 rfl ?_
      refine g_aload_n fx dX5_standingPounds_13 rfl ?_
      refine g_iload_n fx dX5_standingPounds_14 rfl ?_
      refine g_iload_n fx dX5_standingPounds_15 rfl ?_
      refine g_callVD fx dX5_standingPounds_16 mv_RX5_170 my_X5_isStanding (s_X5_isStanding ad _ hr _ _) (run_O hr) rfl rfl rfl (Nat.le_of_ble_eq_true rfl) (by decide) (by decide) ?_
      refine g_if_eq (tgt := 33) fx dX5_standingPounds_19 (by decide) (fun h19 => ?_) (fun h19 => ?_)
      · refine g_iconst fx dX5_standingPounds_33 (by unfold okI; omega) ?_
        refine g_iadd fx dX5_standingPounds_34 ?_
        refine g_istore_n fx dX5_standingPounds_35 (by decide) rfl rfl ?_
        refine g_iinc1 fx dX5_standingPounds_36 (by decide) rfl rfl (by unfold okI; omega) rfl ?_
        refine g_goto (tgt := 4) fx dX5_standingPounds_39 (by decide) ?_
        exact gw_cg rfl (by rw [itr_s, swS]; (repeat first | rw [if_pos (by omega)] | rw [if_neg (by omega)]); rfl) (ih (by omega))
      · refine g_aload_n fx dX5_standingPounds_22 rfl ?_
        refine g_getr fx dX5_standingPounds_23 fk_RX5_20 (run_O hr) (run_f4 hr) ?_
        refine g_iload_n fx dX5_standingPounds_26 rfl ?_
        refine g_callVD fx dX5_standingPounds_27 mv_RX5_72 my_X4_at (s_X4_atC ad _ (run_h4 hr) (show (r + 3) + 1 = (r + 4) from rfl) _) (row_O (run_h4 hr)) rfl rfl rfl (Nat.le_of_ble_eq_true rfl) (by decide) (by decide) ?_
        refine g_goto (tgt := 34) fx dX5_standingPounds_30 (by decide) ?_
        refine g_iadd fx dX5_standingPounds_34 ?_
        refine g_istore_n fx dX5_standingPounds_35 (by decide) rfl rfl ?_
        refine g_iinc1 fx dX5_standingPounds_36 (by decide) rfl rfl (by unfold okI; omega) rfl ?_
        refine g_goto (tgt := 4) fx dX5_standingPounds_39 (by decide) ?_
        exact gw_cg rfl (by rw [itr_s, swS]; (repeat first | rw [if_pos (by omega)] | rw [if_neg (by omega)]); rfl) (ih (by omega))
  exact loop4 0 (Nat.zero_le _)
set_option maxRecDepth 4000 in
theorem s_X5_busyStones (ad : Nat → Nat) (σ : Sg) {r m : Nat} (hr : (r, m) ∈ gw_runs) (minute : Int) : gw_Sp yX5_busyStones cX5_busyStones 4 (some .int) 2 0 0 [vR (some r), vI minute] (gw_M0 ad) σ (gw_D (some (vI (bsF σ r minute))) (gw_M0 ad) (σ)) gw_no := by
  refine gw_Sp.of [some (vR (some r)), some (vI minute), none, none] (by decide +kernel) rfl (Nat.le_of_ble_eq_true rfl) ?_
  intro X G fx het hnm
  refine g_okS (fun hok => ?_)
  have hq1 := gw_okO 1 hok (run_O hr) (by decide)
  unfold okI at hq1
  refine g_iconst fx dX5_busyStones_0 (by unfold okI; omega) ?_
  refine g_istore_n fx dX5_busyStones_1 (by decide) rfl rfl ?_
  refine g_iconst fx dX5_busyStones_2 (by unfold okI; omega) ?_
  refine g_istore_n fx dX5_busyStones_3 (by decide) rfl rfl ?_
  have loop4 : ∀ k : Nat, k ≤ (σ r 1).toNat → gw_W X (yX5_busyStones.cls, cX5_busyStones, 4, (some .int), 2, 0, 0) G (gw_Z X G (gw_M0 ad) σ (gw_D (some (vI (bsF σ r minute))) (gw_M0 ad) (σ)) gw_no 0 0) 0 0 (gw_M0 ad) (σ) 4 [some (vR (some r)), some (vI minute), some (vI (itr k (bsS σ r minute) 0)), some (vI (k : Nat))] [] := by
    refine up_ind _ ((σ r 1).toNat) (fun k hk ih => ?_)
    refine g_iload_n fx dX5_busyStones_4 rfl ?_
    refine g_aload_n fx dX5_busyStones_5 rfl ?_
    refine g_geti fx dX5_busyStones_6 fk_RX5_60 (by decide) (run_O hr) ?_
    refine g_icmp_ge (tgt := 50) fx dX5_busyStones_9 (by decide) (fun h9 => ?_) (fun h9 => ?_)
    · refine g_iload_n fx dX5_busyStones_50 rfl ?_
      exact g_iret fx rfl dX5_busyStones_51 (by decide) (by decide) (gw_le.rf _) ⟨by rw [bsF, show k = (σ r 1).toNat by omega], rfl, rfl⟩
    · refine g_iload_n fx dX5_busyStones_12 rfl ?_
      refine g_aload_n fx dX5_busyStones_13 rfl ?_
      refine g_getr fx dX5_busyStones_14 fk_RX5_23 (run_O hr) (run_f5 hr) ?_
      refine g_iload_n fx dX5_busyStones_17 rfl ?_
      refine g_callVD fx dX5_busyStones_18 mv_RX5_72 my_X4_at (s_X4_atC ad _ (run_h5 hr) (show (r + 5) + 1 = (r + 6) from rfl) _) (row_O (run_h5 hr)) rfl rfl rfl (Nat.le_of_ble_eq_true rfl) (by decide) (by decide) ?_
      refine g_iload_n fx dX5_busyStones_21 rfl ?_
      refine g_icmp_gt (tgt := 41) fx dX5_busyStones_22 (by decide) (fun h22 => ?_) (fun h22 => ?_)
      · refine g_iconst fx dX5_busyStones_41 (by unfold okI; omega) ?_
        refine g_iadd fx dX5_busyStones_42 ?_
        refine g_istore_n fx dX5_busyStones_43 (by decide) rfl rfl ?_
        refine g_iinc1 fx dX5_busyStones_44 (by decide) rfl rfl (by unfold okI; omega) rfl ?_
        refine g_goto (tgt := 4) fx dX5_busyStones_47 (by decide) ?_
        exact gw_cg rfl (by rw [itr_s, bsS]; (repeat first | rw [if_pos (by omega)] | rw [if_neg (by omega)]); rfl) (ih (by omega))
      · refine g_aload_n fx dX5_busyStones_25 rfl ?_
        refine g_getr fx dX5_busyStones_26 fk_RX5_29 (run_O hr) (run_f7 hr) ?_
        refine g_iload_n fx dX5_busyStones_29 rfl ?_
        refine g_callVD fx dX5_busyStones_30 mv_RX5_72 my_X4_at (s_X4_atC ad _ (run_h7 hr) (show (r + 9) + 1 = (r + 10) from rfl) _) (row_O (run_h7 hr)) rfl rfl rfl (Nat.le_of_ble_eq_true rfl) (by decide) (by decide) ?_
        refine g_iload_n fx dX5_busyStones_33 rfl ?_
        refine g_icmp_le (tgt := 41) fx dX5_busyStones_34 (by decide) (fun h34 => ?_) (fun h34 => ?_)
        · refine g_iconst fx dX5_busyStones_41 (by unfold okI; omega) ?_
          refine g_iadd fx dX5_busyStones_42 ?_
          refine g_istore_n fx dX5_busyStones_43 (by decide) rfl rfl ?_
          refine g_iinc1 fx dX5_busyStones_44 (by decide) rfl rfl (by unfold okI; omega) rfl ?_
          refine g_goto (tgt := 4) fx dX5_busyStones_47 (by decide) ?_
          exact gw_cg rfl (by rw [itr_s, bsS]; (repeat first | rw [if_pos (by omega)] | rw [if_neg (by omega)]); rfl) (ih (by omega))
        · refine g_iconst fx dX5_busyStones_37 (by unfold okI; omega) ?_
          refine g_goto (tgt := 42) fx dX5_busyStones_38 (by decide) ?_
          refine g_iadd fx dX5_busyStones_42 ?_
          refine g_istore_n fx dX5_busyStones_43 (by decide) rfl rfl ?_
          refine g_iinc1 fx dX5_busyStones_44 (by decide) rfl rfl (by unfold okI; omega) rfl ?_
          refine g_goto (tgt := 4) fx dX5_busyStones_47 (by decide) ?_
          exact gw_cg rfl (by rw [itr_s, bsS]; (repeat first | rw [if_pos (by omega)] | rw [if_neg (by omega)]); rfl) (ih (by omega))
  exact loop4 0 (Nat.zero_le _)
set_option maxRecDepth 4000 in
theorem s_X5_openSacks (ad : Nat → Nat) (σ : Sg) {r m : Nat} (hr : (r, m) ∈ gw_runs) (minute : Int) : gw_Sp yX5_openSacks cX5_openSacks 4 (some .int) 2 0 0 [vR (some r), vI minute] (gw_M0 ad) σ (gw_D (some (vI (osF σ r m minute))) (gw_M0 ad) (σ)) gw_no := by
  refine gw_Sp.of [some (vR (some r)), some (vI minute), none, none] (by decide +kernel) rfl (Nat.le_of_ble_eq_true rfl) ?_
  intro X G fx het hnm
  refine g_okS (fun hok => ?_)
  have hq5 := gw_okO 5 hok (mill_O (run_h0 hr)) (by decide)
  unfold okI at hq5
  refine g_iconst fx dX5_openSacks_0 (by unfold okI; omega) ?_
  refine g_istore_n fx dX5_openSacks_1 (by decide) rfl rfl ?_
  refine g_iconst fx dX5_openSacks_2 (by unfold okI; omega) ?_
  refine g_istore_n fx dX5_openSacks_3 (by decide) rfl rfl ?_
  have loop4 : ∀ k : Nat, k ≤ (σ m 5).toNat → gw_W X (yX5_openSacks.cls, cX5_openSacks, 4, (some .int), 2, 0, 0) G (gw_Z X G (gw_M0 ad) σ (gw_D (some (vI (osF σ r m minute))) (gw_M0 ad) (σ)) gw_no 0 0) 0 0 (gw_M0 ad) (σ) 4 [some (vR (some r)), some (vI minute), some (vI (itr k (osS σ r m minute) 0)), some (vI (k : Nat))] [] := by
    refine up_ind _ ((σ m 5).toNat) (fun k hk ih => ?_)
    refine g_iload_n fx dX5_openSacks_4 rfl ?_
    refine g_aload_n fx dX5_openSacks_5 rfl ?_
    refine g_getr fx dX5_openSacks_6 fk_RX5_53 (run_O hr) (run_f0 hr) ?_
    refine g_geti fx dX5_openSacks_9 fk_RX5_94 (by decide) (mill_O (run_h0 hr)) ?_
    refine g_icmp_ge (tgt := 56) fx dX5_openSacks_12 (by decide) (fun h12 => ?_) (fun h12 => ?_)
    · refine g_iload_n fx dX5_openSacks_56 rfl ?_
      exact g_iret fx rfl dX5_openSacks_57 (by decide) (by decide) (gw_le.rf _) ⟨by rw [osF, show k = (σ m 5).toNat by omega], rfl, rfl⟩
    · refine g_iload_n fx dX5_openSacks_15 rfl ?_
      refine g_aload_n fx dX5_openSacks_16 rfl ?_
      refine g_getr fx dX5_openSacks_17 fk_RX5_53 (run_O hr) (run_f0 hr) ?_
      refine g_getr fx dX5_openSacks_20 fk_RX5_157 (mill_O (run_h0 hr)) (mill_f10 (run_h0 hr)) ?_
      refine g_iload_n fx dX5_openSacks_23 rfl ?_
      refine g_callVD fx dX5_openSacks_24 mv_RX5_72 my_X4_at (s_X4_atC ad _ (mill_h10 (run_h0 hr)) (show (m + 10) + 1 = (m + 11) from rfl) _) (row_O (mill_h10 (run_h0 hr))) rfl rfl rfl (Nat.le_of_ble_eq_true rfl) (by decide) (by decide) ?_
      refine g_iload_n fx dX5_openSacks_27 rfl ?_
      refine g_icmp_gt (tgt := 47) fx dX5_openSacks_28 (by decide) (fun h28 => ?_) (fun h28 => ?_)
      · refine g_iconst fx dX5_openSacks_47 (by unfold okI; omega) ?_
        refine g_iadd fx dX5_openSacks_48 ?_
        refine g_istore_n fx dX5_openSacks_49 (by decide) rfl rfl ?_
        refine g_iinc1 fx dX5_openSacks_50 (by decide) rfl rfl (by unfold okI; omega) rfl ?_
        refine g_goto (tgt := 4) fx dX5_openSacks_53 (by decide) ?_
        exact gw_cg rfl (by rw [itr_s, osS]; (repeat first | rw [if_pos (by omega)] | rw [if_neg (by omega)]); rfl) (ih (by omega))
      · refine g_aload_n fx dX5_openSacks_31 rfl ?_
        refine g_getr fx dX5_openSacks_32 fk_RX5_38 (run_O hr) (run_f10 hr) ?_
        refine g_iload_n fx dX5_openSacks_35 rfl ?_
        refine g_callVD fx dX5_openSacks_36 mv_RX5_72 my_X4_at (s_X4_atC ad _ (run_h10 hr) (show (r + 15) + 1 = (r + 16) from rfl) _) (row_O (run_h10 hr)) rfl rfl rfl (Nat.le_of_ble_eq_true rfl) (by decide) (by decide) ?_
        refine g_iload_n fx dX5_openSacks_39 rfl ?_
        refine g_icmp_le (tgt := 47) fx dX5_openSacks_40 (by decide) (fun h40 => ?_) (fun h40 => ?_)
        · refine g_iconst fx dX5_openSacks_47 (by unfold okI; omega) ?_
          refine g_iadd fx dX5_openSacks_48 ?_
          refine g_istore_n fx dX5_openSacks_49 (by decide) rfl rfl ?_
          refine g_iinc1 fx dX5_openSacks_50 (by decide) rfl rfl (by unfold okI; omega) rfl ?_
          refine g_goto (tgt := 4) fx dX5_openSacks_53 (by decide) ?_
          exact gw_cg rfl (by rw [itr_s, osS]; (repeat first | rw [if_pos (by omega)] | rw [if_neg (by omega)]); rfl) (ih (by omega))
        · refine g_iconst fx dX5_openSacks_43 (by unfold okI; omega) ?_
          refine g_goto (tgt := 48) fx dX5_openSacks_44 (by decide) ?_
          refine g_iadd fx dX5_openSacks_48 ?_
          refine g_istore_n fx dX5_openSacks_49 (by decide) rfl rfl ?_
          refine g_iinc1 fx dX5_openSacks_50 (by decide) rfl rfl (by unfold okI; omega) rfl ?_
          refine g_goto (tgt := 4) fx dX5_openSacks_53 (by decide) ?_
          exact gw_cg rfl (by rw [itr_s, osS]; (repeat first | rw [if_pos (by omega)] | rw [if_neg (by omega)]); rfl) (ih (by omega))
  exact loop4 0 (Nat.zero_le _)
