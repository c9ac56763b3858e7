theorem dX10_isTooMuchToSettle_0 : gw_dc cX10_isTooMuchToSettle 0 (.aload_n 0) 1 1 := ⟨by decide +kernel, rfl⟩
theorem dX10_isTooMuchToSettle_1 : gw_dc cX10_isTooMuchToSettle 1 (.getfield 28) 3 4 := ⟨by decide +kernel, rfl⟩
theorem dX10_isTooMuchToSettle_4 : gw_dc cX10_isTooMuchToSettle 4 (.getfield 236) 3 7 := ⟨by decide +kernel, rfl⟩
theorem dX10_isTooMuchToSettle_7 : gw_dc cX10_isTooMuchToSettle 7 (.bipush 12) 2 9 := ⟨by decide +kernel, rfl⟩
theorem dX10_isTooMuchToSettle_9 : gw_dc cX10_isTooMuchToSettle 9 (.if_icmp .le 7) 3 12 := ⟨by decide +kernel, rfl⟩
theorem dX10_isTooMuchToSettle_16 : gw_dc cX10_isTooMuchToSettle 16 (.iconst 0) 1 17 := ⟨by decide +kernel, rfl⟩
theorem dX10_isTooMuchToSettle_17 : gw_dc cX10_isTooMuchToSettle 17 (.istore_n 1) 1 18 := ⟨by decide +kernel, rfl⟩
theorem dX10_isTooMuchToSettle_18 : gw_dc cX10_isTooMuchToSettle 18 (.iconst 0) 1 19 := ⟨by decide +kernel, rfl⟩
theorem dX10_isTooMuchToSettle_19 : gw_dc cX10_isTooMuchToSettle 19 (.istore_n 2) 1 20 := ⟨by decide +kernel, rfl⟩
theorem dX10_isTooMuchToSettle_20 : gw_dc cX10_isTooMuchToSettle 20 (.iload_n 2) 1 21 := ⟨by decide +kernel, rfl⟩
theorem dX10_isTooMuchToSettle_21 : gw_dc cX10_isTooMuchToSettle 21 (.aload_n 0) 1 22 := ⟨by decide +kernel, rfl⟩
theorem dX10_isTooMuchToSettle_22 : gw_dc cX10_isTooMuchToSettle 22 (.getfield 28) 3 25 := ⟨by decide +kernel, rfl⟩
theorem dX10_isTooMuchToSettle_25 : gw_dc cX10_isTooMuchToSettle 25 (.getfield 236) 3 28 := ⟨by decide +kernel, rfl⟩
theorem dX10_isTooMuchToSettle_28 : gw_dc cX10_isTooMuchToSettle 28 (.if_icmp .ge 35) 3 31 := ⟨by decide +kernel, rfl⟩
theorem dX10_isTooMuchToSettle_63 : gw_dc cX10_isTooMuchToSettle 63 (.iload_n 1) 1 64 := ⟨by decide +kernel, rfl⟩
theorem dX10_isTooMuchToSettle_64 : decode cX10_isTooMuchToSettle 64 = .ok (.ireturn, 1) := by decide +kernel
theorem dX10_isTooMuchToSettle_31 : gw_dc cX10_isTooMuchToSettle 31 (.iload_n 1) 1 32 := ⟨by decide +kernel, rfl⟩
theorem dX10_isTooMuchToSettle_32 : gw_dc cX10_isTooMuchToSettle 32 (.ifCond .ne 31) 3 35 := ⟨by decide +kernel, rfl⟩
theorem dX10_isTooMuchToSettle_35 : gw_dc cX10_isTooMuchToSettle 35 (.aload_n 0) 1 36 := ⟨by decide +kernel, rfl⟩
theorem dX10_isTooMuchToSettle_36 : gw_dc cX10_isTooMuchToSettle 36 (.getfield 28) 3 39 := ⟨by decide +kernel, rfl⟩
theorem dX10_isTooMuchToSettle_39 : gw_dc cX10_isTooMuchToSettle 39 (.getfield 152) 3 42 := ⟨by decide +kernel, rfl⟩
theorem dX10_isTooMuchToSettle_42 : gw_dc cX10_isTooMuchToSettle 42 (.iload_n 2) 1 43 := ⟨by decide +kernel, rfl⟩
theorem dX10_isTooMuchToSettle_43 : gw_dc cX10_isTooMuchToSettle 43 (.invokevirtual 155) 3 46 := ⟨by decide +kernel, rfl⟩
theorem dX10_isTooMuchToSettle_46 : gw_dc cX10_isTooMuchToSettle 46 (.bipush 30) 2 48 := ⟨by decide +kernel, rfl⟩
theorem dX10_isTooMuchToSettle_48 : gw_dc cX10_isTooMuchToSettle 48 (.if_icmp .le 7) 3 51 := ⟨by decide +kernel, rfl⟩
theorem dX10_isTooMuchToSettle_55 : gw_dc cX10_isTooMuchToSettle 55 (.iconst 0) 1 56 := ⟨by decide +kernel, rfl⟩
theorem dX10_isTooMuchToSettle_56 : gw_dc cX10_isTooMuchToSettle 56 (.istore_n 1) 1 57 := ⟨by decide +kernel, rfl⟩
theorem dX10_isTooMuchToSettle_57 : gw_dc cX10_isTooMuchToSettle 57 (.iinc 2 1) 3 60 := ⟨by decide +kernel, rfl⟩
theorem dX10_isTooMuchToSettle_60 : gw_dc cX10_isTooMuchToSettle 60 (.goto (-40)) 3 63 := ⟨by decide +kernel, rfl⟩
theorem dX10_isTooMuchToSettle_51 : gw_dc cX10_isTooMuchToSettle 51 (.iconst 1) 1 52 := ⟨by decide +kernel, rfl⟩
theorem dX10_isTooMuchToSettle_52 : gw_dc cX10_isTooMuchToSettle 52 (.goto 4) 3 55 := ⟨by decide +kernel, rfl⟩
theorem dX10_isTooMuchToSettle_12 : gw_dc cX10_isTooMuchToSettle 12 (.iconst 1) 1 13 := ⟨by decide +kernel, rfl⟩
theorem dX10_isTooMuchToSettle_13 : gw_dc cX10_isTooMuchToSettle 13 (.goto 4) 3 16 := ⟨by decide +kernel, rfl⟩
theorem dX10_parting_0 : gw_dc cX10_parting 0 (.aload_n 0) 1 1 := ⟨by decide +kernel, rfl⟩
theorem dX10_parting_1 : gw_dc cX10_parting 1 (.iload_n 1) 1 2 := ⟨by decide +kernel, rfl⟩
theorem dX10_parting_2 : gw_dc cX10_parting 2 (.invokevirtual 149) 3 5 := ⟨by decide +kernel, rfl⟩
theorem dX10_parting_5 : gw_dc cX10_parting 5 (.iload_n 2) 1 6 := ⟨by decide +kernel, rfl⟩
theorem dX10_parting_6 : gw_dc cX10_parting 6 (.iconst 1) 1 7 := ⟨by decide +kernel, rfl⟩
theorem dX10_parting_7 : gw_dc cX10_parting 7 (.if_icmp .lt 9) 3 10 := ⟨by decide +kernel, rfl⟩
theorem eX10_parting_16 : decode cX10_parting 16 = .ok (.new 142, 3) := by decide +kernel
theorem eX10_parting_19 : decode cX10_parting 19 = .ok (.dup, 1) := by decide +kernel
theorem eX10_parting_20 : decode cX10_parting 20 = .ok (.ldc_w 335, 3) := by decide +kernel
theorem eX10_parting_23 : decode cX10_parting 23 = .ok (.invokespecial 146, 3) := by decide +kernel
theorem eX10_parting_26 : decode cX10_parting 26 = .ok (.athrow, 1) := by decide +kernel
theorem dX10_parting_10 : gw_dc cX10_parting 10 (.iload_n 2) 1 11 := ⟨by decide +kernel, rfl⟩
theorem dX10_parting_11 : gw_dc cX10_parting 11 (.bipush 6) 2 13 := ⟨by decide +kernel, rfl⟩
theorem dX10_parting_13 : gw_dc cX10_parting 13 (.if_icmp .le 14) 3 16 := ⟨by decide +kernel, rfl⟩
theorem dX10_parting_27 : gw_dc cX10_parting 27 (.iload_n 3) 1 28 := ⟨by decide +kernel, rfl⟩
theorem dX10_parting_28 : gw_dc cX10_parting 28 (.ifCond .eq 30) 3 31 := ⟨by decide +kernel, rfl⟩
theorem dX10_parting_58 : gw_dc cX10_parting 58 (.iload_n 2) 1 59 := ⟨by decide +kernel, rfl⟩
theorem dX10_parting_59 : gw_dc cX10_parting 59 (.iconst 1) 1 60 := ⟨by decide +kernel, rfl⟩
theorem dX10_parting_60 : gw_dc cX10_parting 60 (.if_icmp .le 22) 3 63 := ⟨by decide +kernel, rfl⟩
theorem dX10_parting_82 : gw_dc cX10_parting 82 (.aload_n 0) 1 83 := ⟨by decide +kernel, rfl⟩
theorem dX10_parting_83 : gw_dc cX10_parting 83 (.getfield 53) 3 86 := ⟨by decide +kernel, rfl⟩
theorem dX10_parting_86 : gw_dc cX10_parting 86 (.aload_n 0) 1 87 := ⟨by decide +kernel, rfl⟩
theorem dX10_parting_87 : gw_dc cX10_parting 87 (.getfield 28) 3 90 := ⟨by decide +kernel, rfl⟩
theorem dX10_parting_90 : gw_dc cX10_parting 90 (.invokevirtual 111) 3 93 := ⟨by decide +kernel, rfl⟩
theorem dX10_parting_93 : gw_dc cX10_parting 93 (.aload_n 0) 1 94 := ⟨by decide +kernel, rfl⟩
theorem dX10_parting_94 : gw_dc cX10_parting 94 (.getfield 64) 3 97 := ⟨by decide +kernel, rfl⟩
theorem fk_RX10_64 : gw_fk RX10 64 10 8 14 1 true := ⟨_, _, _, ck_10, by decide, by decide, fun h => absurd h (by decide), fun h => absurd h (by decide), fun _ => Or.inl ⟨_, rfl⟩, rfl, Or.inl (gw_mem 513 (by decide +kernel) rfl)⟩
theorem rf_0_8 {ad : Nat → Nat} : (gw_M0 ad).2.2 0 8 = some 121 := (by decide +kernel : gw_rh 0 8 = some 121)
theorem dX10_parting_97 : gw_dc cX10_parting 97 (.iload_n 1) 1 98 := ⟨by decide +kernel, rfl⟩
theorem dX10_parting_98 : gw_dc cX10_parting 98 (.iload_n 2) 1 99 := ⟨by decide +kernel, rfl⟩
theorem dX10_parting_99 : gw_dc cX10_parting 99 (.invokevirtual 337) 3 102 := ⟨by decide +kernel, rfl⟩
theorem mv_RX10_337 : gw_mv RX10 337 yX2_seek := ⟨gw_mem 1216 (by decide +kernel) rfl, gw_mem 1217 (by decide +kernel) rfl, gw_mem 1218 (by decide +kernel) rfl⟩
theorem my_X2_seek : gw_my yX2_seek cX2_seek 7 none 2 := ⟨gw_mem 1219 (by decide +kernel) rfl, gw_mem 103 (by decide +kernel) rfl, by decide +kernel, by decide⟩
theorem dX10_parting_102 : gw_dc cX10_parting 102 (.iload_n 3) 1 103 := ⟨by decide +kernel, rfl⟩
theorem dX10_parting_103 : gw_dc cX10_parting 103 (.ifCond .ne 11) 3 106 := ⟨by decide +kernel, rfl⟩
theorem dX10_parting_114 : gw_dc cX10_parting 114 (.iload_n 3) 1 115 := ⟨by decide +kernel, rfl⟩
theorem dX10_parting_115 : gw_dc cX10_parting 115 (.iconst 1) 1 116 := ⟨by decide +kernel, rfl⟩
theorem dX10_parting_116 : gw_dc cX10_parting 116 (.if_icmp .ne 11) 3 119 := ⟨by decide +kernel, rfl⟩
theorem dX10_parting_127 : gw_dc cX10_parting 127 (.iload_n 3) 1 128 := ⟨by decide +kernel, rfl⟩
theorem dX10_parting_128 : gw_dc cX10_parting 128 (.bipush 10) 2 130 := ⟨by decide +kernel, rfl⟩
theorem dX10_parting_130 : gw_dc cX10_parting 130 (.isub) 1 131 := ⟨by decide +kernel, rfl⟩
theorem dX10_parting_131 : gw_dc cX10_parting 131 (.aload_n 0) 1 132 := ⟨by decide +kernel, rfl⟩
theorem dX10_parting_132 : gw_dc cX10_parting 132 (.getfield 64) 3 135 := ⟨by decide +kernel, rfl⟩
theorem dX10_parting_135 : gw_dc cX10_parting 135 (.getfield 342) 3 138 := ⟨by decide +kernel, rfl⟩
theorem fk_RX10_342 : gw_fk RX10 342 2 6 8 0 false := ⟨_, _, _, ck_2, by decide, by decide, fun _ => rfl, fun h => absurd h (by decide), fun h => absurd h (by decide), rfl, Or.inr ⟨"LightestSack", gw_memN 414 (by decide +kernel) rfl⟩⟩
theorem dX10_parting_138 : gw_dc cX10_parting 138 (.if_icmp .ge 20) 3 141 := ⟨by decide +kernel, rfl⟩
theorem dX10_parting_158 : gw_dc cX10_parting 158 (.iconst (-1)) 1 159 := ⟨by decide +kernel, rfl⟩
theorem dX10_parting_159 : decode cX10_parting 159 = .ok (.ireturn, 1) := by decide +kernel
theorem dX10_parting_141 : gw_dc cX10_parting 141 (.aload_n 0) 1 142 := ⟨by decide +kernel, rfl⟩
theorem dX10_parting_142 : gw_dc cX10_parting 142 (.getfield 64) 3 145 := ⟨by decide +kernel, rfl⟩
theorem dX10_parting_145 : gw_dc cX10_parting 145 (.getfield 344) 3 148 := ⟨by decide +kernel, rfl⟩
theorem fk_RX10_344 : gw_fk RX10 344 2 3 8 1 true := ⟨_, _, _, ck_2, by decide, by decide, fun h => absurd h (by decide), fun h => absurd h (by decide), fun _ => Or.inl ⟨_, rfl⟩, rfl, Or.inr ⟨"LightestSack", gw_memN 409 (by decide +kernel) rfl⟩⟩
theorem dX10_parting_148 : gw_dc cX10_parting 148 (.iload_n 3) 1 149 := ⟨by decide +kernel, rfl⟩
theorem dX10_parting_149 : gw_dc cX10_parting 149 (.bipush 10) 2 151 := ⟨by decide +kernel, rfl⟩
theorem dX10_parting_151 : gw_dc cX10_parting 151 (.isub) 1 152 := ⟨by decide +kernel, rfl⟩
theorem dX10_parting_152 : gw_dc cX10_parting 152 (.invokevirtual 155) 3 155 := ⟨by decide +kernel, rfl⟩
theorem dX10_parting_155 : gw_dc cX10_parting 155 (.goto 4) 3 158 := ⟨by decide +kernel, rfl⟩
theorem dX10_parting_119 : gw_dc cX10_parting 119 (.aload_n 0) 1 120 := ⟨by decide +kernel, rfl⟩
theorem dX10_parting_120 : gw_dc cX10_parting 120 (.getfield 64) 3 123 := ⟨by decide +kernel, rfl⟩
theorem dX10_parting_123 : gw_dc cX10_parting 123 (.getfield 342) 3 126 := ⟨by decide +kernel, rfl⟩
theorem dX10_parting_126 : decode cX10_parting 126 = .ok (.ireturn, 1) := by decide +kernel
theorem dX10_parting_106 : gw_dc cX10_parting 106 (.aload_n 0) 1 107 := ⟨by decide +kernel, rfl⟩
theorem dX10_parting_107 : gw_dc cX10_parting 107 (.getfield 64) 3 110 := ⟨by decide +kernel, rfl⟩
theorem dX10_parting_110 : gw_dc cX10_parting 110 (.getfield 339) 3 113 := ⟨by decide +kernel, rfl⟩
theorem fk_RX10_339 : gw_fk RX10 339 2 5 8 0 false := ⟨_, _, _, ck_2, by decide, by decide, fun _ => rfl, fun h => absurd h (by decide), fun h => absurd h (by decide), rfl, Or.inr ⟨"LightestSack", gw_memN 412 (by decide +kernel) rfl⟩⟩
theorem dX10_parting_113 : decode cX10_parting 113 = .ok (.ireturn, 1) := by decide +kernel
theorem dX10_parting_63 : gw_dc cX10_parting 63 (.aload_n 0) 1 64 := ⟨by decide +kernel, rfl⟩
theorem dX10_parting_64 : gw_dc cX10_parting 64 (.getfield 28) 3 67 := ⟨by decide +kernel, rfl⟩
theorem dX10_parting_67 : gw_dc cX10_parting 67 (.getfield 152) 3 70 := ⟨by decide +kernel, rfl⟩
theorem dX10_parting_70 : gw_dc cX10_parting 70 (.iload_n 1) 1 71 := ⟨by decide +kernel, rfl⟩
theorem dX10_parting_71 : gw_dc cX10_parting 71 (.invokevirtual 155) 3 74 := ⟨by decide +kernel, rfl⟩
theorem dX10_parting_74 : gw_dc cX10_parting 74 (.bipush 30) 2 76 := ⟨by decide +kernel, rfl⟩
theorem dX10_parting_76 : gw_dc cX10_parting 76 (.if_icmp .le 6) 3 79 := ⟨by decide +kernel, rfl⟩
theorem dX10_parting_79 : gw_dc cX10_parting 79 (.bipush (-2)) 2 81 := ⟨by decide +kernel, rfl⟩
theorem dX10_parting_81 : decode cX10_parting 81 = .ok (.ireturn, 1) := by decide +kernel
theorem dX10_parting_31 : gw_dc cX10_parting 31 (.iload_n 3) 1 32 := ⟨by decide +kernel, rfl⟩
theorem dX10_parting_32 : gw_dc cX10_parting 32 (.iconst 1) 1 33 := ⟨by decide +kernel, rfl⟩
theorem dX10_parting_33 : gw_dc cX10_parting 33 (.if_icmp .eq 25) 3 36 := ⟨by decide +kernel, rfl⟩
theorem dX10_parting_36 : gw_dc cX10_parting 36 (.iload_n 3) 1 37 := ⟨by decide +kernel, rfl⟩
theorem dX10_parting_37 : gw_dc cX10_parting 37 (.bipush 10) 2 39 := ⟨by decide +kernel, rfl⟩
theorem dX10_parting_39 : gw_dc cX10_parting 39 (.if_icmp .lt 9) 3 42 := ⟨by decide +kernel, rfl⟩
theorem eX10_parting_48 : decode cX10_parting 48 = .ok (.new 142, 3) := by decide +kernel
theorem eX10_parting_51 : decode cX10_parting 51 = .ok (.dup, 1) := by decide +kernel
theorem eX10_parting_52 : decode cX10_parting 52 = .ok (.ldc 180, 2) := by decide +kernel
theorem eX10_parting_54 : decode cX10_parting 54 = .ok (.invokespecial 146, 3) := by decide +kernel
theorem eX10_parting_57 : decode cX10_parting 57 = .ok (.athrow, 1) := by decide +kernel
theorem dX10_parting_42 : gw_dc cX10_parting 42 (.iload_n 3) 1 43 := ⟨by decide +kernel, rfl⟩
theorem dX10_parting_43 : gw_dc cX10_parting 43 (.bipush 16) 2 45 := ⟨by decide +kernel, rfl⟩
theorem dX10_parting_45 : gw_dc cX10_parting 45 (.if_icmp .lt 13) 3 48 := ⟨by decide +kernel, rfl⟩
theorem dX10_fee_0 : gw_dc cX10_fee 0 (.iload_n 1) 1 1 := ⟨by decide +kernel, rfl⟩
theorem dX10_fee_1 : gw_dc cX10_fee 1 (.iconst 2) 1 2 := ⟨by decide +kernel, rfl⟩
theorem dX10_fee_2 : gw_dc cX10_fee 2 (.if_icmp .lt 8) 3 5 := ⟨by decide +kernel, rfl⟩
theorem eX10_fee_10 : decode cX10_fee 10 = .ok (.new 142, 3) := by decide +kernel
theorem eX10_fee_13 : decode cX10_fee 13 = .ok (.dup, 1) := by decide +kernel
theorem eX10_fee_14 : decode cX10_fee 14 = .ok (.ldc_w 335, 3) := by decide +kernel
theorem eX10_fee_17 : decode cX10_fee 17 = .ok (.invokespecial 146, 3) := by decide +kernel
theorem eX10_fee_20 : decode cX10_fee 20 = .ok (.athrow, 1) := by decide +kernel
theorem dX10_fee_5 : gw_dc cX10_fee 5 (.iload_n 1) 1 6 := ⟨by decide +kernel, rfl⟩
theorem dX10_fee_6 : gw_dc cX10_fee 6 (.iconst 3) 1 7 := ⟨by decide +kernel, rfl⟩
theorem dX10_fee_7 : gw_dc cX10_fee 7 (.if_icmp .le 14) 3 10 := ⟨by decide +kernel, rfl⟩
theorem dX10_fee_21 : gw_dc cX10_fee 21 (.iconst 0) 1 22 := ⟨by decide +kernel, rfl⟩
theorem dX10_fee_22 : gw_dc cX10_fee 22 (.istore_n 2) 1 23 := ⟨by decide +kernel, rfl⟩
theorem dX10_fee_23 : gw_dc cX10_fee 23 (.aload_n 0) 1 24 := ⟨by decide +kernel, rfl⟩
theorem dX10_fee_24 : gw_dc cX10_fee 24 (.getfield 53) 3 27 := ⟨by decide +kernel, rfl⟩
theorem dX10_fee_27 : gw_dc cX10_fee 27 (.aload_n 0) 1 28 := ⟨by decide +kernel, rfl⟩
theorem dX10_fee_28 : gw_dc cX10_fee 28 (.getfield 28) 3 31 := ⟨by decide +kernel, rfl⟩
theorem dX10_fee_31 : gw_dc cX10_fee 31 (.invokevirtual 111) 3 34 := ⟨by decide +kernel, rfl⟩
theorem dX10_fee_34 : gw_dc cX10_fee 34 (.aload_n 0) 1 35 := ⟨by decide +kernel, rfl⟩
theorem dX10_fee_35 : gw_dc cX10_fee 35 (.getfield 53) 3 38 := ⟨by decide +kernel, rfl⟩
theorem dX10_fee_38 : gw_dc cX10_fee 38 (.invokevirtual 233) 3 41 := ⟨by decide +kernel, rfl⟩
theorem dX10_fee_41 : gw_dc cX10_fee 41 (.pop) 1 42 := ⟨by decide +kernel, rfl⟩
theorem dX10_fee_42 : gw_dc cX10_fee 42 (.iconst 0) 1 43 := ⟨by decide +kernel, rfl⟩
theorem dX10_fee_43 : gw_dc cX10_fee 43 (.istore_n 3) 1 44 := ⟨by decide +kernel, rfl⟩
theorem dX10_fee_44 : gw_dc cX10_fee 44 (.iload_n 3) 1 45 := ⟨by decide +kernel, rfl⟩
theorem dX10_fee_45 : gw_dc cX10_fee 45 (.aload_n 0) 1 46 := ⟨by decide +kernel, rfl⟩
theorem dX10_fee_46 : gw_dc cX10_fee 46 (.getfield 53) 3 49 := ⟨by decide +kernel, rfl⟩
theorem dX10_fee_49 : gw_dc cX10_fee 49 (.getfield 236) 3 52 := ⟨by decide +kernel, rfl⟩
theorem dX10_fee_52 : gw_dc cX10_fee 52 (.if_icmp .ge 66) 3 55 := ⟨by decide +kernel, rfl⟩
theorem dX10_fee_118 : gw_dc cX10_fee 118 (.iload_n 2) 1 119 := ⟨by decide +kernel, rfl⟩
theorem dX10_fee_119 : decode cX10_fee 119 = .ok (.ireturn, 1) := by decide +kernel
theorem dX10_fee_55 : gw_dc cX10_fee 55 (.aload_n 0) 1 56 := ⟨by decide +kernel, rfl⟩
theorem dX10_fee_56 : gw_dc cX10_fee 56 (.getfield 53) 3 59 := ⟨by decide +kernel, rfl⟩
theorem dX10_fee_59 : gw_dc cX10_fee 59 (.getfield 152) 3 62 := ⟨by decide +kernel, rfl⟩
theorem rf_74_8 {ad : Nat → Nat} : (gw_M0 ad).2.2 74 8 = some 80 := (by decide +kernel : gw_rh 74 8 = some 80)
theorem in_80 : (80, 60) ∈ gw_rows := by decide +kernel
theorem dX10_fee_62 : gw_dc cX10_fee 62 (.iload_n 3) 1 63 := ⟨by decide +kernel, rfl⟩
theorem dX10_fee_63 : gw_dc cX10_fee 63 (.invokevirtual 155) 3 66 := ⟨by decide +kernel, rfl⟩
theorem dX10_fee_66 : gw_dc cX10_fee 66 (.bipush 30) 2 68 := ⟨by decide +kernel, rfl⟩
theorem dX10_fee_68 : gw_dc cX10_fee 68 (.if_icmp .gt 44) 3 71 := ⟨by decide +kernel, rfl⟩
theorem dX10_fee_112 : gw_dc cX10_fee 112 (.iinc 3 1) 3 115 := ⟨by decide +kernel, rfl⟩
theorem dX10_fee_115 : gw_dc cX10_fee 115 (.goto (-71)) 3 118 := ⟨by decide +kernel, rfl⟩
theorem dX10_fee_71 : gw_dc cX10_fee 71 (.aload_n 0) 1 72 := ⟨by decide +kernel, rfl⟩
theorem dX10_fee_72 : gw_dc cX10_fee 72 (.getfield 64) 3 75 := ⟨by decide +kernel, rfl⟩
theorem dX10_fee_75 : gw_dc cX10_fee 75 (.iload_n 3) 1 76 := ⟨by decide +kernel, rfl⟩
theorem dX10_fee_76 : gw_dc cX10_fee 76 (.iload_n 1) 1 77 := ⟨by decide +kernel, rfl⟩
theorem dX10_fee_77 : gw_dc cX10_fee 77 (.invokevirtual 337) 3 80 := ⟨by decide +kernel, rfl⟩
theorem dX10_fee_80 : gw_dc cX10_fee 80 (.iload_n 2) 1 81 := ⟨by decide +kernel, rfl⟩
theorem dX10_fee_81 : gw_dc cX10_fee 81 (.aload_n 0) 1 82 := ⟨by decide +kernel, rfl⟩
theorem dX10_fee_82 : gw_dc cX10_fee 82 (.getfield 64) 3 85 := ⟨by decide +kernel, rfl⟩
theorem dX10_fee_85 : gw_dc cX10_fee 85 (.iload_n 3) 1 86 := ⟨by decide +kernel, rfl⟩
theorem dX10_fee_86 : gw_dc cX10_fee 86 (.invokevirtual 350) 3 89 := ⟨by decide +kernel, rfl⟩
theorem mv_RX10_350 : gw_mv RX10 350 yX2_feeAgainst := ⟨gw_mem 1264 (by decide +kernel) rfl, gw_mem 1265 (by decide +kernel) rfl, gw_mem 1266 (by decide +kernel) rfl⟩
theorem my_X2_feeAgainst : gw_my yX2_feeAgainst cX2_feeAgainst 5 (some .int) 1 := ⟨gw_mem 1267 (by decide +kernel) rfl, gw_mem 103 (by decide +kernel) rfl, by decide +kernel, by decide⟩
theorem dX10_fee_89 : gw_dc cX10_fee 89 (.invokestatic 353) 3 92 := ⟨by decide +kernel, rfl⟩
theorem mm_RX10_353 : gw_mm RX10 353 Lib.Math.max.name Lib.Math.max.code := ⟨gw_mem 1272 (by decide +kernel) rfl, gw_mem 619 (by decide +kernel) rfl, gw_mem 116 (by decide +kernel) rfl, gw_mem 620 (by decide +kernel) rfl⟩
theorem dX10_fee_92 : gw_dc cX10_fee 92 (.istore_n 2) 1 93 := ⟨by decide +kernel, rfl⟩
theorem dX10_fee_93 : gw_dc cX10_fee 93 (.aload_n 0) 1 94 := ⟨by decide +kernel, rfl⟩
theorem dX10_fee_94 : gw_dc cX10_fee 94 (.getfield 53) 3 97 := ⟨by decide +kernel, rfl⟩
theorem dX10_fee_97 : gw_dc cX10_fee 97 (.iload_n 3) 1 98 := ⟨by decide +kernel, rfl⟩
theorem dX10_fee_98 : gw_dc cX10_fee 98 (.aload_n 0) 1 99 := ⟨by decide +kernel, rfl⟩
theorem dX10_fee_99 : gw_dc cX10_fee 99 (.getfield 53) 3 102 := ⟨by decide +kernel, rfl⟩
theorem dX10_fee_102 : gw_dc cX10_fee 102 (.getfield 152) 3 105 := ⟨by decide +kernel, rfl⟩
theorem dX10_fee_105 : gw_dc cX10_fee 105 (.iload_n 3) 1 106 := ⟨by decide +kernel, rfl⟩
theorem dX10_fee_106 : gw_dc cX10_fee 106 (.invokevirtual 155) 3 109 := ⟨by decide +kernel, rfl⟩
theorem dX10_fee_109 : gw_dc cX10_fee 109 (.invokevirtual 359) 3 112 := ⟨by decide +kernel, rfl⟩
theorem dX10_settle_0 : gw_dc cX10_settle 0 (.iload_n 1) 1 1 := ⟨by decide +kernel, rfl⟩
theorem dX10_settle_1 : gw_dc cX10_settle 1 (.iconst 1) 1 2 := ⟨by decide +kernel, rfl⟩
theorem dX10_settle_2 : gw_dc cX10_settle 2 (.if_icmp .lt 8) 3 5 := ⟨by decide +kernel, rfl⟩
theorem eX10_settle_10 : decode cX10_settle 10 = .ok (.new 142, 3) := by decide +kernel
theorem eX10_settle_13 : decode cX10_settle 13 = .ok (.dup, 1) := by decide +kernel
theorem eX10_settle_14 : decode cX10_settle 14 = .ok (.ldc_w 335, 3) := by decide +kernel
theorem eX10_settle_17 : decode cX10_settle 17 = .ok (.invokespecial 146, 3) := by decide +kernel
theorem eX10_settle_20 : decode cX10_settle 20 = .ok (.athrow, 1) := by decide +kernel
theorem dX10_settle_5 : gw_dc cX10_settle 5 (.iload_n 1) 1 6 := ⟨by decide +kernel, rfl⟩
theorem dX10_settle_6 : gw_dc cX10_settle 6 (.iconst 3) 1 7 := ⟨by decide +kernel, rfl⟩
theorem dX10_settle_7 : gw_dc cX10_settle 7 (.if_icmp .le 14) 3 10 := ⟨by decide +kernel, rfl⟩
theorem dX10_settle_21 : gw_dc cX10_settle 21 (.aload_n 0) 1 22 := ⟨by decide +kernel, rfl⟩
theorem dX10_settle_22 : gw_dc cX10_settle 22 (.invokevirtual 347) 3 25 := ⟨by decide +kernel, rfl⟩
theorem mv_RX10_347 : gw_mv RX10 347 yX10_isTooMuchToSettle := ⟨gw_mem 1253 (by decide +kernel) rfl, gw_mem 1255 (by decide +kernel) rfl, gw_mem 31 (by decide +kernel) rfl⟩
theorem my_X10_isTooMuchToSettle : gw_my yX10_isTooMuchToSettle cX10_isTooMuchToSettle 3 (some .boolean) 0 := ⟨gw_mem 1256 (by decide +kernel) rfl, gw_mem 95 (by decide +kernel) rfl, by decide +kernel, by decide⟩
theorem dX10_settle_25 : gw_dc cX10_settle 25 (.ifCond .eq 6) 3 28 := ⟨by decide +kernel, rfl⟩
theorem dX10_settle_31 : gw_dc cX10_settle 31 (.aload_n 0) 1 32 := ⟨by decide +kernel, rfl⟩
theorem dX10_settle_32 : gw_dc cX10_settle 32 (.getfield 41) 3 35 := ⟨by decide +kernel, rfl⟩
theorem dX10_settle_35 : gw_dc cX10_settle 35 (.aload_n 0) 1 36 := ⟨by decide +kernel, rfl⟩
theorem dX10_settle_36 : gw_dc cX10_settle 36 (.getfield 28) 3 39 := ⟨by decide +kernel, rfl⟩
theorem dX10_settle_39 : gw_dc cX10_settle 39 (.invokevirtual 111) 3 42 := ⟨by decide +kernel, rfl⟩
theorem dX10_settle_42 : gw_dc cX10_settle 42 (.iconst 1) 1 43 := ⟨by decide +kernel, rfl⟩
theorem dX10_settle_43 : gw_dc cX10_settle 43 (.istore_n 2) 1 44 := ⟨by decide +kernel, rfl⟩
theorem dX10_settle_44 : gw_dc cX10_settle 44 (.iload_n 2) 1 45 := ⟨by decide +kernel, rfl⟩
theorem dX10_settle_45 : gw_dc cX10_settle 45 (.bipush 10) 2 47 := ⟨by decide +kernel, rfl⟩
theorem dX10_settle_47 : gw_dc cX10_settle 47 (.if_icmp .gt 148) 3 50 := ⟨by decide +kernel, rfl⟩
theorem dX10_settle_195 : gw_dc cX10_settle 195 (.aload_n 0) 1 196 := ⟨by decide +kernel, rfl⟩
theorem dX10_settle_196 : gw_dc cX10_settle 196 (.getfield 28) 3 199 := ⟨by decide +kernel, rfl⟩
theorem dX10_settle_199 : gw_dc cX10_settle 199 (.aload_n 0) 1 200 := ⟨by decide +kernel, rfl⟩
theorem dX10_settle_200 : gw_dc cX10_settle 200 (.getfield 41) 3 203 := ⟨by decide +kernel, rfl⟩
theorem dX10_settle_203 : gw_dc cX10_settle 203 (.invokevirtual 111) 3 206 := ⟨by decide +kernel, rfl⟩
theorem dX10_settle_206 : gw_dc cX10_settle 206 (.bipush (-2)) 2 208 := ⟨by decide +kernel, rfl⟩
theorem dX10_settle_208 : decode cX10_settle 208 = .ok (.ireturn, 1) := by decide +kernel
theorem dX10_settle_50 : gw_dc cX10_settle 50 (.iconst 0) 1 51 := ⟨by decide +kernel, rfl⟩
theorem dX10_settle_51 : gw_dc cX10_settle 51 (.istore_n 3) 1 52 := ⟨by decide +kernel, rfl⟩
theorem dX10_settle_52 : gw_dc cX10_settle 52 (.iconst 0) 1 53 := ⟨by decide +kernel, rfl⟩
theorem dX10_settle_53 : gw_dc cX10_settle 53 (.istore 4) 2 55 := ⟨by decide +kernel, rfl⟩
theorem dX10_settle_55 : gw_dc cX10_settle 55 (.iload 4) 2 57 := ⟨by decide +kernel, rfl⟩
theorem dX10_settle_57 : gw_dc cX10_settle 57 (.aload_n 0) 1 58 := ⟨by decide +kernel, rfl⟩
theorem dX10_settle_58 : gw_dc cX10_settle 58 (.getfield 28) 3 61 := ⟨by decide +kernel, rfl⟩
theorem dX10_settle_61 : gw_dc cX10_settle 61 (.getfield 236) 3 64 := ⟨by decide +kernel, rfl⟩
theorem dX10_settle_64 : gw_dc cX10_settle 64 (.if_icmp .ge 119) 3 67 := ⟨by decide +kernel, rfl⟩
theorem dX10_settle_183 : gw_dc cX10_settle 183 (.iload_n 3) 1 184 := ⟨by decide +kernel, rfl⟩
theorem dX10_settle_184 : gw_dc cX10_settle 184 (.ifCond .ne 5) 3 187 := ⟨by decide +kernel, rfl⟩
theorem dX10_settle_189 : gw_dc cX10_settle 189 (.iinc 2 1) 3 192 := ⟨by decide +kernel, rfl⟩
theorem dX10_settle_192 : gw_dc cX10_settle 192 (.goto (-148)) 3 195 := ⟨by decide +kernel, rfl⟩
theorem dX10_settle_187 : gw_dc cX10_settle 187 (.iload_n 2) 1 188 := ⟨by decide +kernel, rfl⟩
theorem dX10_settle_188 : decode cX10_settle 188 = .ok (.ireturn, 1) := by decide +kernel
theorem dX10_settle_67 : gw_dc cX10_settle 67 (.aload_n 0) 1 68 := ⟨by decide +kernel, rfl⟩
theorem dX10_settle_68 : gw_dc cX10_settle 68 (.getfield 37) 3 71 := ⟨by decide +kernel, rfl⟩
theorem dX10_settle_71 : gw_dc cX10_settle 71 (.invokevirtual 189) 3 74 := ⟨by decide +kernel, rfl⟩
theorem dX10_settle_74 : gw_dc cX10_settle 74 (.aload_n 0) 1 75 := ⟨by decide +kernel, rfl⟩
theorem dX10_settle_75 : gw_dc cX10_settle 75 (.getfield 28) 3 78 := ⟨by decide +kernel, rfl⟩
theorem dX10_settle_78 : gw_dc cX10_settle 78 (.getfield 168) 3 81 := ⟨by decide +kernel, rfl⟩
theorem dX10_settle_81 : gw_dc cX10_settle 81 (.iload 4) 2 83 := ⟨by decide +kernel, rfl⟩
theorem dX10_settle_83 : gw_dc cX10_settle 83 (.invokevirtual 155) 3 86 := ⟨by decide +kernel, rfl⟩
theorem dX10_settle_86 : gw_dc cX10_settle 86 (.aload_n 0) 1 87 := ⟨by decide +kernel, rfl⟩
theorem dX10_settle_87 : gw_dc cX10_settle 87 (.getfield 37) 3 90 := ⟨by decide +kernel, rfl⟩
theorem dX10_settle_90 : gw_dc cX10_settle 90 (.iload 4) 2 92 := ⟨by decide +kernel, rfl⟩
theorem dX10_settle_92 : gw_dc cX10_settle 92 (.invokevirtual 252) 3 95 := ⟨by decide +kernel, rfl⟩
theorem dX10_settle_95 : gw_dc cX10_settle 95 (.imul) 1 96 := ⟨by decide +kernel, rfl⟩
theorem dX10_settle_96 : gw_dc cX10_settle 96 (.aload_n 0) 1 97 := ⟨by decide +kernel, rfl⟩
theorem dX10_settle_97 : gw_dc cX10_settle 97 (.getfield 28) 3 100 := ⟨by decide +kernel, rfl⟩
theorem dX10_settle_100 : gw_dc cX10_settle 100 (.getfield 272) 3 103 := ⟨by decide +kernel, rfl⟩
theorem dX10_settle_103 : gw_dc cX10_settle 103 (.aload_n 0) 1 104 := ⟨by decide +kernel, rfl⟩
theorem dX10_settle_104 : gw_dc cX10_settle 104 (.getfield 28) 3 107 := ⟨by decide +kernel, rfl⟩
theorem dX10_settle_107 : gw_dc cX10_settle 107 (.getfield 174) 3 110 := ⟨by decide +kernel, rfl⟩
theorem dX10_settle_110 : gw_dc cX10_settle 110 (.iload 4) 2 112 := ⟨by decide +kernel, rfl⟩
theorem dX10_settle_112 : gw_dc cX10_settle 112 (.invokevirtual 155) 3 115 := ⟨by decide +kernel, rfl⟩
theorem dX10_settle_115 : gw_dc cX10_settle 115 (.imul) 1 116 := ⟨by decide +kernel, rfl⟩
theorem dX10_settle_116 : gw_dc cX10_settle 116 (.iadd) 1 117 := ⟨by decide +kernel, rfl⟩
theorem dX10_settle_117 : gw_dc cX10_settle 117 (.istore 5) 2 119 := ⟨by decide +kernel, rfl⟩
theorem dX10_settle_119 : gw_dc cX10_settle 119 (.aload_n 0) 1 120 := ⟨by decide +kernel, rfl⟩
theorem dX10_settle_120 : gw_dc cX10_settle 120 (.getfield 53) 3 123 := ⟨by decide +kernel, rfl⟩
theorem dX10_settle_123 : gw_dc cX10_settle 123 (.aload_n 0) 1 124 := ⟨by decide +kernel, rfl⟩
theorem dX10_settle_124 : gw_dc cX10_settle 124 (.getfield 28) 3 127 := ⟨by decide +kernel, rfl⟩
theorem dX10_settle_127 : gw_dc cX10_settle 127 (.invokevirtual 111) 3 130 := ⟨by decide +kernel, rfl⟩
theorem dX10_settle_130 : gw_dc cX10_settle 130 (.aload_n 0) 1 131 := ⟨by decide +kernel, rfl⟩
theorem dX10_settle_131 : gw_dc cX10_settle 131 (.getfield 64) 3 134 := ⟨by decide +kernel, rfl⟩
theorem dX10_settle_134 : gw_dc cX10_settle 134 (.iload 4) 2 136 := ⟨by decide +kernel, rfl⟩
theorem dX10_settle_136 : gw_dc cX10_settle 136 (.iload_n 1) 1 137 := ⟨by decide +kernel, rfl⟩
theorem dX10_settle_137 : gw_dc cX10_settle 137 (.invokevirtual 337) 3 140 := ⟨by decide +kernel, rfl⟩
theorem dX10_settle_140 : gw_dc cX10_settle 140 (.aload_n 0) 1 141 := ⟨by decide +kernel, rfl⟩
theorem dX10_settle_141 : gw_dc cX10_settle 141 (.getfield 64) 3 144 := ⟨by decide +kernel, rfl⟩
theorem dX10_settle_144 : gw_dc cX10_settle 144 (.getfield 339) 3 147 := ⟨by decide +kernel, rfl⟩
theorem dX10_settle_147 : gw_dc cX10_settle 147 (.iload 5) 2 149 := ⟨by decide +kernel, rfl⟩
theorem dX10_settle_149 : gw_dc cX10_settle 149 (.if_icmp .ge 28) 3 152 := ⟨by decide +kernel, rfl⟩
theorem dX10_settle_177 : gw_dc cX10_settle 177 (.iinc 4 1) 3 180 := ⟨by decide +kernel, rfl⟩
theorem dX10_settle_180 : gw_dc cX10_settle 180 (.goto (-125)) 3 183 := ⟨by decide +kernel, rfl⟩
theorem dX10_settle_152 : gw_dc cX10_settle 152 (.aload_n 0) 1 153 := ⟨by decide +kernel, rfl⟩
theorem dX10_settle_153 : gw_dc cX10_settle 153 (.getfield 28) 3 156 := ⟨by decide +kernel, rfl⟩
theorem dX10_settle_156 : gw_dc cX10_settle 156 (.iload 4) 2 158 := ⟨by decide +kernel, rfl⟩
theorem dX10_settle_158 : gw_dc cX10_settle 158 (.aload_n 0) 1 159 := ⟨by decide +kernel, rfl⟩
theorem dX10_settle_159 : gw_dc cX10_settle 159 (.getfield 64) 3 162 := ⟨by decide +kernel, rfl⟩
theorem dX10_settle_162 : gw_dc cX10_settle 162 (.getfield 344) 3 165 := ⟨by decide +kernel, rfl⟩
theorem dX10_settle_165 : gw_dc cX10_settle 165 (.aload_n 0) 1 166 := ⟨by decide +kernel, rfl⟩
theorem dX10_settle_166 : gw_dc cX10_settle 166 (.getfield 64) 3 169 := ⟨by decide +kernel, rfl⟩
theorem dX10_settle_169 : gw_dc cX10_settle 169 (.getfield 342) 3 172 := ⟨by decide +kernel, rfl⟩
theorem dX10_settle_172 : gw_dc cX10_settle 172 (.invokevirtual 222) 3 175 := ⟨by decide +kernel, rfl⟩
theorem dX10_settle_175 : gw_dc cX10_settle 175 (.iconst 1) 1 176 := ⟨by decide +kernel, rfl⟩
theorem dX10_settle_176 : gw_dc cX10_settle 176 (.istore_n 3) 1 177 := ⟨by decide +kernel, rfl⟩
theorem dX10_settle_28 : gw_dc cX10_settle 28 (.bipush (-2)) 2 30 := ⟨by decide +kernel, rfl⟩
theorem dX10_settle_30 : decode cX10_settle 30 = .ok (.ireturn, 1) := by decide +kernel
/-! LightestSack (0), 4: partings, settle, fee -/
theorem wg_lo (σ : Sg) (s k : Int) {a : Nat} (ha : a ≤ 74) (j : Nat) : wg σ s k a j = σ a j := by
  unfold wg wg1; split
  · rw [rCopy_ne (by omega), su_ne _ _ (Or.inl (by omega)), su_ne _ _ (Or.inl (by omega)), rPut_ne (by omega)]
  · rw [rPut_ne (by omega)]
theorem skW_lo (s k : Int) {a : Nat} (ha : a ≤ 74) (j : Nat) (n : Nat) (x : Int × Sg) : (itr n (skW s k) x).2 a j = x.2 a j := by
  induction n with
  | zero => rfl
  | succ n ih =>
    rw [itr_s, skW]; split
    · exact ih
    · rw [fnF, fnR_ne _ _ (by omega), wg_lo _ _ _ ha, go_off _ a (by omega), mWay_ne _ _ _ _ _ _ (by omega) (by omega)]; exact ih
theorem skS_lo (s : Int) (N : Nat) (i : Nat) (σ : Sg) {a : Nat} (ha : a ≤ 74) (j : Nat) : skS s N i σ a j = σ a j := by
  unfold skS skI
  rw [skW_lo s _ ha]
  show stF _ _ _ a j = _
  rw [stF, stS_ne (by omega), rPut_ne (by omega), rPut_ne (by omega)]
theorem skF_lo (σ : Sg) (s n : Int) {a : Nat} (ha : a ≤ 74) (j : Nat) : skF σ s n a j = σ a j := by
  unfold skF sk
  have h : ∀ m x, itr m (skS s skM) x a j = x a j := by
    intro m x
    induction m with
    | zero => rfl
    | succ m ih => rw [itr_s, skS_lo _ _ _ _ ha]; exact ih
  rw [h, sk0, su_ne _ _ (Or.inl (by omega)), su_ne _ _ (Or.inl (by omega))]
theorem skF_7 (σ : Sg) (s n : Int) : skF σ s n 121 7 ≤ n := by
  unfold skF sk
  rw [sk_7]; exact sk0_le σ s n
theorem mCopy_ne (σ : Sg) (f : Nat) {a : Nat} (ha : a < 74) (j : Nat) : mCopy σ 74 f a j = σ a j := by
  unfold mCopy lCopy
  simp only [rCopy_ne (show a ≠ 74 + 5 by omega), rCopy_ne (show a ≠ 74 + 7 by omega), rCopy_ne (show a ≠ 74 + 9 by omega), rCopy_ne (show a ≠ 74 + 11 by omega), rCopy_ne (show a ≠ 74 + 13 by omega), rCopy_ne (show a ≠ 74 + 15 by omega), rCopy_ne (show a ≠ 74 + 17 by omega), rCopy_ne (show a ≠ 74 + 19 by omega), rCopy_ne (show a ≠ 74 + 21 by omega)]
  rw [su_ne _ _ (Or.inl (by omega)), su_ne _ _ (Or.inl (by omega)), su_ne _ _ (Or.inl (by omega)), su_ne _ _ (Or.inl (by omega)), su_ne _ _ (Or.inl (by omega)), su_ne _ _ (Or.inl (by omega)), su_ne _ _ (Or.inl (by omega)), rCopy_ne (by omega)]
def zTmS (σ : Sg) (i : Nat) (b : Int) : Int := if b ≠ 0 then b else if 30 < rAt σ 11 60 (i : Nat) then 1 else 0
def zTm0 (σ : Sg) : Int := if 12 < σ 4 5 then 1 else 0
def zTm (σ : Sg) : Int := itr (σ 4 5).toNat (zTmS σ) (zTm0 σ)
theorem zTm0_b (σ : Sg) : zTm0 σ = 0 ∨ zTm0 σ = 1 := by unfold zTm0; split; exact Or.inr rfl; exact Or.inl rfl
theorem zTmS_b (σ : Sg) : ∀ k, itr k (zTmS σ) (zTm0 σ) = 0 ∨ itr k (zTmS σ) (zTm0 σ) = 1 := by
  intro k
  induction k with
  | zero => exact zTm0_b σ
  | succ k ih => rw [itr_s, zTmS]; split; exact ih; split; exact Or.inr rfl; exact Or.inl rfl
theorem zTmS_1 (σ : Sg) (b : Int) (k : Nat) (h : itr k (zTmS σ) b ≠ 0) : ∀ m, itr (k + m) (zTmS σ) b = itr k (zTmS σ) b := by
  intro m
  induction m with
  | zero => rfl
  | succ m ih => rw [← Nat.add_assoc, itr_s, zTmS, ih, if_pos h]
def gPg (σ : Sg) (s n w : Int) : Option String := (gSack σ s).or ((if 1 ≤ n ∧ n ≤ 6 then none else gIA).or (if w = 0 ∨ w = 1 ∨ (10 ≤ w ∧ w < 16) then none else gIA))
def zPg (σ : Sg) (s n : Int) : Sg := skF (mCopy σ 74 4) s n
def zPgV (x : Sg) (w : Int) : Int := if w = 0 then x 121 5 else if w = 1 then x 121 6 else if wr (w - 10) < x 121 6 then rAt x 125 8 (wr (w - 10)) else -1
def zPar (σ : Sg) (s n w : Int) : Int × Sg := if 1 < n ∧ 30 < rAt σ 11 60 s then (-2, σ) else (zPgV (zPg σ s n) w, zPg σ s n)
/-- what sack i costs as it is parted, in the world behind THE RUN -/
def zSeP (x : Sg) (i : Int) : Int := wr (wr (rAt x 19 60 i * uW x 26 4 i) + wr (x 4 4 * rAt x 23 60 i))
def zSeB (n : Int) (i : Nat) (x : Sg) : Sg := zPg (go x 26 4) (i : Nat) n
def zSeS (n : Int) (i : Nat) (x : Int × Sg) : Int × Sg :=
  if zSeB n i x.2 121 5 < zSeP (go x.2 26 4) (i : Nat) then (1, mWay (zSeB n i x.2) 4 125 8 (i : Nat) (zSeB n i x.2 121 6)) else (x.1, zSeB n i x.2)
def zSeR (n : Int) (x : Sg) : Int × Sg := itr (x 4 5).toNat (zSeS n) (0, x)
theorem zSeS_5 (n : Int) (x : Sg) : ∀ k, (itr k (zSeS n) (0, x)).2 4 5 = x 4 5 := by
  intro k
  induction k with
  | zero => rfl
  | succ k ih =>
    have h : zSeB n k (itr k (zSeS n) (0, x)).2 4 5 = x 4 5 := by rw [zSeB, zPg, skF_lo _ _ _ (by decide), mCopy_ne _ _ (by decide), go_off _ 4 (by omega)]; exact ih
    rw [itr_s, zSeS]; split
    · show mWay _ _ _ _ _ _ 4 5 = _
      rw [mWay_ne _ _ _ _ _ _ (by decide) (by decide)]; exact h
    · exact h
def zSe (n : Int) : Nat → Nat → Sg → Int × Sg
  | 0, _, x => (-2, mCopy x 4 51)
  | f + 1, r, x => if (zSeR n x).1 = 0 then ((r : Nat) + 1, (zSeR n x).2) else zSe n f (r + 1) (zSeR n x).2
def zSettle (σ : Sg) (n : Int) : Int × Sg := if zTm σ ≠ 0 then (-2, σ) else zSe n 10 0 (mCopy σ 51 4)
def gSe (n : Int) : Option String := if 1 ≤ n ∧ n ≤ 3 then none else gIA
def gFe (n : Int) : Option String := if 2 ≤ n ∧ n ≤ 3 then none else gIA
def zFe0 (σ : Sg) : Sg := (mMk (mCopy σ 74 4) 74).2
def zFeS (n : Int) (i : Nat) (x : Int × Sg) : Int × Sg :=
  if rAt x.2 81 60 (i : Nat) ≤ 30 then (max x.1 (faF (skF x.2 (i : Nat) n) (i : Nat)), mWhole (skF x.2 (i : Nat) n) 74 (i : Nat) (rAt (skF x.2 (i : Nat) n) 81 60 (i : Nat))) else x
theorem zFeS_5 (n : Int) (x : Sg) : ∀ k, (itr k (zFeS n) (0, x)).2 74 5 = x 74 5 := by
  intro k
  induction k with
  | zero => rfl
  | succ k ih =>
    rw [itr_s, zFeS]; split
    · show mWhole _ _ _ _ 74 5 = _
      rw [mWhole_5, skF_lo _ _ _ (by decide)]; exact ih
    · exact ih
def zFee (σ : Sg) (n : Int) : Int × Sg := itr (zFe0 σ 74 5).toNat (zFeS n) (0, zFe0 σ)
set_option maxRecDepth 4000 in
theorem s_X10_isTooMuchToSettle (ad : Nat → Nat) (σ : Sg)  : gw_Sp yX10_isTooMuchToSettle cX10_isTooMuchToSettle 3 (some .boolean) 2 0 0 [vR (some 0)] (gw_M0 ad) σ (gw_D (some (vI (zTm σ))) (gw_M0 ad) (σ)) gw_no := by
  refine gw_Sp.of [some (vR (some 0)), none, none] (by decide +kernel) rfl (Nat.le_of_ble_eq_true rfl) ?_
  intro X G fx het hnm
  refine g_okS (fun hok => ?_)
  have hq5 := gw_okO 5 hok (mill_O in_4) (by decide)
  unfold okI at hq5
  refine g_aload_n fx dX10_isTooMuchToSettle_0 rfl ?_
  refine g_getr fx dX10_isTooMuchToSettle_1 fk_RX10_28 o_0 rf_0_2 ?_
  refine g_geti fx dX10_isTooMuchToSettle_4 fk_RX10_236 (by decide) (mill_O in_4) ?_
  refine g_bipush fx dX10_isTooMuchToSettle_7 (by decide) ?_
  refine g_icmp_le (tgt := 16) fx dX10_isTooMuchToSettle_9 (by decide) (fun h9 => ?_) (fun h9 => ?_)
  · refine g_iconst fx dX10_isTooMuchToSettle_16 (by unfold okI; omega) ?_
    refine g_istore_n fx dX10_isTooMuchToSettle_17 (by decide) rfl rfl ?_
    refine g_iconst fx dX10_isTooMuchToSettle_18 (by unfold okI; omega) ?_
    refine g_istore_n fx dX10_isTooMuchToSettle_19 (by decide) rfl rfl ?_
    have loop20 : ∀ i : Nat, i ≤ (σ 4 5).toNat → gw_W X (yX10_isTooMuchToSettle.cls, cX10_isTooMuchToSettle, 3, (some .boolean), 2, 0, 0) G (gw_Z X G (gw_M0 ad) σ (gw_D (some (vI (zTm σ))) (gw_M0 ad) (σ)) gw_no 0 0) 0 0 (gw_M0 ad) (σ) 20 [some (vR (some 0)), some (vI (itr i (zTmS σ) (zTm0 σ))), some (vI (i : Nat))] [] := by
      refine up_ind _ ((σ 4 5).toNat) (fun i hi ih => ?_)
      refine g_iload_n fx dX10_isTooMuchToSettle_20 rfl ?_
      refine g_aload_n fx dX10_isTooMuchToSettle_21 rfl ?_
      refine g_getr fx dX10_isTooMuchToSettle_22 fk_RX10_28 o_0 rf_0_2 ?_
      refine g_geti fx dX10_isTooMuchToSettle_25 fk_RX10_236 (by decide) (mill_O in_4) ?_
      refine g_icmp_ge (tgt := 63) fx dX10_isTooMuchToSettle_28 (by decide) (fun h28 => ?_) (fun h28 => ?_)
      · have hend : zTm σ = (itr i (zTmS σ) (zTm0 σ)) := by
          rw [zTm]
          first
          | rw [show (σ 4 5).toNat = i by omega]
          | (rw [show (σ 4 5).toNat = i + ((σ 4 5).toNat - i) by omega]; exact zTmS_1 _ _ _ (by assumption) _)
        refine g_iload_n fx dX10_isTooMuchToSettle_63 rfl ?_
        exact g_zret fx rfl dX10_isTooMuchToSettle_64 (zTmS_b σ i) (by decide) (by decide) (gw_le.rf _) ⟨by rw [hend], rfl, rfl⟩
      · refine g_iload_n fx dX10_isTooMuchToSettle_31 rfl ?_
        refine g_if_ne (tgt := 63) fx dX10_isTooMuchToSettle_32 (by decide) (fun h32 => ?_) (fun h32 => ?_)
        · have hend : zTm σ = (itr i (zTmS σ) (zTm0 σ)) := by
            rw [zTm]
            first
            | rw [show (σ 4 5).toNat = i by omega]
            | (rw [show (σ 4 5).toNat = i + ((σ 4 5).toNat - i) by omega]; exact zTmS_1 _ _ _ (by assumption) _)
          refine g_iload_n fx dX10_isTooMuchToSettle_63 rfl ?_
          exact g_zret fx rfl dX10_isTooMuchToSettle_64 (zTmS_b σ i) (by decide) (by decide) (gw_le.rf _) ⟨by rw [hend], rfl, rfl⟩
        · refine g_aload_n fx dX10_isTooMuchToSettle_35 rfl ?_
          refine g_getr fx dX10_isTooMuchToSettle_36 fk_RX10_28 o_0 rf_0_2 ?_
          refine g_getr fx dX10_isTooMuchToSettle_39 fk_RX10_152 (mill_O in_4) rf_4_8 ?_
          refine g_iload_n fx dX10_isTooMuchToSettle_42 rfl ?_
          refine g_callVD fx dX10_isTooMuchToSettle_43 mv_RX10_155 my_X4_at (s_X4_atC ad _ in_10 (show 10 + 1 = 11 from rfl) _) (row_O in_10) rfl rfl rfl (Nat.le_of_ble_eq_true rfl) (by decide) (by decide) ?_
          refine g_bipush fx dX10_isTooMuchToSettle_46 (by decide) ?_
          refine g_icmp_le (tgt := 55) fx dX10_isTooMuchToSettle_48 (by decide) (fun h48 => ?_) (fun h48 => ?_)
          · refine g_iconst fx dX10_isTooMuchToSettle_55 (by unfold okI; omega) ?_
            refine g_istore_n fx dX10_isTooMuchToSettle_56 (by decide) rfl rfl ?_
            refine g_iinc1 fx dX10_isTooMuchToSettle_57 (by decide) rfl rfl (by unfold okI; omega) rfl ?_
            refine g_goto (tgt := 20) fx dX10_isTooMuchToSettle_60 (by decide) ?_
            exact gw_cg rfl (by rw [itr_s, zTmS, show ((i : Nat) : Int) + 1 = ((i + 1 : Nat) : Int) by omega]; (repeat first | rw [if_pos (by omega)] | rw [if_neg (by omega)]) <;> rfl) (ih (by omega))
          · refine g_iconst fx dX10_isTooMuchToSettle_51 (by unfold okI; omega) ?_
            refine g_goto (tgt := 56) fx dX10_isTooMuchToSettle_52 (by decide) ?_
            refine g_istore_n fx dX10_isTooMuchToSettle_56 (by decide) rfl rfl ?_
            refine g_iinc1 fx dX10_isTooMuchToSettle_57 (by decide) rfl rfl (by unfold okI; omega) rfl ?_
            refine g_goto (tgt := 20) fx dX10_isTooMuchToSettle_60 (by decide) ?_
            exact gw_cg rfl (by rw [itr_s, zTmS, show ((i : Nat) : Int) + 1 = ((i + 1 : Nat) : Int) by omega]; (repeat first | rw [if_pos (by omega)] | rw [if_neg (by omega)]) <;> rfl) (ih (by omega))
    exact gw_cg rfl (by simp only [itr, zTm0]; (repeat first | rw [if_pos (by omega)] | rw [if_neg (by omega)]) <;> rfl) (loop20 0 (Nat.zero_le _))
  · refine g_iconst fx dX10_isTooMuchToSettle_12 (by unfold okI; omega) ?_
    refine g_goto (tgt := 17) fx dX10_isTooMuchToSettle_13 (by decide) ?_
    refine g_istore_n fx dX10_isTooMuchToSettle_17 (by decide) rfl rfl ?_
    refine g_iconst fx dX10_isTooMuchToSettle_18 (by unfold okI; omega) ?_
    refine g_istore_n fx dX10_isTooMuchToSettle_19 (by decide) rfl rfl ?_
    have loop20 : ∀ i : Nat, i ≤ (σ 4 5).toNat → gw_W X (yX10_isTooMuchToSettle.cls, cX10_isTooMuchToSettle, 3, (some .boolean), 2, 0, 0) G (gw_Z X G (gw_M0 ad) σ (gw_D (some (vI (zTm σ))) (gw_M0 ad) (σ)) gw_no 0 0) 0 0 (gw_M0 ad) (σ) 20 [some (vR (some 0)), some (vI (itr i (zTmS σ) (zTm0 σ))), some (vI (i : Nat))] [] := by
      refine up_ind _ ((σ 4 5).toNat) (fun i hi ih => ?_)
      refine g_iload_n fx dX10_isTooMuchToSettle_20 rfl ?_
      refine g_aload_n fx dX10_isTooMuchToSettle_21 rfl ?_
      refine g_getr fx dX10_isTooMuchToSettle_22 fk_RX10_28 o_0 rf_0_2 ?_
      refine g_geti fx dX10_isTooMuchToSettle_25 fk_RX10_236 (by decide) (mill_O in_4) ?_
      refine g_icmp_ge (tgt := 63) fx dX10_isTooMuchToSettle_28 (by decide) (fun h28 => ?_) (fun h28 => ?_)
      · have hend : zTm σ = (itr i (zTmS σ) (zTm0 σ)) := by
          rw [zTm]
          first
          | rw [show (σ 4 5).toNat = i by omega]
          | (rw [show (σ 4 5).toNat = i + ((σ 4 5).toNat - i) by omega]; exact zTmS_1 _ _ _ (by assumption) _)
        refine g_iload_n fx dX10_isTooMuchToSettle_63 rfl ?_
        exact g_zret fx rfl dX10_isTooMuchToSettle_64 (zTmS_b σ i) (by decide) (by decide) (gw_le.rf _) ⟨by rw [hend], rfl, rfl⟩
      · refine g_iload_n fx dX10_isTooMuchToSettle_31 rfl ?_
        refine g_if_ne (tgt := 63) fx dX10_isTooMuchToSettle_32 (by decide) (fun h32 => ?_) (fun h32 => ?_)
        · have hend : zTm σ = (itr i (zTmS σ) (zTm0 σ)) := by
            rw [zTm]
            first
            | rw [show (σ 4 5).toNat = i by omega]
            | (rw [show (σ 4 5).toNat = i + ((σ 4 5).toNat - i) by omega]; exact zTmS_1 _ _ _ (by assumption) _)
          refine g_iload_n fx dX10_isTooMuchToSettle_63 rfl ?_
          exact g_zret fx rfl dX10_isTooMuchToSettle_64 (zTmS_b σ i) (by decide) (by decide) (gw_le.rf _) ⟨by rw [hend], rfl, rfl⟩
        · refine g_aload_n fx dX10_isTooMuchToSettle_35 rfl ?_
          refine g_getr fx dX10_isTooMuchToSettle_36 fk_RX10_28 o_0 rf_0_2 ?_
          refine g_getr fx dX10_isTooMuchToSettle_39 fk_RX10_152 (mill_O in_4) rf_4_8 ?_
          refine g_iload_n fx dX10_isTooMuchToSettle_42 rfl ?_
          refine g_callVD fx dX10_isTooMuchToSettle_43 mv_RX10_155 my_X4_at (s_X4_atC ad _ in_10 (show 10 + 1 = 11 from rfl) _) (row_O in_10) rfl rfl rfl (Nat.le_of_ble_eq_true rfl) (by decide) (by decide) ?_
          refine g_bipush fx dX10_isTooMuchToSettle_46 (by decide) ?_
          refine g_icmp_le (tgt := 55) fx dX10_isTooMuchToSettle_48 (by decide) (fun h48 => ?_) (fun h48 => ?_)
          · refine g_iconst fx dX10_isTooMuchToSettle_55 (by unfold okI; omega) ?_
            refine g_istore_n fx dX10_isTooMuchToSettle_56 (by decide) rfl rfl ?_
            refine g_iinc1 fx dX10_isTooMuchToSettle_57 (by decide) rfl rfl (by unfold okI; omega) rfl ?_
            refine g_goto (tgt := 20) fx dX10_isTooMuchToSettle_60 (by decide) ?_
            exact gw_cg rfl (by rw [itr_s, zTmS, show ((i : Nat) : Int) + 1 = ((i + 1 : Nat) : Int) by omega]; (repeat first | rw [if_pos (by omega)] | rw [if_neg (by omega)]) <;> rfl) (ih (by omega))
          · refine g_iconst fx dX10_isTooMuchToSettle_51 (by unfold okI; omega) ?_
            refine g_goto (tgt := 56) fx dX10_isTooMuchToSettle_52 (by decide) ?_
            refine g_istore_n fx dX10_isTooMuchToSettle_56 (by decide) rfl rfl ?_
            refine g_iinc1 fx dX10_isTooMuchToSettle_57 (by decide) rfl rfl (by unfold okI; omega) rfl ?_
            refine g_goto (tgt := 20) fx dX10_isTooMuchToSettle_60 (by decide) ?_
            exact gw_cg rfl (by rw [itr_s, zTmS, show ((i : Nat) : Int) + 1 = ((i + 1 : Nat) : Int) by omega]; (repeat first | rw [if_pos (by omega)] | rw [if_neg (by omega)]) <;> rfl) (ih (by omega))
    exact gw_cg rfl (by simp only [itr, zTm0]; (repeat first | rw [if_pos (by omega)] | rw [if_neg (by omega)]) <;> rfl) (loop20 0 (Nat.zero_le _))
set_option maxRecDepth 4000 in
theorem s_X10_parting (ad : Nat → Nat) (σ : Sg)  (s : Int) (n : Int) (w : Int) : gw_Sp yX10_parting cX10_parting 4 (some .int) 8 2 12 [vR (some 0), vI s, vI n, vI w] (gw_M0 ad) σ (gw_DG (gPg σ s n w) (some (vI (zPar σ s n w).1)) (gw_M0 ad) ((zPar σ s n w).2)) (gw_isG (gPg σ s n w)) := by
  refine gw_Sp.of [some (vR (some 0)), some (vI s), some (vI n), some (vI w)] (by decide +kernel) rfl (Nat.le_of_ble_eq_true rfl) ?_
  intro X G fx het hnm
  refine g_aload_n fx dX10_parting_0 rfl ?_
  refine g_iload_n fx dX10_parting_1 rfl ?_
  refine g_callVG0 fx het dX10_parting_2 mv_RX10_149 my_X10_needSack (s_X10_needSack ad _ _) o_0 rfl rfl rfl (Nat.le_of_ble_eq_true rfl) (by decide) (by decide) rfl rfl (fun E hE => (by show gPg σ s n w = _; rw [gPg]; (repeat first | rw [or_n hg2] | rw [if_pos (by omega)] | rw [if_neg (by omega)] | rw [Option.none_or]); first | rfl | assumption | (refine or_s ?_; assumption) | (unfold gWhat; (repeat first | rw [if_pos (by omega)] | rw [if_neg (by omega)]) <;> rfl))) (fun hg2 => ?_)
  refine g_iload_n fx dX10_parting_5 rfl ?_
  refine g_iconst fx dX10_parting_6 (by unfold okI; omega) ?_
  refine g_icmp_lt (tgt := 16) fx dX10_parting_7 (by decide) (fun h7 => ?_) (fun h7 => ?_)
  · exact g_throwSW fx het th_RX10_142_146 (by decide +kernel : (RX10, 335, "not so many pieces", 30) ∈ gw_strT) eX10_parting_16 eX10_parting_19 eX10_parting_20 eX10_parting_23 eX10_parting_26 (by decide) rfl rfl (by decide) (by decide) (by decide) (by show gPg σ s n w = _; rw [gPg, or_n hg2, if_neg (by omega)]; rfl)
  · refine g_iload_n fx dX10_parting_10 rfl ?_
    refine g_bipush fx dX10_parting_11 (by decide) ?_
    refine g_icmp_le (tgt := 27) fx dX10_parting_13 (by decide) (fun h13 => ?_) (fun h13 => ?_)
    · refine g_iload_n fx dX10_parting_27 rfl ?_
      refine g_if_eq (tgt := 58) fx dX10_parting_28 (by decide) (fun h28 => ?_) (fun h28 => ?_)
      · refine g_iload_n fx dX10_parting_58 rfl ?_
        refine g_iconst fx dX10_parting_59 (by unfold okI; omega) ?_
        refine g_icmp_le (tgt := 82) fx dX10_parting_60 (by decide) (fun h60 => ?_) (fun h60 => ?_)
        · refine g_aload_n fx dX10_parting_82 rfl ?_
          refine g_getr fx dX10_parting_83 fk_RX10_53 o_0 rf_0_6 ?_
          refine g_aload_n fx dX10_parting_86 rfl ?_
          refine g_getr fx dX10_parting_87 fk_RX10_28 o_0 rf_0_2 ?_
          refine g_callVD0 fx dX10_parting_90 mv_RX10_111 my_X1_copyOf (s_X1_copyOf ad _ in_74 in_4 (by decide)) (mill_O in_74) rfl rfl rfl (Nat.le_of_ble_eq_true rfl) (by decide) (by decide) ?_
          refine g_aload_n fx dX10_parting_93 rfl ?_
          refine g_getr fx dX10_parting_94 fk_RX10_64 o_0 rf_0_8 ?_
          refine g_iload_n fx dX10_parting_97 rfl ?_
          refine g_iload_n fx dX10_parting_98 rfl ?_
          refine g_callVD0 fx dX10_parting_99 mv_RX10_337 my_X2_seek (s_X2_seekM ad _ _ _ (by omega)) o_121 rfl rfl rfl (Nat.le_of_ble_eq_true rfl) (by decide) (by decide) ?_
          refine g_iload_n fx dX10_parting_102 rfl ?_
          refine g_if_ne (tgt := 114) fx dX10_parting_103 (by decide) (fun h103 => ?_) (fun h103 => ?_)
          · refine g_iload_n fx dX10_parting_114 rfl ?_
            refine g_iconst fx dX10_parting_115 (by unfold okI; omega) ?_
            refine g_icmp_ne (tgt := 127) fx dX10_parting_116 (by decide) (fun h116 => ?_) (fun h116 => ?_)
            · refine g_iload_n fx dX10_parting_127 rfl ?_
              refine g_bipush fx dX10_parting_128 (by decide) ?_
              refine g_isub fx dX10_parting_130 ?_
              refine g_aload_n fx dX10_parting_131 rfl ?_
              refine g_getr fx dX10_parting_132 fk_RX10_64 o_0 rf_0_8 ?_
              refine g_geti fx dX10_parting_135 fk_RX10_342 (by decide) o_121 ?_
              refine g_icmp_ge (tgt := 158) fx dX10_parting_138 (by decide) (fun h138 => ?_) (fun h138 => ?_)
              · refine g_iconst fx dX10_parting_158 (by unfold okI; omega) ?_
                exact g_iret fx rfl dX10_parting_159 (by decide) (by decide) (gw_le.rf _) ⟨by first | (exfalso; omega) | (rw [gPg, or_n hg2, if_pos (by omega), Option.none_or, if_pos (by omega)]), by first | (exfalso; omega) | (rw [zPar]; (repeat first | rw [if_pos (by omega)] | rw [if_neg (by omega)]) <;> (try (show _ = some (vI (zPgV _ _)); rw [zPgV, zPg]; (repeat first | rw [if_pos (by omega)] | rw [if_neg (by omega)]))) <;> rfl), rfl, by first | (exfalso; omega) | (rw [zPar]; (repeat first | rw [if_pos (by omega)] | rw [if_neg (by omega)]) <;> rfl)⟩
              · refine g_aload_n fx dX10_parting_141 rfl ?_
                refine g_getr fx dX10_parting_142 fk_RX10_64 o_0 rf_0_8 ?_
                refine g_getr fx dX10_parting_145 fk_RX10_344 o_121 rf_121_3 ?_
                refine g_iload_n fx dX10_parting_148 rfl ?_
                refine g_bipush fx dX10_parting_149 (by decide) ?_
                refine g_isub fx dX10_parting_151 ?_
                refine g_callVD fx dX10_parting_152 mv_RX10_155 my_X4_at (s_X4_atC ad _ in_124 (show 124 + 1 = 125 from rfl) _) (row_O in_124) rfl rfl rfl (Nat.le_of_ble_eq_true rfl) (by decide) (by decide) ?_
                refine g_goto (tgt := 159) fx dX10_parting_155 (by decide) ?_
                exact g_iret fx rfl dX10_parting_159 (by decide) (by decide) (gw_le.rf _) ⟨by first | (exfalso; omega) | (rw [gPg, or_n hg2, if_pos (by omega), Option.none_or, if_pos (by omega)]), by first | (exfalso; omega) | (rw [zPar]; (repeat first | rw [if_pos (by omega)] | rw [if_neg (by omega)]) <;> (try (show _ = some (vI (zPgV _ _)); rw [zPgV, zPg]; (repeat first | rw [if_pos (by omega)] | rw [if_neg (by omega)]))) <;> rfl), rfl, by first | (exfalso; omega) | (rw [zPar]; (repeat first | rw [if_pos (by omega)] | rw [if_neg (by omega)]) <;> rfl)⟩
            · refine g_aload_n fx dX10_parting_119 rfl ?_
              refine g_getr fx dX10_parting_120 fk_RX10_64 o_0 rf_0_8 ?_
              refine g_geti fx dX10_parting_123 fk_RX10_342 (by decide) o_121 ?_
              exact g_iret fx rfl dX10_parting_126 (by decide) (by decide) (gw_le.rf _) ⟨by first | (exfalso; omega) | (rw [gPg, or_n hg2, if_pos (by omega), Option.none_or, if_pos (by omega)]), by first | (exfalso; omega) | (rw [zPar]; (repeat first | rw [if_pos (by omega)] | rw [if_neg (by omega)]) <;> (try (show _ = some (vI (zPgV _ _)); rw [zPgV, zPg]; (repeat first | rw [if_pos (by omega)] | rw [if_neg (by omega)]))) <;> rfl), rfl, by first | (exfalso; omega) | (rw [zPar]; (repeat first | rw [if_pos (by omega)] | rw [if_neg (by omega)]) <;> rfl)⟩
          · refine g_aload_n fx dX10_parting_106 rfl ?_
            refine g_getr fx dX10_parting_107 fk_RX10_64 o_0 rf_0_8 ?_
            refine g_geti fx dX10_parting_110 fk_RX10_339 (by decide) o_121 ?_
            exact g_iret fx rfl dX10_parting_113 (by decide) (by decide) (gw_le.rf _) ⟨by first | (exfalso; omega) | (rw [gPg, or_n hg2, if_pos (by omega), Option.none_or, if_pos (by omega)]), by first | (exfalso; omega) | (rw [zPar]; (repeat first | rw [if_pos (by omega)] | rw [if_neg (by omega)]) <;> (try (show _ = some (vI (zPgV _ _)); rw [zPgV, zPg]; (repeat first | rw [if_pos (by omega)] | rw [if_neg (by omega)]))) <;> rfl), rfl, by first | (exfalso; omega) | (rw [zPar]; (repeat first | rw [if_pos (by omega)] | rw [if_neg (by omega)]) <;> rfl)⟩
        · refine g_aload_n fx dX10_parting_63 rfl ?_
          refine g_getr fx dX10_parting_64 fk_RX10_28 o_0 rf_0_2 ?_
          refine g_getr fx dX10_parting_67 fk_RX10_152 (mill_O in_4) rf_4_8 ?_
          refine g_iload_n fx dX10_parting_70 rfl ?_
          refine g_callVD fx dX10_parting_71 mv_RX10_155 my_X4_at (s_X4_atC ad _ in_10 (show 10 + 1 = 11 from rfl) _) (row_O in_10) rfl rfl rfl (Nat.le_of_ble_eq_true rfl) (by decide) (by decide) ?_
          refine g_bipush fx dX10_parting_74 (by decide) ?_
          refine g_icmp_le (tgt := 82) fx dX10_parting_76 (by decide) (fun h76 => ?_) (fun h76 => ?_)
          · refine g_aload_n fx dX10_parting_82 rfl ?_
            refine g_getr fx dX10_parting_83 fk_RX10_53 o_0 rf_0_6 ?_
            refine g_aload_n fx dX10_parting_86 rfl ?_
            refine g_getr fx dX10_parting_87 fk_RX10_28 o_0 rf_0_2 ?_
            refine g_callVD0 fx dX10_parting_90 mv_RX10_111 my_X1_copyOf (s_X1_copyOf ad _ in_74 in_4 (by decide)) (mill_O in_74) rfl rfl rfl (Nat.le_of_ble_eq_true rfl) (by decide) (by decide) ?_
            refine g_aload_n fx dX10_parting_93 rfl ?_
            refine g_getr fx dX10_parting_94 fk_RX10_64 o_0 rf_0_8 ?_
            refine g_iload_n fx dX10_parting_97 rfl ?_
            refine g_iload_n fx dX10_parting_98 rfl ?_
            refine g_callVD0 fx dX10_parting_99 mv_RX10_337 my_X2_seek (s_X2_seekM ad _ _ _ (by omega)) o_121 rfl rfl rfl (Nat.le_of_ble_eq_true rfl) (by decide) (by decide) ?_
            refine g_iload_n fx dX10_parting_102 rfl ?_
            refine g_if_ne (tgt := 114) fx dX10_parting_103 (by decide) (fun h103 => ?_) (fun h103 => ?_)
            · refine g_iload_n fx dX10_parting_114 rfl ?_
              refine g_iconst fx dX10_parting_115 (by unfold okI; omega) ?_
              refine g_icmp_ne (tgt := 127) fx dX10_parting_116 (by decide) (fun h116 => ?_) (fun h116 => ?_)
              · refine g_iload_n fx dX10_parting_127 rfl ?_
                refine g_bipush fx dX10_parting_128 (by decide) ?_
                refine g_isub fx dX10_parting_130 ?_
                refine g_aload_n fx dX10_parting_131 rfl ?_
                refine g_getr fx dX10_parting_132 fk_RX10_64 o_0 rf_0_8 ?_
                refine g_geti fx dX10_parting_135 fk_RX10_342 (by decide) o_121 ?_
                refine g_icmp_ge (tgt := 158) fx dX10_parting_138 (by decide) (fun h138 => ?_) (fun h138 => ?_)
                · refine g_iconst fx dX10_parting_158 (by unfold okI; omega) ?_
                  exact g_iret fx rfl dX10_parting_159 (by decide) (by decide) (gw_le.rf _) ⟨by first | (exfalso; omega) | (rw [gPg, or_n hg2, if_pos (by omega), Option.none_or, if_pos (by omega)]), by first | (exfalso; omega) | (rw [zPar]; (repeat first | rw [if_pos (by omega)] | rw [if_neg (by omega)]) <;> (try (show _ = some (vI (zPgV _ _)); rw [zPgV, zPg]; (repeat first | rw [if_pos (by omega)] | rw [if_neg (by omega)]))) <;> rfl), rfl, by first | (exfalso; omega) | (rw [zPar]; (repeat first | rw [if_pos (by omega)] | rw [if_neg (by omega)]) <;> rfl)⟩
                · refine g_aload_n fx dX10_parting_141 rfl ?_
                  refine g_getr fx dX10_parting_142 fk_RX10_64 o_0 rf_0_8 ?_
                  refine g_getr fx dX10_parting_145 fk_RX10_344 o_121 rf_121_3 ?_
                  refine g_iload_n fx dX10_parting_148 rfl ?_
                  refine g_bipush fx dX10_parting_149 (by decide) ?_
                  refine g_isub fx dX10_parting_151 ?_
                  refine g_callVD fx dX10_parting_152 mv_RX10_155 my_X4_at (s_X4_atC ad _ in_124 (show 124 + 1 = 125 from rfl) _) (row_O in_124) rfl rfl rfl (Nat.le_of_ble_eq_true rfl) (by decide) (by decide) ?_
                  refine g_goto (tgt := 159) fx dX10_parting_155 (by decide) ?_
                  exact g_iret fx rfl dX10_parting_159 (by decide) (by decide) (gw_le.rf _) ⟨by first | (exfalso; omega) | (rw [gPg, or_n hg2, if_pos (by omega), Option.none_or, if_pos (by omega)]), by first | (exfalso; omega) | (rw [zPar]; (repeat first | rw [if_pos (by omega)] | rw [if_neg (by omega)]) <;> (try (show _ = some (vI (zPgV _ _)); rw [zPgV, zPg]; (repeat first | rw [if_pos (by omega)] | rw [if_neg (by omega)]))) <;> rfl), rfl, by first | (exfalso; omega) | (rw [zPar]; (repeat first | rw [if_pos (by omega)] | rw [if_neg (by omega)]) <;> rfl)⟩
              · refine g_aload_n fx dX10_parting_119 rfl ?_
                refine g_getr fx dX10_parting_120 fk_RX10_64 o_0 rf_0_8 ?_
                refine g_geti fx dX10_parting_123 fk_RX10_342 (by decide) o_121 ?_
                exact g_iret fx rfl dX10_parting_126 (by decide) (by decide) (gw_le.rf _) ⟨by first | (exfalso; omega) | (rw [gPg, or_n hg2, if_pos (by omega), Option.none_or, if_pos (by omega)]), by first | (exfalso; omega) | (rw [zPar]; (repeat first | rw [if_pos (by omega)] | rw [if_neg (by omega)]) <;> (try (show _ = some (vI (zPgV _ _)); rw [zPgV, zPg]; (repeat first | rw [if_pos (by omega)] | rw [if_neg (by omega)]))) <;> rfl), rfl, by first | (exfalso; omega) | (rw [zPar]; (repeat first | rw [if_pos (by omega)] | rw [if_neg (by omega)]) <;> rfl)⟩
            · refine g_aload_n fx dX10_parting_106 rfl ?_
              refine g_getr fx dX10_parting_107 fk_RX10_64 o_0 rf_0_8 ?_
              refine g_geti fx dX10_parting_110 fk_RX10_339 (by decide) o_121 ?_
              exact g_iret fx rfl dX10_parting_113 (by decide) (by decide) (gw_le.rf _) ⟨by first | (exfalso; omega) | (rw [gPg, or_n hg2, if_pos (by omega), Option.none_or, if_pos (by omega)]), by first | (exfalso; omega) | (rw [zPar]; (repeat first | rw [if_pos (by omega)] | rw [if_neg (by omega)]) <;> (try (show _ = some (vI (zPgV _ _)); rw [zPgV, zPg]; (repeat first | rw [if_pos (by omega)] | rw [if_neg (by omega)]))) <;> rfl), rfl, by first | (exfalso; omega) | (rw [zPar]; (repeat first | rw [if_pos (by omega)] | rw [if_neg (by omega)]) <;> rfl)⟩
          · refine g_bipush fx dX10_parting_79 (by decide) ?_
            exact g_iret fx rfl dX10_parting_81 (by decide) (by decide) (gw_le.rf _) ⟨by first | (exfalso; omega) | (rw [gPg, or_n hg2, if_pos (by omega), Option.none_or, if_pos (by omega)]), by first | (exfalso; omega) | (rw [zPar]; (repeat first | rw [if_pos (by omega)] | rw [if_neg (by omega)]) <;> (try (show _ = some (vI (zPgV _ _)); rw [zPgV, zPg]; (repeat first | rw [if_pos (by omega)] | rw [if_neg (by omega)]))) <;> rfl), rfl, by first | (exfalso; omega) | (rw [zPar]; (repeat first | rw [if_pos (by omega)] | rw [if_neg (by omega)]) <;> rfl)⟩
      · refine g_iload_n fx dX10_parting_31 rfl ?_
        refine g_iconst fx dX10_parting_32 (by unfold okI; omega) ?_
        refine g_icmp_eq (tgt := 58) fx dX10_parting_33 (by decide) (fun h33 => ?_) (fun h33 => ?_)
        · refine g_iload_n fx dX10_parting_58 rfl ?_
          refine g_iconst fx dX10_parting_59 (by unfold okI; omega) ?_
          refine g_icmp_le (tgt := 82) fx dX10_parting_60 (by decide) (fun h60 => ?_) (fun h60 => ?_)
          · refine g_aload_n fx dX10_parting_82 rfl ?_
            refine g_getr fx dX10_parting_83 fk_RX10_53 o_0 rf_0_6 ?_
            refine g_aload_n fx dX10_parting_86 rfl ?_
            refine g_getr fx dX10_parting_87 fk_RX10_28 o_0 rf_0_2 ?_
            refine g_callVD0 fx dX10_parting_90 mv_RX10_111 my_X1_copyOf (s_X1_copyOf ad _ in_74 in_4 (by decide)) (mill_O in_74) rfl rfl rfl (Nat.le_of_ble_eq_true rfl) (by decide) (by decide) ?_
            refine g_aload_n fx dX10_parting_93 rfl ?_
            refine g_getr fx dX10_parting_94 fk_RX10_64 o_0 rf_0_8 ?_
            refine g_iload_n fx dX10_parting_97 rfl ?_
            refine g_iload_n fx dX10_parting_98 rfl ?_
            refine g_callVD0 fx dX10_parting_99 mv_RX10_337 my_X2_seek (s_X2_seekM ad _ _ _ (by omega)) o_121 rfl rfl rfl (Nat.le_of_ble_eq_true rfl) (by decide) (by decide) ?_
            refine g_iload_n fx dX10_parting_102 rfl ?_
            refine g_if_ne (tgt := 114) fx dX10_parting_103 (by decide) (fun h103 => ?_) (fun h103 => ?_)
            · refine g_iload_n fx dX10_parting_114 rfl ?_
              refine g_iconst fx dX10_parting_115 (by unfold okI; omega) ?_
              refine g_icmp_ne (tgt := 127) fx dX10_parting_116 (by decide) (fun h116 => ?_) (fun h116 => ?_)
              · refine g_iload_n fx dX10_parting_127 rfl ?_
                refine g_bipush fx dX10_parting_128 (by decide) ?_
                refine g_isub fx dX10_parting_130 ?_
                refine g_aload_n fx dX10_parting_131 rfl ?_
                refine g_getr fx dX10_parting_132 fk_RX10_64 o_0 rf_0_8 ?_
                refine g_geti fx dX10_parting_135 fk_RX10_342 (by decide) o_121 ?_
                refine g_icmp_ge (tgt := 158) fx dX10_parting_138 (by decide) (fun h138 => ?_) (fun h138 => ?_)
                · refine g_iconst fx dX10_parting_158 (by unfold okI; omega) ?_
                  exact g_iret fx rfl dX10_parting_159 (by decide) (by decide) (gw_le.rf _) ⟨by first | (exfalso; omega) | (rw [gPg, or_n hg2, if_pos (by omega), Option.none_or, if_pos (by omega)]), by first | (exfalso; omega) | (rw [zPar]; (repeat first | rw [if_pos (by omega)] | rw [if_neg (by omega)]) <;> (try (show _ = some (vI (zPgV _ _)); rw [zPgV, zPg]; (repeat first | rw [if_pos (by omega)] | rw [if_neg (by omega)]))) <;> rfl), rfl, by first | (exfalso; omega) | (rw [zPar]; (repeat first | rw [if_pos (by omega)] | rw [if_neg (by omega)]) <;> rfl)⟩
                · refine g_aload_n fx dX10_parting_141 rfl ?_
                  refine g_getr fx dX10_parting_142 fk_RX10_64 o_0 rf_0_8 ?_
                  refine g_getr fx dX10_parting_145 fk_RX10_344 o_121 rf_121_3 ?_
                  refine g_iload_n fx dX10_parting_148 rfl ?_
                  refine g_bipush fx dX10_parting_149 (by decide) ?_
                  refine g_isub fx dX10_parting_151 ?_
                  refine g_callVD fx dX10_parting_152 mv_RX10_155 my_X4_at (s_X4_atC ad _ in_124 (show 124 + 1 = 125 from rfl) _) (row_O in_124) rfl rfl rfl (Nat.le_of_ble_eq_true rfl) (by decide) (by decide) ?_
                  refine g_goto (tgt := 159) fx dX10_parting_155 (by decide) ?_
                  exact g_iret fx rfl dX10_parting_159 (by decide) (by decide) (gw_le.rf _) ⟨by first | (exfalso; omega) | (rw [gPg, or_n hg2, if_pos (by omega), Option.none_or, if_pos (by omega)]), by first | (exfalso; omega) | (rw [zPar]; (repeat first | rw [if_pos (by omega)] | rw [if_neg (by omega)]) <;> (try (show _ = some (vI (zPgV _ _)); rw [zPgV, zPg]; (repeat first | rw [if_pos (by omega)] | rw [if_neg (by omega)]))) <;> rfl), rfl, by first | (exfalso; omega) | (rw [zPar]; (repeat first | rw [if_pos (by omega)] | rw [if_neg (by omega)]) <;> rfl)⟩
              · refine g_aload_n fx dX10_parting_119 rfl ?_
                refine g_getr fx dX10_parting_120 fk_RX10_64 o_0 rf_0_8 ?_
                refine g_geti fx dX10_parting_123 fk_RX10_342 (by decide) o_121 ?_
                exact g_iret fx rfl dX10_parting_126 (by decide) (by decide) (gw_le.rf _) ⟨by first | (exfalso; omega) | (rw [gPg, or_n hg2, if_pos (by omega), Option.none_or, if_pos (by omega)]), by first | (exfalso; omega) | (rw [zPar]; (repeat first | rw [if_pos (by omega)] | rw [if_neg (by omega)]) <;> (try (show _ = some (vI (zPgV _ _)); rw [zPgV, zPg]; (repeat first | rw [if_pos (by omega)] | rw [if_neg (by omega)]))) <;> rfl), rfl, by first | (exfalso; omega) | (rw [zPar]; (repeat first | rw [if_pos (by omega)] | rw [if_neg (by omega)]) <;> rfl)⟩
            · refine g_aload_n fx dX10_parting_106 rfl ?_
              refine g_getr fx dX10_parting_107 fk_RX10_64 o_0 rf_0_8 ?_
              refine g_geti fx dX10_parting_110 fk_RX10_339 (by decide) o_121 ?_
              exact g_iret fx rfl dX10_parting_113 (by decide) (by decide) (gw_le.rf _) ⟨by first | (exfalso; omega) | (rw [gPg, or_n hg2, if_pos (by omega), Option.none_or, if_pos (by omega)]), by first | (exfalso; omega) | (rw [zPar]; (repeat first | rw [if_pos (by omega)] | rw [if_neg (by omega)]) <;> (try (show _ = some (vI (zPgV _ _)); rw [zPgV, zPg]; (repeat first | rw [if_pos (by omega)] | rw [if_neg (by omega)]))) <;> rfl), rfl, by first | (exfalso; omega) | (rw [zPar]; (repeat first | rw [if_pos (by omega)] | rw [if_neg (by omega)]) <;> rfl)⟩
          · refine g_aload_n fx dX10_parting_63 rfl ?_
            refine g_getr fx dX10_parting_64 fk_RX10_28 o_0 rf_0_2 ?_
            refine g_getr fx dX10_parting_67 fk_RX10_152 (mill_O in_4) rf_4_8 ?_
            refine g_iload_n fx dX10_parting_70 rfl ?_
            refine g_callVD fx dX10_parting_71 mv_RX10_155 my_X4_at (s_X4_atC ad _ in_10 (show 10 + 1 = 11 from rfl) _) (row_O in_10) rfl rfl rfl (Nat.le_of_ble_eq_true rfl) (by decide) (by decide) ?_
            refine g_bipush fx dX10_parting_74 (by decide) ?_
            refine g_icmp_le (tgt := 82) fx dX10_parting_76 (by decide) (fun h76 => ?_) (fun h76 => ?_)
            · refine g_aload_n fx dX10_parting_82 rfl ?_
              refine g_getr fx dX10_parting_83 fk_RX10_53 o_0 rf_0_6 ?_
              refine g_aload_n fx dX10_parting_86 rfl ?_
              refine g_getr fx dX10_parting_87 fk_RX10_28 o_0 rf_0_2 ?_
              refine g_callVD0 fx dX10_parting_90 mv_RX10_111 my_X1_copyOf (s_X1_copyOf ad _ in_74 in_4 (by decide)) (mill_O in_74) rfl rfl rfl (Nat.le_of_ble_eq_true rfl) (by decide) (by decide) ?_
              refine g_aload_n fx dX10_parting_93 rfl ?_
              refine g_getr fx dX10_parting_94 fk_RX10_64 o_0 rf_0_8 ?_
              refine g_iload_n fx dX10_parting_97 rfl ?_
              refine g_iload_n fx dX10_parting_98 rfl ?_
              refine g_callVD0 fx dX10_parting_99 mv_RX10_337 my_X2_seek (s_X2_seekM ad _ _ _ (by omega)) o_121 rfl rfl rfl (Nat.le_of_ble_eq_true rfl) (by decide) (by decide) ?_
              refine g_iload_n fx dX10_parting_102 rfl ?_
              refine g_if_ne (tgt := 114) fx dX10_parting_103 (by decide) (fun h103 => ?_) (fun h103 => ?_)
              · refine g_iload_n fx dX10_parting_114 rfl ?_
                refine g_iconst fx dX10_parting_115 (by unfold okI; omega) ?_
                refine g_icmp_ne (tgt := 127) fx dX10_parting_116 (by decide) (fun h116 => ?_) (fun h116 => ?_)
                · refine g_iload_n fx dX10_parting_127 rfl ?_
                  refine g_bipush fx dX10_parting_128 (by decide) ?_
                  refine g_isub fx dX10_parting_130 ?_
                  refine g_aload_n fx dX10_parting_131 rfl ?_
                  refine g_getr fx dX10_parting_132 fk_RX10_64 o_0 rf_0_8 ?_
                  refine g_geti fx dX10_parting_135 fk_RX10_342 (by decide) o_121 ?_
                  refine g_icmp_ge (tgt := 158) fx dX10_parting_138 (by decide) (fun h138 => ?_) (fun h138 => ?_)
                  · refine g_iconst fx dX10_parting_158 (by unfold okI; omega) ?_
                    exact g_iret fx rfl dX10_parting_159 (by decide) (by decide) (gw_le.rf _) ⟨by first | (exfalso; omega) | (rw [gPg, or_n hg2, if_pos (by omega), Option.none_or, if_pos (by omega)]), by first | (exfalso; omega) | (rw [zPar]; (repeat first | rw [if_pos (by omega)] | rw [if_neg (by omega)]) <;> (try (show _ = some (vI (zPgV _ _)); rw [zPgV, zPg]; (repeat first | rw [if_pos (by omega)] | rw [if_neg (by omega)]))) <;> rfl), rfl, by first | (exfalso; omega) | (rw [zPar]; (repeat first | rw [if_pos (by omega)] | rw [if_neg (by omega)]) <;> rfl)⟩
                  · refine g_aload_n fx dX10_parting_141 rfl ?_
                    refine g_getr fx dX10_parting_142 fk_RX10_64 o_0 rf_0_8 ?_
                    refine g_getr fx dX10_parting_145 fk_RX10_344 o_121 rf_121_3 ?_
                    refine g_iload_n fx dX10_parting_148 rfl ?_
                    refine g_bipush fx dX10_parting_149 (by decide) ?_
                    refine g_isub fx dX10_parting_151 ?_
                    refine g_callVD fx dX10_parting_152 mv_RX10_155 my_X4_at (s_X4_atC ad _ in_124 (show 124 + 1 = 125 from rfl) _) (row_O in_124) rfl rfl rfl (Nat.le_of_ble_eq_true rfl) (by decide) (by decide) ?_
                    refine g_goto (tgt := 159) fx dX10_parting_155 (by decide) ?_
                    exact g_iret fx rfl dX10_parting_159 (by decide) (by decide) (gw_le.rf _) ⟨by first | (exfalso; omega) | (rw [gPg, or_n hg2, if_pos (by omega), Option.none_or, if_pos (by omega)]), by first | (exfalso; omega) | (rw [zPar]; (repeat first | rw [if_pos (by omega)] | rw [if_neg (by omega)]) <;> (try (show _ = some (vI (zPgV _ _)); rw [zPgV, zPg]; (repeat first | rw [if_pos (by omega)] | rw [if_neg (by omega)]))) <;> rfl), rfl, by first | (exfalso; omega) | (rw [zPar]; (repeat first | rw [if_pos (by omega)] | rw [if_neg (by omega)]) <;> rfl)⟩
                · refine g_aload_n fx dX10_parting_119 rfl ?_
                  refine g_getr fx dX10_parting_120 fk_RX10_64 o_0 rf_0_8 ?_
                  refine g_geti fx dX10_parting_123 fk_RX10_342 (by decide) o_121 ?_
                  exact g_iret fx rfl dX10_parting_126 (by decide) (by decide) (gw_le.rf _) ⟨by first | (exfalso; omega) | (rw [gPg, or_n hg2, if_pos (by omega), Option.none_or, if_pos (by omega)]), by first | (exfalso; omega) | (rw [zPar]; (repeat first | rw [if_pos (by omega)] | rw [if_neg (by omega)]) <;> (try (show _ = some (vI (zPgV _ _)); rw [zPgV, zPg]; (repeat first | rw [if_pos (by omega)] | rw [if_neg (by omega)]))) <;> rfl), rfl, by first | (exfalso; omega) | (rw [zPar]; (repeat first | rw [if_pos (by omega)] | rw [if_neg (by omega)]) <;> rfl)⟩
              · refine g_aload_n fx dX10_parting_106 rfl ?_
                refine g_getr fx dX10_parting_107 fk_RX10_64 o_0 rf_0_8 ?_
                refine g_geti fx dX10_parting_110 fk_RX10_339 (by decide) o_121 ?_
                exact g_iret fx rfl dX10_parting_113 (by decide) (by decide) (gw_le.rf _) ⟨by first | (exfalso; omega) | (rw [gPg, or_n hg2, if_pos (by omega), Option.none_or, if_pos (by omega)]), by first | (exfalso; omega) | (rw [zPar]; (repeat first | rw [if_pos (by omega)] | rw [if_neg (by omega)]) <;> (try (show _ = some (vI (zPgV _ _)); rw [zPgV, zPg]; (repeat first | rw [if_pos (by omega)] | rw [if_neg (by omega)]))) <;> rfl), rfl, by first | (exfalso; omega) | (rw [zPar]; (repeat first | rw [if_pos (by omega)] | rw [if_neg (by omega)]) <;> rfl)⟩
            · refine g_bipush fx dX10_parting_79 (by decide) ?_
              exact g_iret fx rfl dX10_parting_81 (by decide) (by decide) (gw_le.rf _) ⟨by first | (exfalso; omega) | (rw [gPg, or_n hg2, if_pos (by omega), Option.none_or, if_pos (by omega)]), by first | (exfalso; omega) | (rw [zPar]; (repeat first | rw [if_pos (by omega)] | rw [if_neg (by omega)]) <;> (try (show _ = some (vI (zPgV _ _)); rw [zPgV, zPg]; (repeat first | rw [if_pos (by omega)] | rw [if_neg (by omega)]))) <;> rfl), rfl, by first | (exfalso; omega) | (rw [zPar]; (repeat first | rw [if_pos (by omega)] | rw [if_neg (by omega)]) <;> rfl)⟩
        · refine g_iload_n fx dX10_parting_36 rfl ?_
          refine g_bipush fx dX10_parting_37 (by decide) ?_
          refine g_icmp_lt (tgt := 48) fx dX10_parting_39 (by decide) (fun h39 => ?_) (fun h39 => ?_)
          · exact g_throwS fx het th_RX10_142_146 (by decide +kernel : (RX10, 180, "no such what", 22) ∈ gw_strT) eX10_parting_48 eX10_parting_51 eX10_parting_52 eX10_parting_54 eX10_parting_57 (by decide) rfl rfl (by decide) (by decide) (by decide) (by show gPg σ s n w = _; rw [gPg, or_n hg2, if_pos (by omega), Option.none_or, if_neg (by omega)]; rfl)
          · refine g_iload_n fx dX10_parting_42 rfl ?_
            refine g_bipush fx dX10_parting_43 (by decide) ?_
            refine g_icmp_lt (tgt := 58) fx dX10_parting_45 (by decide) (fun h45 => ?_) (fun h45 => ?_)
            · refine g_iload_n fx dX10_parting_58 rfl ?_
              refine g_iconst fx dX10_parting_59 (by unfold okI; omega) ?_
              refine g_icmp_le (tgt := 82) fx dX10_parting_60 (by decide) (fun h60 => ?_) (fun h60 => ?_)
              · refine g_aload_n fx dX10_parting_82 rfl ?_
                refine g_getr fx dX10_parting_83 fk_RX10_53 o_0 rf_0_6 ?_
                refine g_aload_n fx dX10_parting_86 rfl ?_
                refine g_getr fx dX10_parting_87 fk_RX10_28 o_0 rf_0_2 ?_
                refine g_callVD0 fx dX10_parting_90 mv_RX10_111 my_X1_copyOf (s_X1_copyOf ad _ in_74 in_4 (by decide)) (mill_O in_74) rfl rfl rfl (Nat.le_of_ble_eq_true rfl) (by decide) (by decide) ?_
                refine g_aload_n fx dX10_parting_93 rfl ?_
                refine g_getr fx dX10_parting_94 fk_RX10_64 o_0 rf_0_8 ?_
                refine g_iload_n fx dX10_parting_97 rfl ?_
                refine g_iload_n fx dX10_parting_98 rfl ?_
                refine g_callVD0 fx dX10_parting_99 mv_RX10_337 my_X2_seek (s_X2_seekM ad _ _ _ (by omega)) o_121 rfl rfl rfl (Nat.le_of_ble_eq_true rfl) (by decide) (by decide) ?_
                refine g_iload_n fx dX10_parting_102 rfl ?_
                refine g_if_ne (tgt := 114) fx dX10_parting_103 (by decide) (fun h103 => ?_) (fun h103 => ?_)
                · refine g_iload_n fx dX10_parting_114 rfl ?_
                  refine g_iconst fx dX10_parting_115 (by unfold okI; omega) ?_
                  refine g_icmp_ne (tgt := 127) fx dX10_parting_116 (by decide) (fun h116 => ?_) (fun h116 => ?_)
                  · refine g_iload_n fx dX10_parting_127 rfl ?_
                    refine g_bipush fx dX10_parting_128 (by decide) ?_
                    refine g_isub fx dX10_parting_130 ?_
                    refine g_aload_n fx dX10_parting_131 rfl ?_
                    refine g_getr fx dX10_parting_132 fk_RX10_64 o_0 rf_0_8 ?_
                    refine g_geti fx dX10_parting_135 fk_RX10_342 (by decide) o_121 ?_
                    refine g_icmp_ge (tgt := 158) fx dX10_parting_138 (by decide) (fun h138 => ?_) (fun h138 => ?_)
                    · refine g_iconst fx dX10_parting_158 (by unfold okI; omega) ?_
                      exact g_iret fx rfl dX10_parting_159 (by decide) (by decide) (gw_le.rf _) ⟨by first | (exfalso; omega) | (rw [gPg, or_n hg2, if_pos (by omega), Option.none_or, if_pos (by omega)]), by first | (exfalso; omega) | (rw [zPar]; (repeat first | rw [if_pos (by omega)] | rw [if_neg (by omega)]) <;> (try (show _ = some (vI (zPgV _ _)); rw [zPgV, zPg]; (repeat first | rw [if_pos (by omega)] | rw [if_neg (by omega)]))) <;> rfl), rfl, by first | (exfalso; omega) | (rw [zPar]; (repeat first | rw [if_pos (by omega)] | rw [if_neg (by omega)]) <;> rfl)⟩
                    · refine g_aload_n fx dX10_parting_141 rfl ?_
                      refine g_getr fx dX10_parting_142 fk_RX10_64 o_0 rf_0_8 ?_
                      refine g_getr fx dX10_parting_145 fk_RX10_344 o_121 rf_121_3 ?_
                      refine g_iload_n fx dX10_parting_148 rfl ?_
                      refine g_bipush fx dX10_parting_149 (by decide) ?_
                      refine g_isub fx dX10_parting_151 ?_
                      refine g_callVD fx dX10_parting_152 mv_RX10_155 my_X4_at (s_X4_atC ad _ in_124 (show 124 + 1 = 125 from rfl) _) (row_O in_124) rfl rfl rfl (Nat.le_of_ble_eq_true rfl) (by decide) (by decide) ?_
                      refine g_goto (tgt := 159) fx dX10_parting_155 (by decide) ?_
                      exact g_iret fx rfl dX10_parting_159 (by decide) (by decide) (gw_le.rf _) ⟨by first | (exfalso; omega) | (rw [gPg, or_n hg2, if_pos (by omega), Option.none_or, if_pos (by omega)]), by first | (exfalso; omega) | (rw [zPar]; (repeat first | rw [if_pos (by omega)] | rw [if_neg (by omega)]) <;> (try (show _ = some (vI (zPgV _ _)); rw [zPgV, zPg]; (repeat first | rw [if_pos (by omega)] | rw [if_neg (by omega)]))) <;> rfl), rfl, by first | (exfalso; omega) | (rw [zPar]; (repeat first | rw [if_pos (by omega)] | rw [if_neg (by omega)]) <;> rfl)⟩
                  · refine g_aload_n fx dX10_parting_119 rfl ?_
                    refine g_getr fx dX10_parting_120 fk_RX10_64 o_0 rf_0_8 ?_
                    refine g_geti fx dX10_parting_123 fk_RX10_342 (by decide) o_121 ?_
                    exact g_iret fx rfl dX10_parting_126 (by decide) (by decide) (gw_le.rf _) ⟨by first | (exfalso; omega) | (rw [gPg, or_n hg2, if_pos (by omega), Option.none_or, if_pos (by omega)]), by first | (exfalso; omega) | (rw [zPar]; (repeat first | rw [if_pos (by omega)] | rw [if_neg (by omega)]) <;> (try (show _ = some (vI (zPgV _ _)); rw [zPgV, zPg]; (repeat first | rw [if_pos (by omega)] | rw [if_neg (by omega)]))) <;> rfl), rfl, by first | (exfalso; omega) | (rw [zPar]; (repeat first | rw [if_pos (by omega)] | rw [if_neg (by omega)]) <;> rfl)⟩
                · refine g_aload_n fx dX10_parting_106 rfl ?_
                  refine g_getr fx dX10_parting_107 fk_RX10_64 o_0 rf_0_8 ?_
                  refine g_geti fx dX10_parting_110 fk_RX10_339 (by decide) o_121 ?_
                  exact g_iret fx rfl dX10_parting_113 (by decide) (by decide) (gw_le.rf _) ⟨by first | (exfalso; omega) | (rw [gPg, or_n hg2, if_pos (by omega), Option.none_or, if_pos (by omega)]), by first | (exfalso; omega) | (rw [zPar]; (repeat first | rw [if_pos (by omega)] | rw [if_neg (by omega)]) <;> (try (show _ = some (vI (zPgV _ _)); rw [zPgV, zPg]; (repeat first | rw [if_pos (by omega)] | rw [if_neg (by omega)]))) <;> rfl), rfl, by first | (exfalso; omega) | (rw [zPar]; (repeat first | rw [if_pos (by omega)] | rw [if_neg (by omega)]) <;> rfl)⟩
              · refine g_aload_n fx dX10_parting_63 rfl ?_
                refine g_getr fx dX10_parting_64 fk_RX10_28 o_0 rf_0_2 ?_
                refine g_getr fx dX10_parting_67 fk_RX10_152 (mill_O in_4) rf_4_8 ?_
                refine g_iload_n fx dX10_parting_70 rfl ?_
                refine g_callVD fx dX10_parting_71 mv_RX10_155 my_X4_at (s_X4_atC ad _ in_10 (show 10 + 1 = 11 from rfl) _) (row_O in_10) rfl rfl rfl (Nat.le_of_ble_eq_true rfl) (by decide) (by decide) ?_
                refine g_bipush fx dX10_parting_74 (by decide) ?_
                refine g_icmp_le (tgt := 82) fx dX10_parting_76 (by decide) (fun h76 => ?_) (fun h76 => ?_)
                · refine g_aload_n fx dX10_parting_82 rfl ?_
                  refine g_getr fx dX10_parting_83 fk_RX10_53 o_0 rf_0_6 ?_
                  refine g_aload_n fx dX10_parting_86 rfl ?_
                  refine g_getr fx dX10_parting_87 fk_RX10_28 o_0 rf_0_2 ?_
                  refine g_callVD0 fx dX10_parting_90 mv_RX10_111 my_X1_copyOf (s_X1_copyOf ad _ in_74 in_4 (by decide)) (mill_O in_74) rfl rfl rfl (Nat.le_of_ble_eq_true rfl) (by decide) (by decide) ?_
                  refine g_aload_n fx dX10_parting_93 rfl ?_
                  refine g_getr fx dX10_parting_94 fk_RX10_64 o_0 rf_0_8 ?_
                  refine g_iload_n fx dX10_parting_97 rfl ?_
                  refine g_iload_n fx dX10_parting_98 rfl ?_
                  refine g_callVD0 fx dX10_parting_99 mv_RX10_337 my_X2_seek (s_X2_seekM ad _ _ _ (by omega)) o_121 rfl rfl rfl (Nat.le_of_ble_eq_true rfl) (by decide) (by decide) ?_
                  refine g_iload_n fx dX10_parting_102 rfl ?_
                  refine g_if_ne (tgt := 114) fx dX10_parting_103 (by decide) (fun h103 => ?_) (fun h103 => ?_)
                  · refine g_iload_n fx dX10_parting_114 rfl ?_
                    refine g_iconst fx dX10_parting_115 (by unfold okI; omega) ?_
                    refine g_icmp_ne (tgt := 127) fx dX10_parting_116 (by decide) (fun h116 => ?_) (fun h116 => ?_)
                    · refine g_iload_n fx dX10_parting_127 rfl ?_
                      refine g_bipush fx dX10_parting_128 (by decide) ?_
                      refine g_isub fx dX10_parting_130 ?_
                      refine g_aload_n fx dX10_parting_131 rfl ?_
                      refine g_getr fx dX10_parting_132 fk_RX10_64 o_0 rf_0_8 ?_
                      refine g_geti fx dX10_parting_135 fk_RX10_342 (by decide) o_121 ?_
                      refine g_icmp_ge (tgt := 158) fx dX10_parting_138 (by decide) (fun h138 => ?_) (fun h138 => ?_)
                      · refine g_iconst fx dX10_parting_158 (by unfold okI; omega) ?_
                        exact g_iret fx rfl dX10_parting_159 (by decide) (by decide) (gw_le.rf _) ⟨by first | (exfalso; omega) | (rw [gPg, or_n hg2, if_pos (by omega), Option.none_or, if_pos (by omega)]), by first | (exfalso; omega) | (rw [zPar]; (repeat first | rw [if_pos (by omega)] | rw [if_neg (by omega)]) <;> (try (show _ = some (vI (zPgV _ _)); rw [zPgV, zPg]; (repeat first | rw [if_pos (by omega)] | rw [if_neg (by omega)]))) <;> rfl), rfl, by first | (exfalso; omega) | (rw [zPar]; (repeat first | rw [if_pos (by omega)] | rw [if_neg (by omega)]) <;> rfl)⟩
                      · refine g_aload_n fx dX10_parting_141 rfl ?_
                        refine g_getr fx dX10_parting_142 fk_RX10_64 o_0 rf_0_8 ?_
                        refine g_getr fx dX10_parting_145 fk_RX10_344 o_121 rf_121_3 ?_
                        refine g_iload_n fx dX10_parting_148 rfl ?_
                        refine g_bipush fx dX10_parting_149 (by decide) ?_
                        refine g_isub fx dX10_parting_151 ?_
                        refine g_callVD fx dX10_parting_152 mv_RX10_155 my_X4_at (s_X4_atC ad _ in_124 (show 124 + 1 = 125 from rfl) _) (row_O in_124) rfl rfl rfl (Nat.le_of_ble_eq_true rfl) (by decide) (by decide) ?_
                        refine g_goto (tgt := 159) fx dX10_parting_155 (by decide) ?_
                        exact g_iret fx rfl dX10_parting_159 (by decide) (by decide) (gw_le.rf _) ⟨by first | (exfalso; omega) | (rw [gPg, or_n hg2, if_pos (by omega), Option.none_or, if_pos (by omega)]), by first | (exfalso; omega) | (rw [zPar]; (repeat first | rw [if_pos (by omega)] | rw [if_neg (by omega)]) <;> (try (show _ = some (vI (zPgV _ _)); rw [zPgV, zPg]; (repeat first | rw [if_pos (by omega)] | rw [if_neg (by omega)]))) <;> rfl), rfl, by first | (exfalso; omega) | (rw [zPar]; (repeat first | rw [if_pos (by omega)] | rw [if_neg (by omega)]) <;> rfl)⟩
                    · refine g_aload_n fx dX10_parting_119 rfl ?_
                      refine g_getr fx dX10_parting_120 fk_RX10_64 o_0 rf_0_8 ?_
                      refine g_geti fx dX10_parting_123 fk_RX10_342 (by decide) o_121 ?_
                      exact g_iret fx rfl dX10_parting_126 (by decide) (by decide) (gw_le.rf _) ⟨by first | (exfalso; omega) | (rw [gPg, or_n hg2, if_pos (by omega), Option.none_or, if_pos (by omega)]), by first | (exfalso; omega) | (rw [zPar]; (repeat first | rw [if_pos (by omega)] | rw [if_neg (by omega)]) <;> (try (show _ = some (vI (zPgV _ _)); rw [zPgV, zPg]; (repeat first | rw [if_pos (by omega)] | rw [if_neg (by omega)]))) <;> rfl), rfl, by first | (exfalso; omega) | (rw [zPar]; (repeat first | rw [if_pos (by omega)] | rw [if_neg (by omega)]) <;> rfl)⟩
                  · refine g_aload_n fx dX10_parting_106 rfl ?_
                    refine g_getr fx dX10_parting_107 fk_RX10_64 o_0 rf_0_8 ?_
                    refine g_geti fx dX10_parting_110 fk_RX10_339 (by decide) o_121 ?_
                    exact g_iret fx rfl dX10_parting_113 (by decide) (by decide) (gw_le.rf _) ⟨by first | (exfalso; omega) | (rw [gPg, or_n hg2, if_pos (by omega), Option.none_or, if_pos (by omega)]), by first | (exfalso; omega) | (rw [zPar]; (repeat first | rw [if_pos (by omega)] | rw [if_neg (by omega)]) <;> (try (show _ = some (vI (zPgV _ _)); rw [zPgV, zPg]; (repeat first | rw [if_pos (by omega)] | rw [if_neg (by omega)]))) <;> rfl), rfl, by first | (exfalso; omega) | (rw [zPar]; (repeat first | rw [if_pos (by omega)] | rw [if_neg (by omega)]) <;> rfl)⟩
                · refine g_bipush fx dX10_parting_79 (by decide) ?_
                  exact g_iret fx rfl dX10_parting_81 (by decide) (by decide) (gw_le.rf _) ⟨by first | (exfalso; omega) | (rw [gPg, or_n hg2, if_pos (by omega), Option.none_or, if_pos (by omega)]), by first | (exfalso; omega) | (rw [zPar]; (repeat first | rw [if_pos (by omega)] | rw [if_neg (by omega)]) <;> (try (show _ = some (vI (zPgV _ _)); rw [zPgV, zPg]; (repeat first | rw [if_pos (by omega)] | rw [if_neg (by omega)]))) <;> rfl), rfl, by first | (exfalso; omega) | (rw [zPar]; (repeat first | rw [if_pos (by omega)] | rw [if_neg (by omega)]) <;> rfl)⟩
            · exact g_throwS fx het th_RX10_142_146 (by decide +kernel : (RX10, 180, "no such what", 22) ∈ gw_strT) eX10_parting_48 eX10_parting_51 eX10_parting_52 eX10_parting_54 eX10_parting_57 (by decide) rfl rfl (by decide) (by decide) (by decide) (by show gPg σ s n w = _; rw [gPg, or_n hg2, if_pos (by omega), Option.none_or, if_neg (by omega)]; rfl)
    · exact g_throwSW fx het th_RX10_142_146 (by decide +kernel : (RX10, 335, "not so many pieces", 30) ∈ gw_strT) eX10_parting_16 eX10_parting_19 eX10_parting_20 eX10_parting_23 eX10_parting_26 (by decide) rfl rfl (by decide) (by decide) (by decide) (by show gPg σ s n w = _; rw [gPg, or_n hg2, if_neg (by omega)]; rfl)
set_option maxRecDepth 4000 in
theorem s_X10_fee (ad : Nat → Nat) (σ : Sg)  (n : Int) : gw_Sp yX10_fee cX10_fee 4 (some .int) 7 1 6 [vR (some 0), vI n] (gw_M0 ad) σ (gw_DG (gFe n) (some (vI (zFee σ n).1)) (gw_M0 ad) ((zFee σ n).2)) (gw_isG (gFe n)) := by
  refine gw_Sp.of [some (vR (some 0)), some (vI n), none, none] (by decide +kernel) rfl (Nat.le_of_ble_eq_true rfl) ?_
  intro X G fx het hnm
  refine g_iload_n fx dX10_fee_0 rfl ?_
  refine g_iconst fx dX10_fee_1 (by unfold okI; omega) ?_
  refine g_icmp_lt (tgt := 10) fx dX10_fee_2 (by decide) (fun h2 => ?_) (fun h2 => ?_)
  · exact g_throwSW fx het th_RX10_142_146 (by decide +kernel : (RX10, 335, "not so many pieces", 30) ∈ gw_strT) eX10_fee_10 eX10_fee_13 eX10_fee_14 eX10_fee_17 eX10_fee_20 (by decide) rfl rfl (by decide) (by decide) (by decide) (by show gFe n = _; rw [gFe]; (repeat first | rw [if_pos (by omega)] | rw [if_neg (by omega)]); rfl)
  · refine g_iload_n fx dX10_fee_5 rfl ?_
    refine g_iconst fx dX10_fee_6 (by unfold okI; omega) ?_
    refine g_icmp_le (tgt := 21) fx dX10_fee_7 (by decide) (fun h7 => ?_) (fun h7 => ?_)
    · refine g_iconst fx dX10_fee_21 (by unfold okI; omega) ?_
      refine g_istore_n fx dX10_fee_22 (by decide) rfl rfl ?_
      refine g_aload_n fx dX10_fee_23 rfl ?_
      refine g_getr fx dX10_fee_24 fk_RX10_53 o_0 rf_0_6 ?_
      refine g_aload_n fx dX10_fee_27 rfl ?_
      refine g_getr fx dX10_fee_28 fk_RX10_28 o_0 rf_0_2 ?_
      refine g_callVD0 fx dX10_fee_31 mv_RX10_111 my_X1_copyOf (s_X1_copyOf ad _ in_74 in_4 (by decide)) (mill_O in_74) rfl rfl rfl (Nat.le_of_ble_eq_true rfl) (by decide) (by decide) ?_
      refine g_aload_n fx dX10_fee_34 rfl ?_
      refine g_getr fx dX10_fee_35 fk_RX10_53 o_0 rf_0_6 ?_
      refine g_callVD fx dX10_fee_38 mv_RX10_233 my_X1_makeWhole (s_X1_makeWhole ad _ in_74) (mill_O in_74) rfl rfl rfl (Nat.le_of_ble_eq_true rfl) (by decide) (by decide) ?_
      refine g_pop fx dX10_fee_41 rfl ?_
      refine g_iconst fx dX10_fee_42 (by unfold okI; omega) ?_
      refine g_istore_n fx dX10_fee_43 (by decide) rfl rfl ?_
      have loop44 : ∀ i : Nat, i ≤ (zFe0 σ 74 5).toNat → gw_W X (yX10_fee.cls, cX10_fee, 4, (some .int), 7, 1, 6) G (gw_Z X G (gw_M0 ad) σ (gw_DG (gFe n) (some (vI (zFee σ n).1)) (gw_M0 ad) ((zFee σ n).2)) (gw_isG (gFe n)) 1 6) 0 0 (gw_M0 ad) ((itr i (zFeS n) (0, zFe0 σ)).2) 44 [some (vR (some 0)), some (vI n), some (vI (itr i (zFeS n) (0, zFe0 σ)).1), some (vI (i : Nat))] [] := by
        refine up_ind _ ((zFe0 σ 74 5).toNat) (fun i hi ih => ?_)
        have h5 := zFeS_5 n (zFe0 σ) i
        refine g_okS (fun hok => ?_)
        have hq5 := gw_okO 5 hok (mill_O in_74) (by decide)
        unfold okI at hq5
        refine g_iload_n fx dX10_fee_44 rfl ?_
        refine g_aload_n fx dX10_fee_45 rfl ?_
        refine g_getr fx dX10_fee_46 fk_RX10_53 o_0 rf_0_6 ?_
        refine g_geti fx dX10_fee_49 fk_RX10_236 (by decide) (mill_O in_74) ?_
        refine g_icmp_ge (tgt := 118) fx dX10_fee_52 (by decide) (fun h52 => ?_) (fun h52 => ?_)
        · refine g_iload_n fx dX10_fee_118 rfl ?_
          exact g_iret fx rfl dX10_fee_119 (by decide) (by decide) (gw_le.rf _) ⟨by rw [gFe]; (repeat first | rw [if_pos (by omega)] | rw [if_neg (by omega)]), by rw [zFee, show (zFe0 σ 74 5).toNat = i by omega], rfl, by rw [zFee, show (zFe0 σ 74 5).toNat = i by omega]⟩
        · refine g_aload_n fx dX10_fee_55 rfl ?_
          refine g_getr fx dX10_fee_56 fk_RX10_53 o_0 rf_0_6 ?_
          refine g_getr fx dX10_fee_59 fk_RX10_152 (mill_O in_74) rf_74_8 ?_
          refine g_iload_n fx dX10_fee_62 rfl ?_
          refine g_callVD fx dX10_fee_63 mv_RX10_155 my_X4_at (s_X4_atC ad _ in_80 (show 80 + 1 = 81 from rfl) _) (row_O in_80) rfl rfl rfl (Nat.le_of_ble_eq_true rfl) (by decide) (by decide) ?_
          refine g_bipush fx dX10_fee_66 (by decide) ?_
          refine g_icmp_gt (tgt := 112) fx dX10_fee_68 (by decide) (fun h68 => ?_) (fun h68 => ?_)
          · refine g_iinc1 fx dX10_fee_112 (by decide) rfl rfl (by unfold okI; omega) rfl ?_
            refine g_goto (tgt := 44) fx dX10_fee_115 (by decide) ?_
            exact gw_cg (by rw [itr_s, zFeS]; (repeat first | rw [if_pos (by omega)] | rw [if_neg (by omega)]) <;> rfl) (by rw [itr_s, zFeS, show ((i : Nat) : Int) + 1 = ((i + 1 : Nat) : Int) by omega]; (repeat first | rw [if_pos (by omega)] | rw [if_neg (by omega)]) <;> rfl) (ih (by omega))
          · refine g_aload_n fx dX10_fee_71 rfl ?_
            refine g_getr fx dX10_fee_72 fk_RX10_64 o_0 rf_0_8 ?_
            refine g_iload_n fx dX10_fee_75 rfl ?_
            refine g_iload_n fx dX10_fee_76 rfl ?_
            refine g_callVD0 fx dX10_fee_77 mv_RX10_337 my_X2_seek (s_X2_seekM ad _ _ _ (by omega)) o_121 rfl rfl rfl (Nat.le_of_ble_eq_true rfl) (by decide) (by decide) ?_
            refine g_iload_n fx dX10_fee_80 rfl ?_
            refine g_aload_n fx dX10_fee_81 rfl ?_
            refine g_getr fx dX10_fee_82 fk_RX10_64 o_0 rf_0_8 ?_
            refine g_iload_n fx dX10_fee_85 rfl ?_
            refine g_callVD fx dX10_fee_86 mv_RX10_350 my_X2_feeAgainst (s_X2_feeAgainst ad _ _ (by have := skF_7 (itr i (zFeS n) (0, zFe0 σ)).2 (i : Nat) n; omega)) o_121 rfl rfl rfl (Nat.le_of_ble_eq_true rfl) (by decide) (by decide) ?_
            refine g_max fx dX10_fee_89 mm_RX10_353 (by decide) (by decide) (by decide) (Nat.le_of_ble_eq_true rfl) ?_
            refine g_istore_n fx dX10_fee_92 (by decide) rfl rfl ?_
            refine g_aload_n fx dX10_fee_93 rfl ?_
            refine g_getr fx dX10_fee_94 fk_RX10_53 o_0 rf_0_6 ?_
            refine g_iload_n fx dX10_fee_97 rfl ?_
            refine g_aload_n fx dX10_fee_98 rfl ?_
            refine g_getr fx dX10_fee_99 fk_RX10_53 o_0 rf_0_6 ?_
            refine g_getr fx dX10_fee_102 fk_RX10_152 (mill_O in_74) rf_74_8 ?_
            refine g_iload_n fx dX10_fee_105 rfl ?_
            refine g_callVD fx dX10_fee_106 mv_RX10_155 my_X4_at (s_X4_atC ad _ in_80 (show 80 + 1 = 81 from rfl) _) (row_O in_80) rfl rfl rfl (Nat.le_of_ble_eq_true rfl) (by decide) (by decide) ?_
            refine g_callVD0 fx dX10_fee_109 mv_RX10_359 my_X1_setWhole (s_X1_setWhole ad _ in_74 _ _) (mill_O in_74) rfl rfl rfl (Nat.le_of_ble_eq_true rfl) (by decide) (by decide) ?_
            refine g_iinc1 fx dX10_fee_112 (by decide) rfl rfl (by unfold okI; omega) rfl ?_
            refine g_goto (tgt := 44) fx dX10_fee_115 (by decide) ?_
            exact gw_cg (by rw [itr_s, zFeS]; (repeat first | rw [if_pos (by omega)] | rw [if_neg (by omega)]) <;> rfl) (by rw [itr_s, zFeS, show ((i : Nat) : Int) + 1 = ((i + 1 : Nat) : Int) by omega]; (repeat first | rw [if_pos (by omega)] | rw [if_neg (by omega)]) <;> rfl) (ih (by omega))
      exact loop44 0 (Nat.zero_le _)
    · exact g_throwSW fx het th_RX10_142_146 (by decide +kernel : (RX10, 335, "not so many pieces", 30) ∈ gw_strT) eX10_fee_10 eX10_fee_13 eX10_fee_14 eX10_fee_17 eX10_fee_20 (by decide) rfl rfl (by decide) (by decide) (by decide) (by show gFe n = _; rw [gFe]; (repeat first | rw [if_pos (by omega)] | rw [if_neg (by omega)]); rfl)
set_option maxRecDepth 4000 in
theorem s_X10_settle (ad : Nat → Nat) (σ : Sg)  (n : Int) : gw_Sp yX10_settle cX10_settle 6 (some .int) 7 1 6 [vR (some 0), vI n] (gw_M0 ad) σ (gw_DG (gSe n) (some (vI (zSettle σ n).1)) (gw_M0 ad) ((zSettle σ n).2)) (gw_isG (gSe n)) := by
  refine gw_Sp.of [some (vR (some 0)), some (vI n), none, none, none, none] (by decide +kernel) rfl (Nat.le_of_ble_eq_true rfl) ?_
  intro X G fx het hnm
  refine g_iload_n fx dX10_settle_0 rfl ?_
  refine g_iconst fx dX10_settle_1 (by unfold okI; omega) ?_
  refine g_icmp_lt (tgt := 10) fx dX10_settle_2 (by decide) (fun h2 => ?_) (fun h2 => ?_)
  · exact g_throwSW fx het th_RX10_142_146 (by decide +kernel : (RX10, 335, "not so many pieces", 30) ∈ gw_strT) eX10_settle_10 eX10_settle_13 eX10_settle_14 eX10_settle_17 eX10_settle_20 (by decide) rfl rfl (by decide) (by decide) (by decide) (by show gSe n = _; rw [gSe]; (repeat first | rw [if_pos (by omega)] | rw [if_neg (by omega)]); rfl)
  · refine g_iload_n fx dX10_settle_5 rfl ?_
    refine g_iconst fx dX10_settle_6 (by unfold okI; omega) ?_
    refine g_icmp_le (tgt := 21) fx dX10_settle_7 (by decide) (fun h7 => ?_) (fun h7 => ?_)
    · refine g_aload_n fx dX10_settle_21 rfl ?_
      refine g_callVD fx dX10_settle_22 mv_RX10_347 my_X10_isTooMuchToSettle (s_X10_isTooMuchToSettle ad _ ) o_0 rfl rfl rfl (Nat.le_of_ble_eq_true rfl) (by decide) (by decide) ?_
      refine g_if_eq (tgt := 31) fx dX10_settle_25 (by decide) (fun h25 => ?_) (fun h25 => ?_)
      · refine g_aload_n fx dX10_settle_31 rfl ?_
        refine g_getr fx dX10_settle_32 fk_RX10_41 o_0 rf_0_4 ?_
        refine g_aload_n fx dX10_settle_35 rfl ?_
        refine g_getr fx dX10_settle_36 fk_RX10_28 o_0 rf_0_2 ?_
        refine g_callVD0 fx dX10_settle_39 mv_RX10_111 my_X1_copyOf (s_X1_copyOf ad _ in_51 in_4 (by decide)) (mill_O in_51) rfl rfl rfl (Nat.le_of_ble_eq_true rfl) (by decide) (by decide) ?_
        refine g_iconst fx dX10_settle_42 (by unfold okI; omega) ?_
        refine g_istore_n fx dX10_settle_43 (by decide) rfl rfl ?_
        have loop44 : ∀ r : Nat, r ≤ 10 → ∀ x : Sg, zSe n 10 0 (mCopy σ 51 4) = zSe n (10 - r) r x → gw_W X (yX10_settle.cls, cX10_settle, 6, (some .int), 7, 1, 6) G (gw_Z X G (gw_M0 ad) σ (gw_DG (gSe n) (some (vI (zSettle σ n).1)) (gw_M0 ad) ((zSettle σ n).2)) (gw_isG (gSe n)) 1 6) 0 0 (gw_M0 ad) (x) 44 [some (vR (some 0)), some (vI n), some (vI ((r : Nat) + 1)), none, none, none] [] := by
          refine up_ind _ _ (fun r hr ihr => ?_)
          intro x he
          refine g_iload_n fx dX10_settle_44 rfl ?_
          refine g_bipush fx dX10_settle_45 (by decide) ?_
          refine g_icmp_gt (tgt := 195) fx dX10_settle_47 (by decide) (fun h47 => ?_) (fun h47 => ?_)
          · refine g_aload_n fx dX10_settle_195 rfl ?_
            refine g_getr fx dX10_settle_196 fk_RX10_28 o_0 rf_0_2 ?_
            refine g_aload_n fx dX10_settle_199 rfl ?_
            refine g_getr fx dX10_settle_200 fk_RX10_41 o_0 rf_0_4 ?_
            refine g_callVD0 fx dX10_settle_203 mv_RX10_111 my_X1_copyOf (s_X1_copyOf ad _ in_4 in_51 (by decide)) (mill_O in_4) rfl rfl rfl (Nat.le_of_ble_eq_true rfl) (by decide) (by decide) ?_
            refine g_bipush fx dX10_settle_206 (by decide) ?_
            exact g_iret fx rfl dX10_settle_208 (by decide) (by decide) (gw_le.rf _) ⟨by rw [gSe]; (repeat first | rw [if_pos (by omega)] | rw [if_neg (by omega)]), by rw [zSettle, if_neg (by omega), he, show 10 - r = 0 by omega, zSe], rfl, by rw [zSettle, if_neg (by omega), he, show 10 - r = 0 by omega, zSe]⟩
          · refine g_iconst fx dX10_settle_50 (by unfold okI; omega) ?_
            refine g_istore_n fx dX10_settle_51 (by decide) rfl rfl ?_
            refine g_iconst fx dX10_settle_52 (by unfold okI; omega) ?_
            refine g_istore fx dX10_settle_53 (by decide) rfl rfl ?_
            have loop55 : ∀ i : Nat, i ≤ (x 4 5).toNat → gw_W X (yX10_settle.cls, cX10_settle, 6, (some .int), 7, 1, 6) G (gw_Z X G (gw_M0 ad) σ (gw_DG (gSe n) (some (vI (zSettle σ n).1)) (gw_M0 ad) ((zSettle σ n).2)) (gw_isG (gSe n)) 1 6) 0 0 (gw_M0 ad) ((itr i (zSeS n) (0, x)).2) 55 [some (vR (some 0)), some (vI n), some (vI ((r : Nat) + 1)), some (vI (itr i (zSeS n) (0, x)).1), some (vI (i : Nat)), none] [] := by
              refine up_ind _ ((x 4 5).toNat) (fun i hi ih => ?_)
              have h5 := zSeS_5 n x i
              refine g_okS (fun hok => ?_)
              have hq5 := gw_okO 5 hok (mill_O in_4) (by decide)
              unfold okI at hq5
              refine g_iload fx dX10_settle_55 rfl ?_
              refine g_aload_n fx dX10_settle_57 rfl ?_
              refine g_getr fx dX10_settle_58 fk_RX10_28 o_0 rf_0_2 ?_
              refine g_geti fx dX10_settle_61 fk_RX10_236 (by decide) (mill_O in_4) ?_
              refine g_icmp_ge (tgt := 183) fx dX10_settle_64 (by decide) (fun h64 => ?_) (fun h64 => ?_)
              · refine g_iload_n fx dX10_settle_183 rfl ?_
                refine g_if_ne (tgt := 189) fx dX10_settle_184 (by decide) (fun h184 => ?_) (fun h184 => ?_)
                · refine g_iinc1 fx dX10_settle_189 (by decide) rfl rfl (by unfold okI; omega) rfl ?_
                  refine g_goto (tgt := 44) fx dX10_settle_192 (by decide) ?_
                  refine g_kill 3 rfl (g_kill 4 rfl ?_)
                  have hR : zSeR n x = (itr i (zSeS n) (0, x)) := by rw [zSeR, show (x 4 5).toNat = i by omega]
                  exact gw_cg rfl (by rw [show (((r + 1 : Nat) : Int) + 1) = (r : Nat) + 1 + 1 by omega]; rfl) (ihr (by omega) _ (by rw [he, show 10 - r = 10 - (r + 1) + 1 by omega, zSe, hR, if_neg (by omega)]))
                · refine g_iload_n fx dX10_settle_187 rfl ?_
                  exact g_iret fx rfl dX10_settle_188 (by decide) (by decide) (gw_le.rf _) ⟨by rw [gSe]; (repeat first | rw [if_pos (by omega)] | rw [if_neg (by omega)]), by rw [zSettle, if_neg (by omega), he, show 10 - r = 10 - (r + 1) + 1 by omega, zSe, zSeR, show (x 4 5).toNat = i by omega, if_pos (by omega)], rfl, by rw [zSettle, if_neg (by omega), he, show 10 - r = 10 - (r + 1) + 1 by omega, zSe, zSeR, show (x 4 5).toNat = i by omega, if_pos (by omega)]⟩
              · refine g_aload_n fx dX10_settle_67 rfl ?_
                refine g_getr fx dX10_settle_68 fk_RX10_37 o_0 rf_0_3 ?_
                refine g_callVD0 fx dX10_settle_71 mv_RX10_189 my_X5_go (s_X5_go ad _ in_26) (run_O in_26) rfl rfl rfl (Nat.le_of_ble_eq_true rfl) (by decide) (by decide) ?_
                refine g_aload_n fx dX10_settle_74 rfl ?_
                refine g_getr fx dX10_settle_75 fk_RX10_28 o_0 rf_0_2 ?_
                refine g_getr fx dX10_settle_78 fk_RX10_168 (mill_O in_4) rf_4_12 ?_
                refine g_iload fx dX10_settle_81 rfl ?_
                refine g_callVD fx dX10_settle_83 mv_RX10_155 my_X4_at (s_X4_atC ad _ in_18 (show 18 + 1 = 19 from rfl) _) (row_O in_18) rfl rfl rfl (Nat.le_of_ble_eq_true rfl) (by decide) (by decide) ?_
                refine g_aload_n fx dX10_settle_86 rfl ?_
                refine g_getr fx dX10_settle_87 fk_RX10_37 o_0 rf_0_3 ?_
                refine g_iload fx dX10_settle_90 rfl ?_
                refine g_callVD fx dX10_settle_92 mv_RX10_252 my_X5_waitOf (s_X5_waitOf ad _ in_26 _) (run_O in_26) rfl rfl rfl (Nat.le_of_ble_eq_true rfl) (by decide) (by decide) ?_
                refine g_imul fx dX10_settle_95 ?_
                refine g_aload_n fx dX10_settle_96 rfl ?_
                refine g_getr fx dX10_settle_97 fk_RX10_28 o_0 rf_0_2 ?_
                refine g_geti fx dX10_settle_100 fk_RX10_272 (by decide) (mill_O in_4) ?_
                refine g_aload_n fx dX10_settle_103 rfl ?_
                refine g_getr fx dX10_settle_104 fk_RX10_28 o_0 rf_0_2 ?_
                refine g_getr fx dX10_settle_107 fk_RX10_174 (mill_O in_4) rf_4_14 ?_
                refine g_iload fx dX10_settle_110 rfl ?_
                refine g_callVD fx dX10_settle_112 mv_RX10_155 my_X4_at (s_X4_atC ad _ in_22 (show 22 + 1 = 23 from rfl) _) (row_O in_22) rfl rfl rfl (Nat.le_of_ble_eq_true rfl) (by decide) (by decide) ?_
                refine g_imul fx dX10_settle_115 ?_
                refine g_iadd fx dX10_settle_116 ?_
                refine g_istore fx dX10_settle_117 (by decide) rfl rfl ?_
                refine g_aload_n fx dX10_settle_119 rfl ?_
                refine g_getr fx dX10_settle_120 fk_RX10_53 o_0 rf_0_6 ?_
                refine g_aload_n fx dX10_settle_123 rfl ?_
                refine g_getr fx dX10_settle_124 fk_RX10_28 o_0 rf_0_2 ?_
                refine g_callVD0 fx dX10_settle_127 mv_RX10_111 my_X1_copyOf (s_X1_copyOf ad _ in_74 in_4 (by decide)) (mill_O in_74) rfl rfl rfl (Nat.le_of_ble_eq_true rfl) (by decide) (by decide) ?_
                refine g_aload_n fx dX10_settle_130 rfl ?_
                refine g_getr fx dX10_settle_131 fk_RX10_64 o_0 rf_0_8 ?_
                refine g_iload fx dX10_settle_134 rfl ?_
                refine g_iload_n fx dX10_settle_136 rfl ?_
                refine g_callVD0 fx dX10_settle_137 mv_RX10_337 my_X2_seek (s_X2_seekM ad _ _ _ (by omega)) o_121 rfl rfl rfl (Nat.le_of_ble_eq_true rfl) (by decide) (by decide) ?_
                refine g_aload_n fx dX10_settle_140 rfl ?_
                refine g_getr fx dX10_settle_141 fk_RX10_64 o_0 rf_0_8 ?_
                refine g_geti fx dX10_settle_144 fk_RX10_339 (by decide) o_121 ?_
                refine g_iload fx dX10_settle_147 rfl ?_
                refine g_icmp_ge (tgt := 177) fx dX10_settle_149 (by decide) (fun h149 => ?_) (fun h149 => ?_)
                · refine g_iinc1 fx dX10_settle_177 (by decide) rfl rfl (by unfold okI; omega) rfl ?_
                  refine g_goto (tgt := 55) fx dX10_settle_180 (by decide) ?_
                  refine g_kill 5 rfl ?_
                  first
                  | exact gw_cg (by rw [itr_s, zSeS, if_pos (by assumption)]; rfl) (by rw [itr_s, zSeS, if_pos (by assumption), show ((i : Nat) : Int) + 1 = ((i + 1 : Nat) : Int) by omega]; rfl) (ih (by omega))
                  | exact gw_cg (by rw [itr_s, zSeS, if_neg (Int.not_lt.mpr (by assumption))]; rfl) (by rw [itr_s, zSeS, if_neg (Int.not_lt.mpr (by assumption)), show ((i : Nat) : Int) + 1 = ((i + 1 : Nat) : Int) by omega]; rfl) (ih (by omega))
                · refine g_aload_n fx dX10_settle_152 rfl ?_
                  refine g_getr fx dX10_settle_153 fk_RX10_28 o_0 rf_0_2 ?_
                  refine g_iload fx dX10_settle_156 rfl ?_
                  refine g_aload_n fx dX10_settle_158 rfl ?_
                  refine g_getr fx dX10_settle_159 fk_RX10_64 o_0 rf_0_8 ?_
                  refine g_getr fx dX10_settle_162 fk_RX10_344 o_121 rf_121_3 ?_
                  refine g_aload_n fx dX10_settle_165 rfl ?_
                  refine g_getr fx dX10_settle_166 fk_RX10_64 o_0 rf_0_8 ?_
                  refine g_geti fx dX10_settle_169 fk_RX10_342 (by decide) o_121 ?_
                  refine g_callVD0 fx dX10_settle_172 mv_RX10_222 my_X1_setWay (s_X1_setWay ad _ in_4 in_124 _ _) (mill_O in_4) rfl rfl rfl (Nat.le_of_ble_eq_true rfl) (by decide) (by decide) ?_
                  refine g_iconst fx dX10_settle_175 (by unfold okI; omega) ?_
                  refine g_istore_n fx dX10_settle_176 (by decide) rfl rfl ?_
                  refine g_iinc1 fx dX10_settle_177 (by decide) rfl rfl (by unfold okI; omega) rfl ?_
                  refine g_goto (tgt := 55) fx dX10_settle_180 (by decide) ?_
                  refine g_kill 5 rfl ?_
                  first
                  | exact gw_cg (by rw [itr_s, zSeS, if_pos (by assumption)]; rfl) (by rw [itr_s, zSeS, if_pos (by assumption), show ((i : Nat) : Int) + 1 = ((i + 1 : Nat) : Int) by omega]; rfl) (ih (by omega))
                  | exact gw_cg (by rw [itr_s, zSeS, if_neg (Int.not_lt.mpr (by assumption))]; rfl) (by rw [itr_s, zSeS, if_neg (Int.not_lt.mpr (by assumption)), show ((i : Nat) : Int) + 1 = ((i + 1 : Nat) : Int) by omega]; rfl) (ih (by omega))
            exact loop55 0 (Nat.zero_le _)
        exact loop44 0 (Nat.zero_le _) _ rfl
      · refine g_bipush fx dX10_settle_28 (by decide) ?_
        exact g_iret fx rfl dX10_settle_30 (by decide) (by decide) (gw_le.rf _) ⟨by rw [gSe]; (repeat first | rw [if_pos (by omega)] | rw [if_neg (by omega)]), by rw [zSettle, if_pos (by assumption)], rfl, by rw [zSettle, if_pos (by assumption)]⟩
    · exact g_throwSW fx het th_RX10_142_146 (by decide +kernel : (RX10, 335, "not so many pieces", 30) ∈ gw_strT) eX10_settle_10 eX10_settle_13 eX10_settle_14 eX10_settle_17 eX10_settle_20 (by decide) rfl rfl (by decide) (by decide) (by decide) (by show gSe n = _; rw [gSe]; (repeat first | rw [if_pos (by omega)] | rw [if_neg (by omega)]); rfl)
