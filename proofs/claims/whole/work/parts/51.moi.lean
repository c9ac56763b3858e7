theorem dX11_copies_0 : gw_dc cX11_copies 0 (.iconst 0) 1 1 := ⟨by decide +kernel, rfl⟩
theorem dX11_copies_1 : gw_dc cX11_copies 1 (.istore_n 2) 1 2 := ⟨by decide +kernel, rfl⟩
theorem dX11_copies_2 : gw_dc cX11_copies 2 (.iload_n 2) 1 3 := ⟨by decide +kernel, rfl⟩
theorem dX11_copies_3 : gw_dc cX11_copies 3 (.sipush 672) 3 6 := ⟨by decide +kernel, rfl⟩
theorem dX11_copies_6 : gw_dc cX11_copies 6 (.if_icmp .ge 15) 3 9 := ⟨by decide +kernel, rfl⟩
theorem dX11_copies_21 : decode cX11_copies 21 = .ok (.return_, 1) := by decide +kernel
theorem dX11_copies_9 : gw_dc cX11_copies 9 (.aload_n 1) 1 10 := ⟨by decide +kernel, rfl⟩
theorem dX11_copies_10 : gw_dc cX11_copies 10 (.iload_n 2) 1 11 := ⟨by decide +kernel, rfl⟩
theorem dX11_copies_11 : gw_dc cX11_copies 11 (.aload_n 0) 1 12 := ⟨by decide +kernel, rfl⟩
theorem dX11_copies_12 : gw_dc cX11_copies 12 (.iload_n 2) 1 13 := ⟨by decide +kernel, rfl⟩
theorem dX11_copies_13 : gw_dc cX11_copies 13 (.iaload) 1 14 := ⟨by decide +kernel, rfl⟩
theorem dX11_copies_14 : gw_dc cX11_copies 14 (.iastore) 1 15 := ⟨by decide +kernel, rfl⟩
theorem dX11_copies_15 : gw_dc cX11_copies 15 (.iinc 2 1) 3 18 := ⟨by decide +kernel, rfl⟩
theorem dX11_copies_18 : gw_dc cX11_copies 18 (.goto (-16)) 3 21 := ⟨by decide +kernel, rfl⟩
theorem dX11_sack_0 : gw_dc cX11_sack 0 (.aload_n 0) 1 1 := ⟨by decide +kernel, rfl⟩
theorem dX11_sack_1 : gw_dc cX11_sack 1 (.iconst 0) 1 2 := ⟨by decide +kernel, rfl⟩
theorem dX11_sack_2 : gw_dc cX11_sack 2 (.putfield 88) 3 5 := ⟨by decide +kernel, rfl⟩
theorem dX11_sack_5 : gw_dc cX11_sack 5 (.aload_n 0) 1 6 := ⟨by decide +kernel, rfl⟩
theorem dX11_sack_6 : gw_dc cX11_sack 6 (.iload_n 1) 1 7 := ⟨by decide +kernel, rfl⟩
theorem dX11_sack_7 : gw_dc cX11_sack 7 (.invokevirtual 244) 3 10 := ⟨by decide +kernel, rfl⟩
theorem mv_RX11_244 : gw_mv RX11 244 yX11_isSack := ⟨gw_mem 1677 (by decide +kernel) rfl, gw_mem 1679 (by decide +kernel) rfl, gw_mem 55 (by decide +kernel) rfl⟩
theorem my_X11_isSack : gw_my yX11_isSack cX11_isSack 2 (some .boolean) 1 := ⟨gw_mem 1680 (by decide +kernel) rfl, gw_mem 106 (by decide +kernel) rfl, by decide +kernel, by decide⟩
theorem dX11_sack_10 : gw_dc cX11_sack 10 (.ifCond .ne 9) 3 13 := ⟨by decide +kernel, rfl⟩
theorem dX11_sack_19 : gw_dc cX11_sack 19 (.iload_n 2) 1 20 := ⟨by decide +kernel, rfl⟩
theorem dX11_sack_20 : gw_dc cX11_sack 20 (.i2l) 1 21 := ⟨by decide +kernel, rfl⟩
theorem dX11_sack_21 : gw_dc cX11_sack 21 (.lconst 0) 1 22 := ⟨by decide +kernel, rfl⟩
theorem dX11_sack_22 : gw_dc cX11_sack 22 (.ldc2_w 247) 3 25 := ⟨by decide +kernel, rfl⟩
theorem kc_RX11_247 : Cond.constantLong RX11 247 (Int64.ofInt 7) ∈ wsG := gw_mem 1681 (by decide +kernel) rfl
theorem dX11_sack_25 : gw_dc cX11_sack 25 (.invokestatic 147) 3 28 := ⟨by decide +kernel, rfl⟩
theorem dX11_sack_28 : gw_dc cX11_sack 28 (.ifCond .ne 9) 3 31 := ⟨by decide +kernel, rfl⟩
theorem dX11_sack_37 : gw_dc cX11_sack 37 (.iload_n 2) 1 38 := ⟨by decide +kernel, rfl⟩
theorem dX11_sack_38 : gw_dc cX11_sack 38 (.bipush 7) 2 40 := ⟨by decide +kernel, rfl⟩
theorem dX11_sack_40 : gw_dc cX11_sack 40 (.if_icmp .ne 11) 3 43 := ⟨by decide +kernel, rfl⟩
theorem dX11_sack_51 : gw_dc cX11_sack 51 (.aload_n 0) 1 52 := ⟨by decide +kernel, rfl⟩
theorem dX11_sack_52 : gw_dc cX11_sack 52 (.iload_n 1) 1 53 := ⟨by decide +kernel, rfl⟩
theorem dX11_sack_53 : gw_dc cX11_sack 53 (.iload_n 2) 1 54 := ⟨by decide +kernel, rfl⟩
theorem dX11_sack_54 : gw_dc cX11_sack 54 (.invokevirtual 242) 3 57 := ⟨by decide +kernel, rfl⟩
theorem dX11_sack_57 : decode cX11_sack 57 = .ok (.ireturn, 1) := by decide +kernel
theorem dX11_sack_43 : gw_dc cX11_sack 43 (.aload_n 0) 1 44 := ⟨by decide +kernel, rfl⟩
theorem dX11_sack_44 : gw_dc cX11_sack 44 (.iload_n 1) 1 45 := ⟨by decide +kernel, rfl⟩
theorem dX11_sack_45 : gw_dc cX11_sack 45 (.invokevirtual 249) 3 48 := ⟨by decide +kernel, rfl⟩
theorem mv_RX11_249 : gw_mv RX11 249 yX11_firstOf := ⟨gw_mem 1682 (by decide +kernel) rfl, gw_mem 1684 (by decide +kernel) rfl, gw_mem 56 (by decide +kernel) rfl⟩
theorem my_X11_firstOf : gw_my yX11_firstOf cX11_firstOf 4 (some .int) 1 := ⟨gw_mem 1685 (by decide +kernel) rfl, gw_mem 106 (by decide +kernel) rfl, by decide +kernel, by decide⟩
theorem dX11_sack_48 : gw_dc cX11_sack 48 (.goto 9) 3 51 := ⟨by decide +kernel, rfl⟩
theorem dX11_sack_31 : gw_dc cX11_sack 31 (.aload_n 0) 1 32 := ⟨by decide +kernel, rfl⟩
theorem dX11_sack_32 : gw_dc cX11_sack 32 (.iconst 2) 1 33 := ⟨by decide +kernel, rfl⟩
theorem dX11_sack_33 : gw_dc cX11_sack 33 (.invokevirtual 191) 3 36 := ⟨by decide +kernel, rfl⟩
theorem mv_RX11_191 : gw_mv RX11 191 yX11_fails := ⟨gw_mem 1564 (by decide +kernel) rfl, gw_mem 1566 (by decide +kernel) rfl, gw_mem 38 (by decide +kernel) rfl⟩
theorem my_X11_fails : gw_my yX11_fails cX11_fails 2 (some .int) 1 := ⟨gw_mem 1567 (by decide +kernel) rfl, gw_mem 106 (by decide +kernel) rfl, by decide +kernel, by decide⟩
theorem dX11_sack_36 : decode cX11_sack 36 = .ok (.ireturn, 1) := by decide +kernel
theorem dX11_sack_13 : gw_dc cX11_sack 13 (.aload_n 0) 1 14 := ⟨by decide +kernel, rfl⟩
theorem dX11_sack_14 : gw_dc cX11_sack 14 (.iconst 1) 1 15 := ⟨by decide +kernel, rfl⟩
theorem dX11_sack_15 : gw_dc cX11_sack 15 (.invokevirtual 191) 3 18 := ⟨by decide +kernel, rfl⟩
theorem dX11_sack_18 : decode cX11_sack 18 = .ok (.ireturn, 1) := by decide +kernel
theorem dX11_count_0 : gw_dc cX11_count 0 (.aload_n 0) 1 1 := ⟨by decide +kernel, rfl⟩
theorem dX11_count_1 : gw_dc cX11_count 1 (.iconst 0) 1 2 := ⟨by decide +kernel, rfl⟩
theorem dX11_count_2 : gw_dc cX11_count 2 (.putfield 88) 3 5 := ⟨by decide +kernel, rfl⟩
theorem dX11_count_5 : gw_dc cX11_count 5 (.iload_n 1) 1 6 := ⟨by decide +kernel, rfl⟩
theorem dX11_count_6 : decode cX11_count 6 = .ok (.tableswitch 113 0 8 #[50, 57, 62, 69, 76, 83, 92, 100, 108], 50) := by decide +kernel
theorem dX11_count_56 : gw_dc cX11_count 56 (.aload_n 0) 1 57 := ⟨by decide +kernel, rfl⟩
theorem dX11_count_57 : gw_dc cX11_count 57 (.getfield 9) 3 60 := ⟨by decide +kernel, rfl⟩
theorem dX11_count_60 : gw_dc cX11_count 60 (.iconst 0) 1 61 := ⟨by decide +kernel, rfl⟩
theorem dX11_count_61 : gw_dc cX11_count 61 (.iaload) 1 62 := ⟨by decide +kernel, rfl⟩
theorem dX11_count_62 : decode cX11_count 62 = .ok (.ireturn, 1) := by decide +kernel
theorem dX11_count_63 : gw_dc cX11_count 63 (.aload_n 0) 1 64 := ⟨by decide +kernel, rfl⟩
theorem dX11_count_64 : gw_dc cX11_count 64 (.invokevirtual 305) 3 67 := ⟨by decide +kernel, rfl⟩
theorem mv_RX11_305 : gw_mv RX11 305 yX11_stones := ⟨gw_mem 1736 (by decide +kernel) rfl, gw_mem 1738 (by decide +kernel) rfl, gw_mem 65 (by decide +kernel) rfl⟩
theorem my_X11_stones : gw_my yX11_stones cX11_stones 1 (some .int) 0 := ⟨gw_mem 1739 (by decide +kernel) rfl, gw_mem 106 (by decide +kernel) rfl, by decide +kernel, by decide⟩
theorem dX11_count_67 : decode cX11_count 67 = .ok (.ireturn, 1) := by decide +kernel
theorem dX11_count_68 : gw_dc cX11_count 68 (.aload_n 0) 1 69 := ⟨by decide +kernel, rfl⟩
theorem dX11_count_69 : gw_dc cX11_count 69 (.getfield 9) 3 72 := ⟨by decide +kernel, rfl⟩
theorem dX11_count_72 : gw_dc cX11_count 72 (.iconst 2) 1 73 := ⟨by decide +kernel, rfl⟩
theorem dX11_count_73 : gw_dc cX11_count 73 (.iaload) 1 74 := ⟨by decide +kernel, rfl⟩
theorem dX11_count_74 : decode cX11_count 74 = .ok (.ireturn, 1) := by decide +kernel
theorem dX11_count_75 : gw_dc cX11_count 75 (.aload_n 0) 1 76 := ⟨by decide +kernel, rfl⟩
theorem dX11_count_76 : gw_dc cX11_count 76 (.getfield 9) 3 79 := ⟨by decide +kernel, rfl⟩
theorem dX11_count_79 : gw_dc cX11_count 79 (.iconst 3) 1 80 := ⟨by decide +kernel, rfl⟩
theorem dX11_count_80 : gw_dc cX11_count 80 (.iaload) 1 81 := ⟨by decide +kernel, rfl⟩
theorem dX11_count_81 : decode cX11_count 81 = .ok (.ireturn, 1) := by decide +kernel
theorem dX11_count_82 : gw_dc cX11_count 82 (.aload_n 0) 1 83 := ⟨by decide +kernel, rfl⟩
theorem dX11_count_83 : gw_dc cX11_count 83 (.getfield 9) 3 86 := ⟨by decide +kernel, rfl⟩
theorem dX11_count_86 : gw_dc cX11_count 86 (.iconst 4) 1 87 := ⟨by decide +kernel, rfl⟩
theorem dX11_count_87 : gw_dc cX11_count 87 (.iaload) 1 88 := ⟨by decide +kernel, rfl⟩
theorem dX11_count_88 : decode cX11_count 88 = .ok (.ireturn, 1) := by decide +kernel
theorem dX11_count_89 : gw_dc cX11_count 89 (.aload_n 0) 1 90 := ⟨by decide +kernel, rfl⟩
theorem dX11_count_90 : gw_dc cX11_count 90 (.getfield 9) 3 93 := ⟨by decide +kernel, rfl⟩
theorem dX11_count_93 : gw_dc cX11_count 93 (.sipush 668) 3 96 := ⟨by decide +kernel, rfl⟩
theorem dX11_count_96 : gw_dc cX11_count 96 (.iaload) 1 97 := ⟨by decide +kernel, rfl⟩
theorem dX11_count_97 : decode cX11_count 97 = .ok (.ireturn, 1) := by decide +kernel
theorem dX11_count_98 : gw_dc cX11_count 98 (.aload_n 0) 1 99 := ⟨by decide +kernel, rfl⟩
theorem dX11_count_99 : gw_dc cX11_count 99 (.getfield 9) 3 102 := ⟨by decide +kernel, rfl⟩
theorem dX11_count_102 : gw_dc cX11_count 102 (.bipush 8) 2 104 := ⟨by decide +kernel, rfl⟩
theorem dX11_count_104 : gw_dc cX11_count 104 (.iaload) 1 105 := ⟨by decide +kernel, rfl⟩
theorem dX11_count_105 : decode cX11_count 105 = .ok (.ireturn, 1) := by decide +kernel
theorem dX11_count_106 : gw_dc cX11_count 106 (.aload_n 0) 1 107 := ⟨by decide +kernel, rfl⟩
theorem dX11_count_107 : gw_dc cX11_count 107 (.getfield 9) 3 110 := ⟨by decide +kernel, rfl⟩
theorem dX11_count_110 : gw_dc cX11_count 110 (.bipush 17) 2 112 := ⟨by decide +kernel, rfl⟩
theorem dX11_count_112 : gw_dc cX11_count 112 (.iaload) 1 113 := ⟨by decide +kernel, rfl⟩
theorem dX11_count_113 : decode cX11_count 113 = .ok (.ireturn, 1) := by decide +kernel
theorem dX11_count_114 : gw_dc cX11_count 114 (.aload_n 0) 1 115 := ⟨by decide +kernel, rfl⟩
theorem dX11_count_115 : gw_dc cX11_count 115 (.getfield 91) 3 118 := ⟨by decide +kernel, rfl⟩
theorem dX11_count_118 : decode cX11_count 118 = .ok (.ireturn, 1) := by decide +kernel
theorem dX11_count_119 : gw_dc cX11_count 119 (.iconst (-1)) 1 120 := ⟨by decide +kernel, rfl⟩
theorem dX11_count_120 : decode cX11_count 120 = .ok (.ireturn, 1) := by decide +kernel
theorem dX11_isDay_0 : gw_dc cX11_isDay 0 (.iload_n 0) 1 1 := ⟨by decide +kernel, rfl⟩
theorem dX11_isDay_1 : gw_dc cX11_isDay 1 (.i2l) 1 2 := ⟨by decide +kernel, rfl⟩
theorem dX11_isDay_2 : gw_dc cX11_isDay 2 (.lconst 0) 1 3 := ⟨by decide +kernel, rfl⟩
theorem dX11_isDay_3 : gw_dc cX11_isDay 3 (.ldc2_w 410) 3 6 := ⟨by decide +kernel, rfl⟩
theorem kc_RX11_410 : Cond.constantLong RX11 410 (Int64.ofInt 100) ∈ wsG := gw_mem 1942 (by decide +kernel) rfl
theorem dX11_isDay_6 : gw_dc cX11_isDay 6 (.invokestatic 147) 3 9 := ⟨by decide +kernel, rfl⟩
theorem dX11_isDay_9 : gw_dc cX11_isDay 9 (.ifCond .eq 19) 3 12 := ⟨by decide +kernel, rfl⟩
theorem dX11_isDay_28 : gw_dc cX11_isDay 28 (.iconst 0) 1 29 := ⟨by decide +kernel, rfl⟩
theorem dX11_isDay_29 : decode cX11_isDay 29 = .ok (.ireturn, 1) := by decide +kernel
theorem dX11_isDay_12 : gw_dc cX11_isDay 12 (.iload_n 1) 1 13 := ⟨by decide +kernel, rfl⟩
theorem dX11_isDay_13 : gw_dc cX11_isDay 13 (.i2l) 1 14 := ⟨by decide +kernel, rfl⟩
theorem dX11_isDay_14 : gw_dc cX11_isDay 14 (.lconst 1) 1 15 := ⟨by decide +kernel, rfl⟩
theorem dX11_isDay_15 : gw_dc cX11_isDay 15 (.ldc2_w 259) 3 18 := ⟨by decide +kernel, rfl⟩
theorem kc_RX11_259 : Cond.constantLong RX11 259 (Int64.ofInt 99) ∈ wsG := gw_mem 1698 (by decide +kernel) rfl
theorem dX11_isDay_18 : gw_dc cX11_isDay 18 (.invokestatic 147) 3 21 := ⟨by decide +kernel, rfl⟩
theorem dX11_isDay_21 : gw_dc cX11_isDay 21 (.ifCond .eq 7) 3 24 := ⟨by decide +kernel, rfl⟩
theorem dX11_isDay_24 : gw_dc cX11_isDay 24 (.iconst 1) 1 25 := ⟨by decide +kernel, rfl⟩
theorem dX11_isDay_25 : gw_dc cX11_isDay 25 (.goto 4) 3 28 := ⟨by decide +kernel, rfl⟩
theorem dX11_endOf_0 : gw_dc cX11_endOf 0 (.iconst 0) 1 1 := ⟨by decide +kernel, rfl⟩
theorem dX11_endOf_1 : gw_dc cX11_endOf 1 (.istore_n 2) 1 2 := ⟨by decide +kernel, rfl⟩
theorem dX11_endOf_2 : gw_dc cX11_endOf 2 (.iconst 0) 1 3 := ⟨by decide +kernel, rfl⟩
theorem dX11_endOf_3 : gw_dc cX11_endOf 3 (.istore_n 3) 1 4 := ⟨by decide +kernel, rfl⟩
theorem dX11_endOf_4 : gw_dc cX11_endOf 4 (.iload_n 3) 1 5 := ⟨by decide +kernel, rfl⟩
theorem dX11_endOf_5 : gw_dc cX11_endOf 5 (.aload_n 0) 1 6 := ⟨by decide +kernel, rfl⟩
theorem dX11_endOf_6 : gw_dc cX11_endOf 6 (.getfield 9) 3 9 := ⟨by decide +kernel, rfl⟩
theorem dX11_endOf_9 : gw_dc cX11_endOf 9 (.sipush 668) 3 12 := ⟨by decide +kernel, rfl⟩
theorem dX11_endOf_12 : gw_dc cX11_endOf 12 (.iaload) 1 13 := ⟨by decide +kernel, rfl⟩
theorem dX11_endOf_13 : gw_dc cX11_endOf 13 (.if_icmp .ge 30) 3 16 := ⟨by decide +kernel, rfl⟩
theorem dX11_endOf_43 : gw_dc cX11_endOf 43 (.iload_n 2) 1 44 := ⟨by decide +kernel, rfl⟩
theorem dX11_endOf_44 : decode cX11_endOf 44 = .ok (.ireturn, 1) := by decide +kernel
theorem dX11_endOf_16 : gw_dc cX11_endOf 16 (.aload_n 0) 1 17 := ⟨by decide +kernel, rfl⟩
theorem dX11_endOf_17 : gw_dc cX11_endOf 17 (.getfield 36) 3 20 := ⟨by decide +kernel, rfl⟩
theorem fk_RX11_36 : gw_fk RX11 36 11 18 42 1 true := ⟨_, _, _, ck_11, by decide, by decide, fun h => absurd h (by decide), fun h => absurd h (by decide), fun _ => Or.inr ⟨_, rfl⟩, rfl, Or.inl (gw_mem 1439 (by decide +kernel) rfl)⟩
theorem rf_223_18 {ad : Nat → Nat} : (gw_M0 ad).2.2 223 18 = some 231 := (by decide +kernel : gw_rh 223 18 = some 231)
theorem dX11_endOf_20 : gw_dc cX11_endOf 20 (.iload_n 3) 1 21 := ⟨by decide +kernel, rfl⟩
theorem dX11_endOf_21 : gw_dc cX11_endOf 21 (.iaload) 1 22 := ⟨by decide +kernel, rfl⟩
theorem o_231 {ad : Nat → Nat} : isO (gw_M0 ad) 231 21 60 := (by decide +kernel : 231 < gw_N0 ∧ gw_sh 231 = (21, 60))
theorem dX11_endOf_22 : gw_dc cX11_endOf 22 (.iload_n 1) 1 23 := ⟨by decide +kernel, rfl⟩
theorem dX11_endOf_23 : gw_dc cX11_endOf 23 (.if_icmp .ne 14) 3 26 := ⟨by decide +kernel, rfl⟩
theorem dX11_endOf_37 : gw_dc cX11_endOf 37 (.iinc 3 1) 3 40 := ⟨by decide +kernel, rfl⟩
theorem dX11_endOf_40 : gw_dc cX11_endOf 40 (.goto (-36)) 3 43 := ⟨by decide +kernel, rfl⟩
theorem dX11_endOf_26 : gw_dc cX11_endOf 26 (.iload_n 2) 1 27 := ⟨by decide +kernel, rfl⟩
theorem dX11_endOf_27 : gw_dc cX11_endOf 27 (.aload_n 0) 1 28 := ⟨by decide +kernel, rfl⟩
theorem dX11_endOf_28 : gw_dc cX11_endOf 28 (.getfield 42) 3 31 := ⟨by decide +kernel, rfl⟩
theorem fk_RX11_42 : gw_fk RX11 42 11 20 42 1 true := ⟨_, _, _, ck_11, by decide, by decide, fun h => absurd h (by decide), fun h => absurd h (by decide), fun _ => Or.inr ⟨_, rfl⟩, rfl, Or.inl (gw_mem 1441 (by decide +kernel) rfl)⟩
theorem rf_223_20 {ad : Nat → Nat} : (gw_M0 ad).2.2 223 20 = some 233 := (by decide +kernel : gw_rh 223 20 = some 233)
theorem dX11_endOf_31 : gw_dc cX11_endOf 31 (.iload_n 3) 1 32 := ⟨by decide +kernel, rfl⟩
theorem dX11_endOf_32 : gw_dc cX11_endOf 32 (.iaload) 1 33 := ⟨by decide +kernel, rfl⟩
theorem o_233 {ad : Nat → Nat} : isO (gw_M0 ad) 233 21 60 := (by decide +kernel : 233 < gw_N0 ∧ gw_sh 233 = (21, 60))
theorem dX11_endOf_33 : gw_dc cX11_endOf 33 (.invokestatic 268) 3 36 := ⟨by decide +kernel, rfl⟩
theorem dX11_endOf_36 : gw_dc cX11_endOf 36 (.istore_n 2) 1 37 := ⟨by decide +kernel, rfl⟩
theorem dX11_waitOf_0 : gw_dc cX11_waitOf 0 (.aload_n 0) 1 1 := ⟨by decide +kernel, rfl⟩
theorem dX11_waitOf_1 : gw_dc cX11_waitOf 1 (.iload_n 1) 1 2 := ⟨by decide +kernel, rfl⟩
theorem dX11_waitOf_2 : gw_dc cX11_waitOf 2 (.invokevirtual 317) 3 5 := ⟨by decide +kernel, rfl⟩
theorem mv_RX11_317 : gw_mv RX11 317 yX11_endOf := ⟨gw_mem 1783 (by decide +kernel) rfl, gw_mem 1785 (by decide +kernel) rfl, gw_mem 74 (by decide +kernel) rfl⟩
theorem my_X11_endOf : gw_my yX11_endOf cX11_endOf 4 (some .int) 1 := ⟨gw_mem 1786 (by decide +kernel) rfl, gw_mem 106 (by decide +kernel) rfl, by decide +kernel, by decide⟩
theorem dX11_waitOf_5 : gw_dc cX11_waitOf 5 (.aload_n 0) 1 6 := ⟨by decide +kernel, rfl⟩
theorem dX11_waitOf_6 : gw_dc cX11_waitOf 6 (.iload_n 1) 1 7 := ⟨by decide +kernel, rfl⟩
theorem dX11_waitOf_7 : gw_dc cX11_waitOf 7 (.iconst 2) 1 8 := ⟨by decide +kernel, rfl⟩
theorem dX11_waitOf_8 : gw_dc cX11_waitOf 8 (.invokevirtual 242) 3 11 := ⟨by decide +kernel, rfl⟩
theorem dX11_waitOf_11 : gw_dc cX11_waitOf 11 (.isub) 1 12 := ⟨by decide +kernel, rfl⟩
theorem dX11_waitOf_12 : decode cX11_waitOf 12 = .ok (.ireturn, 1) := by decide +kernel
theorem dX11_isLate_0 : gw_dc cX11_isLate 0 (.aload_n 0) 1 1 := ⟨by decide +kernel, rfl⟩
theorem dX11_isLate_1 : gw_dc cX11_isLate 1 (.iload_n 1) 1 2 := ⟨by decide +kernel, rfl⟩
theorem dX11_isLate_2 : gw_dc cX11_isLate 2 (.iconst 5) 1 3 := ⟨by decide +kernel, rfl⟩
theorem dX11_isLate_3 : gw_dc cX11_isLate 3 (.invokevirtual 242) 3 6 := ⟨by decide +kernel, rfl⟩
theorem dX11_isLate_6 : gw_dc cX11_isLate 6 (.iconst (-1)) 1 7 := ⟨by decide +kernel, rfl⟩
theorem dX11_isLate_7 : gw_dc cX11_isLate 7 (.if_icmp .eq 21) 3 10 := ⟨by decide +kernel, rfl⟩
theorem dX11_isLate_28 : gw_dc cX11_isLate 28 (.iconst 0) 1 29 := ⟨by decide +kernel, rfl⟩
theorem dX11_isLate_29 : decode cX11_isLate 29 = .ok (.ireturn, 1) := by decide +kernel
theorem dX11_isLate_10 : gw_dc cX11_isLate 10 (.aload_n 0) 1 11 := ⟨by decide +kernel, rfl⟩
theorem dX11_isLate_11 : gw_dc cX11_isLate 11 (.iload_n 1) 1 12 := ⟨by decide +kernel, rfl⟩
theorem dX11_isLate_12 : gw_dc cX11_isLate 12 (.invokevirtual 317) 3 15 := ⟨by decide +kernel, rfl⟩
theorem dX11_isLate_15 : gw_dc cX11_isLate 15 (.aload_n 0) 1 16 := ⟨by decide +kernel, rfl⟩
theorem dX11_isLate_16 : gw_dc cX11_isLate 16 (.iload_n 1) 1 17 := ⟨by decide +kernel, rfl⟩
theorem dX11_isLate_17 : gw_dc cX11_isLate 17 (.iconst 5) 1 18 := ⟨by decide +kernel, rfl⟩
theorem dX11_isLate_18 : gw_dc cX11_isLate 18 (.invokevirtual 242) 3 21 := ⟨by decide +kernel, rfl⟩
theorem dX11_isLate_21 : gw_dc cX11_isLate 21 (.if_icmp .le 7) 3 24 := ⟨by decide +kernel, rfl⟩
theorem dX11_isLate_24 : gw_dc cX11_isLate 24 (.iconst 1) 1 25 := ⟨by decide +kernel, rfl⟩
theorem dX11_isLate_25 : gw_dc cX11_isLate 25 (.goto 4) 3 28 := ⟨by decide +kernel, rfl⟩
/-! The model, 9: copies, sack, count, ends, waits -/
def nT0 (σ : Sg) : Sg := su σ 223 5 0
theorem nT0_ne (σ : Sg) {a : Nat} (h : a ≠ 223) (j : Nat) : nT0 σ a j = σ a j := su_ne _ _ (Or.inl h)
def nSaV (σ : Sg) (s w : Int) : Int := if nIsS σ s = 0 then 0 else if wth w 0 7 = 0 then 0 else if w = 7 then nFo σ s else nOf σ s w
def nSaW (σ : Sg) (s w : Int) : Sg := if nIsS σ s = 0 then nThr σ 1 else if wth w 0 7 = 0 then nThr σ 2 else σ
def nCnt (σ : Sg) (w : Int) : Int := if w = 0 then σ 224 0 else if w = 1 then max 1 (σ 224 1) else if w = 2 then σ 224 2 else if w = 3 then σ 224 3 else if w = 4 then σ 224 4 else if w = 5 then σ 224 668 else if w = 6 then σ 224 8 else if w = 7 then σ 224 17 else if w = 8 then σ 223 7 else -1
def nIsD (a b : Int) : Int := if wth a 0 100 ≠ 0 ∧ wth b 1 99 ≠ 0 then 1 else 0
def nEoS (σ : Sg) (s : Int) (i : Nat) (c : Int) : Int := if σ 231 i = s then max c (σ 233 i) else c
def nEo (σ : Sg) (s : Int) : Int := itr (σ 224 668).toNat (nEoS σ s) 0
def nWa (σ : Sg) (s : Int) : Int := wr (nEo σ s - nOf σ s 2)
def nLa (σ : Sg) (s : Int) : Int := if nOf σ s 5 ≠ -1 ∧ nOf σ s 5 < nEo σ s then 1 else 0
set_option maxRecDepth 4000 in
theorem s_X11_copies (ad : Nat → Nat) (σ : Sg) {s : Nat} (hs : s ∈ gw_big) {d : Nat} (hd : d ∈ gw_big) : gw_Sp yX11_copies cX11_copies 3 none 1 0 0 [vR (some s), vR (some d)] (gw_M0 ad) σ (gw_D none (gw_M0 ad) (nCp σ s d)) gw_no := by
  refine gw_Sp.of [some (vR (some s)), some (vR (some d)), none] (by decide +kernel) rfl (Nat.le_of_ble_eq_true rfl) ?_
  intro X G fx het hnm
  refine g_iconst fx dX11_copies_0 (by unfold okI; omega) ?_
  refine g_istore_n fx dX11_copies_1 (by decide) rfl rfl ?_
  have loop2 : ∀ i : Nat, i ≤ 672 → gw_W X (yX11_copies.cls, cX11_copies, 3, none, 1, 0, 0) G (gw_Z X G (gw_M0 ad) σ (gw_D none (gw_M0 ad) (nCp σ s d)) gw_no 0 0) 0 0 (gw_M0 ad) (itr i (nCpS s d) σ) 2 [some (vR (some s)), some (vR (some d)), some (vI (i : Nat))] [] := by
    refine up_ind _ (672) (fun i hi ih => ?_)
    refine g_iload_n fx dX11_copies_2 rfl ?_
    refine g_sipush fx dX11_copies_3 (by decide) ?_
    refine g_icmp_ge (tgt := 21) fx dX11_copies_6 (by decide) (fun h6 => ?_) (fun h6 => ?_)
    · exact g_vret fx rfl dX11_copies_21 (by decide) (by decide) (gw_le.rf _) ⟨rfl, rfl, by rw [nCp, show (672 : Nat) = i by omega]⟩
    · refine g_aload_n fx dX11_copies_9 rfl ?_
      refine g_iload_n fx dX11_copies_10 rfl ?_
      refine g_aload_n fx dX11_copies_11 rfl ?_
      refine g_iload_n fx dX11_copies_12 rfl ?_
      refine g_iald fx dX11_copies_13 (big_O hs) (by omega) (by show _ < ((672 : Nat) : Int); omega) ?_
      refine g_iast fx dX11_copies_14 (big_O hd) (by omega) (by show _ < ((672 : Nat) : Int); omega) ?_
      refine g_iinc1 fx dX11_copies_15 (by decide) rfl rfl (by unfold okI; omega) rfl ?_
      refine g_goto (tgt := 2) fx dX11_copies_18 (by decide) ?_
      exact gw_cg (by rw [itr_s, nCpS]; rfl) (by rw [show ((i : Nat) : Int) + 1 = ((i + 1 : Nat) : Int) by omega]; rfl) (ih (by omega))
  exact loop2 0 (Nat.zero_le _)
set_option maxRecDepth 4000 in
theorem s_X11_sack (ad : Nat → Nat) (σ : Sg)  (s : Int) (w : Int) (hS : 0 ≤ σ 224 4 ∧ σ 224 4 ≤ 60) : gw_Sp yX11_sack cX11_sack 3 (some .int) 3 0 0 [vR (some 223), vI s, vI w] (gw_M0 ad) σ (gw_D (some (vI (nSaV (nT0 σ) s w))) (gw_M0 ad) (nSaW (nT0 σ) s w)) gw_no := by
  refine gw_Sp.of [some (vR (some 223)), some (vI s), some (vI w)] (by decide +kernel) rfl (Nat.le_of_ble_eq_true rfl) ?_
  intro X G fx het hnm
  have hS0 : nT0 σ 224 4 = σ 224 4 := nT0_ne σ (by decide) 4
  refine g_aload_n fx dX11_sack_0 rfl ?_
  refine g_iconst fx dX11_sack_1 (by unfold okI; omega) ?_
  refine g_puti fx dX11_sack_2 fk_RX11_88 o_223 ?_
  refine gw_cg (σ' := nT0 σ) rfl rfl ?_
  refine g_aload_n fx dX11_sack_5 rfl ?_
  refine g_iload_n fx dX11_sack_6 rfl ?_
  refine g_callVD fx dX11_sack_7 mv_RX11_244 my_X11_isSack (s_X11_isSack ad _ _) o_223 rfl rfl rfl (Nat.le_of_ble_eq_true rfl) (by decide) (by decide) ?_
  refine g_if_ne (tgt := 19) fx dX11_sack_10 (by decide) (fun h10 => ?_) (fun h10 => ?_)
  · refine g_iload_n fx dX11_sack_19 rfl ?_
    refine g_i2l fx dX11_sack_20 ?_
    refine g_lconst0 fx dX11_sack_21 ?_
    refine g_ldcL fx dX11_sack_22 kc_RX11_247 (by unfold okJ; omega) ?_
    refine g_callSD fx dX11_sack_25 ms_RX11_147 my_X11_within (s_X11_within ad _ _ _ _) rfl rfl (Nat.le_of_ble_eq_true rfl) (by decide) (by decide) ?_
    refine g_if_ne (tgt := 37) fx dX11_sack_28 (by decide) (fun h28 => ?_) (fun h28 => ?_)
    · refine g_iload_n fx dX11_sack_37 rfl ?_
      refine g_bipush fx dX11_sack_38 (by decide) ?_
      refine g_icmp_ne (tgt := 51) fx dX11_sack_40 (by decide) (fun h40 => ?_) (fun h40 => ?_)
      · refine g_aload_n fx dX11_sack_51 rfl ?_
        refine g_iload_n fx dX11_sack_52 rfl ?_
        refine g_iload_n fx dX11_sack_53 rfl ?_
        refine g_callVD fx dX11_sack_54 mv_RX11_242 my_X11_of (s_X11_of ad _ _ _ (by unfold nIsS at h10; have h1 := wth_1 h10; have h2 := wth_1 h28; rw [hS0, wr_id (by unfold okI; omega)] at h1; omega)) o_223 rfl rfl rfl (Nat.le_of_ble_eq_true rfl) (by decide) (by decide) ?_
        exact g_iret fx rfl dX11_sack_57 (by decide) (by decide) (gw_le.rf _) ⟨by first | (exfalso; omega) | (rw [nSaV]; (repeat first | rw [if_pos (by omega)] | rw [if_neg (by omega)]) <;> rfl), rfl, by first | (exfalso; omega) | (rw [nSaW]; (repeat first | rw [if_pos (by omega)] | rw [if_neg (by omega)]) <;> rfl)⟩
      · refine g_aload_n fx dX11_sack_43 rfl ?_
        refine g_iload_n fx dX11_sack_44 rfl ?_
        refine g_callVD fx dX11_sack_45 mv_RX11_249 my_X11_firstOf (s_X11_firstOf ad _ _ (by unfold nIsS at h10; have h1 := wth_1 h10; rw [hS0, wr_id (by unfold okI; omega)] at h1; omega)) o_223 rfl rfl rfl (Nat.le_of_ble_eq_true rfl) (by decide) (by decide) ?_
        refine g_goto (tgt := 57) fx dX11_sack_48 (by decide) ?_
        exact g_iret fx rfl dX11_sack_57 (by decide) (by decide) (gw_le.rf _) ⟨by first | (exfalso; omega) | (rw [nSaV]; (repeat first | rw [if_pos (by omega)] | rw [if_neg (by omega)]) <;> rfl), rfl, by first | (exfalso; omega) | (rw [nSaW]; (repeat first | rw [if_pos (by omega)] | rw [if_neg (by omega)]) <;> rfl)⟩
    · refine g_aload_n fx dX11_sack_31 rfl ?_
      refine g_iconst fx dX11_sack_32 (by unfold okI; omega) ?_
      refine g_callVD fx dX11_sack_33 mv_RX11_191 my_X11_fails (s_X11_fails ad _ _) o_223 rfl rfl rfl (Nat.le_of_ble_eq_true rfl) (by decide) (by decide) ?_
      exact g_iret fx rfl dX11_sack_36 (by decide) (by decide) (gw_le.rf _) ⟨by first | (exfalso; omega) | (rw [nSaV]; (repeat first | rw [if_pos (by omega)] | rw [if_neg (by omega)]) <;> rfl), rfl, by first | (exfalso; omega) | (rw [nSaW]; (repeat first | rw [if_pos (by omega)] | rw [if_neg (by omega)]) <;> rfl)⟩
  · refine g_aload_n fx dX11_sack_13 rfl ?_
    refine g_iconst fx dX11_sack_14 (by unfold okI; omega) ?_
    refine g_callVD fx dX11_sack_15 mv_RX11_191 my_X11_fails (s_X11_fails ad _ _) o_223 rfl rfl rfl (Nat.le_of_ble_eq_true rfl) (by decide) (by decide) ?_
    exact g_iret fx rfl dX11_sack_18 (by decide) (by decide) (gw_le.rf _) ⟨by first | (exfalso; omega) | (rw [nSaV]; (repeat first | rw [if_pos (by omega)] | rw [if_neg (by omega)]) <;> rfl), rfl, by first | (exfalso; omega) | (rw [nSaW]; (repeat first | rw [if_pos (by omega)] | rw [if_neg (by omega)]) <;> rfl)⟩
set_option maxRecDepth 4000 in
theorem s_X11_count (ad : Nat → Nat) (σ : Sg)  (w : Int) : gw_Sp yX11_count cX11_count 2 (some .int) 3 0 0 [vR (some 223), vI w] (gw_M0 ad) σ (gw_D (some (vI (nCnt (nT0 σ) w))) (gw_M0 ad) (nT0 σ)) gw_no := by
  refine gw_Sp.of [some (vR (some 223)), some (vI w)] (by decide +kernel) rfl (Nat.le_of_ble_eq_true rfl) ?_
  intro X G fx het hnm
  refine g_aload_n fx dX11_count_0 rfl ?_
  refine g_iconst fx dX11_count_1 (by unfold okI; omega) ?_
  refine g_puti fx dX11_count_2 fk_RX11_88 o_223 ?_
  refine gw_cg (σ' := nT0 σ) rfl rfl ?_
  refine g_iload_n fx dX11_count_5 rfl ?_
  by_cases h6_0 : w = 0
  · refine g_tsw 0 (tgt := 56) fx dX11_count_6 (by omega) (by decide) rfl (by decide) ?_
    refine g_aload_n fx dX11_count_56 rfl ?_
    refine g_getr fx dX11_count_57 fk_RX11_9 o_223 rf_223_0 ?_
    refine g_iconst fx dX11_count_60 (by unfold okI; omega) ?_
    refine g_iald fx dX11_count_61 o_224 (by decide) (by decide) ?_
    exact g_iret fx rfl dX11_count_62 (by decide) (by decide) (gw_le.rf _) ⟨by first | (exfalso; omega) | (rw [nCnt]; (repeat first | rw [if_pos (by omega)] | rw [if_neg (by omega)]) <;> rfl), rfl, rfl⟩
  by_cases h6_1 : w = 1
  · refine g_tsw 1 (tgt := 63) fx dX11_count_6 (by omega) (by decide) rfl (by decide) ?_
    refine g_aload_n fx dX11_count_63 rfl ?_
    refine g_callVD fx dX11_count_64 mv_RX11_305 my_X11_stones (s_X11_stones ad _ ) o_223 rfl rfl rfl (Nat.le_of_ble_eq_true rfl) (by decide) (by decide) ?_
    exact g_iret fx rfl dX11_count_67 (by decide) (by decide) (gw_le.rf _) ⟨by first | (exfalso; omega) | (rw [nCnt]; (repeat first | rw [if_pos (by omega)] | rw [if_neg (by omega)]) <;> rfl), rfl, rfl⟩
  by_cases h6_2 : w = 2
  · refine g_tsw 2 (tgt := 68) fx dX11_count_6 (by omega) (by decide) rfl (by decide) ?_
    refine g_aload_n fx dX11_count_68 rfl ?_
    refine g_getr fx dX11_count_69 fk_RX11_9 o_223 rf_223_0 ?_
    refine g_iconst fx dX11_count_72 (by unfold okI; omega) ?_
    refine g_iald fx dX11_count_73 o_224 (by decide) (by decide) ?_
    exact g_iret fx rfl dX11_count_74 (by decide) (by decide) (gw_le.rf _) ⟨by first | (exfalso; omega) | (rw [nCnt]; (repeat first | rw [if_pos (by omega)] | rw [if_neg (by omega)]) <;> rfl), rfl, rfl⟩
  by_cases h6_3 : w = 3
  · refine g_tsw 3 (tgt := 75) fx dX11_count_6 (by omega) (by decide) rfl (by decide) ?_
    refine g_aload_n fx dX11_count_75 rfl ?_
    refine g_getr fx dX11_count_76 fk_RX11_9 o_223 rf_223_0 ?_
    refine g_iconst fx dX11_count_79 (by unfold okI; omega) ?_
    refine g_iald fx dX11_count_80 o_224 (by decide) (by decide) ?_
    exact g_iret fx rfl dX11_count_81 (by decide) (by decide) (gw_le.rf _) ⟨by first | (exfalso; omega) | (rw [nCnt]; (repeat first | rw [if_pos (by omega)] | rw [if_neg (by omega)]) <;> rfl), rfl, rfl⟩
  by_cases h6_4 : w = 4
  · refine g_tsw 4 (tgt := 82) fx dX11_count_6 (by omega) (by decide) rfl (by decide) ?_
    refine g_aload_n fx dX11_count_82 rfl ?_
    refine g_getr fx dX11_count_83 fk_RX11_9 o_223 rf_223_0 ?_
    refine g_iconst fx dX11_count_86 (by unfold okI; omega) ?_
    refine g_iald fx dX11_count_87 o_224 (by decide) (by decide) ?_
    exact g_iret fx rfl dX11_count_88 (by decide) (by decide) (gw_le.rf _) ⟨by first | (exfalso; omega) | (rw [nCnt]; (repeat first | rw [if_pos (by omega)] | rw [if_neg (by omega)]) <;> rfl), rfl, rfl⟩
  by_cases h6_5 : w = 5
  · refine g_tsw 5 (tgt := 89) fx dX11_count_6 (by omega) (by decide) rfl (by decide) ?_
    refine g_aload_n fx dX11_count_89 rfl ?_
    refine g_getr fx dX11_count_90 fk_RX11_9 o_223 rf_223_0 ?_
    refine g_sipush fx dX11_count_93 (by decide) ?_
    refine g_iald fx dX11_count_96 o_224 (by decide) (by decide) ?_
    exact g_iret fx rfl dX11_count_97 (by decide) (by decide) (gw_le.rf _) ⟨by first | (exfalso; omega) | (rw [nCnt]; (repeat first | rw [if_pos (by omega)] | rw [if_neg (by omega)]) <;> rfl), rfl, rfl⟩
  by_cases h6_6 : w = 6
  · refine g_tsw 6 (tgt := 98) fx dX11_count_6 (by omega) (by decide) rfl (by decide) ?_
    refine g_aload_n fx dX11_count_98 rfl ?_
    refine g_getr fx dX11_count_99 fk_RX11_9 o_223 rf_223_0 ?_
    refine g_bipush fx dX11_count_102 (by decide) ?_
    refine g_iald fx dX11_count_104 o_224 (by decide) (by decide) ?_
    exact g_iret fx rfl dX11_count_105 (by decide) (by decide) (gw_le.rf _) ⟨by first | (exfalso; omega) | (rw [nCnt]; (repeat first | rw [if_pos (by omega)] | rw [if_neg (by omega)]) <;> rfl), rfl, rfl⟩
  by_cases h6_7 : w = 7
  · refine g_tsw 7 (tgt := 106) fx dX11_count_6 (by omega) (by decide) rfl (by decide) ?_
    refine g_aload_n fx dX11_count_106 rfl ?_
    refine g_getr fx dX11_count_107 fk_RX11_9 o_223 rf_223_0 ?_
    refine g_bipush fx dX11_count_110 (by decide) ?_
    refine g_iald fx dX11_count_112 o_224 (by decide) (by decide) ?_
    exact g_iret fx rfl dX11_count_113 (by decide) (by decide) (gw_le.rf _) ⟨by first | (exfalso; omega) | (rw [nCnt]; (repeat first | rw [if_pos (by omega)] | rw [if_neg (by omega)]) <;> rfl), rfl, rfl⟩
  by_cases h6_8 : w = 8
  · refine g_tsw 8 (tgt := 114) fx dX11_count_6 (by omega) (by decide) rfl (by decide) ?_
    refine g_aload_n fx dX11_count_114 rfl ?_
    refine g_geti fx dX11_count_115 fk_RX11_91 (by decide) o_223 ?_
    exact g_iret fx rfl dX11_count_118 (by decide) (by decide) (gw_le.rf _) ⟨by first | (exfalso; omega) | (rw [nCnt]; (repeat first | rw [if_pos (by omega)] | rw [if_neg (by omega)]) <;> rfl), rfl, rfl⟩
  refine g_tswO (tgt := 119) fx dX11_count_6 (by omega) (by decide) ?_
  refine g_iconst fx dX11_count_119 (by unfold okI; omega) ?_
  exact g_iret fx rfl dX11_count_120 (by decide) (by decide) (gw_le.rf _) ⟨by first | (exfalso; omega) | (rw [nCnt]; (repeat first | rw [if_pos (by omega)] | rw [if_neg (by omega)]) <;> rfl), rfl, rfl⟩
set_option maxRecDepth 4000 in
theorem s_X11_isDay (ad : Nat → Nat) (σ : Sg) (a : Int) (b : Int) : gw_Sp yX11_isDay cX11_isDay 2 (some .boolean) 2 0 0 [vI a, vI b] (gw_M0 ad) σ (gw_D (some (vI (nIsD a b))) (gw_M0 ad) (σ)) gw_no := by
  refine gw_Sp.of [some (vI a), some (vI b)] (by decide +kernel) rfl (Nat.le_of_ble_eq_true rfl) ?_
  intro X G fx het hnm
  refine g_iload_n fx dX11_isDay_0 rfl ?_
  refine g_i2l fx dX11_isDay_1 ?_
  refine g_lconst0 fx dX11_isDay_2 ?_
  refine g_ldcL fx dX11_isDay_3 kc_RX11_410 (by unfold okJ; omega) ?_
  refine g_callSD fx dX11_isDay_6 ms_RX11_147 my_X11_within (s_X11_within ad _ _ _ _) rfl rfl (Nat.le_of_ble_eq_true rfl) (by decide) (by decide) ?_
  refine g_if_eq (tgt := 28) fx dX11_isDay_9 (by decide) (fun h9 => ?_) (fun h9 => ?_)
  · refine g_iconst fx dX11_isDay_28 (by unfold okI; omega) ?_
    exact g_zret fx rfl dX11_isDay_29 (by first | exact Or.inl rfl | exact Or.inr rfl | omega) (by decide) (by decide) (gw_le.rf _) ⟨by first | (exfalso; omega) | (rw [nIsD]; (repeat first | rw [if_pos (by omega)] | rw [if_neg (by omega)]) <;> rfl), rfl, rfl⟩
  · refine g_iload_n fx dX11_isDay_12 rfl ?_
    refine g_i2l fx dX11_isDay_13 ?_
    refine g_lconst1 fx dX11_isDay_14 ?_
    refine g_ldcL fx dX11_isDay_15 kc_RX11_259 (by unfold okJ; omega) ?_
    refine g_callSD fx dX11_isDay_18 ms_RX11_147 my_X11_within (s_X11_within ad _ _ _ _) rfl rfl (Nat.le_of_ble_eq_true rfl) (by decide) (by decide) ?_
    refine g_if_eq (tgt := 28) fx dX11_isDay_21 (by decide) (fun h21 => ?_) (fun h21 => ?_)
    · refine g_iconst fx dX11_isDay_28 (by unfold okI; omega) ?_
      exact g_zret fx rfl dX11_isDay_29 (by first | exact Or.inl rfl | exact Or.inr rfl | omega) (by decide) (by decide) (gw_le.rf _) ⟨by first | (exfalso; omega) | (rw [nIsD]; (repeat first | rw [if_pos (by omega)] | rw [if_neg (by omega)]) <;> rfl), rfl, rfl⟩
    · refine g_iconst fx dX11_isDay_24 (by unfold okI; omega) ?_
      refine g_goto (tgt := 29) fx dX11_isDay_25 (by decide) ?_
      exact g_zret fx rfl dX11_isDay_29 (by first | exact Or.inl rfl | exact Or.inr rfl | omega) (by decide) (by decide) (gw_le.rf _) ⟨by first | (exfalso; omega) | (rw [nIsD]; (repeat first | rw [if_pos (by omega)] | rw [if_neg (by omega)]) <;> rfl), rfl, rfl⟩
set_option maxRecDepth 4000 in
theorem s_X11_endOf (ad : Nat → Nat) (σ : Sg)  (s : Int) (hP : σ 224 668 ≤ 60) : gw_Sp yX11_endOf cX11_endOf 4 (some .int) 2 0 0 [vR (some 223), vI s] (gw_M0 ad) σ (gw_D (some (vI (nEo σ s))) (gw_M0 ad) (σ)) gw_no := by
  refine gw_Sp.of [some (vR (some 223)), some (vI s), none, none] (by decide +kernel) rfl (Nat.le_of_ble_eq_true rfl) ?_
  intro X G fx het hnm
  refine g_iconst fx dX11_endOf_0 (by unfold okI; omega) ?_
  refine g_istore_n fx dX11_endOf_1 (by decide) rfl rfl ?_
  refine g_iconst fx dX11_endOf_2 (by unfold okI; omega) ?_
  refine g_istore_n fx dX11_endOf_3 (by decide) rfl rfl ?_
  have loop4 : ∀ i : Nat, i ≤ (σ 224 668).toNat → gw_W X (yX11_endOf.cls, cX11_endOf, 4, (some .int), 2, 0, 0) G (gw_Z X G (gw_M0 ad) σ (gw_D (some (vI (nEo σ s))) (gw_M0 ad) (σ)) gw_no 0 0) 0 0 (gw_M0 ad) (σ) 4 [some (vR (some 223)), some (vI s), some (vI (itr i (nEoS σ s) 0)), some (vI (i : Nat))] [] := by
    refine up_ind _ ((σ 224 668).toNat) (fun i hi ih => ?_)
    refine g_iload_n fx dX11_endOf_4 rfl ?_
    refine g_aload_n fx dX11_endOf_5 rfl ?_
    refine g_getr fx dX11_endOf_6 fk_RX11_9 o_223 rf_223_0 ?_
    refine g_sipush fx dX11_endOf_9 (by decide) ?_
    refine g_iald fx dX11_endOf_12 o_224 (by decide) (by decide) ?_
    rw [show Int.toNat 668 = 668 from rfl]
    refine g_icmp_ge (tgt := 43) fx dX11_endOf_13 (by decide) (fun h13 => ?_) (fun h13 => ?_)
    · refine g_iload_n fx dX11_endOf_43 rfl ?_
      exact g_iret fx rfl dX11_endOf_44 (by decide) (by decide) (gw_le.rf _) ⟨by rw [nEo, show (σ 224 668).toNat = i by omega], rfl, rfl⟩
    · refine g_aload_n fx dX11_endOf_16 rfl ?_
      refine g_getr fx dX11_endOf_17 fk_RX11_36 o_223 rf_223_18 ?_
      refine g_iload_n fx dX11_endOf_20 rfl ?_
      refine g_iald fx dX11_endOf_21 o_231 (by omega) (by show _ < ((60 : Nat) : Int); omega) ?_
      rw [show ((i : Nat) : Int).toNat = i from rfl]
      refine g_iload_n fx dX11_endOf_22 rfl ?_
      refine g_icmp_ne (tgt := 37) fx dX11_endOf_23 (by decide) (fun h23 => ?_) (fun h23 => ?_)
      · refine g_iinc1 fx dX11_endOf_37 (by decide) rfl rfl (by unfold okI; omega) rfl ?_
        refine g_goto (tgt := 4) fx dX11_endOf_40 (by decide) ?_
        exact gw_cg rfl (by rw [itr_s, nEoS, show ((i : Nat) : Int) + 1 = ((i + 1 : Nat) : Int) by omega]; (repeat first | rw [if_pos (by omega)] | rw [if_neg (by omega)]) <;> rfl) (ih (by omega))
      · refine g_iload_n fx dX11_endOf_26 rfl ?_
        refine g_aload_n fx dX11_endOf_27 rfl ?_
        refine g_getr fx dX11_endOf_28 fk_RX11_42 o_223 rf_223_20 ?_
        refine g_iload_n fx dX11_endOf_31 rfl ?_
        refine g_iald fx dX11_endOf_32 o_233 (by omega) (by show _ < ((60 : Nat) : Int); omega) ?_
        rw [show ((i : Nat) : Int).toNat = i from rfl]
        refine g_max fx dX11_endOf_33 mm_RX11_268 (by decide) (by decide) (by decide) (Nat.le_of_ble_eq_true rfl) ?_
        refine g_istore_n fx dX11_endOf_36 (by decide) rfl rfl ?_
        refine g_iinc1 fx dX11_endOf_37 (by decide) rfl rfl (by unfold okI; omega) rfl ?_
        refine g_goto (tgt := 4) fx dX11_endOf_40 (by decide) ?_
        exact gw_cg rfl (by rw [itr_s, nEoS, show ((i : Nat) : Int) + 1 = ((i + 1 : Nat) : Int) by omega]; (repeat first | rw [if_pos (by omega)] | rw [if_neg (by omega)]) <;> rfl) (ih (by omega))
  exact loop4 0 (Nat.zero_le _)
set_option maxRecDepth 4000 in
theorem s_X11_waitOf (ad : Nat → Nat) (σ : Sg)  (s : Int) (hP : σ 224 668 ≤ 60) (h : 0 ≤ s ∧ s ≤ 90) : gw_Sp yX11_waitOf cX11_waitOf 2 (some .int) 3 0 0 [vR (some 223), vI s] (gw_M0 ad) σ (gw_D (some (vI (nWa σ s))) (gw_M0 ad) (σ)) gw_no := by
  refine gw_Sp.of [some (vR (some 223)), some (vI s)] (by decide +kernel) rfl (Nat.le_of_ble_eq_true rfl) ?_
  intro X G fx het hnm
  refine g_aload_n fx dX11_waitOf_0 rfl ?_
  refine g_iload_n fx dX11_waitOf_1 rfl ?_
  refine g_callVD fx dX11_waitOf_2 mv_RX11_317 my_X11_endOf (s_X11_endOf ad _ _ hP) o_223 rfl rfl rfl (Nat.le_of_ble_eq_true rfl) (by decide) (by decide) ?_
  refine g_aload_n fx dX11_waitOf_5 rfl ?_
  refine g_iload_n fx dX11_waitOf_6 rfl ?_
  refine g_iconst fx dX11_waitOf_7 (by unfold okI; omega) ?_
  refine g_callVD fx dX11_waitOf_8 mv_RX11_242 my_X11_of (s_X11_of ad _ _ _ (by omega)) o_223 rfl rfl rfl (Nat.le_of_ble_eq_true rfl) (by decide) (by decide) ?_
  refine g_isub fx dX11_waitOf_11 ?_
  exact g_iret fx rfl dX11_waitOf_12 (by decide) (by decide) (gw_le.rf _) ⟨rfl, rfl, rfl⟩
set_option maxRecDepth 4000 in
theorem s_X11_isLate (ad : Nat → Nat) (σ : Sg)  (s : Int) (hP : σ 224 668 ≤ 60) (h : 0 ≤ s ∧ s ≤ 90) : gw_Sp yX11_isLate cX11_isLate 2 (some .boolean) 3 0 0 [vR (some 223), vI s] (gw_M0 ad) σ (gw_D (some (vI (nLa σ s))) (gw_M0 ad) (σ)) gw_no := by
  refine gw_Sp.of [some (vR (some 223)), some (vI s)] (by decide +kernel) rfl (Nat.le_of_ble_eq_true rfl) ?_
  intro X G fx het hnm
  refine g_aload_n fx dX11_isLate_0 rfl ?_
  refine g_iload_n fx dX11_isLate_1 rfl ?_
  refine g_iconst fx dX11_isLate_2 (by unfold okI; omega) ?_
  refine g_callVD fx dX11_isLate_3 mv_RX11_242 my_X11_of (s_X11_of ad _ _ _ (by omega)) o_223 rfl rfl rfl (Nat.le_of_ble_eq_true rfl) (by decide) (by decide) ?_
  refine g_iconst fx dX11_isLate_6 (by unfold okI; omega) ?_
  refine g_icmp_eq (tgt := 28) fx dX11_isLate_7 (by decide) (fun h7 => ?_) (fun h7 => ?_)
  · refine g_iconst fx dX11_isLate_28 (by unfold okI; omega) ?_
    exact g_zret fx rfl dX11_isLate_29 (by first | exact Or.inl rfl | exact Or.inr rfl | omega) (by decide) (by decide) (gw_le.rf _) ⟨by first | (exfalso; omega) | (rw [nLa]; (repeat first | rw [if_pos (by omega)] | rw [if_neg (by omega)]) <;> rfl), rfl, rfl⟩
  · refine g_aload_n fx dX11_isLate_10 rfl ?_
    refine g_iload_n fx dX11_isLate_11 rfl ?_
    refine g_callVD fx dX11_isLate_12 mv_RX11_317 my_X11_endOf (s_X11_endOf ad _ _ hP) o_223 rfl rfl rfl (Nat.le_of_ble_eq_true rfl) (by decide) (by decide) ?_
    refine g_aload_n fx dX11_isLate_15 rfl ?_
    refine g_iload_n fx dX11_isLate_16 rfl ?_
    refine g_iconst fx dX11_isLate_17 (by unfold okI; omega) ?_
    refine g_callVD fx dX11_isLate_18 mv_RX11_242 my_X11_of (s_X11_of ad _ _ _ (by omega)) o_223 rfl rfl rfl (Nat.le_of_ble_eq_true rfl) (by decide) (by decide) ?_
    refine g_icmp_le (tgt := 28) fx dX11_isLate_21 (by decide) (fun h21 => ?_) (fun h21 => ?_)
    · refine g_iconst fx dX11_isLate_28 (by unfold okI; omega) ?_
      exact g_zret fx rfl dX11_isLate_29 (by first | exact Or.inl rfl | exact Or.inr rfl | omega) (by decide) (by decide) (gw_le.rf _) ⟨by first | (exfalso; omega) | (rw [nLa]; (repeat first | rw [if_pos (by omega)] | rw [if_neg (by omega)]) <;> rfl), rfl, rfl⟩
    · refine g_iconst fx dX11_isLate_24 (by unfold okI; omega) ?_
      refine g_goto (tgt := 29) fx dX11_isLate_25 (by decide) ?_
      exact g_zret fx rfl dX11_isLate_29 (by first | exact Or.inl rfl | exact Or.inr rfl | omega) (by decide) (by decide) (gw_le.rf _) ⟨by first | (exfalso; omega) | (rw [nLa]; (repeat first | rw [if_pos (by omega)] | rw [if_neg (by omega)]) <;> rfl), rfl, rfl⟩
