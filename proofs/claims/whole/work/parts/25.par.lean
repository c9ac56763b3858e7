theorem dX2_startWays_0 : gw_dc cX2_startWays 0 (.aload_n 0) 1 1 := ⟨by decide +kernel, rfl⟩
theorem dX2_startWays_1 : gw_dc cX2_startWays 1 (.getfield 14) 3 4 := ⟨by decide +kernel, rfl⟩
theorem fk_RX2_14 : gw_fk RX2 14 2 2 8 1 true := ⟨_, _, _, ck_2, by decide, by decide, fun h => absurd h (by decide), fun h => absurd h (by decide), fun _ => Or.inl ⟨_, rfl⟩, rfl, Or.inl (gw_mem 407 (by decide +kernel) rfl)⟩
theorem rf_121_2 {ad : Nat → Nat} : (gw_M0 ad).2.2 121 2 = some 122 := (by decide +kernel : gw_rh 121 2 = some 122)
theorem in_122 : (122, 8) ∈ gw_rows := by decide +kernel
theorem o_121 {ad : Nat → Nat} : isO (gw_M0 ad) 121 2 8 := (by decide +kernel : 121 < gw_N0 ∧ gw_sh 121 = (2, 8))
theorem dX2_startWays_4 : gw_dc cX2_startWays 4 (.iconst 0) 1 5 := ⟨by decide +kernel, rfl⟩
theorem dX2_startWays_5 : gw_dc cX2_startWays 5 (.iload_n 1) 1 6 := ⟨by decide +kernel, rfl⟩
theorem dX2_startWays_6 : gw_dc cX2_startWays 6 (.iload_n 2) 1 7 := ⟨by decide +kernel, rfl⟩
theorem dX2_startWays_7 : gw_dc cX2_startWays 7 (.isub) 1 8 := ⟨by decide +kernel, rfl⟩
theorem dX2_startWays_8 : gw_dc cX2_startWays 8 (.iconst 1) 1 9 := ⟨by decide +kernel, rfl⟩
theorem dX2_startWays_9 : gw_dc cX2_startWays 9 (.iadd) 1 10 := ⟨by decide +kernel, rfl⟩
theorem dX2_startWays_10 : gw_dc cX2_startWays 10 (.invokevirtual 60) 3 13 := ⟨by decide +kernel, rfl⟩
theorem mv_RX2_60 : gw_mv RX2 60 yX4_put := ⟨gw_mem 1224 (by decide +kernel) rfl, gw_mem 207 (by decide +kernel) rfl, gw_mem 208 (by decide +kernel) rfl⟩
theorem dX2_startWays_13 : gw_dc cX2_startWays 13 (.iconst 1) 1 14 := ⟨by decide +kernel, rfl⟩
theorem dX2_startWays_14 : gw_dc cX2_startWays 14 (.istore_n 3) 1 15 := ⟨by decide +kernel, rfl⟩
theorem dX2_startWays_15 : gw_dc cX2_startWays 15 (.iload_n 3) 1 16 := ⟨by decide +kernel, rfl⟩
theorem dX2_startWays_16 : gw_dc cX2_startWays 16 (.iload_n 2) 1 17 := ⟨by decide +kernel, rfl⟩
theorem dX2_startWays_17 : gw_dc cX2_startWays 17 (.if_icmp .ge 18) 3 20 := ⟨by decide +kernel, rfl⟩
theorem dX2_startWays_35 : decode cX2_startWays 35 = .ok (.return_, 1) := by decide +kernel
theorem dX2_startWays_20 : gw_dc cX2_startWays 20 (.aload_n 0) 1 21 := ⟨by decide +kernel, rfl⟩
theorem dX2_startWays_21 : gw_dc cX2_startWays 21 (.getfield 14) 3 24 := ⟨by decide +kernel, rfl⟩
theorem dX2_startWays_24 : gw_dc cX2_startWays 24 (.iload_n 3) 1 25 := ⟨by decide +kernel, rfl⟩
theorem dX2_startWays_25 : gw_dc cX2_startWays 25 (.iconst 1) 1 26 := ⟨by decide +kernel, rfl⟩
theorem dX2_startWays_26 : gw_dc cX2_startWays 26 (.invokevirtual 60) 3 29 := ⟨by decide +kernel, rfl⟩
theorem dX2_startWays_29 : gw_dc cX2_startWays 29 (.iinc 3 1) 3 32 := ⟨by decide +kernel, rfl⟩
theorem dX2_startWays_32 : gw_dc cX2_startWays 32 (.goto (-17)) 3 35 := ⟨by decide +kernel, rfl⟩
theorem dX2_spread_0 : gw_dc cX2_spread 0 (.iload_n 3) 1 1 := ⟨by decide +kernel, rfl⟩
theorem dX2_spread_1 : gw_dc cX2_spread 1 (.istore 5) 2 3 := ⟨by decide +kernel, rfl⟩
theorem dX2_spread_3 : gw_dc cX2_spread 3 (.iload_n 1) 1 4 := ⟨by decide +kernel, rfl⟩
theorem dX2_spread_4 : gw_dc cX2_spread 4 (.istore 6) 2 6 := ⟨by decide +kernel, rfl⟩
theorem dX2_spread_6 : gw_dc cX2_spread 6 (.iload 6) 2 8 := ⟨by decide +kernel, rfl⟩
theorem dX2_spread_8 : gw_dc cX2_spread 8 (.iload_n 2) 1 9 := ⟨by decide +kernel, rfl⟩
theorem dX2_spread_9 : gw_dc cX2_spread 9 (.if_icmp .ge 43) 3 12 := ⟨by decide +kernel, rfl⟩
theorem dX2_spread_52 : decode cX2_spread 52 = .ok (.return_, 1) := by decide +kernel
theorem dX2_spread_12 : gw_dc cX2_spread 12 (.iload 4) 2 14 := ⟨by decide +kernel, rfl⟩
theorem dX2_spread_14 : gw_dc cX2_spread 14 (.iload 5) 2 16 := ⟨by decide +kernel, rfl⟩
theorem dX2_spread_16 : gw_dc cX2_spread 16 (.iload_n 2) 1 17 := ⟨by decide +kernel, rfl⟩
theorem dX2_spread_17 : gw_dc cX2_spread 17 (.iconst 1) 1 18 := ⟨by decide +kernel, rfl⟩
theorem dX2_spread_18 : gw_dc cX2_spread 18 (.isub) 1 19 := ⟨by decide +kernel, rfl⟩
theorem dX2_spread_19 : gw_dc cX2_spread 19 (.iload 6) 2 21 := ⟨by decide +kernel, rfl⟩
theorem dX2_spread_21 : gw_dc cX2_spread 21 (.isub) 1 22 := ⟨by decide +kernel, rfl⟩
theorem dX2_spread_22 : gw_dc cX2_spread 22 (.isub) 1 23 := ⟨by decide +kernel, rfl⟩
theorem dX2_spread_23 : gw_dc cX2_spread 23 (.invokestatic 46) 3 26 := ⟨by decide +kernel, rfl⟩
theorem mm_RX2_46 : gw_mm RX2 46 Lib.Math.min.name Lib.Math.min.code := ⟨gw_mem 1222 (by decide +kernel) rfl, gw_mem 612 (by decide +kernel) rfl, gw_mem 116 (by decide +kernel) rfl, gw_mem 613 (by decide +kernel) rfl⟩
theorem dX2_spread_26 : gw_dc cX2_spread 26 (.istore 7) 2 28 := ⟨by decide +kernel, rfl⟩
theorem dX2_spread_28 : gw_dc cX2_spread 28 (.aload_n 0) 1 29 := ⟨by decide +kernel, rfl⟩
theorem dX2_spread_29 : gw_dc cX2_spread 29 (.getfield 14) 3 32 := ⟨by decide +kernel, rfl⟩
theorem dX2_spread_32 : gw_dc cX2_spread 32 (.iload 6) 2 34 := ⟨by decide +kernel, rfl⟩
theorem dX2_spread_34 : gw_dc cX2_spread 34 (.iload 7) 2 36 := ⟨by decide +kernel, rfl⟩
theorem dX2_spread_36 : gw_dc cX2_spread 36 (.invokevirtual 60) 3 39 := ⟨by decide +kernel, rfl⟩
theorem dX2_spread_39 : gw_dc cX2_spread 39 (.iload 5) 2 41 := ⟨by decide +kernel, rfl⟩
theorem dX2_spread_41 : gw_dc cX2_spread 41 (.iload 7) 2 43 := ⟨by decide +kernel, rfl⟩
theorem dX2_spread_43 : gw_dc cX2_spread 43 (.isub) 1 44 := ⟨by decide +kernel, rfl⟩
theorem dX2_spread_44 : gw_dc cX2_spread 44 (.istore 5) 2 46 := ⟨by decide +kernel, rfl⟩
theorem dX2_spread_46 : gw_dc cX2_spread 46 (.iinc 6 1) 3 49 := ⟨by decide +kernel, rfl⟩
theorem dX2_spread_49 : gw_dc cX2_spread 49 (.goto (-43)) 3 52 := ⟨by decide +kernel, rfl⟩
theorem dX2_findsNextWay_0 : gw_dc cX2_findsNextWay 0 (.aload_n 0) 1 1 := ⟨by decide +kernel, rfl⟩
theorem dX2_findsNextWay_1 : gw_dc cX2_findsNextWay 1 (.getfield 14) 3 4 := ⟨by decide +kernel, rfl⟩
theorem dX2_findsNextWay_4 : gw_dc cX2_findsNextWay 4 (.iload_n 1) 1 5 := ⟨by decide +kernel, rfl⟩
theorem dX2_findsNextWay_5 : gw_dc cX2_findsNextWay 5 (.iconst 1) 1 6 := ⟨by decide +kernel, rfl⟩
theorem dX2_findsNextWay_6 : gw_dc cX2_findsNextWay 6 (.isub) 1 7 := ⟨by decide +kernel, rfl⟩
theorem dX2_findsNextWay_7 : gw_dc cX2_findsNextWay 7 (.invokevirtual 43) 3 10 := ⟨by decide +kernel, rfl⟩
theorem mv_RX2_43 : gw_mv RX2 43 yX4_at := ⟨gw_mem 1221 (by decide +kernel) rfl, gw_mem 573 (by decide +kernel) rfl, gw_mem 574 (by decide +kernel) rfl⟩
theorem dX2_findsNextWay_10 : gw_dc cX2_findsNextWay 10 (.iconst 1) 1 11 := ⟨by decide +kernel, rfl⟩
theorem dX2_findsNextWay_11 : gw_dc cX2_findsNextWay 11 (.iadd) 1 12 := ⟨by decide +kernel, rfl⟩
theorem dX2_findsNextWay_12 : gw_dc cX2_findsNextWay 12 (.istore_n 2) 1 13 := ⟨by decide +kernel, rfl⟩
theorem dX2_findsNextWay_13 : gw_dc cX2_findsNextWay 13 (.iload_n 1) 1 14 := ⟨by decide +kernel, rfl⟩
theorem dX2_findsNextWay_14 : gw_dc cX2_findsNextWay 14 (.iconst 2) 1 15 := ⟨by decide +kernel, rfl⟩
theorem dX2_findsNextWay_15 : gw_dc cX2_findsNextWay 15 (.isub) 1 16 := ⟨by decide +kernel, rfl⟩
theorem dX2_findsNextWay_16 : gw_dc cX2_findsNextWay 16 (.istore_n 3) 1 17 := ⟨by decide +kernel, rfl⟩
theorem dX2_findsNextWay_17 : gw_dc cX2_findsNextWay 17 (.iload_n 3) 1 18 := ⟨by decide +kernel, rfl⟩
theorem dX2_findsNextWay_18 : gw_dc cX2_findsNextWay 18 (.ifCond .lt 67) 3 21 := ⟨by decide +kernel, rfl⟩
theorem dX2_findsNextWay_85 : gw_dc cX2_findsNextWay 85 (.iconst 0) 1 86 := ⟨by decide +kernel, rfl⟩
theorem dX2_findsNextWay_86 : decode cX2_findsNextWay 86 = .ok (.ireturn, 1) := by decide +kernel
theorem dX2_findsNextWay_21 : gw_dc cX2_findsNextWay 21 (.aload_n 0) 1 22 := ⟨by decide +kernel, rfl⟩
theorem dX2_findsNextWay_22 : gw_dc cX2_findsNextWay 22 (.getfield 14) 3 25 := ⟨by decide +kernel, rfl⟩
theorem dX2_findsNextWay_25 : gw_dc cX2_findsNextWay 25 (.iload_n 3) 1 26 := ⟨by decide +kernel, rfl⟩
theorem dX2_findsNextWay_26 : gw_dc cX2_findsNextWay 26 (.invokevirtual 43) 3 29 := ⟨by decide +kernel, rfl⟩
theorem dX2_findsNextWay_29 : gw_dc cX2_findsNextWay 29 (.iconst 1) 1 30 := ⟨by decide +kernel, rfl⟩
theorem dX2_findsNextWay_30 : gw_dc cX2_findsNextWay 30 (.isub) 1 31 := ⟨by decide +kernel, rfl⟩
theorem dX2_findsNextWay_31 : gw_dc cX2_findsNextWay 31 (.istore 4) 2 33 := ⟨by decide +kernel, rfl⟩
theorem dX2_findsNextWay_33 : gw_dc cX2_findsNextWay 33 (.iload_n 2) 1 34 := ⟨by decide +kernel, rfl⟩
theorem dX2_findsNextWay_34 : gw_dc cX2_findsNextWay 34 (.iload 4) 2 36 := ⟨by decide +kernel, rfl⟩
theorem dX2_findsNextWay_36 : gw_dc cX2_findsNextWay 36 (.iload_n 1) 1 37 := ⟨by decide +kernel, rfl⟩
theorem dX2_findsNextWay_37 : gw_dc cX2_findsNextWay 37 (.iconst 1) 1 38 := ⟨by decide +kernel, rfl⟩
theorem dX2_findsNextWay_38 : gw_dc cX2_findsNextWay 38 (.isub) 1 39 := ⟨by decide +kernel, rfl⟩
theorem dX2_findsNextWay_39 : gw_dc cX2_findsNextWay 39 (.iload_n 3) 1 40 := ⟨by decide +kernel, rfl⟩
theorem dX2_findsNextWay_40 : gw_dc cX2_findsNextWay 40 (.isub) 1 41 := ⟨by decide +kernel, rfl⟩
theorem dX2_findsNextWay_41 : gw_dc cX2_findsNextWay 41 (.imul) 1 42 := ⟨by decide +kernel, rfl⟩
theorem dX2_findsNextWay_42 : gw_dc cX2_findsNextWay 42 (.if_icmp .gt 26) 3 45 := ⟨by decide +kernel, rfl⟩
theorem dX2_findsNextWay_68 : gw_dc cX2_findsNextWay 68 (.iload_n 2) 1 69 := ⟨by decide +kernel, rfl⟩
theorem dX2_findsNextWay_69 : gw_dc cX2_findsNextWay 69 (.aload_n 0) 1 70 := ⟨by decide +kernel, rfl⟩
theorem dX2_findsNextWay_70 : gw_dc cX2_findsNextWay 70 (.getfield 14) 3 73 := ⟨by decide +kernel, rfl⟩
theorem dX2_findsNextWay_73 : gw_dc cX2_findsNextWay 73 (.iload_n 3) 1 74 := ⟨by decide +kernel, rfl⟩
theorem dX2_findsNextWay_74 : gw_dc cX2_findsNextWay 74 (.invokevirtual 43) 3 77 := ⟨by decide +kernel, rfl⟩
theorem dX2_findsNextWay_77 : gw_dc cX2_findsNextWay 77 (.iadd) 1 78 := ⟨by decide +kernel, rfl⟩
theorem dX2_findsNextWay_78 : gw_dc cX2_findsNextWay 78 (.istore_n 2) 1 79 := ⟨by decide +kernel, rfl⟩
theorem dX2_findsNextWay_79 : gw_dc cX2_findsNextWay 79 (.iinc 3 (-1)) 3 82 := ⟨by decide +kernel, rfl⟩
theorem dX2_findsNextWay_82 : gw_dc cX2_findsNextWay 82 (.goto (-65)) 3 85 := ⟨by decide +kernel, rfl⟩
theorem dX2_findsNextWay_45 : gw_dc cX2_findsNextWay 45 (.aload_n 0) 1 46 := ⟨by decide +kernel, rfl⟩
theorem dX2_findsNextWay_46 : gw_dc cX2_findsNextWay 46 (.getfield 14) 3 49 := ⟨by decide +kernel, rfl⟩
theorem dX2_findsNextWay_49 : gw_dc cX2_findsNextWay 49 (.iload_n 3) 1 50 := ⟨by decide +kernel, rfl⟩
theorem dX2_findsNextWay_50 : gw_dc cX2_findsNextWay 50 (.iload 4) 2 52 := ⟨by decide +kernel, rfl⟩
theorem dX2_findsNextWay_52 : gw_dc cX2_findsNextWay 52 (.invokevirtual 60) 3 55 := ⟨by decide +kernel, rfl⟩
theorem dX2_findsNextWay_55 : gw_dc cX2_findsNextWay 55 (.aload_n 0) 1 56 := ⟨by decide +kernel, rfl⟩
theorem dX2_findsNextWay_56 : gw_dc cX2_findsNextWay 56 (.iload_n 3) 1 57 := ⟨by decide +kernel, rfl⟩
theorem dX2_findsNextWay_57 : gw_dc cX2_findsNextWay 57 (.iconst 1) 1 58 := ⟨by decide +kernel, rfl⟩
theorem dX2_findsNextWay_58 : gw_dc cX2_findsNextWay 58 (.iadd) 1 59 := ⟨by decide +kernel, rfl⟩
theorem dX2_findsNextWay_59 : gw_dc cX2_findsNextWay 59 (.iload_n 1) 1 60 := ⟨by decide +kernel, rfl⟩
theorem dX2_findsNextWay_60 : gw_dc cX2_findsNextWay 60 (.iload_n 2) 1 61 := ⟨by decide +kernel, rfl⟩
theorem dX2_findsNextWay_61 : gw_dc cX2_findsNextWay 61 (.iload 4) 2 63 := ⟨by decide +kernel, rfl⟩
theorem dX2_findsNextWay_63 : gw_dc cX2_findsNextWay 63 (.invokevirtual 106) 3 66 := ⟨by decide +kernel, rfl⟩
theorem mv_RX2_106 : gw_mv RX2 106 yX2_spread := ⟨gw_mem 1242 (by decide +kernel) rfl, gw_mem 1244 (by decide +kernel) rfl, gw_mem 30 (by decide +kernel) rfl⟩
theorem my_X2_spread : gw_my yX2_spread cX2_spread 8 none 4 := ⟨gw_mem 1245 (by decide +kernel) rfl, gw_mem 103 (by decide +kernel) rfl, by decide +kernel, by decide⟩
theorem dX2_findsNextWay_66 : gw_dc cX2_findsNextWay 66 (.iconst 1) 1 67 := ⟨by decide +kernel, rfl⟩
theorem dX2_findsNextWay_67 : decode cX2_findsNextWay 67 = .ok (.ireturn, 1) := by decide +kernel
theorem dX2_weigh_0 : gw_dc cX2_weigh 0 (.aload_n 0) 1 1 := ⟨by decide +kernel, rfl⟩
theorem dX2_weigh_1 : gw_dc cX2_weigh 1 (.getfield 30) 3 4 := ⟨by decide +kernel, rfl⟩
theorem fk_RX2_30 : gw_fk RX2 30 2 1 8 1 true := ⟨_, _, _, ck_2, by decide, by decide, fun h => absurd h (by decide), fun h => absurd h (by decide), fun _ => Or.inl ⟨_, rfl⟩, rfl, Or.inl (gw_mem 406 (by decide +kernel) rfl)⟩
theorem rf_121_1 {ad : Nat → Nat} : (gw_M0 ad).2.2 121 1 = some 96 := (by decide +kernel : gw_rh 121 1 = some 96)
theorem in_96 : (96, 74) ∈ gw_runs := by decide +kernel
theorem dX2_weigh_4 : gw_dc cX2_weigh 4 (.iload_n 1) 1 5 := ⟨by decide +kernel, rfl⟩
theorem dX2_weigh_5 : gw_dc cX2_weigh 5 (.invokevirtual 84) 3 8 := ⟨by decide +kernel, rfl⟩
theorem mv_RX2_84 : gw_mv RX2 84 yX5_waitOf := ⟨gw_mem 1236 (by decide +kernel) rfl, gw_mem 650 (by decide +kernel) rfl, gw_mem 651 (by decide +kernel) rfl⟩
theorem dX2_weigh_8 : gw_dc cX2_weigh 8 (.istore_n 3) 1 9 := ⟨by decide +kernel, rfl⟩
theorem dX2_weigh_9 : gw_dc cX2_weigh 9 (.aload_n 0) 1 10 := ⟨by decide +kernel, rfl⟩
theorem dX2_weigh_10 : gw_dc cX2_weigh 10 (.getfield 26) 3 13 := ⟨by decide +kernel, rfl⟩
theorem fk_RX2_26 : gw_fk RX2 26 2 0 8 1 true := ⟨_, _, _, ck_2, by decide, by decide, fun h => absurd h (by decide), fun h => absurd h (by decide), fun _ => Or.inl ⟨_, rfl⟩, rfl, Or.inl (gw_mem 405 (by decide +kernel) rfl)⟩
theorem rf_121_0 {ad : Nat → Nat} : (gw_M0 ad).2.2 121 0 = some 74 := (by decide +kernel : gw_rh 121 0 = some 74)
theorem in_74 : 74 ∈ gw_mills := by decide +kernel
theorem dX2_weigh_13 : gw_dc cX2_weigh 13 (.getfield 87) 3 16 := ⟨by decide +kernel, rfl⟩
theorem fk_RX2_87 : gw_fk RX2 87 1 12 16 1 true := ⟨_, _, _, ck_1, by decide, by decide, fun h => absurd h (by decide), fun h => absurd h (by decide), fun _ => Or.inl ⟨_, rfl⟩, rfl, Or.inr ⟨"LightestSack", gw_memN 273 (by decide +kernel) rfl⟩⟩
theorem dX2_weigh_16 : gw_dc cX2_weigh 16 (.iload_n 1) 1 17 := ⟨by decide +kernel, rfl⟩
theorem dX2_weigh_17 : gw_dc cX2_weigh 17 (.invokevirtual 43) 3 20 := ⟨by decide +kernel, rfl⟩
theorem dX2_weigh_20 : gw_dc cX2_weigh 20 (.iload_n 3) 1 21 := ⟨by decide +kernel, rfl⟩
theorem dX2_weigh_21 : gw_dc cX2_weigh 21 (.imul) 1 22 := ⟨by decide +kernel, rfl⟩
theorem dX2_weigh_22 : gw_dc cX2_weigh 22 (.aload_n 0) 1 23 := ⟨by decide +kernel, rfl⟩
theorem dX2_weigh_23 : gw_dc cX2_weigh 23 (.getfield 26) 3 26 := ⟨by decide +kernel, rfl⟩
theorem dX2_weigh_26 : gw_dc cX2_weigh 26 (.getfield 90) 3 29 := ⟨by decide +kernel, rfl⟩
theorem fk_RX2_90 : gw_fk RX2 90 1 4 16 0 false := ⟨_, _, _, ck_1, by decide, by decide, fun _ => rfl, fun h => absurd h (by decide), fun h => absurd h (by decide), rfl, Or.inr ⟨"LightestSack", gw_memN 246 (by decide +kernel) rfl⟩⟩
theorem dX2_weigh_29 : gw_dc cX2_weigh 29 (.iload_n 2) 1 30 := ⟨by decide +kernel, rfl⟩
theorem dX2_weigh_30 : gw_dc cX2_weigh 30 (.imul) 1 31 := ⟨by decide +kernel, rfl⟩
theorem dX2_weigh_31 : gw_dc cX2_weigh 31 (.iadd) 1 32 := ⟨by decide +kernel, rfl⟩
theorem dX2_weigh_32 : gw_dc cX2_weigh 32 (.istore 4) 2 34 := ⟨by decide +kernel, rfl⟩
theorem dX2_weigh_34 : gw_dc cX2_weigh 34 (.aload_n 0) 1 35 := ⟨by decide +kernel, rfl⟩
theorem dX2_weigh_35 : gw_dc cX2_weigh 35 (.getfield 23) 3 38 := ⟨by decide +kernel, rfl⟩
theorem fk_RX2_23 : gw_fk RX2 23 2 4 8 1 true := ⟨_, _, _, ck_2, by decide, by decide, fun h => absurd h (by decide), fun h => absurd h (by decide), fun _ => Or.inl ⟨_, rfl⟩, rfl, Or.inl (gw_mem 410 (by decide +kernel) rfl)⟩
theorem rf_121_4 {ad : Nat → Nat} : (gw_M0 ad).2.2 121 4 = some 126 := (by decide +kernel : gw_rh 121 4 = some 126)
theorem in_126 : (126, 9) ∈ gw_rows := by decide +kernel
theorem dX2_weigh_38 : gw_dc cX2_weigh 38 (.iload_n 2) 1 39 := ⟨by decide +kernel, rfl⟩
theorem dX2_weigh_39 : gw_dc cX2_weigh 39 (.aload_n 0) 1 40 := ⟨by decide +kernel, rfl⟩
theorem dX2_weigh_40 : gw_dc cX2_weigh 40 (.getfield 23) 3 43 := ⟨by decide +kernel, rfl⟩
theorem dX2_weigh_43 : gw_dc cX2_weigh 43 (.iload_n 2) 1 44 := ⟨by decide +kernel, rfl⟩
theorem dX2_weigh_44 : gw_dc cX2_weigh 44 (.invokevirtual 43) 3 47 := ⟨by decide +kernel, rfl⟩
theorem dX2_weigh_47 : gw_dc cX2_weigh 47 (.iload_n 3) 1 48 := ⟨by decide +kernel, rfl⟩
theorem dX2_weigh_48 : gw_dc cX2_weigh 48 (.invokestatic 46) 3 51 := ⟨by decide +kernel, rfl⟩
theorem dX2_weigh_51 : gw_dc cX2_weigh 51 (.invokevirtual 60) 3 54 := ⟨by decide +kernel, rfl⟩
theorem dX2_weigh_54 : gw_dc cX2_weigh 54 (.aload_n 0) 1 55 := ⟨by decide +kernel, rfl⟩
theorem dX2_weigh_55 : gw_dc cX2_weigh 55 (.getfield 56) 3 58 := ⟨by decide +kernel, rfl⟩
theorem fk_RX2_56 : gw_fk RX2 56 2 6 8 0 false := ⟨_, _, _, ck_2, by decide, by decide, fun _ => rfl, fun h => absurd h (by decide), fun h => absurd h (by decide), rfl, Or.inl (gw_mem 413 (by decide +kernel) rfl)⟩
theorem dX2_weigh_58 : gw_dc cX2_weigh 58 (.ifCond .eq 12) 3 61 := ⟨by decide +kernel, rfl⟩
theorem dX2_weigh_70 : gw_dc cX2_weigh 70 (.aload_n 0) 1 71 := ⟨by decide +kernel, rfl⟩
theorem dX2_weigh_71 : gw_dc cX2_weigh 71 (.iload 4) 2 73 := ⟨by decide +kernel, rfl⟩
theorem dX2_weigh_73 : gw_dc cX2_weigh 73 (.putfield 93) 3 76 := ⟨by decide +kernel, rfl⟩
theorem fk_RX2_93 : gw_fk RX2 93 2 5 8 0 false := ⟨_, _, _, ck_2, by decide, by decide, fun _ => rfl, fun h => absurd h (by decide), fun h => absurd h (by decide), rfl, Or.inl (gw_mem 411 (by decide +kernel) rfl)⟩
theorem dX2_weigh_76 : gw_dc cX2_weigh 76 (.aload_n 0) 1 77 := ⟨by decide +kernel, rfl⟩
theorem dX2_weigh_77 : gw_dc cX2_weigh 77 (.iload_n 2) 1 78 := ⟨by decide +kernel, rfl⟩
theorem dX2_weigh_78 : gw_dc cX2_weigh 78 (.putfield 56) 3 81 := ⟨by decide +kernel, rfl⟩
theorem dX2_weigh_81 : gw_dc cX2_weigh 81 (.aload_n 0) 1 82 := ⟨by decide +kernel, rfl⟩
theorem dX2_weigh_82 : gw_dc cX2_weigh 82 (.getfield 20) 3 85 := ⟨by decide +kernel, rfl⟩
theorem fk_RX2_20 : gw_fk RX2 20 2 3 8 1 true := ⟨_, _, _, ck_2, by decide, by decide, fun h => absurd h (by decide), fun h => absurd h (by decide), fun _ => Or.inl ⟨_, rfl⟩, rfl, Or.inl (gw_mem 408 (by decide +kernel) rfl)⟩
theorem rf_121_3 {ad : Nat → Nat} : (gw_M0 ad).2.2 121 3 = some 124 := (by decide +kernel : gw_rh 121 3 = some 124)
theorem in_124 : (124, 8) ∈ gw_rows := by decide +kernel
theorem dX2_weigh_85 : gw_dc cX2_weigh 85 (.aload_n 0) 1 86 := ⟨by decide +kernel, rfl⟩
theorem dX2_weigh_86 : gw_dc cX2_weigh 86 (.getfield 14) 3 89 := ⟨by decide +kernel, rfl⟩
theorem dX2_weigh_89 : gw_dc cX2_weigh 89 (.invokevirtual 96) 3 92 := ⟨by decide +kernel, rfl⟩
theorem mv_RX2_96 : gw_mv RX2 96 yX4_copyOf := ⟨gw_mem 1237 (by decide +kernel) rfl, gw_mem 699 (by decide +kernel) rfl, gw_mem 700 (by decide +kernel) rfl⟩
theorem dX2_weigh_92 : decode cX2_weigh 92 = .ok (.return_, 1) := by decide +kernel
theorem dX2_weigh_61 : gw_dc cX2_weigh 61 (.iload 4) 2 63 := ⟨by decide +kernel, rfl⟩
theorem dX2_weigh_63 : gw_dc cX2_weigh 63 (.aload_n 0) 1 64 := ⟨by decide +kernel, rfl⟩
theorem dX2_weigh_64 : gw_dc cX2_weigh 64 (.getfield 93) 3 67 := ⟨by decide +kernel, rfl⟩
theorem dX2_weigh_67 : gw_dc cX2_weigh 67 (.if_icmp .ge 25) 3 70 := ⟨by decide +kernel, rfl⟩
theorem dX2_dividedUp_0 : gw_dc cX2_dividedUp 0 (.iload_n 1) 1 1 := ⟨by decide +kernel, rfl⟩
theorem dX2_dividedUp_1 : gw_dc cX2_dividedUp 1 (.ifCond .le 17) 3 4 := ⟨by decide +kernel, rfl⟩
theorem dX2_dividedUp_18 : gw_dc cX2_dividedUp 18 (.iconst 0) 1 19 := ⟨by decide +kernel, rfl⟩
theorem dX2_dividedUp_19 : decode cX2_dividedUp 19 = .ok (.ireturn, 1) := by decide +kernel
theorem dX2_dividedUp_4 : gw_dc cX2_dividedUp 4 (.iload_n 0) 1 5 := ⟨by decide +kernel, rfl⟩
theorem dX2_dividedUp_5 : gw_dc cX2_dividedUp 5 (.ifCond .le 13) 3 8 := ⟨by decide +kernel, rfl⟩
theorem dX2_dividedUp_8 : gw_dc cX2_dividedUp 8 (.iload_n 0) 1 9 := ⟨by decide +kernel, rfl⟩
theorem dX2_dividedUp_9 : gw_dc cX2_dividedUp 9 (.iload_n 1) 1 10 := ⟨by decide +kernel, rfl⟩
theorem dX2_dividedUp_10 : gw_dc cX2_dividedUp 10 (.iadd) 1 11 := ⟨by decide +kernel, rfl⟩
theorem dX2_dividedUp_11 : gw_dc cX2_dividedUp 11 (.iconst 1) 1 12 := ⟨by decide +kernel, rfl⟩
theorem dX2_dividedUp_12 : gw_dc cX2_dividedUp 12 (.isub) 1 13 := ⟨by decide +kernel, rfl⟩
theorem dX2_dividedUp_13 : gw_dc cX2_dividedUp 13 (.iload_n 1) 1 14 := ⟨by decide +kernel, rfl⟩
theorem dX2_dividedUp_14 : gw_dc cX2_dividedUp 14 (.idiv) 1 15 := ⟨by decide +kernel, rfl⟩
theorem dX2_dividedUp_15 : gw_dc cX2_dividedUp 15 (.goto 4) 3 18 := ⟨by decide +kernel, rfl⟩
theorem dX2_feeAgainst_0 : gw_dc cX2_feeAgainst 0 (.iconst 0) 1 1 := ⟨by decide +kernel, rfl⟩
theorem dX2_feeAgainst_1 : gw_dc cX2_feeAgainst 1 (.istore_n 2) 1 2 := ⟨by decide +kernel, rfl⟩
theorem dX2_feeAgainst_2 : gw_dc cX2_feeAgainst 2 (.iconst 2) 1 3 := ⟨by decide +kernel, rfl⟩
theorem dX2_feeAgainst_3 : gw_dc cX2_feeAgainst 3 (.istore_n 3) 1 4 := ⟨by decide +kernel, rfl⟩
theorem dX2_feeAgainst_4 : gw_dc cX2_feeAgainst 4 (.iload_n 3) 1 5 := ⟨by decide +kernel, rfl⟩
theorem dX2_feeAgainst_5 : gw_dc cX2_feeAgainst 5 (.aload_n 0) 1 6 := ⟨by decide +kernel, rfl⟩
theorem dX2_feeAgainst_6 : gw_dc cX2_feeAgainst 6 (.getfield 52) 3 9 := ⟨by decide +kernel, rfl⟩
theorem fk_RX2_52 : gw_fk RX2 52 2 7 8 0 false := ⟨_, _, _, ck_2, by decide, by decide, fun _ => rfl, fun h => absurd h (by decide), fun h => absurd h (by decide), rfl, Or.inl (gw_mem 415 (by decide +kernel) rfl)⟩
theorem dX2_feeAgainst_9 : gw_dc cX2_feeAgainst 9 (.if_icmp .gt 53) 3 12 := ⟨by decide +kernel, rfl⟩
theorem dX2_feeAgainst_62 : gw_dc cX2_feeAgainst 62 (.iload_n 2) 1 63 := ⟨by decide +kernel, rfl⟩
theorem dX2_feeAgainst_63 : decode cX2_feeAgainst 63 = .ok (.ireturn, 1) := by decide +kernel
theorem dX2_feeAgainst_12 : gw_dc cX2_feeAgainst 12 (.aload_n 0) 1 13 := ⟨by decide +kernel, rfl⟩
theorem dX2_feeAgainst_13 : gw_dc cX2_feeAgainst 13 (.getfield 26) 3 16 := ⟨by decide +kernel, rfl⟩
theorem dX2_feeAgainst_16 : gw_dc cX2_feeAgainst 16 (.getfield 87) 3 19 := ⟨by decide +kernel, rfl⟩
theorem dX2_feeAgainst_19 : gw_dc cX2_feeAgainst 19 (.iload_n 1) 1 20 := ⟨by decide +kernel, rfl⟩
theorem dX2_feeAgainst_20 : gw_dc cX2_feeAgainst 20 (.invokevirtual 43) 3 23 := ⟨by decide +kernel, rfl⟩
theorem dX2_feeAgainst_23 : gw_dc cX2_feeAgainst 23 (.aload_n 0) 1 24 := ⟨by decide +kernel, rfl⟩
theorem dX2_feeAgainst_24 : gw_dc cX2_feeAgainst 24 (.getfield 23) 3 27 := ⟨by decide +kernel, rfl⟩
theorem dX2_feeAgainst_27 : gw_dc cX2_feeAgainst 27 (.iconst 1) 1 28 := ⟨by decide +kernel, rfl⟩
theorem dX2_feeAgainst_28 : gw_dc cX2_feeAgainst 28 (.invokevirtual 43) 3 31 := ⟨by decide +kernel, rfl⟩
theorem dX2_feeAgainst_31 : gw_dc cX2_feeAgainst 31 (.aload_n 0) 1 32 := ⟨by decide +kernel, rfl⟩
theorem dX2_feeAgainst_32 : gw_dc cX2_feeAgainst 32 (.getfield 23) 3 35 := ⟨by decide +kernel, rfl⟩
theorem dX2_feeAgainst_35 : gw_dc cX2_feeAgainst 35 (.iload_n 3) 1 36 := ⟨by decide +kernel, rfl⟩
theorem dX2_feeAgainst_36 : gw_dc cX2_feeAgainst 36 (.invokevirtual 43) 3 39 := ⟨by decide +kernel, rfl⟩
theorem dX2_feeAgainst_39 : gw_dc cX2_feeAgainst 39 (.isub) 1 40 := ⟨by decide +kernel, rfl⟩
theorem dX2_feeAgainst_40 : gw_dc cX2_feeAgainst 40 (.imul) 1 41 := ⟨by decide +kernel, rfl⟩
theorem dX2_feeAgainst_41 : gw_dc cX2_feeAgainst 41 (.istore 4) 2 43 := ⟨by decide +kernel, rfl⟩
theorem dX2_feeAgainst_43 : gw_dc cX2_feeAgainst 43 (.iload_n 2) 1 44 := ⟨by decide +kernel, rfl⟩
theorem dX2_feeAgainst_44 : gw_dc cX2_feeAgainst 44 (.iload 4) 2 46 := ⟨by decide +kernel, rfl⟩
theorem dX2_feeAgainst_46 : gw_dc cX2_feeAgainst 46 (.iload_n 3) 1 47 := ⟨by decide +kernel, rfl⟩
theorem dX2_feeAgainst_47 : gw_dc cX2_feeAgainst 47 (.iconst 1) 1 48 := ⟨by decide +kernel, rfl⟩
theorem dX2_feeAgainst_48 : gw_dc cX2_feeAgainst 48 (.isub) 1 49 := ⟨by decide +kernel, rfl⟩
theorem dX2_feeAgainst_49 : gw_dc cX2_feeAgainst 49 (.invokestatic 100) 3 52 := ⟨by decide +kernel, rfl⟩
theorem ms_RX2_100 : gw_mst RX2 100 yX2_dividedUp := ⟨gw_mem 1268 (by decide +kernel) rfl, gw_mem 1269 (by decide +kernel) rfl⟩
theorem my_X2_dividedUp : gw_my yX2_dividedUp cX2_dividedUp 2 (some .int) 2 := ⟨gw_mem 1270 (by decide +kernel) rfl, gw_mem 103 (by decide +kernel) rfl, by decide +kernel, by decide⟩
theorem dX2_feeAgainst_52 : gw_dc cX2_feeAgainst 52 (.invokestatic 103) 3 55 := ⟨by decide +kernel, rfl⟩
theorem mm_RX2_103 : gw_mm RX2 103 Lib.Math.max.name Lib.Math.max.code := ⟨gw_mem 1271 (by decide +kernel) rfl, gw_mem 619 (by decide +kernel) rfl, gw_mem 116 (by decide +kernel) rfl, gw_mem 620 (by decide +kernel) rfl⟩
theorem dX2_feeAgainst_55 : gw_dc cX2_feeAgainst 55 (.istore_n 2) 1 56 := ⟨by decide +kernel, rfl⟩
theorem dX2_feeAgainst_56 : gw_dc cX2_feeAgainst 56 (.iinc 3 1) 3 59 := ⟨by decide +kernel, rfl⟩
theorem dX2_feeAgainst_59 : gw_dc cX2_feeAgainst 59 (.goto (-55)) 3 62 := ⟨by decide +kernel, rfl⟩
theorem dX2_seek_0 : gw_dc cX2_seek 0 (.bipush 60) 2 2 := ⟨by decide +kernel, rfl⟩
theorem dX2_seek_2 : gw_dc cX2_seek 2 (.aload_n 0) 1 3 := ⟨by decide +kernel, rfl⟩
theorem dX2_seek_3 : gw_dc cX2_seek 3 (.getfield 26) 3 6 := ⟨by decide +kernel, rfl⟩
theorem dX2_seek_6 : gw_dc cX2_seek 6 (.iload_n 1) 1 7 := ⟨by decide +kernel, rfl⟩
theorem dX2_seek_7 : gw_dc cX2_seek 7 (.invokevirtual 34) 3 10 := ⟨by decide +kernel, rfl⟩
theorem mv_RX2_34 : gw_mv RX2 34 yX1_piecesBeside := ⟨gw_mem 1220 (by decide +kernel) rfl, gw_mem 1084 (by decide +kernel) rfl, gw_mem 1085 (by decide +kernel) rfl⟩
theorem my_X1_piecesBeside : gw_my yX1_piecesBeside cX1_piecesBeside 2 (some .int) 1 := ⟨gw_mem 1086 (by decide +kernel) rfl, gw_mem 98 (by decide +kernel) rfl, by decide +kernel, by decide⟩
theorem dX2_seek_10 : gw_dc cX2_seek 10 (.isub) 1 11 := ⟨by decide +kernel, rfl⟩
theorem dX2_seek_11 : gw_dc cX2_seek 11 (.istore_n 3) 1 12 := ⟨by decide +kernel, rfl⟩
theorem dX2_seek_12 : gw_dc cX2_seek 12 (.aload_n 0) 1 13 := ⟨by decide +kernel, rfl⟩
theorem dX2_seek_13 : gw_dc cX2_seek 13 (.iload_n 2) 1 14 := ⟨by decide +kernel, rfl⟩
theorem dX2_seek_14 : gw_dc cX2_seek 14 (.aload_n 0) 1 15 := ⟨by decide +kernel, rfl⟩
theorem dX2_seek_15 : gw_dc cX2_seek 15 (.getfield 26) 3 18 := ⟨by decide +kernel, rfl⟩
theorem dX2_seek_18 : gw_dc cX2_seek 18 (.getfield 40) 3 21 := ⟨by decide +kernel, rfl⟩
theorem fk_RX2_40 : gw_fk RX2 40 1 8 16 1 true := ⟨_, _, _, ck_1, by decide, by decide, fun h => absurd h (by decide), fun h => absurd h (by decide), fun _ => Or.inl ⟨_, rfl⟩, rfl, Or.inr ⟨"LightestSack", gw_memN 259 (by decide +kernel) rfl⟩⟩
theorem dX2_seek_21 : gw_dc cX2_seek 21 (.iload_n 1) 1 22 := ⟨by decide +kernel, rfl⟩
theorem dX2_seek_22 : gw_dc cX2_seek 22 (.invokevirtual 43) 3 25 := ⟨by decide +kernel, rfl⟩
theorem dX2_seek_25 : gw_dc cX2_seek 25 (.iload_n 3) 1 26 := ⟨by decide +kernel, rfl⟩
theorem dX2_seek_26 : gw_dc cX2_seek 26 (.invokestatic 46) 3 29 := ⟨by decide +kernel, rfl⟩
theorem dX2_seek_29 : gw_dc cX2_seek 29 (.invokestatic 46) 3 32 := ⟨by decide +kernel, rfl⟩
theorem dX2_seek_32 : gw_dc cX2_seek 32 (.putfield 52) 3 35 := ⟨by decide +kernel, rfl⟩
theorem dX2_seek_35 : gw_dc cX2_seek 35 (.aload_n 0) 1 36 := ⟨by decide +kernel, rfl⟩
theorem dX2_seek_36 : gw_dc cX2_seek 36 (.iconst 0) 1 37 := ⟨by decide +kernel, rfl⟩
theorem dX2_seek_37 : gw_dc cX2_seek 37 (.putfield 56) 3 40 := ⟨by decide +kernel, rfl⟩
theorem dX2_seek_40 : gw_dc cX2_seek 40 (.iconst 1) 1 41 := ⟨by decide +kernel, rfl⟩
theorem dX2_seek_41 : gw_dc cX2_seek 41 (.istore 4) 2 43 := ⟨by decide +kernel, rfl⟩
theorem dX2_seek_43 : gw_dc cX2_seek 43 (.iload 4) 2 45 := ⟨by decide +kernel, rfl⟩
theorem dX2_seek_45 : gw_dc cX2_seek 45 (.aload_n 0) 1 46 := ⟨by decide +kernel, rfl⟩
theorem dX2_seek_46 : gw_dc cX2_seek 46 (.getfield 52) 3 49 := ⟨by decide +kernel, rfl⟩
theorem dX2_seek_49 : gw_dc cX2_seek 49 (.if_icmp .gt 97) 3 52 := ⟨by decide +kernel, rfl⟩
theorem dX2_seek_146 : decode cX2_seek 146 = .ok (.return_, 1) := by decide +kernel
theorem dX2_seek_52 : gw_dc cX2_seek 52 (.aload_n 0) 1 53 := ⟨by decide +kernel, rfl⟩
theorem dX2_seek_53 : gw_dc cX2_seek 53 (.getfield 23) 3 56 := ⟨by decide +kernel, rfl⟩
theorem dX2_seek_56 : gw_dc cX2_seek 56 (.iload 4) 2 58 := ⟨by decide +kernel, rfl⟩
theorem dX2_seek_58 : gw_dc cX2_seek 58 (.ldc 59) 2 60 := ⟨by decide +kernel, rfl⟩
theorem kc_RX2_59 : Cond.constant RX2 59 (Int32.ofInt 1000000000) ∈ wsG := gw_mem 1223 (by decide +kernel) rfl
theorem dX2_seek_60 : gw_dc cX2_seek 60 (.invokevirtual 60) 3 63 := ⟨by decide +kernel, rfl⟩
theorem dX2_seek_63 : gw_dc cX2_seek 63 (.iconst 1) 1 64 := ⟨by decide +kernel, rfl⟩
theorem dX2_seek_64 : gw_dc cX2_seek 64 (.istore 5) 2 66 := ⟨by decide +kernel, rfl⟩
theorem dX2_seek_66 : gw_dc cX2_seek 66 (.aload_n 0) 1 67 := ⟨by decide +kernel, rfl⟩
theorem dX2_seek_67 : gw_dc cX2_seek 67 (.aload_n 0) 1 68 := ⟨by decide +kernel, rfl⟩
theorem dX2_seek_68 : gw_dc cX2_seek 68 (.getfield 26) 3 71 := ⟨by decide +kernel, rfl⟩
theorem dX2_seek_71 : gw_dc cX2_seek 71 (.getfield 40) 3 74 := ⟨by decide +kernel, rfl⟩
theorem dX2_seek_74 : gw_dc cX2_seek 74 (.iload_n 1) 1 75 := ⟨by decide +kernel, rfl⟩
theorem dX2_seek_75 : gw_dc cX2_seek 75 (.invokevirtual 43) 3 78 := ⟨by decide +kernel, rfl⟩
theorem dX2_seek_78 : gw_dc cX2_seek 78 (.iload 4) 2 80 := ⟨by decide +kernel, rfl⟩
theorem dX2_seek_80 : gw_dc cX2_seek 80 (.invokevirtual 64) 3 83 := ⟨by decide +kernel, rfl⟩
theorem mv_RX2_64 : gw_mv RX2 64 yX2_startWays := ⟨gw_mem 1225 (by decide +kernel) rfl, gw_mem 1227 (by decide +kernel) rfl, gw_mem 27 (by decide +kernel) rfl⟩
theorem my_X2_startWays : gw_my yX2_startWays cX2_startWays 4 none 2 := ⟨gw_mem 1228 (by decide +kernel) rfl, gw_mem 103 (by decide +kernel) rfl, by decide +kernel, by decide⟩
theorem dX2_seek_83 : gw_dc cX2_seek 83 (.iconst 0) 1 84 := ⟨by decide +kernel, rfl⟩
theorem dX2_seek_84 : gw_dc cX2_seek 84 (.istore 6) 2 86 := ⟨by decide +kernel, rfl⟩
theorem dX2_seek_86 : gw_dc cX2_seek 86 (.iload 6) 2 88 := ⟨by decide +kernel, rfl⟩
theorem dX2_seek_88 : gw_dc cX2_seek 88 (.ldc 67) 2 90 := ⟨by decide +kernel, rfl⟩
theorem kc_RX2_67 : Cond.constant RX2 67 (Int32.ofInt 1000000) ∈ wsG := gw_mem 1229 (by decide +kernel) rfl
theorem dX2_seek_90 : gw_dc cX2_seek 90 (.if_icmp .ge 50) 3 93 := ⟨by decide +kernel, rfl⟩
theorem dX2_seek_140 : gw_dc cX2_seek 140 (.iinc 4 1) 3 143 := ⟨by decide +kernel, rfl⟩
theorem dX2_seek_143 : gw_dc cX2_seek 143 (.goto (-100)) 3 146 := ⟨by decide +kernel, rfl⟩
theorem dX2_seek_93 : gw_dc cX2_seek 93 (.iload 5) 2 95 := ⟨by decide +kernel, rfl⟩
theorem dX2_seek_95 : gw_dc cX2_seek 95 (.ifCond .eq 45) 3 98 := ⟨by decide +kernel, rfl⟩
theorem dX2_seek_98 : gw_dc cX2_seek 98 (.aload_n 0) 1 99 := ⟨by decide +kernel, rfl⟩
theorem dX2_seek_99 : gw_dc cX2_seek 99 (.getfield 26) 3 102 := ⟨by decide +kernel, rfl⟩
theorem dX2_seek_102 : gw_dc cX2_seek 102 (.iload_n 1) 1 103 := ⟨by decide +kernel, rfl⟩
theorem dX2_seek_103 : gw_dc cX2_seek 103 (.aload_n 0) 1 104 := ⟨by decide +kernel, rfl⟩
theorem dX2_seek_104 : gw_dc cX2_seek 104 (.getfield 14) 3 107 := ⟨by decide +kernel, rfl⟩
theorem dX2_seek_107 : gw_dc cX2_seek 107 (.iload 4) 2 109 := ⟨by decide +kernel, rfl⟩
theorem dX2_seek_109 : gw_dc cX2_seek 109 (.invokevirtual 68) 3 112 := ⟨by decide +kernel, rfl⟩
theorem mv_RX2_68 : gw_mv RX2 68 yX1_setWay := ⟨gw_mem 1230 (by decide +kernel) rfl, gw_mem 1091 (by decide +kernel) rfl, gw_mem 1092 (by decide +kernel) rfl⟩
theorem my_X1_setWay : gw_my yX1_setWay cX1_setWay 5 none 3 := ⟨gw_mem 1093 (by decide +kernel) rfl, gw_mem 98 (by decide +kernel) rfl, by decide +kernel, by decide⟩
theorem dX2_seek_112 : gw_dc cX2_seek 112 (.aload_n 0) 1 113 := ⟨by decide +kernel, rfl⟩
theorem dX2_seek_113 : gw_dc cX2_seek 113 (.getfield 30) 3 116 := ⟨by decide +kernel, rfl⟩
theorem dX2_seek_116 : gw_dc cX2_seek 116 (.invokevirtual 72) 3 119 := ⟨by decide +kernel, rfl⟩
theorem mv_RX2_72 : gw_mv RX2 72 yX5_go := ⟨gw_mem 1231 (by decide +kernel) rfl, gw_mem 585 (by decide +kernel) rfl, gw_mem 586 (by decide +kernel) rfl⟩
theorem my_X5_go : gw_my yX5_go cX5_go 5 none 0 := ⟨gw_mem 587 (by decide +kernel) rfl, gw_mem 101 (by decide +kernel) rfl, by decide +kernel, by decide⟩
theorem dX2_seek_119 : gw_dc cX2_seek 119 (.aload_n 0) 1 120 := ⟨by decide +kernel, rfl⟩
theorem dX2_seek_120 : gw_dc cX2_seek 120 (.iload_n 1) 1 121 := ⟨by decide +kernel, rfl⟩
theorem dX2_seek_121 : gw_dc cX2_seek 121 (.iload 4) 2 123 := ⟨by decide +kernel, rfl⟩
theorem dX2_seek_123 : gw_dc cX2_seek 123 (.invokevirtual 77) 3 126 := ⟨by decide +kernel, rfl⟩
theorem mv_RX2_77 : gw_mv RX2 77 yX2_weigh := ⟨gw_mem 1232 (by decide +kernel) rfl, gw_mem 1234 (by decide +kernel) rfl, gw_mem 28 (by decide +kernel) rfl⟩
theorem my_X2_weigh : gw_my yX2_weigh cX2_weigh 5 none 2 := ⟨gw_mem 1235 (by decide +kernel) rfl, gw_mem 103 (by decide +kernel) rfl, by decide +kernel, by decide⟩
theorem dX2_seek_126 : gw_dc cX2_seek 126 (.aload_n 0) 1 127 := ⟨by decide +kernel, rfl⟩
theorem dX2_seek_127 : gw_dc cX2_seek 127 (.iload 4) 2 129 := ⟨by decide +kernel, rfl⟩
theorem dX2_seek_129 : gw_dc cX2_seek 129 (.invokevirtual 80) 3 132 := ⟨by decide +kernel, rfl⟩
theorem mv_RX2_80 : gw_mv RX2 80 yX2_findsNextWay := ⟨gw_mem 1238 (by decide +kernel) rfl, gw_mem 1240 (by decide +kernel) rfl, gw_mem 29 (by decide +kernel) rfl⟩
theorem my_X2_findsNextWay : gw_my yX2_findsNextWay cX2_findsNextWay 5 (some .boolean) 1 := ⟨gw_mem 1241 (by decide +kernel) rfl, gw_mem 103 (by decide +kernel) rfl, by decide +kernel, by decide⟩
theorem dX2_seek_132 : gw_dc cX2_seek 132 (.istore 5) 2 134 := ⟨by decide +kernel, rfl⟩
theorem dX2_seek_134 : gw_dc cX2_seek 134 (.iinc 6 1) 3 137 := ⟨by decide +kernel, rfl⟩
theorem dX2_seek_137 : gw_dc cX2_seek 137 (.goto (-51)) 3 140 := ⟨by decide +kernel, rfl⟩
/-! Partings (121: 123 way, 125 chosen, 127 leastWaits, its fields 5 price, 6 parts, 7 most), over the mill 74 and the run 96 -/
def stS (i : Nat) (σ : Sg) : Sg := rPut σ 123 8 ((i : Nat) + 1) 1
def stF (σ : Sg) (pounds k : Int) : Sg := itr (k - 1).toNat stS (rPut σ 123 8 0 (wr (wr (pounds - k) + 1)))
def spH (k heaviest f left : Int) (i : Nat) : Int := min heaviest (wr (left - wr (wr (k - 1) - (f + (i : Nat)))))
def spT (k heaviest f : Int) (i : Nat) (x : Int × Sg) : Int × Sg := (wr (x.1 - spH k heaviest f x.1 i), rPut x.2 123 8 (f + (i : Nat)) (spH k heaviest f x.1 i))
def spr (σ : Sg) (f k pounds heaviest : Int) : Sg := (itr (k - f).toNat (spT k heaviest f) (pounds, σ)).2
/-- findsNextWay with i + 1 = j places left to look at -/
def fnR (σ : Sg) (k : Int) : Nat → Int → Int × Sg
  | 0, _ => (0, σ)
  | j + 1, behind => if behind ≤ wr (wr (rAt σ 123 8 (j : Nat) - 1) * wr (wr (k - 1) - (j : Nat))) then (1, spr (rPut σ 123 8 (j : Nat) (wr (rAt σ 123 8 (j : Nat) - 1))) (wr ((j : Nat) + 1)) k behind (wr (rAt σ 123 8 (j : Nat) - 1))) else fnR σ k j (wr (behind + rAt σ 123 8 (j : Nat)))
def fnF (σ : Sg) (k : Int) : Int × Sg := fnR σ k (k - 1).toNat (wr (rAt σ 123 8 (wr (k - 1)) + 1))
def wgP (σ : Sg) (s k : Int) : Int := wr (wr (rAt σ 89 60 s * uW σ 96 74 s) + wr (σ 74 4 * k))
def wg1 (σ : Sg) (s k : Int) : Sg := rPut σ 127 9 k (min (rAt σ 127 9 k) (uW σ 96 74 s))
def wg (σ : Sg) (s k : Int) : Sg := if (wg1 σ s k) 121 6 = 0 ∨ wgP σ s k < (wg1 σ s k) 121 5 then rCopy (su (su (wg1 σ s k) 121 5 (wgP σ s k)) 121 6 k) 125 123 8 else wg1 σ s k
def dvU (gain among : Int) : Int := if 0 < among ∧ 0 < gain then wr ((wr (wr (gain + among) - 1)).tdiv among) else 0
def faS (σ : Sg) (s : Int) (i : Nat) (c : Int) : Int := max c (dvU (wr (rAt σ 89 60 s * wr (rAt σ 127 9 1 - rAt σ 127 9 ((i : Nat) + 2)))) (wr ((i : Nat) + 2 - 1)))
def faF (σ : Sg) (s : Int) : Int := itr (σ 121 7 - 1).toNat (faS σ s) 0
/-- one way tried, and the next one looked for -/
def skW (s k : Int) (_ : Nat) (x : Int × Sg) : Int × Sg := if x.1 = 0 then x else fnF (wg (go (mWay x.2 74 123 8 s k) 96 74) s k) k
def skI (σ : Sg) (s k : Int) : Int × Sg := (1, stF (rPut σ 127 9 k 1000000000) (rAt (rPut σ 127 9 k 1000000000) 81 60 s) k)
def sk0 (σ : Sg) (s n : Int) : Sg := su (su σ 121 7 (min n (min (rAt σ 81 60 s) (wr (60 - mBes σ 74 s))))) 121 6 0
/-- all ways into i + 1 pieces, N of them at most -/
def skS (s : Int) (N : Nat) (i : Nat) (σ : Sg) : Sg := (itr N (skW s ((i : Nat) + 1)) (skI σ s ((i : Nat) + 1))).2
def sk (σ : Sg) (s n : Int) (N : Nat) : Sg := itr (sk0 σ s n 121 7).toNat (skS s N) (sk0 σ s n)
theorem skW_st (s k : Int) (j : Nat) (x : Int × Sg) (h : (itr j (skW s k) x).1 = 0) : ∀ m, itr (j + m) (skW s k) x = itr j (skW s k) x := by
  intro m
  induction m with
  | zero => rfl
  | succ m ih => rw [← Nat.add_assoc, itr_s, skW, ih, if_pos h]
theorem fnR_b (σ : Sg) (k : Int) : ∀ j b, (fnR σ k j b).1 = 0 ∨ (fnR σ k j b).1 = 1 := by
  intro j
  induction j with
  | zero => exact fun b => Or.inl rfl
  | succ j ih => intro b; rw [fnR]; split; exact Or.inr rfl; exact ih _
theorem spT_ne (k h f : Int) (n : Nat) (x : Int × Sg) {a : Nat} (ha : a ≠ 123) (j : Nat) : (itr n (spT k h f) x).2 a j = x.2 a j := by
  induction n with
  | zero => rfl
  | succ n ih => rw [itr_s, spT]; exact (rPut_ne ha).trans ih
theorem fnR_ne (σ : Sg) (k : Int) {a : Nat} (ha : a ≠ 123) (i : Nat) : ∀ j b, (fnR σ k j b).2 a i = σ a i := by
  intro j
  induction j with
  | zero => exact fun b => rfl
  | succ j ih =>
    intro b; rw [fnR]; split
    · exact (spT_ne _ _ _ _ _ ha _).trans (rPut_ne ha)
    · exact ih _
theorem stS_ne {a : Nat} (ha : a ≠ 123) (i n : Nat) (σ : Sg) : itr n stS σ a i = σ a i := by
  induction n with
  | zero => rfl
  | succ n ih => rw [itr_s, stS]; exact (rPut_ne ha).trans ih
theorem mWay_ne (σ : Sg) (m w n : Nat) (s many : Int) {a : Nat} (h1 : a ≠ m + 19) (h2 : a ≠ m + 21) (j : Nat) : mWay σ m w n s many a j = σ a j := by
  unfold mWay
  have : ∀ k, itr k (mWayS m w n s) (rPut σ (m + 19) 60 s many) a j = σ a j := by
    intro k
    induction k with
    | zero => exact rPut_ne h1
    | succ k ih => rw [itr_s, mWayS, rPut_ne h2]; exact ih
  exact this _
theorem wg_7 (σ : Sg) (s k : Int) : wg σ s k 121 7 = σ 121 7 := by
  unfold wg wg1; split
  · rw [rCopy_ne (by decide), su_ne _ _ (Or.inr (by decide)), su_ne _ _ (Or.inr (by decide)), rPut_ne (by decide)]
  · rw [rPut_ne (by decide)]
theorem skW_7 (s k : Int) (n : Nat) (x : Int × Sg) : (itr n (skW s k) x).2 121 7 = x.2 121 7 := by
  induction n with
  | zero => rfl
  | succ n ih =>
    rw [itr_s, skW]; split
    · exact ih
    · rw [fnF, fnR_ne _ _ (by decide), wg_7, go_off _ 121 (by omega), mWay_ne _ _ _ _ _ _ (by decide) (by decide)]; exact ih
theorem skS_7 (s : Int) (N : Nat) (i : Nat) (σ : Sg) : skS s N i σ 121 7 = σ 121 7 := by
  unfold skS skI
  rw [skW_7]
  show stF _ _ _ 121 7 = _
  rw [stF, stS_ne (by decide), rPut_ne (by decide), rPut_ne (by decide)]
theorem sk_7 (s : Int) (N : Nat) (n : Nat) (σ : Sg) : itr n (skS s N) σ 121 7 = σ 121 7 := by
  induction n with
  | zero => rfl
  | succ n ih => rw [itr_s, skS_7]; exact ih
theorem skW_b (s k : Int) (n : Nat) (σ : Sg) : (itr n (skW s k) (1, σ)).1 = 0 ∨ (itr n (skW s k) (1, σ)).1 = 1 := by
  induction n with
  | zero => exact Or.inr rfl
  | succ n ih => rw [itr_s, skW]; split; exact ih; exact fnR_b _ _ _ _
set_option maxRecDepth 4000 in
theorem s_X2_startWays (ad : Nat → Nat) (σ : Sg)  (pounds : Int) (k : Int) (hk : 1 ≤ k ∧ k ≤ 8) : gw_Sp yX2_startWays cX2_startWays 4 none 2 0 0 [vR (some 121), vI pounds, vI k] (gw_M0 ad) σ (gw_D none (gw_M0 ad) (stF σ pounds k)) gw_no := by
  refine gw_Sp.of [some (vR (some 121)), some (vI pounds), some (vI k), none] (by decide +kernel) rfl (Nat.le_of_ble_eq_true rfl) ?_
  intro X G fx het hnm
  refine g_aload_n fx dX2_startWays_0 rfl ?_
  refine g_getr fx dX2_startWays_1 fk_RX2_14 o_121 rf_121_2 ?_
  refine g_iconst fx dX2_startWays_4 (by unfold okI; omega) ?_
  refine g_iload_n fx dX2_startWays_5 rfl ?_
  refine g_iload_n fx dX2_startWays_6 rfl ?_
  refine g_isub fx dX2_startWays_7 ?_
  refine g_iconst fx dX2_startWays_8 (by unfold okI; omega) ?_
  refine g_iadd fx dX2_startWays_9 ?_
  refine g_callVD0 fx dX2_startWays_10 mv_RX2_60 my_X4_put (s_X4_putC ad _ in_122 (show 122 + 1 = 123 from rfl) _ _) (row_O in_122) rfl rfl rfl (Nat.le_of_ble_eq_true rfl) (by decide) (by decide) ?_
  refine g_iconst fx dX2_startWays_13 (by unfold okI; omega) ?_
  refine g_istore_n fx dX2_startWays_14 (by decide) rfl rfl ?_
  have loop15 : ∀ i : Nat, i ≤ (k - 1).toNat → gw_W X (yX2_startWays.cls, cX2_startWays, 4, none, 2, 0, 0) G (gw_Z X G (gw_M0 ad) σ (gw_D none (gw_M0 ad) (stF σ pounds k)) gw_no 0 0) 0 0 (gw_M0 ad) (itr i stS (rPut σ 123 8 0 (wr (wr (pounds - k) + 1)))) 15 [some (vR (some 121)), some (vI pounds), some (vI k), some (vI ((i : Nat) + 1))] [] := by
    refine up_ind _ ((k - 1).toNat) (fun i hi ih => ?_)
    refine g_iload_n fx dX2_startWays_15 rfl ?_
    refine g_iload_n fx dX2_startWays_16 rfl ?_
    refine g_icmp_ge (tgt := 35) fx dX2_startWays_17 (by decide) (fun h17 => ?_) (fun h17 => ?_)
    · exact g_vret fx rfl dX2_startWays_35 (by decide) (by decide) (gw_le.rf _) ⟨rfl, rfl, by rw [stF, show (k - 1).toNat = i by omega]⟩
    · refine g_aload_n fx dX2_startWays_20 rfl ?_
      refine g_getr fx dX2_startWays_21 fk_RX2_14 o_121 rf_121_2 ?_
      refine g_iload_n fx dX2_startWays_24 rfl ?_
      refine g_iconst fx dX2_startWays_25 (by unfold okI; omega) ?_
      refine g_callVD0 fx dX2_startWays_26 mv_RX2_60 my_X4_put (s_X4_putC ad _ in_122 (show 122 + 1 = 123 from rfl) _ _) (row_O in_122) rfl rfl rfl (Nat.le_of_ble_eq_true rfl) (by decide) (by decide) ?_
      refine g_iinc1 fx dX2_startWays_29 (by decide) rfl rfl (by unfold okI; omega) rfl ?_
      refine g_goto (tgt := 15) fx dX2_startWays_32 (by decide) ?_
      exact gw_cg (by rw [itr_s, stS]) rfl (ih (by omega))
  exact loop15 0 (Nat.zero_le _)
set_option maxRecDepth 4000 in
theorem s_X2_spread (ad : Nat → Nat) (σ : Sg)  (f : Int) (k : Int) (pounds : Int) (heaviest : Int) (hk : 0 ≤ f ∧ f ≤ k ∧ k ≤ 8) : gw_Sp yX2_spread cX2_spread 8 none 2 0 0 [vR (some 121), vI f, vI k, vI pounds, vI heaviest] (gw_M0 ad) σ (gw_D none (gw_M0 ad) (spr σ f k pounds heaviest)) gw_no := by
  refine gw_Sp.of [some (vR (some 121)), some (vI f), some (vI k), some (vI pounds), some (vI heaviest), none, none, none] (by decide +kernel) rfl (Nat.le_of_ble_eq_true rfl) ?_
  intro X G fx het hnm
  refine g_iload_n fx dX2_spread_0 rfl ?_
  refine g_istore fx dX2_spread_1 (by decide) rfl rfl ?_
  refine g_iload_n fx dX2_spread_3 rfl ?_
  refine g_istore fx dX2_spread_4 (by decide) rfl rfl ?_
  have loop6 : ∀ i : Nat, i ≤ (k - f).toNat → gw_W X (yX2_spread.cls, cX2_spread, 8, none, 2, 0, 0) G (gw_Z X G (gw_M0 ad) σ (gw_D none (gw_M0 ad) (spr σ f k pounds heaviest)) gw_no 0 0) 0 0 (gw_M0 ad) ((itr i (spT k heaviest f) (pounds, σ)).2) 6 [some (vR (some 121)), some (vI f), some (vI k), some (vI pounds), some (vI heaviest), some (vI (itr i (spT k heaviest f) (pounds, σ)).1), some (vI (f + (i : Nat))), none] [] := by
    refine up_ind _ ((k - f).toNat) (fun i hi ih => ?_)
    refine g_iload fx dX2_spread_6 rfl ?_
    refine g_iload_n fx dX2_spread_8 rfl ?_
    refine g_icmp_ge (tgt := 52) fx dX2_spread_9 (by decide) (fun h9 => ?_) (fun h9 => ?_)
    · exact g_vret fx rfl dX2_spread_52 (by decide) (by decide) (gw_le.rf _) ⟨rfl, rfl, by rw [spr, show (k - f).toNat = i by omega]⟩
    · refine g_iload fx dX2_spread_12 rfl ?_
      refine g_iload fx dX2_spread_14 rfl ?_
      refine g_iload_n fx dX2_spread_16 rfl ?_
      refine g_iconst fx dX2_spread_17 (by unfold okI; omega) ?_
      refine g_isub fx dX2_spread_18 ?_
      refine g_iload fx dX2_spread_19 rfl ?_
      refine g_isub fx dX2_spread_21 ?_
      refine g_isub fx dX2_spread_22 ?_
      refine g_min fx dX2_spread_23 mm_RX2_46 (by decide) (by decide) (by decide) (Nat.le_of_ble_eq_true rfl) ?_
      refine g_istore fx dX2_spread_26 (by decide) rfl rfl ?_
      refine g_aload_n fx dX2_spread_28 rfl ?_
      refine g_getr fx dX2_spread_29 fk_RX2_14 o_121 rf_121_2 ?_
      refine g_iload fx dX2_spread_32 rfl ?_
      refine g_iload fx dX2_spread_34 rfl ?_
      refine g_callVD0 fx dX2_spread_36 mv_RX2_60 my_X4_put (s_X4_putC ad _ in_122 (show 122 + 1 = 123 from rfl) _ _) (row_O in_122) rfl rfl rfl (Nat.le_of_ble_eq_true rfl) (by decide) (by decide) ?_
      refine g_iload fx dX2_spread_39 rfl ?_
      refine g_iload fx dX2_spread_41 rfl ?_
      refine g_isub fx dX2_spread_43 ?_
      refine g_istore fx dX2_spread_44 (by decide) rfl rfl ?_
      refine g_iinc1 fx dX2_spread_46 (by decide) rfl rfl (by unfold okI; omega) rfl ?_
      refine g_goto (tgt := 6) fx dX2_spread_49 (by decide) ?_
      refine g_kill 7 rfl ?_
      exact gw_cg (by rw [itr_s, spT]; rfl) (by rw [itr_s, spT, show (f + ((i + 1 : Nat) : Int)) = f + (i : Nat) + 1 by omega]; rfl) (ih (by omega))
  exact gw_cg rfl (by rw [show (f + ((0 : Nat) : Int)) = f by omega]; rfl) (loop6 0 (Nat.zero_le _))
theorem fnw_loop (ad : Nat → Nat) (σ : Sg) (k : Int) (hk : 1 ≤ k ∧ k ≤ 8) (X : Cx) (G : Gl) (fx : gw_FX X (yX2_findsNextWay.cls, cX2_findsNextWay, 5, (some .boolean), 3, 0, 0) G) : ∀ j : Nat, ∀ b : Int, (j : Int) ≤ k - 1 → fnF σ k = fnR σ k j b → gw_W X (yX2_findsNextWay.cls, cX2_findsNextWay, 5, (some .boolean), 3, 0, 0) G (gw_Z X G (gw_M0 ad) σ (gw_D (some (vI (fnF σ k).1)) (gw_M0 ad) ((fnF σ k).2)) gw_no 0 0) 0 0 (gw_M0 ad) σ 17 [some (vR (some 121)), some (vI k), some (vI b), some (vI ((j : Nat) - 1)), none] [] := by
  intro j
  induction j with
  | zero =>
    intro b hj he
    refine g_iload_n fx dX2_findsNextWay_17 rfl ?_
    refine g_if_lt (tgt := 85) fx dX2_findsNextWay_18 (by decide) (fun h18 => ?_) (fun h18 => absurd h18 (by omega))
    refine g_iconst fx dX2_findsNextWay_85 (by unfold okI; omega) ?_
    exact g_zret fx rfl dX2_findsNextWay_86 (by first | exact Or.inl rfl | exact Or.inr rfl | omega) (by decide) (by decide) (gw_le.rf _) ⟨by rw [he]; rfl, rfl, by rw [he]; rfl⟩
  | succ j ih =>
    intro b hj he
    refine g_iload_n fx dX2_findsNextWay_17 rfl ?_
    refine g_if_lt (tgt := 85) fx dX2_findsNextWay_18 (by decide) (fun h18 => absurd h18 (by omega)) (fun h18 => ?_)
    rw [show (((j + 1 : Nat) : Int) - 1) = (j : Nat) by omega]
    refine g_aload_n fx dX2_findsNextWay_21 rfl ?_
    refine g_getr fx dX2_findsNextWay_22 fk_RX2_14 o_121 rf_121_2 ?_
    refine g_iload_n fx dX2_findsNextWay_25 rfl ?_
    refine g_callVD fx dX2_findsNextWay_26 mv_RX2_43 my_X4_at (s_X4_atC ad _ in_122 (show 122 + 1 = 123 from rfl) _) (row_O in_122) rfl rfl rfl (Nat.le_of_ble_eq_true rfl) (by decide) (by decide) ?_
    refine g_iconst fx dX2_findsNextWay_29 (by unfold okI; omega) ?_
    refine g_isub fx dX2_findsNextWay_30 ?_
    refine g_istore fx dX2_findsNextWay_31 (by decide) rfl rfl ?_
    refine g_iload_n fx dX2_findsNextWay_33 rfl ?_
    refine g_iload fx dX2_findsNextWay_34 rfl ?_
    refine g_iload_n fx dX2_findsNextWay_36 rfl ?_
    refine g_iconst fx dX2_findsNextWay_37 (by unfold okI; omega) ?_
    refine g_isub fx dX2_findsNextWay_38 ?_
    refine g_iload_n fx dX2_findsNextWay_39 rfl ?_
    refine g_isub fx dX2_findsNextWay_40 ?_
    refine g_imul fx dX2_findsNextWay_41 ?_
    refine g_icmp_gt (tgt := 68) fx dX2_findsNextWay_42 (by decide) (fun h42 => ?_) (fun h42 => ?_)
    · refine g_iload_n fx dX2_findsNextWay_68 rfl ?_
      refine g_aload_n fx dX2_findsNextWay_69 rfl ?_
      refine g_getr fx dX2_findsNextWay_70 fk_RX2_14 o_121 rf_121_2 ?_
      refine g_iload_n fx dX2_findsNextWay_73 rfl ?_
      refine g_callVD fx dX2_findsNextWay_74 mv_RX2_43 my_X4_at (s_X4_atC ad _ in_122 (show 122 + 1 = 123 from rfl) _) (row_O in_122) rfl rfl rfl (Nat.le_of_ble_eq_true rfl) (by decide) (by decide) ?_
      refine g_iadd fx dX2_findsNextWay_77 ?_
      refine g_istore_n fx dX2_findsNextWay_78 (by decide) rfl rfl ?_
      refine g_iinc1 fx dX2_findsNextWay_79 (by decide) rfl rfl (by unfold okI; omega) rfl ?_
      refine g_goto (tgt := 17) fx dX2_findsNextWay_82 (by decide) ?_
      refine g_kill 4 rfl ?_
      exact gw_cg rfl rfl (ih _ (by omega) (by rw [he, fnR, if_neg (by omega)]))
    · refine g_aload_n fx dX2_findsNextWay_45 rfl ?_
      refine g_getr fx dX2_findsNextWay_46 fk_RX2_14 o_121 rf_121_2 ?_
      refine g_iload_n fx dX2_findsNextWay_49 rfl ?_
      refine g_iload fx dX2_findsNextWay_50 rfl ?_
      refine g_callVD0 fx dX2_findsNextWay_52 mv_RX2_60 my_X4_put (s_X4_putC ad _ in_122 (show 122 + 1 = 123 from rfl) _ _) (row_O in_122) rfl rfl rfl (Nat.le_of_ble_eq_true rfl) (by decide) (by decide) ?_
      refine g_aload_n fx dX2_findsNextWay_55 rfl ?_
      refine g_iload_n fx dX2_findsNextWay_56 rfl ?_
      refine g_iconst fx dX2_findsNextWay_57 (by unfold okI; omega) ?_
      refine g_iadd fx dX2_findsNextWay_58 ?_
      refine g_iload_n fx dX2_findsNextWay_59 rfl ?_
      refine g_iload_n fx dX2_findsNextWay_60 rfl ?_
      refine g_iload fx dX2_findsNextWay_61 rfl ?_
      refine g_callVD0 fx dX2_findsNextWay_63 mv_RX2_106 my_X2_spread (s_X2_spread ad _ _ _ _ _ (by rw [wr_id (by unfold okI; omega)]; omega)) o_121 rfl rfl rfl (Nat.le_of_ble_eq_true rfl) (by decide) (by decide) ?_
      refine g_iconst fx dX2_findsNextWay_66 (by unfold okI; omega) ?_
      exact g_zret fx rfl dX2_findsNextWay_67 (by first | exact Or.inl rfl | exact Or.inr rfl | omega) (by decide) (by decide) (gw_le.rf _) ⟨by rw [he, fnR, if_pos h42], rfl, by rw [he, fnR, if_pos h42]⟩
set_option maxRecDepth 4000 in
theorem s_X2_findsNextWay (ad : Nat → Nat) (σ : Sg)  (k : Int) (hk : 1 ≤ k ∧ k ≤ 8) : gw_Sp yX2_findsNextWay cX2_findsNextWay 5 (some .boolean) 3 0 0 [vR (some 121), vI k] (gw_M0 ad) σ (gw_D (some (vI (fnF σ k).1)) (gw_M0 ad) ((fnF σ k).2)) gw_no := by
  refine gw_Sp.of [some (vR (some 121)), some (vI k), none, none, none] (by decide +kernel) rfl (Nat.le_of_ble_eq_true rfl) ?_
  intro X G fx het hnm
  refine g_aload_n fx dX2_findsNextWay_0 rfl ?_
  refine g_getr fx dX2_findsNextWay_1 fk_RX2_14 o_121 rf_121_2 ?_
  refine g_iload_n fx dX2_findsNextWay_4 rfl ?_
  refine g_iconst fx dX2_findsNextWay_5 (by unfold okI; omega) ?_
  refine g_isub fx dX2_findsNextWay_6 ?_
  refine g_callVD fx dX2_findsNextWay_7 mv_RX2_43 my_X4_at (s_X4_atC ad _ in_122 (show 122 + 1 = 123 from rfl) _) (row_O in_122) rfl rfl rfl (Nat.le_of_ble_eq_true rfl) (by decide) (by decide) ?_
  refine g_iconst fx dX2_findsNextWay_10 (by unfold okI; omega) ?_
  refine g_iadd fx dX2_findsNextWay_11 ?_
  refine g_istore_n fx dX2_findsNextWay_12 (by decide) rfl rfl ?_
  refine g_iload_n fx dX2_findsNextWay_13 rfl ?_
  refine g_iconst fx dX2_findsNextWay_14 (by unfold okI; omega) ?_
  refine g_isub fx dX2_findsNextWay_15 ?_
  refine g_istore_n fx dX2_findsNextWay_16 (by decide) rfl rfl ?_
  have loop17 : ∀ j : Nat, ∀ b : Int, (j : Int) ≤ k - 1 → fnF σ k = fnR σ k j b → gw_W X (yX2_findsNextWay.cls, cX2_findsNextWay, 5, (some .boolean), 3, 0, 0) G (gw_Z X G (gw_M0 ad) σ (gw_D (some (vI (fnF σ k).1)) (gw_M0 ad) ((fnF σ k).2)) gw_no 0 0) 0 0 (gw_M0 ad) (σ) 17 [some (vR (some 121)), some (vI k), some (vI b), some (vI ((j : Nat) - 1)), none] [] := fnw_loop ad σ k hk X G fx
  exact gw_cg rfl (by rw [wr_id (show okI (k - 2) by unfold okI; omega), show (((k - 1).toNat : Nat) : Int) - 1 = k - 2 by omega]; rfl) (loop17 (k - 1).toNat _ (by omega) rfl)
set_option maxRecDepth 4000 in
theorem s_X2_weigh (ad : Nat → Nat) (σ : Sg)  (s : Int) (k : Int) : gw_Sp yX2_weigh cX2_weigh 5 none 3 0 0 [vR (some 121), vI s, vI k] (gw_M0 ad) σ (gw_D none (gw_M0 ad) (wg σ s k)) gw_no := by
  refine gw_Sp.of [some (vR (some 121)), some (vI s), some (vI k), none, none] (by decide +kernel) rfl (Nat.le_of_ble_eq_true rfl) ?_
  intro X G fx het hnm
  refine g_aload_n fx dX2_weigh_0 rfl ?_
  refine g_getr fx dX2_weigh_1 fk_RX2_30 o_121 rf_121_1 ?_
  refine g_iload_n fx dX2_weigh_4 rfl ?_
  refine g_callVD fx dX2_weigh_5 mv_RX2_84 my_X5_waitOf (s_X5_waitOf ad _ in_96 _) (run_O in_96) rfl rfl rfl (Nat.le_of_ble_eq_true rfl) (by decide) (by decide) ?_
  refine g_istore_n fx dX2_weigh_8 (by decide) rfl rfl ?_
  refine g_aload_n fx dX2_weigh_9 rfl ?_
  refine g_getr fx dX2_weigh_10 fk_RX2_26 o_121 rf_121_0 ?_
  refine g_getr fx dX2_weigh_13 fk_RX2_87 (mill_O in_74) (mill_f12 in_74) ?_
  refine g_iload_n fx dX2_weigh_16 rfl ?_
  refine g_callVD fx dX2_weigh_17 mv_RX2_43 my_X4_at (s_X4_atC ad _ (mill_h12 in_74) (show 88 + 1 = 89 from rfl) _) (row_O (mill_h12 in_74)) rfl rfl rfl (Nat.le_of_ble_eq_true rfl) (by decide) (by decide) ?_
  refine g_iload_n fx dX2_weigh_20 rfl ?_
  refine g_imul fx dX2_weigh_21 ?_
  refine g_aload_n fx dX2_weigh_22 rfl ?_
  refine g_getr fx dX2_weigh_23 fk_RX2_26 o_121 rf_121_0 ?_
  refine g_geti fx dX2_weigh_26 fk_RX2_90 (by decide) (mill_O in_74) ?_
  refine g_iload_n fx dX2_weigh_29 rfl ?_
  refine g_imul fx dX2_weigh_30 ?_
  refine g_iadd fx dX2_weigh_31 ?_
  refine g_istore fx dX2_weigh_32 (by decide) rfl rfl ?_
  refine g_aload_n fx dX2_weigh_34 rfl ?_
  refine g_getr fx dX2_weigh_35 fk_RX2_23 o_121 rf_121_4 ?_
  refine g_iload_n fx dX2_weigh_38 rfl ?_
  refine g_aload_n fx dX2_weigh_39 rfl ?_
  refine g_getr fx dX2_weigh_40 fk_RX2_23 o_121 rf_121_4 ?_
  refine g_iload_n fx dX2_weigh_43 rfl ?_
  refine g_callVD fx dX2_weigh_44 mv_RX2_43 my_X4_at (s_X4_atC ad _ in_126 (show 126 + 1 = 127 from rfl) _) (row_O in_126) rfl rfl rfl (Nat.le_of_ble_eq_true rfl) (by decide) (by decide) ?_
  refine g_iload_n fx dX2_weigh_47 rfl ?_
  refine g_min fx dX2_weigh_48 mm_RX2_46 (by decide) (by decide) (by decide) (Nat.le_of_ble_eq_true rfl) ?_
  refine g_callVD0 fx dX2_weigh_51 mv_RX2_60 my_X4_put (s_X4_putC ad _ in_126 (show 126 + 1 = 127 from rfl) _ _) (row_O in_126) rfl rfl rfl (Nat.le_of_ble_eq_true rfl) (by decide) (by decide) ?_
  refine g_aload_n fx dX2_weigh_54 rfl ?_
  refine g_geti fx dX2_weigh_55 fk_RX2_56 (by decide) o_121 ?_
  refine g_if_eq (tgt := 70) fx dX2_weigh_58 (by decide) (fun h58 => ?_) (fun h58 => ?_)
  · refine g_aload_n fx dX2_weigh_70 rfl ?_
    refine g_iload fx dX2_weigh_71 rfl ?_
    refine g_puti fx dX2_weigh_73 fk_RX2_93 o_121 ?_
    refine g_aload_n fx dX2_weigh_76 rfl ?_
    refine g_iload_n fx dX2_weigh_77 rfl ?_
    refine g_puti fx dX2_weigh_78 fk_RX2_56 o_121 ?_
    refine g_aload_n fx dX2_weigh_81 rfl ?_
    refine g_getr fx dX2_weigh_82 fk_RX2_20 o_121 rf_121_3 ?_
    refine g_aload_n fx dX2_weigh_85 rfl ?_
    refine g_getr fx dX2_weigh_86 fk_RX2_14 o_121 rf_121_2 ?_
    refine g_callVD0 fx dX2_weigh_89 mv_RX2_96 my_X4_copyOf (s_X4_copyOfC ad _ in_124 in_122 (show 124 + 1 = 125 from rfl) (show 122 + 1 = 123 from rfl) (by omega)) (row_O in_124) rfl rfl rfl (Nat.le_of_ble_eq_true rfl) (by decide) (by decide) ?_
    exact g_vret fx rfl dX2_weigh_92 (by decide) (by decide) (gw_le.rf _) ⟨rfl, rfl, by rw [wg, wg1, wgP]; (repeat first | rw [if_pos (by omega)] | rw [if_neg (by omega)]) <;> rfl⟩
  · refine g_iload fx dX2_weigh_61 rfl ?_
    refine g_aload_n fx dX2_weigh_63 rfl ?_
    refine g_geti fx dX2_weigh_64 fk_RX2_93 (by decide) o_121 ?_
    refine g_icmp_ge (tgt := 92) fx dX2_weigh_67 (by decide) (fun h67 => ?_) (fun h67 => ?_)
    · exact g_vret fx rfl dX2_weigh_92 (by decide) (by decide) (gw_le.rf _) ⟨rfl, rfl, by rw [wg, wg1, wgP]; (repeat first | rw [if_pos (by omega)] | rw [if_neg (by omega)]) <;> rfl⟩
    · refine g_aload_n fx dX2_weigh_70 rfl ?_
      refine g_iload fx dX2_weigh_71 rfl ?_
      refine g_puti fx dX2_weigh_73 fk_RX2_93 o_121 ?_
      refine g_aload_n fx dX2_weigh_76 rfl ?_
      refine g_iload_n fx dX2_weigh_77 rfl ?_
      refine g_puti fx dX2_weigh_78 fk_RX2_56 o_121 ?_
      refine g_aload_n fx dX2_weigh_81 rfl ?_
      refine g_getr fx dX2_weigh_82 fk_RX2_20 o_121 rf_121_3 ?_
      refine g_aload_n fx dX2_weigh_85 rfl ?_
      refine g_getr fx dX2_weigh_86 fk_RX2_14 o_121 rf_121_2 ?_
      refine g_callVD0 fx dX2_weigh_89 mv_RX2_96 my_X4_copyOf (s_X4_copyOfC ad _ in_124 in_122 (show 124 + 1 = 125 from rfl) (show 122 + 1 = 123 from rfl) (by omega)) (row_O in_124) rfl rfl rfl (Nat.le_of_ble_eq_true rfl) (by decide) (by decide) ?_
      exact g_vret fx rfl dX2_weigh_92 (by decide) (by decide) (gw_le.rf _) ⟨rfl, rfl, by rw [wg, wg1, wgP]; (repeat first | rw [if_pos (by omega)] | rw [if_neg (by omega)]) <;> rfl⟩
set_option maxRecDepth 4000 in
theorem s_X2_dividedUp (ad : Nat → Nat) (σ : Sg) (gain : Int) (among : Int) : gw_Sp yX2_dividedUp cX2_dividedUp 2 (some .int) 1 0 0 [vI gain, vI among] (gw_M0 ad) σ (gw_D (some (vI (dvU gain among))) (gw_M0 ad) (σ)) gw_no := by
  refine gw_Sp.of [some (vI gain), some (vI among)] (by decide +kernel) rfl (Nat.le_of_ble_eq_true rfl) ?_
  intro X G fx het hnm
  refine g_iload_n fx dX2_dividedUp_0 rfl ?_
  refine g_if_le (tgt := 18) fx dX2_dividedUp_1 (by decide) (fun h1 => ?_) (fun h1 => ?_)
  · refine g_iconst fx dX2_dividedUp_18 (by unfold okI; omega) ?_
    exact g_iret fx rfl dX2_dividedUp_19 (by decide) (by decide) (gw_le.rf _) ⟨by rw [dvU]; (repeat first | rw [if_pos (by omega)] | rw [if_neg (by omega)]) <;> rfl, rfl, rfl⟩
  · refine g_iload_n fx dX2_dividedUp_4 rfl ?_
    refine g_if_le (tgt := 18) fx dX2_dividedUp_5 (by decide) (fun h5 => ?_) (fun h5 => ?_)
    · refine g_iconst fx dX2_dividedUp_18 (by unfold okI; omega) ?_
      exact g_iret fx rfl dX2_dividedUp_19 (by decide) (by decide) (gw_le.rf _) ⟨by rw [dvU]; (repeat first | rw [if_pos (by omega)] | rw [if_neg (by omega)]) <;> rfl, rfl, rfl⟩
    · refine g_iload_n fx dX2_dividedUp_8 rfl ?_
      refine g_iload_n fx dX2_dividedUp_9 rfl ?_
      refine g_iadd fx dX2_dividedUp_10 ?_
      refine g_iconst fx dX2_dividedUp_11 (by unfold okI; omega) ?_
      refine g_isub fx dX2_dividedUp_12 ?_
      refine g_iload_n fx dX2_dividedUp_13 rfl ?_
      refine g_idiv fx dX2_dividedUp_14 (by omega) ?_
      refine g_goto (tgt := 19) fx dX2_dividedUp_15 (by decide) ?_
      exact g_iret fx rfl dX2_dividedUp_19 (by decide) (by decide) (gw_le.rf _) ⟨by rw [dvU]; (repeat first | rw [if_pos (by omega)] | rw [if_neg (by omega)]) <;> rfl, rfl, rfl⟩
set_option maxRecDepth 4000 in
theorem s_X2_feeAgainst (ad : Nat → Nat) (σ : Sg)  (s : Int) (h7 : σ 121 7 ≤ 8) : gw_Sp yX2_feeAgainst cX2_feeAgainst 5 (some .int) 2 0 0 [vR (some 121), vI s] (gw_M0 ad) σ (gw_D (some (vI (faF σ s))) (gw_M0 ad) (σ)) gw_no := by
  refine gw_Sp.of [some (vR (some 121)), some (vI s), none, none, none] (by decide +kernel) rfl (Nat.le_of_ble_eq_true rfl) ?_
  intro X G fx het hnm
  refine g_okS (fun hok => ?_)
  have hq1 := gw_okO 7 hok o_121 (by decide)
  unfold okI at hq1
  refine g_iconst fx dX2_feeAgainst_0 (by unfold okI; omega) ?_
  refine g_istore_n fx dX2_feeAgainst_1 (by decide) rfl rfl ?_
  refine g_iconst fx dX2_feeAgainst_2 (by unfold okI; omega) ?_
  refine g_istore_n fx dX2_feeAgainst_3 (by decide) rfl rfl ?_
  have loop4 : ∀ i : Nat, i ≤ (σ 121 7 - 1).toNat → gw_W X (yX2_feeAgainst.cls, cX2_feeAgainst, 5, (some .int), 2, 0, 0) G (gw_Z X G (gw_M0 ad) σ (gw_D (some (vI (faF σ s))) (gw_M0 ad) (σ)) gw_no 0 0) 0 0 (gw_M0 ad) (σ) 4 [some (vR (some 121)), some (vI s), some (vI (itr i (faS σ s) 0)), some (vI ((i : Nat) + 2)), none] [] := by
    refine up_ind _ ((σ 121 7 - 1).toNat) (fun i hi ih => ?_)
    refine g_iload_n fx dX2_feeAgainst_4 rfl ?_
    refine g_aload_n fx dX2_feeAgainst_5 rfl ?_
    refine g_geti fx dX2_feeAgainst_6 fk_RX2_52 (by decide) o_121 ?_
    refine g_icmp_gt (tgt := 62) fx dX2_feeAgainst_9 (by decide) (fun h9 => ?_) (fun h9 => ?_)
    · refine g_iload_n fx dX2_feeAgainst_62 rfl ?_
      exact g_iret fx rfl dX2_feeAgainst_63 (by decide) (by decide) (gw_le.rf _) ⟨by rw [faF, show (σ 121 7 - 1).toNat = i by omega], rfl, rfl⟩
    · refine g_aload_n fx dX2_feeAgainst_12 rfl ?_
      refine g_getr fx dX2_feeAgainst_13 fk_RX2_26 o_121 rf_121_0 ?_
      refine g_getr fx dX2_feeAgainst_16 fk_RX2_87 (mill_O in_74) (mill_f12 in_74) ?_
      refine g_iload_n fx dX2_feeAgainst_19 rfl ?_
      refine g_callVD fx dX2_feeAgainst_20 mv_RX2_43 my_X4_at (s_X4_atC ad _ (mill_h12 in_74) (show 88 + 1 = 89 from rfl) _) (row_O (mill_h12 in_74)) rfl rfl rfl (Nat.le_of_ble_eq_true rfl) (by decide) (by decide) ?_
      refine g_aload_n fx dX2_feeAgainst_23 rfl ?_
      refine g_getr fx dX2_feeAgainst_24 fk_RX2_23 o_121 rf_121_4 ?_
      refine g_iconst fx dX2_feeAgainst_27 (by unfold okI; omega) ?_
      refine g_callVD fx dX2_feeAgainst_28 mv_RX2_43 my_X4_at (s_X4_atC ad _ in_126 (show 126 + 1 = 127 from rfl) _) (row_O in_126) rfl rfl rfl (Nat.le_of_ble_eq_true rfl) (by decide) (by decide) ?_
      refine g_aload_n fx dX2_feeAgainst_31 rfl ?_
      refine g_getr fx dX2_feeAgainst_32 fk_RX2_23 o_121 rf_121_4 ?_
      refine g_iload_n fx dX2_feeAgainst_35 rfl ?_
      refine g_callVD fx dX2_feeAgainst_36 mv_RX2_43 my_X4_at (s_X4_atC ad _ in_126 (show 126 + 1 = 127 from rfl) _) (row_O in_126) rfl rfl rfl (Nat.le_of_ble_eq_true rfl) (by decide) (by decide) ?_
      refine g_isub fx dX2_feeAgainst_39 ?_
      refine g_imul fx dX2_feeAgainst_40 ?_
      refine g_istore fx dX2_feeAgainst_41 (by decide) rfl rfl ?_
      refine g_iload_n fx dX2_feeAgainst_43 rfl ?_
      refine g_iload fx dX2_feeAgainst_44 rfl ?_
      refine g_iload_n fx dX2_feeAgainst_46 rfl ?_
      refine g_iconst fx dX2_feeAgainst_47 (by unfold okI; omega) ?_
      refine g_isub fx dX2_feeAgainst_48 ?_
      refine g_callSD fx dX2_feeAgainst_49 ms_RX2_100 my_X2_dividedUp (s_X2_dividedUp ad _ _ _) rfl rfl (Nat.le_of_ble_eq_true rfl) (by decide) (by decide) ?_
      refine g_max fx dX2_feeAgainst_52 mm_RX2_103 (by decide) (by decide) (by decide) (Nat.le_of_ble_eq_true rfl) ?_
      refine g_istore_n fx dX2_feeAgainst_55 (by decide) rfl rfl ?_
      refine g_iinc1 fx dX2_feeAgainst_56 (by decide) rfl rfl (by unfold okI; omega) rfl ?_
      refine g_goto (tgt := 4) fx dX2_feeAgainst_59 (by decide) ?_
      refine g_kill 4 rfl ?_
      exact gw_cg rfl (by rw [itr_s, faS, show (((i + 1 : Nat) : Int) + 2) = (i : Nat) + 2 + 1 by omega]; rfl) (ih (by omega))
  exact loop4 0 (Nat.zero_le _)
set_option maxRecDepth 4000 in
theorem s_X2_seek (ad : Nat → Nat) (σ : Sg)  (s : Int) (n : Int) (N : Nat) (hN : N = 1000000) (hm : sk0 σ s n 121 7 ≤ 8) : gw_Sp yX2_seek cX2_seek 7 none 6 0 0 [vR (some 121), vI s, vI n] (gw_M0 ad) σ (gw_D none (gw_M0 ad) (sk σ s n N)) gw_no := by
  refine gw_Sp.of [some (vR (some 121)), some (vI s), some (vI n), none, none, none, none] (by decide +kernel) rfl (Nat.le_of_ble_eq_true rfl) ?_
  intro X G fx het hnm
  refine g_bipush fx dX2_seek_0 (by decide) ?_
  refine g_aload_n fx dX2_seek_2 rfl ?_
  refine g_getr fx dX2_seek_3 fk_RX2_26 o_121 rf_121_0 ?_
  refine g_iload_n fx dX2_seek_6 rfl ?_
  refine g_callVD fx dX2_seek_7 mv_RX2_34 my_X1_piecesBeside (s_X1_piecesBeside ad _ in_74 _) (mill_O in_74) rfl rfl rfl (Nat.le_of_ble_eq_true rfl) (by decide) (by decide) ?_
  refine g_isub fx dX2_seek_10 ?_
  refine g_istore_n fx dX2_seek_11 (by decide) rfl rfl ?_
  refine g_aload_n fx dX2_seek_12 rfl ?_
  refine g_iload_n fx dX2_seek_13 rfl ?_
  refine g_aload_n fx dX2_seek_14 rfl ?_
  refine g_getr fx dX2_seek_15 fk_RX2_26 o_121 rf_121_0 ?_
  refine g_getr fx dX2_seek_18 fk_RX2_40 (mill_O in_74) (mill_f8 in_74) ?_
  refine g_iload_n fx dX2_seek_21 rfl ?_
  refine g_callVD fx dX2_seek_22 mv_RX2_43 my_X4_at (s_X4_atC ad _ (mill_h8 in_74) (show 80 + 1 = 81 from rfl) _) (row_O (mill_h8 in_74)) rfl rfl rfl (Nat.le_of_ble_eq_true rfl) (by decide) (by decide) ?_
  refine g_iload_n fx dX2_seek_25 rfl ?_
  refine g_min fx dX2_seek_26 mm_RX2_46 (by decide) (by decide) (by decide) (Nat.le_of_ble_eq_true rfl) ?_
  refine g_min fx dX2_seek_29 mm_RX2_46 (by decide) (by decide) (by decide) (Nat.le_of_ble_eq_true rfl) ?_
  refine g_puti fx dX2_seek_32 fk_RX2_52 o_121 ?_
  refine g_aload_n fx dX2_seek_35 rfl ?_
  refine g_iconst fx dX2_seek_36 (by unfold okI; omega) ?_
  refine g_puti fx dX2_seek_37 fk_RX2_56 o_121 ?_
  refine g_iconst fx dX2_seek_40 (by unfold okI; omega) ?_
  refine g_istore fx dX2_seek_41 (by decide) rfl rfl ?_
  have loop43 : ∀ i : Nat, i ≤ (sk0 σ s n 121 7).toNat → gw_W X (yX2_seek.cls, cX2_seek, 7, none, 6, 0, 0) G (gw_Z X G (gw_M0 ad) σ (gw_D none (gw_M0 ad) (sk σ s n N)) gw_no 0 0) 0 0 (gw_M0 ad) (itr i (skS s N) (sk0 σ s n)) 43 [some (vR (some 121)), some (vI s), some (vI n), some (vI (wr (60 - mBes σ 74 s))), some (vI ((i : Nat) + 1)), none, none] [] := by
    refine up_ind _ ((sk0 σ s n 121 7).toNat) (fun i hi ih => ?_)
    have h7 := sk_7 s N i (sk0 σ s n)
    generalize hσ1 : itr i (skS s N) (sk0 σ s n) = σ1 at *
    refine g_iload fx dX2_seek_43 rfl ?_
    refine g_aload_n fx dX2_seek_45 rfl ?_
    refine g_geti fx dX2_seek_46 fk_RX2_52 (by decide) o_121 ?_
    refine g_icmp_gt (tgt := 146) fx dX2_seek_49 (by decide) (fun h49 => ?_) (fun h49 => ?_)
    · exact g_vret fx rfl dX2_seek_146 (by decide) (by decide) (gw_le.rf _) ⟨rfl, rfl, by rw [sk, show (sk0 σ s n 121 7).toNat = i by omega, hσ1]⟩
    · refine g_aload_n fx dX2_seek_52 rfl ?_
      refine g_getr fx dX2_seek_53 fk_RX2_23 o_121 rf_121_4 ?_
      refine g_iload fx dX2_seek_56 rfl ?_
      refine g_ldcI fx dX2_seek_58 kc_RX2_59 (by unfold okI; omega) ?_
      refine g_callVD0 fx dX2_seek_60 mv_RX2_60 my_X4_put (s_X4_putC ad _ in_126 (show 126 + 1 = 127 from rfl) _ _) (row_O in_126) rfl rfl rfl (Nat.le_of_ble_eq_true rfl) (by decide) (by decide) ?_
      refine g_iconst fx dX2_seek_63 (by unfold okI; omega) ?_
      refine g_istore fx dX2_seek_64 (by decide) rfl rfl ?_
      refine g_aload_n fx dX2_seek_66 rfl ?_
      refine g_aload_n fx dX2_seek_67 rfl ?_
      refine g_getr fx dX2_seek_68 fk_RX2_26 o_121 rf_121_0 ?_
      refine g_getr fx dX2_seek_71 fk_RX2_40 (mill_O in_74) (mill_f8 in_74) ?_
      refine g_iload_n fx dX2_seek_74 rfl ?_
      refine g_callVD fx dX2_seek_75 mv_RX2_43 my_X4_at (s_X4_atC ad _ (mill_h8 in_74) (show 80 + 1 = 81 from rfl) _) (row_O (mill_h8 in_74)) rfl rfl rfl (Nat.le_of_ble_eq_true rfl) (by decide) (by decide) ?_
      refine g_iload fx dX2_seek_78 rfl ?_
      refine g_callVD0 fx dX2_seek_80 mv_RX2_64 my_X2_startWays (s_X2_startWays ad _ _ _ (by omega)) o_121 rfl rfl rfl (Nat.le_of_ble_eq_true rfl) (by decide) (by decide) ?_
      refine g_iconst fx dX2_seek_83 (by unfold okI; omega) ?_
      refine g_istore fx dX2_seek_84 (by decide) rfl rfl ?_
      have loop86 : ∀ j : Nat, j ≤ N → gw_W X (yX2_seek.cls, cX2_seek, 7, none, 6, 0, 0) G (gw_Z X G (gw_M0 ad) σ (gw_D none (gw_M0 ad) (sk σ s n N)) gw_no 0 0) 0 0 (gw_M0 ad) ((itr j (skW s ((i : Nat) + 1)) (skI σ1 s ((i : Nat) + 1))).2) 86 [some (vR (some 121)), some (vI s), some (vI n), some (vI (wr (60 - mBes σ 74 s))), some (vI ((i : Nat) + 1)), some (vI (itr j (skW s ((i : Nat) + 1)) (skI σ1 s ((i : Nat) + 1))).1), some (vI (j : Nat))] [] := by
        refine up_ind _ (N) (fun j hj ihi => ?_)
        have h71 := skW_7 s ((i : Nat) + 1) j (skI σ1 s ((i : Nat) + 1))
        refine g_iload fx dX2_seek_86 rfl ?_
        refine g_ldcI fx dX2_seek_88 kc_RX2_67 (by unfold okI; omega) ?_
        refine g_icmp_ge (tgt := 140) fx dX2_seek_90 (by decide) (fun h90 => ?_) (fun h90 => ?_)
        · refine g_iinc1 fx dX2_seek_140 (by decide) rfl rfl (by unfold okI; omega) rfl ?_
          refine g_goto (tgt := 43) fx dX2_seek_143 (by decide) ?_
          refine g_kill 5 rfl (g_kill 6 rfl ?_)
          have hend : itr N (skW s ((i : Nat) + 1)) (skI σ1 s ((i : Nat) + 1)) = itr j (skW s ((i : Nat) + 1)) (skI σ1 s ((i : Nat) + 1)) := by
            first
            | rw [show N = j by omega]
            | (rw [show N = j + (N - j) by omega]; exact skW_st _ _ _ _ (by assumption) _)
          exact gw_cg (by rw [itr_s, hσ1, skS, hend]) rfl (ih (by omega))
        · refine g_iload fx dX2_seek_93 rfl ?_
          refine g_if_eq (tgt := 140) fx dX2_seek_95 (by decide) (fun h95 => ?_) (fun h95 => ?_)
          · refine g_iinc1 fx dX2_seek_140 (by decide) rfl rfl (by unfold okI; omega) rfl ?_
            refine g_goto (tgt := 43) fx dX2_seek_143 (by decide) ?_
            refine g_kill 5 rfl (g_kill 6 rfl ?_)
            have hend : itr N (skW s ((i : Nat) + 1)) (skI σ1 s ((i : Nat) + 1)) = itr j (skW s ((i : Nat) + 1)) (skI σ1 s ((i : Nat) + 1)) := by
              first
              | rw [show N = j by omega]
              | (rw [show N = j + (N - j) by omega]; exact skW_st _ _ _ _ (by assumption) _)
            exact gw_cg (by rw [itr_s, hσ1, skS, hend]) rfl (ih (by omega))
          · refine g_aload_n fx dX2_seek_98 rfl ?_
            refine g_getr fx dX2_seek_99 fk_RX2_26 o_121 rf_121_0 ?_
            refine g_iload_n fx dX2_seek_102 rfl ?_
            refine g_aload_n fx dX2_seek_103 rfl ?_
            refine g_getr fx dX2_seek_104 fk_RX2_14 o_121 rf_121_2 ?_
            refine g_iload fx dX2_seek_107 rfl ?_
            refine g_callVD0 fx dX2_seek_109 mv_RX2_68 my_X1_setWay (s_X1_setWay ad _ in_74 in_122 _ _) (mill_O in_74) rfl rfl rfl (Nat.le_of_ble_eq_true rfl) (by decide) (by decide) ?_
            refine g_aload_n fx dX2_seek_112 rfl ?_
            refine g_getr fx dX2_seek_113 fk_RX2_30 o_121 rf_121_1 ?_
            refine g_callVD0 fx dX2_seek_116 mv_RX2_72 my_X5_go (s_X5_go ad _ in_96) (run_O in_96) rfl rfl rfl (Nat.le_of_ble_eq_true rfl) (by decide) (by decide) ?_
            refine g_aload_n fx dX2_seek_119 rfl ?_
            refine g_iload_n fx dX2_seek_120 rfl ?_
            refine g_iload fx dX2_seek_121 rfl ?_
            refine g_callVD0 fx dX2_seek_123 mv_RX2_77 my_X2_weigh (s_X2_weigh ad _ _ _) o_121 rfl rfl rfl (Nat.le_of_ble_eq_true rfl) (by decide) (by decide) ?_
            refine g_aload_n fx dX2_seek_126 rfl ?_
            refine g_iload fx dX2_seek_127 rfl ?_
            refine g_callVD fx dX2_seek_129 mv_RX2_80 my_X2_findsNextWay (s_X2_findsNextWay ad _ _ (by omega)) o_121 rfl rfl rfl (Nat.le_of_ble_eq_true rfl) (by decide) (by decide) ?_
            refine g_istore fx dX2_seek_132 (by decide) rfl rfl ?_
            refine g_iinc1 fx dX2_seek_134 (by decide) rfl rfl (by unfold okI; omega) rfl ?_
            refine g_goto (tgt := 86) fx dX2_seek_137 (by decide) ?_
            exact gw_cg (by rw [itr_s, skW, if_neg (by omega)]) (by rw [itr_s, skW, if_neg (by omega)]; rfl) (ihi (by omega))
      exact loop86 0 (Nat.zero_le _)
  exact loop43 0 (Nat.zero_le _)
theorem sk0_le (σ : Sg) (s n : Int) : sk0 σ s n 121 7 ≤ n := by
  rw [sk0, su_ne _ _ (Or.inr (by decide)), su_same]; omega
def skM : Nat := 1000000
def skF (σ : Sg) (s n : Int) : Sg := sk σ s n skM
theorem s_X2_seekM (ad : Nat → Nat) (σ : Sg) (s n : Int) (hn : n ≤ 8) : gw_Sp yX2_seek cX2_seek 7 none 6 0 0 [vR (some 121), vI s, vI n] (gw_M0 ad) σ (gw_D none (gw_M0 ad) (skF σ s n)) gw_no := s_X2_seek ad σ s n skM rfl (by have := sk0_le σ s n; omega)
