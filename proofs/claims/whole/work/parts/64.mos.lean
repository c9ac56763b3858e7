theorem dX11_orders_34 : gw_dc cX11_orders 34 (.aload_n 0) 1 35 := ⟨by decide +kernel, rfl⟩
theorem dX11_orders_35 : gw_dc cX11_orders 35 (.iload_n 3) 1 36 := ⟨by decide +kernel, rfl⟩
theorem dX11_orders_36 : gw_dc cX11_orders 36 (.putfield 352) 3 39 := ⟨by decide +kernel, rfl⟩
theorem fk_RX11_352 : gw_fk RX11 352 11 31 42 0 false := ⟨_, _, _, ck_11, by decide, by decide, fun _ => rfl, fun h => absurd h (by decide), fun h => absurd h (by decide), rfl, Or.inl (gw_mem 1452 (by decide +kernel) rfl)⟩
theorem dX11_orders_39 : gw_dc cX11_orders 39 (.iconst 0) 1 40 := ⟨by decide +kernel, rfl⟩
theorem dX11_orders_40 : gw_dc cX11_orders 40 (.istore 4) 2 42 := ⟨by decide +kernel, rfl⟩
theorem dX11_orders_42 : gw_dc cX11_orders 42 (.iload 4) 2 44 := ⟨by decide +kernel, rfl⟩
theorem dX11_orders_44 : gw_dc cX11_orders 44 (.iload_n 2) 1 45 := ⟨by decide +kernel, rfl⟩
theorem dX11_orders_45 : gw_dc cX11_orders 45 (.if_icmp .ge 23) 3 48 := ⟨by decide +kernel, rfl⟩
theorem dX11_orders_68 : decode cX11_orders 68 = .ok (.return_, 1) := by decide +kernel
theorem dX11_orders_48 : gw_dc cX11_orders 48 (.aload_n 0) 1 49 := ⟨by decide +kernel, rfl⟩
theorem dX11_orders_49 : gw_dc cX11_orders 49 (.getfield 66) 3 52 := ⟨by decide +kernel, rfl⟩
theorem fk_RX11_66 : gw_fk RX11 66 11 30 42 1 true := ⟨_, _, _, ck_11, by decide, by decide, fun h => absurd h (by decide), fun h => absurd h (by decide), fun _ => Or.inr ⟨_, rfl⟩, rfl, Or.inl (gw_mem 1451 (by decide +kernel) rfl)⟩
theorem rf_223_30 {ad : Nat → Nat} : (gw_M0 ad).2.2 223 30 = some 241 := (by decide +kernel : gw_rh 223 30 = some 241)
theorem dX11_orders_52 : gw_dc cX11_orders 52 (.iload 4) 2 54 := ⟨by decide +kernel, rfl⟩
theorem dX11_orders_54 : gw_dc cX11_orders 54 (.aload_n 0) 1 55 := ⟨by decide +kernel, rfl⟩
theorem dX11_orders_55 : gw_dc cX11_orders 55 (.getfield 63) 3 58 := ⟨by decide +kernel, rfl⟩
theorem dX11_orders_58 : gw_dc cX11_orders 58 (.iload 4) 2 60 := ⟨by decide +kernel, rfl⟩
theorem dX11_orders_60 : gw_dc cX11_orders 60 (.iaload) 1 61 := ⟨by decide +kernel, rfl⟩
theorem dX11_orders_61 : gw_dc cX11_orders 61 (.iastore) 1 62 := ⟨by decide +kernel, rfl⟩
theorem o_241 {ad : Nat → Nat} : isO (gw_M0 ad) 241 21 60 := (by decide +kernel : 241 < gw_N0 ∧ gw_sh 241 = (21, 60))
theorem dX11_orders_62 : gw_dc cX11_orders 62 (.iinc 4 1) 3 65 := ⟨by decide +kernel, rfl⟩
theorem dX11_orders_65 : gw_dc cX11_orders 65 (.goto (-23)) 3 68 := ⟨by decide +kernel, rfl⟩
theorem dX11_orders_0 : gw_dc cX11_orders 0 (.iload_n 2) 1 1 := ⟨by decide +kernel, rfl⟩
theorem dX11_orders_1 : gw_dc cX11_orders 1 (.aload_n 0) 1 2 := ⟨by decide +kernel, rfl⟩
theorem dX11_orders_2 : gw_dc cX11_orders 2 (.getfield 9) 3 5 := ⟨by decide +kernel, rfl⟩
theorem dX11_orders_5 : gw_dc cX11_orders 5 (.sipush 668) 3 8 := ⟨by decide +kernel, rfl⟩
theorem dX11_orders_8 : gw_dc cX11_orders 8 (.iaload) 1 9 := ⟨by decide +kernel, rfl⟩
theorem dX11_orders_9 : gw_dc cX11_orders 9 (.if_icmp .ne 60) 3 12 := ⟨by decide +kernel, rfl⟩
theorem dX11_orders_12 : gw_dc cX11_orders 12 (.aload_n 0) 1 13 := ⟨by decide +kernel, rfl⟩
theorem dX11_orders_13 : gw_dc cX11_orders 13 (.invokevirtual 349) 3 16 := ⟨by decide +kernel, rfl⟩
theorem dX11_orders_16 : gw_dc cX11_orders 16 (.istore_n 3) 1 17 := ⟨by decide +kernel, rfl⟩
theorem dX11_orders_17 : gw_dc cX11_orders 17 (.aload_n 0) 1 18 := ⟨by decide +kernel, rfl⟩
theorem dX11_orders_18 : gw_dc cX11_orders 18 (.getfield 352) 3 21 := ⟨by decide +kernel, rfl⟩
theorem dX11_orders_21 : gw_dc cX11_orders 21 (.iconst (-1)) 1 22 := ⟨by decide +kernel, rfl⟩
theorem dX11_orders_22 : gw_dc cX11_orders 22 (.if_icmp .eq 12) 3 25 := ⟨by decide +kernel, rfl⟩
theorem dX11_orders_25 : gw_dc cX11_orders 25 (.iload_n 3) 1 26 := ⟨by decide +kernel, rfl⟩
theorem dX11_orders_26 : gw_dc cX11_orders 26 (.aload_n 0) 1 27 := ⟨by decide +kernel, rfl⟩
theorem dX11_orders_27 : gw_dc cX11_orders 27 (.getfield 352) 3 30 := ⟨by decide +kernel, rfl⟩
theorem dX11_orders_30 : gw_dc cX11_orders 30 (.if_icmp .lt 4) 3 33 := ⟨by decide +kernel, rfl⟩
theorem dX11_orders_33 : decode cX11_orders 33 = .ok (.return_, 1) := by decide +kernel
theorem dX11_orders_69 : gw_dc cX11_orders 69 (.iconst 0) 1 70 := ⟨by decide +kernel, rfl⟩
theorem dX11_orders_70 : gw_dc cX11_orders 70 (.istore_n 3) 1 71 := ⟨by decide +kernel, rfl⟩
theorem dX11_orders_71 : gw_dc cX11_orders 71 (.iload_n 3) 1 72 := ⟨by decide +kernel, rfl⟩
theorem dX11_orders_72 : gw_dc cX11_orders 72 (.aload_n 0) 1 73 := ⟨by decide +kernel, rfl⟩
theorem dX11_orders_73 : gw_dc cX11_orders 73 (.getfield 9) 3 76 := ⟨by decide +kernel, rfl⟩
theorem dX11_orders_76 : gw_dc cX11_orders 76 (.sipush 668) 3 79 := ⟨by decide +kernel, rfl⟩
theorem dX11_orders_79 : gw_dc cX11_orders 79 (.iaload) 1 80 := ⟨by decide +kernel, rfl⟩
theorem dX11_orders_80 : gw_dc cX11_orders 80 (.if_icmp .ge 40) 3 83 := ⟨by decide +kernel, rfl⟩
theorem dX11_orders_120 : decode cX11_orders 120 = .ok (.return_, 1) := by decide +kernel
theorem dX11_orders_83 : gw_dc cX11_orders 83 (.iload_n 1) 1 84 := ⟨by decide +kernel, rfl⟩
theorem dX11_orders_84 : gw_dc cX11_orders 84 (.iload_n 3) 1 85 := ⟨by decide +kernel, rfl⟩
theorem dX11_orders_85 : gw_dc cX11_orders 85 (.ishr) 1 86 := ⟨by decide +kernel, rfl⟩
theorem dX11_orders_86 : gw_dc cX11_orders 86 (.iconst 1) 1 87 := ⟨by decide +kernel, rfl⟩
theorem dX11_orders_87 : gw_dc cX11_orders 87 (.iand) 1 88 := ⟨by decide +kernel, rfl⟩
theorem dX11_orders_88 : gw_dc cX11_orders 88 (.iconst 1) 1 89 := ⟨by decide +kernel, rfl⟩
theorem dX11_orders_89 : gw_dc cX11_orders 89 (.if_icmp .ne 6) 3 92 := ⟨by decide +kernel, rfl⟩
theorem dX11_orders_95 : gw_dc cX11_orders 95 (.aload_n 0) 1 96 := ⟨by decide +kernel, rfl⟩
theorem dX11_orders_96 : gw_dc cX11_orders 96 (.getfield 63) 3 99 := ⟨by decide +kernel, rfl⟩
theorem dX11_orders_99 : gw_dc cX11_orders 99 (.iload_n 2) 1 100 := ⟨by decide +kernel, rfl⟩
theorem dX11_orders_100 : gw_dc cX11_orders 100 (.iload_n 3) 1 101 := ⟨by decide +kernel, rfl⟩
theorem dX11_orders_101 : gw_dc cX11_orders 101 (.iastore) 1 102 := ⟨by decide +kernel, rfl⟩
theorem dX11_orders_102 : gw_dc cX11_orders 102 (.aload_n 0) 1 103 := ⟨by decide +kernel, rfl⟩
theorem dX11_orders_103 : gw_dc cX11_orders 103 (.iload_n 1) 1 104 := ⟨by decide +kernel, rfl⟩
theorem dX11_orders_104 : gw_dc cX11_orders 104 (.iconst 1) 1 105 := ⟨by decide +kernel, rfl⟩
theorem dX11_orders_105 : gw_dc cX11_orders 105 (.iload_n 3) 1 106 := ⟨by decide +kernel, rfl⟩
theorem dX11_orders_106 : gw_dc cX11_orders 106 (.ishl) 1 107 := ⟨by decide +kernel, rfl⟩
theorem dX11_orders_107 : gw_dc cX11_orders 107 (.ior) 1 108 := ⟨by decide +kernel, rfl⟩
theorem dX11_orders_108 : gw_dc cX11_orders 108 (.iload_n 2) 1 109 := ⟨by decide +kernel, rfl⟩
theorem dX11_orders_109 : gw_dc cX11_orders 109 (.iconst 1) 1 110 := ⟨by decide +kernel, rfl⟩
theorem dX11_orders_110 : gw_dc cX11_orders 110 (.iadd) 1 111 := ⟨by decide +kernel, rfl⟩
theorem dX11_orders_111 : gw_dc cX11_orders 111 (.invokevirtual 355) 3 114 := ⟨by decide +kernel, rfl⟩
theorem mv_RX11_355 : gw_mv RX11 355 yX11_orders := ⟨gw_mem 1855 (by decide +kernel) rfl, gw_mem 1857 (by decide +kernel) rfl, gw_mem 82 (by decide +kernel) rfl⟩
theorem my_X11_orders : gw_my yX11_orders cX11_orders 5 none 2 := ⟨gw_mem 1858 (by decide +kernel) rfl, gw_mem 106 (by decide +kernel) rfl, by decide +kernel, by decide⟩
theorem dX11_orders_114 : gw_dc cX11_orders 114 (.iinc 3 1) 3 117 := ⟨by decide +kernel, rfl⟩
theorem dX11_orders_117 : gw_dc cX11_orders 117 (.goto (-46)) 3 120 := ⟨by decide +kernel, rfl⟩
theorem dX11_orders_92 : gw_dc cX11_orders 92 (.goto 22) 3 95 := ⟨by decide +kernel, rfl⟩
theorem dX11_best_74 : decode cX11_best 74 = .ok (.ireturn, 1) := by decide +kernel
theorem dX11_best_0 : gw_dc cX11_best 0 (.aload_n 0) 1 1 := ⟨by decide +kernel, rfl⟩
theorem dX11_best_1 : gw_dc cX11_best 1 (.iconst 0) 1 2 := ⟨by decide +kernel, rfl⟩
theorem dX11_best_2 : gw_dc cX11_best 2 (.putfield 88) 3 5 := ⟨by decide +kernel, rfl⟩
theorem dX11_best_5 : gw_dc cX11_best 5 (.aload_n 0) 1 6 := ⟨by decide +kernel, rfl⟩
theorem dX11_best_6 : gw_dc cX11_best 6 (.getfield 9) 3 9 := ⟨by decide +kernel, rfl⟩
theorem dX11_best_9 : gw_dc cX11_best 9 (.sipush 668) 3 12 := ⟨by decide +kernel, rfl⟩
theorem dX11_best_12 : gw_dc cX11_best 12 (.iaload) 1 13 := ⟨by decide +kernel, rfl⟩
theorem dX11_best_13 : gw_dc cX11_best 13 (.bipush 8) 2 15 := ⟨by decide +kernel, rfl⟩
theorem dX11_best_15 : gw_dc cX11_best 15 (.if_icmp .le 6) 3 18 := ⟨by decide +kernel, rfl⟩
theorem dX11_best_21 : gw_dc cX11_best 21 (.aload_n 0) 1 22 := ⟨by decide +kernel, rfl⟩
theorem dX11_best_22 : gw_dc cX11_best 22 (.iconst (-1)) 1 23 := ⟨by decide +kernel, rfl⟩
theorem dX11_best_23 : gw_dc cX11_best 23 (.putfield 352) 3 26 := ⟨by decide +kernel, rfl⟩
theorem dX11_best_26 : gw_dc cX11_best 26 (.aload_n 0) 1 27 := ⟨by decide +kernel, rfl⟩
theorem dX11_best_27 : gw_dc cX11_best 27 (.iconst 0) 1 28 := ⟨by decide +kernel, rfl⟩
theorem dX11_best_28 : gw_dc cX11_best 28 (.iconst 0) 1 29 := ⟨by decide +kernel, rfl⟩
theorem dX11_best_29 : gw_dc cX11_best 29 (.invokevirtual 355) 3 32 := ⟨by decide +kernel, rfl⟩
theorem dX11_best_32 : gw_dc cX11_best 32 (.iload_n 1) 1 33 := ⟨by decide +kernel, rfl⟩
theorem dX11_best_33 : gw_dc cX11_best 33 (.iconst (-1)) 1 34 := ⟨by decide +kernel, rfl⟩
theorem dX11_best_34 : gw_dc cX11_best 34 (.if_icmp .ne 10) 3 37 := ⟨by decide +kernel, rfl⟩
theorem dX11_best_44 : gw_dc cX11_best 44 (.iload_n 1) 1 45 := ⟨by decide +kernel, rfl⟩
theorem dX11_best_45 : gw_dc cX11_best 45 (.i2l) 1 46 := ⟨by decide +kernel, rfl⟩
theorem dX11_best_46 : gw_dc cX11_best 46 (.lconst 0) 1 47 := ⟨by decide +kernel, rfl⟩
theorem dX11_best_47 : gw_dc cX11_best 47 (.aload_n 0) 1 48 := ⟨by decide +kernel, rfl⟩
theorem dX11_best_48 : gw_dc cX11_best 48 (.getfield 9) 3 51 := ⟨by decide +kernel, rfl⟩
theorem dX11_best_51 : gw_dc cX11_best 51 (.sipush 668) 3 54 := ⟨by decide +kernel, rfl⟩
theorem dX11_best_54 : gw_dc cX11_best 54 (.iaload) 1 55 := ⟨by decide +kernel, rfl⟩
theorem dX11_best_55 : gw_dc cX11_best 55 (.iconst 1) 1 56 := ⟨by decide +kernel, rfl⟩
theorem dX11_best_56 : gw_dc cX11_best 56 (.isub) 1 57 := ⟨by decide +kernel, rfl⟩
theorem dX11_best_57 : gw_dc cX11_best 57 (.i2l) 1 58 := ⟨by decide +kernel, rfl⟩
theorem dX11_best_58 : gw_dc cX11_best 58 (.invokestatic 147) 3 61 := ⟨by decide +kernel, rfl⟩
theorem dX11_best_61 : gw_dc cX11_best 61 (.ifCond .eq 12) 3 64 := ⟨by decide +kernel, rfl⟩
theorem dX11_best_73 : gw_dc cX11_best 73 (.iconst (-1)) 1 74 := ⟨by decide +kernel, rfl⟩
theorem dX11_best_64 : gw_dc cX11_best 64 (.aload_n 0) 1 65 := ⟨by decide +kernel, rfl⟩
theorem dX11_best_65 : gw_dc cX11_best 65 (.getfield 66) 3 68 := ⟨by decide +kernel, rfl⟩
theorem dX11_best_68 : gw_dc cX11_best 68 (.iload_n 1) 1 69 := ⟨by decide +kernel, rfl⟩
theorem dX11_best_69 : gw_dc cX11_best 69 (.iaload) 1 70 := ⟨by decide +kernel, rfl⟩
theorem dX11_best_70 : gw_dc cX11_best 70 (.goto 4) 3 73 := ⟨by decide +kernel, rfl⟩
theorem dX11_best_37 : gw_dc cX11_best 37 (.aload_n 0) 1 38 := ⟨by decide +kernel, rfl⟩
theorem dX11_best_38 : gw_dc cX11_best 38 (.getfield 352) 3 41 := ⟨by decide +kernel, rfl⟩
theorem dX11_best_41 : gw_dc cX11_best 41 (.goto 33) 3 44 := ⟨by decide +kernel, rfl⟩
theorem dX11_best_18 : gw_dc cX11_best 18 (.bipush (-2)) 2 20 := ⟨by decide +kernel, rfl⟩
theorem dX11_best_20 : decode cX11_best 20 = .ok (.ireturn, 1) := by decide +kernel
theorem dX11_gap_0 : gw_dc cX11_gap 0 (.aload_n 0) 1 1 := ⟨by decide +kernel, rfl⟩
theorem dX11_gap_1 : gw_dc cX11_gap 1 (.iconst 0) 1 2 := ⟨by decide +kernel, rfl⟩
theorem dX11_gap_2 : gw_dc cX11_gap 2 (.putfield 88) 3 5 := ⟨by decide +kernel, rfl⟩
theorem dX11_gap_5 : gw_dc cX11_gap 5 (.aload_n 0) 1 6 := ⟨by decide +kernel, rfl⟩
theorem dX11_gap_6 : gw_dc cX11_gap 6 (.invokevirtual 305) 3 9 := ⟨by decide +kernel, rfl⟩
theorem dX11_gap_9 : gw_dc cX11_gap 9 (.iconst 1) 1 10 := ⟨by decide +kernel, rfl⟩
theorem dX11_gap_10 : gw_dc cX11_gap 10 (.if_icmp .le 5) 3 13 := ⟨by decide +kernel, rfl⟩
theorem dX11_gap_15 : gw_dc cX11_gap 15 (.aload_n 0) 1 16 := ⟨by decide +kernel, rfl⟩
theorem dX11_gap_16 : gw_dc cX11_gap 16 (.getfield 9) 3 19 := ⟨by decide +kernel, rfl⟩
theorem dX11_gap_19 : gw_dc cX11_gap 19 (.sipush 668) 3 22 := ⟨by decide +kernel, rfl⟩
theorem dX11_gap_22 : gw_dc cX11_gap 22 (.iaload) 1 23 := ⟨by decide +kernel, rfl⟩
theorem dX11_gap_23 : gw_dc cX11_gap 23 (.bipush 8) 2 25 := ⟨by decide +kernel, rfl⟩
theorem dX11_gap_25 : gw_dc cX11_gap 25 (.if_icmp .le 6) 3 28 := ⟨by decide +kernel, rfl⟩
theorem dX11_gap_31 : gw_dc cX11_gap 31 (.aload_n 0) 1 32 := ⟨by decide +kernel, rfl⟩
theorem dX11_gap_32 : gw_dc cX11_gap 32 (.iconst (-1)) 1 33 := ⟨by decide +kernel, rfl⟩
theorem dX11_gap_33 : gw_dc cX11_gap 33 (.putfield 352) 3 36 := ⟨by decide +kernel, rfl⟩
theorem dX11_gap_36 : gw_dc cX11_gap 36 (.aload_n 0) 1 37 := ⟨by decide +kernel, rfl⟩
theorem dX11_gap_37 : gw_dc cX11_gap 37 (.iconst 0) 1 38 := ⟨by decide +kernel, rfl⟩
theorem dX11_gap_38 : gw_dc cX11_gap 38 (.iconst 0) 1 39 := ⟨by decide +kernel, rfl⟩
theorem dX11_gap_39 : gw_dc cX11_gap 39 (.invokevirtual 355) 3 42 := ⟨by decide +kernel, rfl⟩
theorem dX11_gap_42 : gw_dc cX11_gap 42 (.aload_n 0) 1 43 := ⟨by decide +kernel, rfl⟩
theorem dX11_gap_43 : gw_dc cX11_gap 43 (.invokevirtual 358) 3 46 := ⟨by decide +kernel, rfl⟩
theorem mv_RX11_358 : gw_mv RX11 358 yX11_costOfRun := ⟨gw_mem 1863 (by decide +kernel) rfl, gw_mem 1865 (by decide +kernel) rfl, gw_mem 83 (by decide +kernel) rfl⟩
theorem my_X11_costOfRun : gw_my yX11_costOfRun cX11_costOfRun 1 (some .int) 0 := ⟨gw_mem 1866 (by decide +kernel) rfl, gw_mem 106 (by decide +kernel) rfl, by decide +kernel, by decide⟩
theorem dX11_gap_46 : gw_dc cX11_gap 46 (.aload_n 0) 1 47 := ⟨by decide +kernel, rfl⟩
theorem dX11_gap_47 : gw_dc cX11_gap 47 (.getfield 352) 3 50 := ⟨by decide +kernel, rfl⟩
theorem dX11_gap_50 : gw_dc cX11_gap 50 (.isub) 1 51 := ⟨by decide +kernel, rfl⟩
theorem dX11_gap_51 : decode cX11_gap 51 = .ok (.ireturn, 1) := by decide +kernel
theorem dX11_gap_28 : gw_dc cX11_gap 28 (.bipush (-2)) 2 30 := ⟨by decide +kernel, rfl⟩
theorem dX11_gap_30 : decode cX11_gap 30 = .ok (.ireturn, 1) := by decide +kernel
theorem dX11_gap_13 : gw_dc cX11_gap 13 (.iconst (-1)) 1 14 := ⟨by decide +kernel, rfl⟩
theorem dX11_gap_14 : decode cX11_gap 14 = .ok (.ireturn, 1) := by decide +kernel
theorem dX11_priceOf_0 : gw_dc cX11_priceOf 0 (.aload_n 0) 1 1 := ⟨by decide +kernel, rfl⟩
theorem dX11_priceOf_1 : gw_dc cX11_priceOf 1 (.invokevirtual 323) 3 4 := ⟨by decide +kernel, rfl⟩
theorem dX11_priceOf_4 : gw_dc cX11_priceOf 4 (.aload_n 0) 1 5 := ⟨by decide +kernel, rfl⟩
theorem dX11_priceOf_5 : gw_dc cX11_priceOf 5 (.iload_n 1) 1 6 := ⟨by decide +kernel, rfl⟩
theorem dX11_priceOf_6 : gw_dc cX11_priceOf 6 (.iconst 4) 1 7 := ⟨by decide +kernel, rfl⟩
theorem dX11_priceOf_7 : gw_dc cX11_priceOf 7 (.invokevirtual 242) 3 10 := ⟨by decide +kernel, rfl⟩
theorem dX11_priceOf_10 : gw_dc cX11_priceOf 10 (.aload_n 0) 1 11 := ⟨by decide +kernel, rfl⟩
theorem dX11_priceOf_11 : gw_dc cX11_priceOf 11 (.iload_n 1) 1 12 := ⟨by decide +kernel, rfl⟩
theorem dX11_priceOf_12 : gw_dc cX11_priceOf 12 (.invokevirtual 320) 3 15 := ⟨by decide +kernel, rfl⟩
theorem dX11_priceOf_15 : gw_dc cX11_priceOf 15 (.imul) 1 16 := ⟨by decide +kernel, rfl⟩
theorem dX11_priceOf_16 : gw_dc cX11_priceOf 16 (.aload_n 0) 1 17 := ⟨by decide +kernel, rfl⟩
theorem dX11_priceOf_17 : gw_dc cX11_priceOf 17 (.getfield 9) 3 20 := ⟨by decide +kernel, rfl⟩
theorem dX11_priceOf_20 : gw_dc cX11_priceOf 20 (.iconst 3) 1 21 := ⟨by decide +kernel, rfl⟩
theorem dX11_priceOf_21 : gw_dc cX11_priceOf 21 (.iaload) 1 22 := ⟨by decide +kernel, rfl⟩
theorem dX11_priceOf_22 : gw_dc cX11_priceOf 22 (.aload_n 0) 1 23 := ⟨by decide +kernel, rfl⟩
theorem dX11_priceOf_23 : gw_dc cX11_priceOf 23 (.iload_n 1) 1 24 := ⟨by decide +kernel, rfl⟩
theorem dX11_priceOf_24 : gw_dc cX11_priceOf 24 (.bipush 6) 2 26 := ⟨by decide +kernel, rfl⟩
theorem dX11_priceOf_26 : gw_dc cX11_priceOf 26 (.invokevirtual 242) 3 29 := ⟨by decide +kernel, rfl⟩
theorem dX11_priceOf_29 : gw_dc cX11_priceOf 29 (.imul) 1 30 := ⟨by decide +kernel, rfl⟩
theorem dX11_priceOf_30 : gw_dc cX11_priceOf 30 (.iadd) 1 31 := ⟨by decide +kernel, rfl⟩
theorem dX11_priceOf_31 : decode cX11_priceOf 31 = .ok (.ireturn, 1) := by decide +kernel
/-! The model, 18: the best order, partings, walked -/
set_option maxRecDepth 4000 in
theorem s_X11_orders_8 (ad : Nat → Nat) (σ : Sg)  (used : Int) (dp : Int) (hd9 : dp = ((8 : Nat) : Int)) (hT : TW (σ 224)) (h8 : σ 224 668 ≤ 8) (hdp : ((8 : Nat) : Int) ≤ σ 224 668) (hO : ∀ k : Nat, k < 8 → 0 ≤ σ 240 k ∧ σ 240 k < σ 224 668) : gw_Sp yX11_orders cX11_orders 5 none 6 0 0 [vR (some 223), vI used, vI dp] (gw_M0 ad) σ (gw_D none (gw_M0 ad) (orF 1 used 8 σ)) gw_no := by
  refine gw_Sp.of [some (vR (some 223)), some (vI used), some (vI dp), none, none] (by decide +kernel) rfl (Nat.le_of_ble_eq_true rfl) ?_
  intro X G fx het hnm
  subst hd9
  have hP0 := hT.p0
  have j34 : ((8 : Nat) : Int) = σ 224 668 → ¬ (nCoo σ 223 31 ≠ -1 ∧ nCoo σ 223 31 ≤ nCo (nCoo σ)) → gw_W X (yX11_orders.cls, cX11_orders, 5, none, 6, 0, 0) G (gw_Z X G (gw_M0 ad) σ (gw_D none (gw_M0 ad) (orF 1 used 8 σ)) gw_no 0 0) 0 0 (gw_M0 ad) ((nCoo σ)) 34 [some (vR (some 223)), some (vI used), some (vI ((8 : Nat) : Int)), some (vI (nCo (nCoo σ))), none] [] := by
    intro hj1 hj2
    refine g_aload_n fx dX11_orders_34 rfl ?_
    refine g_iload_n fx dX11_orders_35 rfl ?_
    refine g_puti fx dX11_orders_36 fk_RX11_352 o_223 ?_
    refine g_iconst fx dX11_orders_39 (by unfold okI; omega) ?_
    refine g_istore fx dX11_orders_40 (by decide) rfl rfl ?_
    have loop42 : ∀ k : Nat, k ≤ 8 → gw_W X (yX11_orders.cls, cX11_orders, 5, none, 6, 0, 0) G (gw_Z X G (gw_M0 ad) σ (gw_D none (gw_M0 ad) (orF 1 used 8 σ)) gw_no 0 0) 0 0 (gw_M0 ad) ((itr k obS (su (nCoo σ) 223 31 (nCo (nCoo σ))))) 42 [some (vR (some 223)), some (vI used), some (vI ((8 : Nat) : Int)), some (vI (nCo (nCoo σ))), some (vI (k : Nat))] [] := by
      refine up_ind _ (8) (fun k hk ih => ?_)
      refine g_iload fx dX11_orders_42 rfl ?_
      refine g_iload_n fx dX11_orders_44 rfl ?_
      refine g_icmp_ge (tgt := 68) fx dX11_orders_45 (by decide) (fun h45 => ?_) (fun h45 => ?_)
      · exact g_vret fx rfl dX11_orders_68 (by decide) (by decide) (gw_le.rf _) ⟨rfl, rfl, by rw [orF, if_pos hj1, orL, if_neg hj2, show (8 : Nat) = k by omega]⟩
      · refine g_aload_n fx dX11_orders_48 rfl ?_
        refine g_getr fx dX11_orders_49 fk_RX11_66 o_223 rf_223_30 ?_
        refine g_iload fx dX11_orders_52 rfl ?_
        refine g_aload_n fx dX11_orders_54 rfl ?_
        refine g_getr fx dX11_orders_55 fk_RX11_63 o_223 rf_223_29 ?_
        refine g_iload fx dX11_orders_58 rfl ?_
        refine g_iald fx dX11_orders_60 o_240 (by omega) (by show _ < ((60 : Nat) : Int); omega) ?_
        rw [show ((k : Nat) : Int).toNat = k from rfl]
        refine g_iast fx dX11_orders_61 o_241 (by omega) (by show _ < ((60 : Nat) : Int); omega) ?_
        refine g_iinc1 fx dX11_orders_62 (by decide) rfl rfl (by unfold okI; omega) rfl ?_
        refine g_goto (tgt := 42) fx dX11_orders_65 (by decide) ?_
        exact gw_cg (by rw [itr_s, obS] <;> rfl) (by rw [show ((k : Nat) : Int) + 1 = ((k + 1 : Nat) : Int) by omega] <;> rfl) (ih (by omega))
    exact loop42 0 (Nat.zero_le _)
  refine g_iload_n fx dX11_orders_0 rfl ?_
  refine g_aload_n fx dX11_orders_1 rfl ?_
  refine g_getr fx dX11_orders_2 fk_RX11_9 o_223 rf_223_0 ?_
  refine g_sipush fx dX11_orders_5 (by decide) ?_
  refine g_iald fx dX11_orders_8 o_224 (by decide) (by decide) ?_
  rw [show Int.toNat 668 = 668 from rfl]
  refine g_icmp_ne (tgt := 69) fx dX11_orders_9 (by decide) (fun h9 => ?_) (fun h9 => ?_)
  · exfalso; omega
  · refine g_aload_n fx dX11_orders_12 rfl ?_
    refine g_callVD fx dX11_orders_13 mv_RX11_349 my_X11_costOfOrder (s_X11_costOfOrder ad _ hT (fun k hk => hO k (by omega))) o_223 rfl rfl rfl (Nat.le_of_ble_eq_true rfl) (by decide) (by decide) ?_
    refine g_istore_n fx dX11_orders_16 (by decide) rfl rfl ?_
    refine g_aload_n fx dX11_orders_17 rfl ?_
    refine g_geti fx dX11_orders_18 fk_RX11_352 (by decide) o_223 ?_
    refine g_iconst fx dX11_orders_21 (by unfold okI; omega) ?_
    refine g_icmp_eq (tgt := 34) fx dX11_orders_22 (by decide) (fun h22 => ?_) (fun h22 => ?_)
    · exact j34 h9 (by omega)
    · refine g_iload_n fx dX11_orders_25 rfl ?_
      refine g_aload_n fx dX11_orders_26 rfl ?_
      refine g_geti fx dX11_orders_27 fk_RX11_352 (by decide) o_223 ?_
      refine g_icmp_lt (tgt := 34) fx dX11_orders_30 (by decide) (fun h30 => ?_) (fun h30 => ?_)
      · exact j34 h9 (by omega)
      · exact g_vret fx rfl dX11_orders_33 (by decide) (by decide) (gw_le.rf _) ⟨rfl, rfl, by rw [orF, if_pos h9, orL, if_pos (by omega)]⟩
set_option maxRecDepth 4000 in
theorem s_X11_orders_7 (ad : Nat → Nat) (σ : Sg)  (used : Int) (dp : Int) (hd9 : dp = ((7 : Nat) : Int)) (hT : TW (σ 224)) (h8 : σ 224 668 ≤ 8) (hdp : ((7 : Nat) : Int) ≤ σ 224 668) (hO : ∀ k : Nat, k < 7 → 0 ≤ σ 240 k ∧ σ 240 k < σ 224 668) : gw_Sp yX11_orders cX11_orders 5 none 7 0 0 [vR (some 223), vI used, vI dp] (gw_M0 ad) σ (gw_D none (gw_M0 ad) (orF 2 used 7 σ)) gw_no := by
  refine gw_Sp.of [some (vR (some 223)), some (vI used), some (vI dp), none, none] (by decide +kernel) rfl (Nat.le_of_ble_eq_true rfl) ?_
  intro X G fx het hnm
  subst hd9
  have hP0 := hT.p0
  have j34 : ((7 : Nat) : Int) = σ 224 668 → ¬ (nCoo σ 223 31 ≠ -1 ∧ nCoo σ 223 31 ≤ nCo (nCoo σ)) → gw_W X (yX11_orders.cls, cX11_orders, 5, none, 7, 0, 0) G (gw_Z X G (gw_M0 ad) σ (gw_D none (gw_M0 ad) (orF 2 used 7 σ)) gw_no 0 0) 0 0 (gw_M0 ad) ((nCoo σ)) 34 [some (vR (some 223)), some (vI used), some (vI ((7 : Nat) : Int)), some (vI (nCo (nCoo σ))), none] [] := by
    intro hj1 hj2
    refine g_aload_n fx dX11_orders_34 rfl ?_
    refine g_iload_n fx dX11_orders_35 rfl ?_
    refine g_puti fx dX11_orders_36 fk_RX11_352 o_223 ?_
    refine g_iconst fx dX11_orders_39 (by unfold okI; omega) ?_
    refine g_istore fx dX11_orders_40 (by decide) rfl rfl ?_
    have loop42 : ∀ k : Nat, k ≤ 7 → gw_W X (yX11_orders.cls, cX11_orders, 5, none, 7, 0, 0) G (gw_Z X G (gw_M0 ad) σ (gw_D none (gw_M0 ad) (orF 2 used 7 σ)) gw_no 0 0) 0 0 (gw_M0 ad) ((itr k obS (su (nCoo σ) 223 31 (nCo (nCoo σ))))) 42 [some (vR (some 223)), some (vI used), some (vI ((7 : Nat) : Int)), some (vI (nCo (nCoo σ))), some (vI (k : Nat))] [] := by
      refine up_ind _ (7) (fun k hk ih => ?_)
      refine g_iload fx dX11_orders_42 rfl ?_
      refine g_iload_n fx dX11_orders_44 rfl ?_
      refine g_icmp_ge (tgt := 68) fx dX11_orders_45 (by decide) (fun h45 => ?_) (fun h45 => ?_)
      · exact g_vret fx rfl dX11_orders_68 (by decide) (by decide) (gw_le.rf _) ⟨rfl, rfl, by rw [orF, if_pos hj1, orL, if_neg hj2, show (7 : Nat) = k by omega]⟩
      · refine g_aload_n fx dX11_orders_48 rfl ?_
        refine g_getr fx dX11_orders_49 fk_RX11_66 o_223 rf_223_30 ?_
        refine g_iload fx dX11_orders_52 rfl ?_
        refine g_aload_n fx dX11_orders_54 rfl ?_
        refine g_getr fx dX11_orders_55 fk_RX11_63 o_223 rf_223_29 ?_
        refine g_iload fx dX11_orders_58 rfl ?_
        refine g_iald fx dX11_orders_60 o_240 (by omega) (by show _ < ((60 : Nat) : Int); omega) ?_
        rw [show ((k : Nat) : Int).toNat = k from rfl]
        refine g_iast fx dX11_orders_61 o_241 (by omega) (by show _ < ((60 : Nat) : Int); omega) ?_
        refine g_iinc1 fx dX11_orders_62 (by decide) rfl rfl (by unfold okI; omega) rfl ?_
        refine g_goto (tgt := 42) fx dX11_orders_65 (by decide) ?_
        exact gw_cg (by rw [itr_s, obS] <;> rfl) (by rw [show ((k : Nat) : Int) + 1 = ((k + 1 : Nat) : Int) by omega] <;> rfl) (ih (by omega))
    exact loop42 0 (Nat.zero_le _)
  refine g_iload_n fx dX11_orders_0 rfl ?_
  refine g_aload_n fx dX11_orders_1 rfl ?_
  refine g_getr fx dX11_orders_2 fk_RX11_9 o_223 rf_223_0 ?_
  refine g_sipush fx dX11_orders_5 (by decide) ?_
  refine g_iald fx dX11_orders_8 o_224 (by decide) (by decide) ?_
  rw [show Int.toNat 668 = 668 from rfl]
  refine g_icmp_ne (tgt := 69) fx dX11_orders_9 (by decide) (fun h9 => ?_) (fun h9 => ?_)
  · refine g_iconst fx dX11_orders_69 (by unfold okI; omega) ?_
    refine g_istore_n fx dX11_orders_70 (by decide) rfl rfl ?_
    have loop71 : ∀ p : Nat, p ≤ (σ 224 668).toNat → gw_W X (yX11_orders.cls, cX11_orders, 5, none, 7, 0, 0) G (gw_Z X G (gw_M0 ad) σ (gw_D none (gw_M0 ad) (orF 2 used 7 σ)) gw_no 0 0) 0 0 (gw_M0 ad) ((itr p (orS (orF 1) used 7) σ)) 71 [some (vR (some 223)), some (vI used), some (vI ((7 : Nat) : Int)), some (vI (p : Nat)), none] [] := by
      refine up_ind _ ((σ 224 668).toNat) (fun p hp ih => ?_)
      have hk1 := orI_kp 1 used 7 hT p
      have e668 : (itr p (orS (orF 1) used 7) σ) 224 668 = σ 224 668 := by rw [hk1.1]
      refine g_iload_n fx dX11_orders_71 rfl ?_
      refine g_aload_n fx dX11_orders_72 rfl ?_
      refine g_getr fx dX11_orders_73 fk_RX11_9 o_223 rf_223_0 ?_
      refine g_sipush fx dX11_orders_76 (by decide) ?_
      refine g_iald fx dX11_orders_79 o_224 (by decide) (by decide) ?_
      rw [show Int.toNat 668 = 668 from rfl]
      refine g_icmp_ge (tgt := 120) fx dX11_orders_80 (by decide) (fun h80 => ?_) (fun h80 => ?_)
      · exact g_vret fx rfl dX11_orders_120 (by decide) (by decide) (gw_le.rf _) ⟨rfl, rfl, by rw [orF, if_neg (by omega), show (σ 224 668).toNat = p by omega]⟩
      · refine g_iload_n fx dX11_orders_83 rfl ?_
        refine g_iload_n fx dX11_orders_84 rfl ?_
        refine g_ishr fx dX11_orders_85 ?_
        refine g_iconst fx dX11_orders_86 (by unfold okI; omega) ?_
        refine g_iand fx dX11_orders_87 ?_
        refine g_iconst fx dX11_orders_88 (by unfold okI; omega) ?_
        refine g_icmp_ne (tgt := 95) fx dX11_orders_89 (by decide) (fun h89 => ?_) (fun h89 => ?_)
        · refine g_aload_n fx dX11_orders_95 rfl ?_
          refine g_getr fx dX11_orders_96 fk_RX11_63 o_223 rf_223_29 ?_
          refine g_iload_n fx dX11_orders_99 rfl ?_
          refine g_iload_n fx dX11_orders_100 rfl ?_
          refine g_iast fx dX11_orders_101 o_240 (by omega) (by show _ < ((60 : Nat) : Int); omega) ?_
          rw [show ((7 : Nat) : Int).toNat = 7 from rfl]
          refine g_aload_n fx dX11_orders_102 rfl ?_
          refine g_iload_n fx dX11_orders_103 rfl ?_
          refine g_iconst fx dX11_orders_104 (by unfold okI; omega) ?_
          refine g_iload_n fx dX11_orders_105 rfl ?_
          refine g_ishl fx dX11_orders_106 ?_
          refine g_ior fx dX11_orders_107 ?_
          refine g_iload_n fx dX11_orders_108 rfl ?_
          refine g_iconst fx dX11_orders_109 (by unfold okI; omega) ?_
          refine g_iadd fx dX11_orders_110 ?_
          refine g_callVD0 fx dX11_orders_111 mv_RX11_355 my_X11_orders (s_X11_orders_8 ad _ _ _ (by decide) (show TW ((itr p (orS (orF 1) used 7) σ) 224) by rw [hk1.1]; exact hT) (show (itr p (orS (orF 1) used 7) σ) 224 668 ≤ 8 by omega) (show ((8 : Nat) : Int) ≤ (itr p (orS (orF 1) used 7) σ) 224 668 by omega) (by
            intro k hk
            show 0 ≤ (su (itr p (orS (orF 1) used 7) σ) 240 7 ((p : Nat) : Int)) 240 k ∧ (su (itr p (orS (orF 1) used 7) σ) 240 7 ((p : Nat) : Int)) 240 k < (itr p (orS (orF 1) used 7) σ) 224 668
            by_cases e : k = 7
            · subst e; rw [su_same]; omega
            · rw [su_ne _ _ (Or.inr e), hk1.2 k (by omega), e668]; exact hO k (by omega))) o_223 rfl rfl rfl (Nat.le_of_ble_eq_true rfl) (by decide) (by decide) ?_
          refine g_iinc1 fx dX11_orders_114 (by decide) rfl rfl (by unfold okI; omega) rfl ?_
          refine g_goto (tgt := 71) fx dX11_orders_117 (by decide) ?_
          exact gw_cg (by rw [itr_s, orS]; (repeat first | rw [if_pos (by omega)] | rw [if_neg (by omega)]) <;> rfl) (by rw [show ((p : Nat) : Int) + 1 = ((p + 1 : Nat) : Int) by omega] <;> rfl) (ih (by omega))
        · refine g_goto (tgt := 114) fx dX11_orders_92 (by decide) ?_
          refine g_iinc1 fx dX11_orders_114 (by decide) rfl rfl (by unfold okI; omega) rfl ?_
          refine g_goto (tgt := 71) fx dX11_orders_117 (by decide) ?_
          exact gw_cg (by rw [itr_s, orS]; (repeat first | rw [if_pos (by omega)] | rw [if_neg (by omega)]) <;> rfl) (by rw [show ((p : Nat) : Int) + 1 = ((p + 1 : Nat) : Int) by omega] <;> rfl) (ih (by omega))
    exact loop71 0 (Nat.zero_le _)
  · refine g_aload_n fx dX11_orders_12 rfl ?_
    refine g_callVD fx dX11_orders_13 mv_RX11_349 my_X11_costOfOrder (s_X11_costOfOrder ad _ hT (fun k hk => hO k (by omega))) o_223 rfl rfl rfl (Nat.le_of_ble_eq_true rfl) (by decide) (by decide) ?_
    refine g_istore_n fx dX11_orders_16 (by decide) rfl rfl ?_
    refine g_aload_n fx dX11_orders_17 rfl ?_
    refine g_geti fx dX11_orders_18 fk_RX11_352 (by decide) o_223 ?_
    refine g_iconst fx dX11_orders_21 (by unfold okI; omega) ?_
    refine g_icmp_eq (tgt := 34) fx dX11_orders_22 (by decide) (fun h22 => ?_) (fun h22 => ?_)
    · exact j34 h9 (by omega)
    · refine g_iload_n fx dX11_orders_25 rfl ?_
      refine g_aload_n fx dX11_orders_26 rfl ?_
      refine g_geti fx dX11_orders_27 fk_RX11_352 (by decide) o_223 ?_
      refine g_icmp_lt (tgt := 34) fx dX11_orders_30 (by decide) (fun h30 => ?_) (fun h30 => ?_)
      · exact j34 h9 (by omega)
      · exact g_vret fx rfl dX11_orders_33 (by decide) (by decide) (gw_le.rf _) ⟨rfl, rfl, by rw [orF, if_pos h9, orL, if_pos (by omega)]⟩
set_option maxRecDepth 4000 in
theorem s_X11_orders_6 (ad : Nat → Nat) (σ : Sg)  (used : Int) (dp : Int) (hd9 : dp = ((6 : Nat) : Int)) (hT : TW (σ 224)) (h8 : σ 224 668 ≤ 8) (hdp : ((6 : Nat) : Int) ≤ σ 224 668) (hO : ∀ k : Nat, k < 6 → 0 ≤ σ 240 k ∧ σ 240 k < σ 224 668) : gw_Sp yX11_orders cX11_orders 5 none 8 0 0 [vR (some 223), vI used, vI dp] (gw_M0 ad) σ (gw_D none (gw_M0 ad) (orF 3 used 6 σ)) gw_no := by
  refine gw_Sp.of [some (vR (some 223)), some (vI used), some (vI dp), none, none] (by decide +kernel) rfl (Nat.le_of_ble_eq_true rfl) ?_
  intro X G fx het hnm
  subst hd9
  have hP0 := hT.p0
  have j34 : ((6 : Nat) : Int) = σ 224 668 → ¬ (nCoo σ 223 31 ≠ -1 ∧ nCoo σ 223 31 ≤ nCo (nCoo σ)) → gw_W X (yX11_orders.cls, cX11_orders, 5, none, 8, 0, 0) G (gw_Z X G (gw_M0 ad) σ (gw_D none (gw_M0 ad) (orF 3 used 6 σ)) gw_no 0 0) 0 0 (gw_M0 ad) ((nCoo σ)) 34 [some (vR (some 223)), some (vI used), some (vI ((6 : Nat) : Int)), some (vI (nCo (nCoo σ))), none] [] := by
    intro hj1 hj2
    refine g_aload_n fx dX11_orders_34 rfl ?_
    refine g_iload_n fx dX11_orders_35 rfl ?_
    refine g_puti fx dX11_orders_36 fk_RX11_352 o_223 ?_
    refine g_iconst fx dX11_orders_39 (by unfold okI; omega) ?_
    refine g_istore fx dX11_orders_40 (by decide) rfl rfl ?_
    have loop42 : ∀ k : Nat, k ≤ 6 → gw_W X (yX11_orders.cls, cX11_orders, 5, none, 8, 0, 0) G (gw_Z X G (gw_M0 ad) σ (gw_D none (gw_M0 ad) (orF 3 used 6 σ)) gw_no 0 0) 0 0 (gw_M0 ad) ((itr k obS (su (nCoo σ) 223 31 (nCo (nCoo σ))))) 42 [some (vR (some 223)), some (vI used), some (vI ((6 : Nat) : Int)), some (vI (nCo (nCoo σ))), some (vI (k : Nat))] [] := by
      refine up_ind _ (6) (fun k hk ih => ?_)
      refine g_iload fx dX11_orders_42 rfl ?_
      refine g_iload_n fx dX11_orders_44 rfl ?_
      refine g_icmp_ge (tgt := 68) fx dX11_orders_45 (by decide) (fun h45 => ?_) (fun h45 => ?_)
      · exact g_vret fx rfl dX11_orders_68 (by decide) (by decide) (gw_le.rf _) ⟨rfl, rfl, by rw [orF, if_pos hj1, orL, if_neg hj2, show (6 : Nat) = k by omega]⟩
      · refine g_aload_n fx dX11_orders_48 rfl ?_
        refine g_getr fx dX11_orders_49 fk_RX11_66 o_223 rf_223_30 ?_
        refine g_iload fx dX11_orders_52 rfl ?_
        refine g_aload_n fx dX11_orders_54 rfl ?_
        refine g_getr fx dX11_orders_55 fk_RX11_63 o_223 rf_223_29 ?_
        refine g_iload fx dX11_orders_58 rfl ?_
        refine g_iald fx dX11_orders_60 o_240 (by omega) (by show _ < ((60 : Nat) : Int); omega) ?_
        rw [show ((k : Nat) : Int).toNat = k from rfl]
        refine g_iast fx dX11_orders_61 o_241 (by omega) (by show _ < ((60 : Nat) : Int); omega) ?_
        refine g_iinc1 fx dX11_orders_62 (by decide) rfl rfl (by unfold okI; omega) rfl ?_
        refine g_goto (tgt := 42) fx dX11_orders_65 (by decide) ?_
        exact gw_cg (by rw [itr_s, obS] <;> rfl) (by rw [show ((k : Nat) : Int) + 1 = ((k + 1 : Nat) : Int) by omega] <;> rfl) (ih (by omega))
    exact loop42 0 (Nat.zero_le _)
  refine g_iload_n fx dX11_orders_0 rfl ?_
  refine g_aload_n fx dX11_orders_1 rfl ?_
  refine g_getr fx dX11_orders_2 fk_RX11_9 o_223 rf_223_0 ?_
  refine g_sipush fx dX11_orders_5 (by decide) ?_
  refine g_iald fx dX11_orders_8 o_224 (by decide) (by decide) ?_
  rw [show Int.toNat 668 = 668 from rfl]
  refine g_icmp_ne (tgt := 69) fx dX11_orders_9 (by decide) (fun h9 => ?_) (fun h9 => ?_)
  · refine g_iconst fx dX11_orders_69 (by unfold okI; omega) ?_
    refine g_istore_n fx dX11_orders_70 (by decide) rfl rfl ?_
    have loop71 : ∀ p : Nat, p ≤ (σ 224 668).toNat → gw_W X (yX11_orders.cls, cX11_orders, 5, none, 8, 0, 0) G (gw_Z X G (gw_M0 ad) σ (gw_D none (gw_M0 ad) (orF 3 used 6 σ)) gw_no 0 0) 0 0 (gw_M0 ad) ((itr p (orS (orF 2) used 6) σ)) 71 [some (vR (some 223)), some (vI used), some (vI ((6 : Nat) : Int)), some (vI (p : Nat)), none] [] := by
      refine up_ind _ ((σ 224 668).toNat) (fun p hp ih => ?_)
      have hk1 := orI_kp 2 used 6 hT p
      have e668 : (itr p (orS (orF 2) used 6) σ) 224 668 = σ 224 668 := by rw [hk1.1]
      refine g_iload_n fx dX11_orders_71 rfl ?_
      refine g_aload_n fx dX11_orders_72 rfl ?_
      refine g_getr fx dX11_orders_73 fk_RX11_9 o_223 rf_223_0 ?_
      refine g_sipush fx dX11_orders_76 (by decide) ?_
      refine g_iald fx dX11_orders_79 o_224 (by decide) (by decide) ?_
      rw [show Int.toNat 668 = 668 from rfl]
      refine g_icmp_ge (tgt := 120) fx dX11_orders_80 (by decide) (fun h80 => ?_) (fun h80 => ?_)
      · exact g_vret fx rfl dX11_orders_120 (by decide) (by decide) (gw_le.rf _) ⟨rfl, rfl, by rw [orF, if_neg (by omega), show (σ 224 668).toNat = p by omega]⟩
      · refine g_iload_n fx dX11_orders_83 rfl ?_
        refine g_iload_n fx dX11_orders_84 rfl ?_
        refine g_ishr fx dX11_orders_85 ?_
        refine g_iconst fx dX11_orders_86 (by unfold okI; omega) ?_
        refine g_iand fx dX11_orders_87 ?_
        refine g_iconst fx dX11_orders_88 (by unfold okI; omega) ?_
        refine g_icmp_ne (tgt := 95) fx dX11_orders_89 (by decide) (fun h89 => ?_) (fun h89 => ?_)
        · refine g_aload_n fx dX11_orders_95 rfl ?_
          refine g_getr fx dX11_orders_96 fk_RX11_63 o_223 rf_223_29 ?_
          refine g_iload_n fx dX11_orders_99 rfl ?_
          refine g_iload_n fx dX11_orders_100 rfl ?_
          refine g_iast fx dX11_orders_101 o_240 (by omega) (by show _ < ((60 : Nat) : Int); omega) ?_
          rw [show ((6 : Nat) : Int).toNat = 6 from rfl]
          refine g_aload_n fx dX11_orders_102 rfl ?_
          refine g_iload_n fx dX11_orders_103 rfl ?_
          refine g_iconst fx dX11_orders_104 (by unfold okI; omega) ?_
          refine g_iload_n fx dX11_orders_105 rfl ?_
          refine g_ishl fx dX11_orders_106 ?_
          refine g_ior fx dX11_orders_107 ?_
          refine g_iload_n fx dX11_orders_108 rfl ?_
          refine g_iconst fx dX11_orders_109 (by unfold okI; omega) ?_
          refine g_iadd fx dX11_orders_110 ?_
          refine g_callVD0 fx dX11_orders_111 mv_RX11_355 my_X11_orders (s_X11_orders_7 ad _ _ _ (by decide) (show TW ((itr p (orS (orF 2) used 6) σ) 224) by rw [hk1.1]; exact hT) (show (itr p (orS (orF 2) used 6) σ) 224 668 ≤ 8 by omega) (show ((7 : Nat) : Int) ≤ (itr p (orS (orF 2) used 6) σ) 224 668 by omega) (by
            intro k hk
            show 0 ≤ (su (itr p (orS (orF 2) used 6) σ) 240 6 ((p : Nat) : Int)) 240 k ∧ (su (itr p (orS (orF 2) used 6) σ) 240 6 ((p : Nat) : Int)) 240 k < (itr p (orS (orF 2) used 6) σ) 224 668
            by_cases e : k = 6
            · subst e; rw [su_same]; omega
            · rw [su_ne _ _ (Or.inr e), hk1.2 k (by omega), e668]; exact hO k (by omega))) o_223 rfl rfl rfl (Nat.le_of_ble_eq_true rfl) (by decide) (by decide) ?_
          refine g_iinc1 fx dX11_orders_114 (by decide) rfl rfl (by unfold okI; omega) rfl ?_
          refine g_goto (tgt := 71) fx dX11_orders_117 (by decide) ?_
          exact gw_cg (by rw [itr_s, orS]; (repeat first | rw [if_pos (by omega)] | rw [if_neg (by omega)]) <;> rfl) (by rw [show ((p : Nat) : Int) + 1 = ((p + 1 : Nat) : Int) by omega] <;> rfl) (ih (by omega))
        · refine g_goto (tgt := 114) fx dX11_orders_92 (by decide) ?_
          refine g_iinc1 fx dX11_orders_114 (by decide) rfl rfl (by unfold okI; omega) rfl ?_
          refine g_goto (tgt := 71) fx dX11_orders_117 (by decide) ?_
          exact gw_cg (by rw [itr_s, orS]; (repeat first | rw [if_pos (by omega)] | rw [if_neg (by omega)]) <;> rfl) (by rw [show ((p : Nat) : Int) + 1 = ((p + 1 : Nat) : Int) by omega] <;> rfl) (ih (by omega))
    exact loop71 0 (Nat.zero_le _)
  · refine g_aload_n fx dX11_orders_12 rfl ?_
    refine g_callVD fx dX11_orders_13 mv_RX11_349 my_X11_costOfOrder (s_X11_costOfOrder ad _ hT (fun k hk => hO k (by omega))) o_223 rfl rfl rfl (Nat.le_of_ble_eq_true rfl) (by decide) (by decide) ?_
    refine g_istore_n fx dX11_orders_16 (by decide) rfl rfl ?_
    refine g_aload_n fx dX11_orders_17 rfl ?_
    refine g_geti fx dX11_orders_18 fk_RX11_352 (by decide) o_223 ?_
    refine g_iconst fx dX11_orders_21 (by unfold okI; omega) ?_
    refine g_icmp_eq (tgt := 34) fx dX11_orders_22 (by decide) (fun h22 => ?_) (fun h22 => ?_)
    · exact j34 h9 (by omega)
    · refine g_iload_n fx dX11_orders_25 rfl ?_
      refine g_aload_n fx dX11_orders_26 rfl ?_
      refine g_geti fx dX11_orders_27 fk_RX11_352 (by decide) o_223 ?_
      refine g_icmp_lt (tgt := 34) fx dX11_orders_30 (by decide) (fun h30 => ?_) (fun h30 => ?_)
      · exact j34 h9 (by omega)
      · exact g_vret fx rfl dX11_orders_33 (by decide) (by decide) (gw_le.rf _) ⟨rfl, rfl, by rw [orF, if_pos h9, orL, if_pos (by omega)]⟩
set_option maxRecDepth 4000 in
theorem s_X11_orders_5 (ad : Nat → Nat) (σ : Sg)  (used : Int) (dp : Int) (hd9 : dp = ((5 : Nat) : Int)) (hT : TW (σ 224)) (h8 : σ 224 668 ≤ 8) (hdp : ((5 : Nat) : Int) ≤ σ 224 668) (hO : ∀ k : Nat, k < 5 → 0 ≤ σ 240 k ∧ σ 240 k < σ 224 668) : gw_Sp yX11_orders cX11_orders 5 none 9 0 0 [vR (some 223), vI used, vI dp] (gw_M0 ad) σ (gw_D none (gw_M0 ad) (orF 4 used 5 σ)) gw_no := by
  refine gw_Sp.of [some (vR (some 223)), some (vI used), some (vI dp), none, none] (by decide +kernel) rfl (Nat.le_of_ble_eq_true rfl) ?_
  intro X G fx het hnm
  subst hd9
  have hP0 := hT.p0
  have j34 : ((5 : Nat) : Int) = σ 224 668 → ¬ (nCoo σ 223 31 ≠ -1 ∧ nCoo σ 223 31 ≤ nCo (nCoo σ)) → gw_W X (yX11_orders.cls, cX11_orders, 5, none, 9, 0, 0) G (gw_Z X G (gw_M0 ad) σ (gw_D none (gw_M0 ad) (orF 4 used 5 σ)) gw_no 0 0) 0 0 (gw_M0 ad) ((nCoo σ)) 34 [some (vR (some 223)), some (vI used), some (vI ((5 : Nat) : Int)), some (vI (nCo (nCoo σ))), none] [] := by
    intro hj1 hj2
    refine g_aload_n fx dX11_orders_34 rfl ?_
    refine g_iload_n fx dX11_orders_35 rfl ?_
    refine g_puti fx dX11_orders_36 fk_RX11_352 o_223 ?_
    refine g_iconst fx dX11_orders_39 (by unfold okI; omega) ?_
    refine g_istore fx dX11_orders_40 (by decide) rfl rfl ?_
    have loop42 : ∀ k : Nat, k ≤ 5 → gw_W X (yX11_orders.cls, cX11_orders, 5, none, 9, 0, 0) G (gw_Z X G (gw_M0 ad) σ (gw_D none (gw_M0 ad) (orF 4 used 5 σ)) gw_no 0 0) 0 0 (gw_M0 ad) ((itr k obS (su (nCoo σ) 223 31 (nCo (nCoo σ))))) 42 [some (vR (some 223)), some (vI used), some (vI ((5 : Nat) : Int)), some (vI (nCo (nCoo σ))), some (vI (k : Nat))] [] := by
      refine up_ind _ (5) (fun k hk ih => ?_)
      refine g_iload fx dX11_orders_42 rfl ?_
      refine g_iload_n fx dX11_orders_44 rfl ?_
      refine g_icmp_ge (tgt := 68) fx dX11_orders_45 (by decide) (fun h45 => ?_) (fun h45 => ?_)
      · exact g_vret fx rfl dX11_orders_68 (by decide) (by decide) (gw_le.rf _) ⟨rfl, rfl, by rw [orF, if_pos hj1, orL, if_neg hj2, show (5 : Nat) = k by omega]⟩
      · refine g_aload_n fx dX11_orders_48 rfl ?_
        refine g_getr fx dX11_orders_49 fk_RX11_66 o_223 rf_223_30 ?_
        refine g_iload fx dX11_orders_52 rfl ?_
        refine g_aload_n fx dX11_orders_54 rfl ?_
        refine g_getr fx dX11_orders_55 fk_RX11_63 o_223 rf_223_29 ?_
        refine g_iload fx dX11_orders_58 rfl ?_
        refine g_iald fx dX11_orders_60 o_240 (by omega) (by show _ < ((60 : Nat) : Int); omega) ?_
        rw [show ((k : Nat) : Int).toNat = k from rfl]
        refine g_iast fx dX11_orders_61 o_241 (by omega) (by show _ < ((60 : Nat) : Int); omega) ?_
        refine g_iinc1 fx dX11_orders_62 (by decide) rfl rfl (by unfold okI; omega) rfl ?_
        refine g_goto (tgt := 42) fx dX11_orders_65 (by decide) ?_
        exact gw_cg (by rw [itr_s, obS] <;> rfl) (by rw [show ((k : Nat) : Int) + 1 = ((k + 1 : Nat) : Int) by omega] <;> rfl) (ih (by omega))
    exact loop42 0 (Nat.zero_le _)
  refine g_iload_n fx dX11_orders_0 rfl ?_
  refine g_aload_n fx dX11_orders_1 rfl ?_
  refine g_getr fx dX11_orders_2 fk_RX11_9 o_223 rf_223_0 ?_
  refine g_sipush fx dX11_orders_5 (by decide) ?_
  refine g_iald fx dX11_orders_8 o_224 (by decide) (by decide) ?_
  rw [show Int.toNat 668 = 668 from rfl]
  refine g_icmp_ne (tgt := 69) fx dX11_orders_9 (by decide) (fun h9 => ?_) (fun h9 => ?_)
  · refine g_iconst fx dX11_orders_69 (by unfold okI; omega) ?_
    refine g_istore_n fx dX11_orders_70 (by decide) rfl rfl ?_
    have loop71 : ∀ p : Nat, p ≤ (σ 224 668).toNat → gw_W X (yX11_orders.cls, cX11_orders, 5, none, 9, 0, 0) G (gw_Z X G (gw_M0 ad) σ (gw_D none (gw_M0 ad) (orF 4 used 5 σ)) gw_no 0 0) 0 0 (gw_M0 ad) ((itr p (orS (orF 3) used 5) σ)) 71 [some (vR (some 223)), some (vI used), some (vI ((5 : Nat) : Int)), some (vI (p : Nat)), none] [] := by
      refine up_ind _ ((σ 224 668).toNat) (fun p hp ih => ?_)
      have hk1 := orI_kp 3 used 5 hT p
      have e668 : (itr p (orS (orF 3) used 5) σ) 224 668 = σ 224 668 := by rw [hk1.1]
      refine g_iload_n fx dX11_orders_71 rfl ?_
      refine g_aload_n fx dX11_orders_72 rfl ?_
      refine g_getr fx dX11_orders_73 fk_RX11_9 o_223 rf_223_0 ?_
      refine g_sipush fx dX11_orders_76 (by decide) ?_
      refine g_iald fx dX11_orders_79 o_224 (by decide) (by decide) ?_
      rw [show Int.toNat 668 = 668 from rfl]
      refine g_icmp_ge (tgt := 120) fx dX11_orders_80 (by decide) (fun h80 => ?_) (fun h80 => ?_)
      · exact g_vret fx rfl dX11_orders_120 (by decide) (by decide) (gw_le.rf _) ⟨rfl, rfl, by rw [orF, if_neg (by omega), show (σ 224 668).toNat = p by omega]⟩
      · refine g_iload_n fx dX11_orders_83 rfl ?_
        refine g_iload_n fx dX11_orders_84 rfl ?_
        refine g_ishr fx dX11_orders_85 ?_
        refine g_iconst fx dX11_orders_86 (by unfold okI; omega) ?_
        refine g_iand fx dX11_orders_87 ?_
        refine g_iconst fx dX11_orders_88 (by unfold okI; omega) ?_
        refine g_icmp_ne (tgt := 95) fx dX11_orders_89 (by decide) (fun h89 => ?_) (fun h89 => ?_)
        · refine g_aload_n fx dX11_orders_95 rfl ?_
          refine g_getr fx dX11_orders_96 fk_RX11_63 o_223 rf_223_29 ?_
          refine g_iload_n fx dX11_orders_99 rfl ?_
          refine g_iload_n fx dX11_orders_100 rfl ?_
          refine g_iast fx dX11_orders_101 o_240 (by omega) (by show _ < ((60 : Nat) : Int); omega) ?_
          rw [show ((5 : Nat) : Int).toNat = 5 from rfl]
          refine g_aload_n fx dX11_orders_102 rfl ?_
          refine g_iload_n fx dX11_orders_103 rfl ?_
          refine g_iconst fx dX11_orders_104 (by unfold okI; omega) ?_
          refine g_iload_n fx dX11_orders_105 rfl ?_
          refine g_ishl fx dX11_orders_106 ?_
          refine g_ior fx dX11_orders_107 ?_
          refine g_iload_n fx dX11_orders_108 rfl ?_
          refine g_iconst fx dX11_orders_109 (by unfold okI; omega) ?_
          refine g_iadd fx dX11_orders_110 ?_
          refine g_callVD0 fx dX11_orders_111 mv_RX11_355 my_X11_orders (s_X11_orders_6 ad _ _ _ (by decide) (show TW ((itr p (orS (orF 3) used 5) σ) 224) by rw [hk1.1]; exact hT) (show (itr p (orS (orF 3) used 5) σ) 224 668 ≤ 8 by omega) (show ((6 : Nat) : Int) ≤ (itr p (orS (orF 3) used 5) σ) 224 668 by omega) (by
            intro k hk
            show 0 ≤ (su (itr p (orS (orF 3) used 5) σ) 240 5 ((p : Nat) : Int)) 240 k ∧ (su (itr p (orS (orF 3) used 5) σ) 240 5 ((p : Nat) : Int)) 240 k < (itr p (orS (orF 3) used 5) σ) 224 668
            by_cases e : k = 5
            · subst e; rw [su_same]; omega
            · rw [su_ne _ _ (Or.inr e), hk1.2 k (by omega), e668]; exact hO k (by omega))) o_223 rfl rfl rfl (Nat.le_of_ble_eq_true rfl) (by decide) (by decide) ?_
          refine g_iinc1 fx dX11_orders_114 (by decide) rfl rfl (by unfold okI; omega) rfl ?_
          refine g_goto (tgt := 71) fx dX11_orders_117 (by decide) ?_
          exact gw_cg (by rw [itr_s, orS]; (repeat first | rw [if_pos (by omega)] | rw [if_neg (by omega)]) <;> rfl) (by rw [show ((p : Nat) : Int) + 1 = ((p + 1 : Nat) : Int) by omega] <;> rfl) (ih (by omega))
        · refine g_goto (tgt := 114) fx dX11_orders_92 (by decide) ?_
          refine g_iinc1 fx dX11_orders_114 (by decide) rfl rfl (by unfold okI; omega) rfl ?_
          refine g_goto (tgt := 71) fx dX11_orders_117 (by decide) ?_
          exact gw_cg (by rw [itr_s, orS]; (repeat first | rw [if_pos (by omega)] | rw [if_neg (by omega)]) <;> rfl) (by rw [show ((p : Nat) : Int) + 1 = ((p + 1 : Nat) : Int) by omega] <;> rfl) (ih (by omega))
    exact loop71 0 (Nat.zero_le _)
  · refine g_aload_n fx dX11_orders_12 rfl ?_
    refine g_callVD fx dX11_orders_13 mv_RX11_349 my_X11_costOfOrder (s_X11_costOfOrder ad _ hT (fun k hk => hO k (by omega))) o_223 rfl rfl rfl (Nat.le_of_ble_eq_true rfl) (by decide) (by decide) ?_
    refine g_istore_n fx dX11_orders_16 (by decide) rfl rfl ?_
    refine g_aload_n fx dX11_orders_17 rfl ?_
    refine g_geti fx dX11_orders_18 fk_RX11_352 (by decide) o_223 ?_
    refine g_iconst fx dX11_orders_21 (by unfold okI; omega) ?_
    refine g_icmp_eq (tgt := 34) fx dX11_orders_22 (by decide) (fun h22 => ?_) (fun h22 => ?_)
    · exact j34 h9 (by omega)
    · refine g_iload_n fx dX11_orders_25 rfl ?_
      refine g_aload_n fx dX11_orders_26 rfl ?_
      refine g_geti fx dX11_orders_27 fk_RX11_352 (by decide) o_223 ?_
      refine g_icmp_lt (tgt := 34) fx dX11_orders_30 (by decide) (fun h30 => ?_) (fun h30 => ?_)
      · exact j34 h9 (by omega)
      · exact g_vret fx rfl dX11_orders_33 (by decide) (by decide) (gw_le.rf _) ⟨rfl, rfl, by rw [orF, if_pos h9, orL, if_pos (by omega)]⟩
set_option maxRecDepth 4000 in
theorem s_X11_orders_4 (ad : Nat → Nat) (σ : Sg)  (used : Int) (dp : Int) (hd9 : dp = ((4 : Nat) : Int)) (hT : TW (σ 224)) (h8 : σ 224 668 ≤ 8) (hdp : ((4 : Nat) : Int) ≤ σ 224 668) (hO : ∀ k : Nat, k < 4 → 0 ≤ σ 240 k ∧ σ 240 k < σ 224 668) : gw_Sp yX11_orders cX11_orders 5 none 10 0 0 [vR (some 223), vI used, vI dp] (gw_M0 ad) σ (gw_D none (gw_M0 ad) (orF 5 used 4 σ)) gw_no := by
  refine gw_Sp.of [some (vR (some 223)), some (vI used), some (vI dp), none, none] (by decide +kernel) rfl (Nat.le_of_ble_eq_true rfl) ?_
  intro X G fx het hnm
  subst hd9
  have hP0 := hT.p0
  have j34 : ((4 : Nat) : Int) = σ 224 668 → ¬ (nCoo σ 223 31 ≠ -1 ∧ nCoo σ 223 31 ≤ nCo (nCoo σ)) → gw_W X (yX11_orders.cls, cX11_orders, 5, none, 10, 0, 0) G (gw_Z X G (gw_M0 ad) σ (gw_D none (gw_M0 ad) (orF 5 used 4 σ)) gw_no 0 0) 0 0 (gw_M0 ad) ((nCoo σ)) 34 [some (vR (some 223)), some (vI used), some (vI ((4 : Nat) : Int)), some (vI (nCo (nCoo σ))), none] [] := by
    intro hj1 hj2
    refine g_aload_n fx dX11_orders_34 rfl ?_
    refine g_iload_n fx dX11_orders_35 rfl ?_
    refine g_puti fx dX11_orders_36 fk_RX11_352 o_223 ?_
    refine g_iconst fx dX11_orders_39 (by unfold okI; omega) ?_
    refine g_istore fx dX11_orders_40 (by decide) rfl rfl ?_
    have loop42 : ∀ k : Nat, k ≤ 4 → gw_W X (yX11_orders.cls, cX11_orders, 5, none, 10, 0, 0) G (gw_Z X G (gw_M0 ad) σ (gw_D none (gw_M0 ad) (orF 5 used 4 σ)) gw_no 0 0) 0 0 (gw_M0 ad) ((itr k obS (su (nCoo σ) 223 31 (nCo (nCoo σ))))) 42 [some (vR (some 223)), some (vI used), some (vI ((4 : Nat) : Int)), some (vI (nCo (nCoo σ))), some (vI (k : Nat))] [] := by
      refine up_ind _ (4) (fun k hk ih => ?_)
      refine g_iload fx dX11_orders_42 rfl ?_
      refine g_iload_n fx dX11_orders_44 rfl ?_
      refine g_icmp_ge (tgt := 68) fx dX11_orders_45 (by decide) (fun h45 => ?_) (fun h45 => ?_)
      · exact g_vret fx rfl dX11_orders_68 (by decide) (by decide) (gw_le.rf _) ⟨rfl, rfl, by rw [orF, if_pos hj1, orL, if_neg hj2, show (4 : Nat) = k by omega]⟩
      · refine g_aload_n fx dX11_orders_48 rfl ?_
        refine g_getr fx dX11_orders_49 fk_RX11_66 o_223 rf_223_30 ?_
        refine g_iload fx dX11_orders_52 rfl ?_
        refine g_aload_n fx dX11_orders_54 rfl ?_
        refine g_getr fx dX11_orders_55 fk_RX11_63 o_223 rf_223_29 ?_
        refine g_iload fx dX11_orders_58 rfl ?_
        refine g_iald fx dX11_orders_60 o_240 (by omega) (by show _ < ((60 : Nat) : Int); omega) ?_
        rw [show ((k : Nat) : Int).toNat = k from rfl]
        refine g_iast fx dX11_orders_61 o_241 (by omega) (by show _ < ((60 : Nat) : Int); omega) ?_
        refine g_iinc1 fx dX11_orders_62 (by decide) rfl rfl (by unfold okI; omega) rfl ?_
        refine g_goto (tgt := 42) fx dX11_orders_65 (by decide) ?_
        exact gw_cg (by rw [itr_s, obS] <;> rfl) (by rw [show ((k : Nat) : Int) + 1 = ((k + 1 : Nat) : Int) by omega] <;> rfl) (ih (by omega))
    exact loop42 0 (Nat.zero_le _)
  refine g_iload_n fx dX11_orders_0 rfl ?_
  refine g_aload_n fx dX11_orders_1 rfl ?_
  refine g_getr fx dX11_orders_2 fk_RX11_9 o_223 rf_223_0 ?_
  refine g_sipush fx dX11_orders_5 (by decide) ?_
  refine g_iald fx dX11_orders_8 o_224 (by decide) (by decide) ?_
  rw [show Int.toNat 668 = 668 from rfl]
  refine g_icmp_ne (tgt := 69) fx dX11_orders_9 (by decide) (fun h9 => ?_) (fun h9 => ?_)
  · refine g_iconst fx dX11_orders_69 (by unfold okI; omega) ?_
    refine g_istore_n fx dX11_orders_70 (by decide) rfl rfl ?_
    have loop71 : ∀ p : Nat, p ≤ (σ 224 668).toNat → gw_W X (yX11_orders.cls, cX11_orders, 5, none, 10, 0, 0) G (gw_Z X G (gw_M0 ad) σ (gw_D none (gw_M0 ad) (orF 5 used 4 σ)) gw_no 0 0) 0 0 (gw_M0 ad) ((itr p (orS (orF 4) used 4) σ)) 71 [some (vR (some 223)), some (vI used), some (vI ((4 : Nat) : Int)), some (vI (p : Nat)), none] [] := by
      refine up_ind _ ((σ 224 668).toNat) (fun p hp ih => ?_)
      have hk1 := orI_kp 4 used 4 hT p
      have e668 : (itr p (orS (orF 4) used 4) σ) 224 668 = σ 224 668 := by rw [hk1.1]
      refine g_iload_n fx dX11_orders_71 rfl ?_
      refine g_aload_n fx dX11_orders_72 rfl ?_
      refine g_getr fx dX11_orders_73 fk_RX11_9 o_223 rf_223_0 ?_
      refine g_sipush fx dX11_orders_76 (by decide) ?_
      refine g_iald fx dX11_orders_79 o_224 (by decide) (by decide) ?_
      rw [show Int.toNat 668 = 668 from rfl]
      refine g_icmp_ge (tgt := 120) fx dX11_orders_80 (by decide) (fun h80 => ?_) (fun h80 => ?_)
      · exact g_vret fx rfl dX11_orders_120 (by decide) (by decide) (gw_le.rf _) ⟨rfl, rfl, by rw [orF, if_neg (by omega), show (σ 224 668).toNat = p by omega]⟩
      · refine g_iload_n fx dX11_orders_83 rfl ?_
        refine g_iload_n fx dX11_orders_84 rfl ?_
        refine g_ishr fx dX11_orders_85 ?_
        refine g_iconst fx dX11_orders_86 (by unfold okI; omega) ?_
        refine g_iand fx dX11_orders_87 ?_
        refine g_iconst fx dX11_orders_88 (by unfold okI; omega) ?_
        refine g_icmp_ne (tgt := 95) fx dX11_orders_89 (by decide) (fun h89 => ?_) (fun h89 => ?_)
        · refine g_aload_n fx dX11_orders_95 rfl ?_
          refine g_getr fx dX11_orders_96 fk_RX11_63 o_223 rf_223_29 ?_
          refine g_iload_n fx dX11_orders_99 rfl ?_
          refine g_iload_n fx dX11_orders_100 rfl ?_
          refine g_iast fx dX11_orders_101 o_240 (by omega) (by show _ < ((60 : Nat) : Int); omega) ?_
          rw [show ((4 : Nat) : Int).toNat = 4 from rfl]
          refine g_aload_n fx dX11_orders_102 rfl ?_
          refine g_iload_n fx dX11_orders_103 rfl ?_
          refine g_iconst fx dX11_orders_104 (by unfold okI; omega) ?_
          refine g_iload_n fx dX11_orders_105 rfl ?_
          refine g_ishl fx dX11_orders_106 ?_
          refine g_ior fx dX11_orders_107 ?_
          refine g_iload_n fx dX11_orders_108 rfl ?_
          refine g_iconst fx dX11_orders_109 (by unfold okI; omega) ?_
          refine g_iadd fx dX11_orders_110 ?_
          refine g_callVD0 fx dX11_orders_111 mv_RX11_355 my_X11_orders (s_X11_orders_5 ad _ _ _ (by decide) (show TW ((itr p (orS (orF 4) used 4) σ) 224) by rw [hk1.1]; exact hT) (show (itr p (orS (orF 4) used 4) σ) 224 668 ≤ 8 by omega) (show ((5 : Nat) : Int) ≤ (itr p (orS (orF 4) used 4) σ) 224 668 by omega) (by
            intro k hk
            show 0 ≤ (su (itr p (orS (orF 4) used 4) σ) 240 4 ((p : Nat) : Int)) 240 k ∧ (su (itr p (orS (orF 4) used 4) σ) 240 4 ((p : Nat) : Int)) 240 k < (itr p (orS (orF 4) used 4) σ) 224 668
            by_cases e : k = 4
            · subst e; rw [su_same]; omega
            · rw [su_ne _ _ (Or.inr e), hk1.2 k (by omega), e668]; exact hO k (by omega))) o_223 rfl rfl rfl (Nat.le_of_ble_eq_true rfl) (by decide) (by decide) ?_
          refine g_iinc1 fx dX11_orders_114 (by decide) rfl rfl (by unfold okI; omega) rfl ?_
          refine g_goto (tgt := 71) fx dX11_orders_117 (by decide) ?_
          exact gw_cg (by rw [itr_s, orS]; (repeat first | rw [if_pos (by omega)] | rw [if_neg (by omega)]) <;> rfl) (by rw [show ((p : Nat) : Int) + 1 = ((p + 1 : Nat) : Int) by omega] <;> rfl) (ih (by omega))
        · refine g_goto (tgt := 114) fx dX11_orders_92 (by decide) ?_
          refine g_iinc1 fx dX11_orders_114 (by decide) rfl rfl (by unfold okI; omega) rfl ?_
          refine g_goto (tgt := 71) fx dX11_orders_117 (by decide) ?_
          exact gw_cg (by rw [itr_s, orS]; (repeat first | rw [if_pos (by omega)] | rw [if_neg (by omega)]) <;> rfl) (by rw [show ((p : Nat) : Int) + 1 = ((p + 1 : Nat) : Int) by omega] <;> rfl) (ih (by omega))
    exact loop71 0 (Nat.zero_le _)
  · refine g_aload_n fx dX11_orders_12 rfl ?_
    refine g_callVD fx dX11_orders_13 mv_RX11_349 my_X11_costOfOrder (s_X11_costOfOrder ad _ hT (fun k hk => hO k (by omega))) o_223 rfl rfl rfl (Nat.le_of_ble_eq_true rfl) (by decide) (by decide) ?_
    refine g_istore_n fx dX11_orders_16 (by decide) rfl rfl ?_
    refine g_aload_n fx dX11_orders_17 rfl ?_
    refine g_geti fx dX11_orders_18 fk_RX11_352 (by decide) o_223 ?_
    refine g_iconst fx dX11_orders_21 (by unfold okI; omega) ?_
    refine g_icmp_eq (tgt := 34) fx dX11_orders_22 (by decide) (fun h22 => ?_) (fun h22 => ?_)
    · exact j34 h9 (by omega)
    · refine g_iload_n fx dX11_orders_25 rfl ?_
      refine g_aload_n fx dX11_orders_26 rfl ?_
      refine g_geti fx dX11_orders_27 fk_RX11_352 (by decide) o_223 ?_
      refine g_icmp_lt (tgt := 34) fx dX11_orders_30 (by decide) (fun h30 => ?_) (fun h30 => ?_)
      · exact j34 h9 (by omega)
      · exact g_vret fx rfl dX11_orders_33 (by decide) (by decide) (gw_le.rf _) ⟨rfl, rfl, by rw [orF, if_pos h9, orL, if_pos (by omega)]⟩
set_option maxRecDepth 4000 in
theorem s_X11_orders_3 (ad : Nat → Nat) (σ : Sg)  (used : Int) (dp : Int) (hd9 : dp = ((3 : Nat) : Int)) (hT : TW (σ 224)) (h8 : σ 224 668 ≤ 8) (hdp : ((3 : Nat) : Int) ≤ σ 224 668) (hO : ∀ k : Nat, k < 3 → 0 ≤ σ 240 k ∧ σ 240 k < σ 224 668) : gw_Sp yX11_orders cX11_orders 5 none 11 0 0 [vR (some 223), vI used, vI dp] (gw_M0 ad) σ (gw_D none (gw_M0 ad) (orF 6 used 3 σ)) gw_no := by
  refine gw_Sp.of [some (vR (some 223)), some (vI used), some (vI dp), none, none] (by decide +kernel) rfl (Nat.le_of_ble_eq_true rfl) ?_
  intro X G fx het hnm
  subst hd9
  have hP0 := hT.p0
  have j34 : ((3 : Nat) : Int) = σ 224 668 → ¬ (nCoo σ 223 31 ≠ -1 ∧ nCoo σ 223 31 ≤ nCo (nCoo σ)) → gw_W X (yX11_orders.cls, cX11_orders, 5, none, 11, 0, 0) G (gw_Z X G (gw_M0 ad) σ (gw_D none (gw_M0 ad) (orF 6 used 3 σ)) gw_no 0 0) 0 0 (gw_M0 ad) ((nCoo σ)) 34 [some (vR (some 223)), some (vI used), some (vI ((3 : Nat) : Int)), some (vI (nCo (nCoo σ))), none] [] := by
    intro hj1 hj2
    refine g_aload_n fx dX11_orders_34 rfl ?_
    refine g_iload_n fx dX11_orders_35 rfl ?_
    refine g_puti fx dX11_orders_36 fk_RX11_352 o_223 ?_
    refine g_iconst fx dX11_orders_39 (by unfold okI; omega) ?_
    refine g_istore fx dX11_orders_40 (by decide) rfl rfl ?_
    have loop42 : ∀ k : Nat, k ≤ 3 → gw_W X (yX11_orders.cls, cX11_orders, 5, none, 11, 0, 0) G (gw_Z X G (gw_M0 ad) σ (gw_D none (gw_M0 ad) (orF 6 used 3 σ)) gw_no 0 0) 0 0 (gw_M0 ad) ((itr k obS (su (nCoo σ) 223 31 (nCo (nCoo σ))))) 42 [some (vR (some 223)), some (vI used), some (vI ((3 : Nat) : Int)), some (vI (nCo (nCoo σ))), some (vI (k : Nat))] [] := by
      refine up_ind _ (3) (fun k hk ih => ?_)
      refine g_iload fx dX11_orders_42 rfl ?_
      refine g_iload_n fx dX11_orders_44 rfl ?_
      refine g_icmp_ge (tgt := 68) fx dX11_orders_45 (by decide) (fun h45 => ?_) (fun h45 => ?_)
      · exact g_vret fx rfl dX11_orders_68 (by decide) (by decide) (gw_le.rf _) ⟨rfl, rfl, by rw [orF, if_pos hj1, orL, if_neg hj2, show (3 : Nat) = k by omega]⟩
      · refine g_aload_n fx dX11_orders_48 rfl ?_
        refine g_getr fx dX11_orders_49 fk_RX11_66 o_223 rf_223_30 ?_
        refine g_iload fx dX11_orders_52 rfl ?_
        refine g_aload_n fx dX11_orders_54 rfl ?_
        refine g_getr fx dX11_orders_55 fk_RX11_63 o_223 rf_223_29 ?_
        refine g_iload fx dX11_orders_58 rfl ?_
        refine g_iald fx dX11_orders_60 o_240 (by omega) (by show _ < ((60 : Nat) : Int); omega) ?_
        rw [show ((k : Nat) : Int).toNat = k from rfl]
        refine g_iast fx dX11_orders_61 o_241 (by omega) (by show _ < ((60 : Nat) : Int); omega) ?_
        refine g_iinc1 fx dX11_orders_62 (by decide) rfl rfl (by unfold okI; omega) rfl ?_
        refine g_goto (tgt := 42) fx dX11_orders_65 (by decide) ?_
        exact gw_cg (by rw [itr_s, obS] <;> rfl) (by rw [show ((k : Nat) : Int) + 1 = ((k + 1 : Nat) : Int) by omega] <;> rfl) (ih (by omega))
    exact loop42 0 (Nat.zero_le _)
  refine g_iload_n fx dX11_orders_0 rfl ?_
  refine g_aload_n fx dX11_orders_1 rfl ?_
  refine g_getr fx dX11_orders_2 fk_RX11_9 o_223 rf_223_0 ?_
  refine g_sipush fx dX11_orders_5 (by decide) ?_
  refine g_iald fx dX11_orders_8 o_224 (by decide) (by decide) ?_
  rw [show Int.toNat 668 = 668 from rfl]
  refine g_icmp_ne (tgt := 69) fx dX11_orders_9 (by decide) (fun h9 => ?_) (fun h9 => ?_)
  · refine g_iconst fx dX11_orders_69 (by unfold okI; omega) ?_
    refine g_istore_n fx dX11_orders_70 (by decide) rfl rfl ?_
    have loop71 : ∀ p : Nat, p ≤ (σ 224 668).toNat → gw_W X (yX11_orders.cls, cX11_orders, 5, none, 11, 0, 0) G (gw_Z X G (gw_M0 ad) σ (gw_D none (gw_M0 ad) (orF 6 used 3 σ)) gw_no 0 0) 0 0 (gw_M0 ad) ((itr p (orS (orF 5) used 3) σ)) 71 [some (vR (some 223)), some (vI used), some (vI ((3 : Nat) : Int)), some (vI (p : Nat)), none] [] := by
      refine up_ind _ ((σ 224 668).toNat) (fun p hp ih => ?_)
      have hk1 := orI_kp 5 used 3 hT p
      have e668 : (itr p (orS (orF 5) used 3) σ) 224 668 = σ 224 668 := by rw [hk1.1]
      refine g_iload_n fx dX11_orders_71 rfl ?_
      refine g_aload_n fx dX11_orders_72 rfl ?_
      refine g_getr fx dX11_orders_73 fk_RX11_9 o_223 rf_223_0 ?_
      refine g_sipush fx dX11_orders_76 (by decide) ?_
      refine g_iald fx dX11_orders_79 o_224 (by decide) (by decide) ?_
      rw [show Int.toNat 668 = 668 from rfl]
      refine g_icmp_ge (tgt := 120) fx dX11_orders_80 (by decide) (fun h80 => ?_) (fun h80 => ?_)
      · exact g_vret fx rfl dX11_orders_120 (by decide) (by decide) (gw_le.rf _) ⟨rfl, rfl, by rw [orF, if_neg (by omega), show (σ 224 668).toNat = p by omega]⟩
      · refine g_iload_n fx dX11_orders_83 rfl ?_
        refine g_iload_n fx dX11_orders_84 rfl ?_
        refine g_ishr fx dX11_orders_85 ?_
        refine g_iconst fx dX11_orders_86 (by unfold okI; omega) ?_
        refine g_iand fx dX11_orders_87 ?_
        refine g_iconst fx dX11_orders_88 (by unfold okI; omega) ?_
        refine g_icmp_ne (tgt := 95) fx dX11_orders_89 (by decide) (fun h89 => ?_) (fun h89 => ?_)
        · refine g_aload_n fx dX11_orders_95 rfl ?_
          refine g_getr fx dX11_orders_96 fk_RX11_63 o_223 rf_223_29 ?_
          refine g_iload_n fx dX11_orders_99 rfl ?_
          refine g_iload_n fx dX11_orders_100 rfl ?_
          refine g_iast fx dX11_orders_101 o_240 (by omega) (by show _ < ((60 : Nat) : Int); omega) ?_
          rw [show ((3 : Nat) : Int).toNat = 3 from rfl]
          refine g_aload_n fx dX11_orders_102 rfl ?_
          refine g_iload_n fx dX11_orders_103 rfl ?_
          refine g_iconst fx dX11_orders_104 (by unfold okI; omega) ?_
          refine g_iload_n fx dX11_orders_105 rfl ?_
          refine g_ishl fx dX11_orders_106 ?_
          refine g_ior fx dX11_orders_107 ?_
          refine g_iload_n fx dX11_orders_108 rfl ?_
          refine g_iconst fx dX11_orders_109 (by unfold okI; omega) ?_
          refine g_iadd fx dX11_orders_110 ?_
          refine g_callVD0 fx dX11_orders_111 mv_RX11_355 my_X11_orders (s_X11_orders_4 ad _ _ _ (by decide) (show TW ((itr p (orS (orF 5) used 3) σ) 224) by rw [hk1.1]; exact hT) (show (itr p (orS (orF 5) used 3) σ) 224 668 ≤ 8 by omega) (show ((4 : Nat) : Int) ≤ (itr p (orS (orF 5) used 3) σ) 224 668 by omega) (by
            intro k hk
            show 0 ≤ (su (itr p (orS (orF 5) used 3) σ) 240 3 ((p : Nat) : Int)) 240 k ∧ (su (itr p (orS (orF 5) used 3) σ) 240 3 ((p : Nat) : Int)) 240 k < (itr p (orS (orF 5) used 3) σ) 224 668
            by_cases e : k = 3
            · subst e; rw [su_same]; omega
            · rw [su_ne _ _ (Or.inr e), hk1.2 k (by omega), e668]; exact hO k (by omega))) o_223 rfl rfl rfl (Nat.le_of_ble_eq_true rfl) (by decide) (by decide) ?_
          refine g_iinc1 fx dX11_orders_114 (by decide) rfl rfl (by unfold okI; omega) rfl ?_
          refine g_goto (tgt := 71) fx dX11_orders_117 (by decide) ?_
          exact gw_cg (by rw [itr_s, orS]; (repeat first | rw [if_pos (by omega)] | rw [if_neg (by omega)]) <;> rfl) (by rw [show ((p : Nat) : Int) + 1 = ((p + 1 : Nat) : Int) by omega] <;> rfl) (ih (by omega))
        · refine g_goto (tgt := 114) fx dX11_orders_92 (by decide) ?_
          refine g_iinc1 fx dX11_orders_114 (by decide) rfl rfl (by unfold okI; omega) rfl ?_
          refine g_goto (tgt := 71) fx dX11_orders_117 (by decide) ?_
          exact gw_cg (by rw [itr_s, orS]; (repeat first | rw [if_pos (by omega)] | rw [if_neg (by omega)]) <;> rfl) (by rw [show ((p : Nat) : Int) + 1 = ((p + 1 : Nat) : Int) by omega] <;> rfl) (ih (by omega))
    exact loop71 0 (Nat.zero_le _)
  · refine g_aload_n fx dX11_orders_12 rfl ?_
    refine g_callVD fx dX11_orders_13 mv_RX11_349 my_X11_costOfOrder (s_X11_costOfOrder ad _ hT (fun k hk => hO k (by omega))) o_223 rfl rfl rfl (Nat.le_of_ble_eq_true rfl) (by decide) (by decide) ?_
    refine g_istore_n fx dX11_orders_16 (by decide) rfl rfl ?_
    refine g_aload_n fx dX11_orders_17 rfl ?_
    refine g_geti fx dX11_orders_18 fk_RX11_352 (by decide) o_223 ?_
    refine g_iconst fx dX11_orders_21 (by unfold okI; omega) ?_
    refine g_icmp_eq (tgt := 34) fx dX11_orders_22 (by decide) (fun h22 => ?_) (fun h22 => ?_)
    · exact j34 h9 (by omega)
    · refine g_iload_n fx dX11_orders_25 rfl ?_
      refine g_aload_n fx dX11_orders_26 rfl ?_
      refine g_geti fx dX11_orders_27 fk_RX11_352 (by decide) o_223 ?_
      refine g_icmp_lt (tgt := 34) fx dX11_orders_30 (by decide) (fun h30 => ?_) (fun h30 => ?_)
      · exact j34 h9 (by omega)
      · exact g_vret fx rfl dX11_orders_33 (by decide) (by decide) (gw_le.rf _) ⟨rfl, rfl, by rw [orF, if_pos h9, orL, if_pos (by omega)]⟩
set_option maxRecDepth 4000 in
theorem s_X11_orders_2 (ad : Nat → Nat) (σ : Sg)  (used : Int) (dp : Int) (hd9 : dp = ((2 : Nat) : Int)) (hT : TW (σ 224)) (h8 : σ 224 668 ≤ 8) (hdp : ((2 : Nat) : Int) ≤ σ 224 668) (hO : ∀ k : Nat, k < 2 → 0 ≤ σ 240 k ∧ σ 240 k < σ 224 668) : gw_Sp yX11_orders cX11_orders 5 none 12 0 0 [vR (some 223), vI used, vI dp] (gw_M0 ad) σ (gw_D none (gw_M0 ad) (orF 7 used 2 σ)) gw_no := by
  refine gw_Sp.of [some (vR (some 223)), some (vI used), some (vI dp), none, none] (by decide +kernel) rfl (Nat.le_of_ble_eq_true rfl) ?_
  intro X G fx het hnm
  subst hd9
  have hP0 := hT.p0
  have j34 : ((2 : Nat) : Int) = σ 224 668 → ¬ (nCoo σ 223 31 ≠ -1 ∧ nCoo σ 223 31 ≤ nCo (nCoo σ)) → gw_W X (yX11_orders.cls, cX11_orders, 5, none, 12, 0, 0) G (gw_Z X G (gw_M0 ad) σ (gw_D none (gw_M0 ad) (orF 7 used 2 σ)) gw_no 0 0) 0 0 (gw_M0 ad) ((nCoo σ)) 34 [some (vR (some 223)), some (vI used), some (vI ((2 : Nat) : Int)), some (vI (nCo (nCoo σ))), none] [] := by
    intro hj1 hj2
    refine g_aload_n fx dX11_orders_34 rfl ?_
    refine g_iload_n fx dX11_orders_35 rfl ?_
    refine g_puti fx dX11_orders_36 fk_RX11_352 o_223 ?_
    refine g_iconst fx dX11_orders_39 (by unfold okI; omega) ?_
    refine g_istore fx dX11_orders_40 (by decide) rfl rfl ?_
    have loop42 : ∀ k : Nat, k ≤ 2 → gw_W X (yX11_orders.cls, cX11_orders, 5, none, 12, 0, 0) G (gw_Z X G (gw_M0 ad) σ (gw_D none (gw_M0 ad) (orF 7 used 2 σ)) gw_no 0 0) 0 0 (gw_M0 ad) ((itr k obS (su (nCoo σ) 223 31 (nCo (nCoo σ))))) 42 [some (vR (some 223)), some (vI used), some (vI ((2 : Nat) : Int)), some (vI (nCo (nCoo σ))), some (vI (k : Nat))] [] := by
      refine up_ind _ (2) (fun k hk ih => ?_)
      refine g_iload fx dX11_orders_42 rfl ?_
      refine g_iload_n fx dX11_orders_44 rfl ?_
      refine g_icmp_ge (tgt := 68) fx dX11_orders_45 (by decide) (fun h45 => ?_) (fun h45 => ?_)
      · exact g_vret fx rfl dX11_orders_68 (by decide) (by decide) (gw_le.rf _) ⟨rfl, rfl, by rw [orF, if_pos hj1, orL, if_neg hj2, show (2 : Nat) = k by omega]⟩
      · refine g_aload_n fx dX11_orders_48 rfl ?_
        refine g_getr fx dX11_orders_49 fk_RX11_66 o_223 rf_223_30 ?_
        refine g_iload fx dX11_orders_52 rfl ?_
        refine g_aload_n fx dX11_orders_54 rfl ?_
        refine g_getr fx dX11_orders_55 fk_RX11_63 o_223 rf_223_29 ?_
        refine g_iload fx dX11_orders_58 rfl ?_
        refine g_iald fx dX11_orders_60 o_240 (by omega) (by show _ < ((60 : Nat) : Int); omega) ?_
        rw [show ((k : Nat) : Int).toNat = k from rfl]
        refine g_iast fx dX11_orders_61 o_241 (by omega) (by show _ < ((60 : Nat) : Int); omega) ?_
        refine g_iinc1 fx dX11_orders_62 (by decide) rfl rfl (by unfold okI; omega) rfl ?_
        refine g_goto (tgt := 42) fx dX11_orders_65 (by decide) ?_
        exact gw_cg (by rw [itr_s, obS] <;> rfl) (by rw [show ((k : Nat) : Int) + 1 = ((k + 1 : Nat) : Int) by omega] <;> rfl) (ih (by omega))
    exact loop42 0 (Nat.zero_le _)
  refine g_iload_n fx dX11_orders_0 rfl ?_
  refine g_aload_n fx dX11_orders_1 rfl ?_
  refine g_getr fx dX11_orders_2 fk_RX11_9 o_223 rf_223_0 ?_
  refine g_sipush fx dX11_orders_5 (by decide) ?_
  refine g_iald fx dX11_orders_8 o_224 (by decide) (by decide) ?_
  rw [show Int.toNat 668 = 668 from rfl]
  refine g_icmp_ne (tgt := 69) fx dX11_orders_9 (by decide) (fun h9 => ?_) (fun h9 => ?_)
  · refine g_iconst fx dX11_orders_69 (by unfold okI; omega) ?_
    refine g_istore_n fx dX11_orders_70 (by decide) rfl rfl ?_
    have loop71 : ∀ p : Nat, p ≤ (σ 224 668).toNat → gw_W X (yX11_orders.cls, cX11_orders, 5, none, 12, 0, 0) G (gw_Z X G (gw_M0 ad) σ (gw_D none (gw_M0 ad) (orF 7 used 2 σ)) gw_no 0 0) 0 0 (gw_M0 ad) ((itr p (orS (orF 6) used 2) σ)) 71 [some (vR (some 223)), some (vI used), some (vI ((2 : Nat) : Int)), some (vI (p : Nat)), none] [] := by
      refine up_ind _ ((σ 224 668).toNat) (fun p hp ih => ?_)
      have hk1 := orI_kp 6 used 2 hT p
      have e668 : (itr p (orS (orF 6) used 2) σ) 224 668 = σ 224 668 := by rw [hk1.1]
      refine g_iload_n fx dX11_orders_71 rfl ?_
      refine g_aload_n fx dX11_orders_72 rfl ?_
      refine g_getr fx dX11_orders_73 fk_RX11_9 o_223 rf_223_0 ?_
      refine g_sipush fx dX11_orders_76 (by decide) ?_
      refine g_iald fx dX11_orders_79 o_224 (by decide) (by decide) ?_
      rw [show Int.toNat 668 = 668 from rfl]
      refine g_icmp_ge (tgt := 120) fx dX11_orders_80 (by decide) (fun h80 => ?_) (fun h80 => ?_)
      · exact g_vret fx rfl dX11_orders_120 (by decide) (by decide) (gw_le.rf _) ⟨rfl, rfl, by rw [orF, if_neg (by omega), show (σ 224 668).toNat = p by omega]⟩
      · refine g_iload_n fx dX11_orders_83 rfl ?_
        refine g_iload_n fx dX11_orders_84 rfl ?_
        refine g_ishr fx dX11_orders_85 ?_
        refine g_iconst fx dX11_orders_86 (by unfold okI; omega) ?_
        refine g_iand fx dX11_orders_87 ?_
        refine g_iconst fx dX11_orders_88 (by unfold okI; omega) ?_
        refine g_icmp_ne (tgt := 95) fx dX11_orders_89 (by decide) (fun h89 => ?_) (fun h89 => ?_)
        · refine g_aload_n fx dX11_orders_95 rfl ?_
          refine g_getr fx dX11_orders_96 fk_RX11_63 o_223 rf_223_29 ?_
          refine g_iload_n fx dX11_orders_99 rfl ?_
          refine g_iload_n fx dX11_orders_100 rfl ?_
          refine g_iast fx dX11_orders_101 o_240 (by omega) (by show _ < ((60 : Nat) : Int); omega) ?_
          rw [show ((2 : Nat) : Int).toNat = 2 from rfl]
          refine g_aload_n fx dX11_orders_102 rfl ?_
          refine g_iload_n fx dX11_orders_103 rfl ?_
          refine g_iconst fx dX11_orders_104 (by unfold okI; omega) ?_
          refine g_iload_n fx dX11_orders_105 rfl ?_
          refine g_ishl fx dX11_orders_106 ?_
          refine g_ior fx dX11_orders_107 ?_
          refine g_iload_n fx dX11_orders_108 rfl ?_
          refine g_iconst fx dX11_orders_109 (by unfold okI; omega) ?_
          refine g_iadd fx dX11_orders_110 ?_
          refine g_callVD0 fx dX11_orders_111 mv_RX11_355 my_X11_orders (s_X11_orders_3 ad _ _ _ (by decide) (show TW ((itr p (orS (orF 6) used 2) σ) 224) by rw [hk1.1]; exact hT) (show (itr p (orS (orF 6) used 2) σ) 224 668 ≤ 8 by omega) (show ((3 : Nat) : Int) ≤ (itr p (orS (orF 6) used 2) σ) 224 668 by omega) (by
            intro k hk
            show 0 ≤ (su (itr p (orS (orF 6) used 2) σ) 240 2 ((p : Nat) : Int)) 240 k ∧ (su (itr p (orS (orF 6) used 2) σ) 240 2 ((p : Nat) : Int)) 240 k < (itr p (orS (orF 6) used 2) σ) 224 668
            by_cases e : k = 2
            · subst e; rw [su_same]; omega
            · rw [su_ne _ _ (Or.inr e), hk1.2 k (by omega), e668]; exact hO k (by omega))) o_223 rfl rfl rfl (Nat.le_of_ble_eq_true rfl) (by decide) (by decide) ?_
          refine g_iinc1 fx dX11_orders_114 (by decide) rfl rfl (by unfold okI; omega) rfl ?_
          refine g_goto (tgt := 71) fx dX11_orders_117 (by decide) ?_
          exact gw_cg (by rw [itr_s, orS]; (repeat first | rw [if_pos (by omega)] | rw [if_neg (by omega)]) <;> rfl) (by rw [show ((p : Nat) : Int) + 1 = ((p + 1 : Nat) : Int) by omega] <;> rfl) (ih (by omega))
        · refine g_goto (tgt := 114) fx dX11_orders_92 (by decide) ?_
          refine g_iinc1 fx dX11_orders_114 (by decide) rfl rfl (by unfold okI; omega) rfl ?_
          refine g_goto (tgt := 71) fx dX11_orders_117 (by decide) ?_
          exact gw_cg (by rw [itr_s, orS]; (repeat first | rw [if_pos (by omega)] | rw [if_neg (by omega)]) <;> rfl) (by rw [show ((p : Nat) : Int) + 1 = ((p + 1 : Nat) : Int) by omega] <;> rfl) (ih (by omega))
    exact loop71 0 (Nat.zero_le _)
  · refine g_aload_n fx dX11_orders_12 rfl ?_
    refine g_callVD fx dX11_orders_13 mv_RX11_349 my_X11_costOfOrder (s_X11_costOfOrder ad _ hT (fun k hk => hO k (by omega))) o_223 rfl rfl rfl (Nat.le_of_ble_eq_true rfl) (by decide) (by decide) ?_
    refine g_istore_n fx dX11_orders_16 (by decide) rfl rfl ?_
    refine g_aload_n fx dX11_orders_17 rfl ?_
    refine g_geti fx dX11_orders_18 fk_RX11_352 (by decide) o_223 ?_
    refine g_iconst fx dX11_orders_21 (by unfold okI; omega) ?_
    refine g_icmp_eq (tgt := 34) fx dX11_orders_22 (by decide) (fun h22 => ?_) (fun h22 => ?_)
    · exact j34 h9 (by omega)
    · refine g_iload_n fx dX11_orders_25 rfl ?_
      refine g_aload_n fx dX11_orders_26 rfl ?_
      refine g_geti fx dX11_orders_27 fk_RX11_352 (by decide) o_223 ?_
      refine g_icmp_lt (tgt := 34) fx dX11_orders_30 (by decide) (fun h30 => ?_) (fun h30 => ?_)
      · exact j34 h9 (by omega)
      · exact g_vret fx rfl dX11_orders_33 (by decide) (by decide) (gw_le.rf _) ⟨rfl, rfl, by rw [orF, if_pos h9, orL, if_pos (by omega)]⟩
set_option maxRecDepth 4000 in
theorem s_X11_orders_1 (ad : Nat → Nat) (σ : Sg)  (used : Int) (dp : Int) (hd9 : dp = ((1 : Nat) : Int)) (hT : TW (σ 224)) (h8 : σ 224 668 ≤ 8) (hdp : ((1 : Nat) : Int) ≤ σ 224 668) (hO : ∀ k : Nat, k < 1 → 0 ≤ σ 240 k ∧ σ 240 k < σ 224 668) : gw_Sp yX11_orders cX11_orders 5 none 13 0 0 [vR (some 223), vI used, vI dp] (gw_M0 ad) σ (gw_D none (gw_M0 ad) (orF 8 used 1 σ)) gw_no := by
  refine gw_Sp.of [some (vR (some 223)), some (vI used), some (vI dp), none, none] (by decide +kernel) rfl (Nat.le_of_ble_eq_true rfl) ?_
  intro X G fx het hnm
  subst hd9
  have hP0 := hT.p0
  have j34 : ((1 : Nat) : Int) = σ 224 668 → ¬ (nCoo σ 223 31 ≠ -1 ∧ nCoo σ 223 31 ≤ nCo (nCoo σ)) → gw_W X (yX11_orders.cls, cX11_orders, 5, none, 13, 0, 0) G (gw_Z X G (gw_M0 ad) σ (gw_D none (gw_M0 ad) (orF 8 used 1 σ)) gw_no 0 0) 0 0 (gw_M0 ad) ((nCoo σ)) 34 [some (vR (some 223)), some (vI used), some (vI ((1 : Nat) : Int)), some (vI (nCo (nCoo σ))), none] [] := by
    intro hj1 hj2
    refine g_aload_n fx dX11_orders_34 rfl ?_
    refine g_iload_n fx dX11_orders_35 rfl ?_
    refine g_puti fx dX11_orders_36 fk_RX11_352 o_223 ?_
    refine g_iconst fx dX11_orders_39 (by unfold okI; omega) ?_
    refine g_istore fx dX11_orders_40 (by decide) rfl rfl ?_
    have loop42 : ∀ k : Nat, k ≤ 1 → gw_W X (yX11_orders.cls, cX11_orders, 5, none, 13, 0, 0) G (gw_Z X G (gw_M0 ad) σ (gw_D none (gw_M0 ad) (orF 8 used 1 σ)) gw_no 0 0) 0 0 (gw_M0 ad) ((itr k obS (su (nCoo σ) 223 31 (nCo (nCoo σ))))) 42 [some (vR (some 223)), some (vI used), some (vI ((1 : Nat) : Int)), some (vI (nCo (nCoo σ))), some (vI (k : Nat))] [] := by
      refine up_ind _ (1) (fun k hk ih => ?_)
      refine g_iload fx dX11_orders_42 rfl ?_
      refine g_iload_n fx dX11_orders_44 rfl ?_
      refine g_icmp_ge (tgt := 68) fx dX11_orders_45 (by decide) (fun h45 => ?_) (fun h45 => ?_)
      · exact g_vret fx rfl dX11_orders_68 (by decide) (by decide) (gw_le.rf _) ⟨rfl, rfl, by rw [orF, if_pos hj1, orL, if_neg hj2, show (1 : Nat) = k by omega]⟩
      · refine g_aload_n fx dX11_orders_48 rfl ?_
        refine g_getr fx dX11_orders_49 fk_RX11_66 o_223 rf_223_30 ?_
        refine g_iload fx dX11_orders_52 rfl ?_
        refine g_aload_n fx dX11_orders_54 rfl ?_
        refine g_getr fx dX11_orders_55 fk_RX11_63 o_223 rf_223_29 ?_
        refine g_iload fx dX11_orders_58 rfl ?_
        refine g_iald fx dX11_orders_60 o_240 (by omega) (by show _ < ((60 : Nat) : Int); omega) ?_
        rw [show ((k : Nat) : Int).toNat = k from rfl]
        refine g_iast fx dX11_orders_61 o_241 (by omega) (by show _ < ((60 : Nat) : Int); omega) ?_
        refine g_iinc1 fx dX11_orders_62 (by decide) rfl rfl (by unfold okI; omega) rfl ?_
        refine g_goto (tgt := 42) fx dX11_orders_65 (by decide) ?_
        exact gw_cg (by rw [itr_s, obS] <;> rfl) (by rw [show ((k : Nat) : Int) + 1 = ((k + 1 : Nat) : Int) by omega] <;> rfl) (ih (by omega))
    exact loop42 0 (Nat.zero_le _)
  refine g_iload_n fx dX11_orders_0 rfl ?_
  refine g_aload_n fx dX11_orders_1 rfl ?_
  refine g_getr fx dX11_orders_2 fk_RX11_9 o_223 rf_223_0 ?_
  refine g_sipush fx dX11_orders_5 (by decide) ?_
  refine g_iald fx dX11_orders_8 o_224 (by decide) (by decide) ?_
  rw [show Int.toNat 668 = 668 from rfl]
  refine g_icmp_ne (tgt := 69) fx dX11_orders_9 (by decide) (fun h9 => ?_) (fun h9 => ?_)
  · refine g_iconst fx dX11_orders_69 (by unfold okI; omega) ?_
    refine g_istore_n fx dX11_orders_70 (by decide) rfl rfl ?_
    have loop71 : ∀ p : Nat, p ≤ (σ 224 668).toNat → gw_W X (yX11_orders.cls, cX11_orders, 5, none, 13, 0, 0) G (gw_Z X G (gw_M0 ad) σ (gw_D none (gw_M0 ad) (orF 8 used 1 σ)) gw_no 0 0) 0 0 (gw_M0 ad) ((itr p (orS (orF 7) used 1) σ)) 71 [some (vR (some 223)), some (vI used), some (vI ((1 : Nat) : Int)), some (vI (p : Nat)), none] [] := by
      refine up_ind _ ((σ 224 668).toNat) (fun p hp ih => ?_)
      have hk1 := orI_kp 7 used 1 hT p
      have e668 : (itr p (orS (orF 7) used 1) σ) 224 668 = σ 224 668 := by rw [hk1.1]
      refine g_iload_n fx dX11_orders_71 rfl ?_
      refine g_aload_n fx dX11_orders_72 rfl ?_
      refine g_getr fx dX11_orders_73 fk_RX11_9 o_223 rf_223_0 ?_
      refine g_sipush fx dX11_orders_76 (by decide) ?_
      refine g_iald fx dX11_orders_79 o_224 (by decide) (by decide) ?_
      rw [show Int.toNat 668 = 668 from rfl]
      refine g_icmp_ge (tgt := 120) fx dX11_orders_80 (by decide) (fun h80 => ?_) (fun h80 => ?_)
      · exact g_vret fx rfl dX11_orders_120 (by decide) (by decide) (gw_le.rf _) ⟨rfl, rfl, by rw [orF, if_neg (by omega), show (σ 224 668).toNat = p by omega]⟩
      · refine g_iload_n fx dX11_orders_83 rfl ?_
        refine g_iload_n fx dX11_orders_84 rfl ?_
        refine g_ishr fx dX11_orders_85 ?_
        refine g_iconst fx dX11_orders_86 (by unfold okI; omega) ?_
        refine g_iand fx dX11_orders_87 ?_
        refine g_iconst fx dX11_orders_88 (by unfold okI; omega) ?_
        refine g_icmp_ne (tgt := 95) fx dX11_orders_89 (by decide) (fun h89 => ?_) (fun h89 => ?_)
        · refine g_aload_n fx dX11_orders_95 rfl ?_
          refine g_getr fx dX11_orders_96 fk_RX11_63 o_223 rf_223_29 ?_
          refine g_iload_n fx dX11_orders_99 rfl ?_
          refine g_iload_n fx dX11_orders_100 rfl ?_
          refine g_iast fx dX11_orders_101 o_240 (by omega) (by show _ < ((60 : Nat) : Int); omega) ?_
          rw [show ((1 : Nat) : Int).toNat = 1 from rfl]
          refine g_aload_n fx dX11_orders_102 rfl ?_
          refine g_iload_n fx dX11_orders_103 rfl ?_
          refine g_iconst fx dX11_orders_104 (by unfold okI; omega) ?_
          refine g_iload_n fx dX11_orders_105 rfl ?_
          refine g_ishl fx dX11_orders_106 ?_
          refine g_ior fx dX11_orders_107 ?_
          refine g_iload_n fx dX11_orders_108 rfl ?_
          refine g_iconst fx dX11_orders_109 (by unfold okI; omega) ?_
          refine g_iadd fx dX11_orders_110 ?_
          refine g_callVD0 fx dX11_orders_111 mv_RX11_355 my_X11_orders (s_X11_orders_2 ad _ _ _ (by decide) (show TW ((itr p (orS (orF 7) used 1) σ) 224) by rw [hk1.1]; exact hT) (show (itr p (orS (orF 7) used 1) σ) 224 668 ≤ 8 by omega) (show ((2 : Nat) : Int) ≤ (itr p (orS (orF 7) used 1) σ) 224 668 by omega) (by
            intro k hk
            show 0 ≤ (su (itr p (orS (orF 7) used 1) σ) 240 1 ((p : Nat) : Int)) 240 k ∧ (su (itr p (orS (orF 7) used 1) σ) 240 1 ((p : Nat) : Int)) 240 k < (itr p (orS (orF 7) used 1) σ) 224 668
            by_cases e : k = 1
            · subst e; rw [su_same]; omega
            · rw [su_ne _ _ (Or.inr e), hk1.2 k (by omega), e668]; exact hO k (by omega))) o_223 rfl rfl rfl (Nat.le_of_ble_eq_true rfl) (by decide) (by decide) ?_
          refine g_iinc1 fx dX11_orders_114 (by decide) rfl rfl (by unfold okI; omega) rfl ?_
          refine g_goto (tgt := 71) fx dX11_orders_117 (by decide) ?_
          exact gw_cg (by rw [itr_s, orS]; (repeat first | rw [if_pos (by omega)] | rw [if_neg (by omega)]) <;> rfl) (by rw [show ((p : Nat) : Int) + 1 = ((p + 1 : Nat) : Int) by omega] <;> rfl) (ih (by omega))
        · refine g_goto (tgt := 114) fx dX11_orders_92 (by decide) ?_
          refine g_iinc1 fx dX11_orders_114 (by decide) rfl rfl (by unfold okI; omega) rfl ?_
          refine g_goto (tgt := 71) fx dX11_orders_117 (by decide) ?_
          exact gw_cg (by rw [itr_s, orS]; (repeat first | rw [if_pos (by omega)] | rw [if_neg (by omega)]) <;> rfl) (by rw [show ((p : Nat) : Int) + 1 = ((p + 1 : Nat) : Int) by omega] <;> rfl) (ih (by omega))
    exact loop71 0 (Nat.zero_le _)
  · refine g_aload_n fx dX11_orders_12 rfl ?_
    refine g_callVD fx dX11_orders_13 mv_RX11_349 my_X11_costOfOrder (s_X11_costOfOrder ad _ hT (fun k hk => hO k (by omega))) o_223 rfl rfl rfl (Nat.le_of_ble_eq_true rfl) (by decide) (by decide) ?_
    refine g_istore_n fx dX11_orders_16 (by decide) rfl rfl ?_
    refine g_aload_n fx dX11_orders_17 rfl ?_
    refine g_geti fx dX11_orders_18 fk_RX11_352 (by decide) o_223 ?_
    refine g_iconst fx dX11_orders_21 (by unfold okI; omega) ?_
    refine g_icmp_eq (tgt := 34) fx dX11_orders_22 (by decide) (fun h22 => ?_) (fun h22 => ?_)
    · exact j34 h9 (by omega)
    · refine g_iload_n fx dX11_orders_25 rfl ?_
      refine g_aload_n fx dX11_orders_26 rfl ?_
      refine g_geti fx dX11_orders_27 fk_RX11_352 (by decide) o_223 ?_
      refine g_icmp_lt (tgt := 34) fx dX11_orders_30 (by decide) (fun h30 => ?_) (fun h30 => ?_)
      · exact j34 h9 (by omega)
      · exact g_vret fx rfl dX11_orders_33 (by decide) (by decide) (gw_le.rf _) ⟨rfl, rfl, by rw [orF, if_pos h9, orL, if_pos (by omega)]⟩
set_option maxRecDepth 4000 in
theorem s_X11_orders_0 (ad : Nat → Nat) (σ : Sg)  (used : Int) (dp : Int) (hd9 : dp = ((0 : Nat) : Int)) (hT : TW (σ 224)) (h8 : σ 224 668 ≤ 8) (hdp : ((0 : Nat) : Int) ≤ σ 224 668) (hO : ∀ k : Nat, k < 0 → 0 ≤ σ 240 k ∧ σ 240 k < σ 224 668) : gw_Sp yX11_orders cX11_orders 5 none 14 0 0 [vR (some 223), vI used, vI dp] (gw_M0 ad) σ (gw_D none (gw_M0 ad) (orF 9 used 0 σ)) gw_no := by
  refine gw_Sp.of [some (vR (some 223)), some (vI used), some (vI dp), none, none] (by decide +kernel) rfl (Nat.le_of_ble_eq_true rfl) ?_
  intro X G fx het hnm
  subst hd9
  have hP0 := hT.p0
  have j34 : ((0 : Nat) : Int) = σ 224 668 → ¬ (nCoo σ 223 31 ≠ -1 ∧ nCoo σ 223 31 ≤ nCo (nCoo σ)) → gw_W X (yX11_orders.cls, cX11_orders, 5, none, 14, 0, 0) G (gw_Z X G (gw_M0 ad) σ (gw_D none (gw_M0 ad) (orF 9 used 0 σ)) gw_no 0 0) 0 0 (gw_M0 ad) ((nCoo σ)) 34 [some (vR (some 223)), some (vI used), some (vI ((0 : Nat) : Int)), some (vI (nCo (nCoo σ))), none] [] := by
    intro hj1 hj2
    refine g_aload_n fx dX11_orders_34 rfl ?_
    refine g_iload_n fx dX11_orders_35 rfl ?_
    refine g_puti fx dX11_orders_36 fk_RX11_352 o_223 ?_
    refine g_iconst fx dX11_orders_39 (by unfold okI; omega) ?_
    refine g_istore fx dX11_orders_40 (by decide) rfl rfl ?_
    have loop42 : ∀ k : Nat, k ≤ 0 → gw_W X (yX11_orders.cls, cX11_orders, 5, none, 14, 0, 0) G (gw_Z X G (gw_M0 ad) σ (gw_D none (gw_M0 ad) (orF 9 used 0 σ)) gw_no 0 0) 0 0 (gw_M0 ad) ((itr k obS (su (nCoo σ) 223 31 (nCo (nCoo σ))))) 42 [some (vR (some 223)), some (vI used), some (vI ((0 : Nat) : Int)), some (vI (nCo (nCoo σ))), some (vI (k : Nat))] [] := by
      refine up_ind _ (0) (fun k hk ih => ?_)
      refine g_iload fx dX11_orders_42 rfl ?_
      refine g_iload_n fx dX11_orders_44 rfl ?_
      refine g_icmp_ge (tgt := 68) fx dX11_orders_45 (by decide) (fun h45 => ?_) (fun h45 => ?_)
      · exact g_vret fx rfl dX11_orders_68 (by decide) (by decide) (gw_le.rf _) ⟨rfl, rfl, by rw [orF, if_pos hj1, orL, if_neg hj2, show (0 : Nat) = k by omega]⟩
      · refine g_aload_n fx dX11_orders_48 rfl ?_
        refine g_getr fx dX11_orders_49 fk_RX11_66 o_223 rf_223_30 ?_
        refine g_iload fx dX11_orders_52 rfl ?_
        refine g_aload_n fx dX11_orders_54 rfl ?_
        refine g_getr fx dX11_orders_55 fk_RX11_63 o_223 rf_223_29 ?_
        refine g_iload fx dX11_orders_58 rfl ?_
        refine g_iald fx dX11_orders_60 o_240 (by omega) (by show _ < ((60 : Nat) : Int); omega) ?_
        rw [show ((k : Nat) : Int).toNat = k from rfl]
        refine g_iast fx dX11_orders_61 o_241 (by omega) (by show _ < ((60 : Nat) : Int); omega) ?_
        refine g_iinc1 fx dX11_orders_62 (by decide) rfl rfl (by unfold okI; omega) rfl ?_
        refine g_goto (tgt := 42) fx dX11_orders_65 (by decide) ?_
        exact gw_cg (by rw [itr_s, obS] <;> rfl) (by rw [show ((k : Nat) : Int) + 1 = ((k + 1 : Nat) : Int) by omega] <;> rfl) (ih (by omega))
    exact loop42 0 (Nat.zero_le _)
  refine g_iload_n fx dX11_orders_0 rfl ?_
  refine g_aload_n fx dX11_orders_1 rfl ?_
  refine g_getr fx dX11_orders_2 fk_RX11_9 o_223 rf_223_0 ?_
  refine g_sipush fx dX11_orders_5 (by decide) ?_
  refine g_iald fx dX11_orders_8 o_224 (by decide) (by decide) ?_
  rw [show Int.toNat 668 = 668 from rfl]
  refine g_icmp_ne (tgt := 69) fx dX11_orders_9 (by decide) (fun h9 => ?_) (fun h9 => ?_)
  · refine g_iconst fx dX11_orders_69 (by unfold okI; omega) ?_
    refine g_istore_n fx dX11_orders_70 (by decide) rfl rfl ?_
    have loop71 : ∀ p : Nat, p ≤ (σ 224 668).toNat → gw_W X (yX11_orders.cls, cX11_orders, 5, none, 14, 0, 0) G (gw_Z X G (gw_M0 ad) σ (gw_D none (gw_M0 ad) (orF 9 used 0 σ)) gw_no 0 0) 0 0 (gw_M0 ad) ((itr p (orS (orF 8) used 0) σ)) 71 [some (vR (some 223)), some (vI used), some (vI ((0 : Nat) : Int)), some (vI (p : Nat)), none] [] := by
      refine up_ind _ ((σ 224 668).toNat) (fun p hp ih => ?_)
      have hk1 := orI_kp 8 used 0 hT p
      have e668 : (itr p (orS (orF 8) used 0) σ) 224 668 = σ 224 668 := by rw [hk1.1]
      refine g_iload_n fx dX11_orders_71 rfl ?_
      refine g_aload_n fx dX11_orders_72 rfl ?_
      refine g_getr fx dX11_orders_73 fk_RX11_9 o_223 rf_223_0 ?_
      refine g_sipush fx dX11_orders_76 (by decide) ?_
      refine g_iald fx dX11_orders_79 o_224 (by decide) (by decide) ?_
      rw [show Int.toNat 668 = 668 from rfl]
      refine g_icmp_ge (tgt := 120) fx dX11_orders_80 (by decide) (fun h80 => ?_) (fun h80 => ?_)
      · exact g_vret fx rfl dX11_orders_120 (by decide) (by decide) (gw_le.rf _) ⟨rfl, rfl, by rw [orF, if_neg (by omega), show (σ 224 668).toNat = p by omega]⟩
      · refine g_iload_n fx dX11_orders_83 rfl ?_
        refine g_iload_n fx dX11_orders_84 rfl ?_
        refine g_ishr fx dX11_orders_85 ?_
        refine g_iconst fx dX11_orders_86 (by unfold okI; omega) ?_
        refine g_iand fx dX11_orders_87 ?_
        refine g_iconst fx dX11_orders_88 (by unfold okI; omega) ?_
        refine g_icmp_ne (tgt := 95) fx dX11_orders_89 (by decide) (fun h89 => ?_) (fun h89 => ?_)
        · refine g_aload_n fx dX11_orders_95 rfl ?_
          refine g_getr fx dX11_orders_96 fk_RX11_63 o_223 rf_223_29 ?_
          refine g_iload_n fx dX11_orders_99 rfl ?_
          refine g_iload_n fx dX11_orders_100 rfl ?_
          refine g_iast fx dX11_orders_101 o_240 (by omega) (by show _ < ((60 : Nat) : Int); omega) ?_
          rw [show ((0 : Nat) : Int).toNat = 0 from rfl]
          refine g_aload_n fx dX11_orders_102 rfl ?_
          refine g_iload_n fx dX11_orders_103 rfl ?_
          refine g_iconst fx dX11_orders_104 (by unfold okI; omega) ?_
          refine g_iload_n fx dX11_orders_105 rfl ?_
          refine g_ishl fx dX11_orders_106 ?_
          refine g_ior fx dX11_orders_107 ?_
          refine g_iload_n fx dX11_orders_108 rfl ?_
          refine g_iconst fx dX11_orders_109 (by unfold okI; omega) ?_
          refine g_iadd fx dX11_orders_110 ?_
          refine g_callVD0 fx dX11_orders_111 mv_RX11_355 my_X11_orders (s_X11_orders_1 ad _ _ _ (by decide) (show TW ((itr p (orS (orF 8) used 0) σ) 224) by rw [hk1.1]; exact hT) (show (itr p (orS (orF 8) used 0) σ) 224 668 ≤ 8 by omega) (show ((1 : Nat) : Int) ≤ (itr p (orS (orF 8) used 0) σ) 224 668 by omega) (by
            intro k hk
            show 0 ≤ (su (itr p (orS (orF 8) used 0) σ) 240 0 ((p : Nat) : Int)) 240 k ∧ (su (itr p (orS (orF 8) used 0) σ) 240 0 ((p : Nat) : Int)) 240 k < (itr p (orS (orF 8) used 0) σ) 224 668
            by_cases e : k = 0
            · subst e; rw [su_same]; omega
            · rw [su_ne _ _ (Or.inr e), hk1.2 k (by omega), e668]; exact hO k (by omega))) o_223 rfl rfl rfl (Nat.le_of_ble_eq_true rfl) (by decide) (by decide) ?_
          refine g_iinc1 fx dX11_orders_114 (by decide) rfl rfl (by unfold okI; omega) rfl ?_
          refine g_goto (tgt := 71) fx dX11_orders_117 (by decide) ?_
          exact gw_cg (by rw [itr_s, orS]; (repeat first | rw [if_pos (by omega)] | rw [if_neg (by omega)]) <;> rfl) (by rw [show ((p : Nat) : Int) + 1 = ((p + 1 : Nat) : Int) by omega] <;> rfl) (ih (by omega))
        · refine g_goto (tgt := 114) fx dX11_orders_92 (by decide) ?_
          refine g_iinc1 fx dX11_orders_114 (by decide) rfl rfl (by unfold okI; omega) rfl ?_
          refine g_goto (tgt := 71) fx dX11_orders_117 (by decide) ?_
          exact gw_cg (by rw [itr_s, orS]; (repeat first | rw [if_pos (by omega)] | rw [if_neg (by omega)]) <;> rfl) (by rw [show ((p : Nat) : Int) + 1 = ((p + 1 : Nat) : Int) by omega] <;> rfl) (ih (by omega))
    exact loop71 0 (Nat.zero_le _)
  · refine g_aload_n fx dX11_orders_12 rfl ?_
    refine g_callVD fx dX11_orders_13 mv_RX11_349 my_X11_costOfOrder (s_X11_costOfOrder ad _ hT (fun k hk => hO k (by omega))) o_223 rfl rfl rfl (Nat.le_of_ble_eq_true rfl) (by decide) (by decide) ?_
    refine g_istore_n fx dX11_orders_16 (by decide) rfl rfl ?_
    refine g_aload_n fx dX11_orders_17 rfl ?_
    refine g_geti fx dX11_orders_18 fk_RX11_352 (by decide) o_223 ?_
    refine g_iconst fx dX11_orders_21 (by unfold okI; omega) ?_
    refine g_icmp_eq (tgt := 34) fx dX11_orders_22 (by decide) (fun h22 => ?_) (fun h22 => ?_)
    · exact j34 h9 (by omega)
    · refine g_iload_n fx dX11_orders_25 rfl ?_
      refine g_aload_n fx dX11_orders_26 rfl ?_
      refine g_geti fx dX11_orders_27 fk_RX11_352 (by decide) o_223 ?_
      refine g_icmp_lt (tgt := 34) fx dX11_orders_30 (by decide) (fun h30 => ?_) (fun h30 => ?_)
      · exact j34 h9 (by omega)
      · exact g_vret fx rfl dX11_orders_33 (by decide) (by decide) (gw_le.rf _) ⟨rfl, rfl, by rw [orF, if_pos h9, orL, if_pos (by omega)]⟩
set_option maxRecDepth 4000 in
theorem s_X11_best (ad : Nat → Nat) (σ : Sg)  (k : Int) (hT : TW (σ 224)) : gw_Sp yX11_best cX11_best 2 (some .int) 15 0 0 [vR (some 223), vI k] (gw_M0 ad) σ (gw_D (some (vI (nBs σ k).1)) (gw_M0 ad) ((nBs σ k).2)) gw_no := by
  refine gw_Sp.of [some (vR (some 223)), some (vI k)] (by decide +kernel) rfl (Nat.le_of_ble_eq_true rfl) ?_
  intro X G fx het hnm
  have hP0 := hT.p0
  have hP := hT.p60
  have j74 : σ 224 668 ≤ 8 → ∀ v, v = nBsV (nSk0 (nT0 σ)) k → gw_W X (yX11_best.cls, cX11_best, 2, (some .int), 15, 0, 0) G (gw_Z X G (gw_M0 ad) σ (gw_D (some (vI (nBs σ k).1)) (gw_M0 ad) ((nBs σ k).2)) gw_no 0 0) 0 0 (gw_M0 ad) ((nSk0 (nT0 σ))) 74 [some (vR (some 223)), some (vI k)] [vI v] := by
    intro hj1 v hj2
    exact g_iret fx rfl dX11_best_74 (by decide) (by decide) (gw_le.rf _) ⟨by rw [hj2, nBs, if_neg (by omega)], rfl, by rw [nBs, if_neg (by omega)]⟩
  refine g_aload_n fx dX11_best_0 rfl ?_
  refine g_iconst fx dX11_best_1 (by unfold okI; omega) ?_
  refine g_puti fx dX11_best_2 fk_RX11_88 o_223 ?_
  refine gw_cg (σ' := nT0 σ) rfl rfl ?_
  refine g_aload_n fx dX11_best_5 rfl ?_
  refine g_getr fx dX11_best_6 fk_RX11_9 o_223 rf_223_0 ?_
  refine g_sipush fx dX11_best_9 (by decide) ?_
  refine g_iald fx dX11_best_12 o_224 (by decide) (by decide) ?_
  rw [show Int.toNat 668 = 668 from rfl]
  refine g_bipush fx dX11_best_13 (by decide) ?_
  refine g_icmp_le (tgt := 21) fx dX11_best_15 (by decide) (fun h15 => ?_) (fun h15 => ?_)
  · refine g_aload_n fx dX11_best_21 rfl ?_
    refine g_iconst fx dX11_best_22 (by unfold okI; omega) ?_
    refine g_puti fx dX11_best_23 fk_RX11_352 o_223 ?_
    refine g_aload_n fx dX11_best_26 rfl ?_
    refine g_iconst fx dX11_best_27 (by unfold okI; omega) ?_
    refine g_iconst fx dX11_best_28 (by unfold okI; omega) ?_
    refine g_callVD0 fx dX11_best_29 mv_RX11_355 my_X11_orders (s_X11_orders_0 ad _ _ _ (by decide) (by show TW ((su (nT0 σ) 223 31 (-1)) 224); exact hT) (show σ 224 668 ≤ 8 from h15) (show ((0 : Nat) : Int) ≤ σ 224 668 by omega) (fun k hk => by omega)) o_223 rfl rfl rfl (Nat.le_of_ble_eq_true rfl) (by decide) (by decide) ?_
    have e224 : nSk0 (nT0 σ) 224 = σ 224 := nSk0_224 (σ := nT0 σ) hT
    have e668 : nSk0 (nT0 σ) 224 668 = σ 224 668 := by rw [e224]
    refine gw_cg (σ' := nSk0 (nT0 σ)) rfl rfl ?_
    refine g_iload_n fx dX11_best_32 rfl ?_
    refine g_iconst fx dX11_best_33 (by unfold okI; omega) ?_
    refine g_icmp_ne (tgt := 44) fx dX11_best_34 (by decide) (fun h34 => ?_) (fun h34 => ?_)
    · refine g_iload_n fx dX11_best_44 rfl ?_
      refine g_i2l fx dX11_best_45 ?_
      refine g_lconst0 fx dX11_best_46 ?_
      refine g_aload_n fx dX11_best_47 rfl ?_
      refine g_getr fx dX11_best_48 fk_RX11_9 o_223 rf_223_0 ?_
      refine g_sipush fx dX11_best_51 (by decide) ?_
      refine g_iald fx dX11_best_54 o_224 (by decide) (by decide) ?_
      rw [show Int.toNat 668 = 668 from rfl]
      refine g_iconst fx dX11_best_55 (by unfold okI; omega) ?_
      refine g_isub fx dX11_best_56 ?_
      refine g_i2l fx dX11_best_57 ?_
      refine g_callSD fx dX11_best_58 ms_RX11_147 my_X11_within (s_X11_within ad _ _ _ _) rfl rfl (Nat.le_of_ble_eq_true rfl) (by decide) (by decide) ?_
      refine g_if_eq (tgt := 73) fx dX11_best_61 (by decide) (fun h61 => ?_) (fun h61 => ?_)
      · refine g_iconst fx dX11_best_73 (by unfold okI; omega) ?_
        exact j74 h15 _ (by rw [nBsV]; (repeat first | rw [if_pos (by omega)] | rw [if_neg (by omega)]) <;> rfl)
      · have hw := wth_1 h61
        rw [wr_id (by unfold okI; omega)] at hw
        refine g_aload_n fx dX11_best_64 rfl ?_
        refine g_getr fx dX11_best_65 fk_RX11_66 o_223 rf_223_30 ?_
        refine g_iload_n fx dX11_best_68 rfl ?_
        refine g_iald fx dX11_best_69 o_241 (by omega) (by show _ < ((60 : Nat) : Int); omega) ?_
        refine g_goto (tgt := 74) fx dX11_best_70 (by decide) ?_
        exact j74 h15 _ (by rw [nBsV]; (repeat first | rw [if_pos (by omega)] | rw [if_neg (by omega)]) <;> rfl)
    · refine g_aload_n fx dX11_best_37 rfl ?_
      refine g_geti fx dX11_best_38 fk_RX11_352 (by decide) o_223 ?_
      refine g_goto (tgt := 74) fx dX11_best_41 (by decide) ?_
      exact j74 h15 _ (by rw [nBsV]; (repeat first | rw [if_pos (by omega)] | rw [if_neg (by omega)]) <;> rfl)
  · refine g_bipush fx dX11_best_18 (by decide) ?_
    exact g_iret fx rfl dX11_best_20 (by decide) (by decide) (gw_le.rf _) ⟨by rw [nBs, if_pos (by exact h15)], rfl, by rw [nBs, if_pos (by exact h15)]⟩
set_option maxRecDepth 4000 in
theorem s_X11_gap (ad : Nat → Nat) (σ : Sg)  (hT : TW (σ 224)) : gw_Sp yX11_gap cX11_gap 1 (some .int) 15 0 0 [vR (some 223)] (gw_M0 ad) σ (gw_D (some (vI (nGp σ).1)) (gw_M0 ad) ((nGp σ).2)) gw_no := by
  refine gw_Sp.of [some (vR (some 223))] (by decide +kernel) rfl (Nat.le_of_ble_eq_true rfl) ?_
  intro X G fx het hnm
  have hP0 := hT.p0
  have hP := hT.p60
  refine g_aload_n fx dX11_gap_0 rfl ?_
  refine g_iconst fx dX11_gap_1 (by unfold okI; omega) ?_
  refine g_puti fx dX11_gap_2 fk_RX11_88 o_223 ?_
  refine gw_cg (σ' := nT0 σ) rfl rfl ?_
  refine g_aload_n fx dX11_gap_5 rfl ?_
  refine g_callVD fx dX11_gap_6 mv_RX11_305 my_X11_stones (s_X11_stones ad _ ) o_223 rfl rfl rfl (Nat.le_of_ble_eq_true rfl) (by decide) (by decide) ?_
  change gw_W _ _ _ _ _ _ _ _ _ _ [vI (max 1 (σ 224 1))]
  refine g_iconst fx dX11_gap_9 (by unfold okI; omega) ?_
  refine g_icmp_le (tgt := 15) fx dX11_gap_10 (by decide) (fun h10 => ?_) (fun h10 => ?_)
  · refine g_aload_n fx dX11_gap_15 rfl ?_
    refine g_getr fx dX11_gap_16 fk_RX11_9 o_223 rf_223_0 ?_
    refine g_sipush fx dX11_gap_19 (by decide) ?_
    refine g_iald fx dX11_gap_22 o_224 (by decide) (by decide) ?_
    rw [show Int.toNat 668 = 668 from rfl]
    refine g_bipush fx dX11_gap_23 (by decide) ?_
    refine g_icmp_le (tgt := 31) fx dX11_gap_25 (by decide) (fun h25 => ?_) (fun h25 => ?_)
    · refine g_aload_n fx dX11_gap_31 rfl ?_
      refine g_iconst fx dX11_gap_32 (by unfold okI; omega) ?_
      refine g_puti fx dX11_gap_33 fk_RX11_352 o_223 ?_
      refine g_aload_n fx dX11_gap_36 rfl ?_
      refine g_iconst fx dX11_gap_37 (by unfold okI; omega) ?_
      refine g_iconst fx dX11_gap_38 (by unfold okI; omega) ?_
      refine g_callVD0 fx dX11_gap_39 mv_RX11_355 my_X11_orders (s_X11_orders_0 ad _ _ _ (by decide) (by show TW ((su (nT0 σ) 223 31 (-1)) 224); exact hT) (show σ 224 668 ≤ 8 from h25) (show ((0 : Nat) : Int) ≤ σ 224 668 by omega) (fun k hk => by omega)) o_223 rfl rfl rfl (Nat.le_of_ble_eq_true rfl) (by decide) (by decide) ?_
      have e224 : nSk0 (nT0 σ) 224 = σ 224 := nSk0_224 (σ := nT0 σ) hT
      refine gw_cg (σ' := nSk0 (nT0 σ)) rfl rfl ?_
      refine g_aload_n fx dX11_gap_42 rfl ?_
      refine g_callVD fx dX11_gap_43 mv_RX11_358 my_X11_costOfRun (s_X11_costOfRun ad _ (by rw [e224]; exact hT)) o_223 rfl rfl rfl (Nat.le_of_ble_eq_true rfl) (by decide) (by decide) ?_
      refine g_aload_n fx dX11_gap_46 rfl ?_
      refine g_geti fx dX11_gap_47 fk_RX11_352 (by decide) o_223 ?_
      refine g_isub fx dX11_gap_50 ?_
      exact g_iret fx rfl dX11_gap_51 (by decide) (by decide) (gw_le.rf _) ⟨by rw [nGp, if_neg (by omega), if_neg (by exact Int.not_lt.mpr h25)], rfl, by rw [nGp, if_neg (by omega), if_neg (by exact Int.not_lt.mpr h25)]⟩
    · refine g_bipush fx dX11_gap_28 (by decide) ?_
      exact g_iret fx rfl dX11_gap_30 (by decide) (by decide) (gw_le.rf _) ⟨by rw [nGp, if_neg (by omega), if_pos (by exact h25)], rfl, by rw [nGp, if_neg (by omega), if_pos (by exact h25)]⟩
  · refine g_iconst fx dX11_gap_13 (by unfold okI; omega) ?_
    exact g_iret fx rfl dX11_gap_14 (by decide) (by decide) (gw_le.rf _) ⟨by rw [nGp, if_pos (by omega)], rfl, by rw [nGp, if_pos (by omega)]⟩
set_option maxRecDepth 4000 in
theorem s_X11_priceOf (ad : Nat → Nat) (σ : Sg)  (s : Int) (hT : TW (σ 224)) (hs : 0 ≤ s ∧ s < σ 224 4) : gw_Sp yX11_priceOf cX11_priceOf 2 (some .int) 7 0 0 [vR (some 223), vI s] (gw_M0 ad) σ (gw_D (some (vI (nPcO (nRu σ) s))) (gw_M0 ad) (nRu σ)) gw_no := by
  refine gw_Sp.of [some (vR (some 223)), some (vI s)] (by decide +kernel) rfl (Nat.le_of_ble_eq_true rfl) ?_
  intro X G fx het hnm
  refine g_aload_n fx dX11_priceOf_0 rfl ?_
  refine g_callVD0 fx dX11_priceOf_1 mv_RX11_323 my_X11_runs (s_X11_runs ad _ (by first | exact hT | exact hTx)) o_223 rfl rfl rfl (Nat.le_of_ble_eq_true rfl) (by decide) (by decide) ?_
  have hTr := TW_ru hT
  have hS := hTr.sacks
  have hP := hTr.p60
  have e4 : nRu σ 224 4 = σ 224 4 := by rw [nRu_224 hT]
  refine g_aload_n fx dX11_priceOf_4 rfl ?_
  refine g_iload_n fx dX11_priceOf_5 rfl ?_
  refine g_iconst fx dX11_priceOf_6 (by unfold okI; omega) ?_
  refine g_callVD fx dX11_priceOf_7 mv_RX11_242 my_X11_of (s_X11_of ad _ _ _ (by omega)) o_223 rfl rfl rfl (Nat.le_of_ble_eq_true rfl) (by decide) (by decide) ?_
  refine g_aload_n fx dX11_priceOf_10 rfl ?_
  refine g_iload_n fx dX11_priceOf_11 rfl ?_
  refine g_callVD fx dX11_priceOf_12 mv_RX11_320 my_X11_waitOf (s_X11_waitOf ad _ _ (by omega) (by omega)) o_223 rfl rfl rfl (Nat.le_of_ble_eq_true rfl) (by decide) (by decide) ?_
  refine g_imul fx dX11_priceOf_15 ?_
  refine g_aload_n fx dX11_priceOf_16 rfl ?_
  refine g_getr fx dX11_priceOf_17 fk_RX11_9 o_223 rf_223_0 ?_
  refine g_iconst fx dX11_priceOf_20 (by unfold okI; omega) ?_
  refine g_iald fx dX11_priceOf_21 o_224 (by decide) (by decide) ?_
  rw [show Int.toNat 3 = 3 from rfl]
  refine g_aload_n fx dX11_priceOf_22 rfl ?_
  refine g_iload_n fx dX11_priceOf_23 rfl ?_
  refine g_bipush fx dX11_priceOf_24 (by decide) ?_
  refine g_callVD fx dX11_priceOf_26 mv_RX11_242 my_X11_of (s_X11_of ad _ _ _ (by omega)) o_223 rfl rfl rfl (Nat.le_of_ble_eq_true rfl) (by decide) (by decide) ?_
  refine g_imul fx dX11_priceOf_29 ?_
  refine g_iadd fx dX11_priceOf_30 ?_
  exact g_iret fx rfl dX11_priceOf_31 (by decide) (by decide) (gw_le.rf _) ⟨rfl, rfl, rfl⟩
