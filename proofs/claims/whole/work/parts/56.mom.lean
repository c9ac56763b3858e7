theorem dX11_costNow_0 : gw_dc cX11_costNow 0 (.iconst 0) 1 1 := ⟨by decide +kernel, rfl⟩
theorem dX11_costNow_1 : gw_dc cX11_costNow 1 (.istore_n 1) 1 2 := ⟨by decide +kernel, rfl⟩
theorem dX11_costNow_2 : gw_dc cX11_costNow 2 (.iconst 0) 1 3 := ⟨by decide +kernel, rfl⟩
theorem dX11_costNow_3 : gw_dc cX11_costNow 3 (.istore_n 2) 1 4 := ⟨by decide +kernel, rfl⟩
theorem dX11_costNow_4 : gw_dc cX11_costNow 4 (.iload_n 2) 1 5 := ⟨by decide +kernel, rfl⟩
theorem dX11_costNow_5 : gw_dc cX11_costNow 5 (.aload_n 0) 1 6 := ⟨by decide +kernel, rfl⟩
theorem dX11_costNow_6 : gw_dc cX11_costNow 6 (.getfield 9) 3 9 := ⟨by decide +kernel, rfl⟩
theorem dX11_costNow_9 : gw_dc cX11_costNow 9 (.iconst 4) 1 10 := ⟨by decide +kernel, rfl⟩
theorem dX11_costNow_10 : gw_dc cX11_costNow 10 (.iaload) 1 11 := ⟨by decide +kernel, rfl⟩
theorem dX11_costNow_11 : gw_dc cX11_costNow 11 (.if_icmp .ge 24) 3 14 := ⟨by decide +kernel, rfl⟩
theorem dX11_costNow_35 : gw_dc cX11_costNow 35 (.iload_n 1) 1 36 := ⟨by decide +kernel, rfl⟩
theorem dX11_costNow_36 : decode cX11_costNow 36 = .ok (.ireturn, 1) := by decide +kernel
theorem dX11_costNow_14 : gw_dc cX11_costNow 14 (.iload_n 1) 1 15 := ⟨by decide +kernel, rfl⟩
theorem dX11_costNow_15 : gw_dc cX11_costNow 15 (.aload_n 0) 1 16 := ⟨by decide +kernel, rfl⟩
theorem dX11_costNow_16 : gw_dc cX11_costNow 16 (.iload_n 2) 1 17 := ⟨by decide +kernel, rfl⟩
theorem dX11_costNow_17 : gw_dc cX11_costNow 17 (.iconst 4) 1 18 := ⟨by decide +kernel, rfl⟩
theorem dX11_costNow_18 : gw_dc cX11_costNow 18 (.invokevirtual 242) 3 21 := ⟨by decide +kernel, rfl⟩
theorem dX11_costNow_21 : gw_dc cX11_costNow 21 (.aload_n 0) 1 22 := ⟨by decide +kernel, rfl⟩
theorem dX11_costNow_22 : gw_dc cX11_costNow 22 (.iload_n 2) 1 23 := ⟨by decide +kernel, rfl⟩
theorem dX11_costNow_23 : gw_dc cX11_costNow 23 (.invokevirtual 320) 3 26 := ⟨by decide +kernel, rfl⟩
theorem mv_RX11_320 : gw_mv RX11 320 yX11_waitOf := ⟨gw_mem 1791 (by decide +kernel) rfl, gw_mem 1793 (by decide +kernel) rfl, gw_mem 75 (by decide +kernel) rfl⟩
theorem my_X11_waitOf : gw_my yX11_waitOf cX11_waitOf 2 (some .int) 1 := ⟨gw_mem 1794 (by decide +kernel) rfl, gw_mem 106 (by decide +kernel) rfl, by decide +kernel, by decide⟩
theorem dX11_costNow_26 : gw_dc cX11_costNow 26 (.imul) 1 27 := ⟨by decide +kernel, rfl⟩
theorem dX11_costNow_27 : gw_dc cX11_costNow 27 (.iadd) 1 28 := ⟨by decide +kernel, rfl⟩
theorem dX11_costNow_28 : gw_dc cX11_costNow 28 (.istore_n 1) 1 29 := ⟨by decide +kernel, rfl⟩
theorem dX11_costNow_29 : gw_dc cX11_costNow 29 (.iinc 2 1) 3 32 := ⟨by decide +kernel, rfl⟩
theorem dX11_costNow_32 : gw_dc cX11_costNow 32 (.goto (-28)) 3 35 := ⟨by decide +kernel, rfl⟩
theorem dX11_costOfRun_0 : gw_dc cX11_costOfRun 0 (.aload_n 0) 1 1 := ⟨by decide +kernel, rfl⟩
theorem dX11_costOfRun_1 : gw_dc cX11_costOfRun 1 (.invokevirtual 323) 3 4 := ⟨by decide +kernel, rfl⟩
theorem mv_RX11_323 : gw_mv RX11 323 yX11_runs := ⟨gw_mem 1724 (by decide +kernel) rfl, gw_mem 1726 (by decide +kernel) rfl, gw_mem 62 (by decide +kernel) rfl⟩
theorem my_X11_runs : gw_my yX11_runs cX11_runs 4 none 0 := ⟨gw_mem 1727 (by decide +kernel) rfl, gw_mem 106 (by decide +kernel) rfl, by decide +kernel, by decide⟩
theorem dX11_costOfRun_4 : gw_dc cX11_costOfRun 4 (.aload_n 0) 1 5 := ⟨by decide +kernel, rfl⟩
theorem dX11_costOfRun_5 : gw_dc cX11_costOfRun 5 (.invokevirtual 326) 3 8 := ⟨by decide +kernel, rfl⟩
theorem mv_RX11_326 : gw_mv RX11 326 yX11_costNow := ⟨gw_mem 1807 (by decide +kernel) rfl, gw_mem 1809 (by decide +kernel) rfl, gw_mem 77 (by decide +kernel) rfl⟩
theorem my_X11_costNow : gw_my yX11_costNow cX11_costNow 3 (some .int) 0 := ⟨gw_mem 1810 (by decide +kernel) rfl, gw_mem 106 (by decide +kernel) rfl, by decide +kernel, by decide⟩
theorem dX11_costOfRun_8 : decode cX11_costOfRun 8 = .ok (.ireturn, 1) := by decide +kernel
theorem dX11_piece_102 : decode cX11_piece 102 = .ok (.ireturn, 1) := by decide +kernel
theorem dX11_piece_0 : gw_dc cX11_piece 0 (.aload_n 0) 1 1 := ⟨by decide +kernel, rfl⟩
theorem dX11_piece_1 : gw_dc cX11_piece 1 (.iconst 0) 1 2 := ⟨by decide +kernel, rfl⟩
theorem dX11_piece_2 : gw_dc cX11_piece 2 (.putfield 88) 3 5 := ⟨by decide +kernel, rfl⟩
theorem dX11_piece_5 : gw_dc cX11_piece 5 (.aload_n 0) 1 6 := ⟨by decide +kernel, rfl⟩
theorem dX11_piece_6 : gw_dc cX11_piece 6 (.iload_n 1) 1 7 := ⟨by decide +kernel, rfl⟩
theorem dX11_piece_7 : gw_dc cX11_piece 7 (.i2l) 1 8 := ⟨by decide +kernel, rfl⟩
theorem dX11_piece_8 : gw_dc cX11_piece 8 (.invokevirtual 329) 3 11 := ⟨by decide +kernel, rfl⟩
theorem mv_RX11_329 : gw_mv RX11 329 yX11_isPiece := ⟨gw_mem 1719 (by decide +kernel) rfl, gw_mem 1721 (by decide +kernel) rfl, gw_mem 61 (by decide +kernel) rfl⟩
theorem my_X11_isPiece : gw_my yX11_isPiece cX11_isPiece 3 (some .boolean) 1 := ⟨gw_mem 1722 (by decide +kernel) rfl, gw_mem 106 (by decide +kernel) rfl, by decide +kernel, by decide⟩
theorem dX11_piece_11 : gw_dc cX11_piece 11 (.ifCond .ne 9) 3 14 := ⟨by decide +kernel, rfl⟩
theorem dX11_piece_20 : gw_dc cX11_piece 20 (.iload_n 2) 1 21 := ⟨by decide +kernel, rfl⟩
theorem dX11_piece_21 : gw_dc cX11_piece 21 (.i2l) 1 22 := ⟨by decide +kernel, rfl⟩
theorem dX11_piece_22 : gw_dc cX11_piece 22 (.lconst 0) 1 23 := ⟨by decide +kernel, rfl⟩
theorem dX11_piece_23 : gw_dc cX11_piece 23 (.ldc2_w 333) 3 26 := ⟨by decide +kernel, rfl⟩
theorem kc_RX11_333 : Cond.constantLong RX11 333 (Int64.ofInt 4) ∈ wsG := gw_mem 1723 (by decide +kernel) rfl
theorem dX11_piece_26 : gw_dc cX11_piece 26 (.invokestatic 147) 3 29 := ⟨by decide +kernel, rfl⟩
theorem dX11_piece_29 : gw_dc cX11_piece 29 (.ifCond .ne 9) 3 32 := ⟨by decide +kernel, rfl⟩
theorem dX11_piece_38 : gw_dc cX11_piece 38 (.aload_n 0) 1 39 := ⟨by decide +kernel, rfl⟩
theorem dX11_piece_39 : gw_dc cX11_piece 39 (.invokevirtual 323) 3 42 := ⟨by decide +kernel, rfl⟩
theorem dX11_piece_42 : gw_dc cX11_piece 42 (.iload_n 2) 1 43 := ⟨by decide +kernel, rfl⟩
theorem dX11_piece_43 : gw_dc cX11_piece 43 (.ifCond .ne 12) 3 46 := ⟨by decide +kernel, rfl⟩
theorem dX11_piece_55 : gw_dc cX11_piece 55 (.iload_n 2) 1 56 := ⟨by decide +kernel, rfl⟩
theorem dX11_piece_56 : gw_dc cX11_piece 56 (.iconst 1) 1 57 := ⟨by decide +kernel, rfl⟩
theorem dX11_piece_57 : gw_dc cX11_piece 57 (.if_icmp .ne 11) 3 60 := ⟨by decide +kernel, rfl⟩
theorem dX11_piece_68 : gw_dc cX11_piece 68 (.iload_n 2) 1 69 := ⟨by decide +kernel, rfl⟩
theorem dX11_piece_69 : gw_dc cX11_piece 69 (.iconst 2) 1 70 := ⟨by decide +kernel, rfl⟩
theorem dX11_piece_70 : gw_dc cX11_piece 70 (.if_icmp .ne 12) 3 73 := ⟨by decide +kernel, rfl⟩
theorem dX11_piece_82 : gw_dc cX11_piece 82 (.iload_n 2) 1 83 := ⟨by decide +kernel, rfl⟩
theorem dX11_piece_83 : gw_dc cX11_piece 83 (.iconst 3) 1 84 := ⟨by decide +kernel, rfl⟩
theorem dX11_piece_84 : gw_dc cX11_piece 84 (.if_icmp .ne 12) 3 87 := ⟨by decide +kernel, rfl⟩
theorem dX11_piece_96 : gw_dc cX11_piece 96 (.aload_n 0) 1 97 := ⟨by decide +kernel, rfl⟩
theorem dX11_piece_97 : gw_dc cX11_piece 97 (.getfield 45) 3 100 := ⟨by decide +kernel, rfl⟩
theorem dX11_piece_100 : gw_dc cX11_piece 100 (.iload_n 1) 1 101 := ⟨by decide +kernel, rfl⟩
theorem dX11_piece_101 : gw_dc cX11_piece 101 (.iaload) 1 102 := ⟨by decide +kernel, rfl⟩
theorem dX11_piece_87 : gw_dc cX11_piece 87 (.aload_n 0) 1 88 := ⟨by decide +kernel, rfl⟩
theorem dX11_piece_88 : gw_dc cX11_piece 88 (.getfield 42) 3 91 := ⟨by decide +kernel, rfl⟩
theorem dX11_piece_91 : gw_dc cX11_piece 91 (.iload_n 1) 1 92 := ⟨by decide +kernel, rfl⟩
theorem dX11_piece_92 : gw_dc cX11_piece 92 (.iaload) 1 93 := ⟨by decide +kernel, rfl⟩
theorem dX11_piece_93 : gw_dc cX11_piece 93 (.goto 9) 3 96 := ⟨by decide +kernel, rfl⟩
theorem dX11_piece_73 : gw_dc cX11_piece 73 (.aload_n 0) 1 74 := ⟨by decide +kernel, rfl⟩
theorem dX11_piece_74 : gw_dc cX11_piece 74 (.getfield 39) 3 77 := ⟨by decide +kernel, rfl⟩
theorem dX11_piece_77 : gw_dc cX11_piece 77 (.iload_n 1) 1 78 := ⟨by decide +kernel, rfl⟩
theorem dX11_piece_78 : gw_dc cX11_piece 78 (.iaload) 1 79 := ⟨by decide +kernel, rfl⟩
theorem dX11_piece_79 : gw_dc cX11_piece 79 (.goto 23) 3 82 := ⟨by decide +kernel, rfl⟩
theorem dX11_piece_60 : gw_dc cX11_piece 60 (.aload_n 0) 1 61 := ⟨by decide +kernel, rfl⟩
theorem dX11_piece_61 : gw_dc cX11_piece 61 (.iload_n 1) 1 62 := ⟨by decide +kernel, rfl⟩
theorem dX11_piece_62 : gw_dc cX11_piece 62 (.invokevirtual 273) 3 65 := ⟨by decide +kernel, rfl⟩
theorem dX11_piece_65 : gw_dc cX11_piece 65 (.goto 37) 3 68 := ⟨by decide +kernel, rfl⟩
theorem dX11_piece_46 : gw_dc cX11_piece 46 (.aload_n 0) 1 47 := ⟨by decide +kernel, rfl⟩
theorem dX11_piece_47 : gw_dc cX11_piece 47 (.getfield 36) 3 50 := ⟨by decide +kernel, rfl⟩
theorem dX11_piece_50 : gw_dc cX11_piece 50 (.iload_n 1) 1 51 := ⟨by decide +kernel, rfl⟩
theorem dX11_piece_51 : gw_dc cX11_piece 51 (.iaload) 1 52 := ⟨by decide +kernel, rfl⟩
theorem dX11_piece_52 : gw_dc cX11_piece 52 (.goto 50) 3 55 := ⟨by decide +kernel, rfl⟩
theorem dX11_piece_32 : gw_dc cX11_piece 32 (.aload_n 0) 1 33 := ⟨by decide +kernel, rfl⟩
theorem dX11_piece_33 : gw_dc cX11_piece 33 (.iconst 2) 1 34 := ⟨by decide +kernel, rfl⟩
theorem dX11_piece_34 : gw_dc cX11_piece 34 (.invokevirtual 191) 3 37 := ⟨by decide +kernel, rfl⟩
theorem dX11_piece_37 : decode cX11_piece 37 = .ok (.ireturn, 1) := by decide +kernel
theorem dX11_piece_14 : gw_dc cX11_piece 14 (.aload_n 0) 1 15 := ⟨by decide +kernel, rfl⟩
theorem dX11_piece_15 : gw_dc cX11_piece 15 (.iconst 1) 1 16 := ⟨by decide +kernel, rfl⟩
theorem dX11_piece_16 : gw_dc cX11_piece 16 (.invokevirtual 191) 3 19 := ⟨by decide +kernel, rfl⟩
theorem dX11_piece_19 : decode cX11_piece 19 = .ok (.ireturn, 1) := by decide +kernel
theorem dX11_order_0 : gw_dc cX11_order 0 (.aload_n 0) 1 1 := ⟨by decide +kernel, rfl⟩
theorem dX11_order_1 : gw_dc cX11_order 1 (.iconst 0) 1 2 := ⟨by decide +kernel, rfl⟩
theorem dX11_order_2 : gw_dc cX11_order 2 (.putfield 88) 3 5 := ⟨by decide +kernel, rfl⟩
theorem dX11_order_5 : gw_dc cX11_order 5 (.aload_n 0) 1 6 := ⟨by decide +kernel, rfl⟩
theorem dX11_order_6 : gw_dc cX11_order 6 (.invokevirtual 323) 3 9 := ⟨by decide +kernel, rfl⟩
theorem dX11_order_9 : gw_dc cX11_order 9 (.iload_n 1) 1 10 := ⟨by decide +kernel, rfl⟩
theorem dX11_order_10 : gw_dc cX11_order 10 (.i2l) 1 11 := ⟨by decide +kernel, rfl⟩
theorem dX11_order_11 : gw_dc cX11_order 11 (.lconst 0) 1 12 := ⟨by decide +kernel, rfl⟩
theorem dX11_order_12 : gw_dc cX11_order 12 (.aload_n 0) 1 13 := ⟨by decide +kernel, rfl⟩
theorem dX11_order_13 : gw_dc cX11_order 13 (.getfield 9) 3 16 := ⟨by decide +kernel, rfl⟩
theorem dX11_order_16 : gw_dc cX11_order 16 (.sipush 668) 3 19 := ⟨by decide +kernel, rfl⟩
theorem dX11_order_19 : gw_dc cX11_order 19 (.iaload) 1 20 := ⟨by decide +kernel, rfl⟩
theorem dX11_order_20 : gw_dc cX11_order 20 (.iconst 1) 1 21 := ⟨by decide +kernel, rfl⟩
theorem dX11_order_21 : gw_dc cX11_order 21 (.isub) 1 22 := ⟨by decide +kernel, rfl⟩
theorem dX11_order_22 : gw_dc cX11_order 22 (.i2l) 1 23 := ⟨by decide +kernel, rfl⟩
theorem dX11_order_23 : gw_dc cX11_order 23 (.invokestatic 147) 3 26 := ⟨by decide +kernel, rfl⟩
theorem dX11_order_26 : gw_dc cX11_order 26 (.ifCond .eq 12) 3 29 := ⟨by decide +kernel, rfl⟩
theorem dX11_order_38 : gw_dc cX11_order 38 (.iconst (-1)) 1 39 := ⟨by decide +kernel, rfl⟩
theorem dX11_order_39 : decode cX11_order 39 = .ok (.ireturn, 1) := by decide +kernel
theorem dX11_order_29 : gw_dc cX11_order 29 (.aload_n 0) 1 30 := ⟨by decide +kernel, rfl⟩
theorem dX11_order_30 : gw_dc cX11_order 30 (.getfield 48) 3 33 := ⟨by decide +kernel, rfl⟩
theorem dX11_order_33 : gw_dc cX11_order 33 (.iload_n 1) 1 34 := ⟨by decide +kernel, rfl⟩
theorem dX11_order_34 : gw_dc cX11_order 34 (.iaload) 1 35 := ⟨by decide +kernel, rfl⟩
theorem dX11_order_35 : gw_dc cX11_order 35 (.goto 4) 3 38 := ⟨by decide +kernel, rfl⟩
theorem dX11_end_0 : gw_dc cX11_end 0 (.aload_n 0) 1 1 := ⟨by decide +kernel, rfl⟩
theorem dX11_end_1 : gw_dc cX11_end 1 (.iconst 0) 1 2 := ⟨by decide +kernel, rfl⟩
theorem dX11_end_2 : gw_dc cX11_end 2 (.putfield 88) 3 5 := ⟨by decide +kernel, rfl⟩
theorem dX11_end_5 : gw_dc cX11_end 5 (.aload_n 0) 1 6 := ⟨by decide +kernel, rfl⟩
theorem dX11_end_6 : gw_dc cX11_end 6 (.iload_n 1) 1 7 := ⟨by decide +kernel, rfl⟩
theorem dX11_end_7 : gw_dc cX11_end 7 (.invokevirtual 244) 3 10 := ⟨by decide +kernel, rfl⟩
theorem dX11_end_10 : gw_dc cX11_end 10 (.ifCond .ne 9) 3 13 := ⟨by decide +kernel, rfl⟩
theorem dX11_end_19 : gw_dc cX11_end 19 (.aload_n 0) 1 20 := ⟨by decide +kernel, rfl⟩
theorem dX11_end_20 : gw_dc cX11_end 20 (.invokevirtual 323) 3 23 := ⟨by decide +kernel, rfl⟩
theorem dX11_end_23 : gw_dc cX11_end 23 (.aload_n 0) 1 24 := ⟨by decide +kernel, rfl⟩
theorem dX11_end_24 : gw_dc cX11_end 24 (.iload_n 1) 1 25 := ⟨by decide +kernel, rfl⟩
theorem dX11_end_25 : gw_dc cX11_end 25 (.invokevirtual 317) 3 28 := ⟨by decide +kernel, rfl⟩
theorem dX11_end_28 : decode cX11_end 28 = .ok (.ireturn, 1) := by decide +kernel
theorem dX11_end_13 : gw_dc cX11_end 13 (.aload_n 0) 1 14 := ⟨by decide +kernel, rfl⟩
theorem dX11_end_14 : gw_dc cX11_end 14 (.iconst 1) 1 15 := ⟨by decide +kernel, rfl⟩
theorem dX11_end_15 : gw_dc cX11_end 15 (.invokevirtual 191) 3 18 := ⟨by decide +kernel, rfl⟩
theorem dX11_end_18 : decode cX11_end 18 = .ok (.ireturn, 1) := by decide +kernel
theorem dX11_waits_0 : gw_dc cX11_waits 0 (.aload_n 0) 1 1 := ⟨by decide +kernel, rfl⟩
theorem dX11_waits_1 : gw_dc cX11_waits 1 (.iconst 0) 1 2 := ⟨by decide +kernel, rfl⟩
theorem dX11_waits_2 : gw_dc cX11_waits 2 (.putfield 88) 3 5 := ⟨by decide +kernel, rfl⟩
theorem dX11_waits_5 : gw_dc cX11_waits 5 (.aload_n 0) 1 6 := ⟨by decide +kernel, rfl⟩
theorem dX11_waits_6 : gw_dc cX11_waits 6 (.iload_n 1) 1 7 := ⟨by decide +kernel, rfl⟩
theorem dX11_waits_7 : gw_dc cX11_waits 7 (.invokevirtual 244) 3 10 := ⟨by decide +kernel, rfl⟩
theorem dX11_waits_10 : gw_dc cX11_waits 10 (.ifCond .ne 9) 3 13 := ⟨by decide +kernel, rfl⟩
theorem dX11_waits_19 : gw_dc cX11_waits 19 (.aload_n 0) 1 20 := ⟨by decide +kernel, rfl⟩
theorem dX11_waits_20 : gw_dc cX11_waits 20 (.invokevirtual 323) 3 23 := ⟨by decide +kernel, rfl⟩
theorem dX11_waits_23 : gw_dc cX11_waits 23 (.aload_n 0) 1 24 := ⟨by decide +kernel, rfl⟩
theorem dX11_waits_24 : gw_dc cX11_waits 24 (.iload_n 1) 1 25 := ⟨by decide +kernel, rfl⟩
theorem dX11_waits_25 : gw_dc cX11_waits 25 (.invokevirtual 320) 3 28 := ⟨by decide +kernel, rfl⟩
theorem dX11_waits_28 : decode cX11_waits 28 = .ok (.ireturn, 1) := by decide +kernel
theorem dX11_waits_13 : gw_dc cX11_waits 13 (.aload_n 0) 1 14 := ⟨by decide +kernel, rfl⟩
theorem dX11_waits_14 : gw_dc cX11_waits 14 (.iconst 1) 1 15 := ⟨by decide +kernel, rfl⟩
theorem dX11_waits_15 : gw_dc cX11_waits 15 (.invokevirtual 191) 3 18 := ⟨by decide +kernel, rfl⟩
theorem dX11_waits_18 : decode cX11_waits 18 = .ok (.ireturn, 1) := by decide +kernel
theorem dX11_home_0 : gw_dc cX11_home 0 (.aload_n 0) 1 1 := ⟨by decide +kernel, rfl⟩
theorem dX11_home_1 : gw_dc cX11_home 1 (.iconst 0) 1 2 := ⟨by decide +kernel, rfl⟩
theorem dX11_home_2 : gw_dc cX11_home 2 (.putfield 88) 3 5 := ⟨by decide +kernel, rfl⟩
theorem dX11_home_5 : gw_dc cX11_home 5 (.iload_n 1) 1 6 := ⟨by decide +kernel, rfl⟩
theorem dX11_home_6 : gw_dc cX11_home 6 (.i2l) 1 7 := ⟨by decide +kernel, rfl⟩
theorem dX11_home_7 : gw_dc cX11_home 7 (.lconst 0) 1 8 := ⟨by decide +kernel, rfl⟩
theorem dX11_home_8 : gw_dc cX11_home 8 (.ldc2_w 247) 3 11 := ⟨by decide +kernel, rfl⟩
theorem dX11_home_11 : gw_dc cX11_home 11 (.invokestatic 147) 3 14 := ⟨by decide +kernel, rfl⟩
theorem dX11_home_14 : gw_dc cX11_home 14 (.ifCond .ne 9) 3 17 := ⟨by decide +kernel, rfl⟩
theorem dX11_home_23 : gw_dc cX11_home 23 (.aload_n 0) 1 24 := ⟨by decide +kernel, rfl⟩
theorem dX11_home_24 : gw_dc cX11_home 24 (.invokevirtual 323) 3 27 := ⟨by decide +kernel, rfl⟩
theorem dX11_home_27 : gw_dc cX11_home 27 (.iconst (-1)) 1 28 := ⟨by decide +kernel, rfl⟩
theorem dX11_home_28 : gw_dc cX11_home 28 (.istore_n 2) 1 29 := ⟨by decide +kernel, rfl⟩
theorem dX11_home_29 : gw_dc cX11_home 29 (.iconst 0) 1 30 := ⟨by decide +kernel, rfl⟩
theorem dX11_home_30 : gw_dc cX11_home 30 (.istore_n 3) 1 31 := ⟨by decide +kernel, rfl⟩
theorem dX11_home_31 : gw_dc cX11_home 31 (.iload_n 3) 1 32 := ⟨by decide +kernel, rfl⟩
theorem dX11_home_32 : gw_dc cX11_home 32 (.aload_n 0) 1 33 := ⟨by decide +kernel, rfl⟩
theorem dX11_home_33 : gw_dc cX11_home 33 (.getfield 9) 3 36 := ⟨by decide +kernel, rfl⟩
theorem dX11_home_36 : gw_dc cX11_home 36 (.iconst 4) 1 37 := ⟨by decide +kernel, rfl⟩
theorem dX11_home_37 : gw_dc cX11_home 37 (.iaload) 1 38 := ⟨by decide +kernel, rfl⟩
theorem dX11_home_38 : gw_dc cX11_home 38 (.if_icmp .ge 29) 3 41 := ⟨by decide +kernel, rfl⟩
theorem dX11_home_67 : gw_dc cX11_home 67 (.iload_n 2) 1 68 := ⟨by decide +kernel, rfl⟩
theorem dX11_home_68 : decode cX11_home 68 = .ok (.ireturn, 1) := by decide +kernel
theorem dX11_home_41 : gw_dc cX11_home 41 (.aload_n 0) 1 42 := ⟨by decide +kernel, rfl⟩
theorem dX11_home_42 : gw_dc cX11_home 42 (.iload_n 3) 1 43 := ⟨by decide +kernel, rfl⟩
theorem dX11_home_43 : gw_dc cX11_home 43 (.iconst 1) 1 44 := ⟨by decide +kernel, rfl⟩
theorem dX11_home_44 : gw_dc cX11_home 44 (.invokevirtual 242) 3 47 := ⟨by decide +kernel, rfl⟩
theorem dX11_home_47 : gw_dc cX11_home 47 (.iload_n 1) 1 48 := ⟨by decide +kernel, rfl⟩
theorem dX11_home_48 : gw_dc cX11_home 48 (.if_icmp .ne 13) 3 51 := ⟨by decide +kernel, rfl⟩
theorem dX11_home_61 : gw_dc cX11_home 61 (.iinc 3 1) 3 64 := ⟨by decide +kernel, rfl⟩
theorem dX11_home_64 : gw_dc cX11_home 64 (.goto (-33)) 3 67 := ⟨by decide +kernel, rfl⟩
theorem dX11_home_51 : gw_dc cX11_home 51 (.iload_n 2) 1 52 := ⟨by decide +kernel, rfl⟩
theorem dX11_home_52 : gw_dc cX11_home 52 (.aload_n 0) 1 53 := ⟨by decide +kernel, rfl⟩
theorem dX11_home_53 : gw_dc cX11_home 53 (.iload_n 3) 1 54 := ⟨by decide +kernel, rfl⟩
theorem dX11_home_54 : gw_dc cX11_home 54 (.invokevirtual 317) 3 57 := ⟨by decide +kernel, rfl⟩
theorem dX11_home_57 : gw_dc cX11_home 57 (.invokestatic 268) 3 60 := ⟨by decide +kernel, rfl⟩
theorem dX11_home_60 : gw_dc cX11_home 60 (.istore_n 2) 1 61 := ⟨by decide +kernel, rfl⟩
theorem dX11_home_17 : gw_dc cX11_home 17 (.aload_n 0) 1 18 := ⟨by decide +kernel, rfl⟩
theorem dX11_home_18 : gw_dc cX11_home 18 (.iconst 1) 1 19 := ⟨by decide +kernel, rfl⟩
theorem dX11_home_19 : gw_dc cX11_home 19 (.invokevirtual 191) 3 22 := ⟨by decide +kernel, rfl⟩
theorem dX11_home_22 : decode cX11_home 22 = .ok (.ireturn, 1) := by decide +kernel
theorem dX11_total_0 : gw_dc cX11_total 0 (.aload_n 0) 1 1 := ⟨by decide +kernel, rfl⟩
theorem dX11_total_1 : gw_dc cX11_total 1 (.iconst 0) 1 2 := ⟨by decide +kernel, rfl⟩
theorem dX11_total_2 : gw_dc cX11_total 2 (.putfield 88) 3 5 := ⟨by decide +kernel, rfl⟩
theorem dX11_total_5 : gw_dc cX11_total 5 (.aload_n 0) 1 6 := ⟨by decide +kernel, rfl⟩
theorem dX11_total_6 : gw_dc cX11_total 6 (.invokevirtual 323) 3 9 := ⟨by decide +kernel, rfl⟩
theorem dX11_total_9 : gw_dc cX11_total 9 (.iconst 0) 1 10 := ⟨by decide +kernel, rfl⟩
theorem dX11_total_10 : gw_dc cX11_total 10 (.istore_n 2) 1 11 := ⟨by decide +kernel, rfl⟩
theorem dX11_total_11 : gw_dc cX11_total 11 (.iconst 0) 1 12 := ⟨by decide +kernel, rfl⟩
theorem dX11_total_12 : gw_dc cX11_total 12 (.istore_n 3) 1 13 := ⟨by decide +kernel, rfl⟩
theorem dX11_total_13 : gw_dc cX11_total 13 (.iconst 0) 1 14 := ⟨by decide +kernel, rfl⟩
theorem dX11_total_14 : gw_dc cX11_total 14 (.istore 4) 2 16 := ⟨by decide +kernel, rfl⟩
theorem dX11_total_16 : gw_dc cX11_total 16 (.iconst 0) 1 17 := ⟨by decide +kernel, rfl⟩
theorem dX11_total_17 : gw_dc cX11_total 17 (.istore 5) 2 19 := ⟨by decide +kernel, rfl⟩
theorem dX11_total_19 : gw_dc cX11_total 19 (.iload 5) 2 21 := ⟨by decide +kernel, rfl⟩
theorem dX11_total_21 : gw_dc cX11_total 21 (.aload_n 0) 1 22 := ⟨by decide +kernel, rfl⟩
theorem dX11_total_22 : gw_dc cX11_total 22 (.getfield 9) 3 25 := ⟨by decide +kernel, rfl⟩
theorem dX11_total_25 : gw_dc cX11_total 25 (.iconst 4) 1 26 := ⟨by decide +kernel, rfl⟩
theorem dX11_total_26 : gw_dc cX11_total 26 (.iaload) 1 27 := ⟨by decide +kernel, rfl⟩
theorem dX11_total_27 : gw_dc cX11_total 27 (.if_icmp .ge 48) 3 30 := ⟨by decide +kernel, rfl⟩
theorem dX11_total_75 : gw_dc cX11_total 75 (.iload_n 1) 1 76 := ⟨by decide +kernel, rfl⟩
theorem dX11_total_76 : decode cX11_total 76 = .ok (.tableswitch 73 0 5 #[40, 42, 47, 49, 52, 68], 40) := by decide +kernel
theorem dX11_total_116 : gw_dc cX11_total 116 (.iload_n 2) 1 117 := ⟨by decide +kernel, rfl⟩
theorem dX11_total_117 : decode cX11_total 117 = .ok (.ireturn, 1) := by decide +kernel
theorem dX11_total_118 : gw_dc cX11_total 118 (.aload_n 0) 1 119 := ⟨by decide +kernel, rfl⟩
theorem dX11_total_119 : gw_dc cX11_total 119 (.invokevirtual 326) 3 122 := ⟨by decide +kernel, rfl⟩
theorem dX11_total_122 : decode cX11_total 122 = .ok (.ireturn, 1) := by decide +kernel
theorem dX11_total_123 : gw_dc cX11_total 123 (.iload_n 3) 1 124 := ⟨by decide +kernel, rfl⟩
theorem dX11_total_124 : decode cX11_total 124 = .ok (.ireturn, 1) := by decide +kernel
theorem dX11_total_125 : gw_dc cX11_total 125 (.iload 4) 2 127 := ⟨by decide +kernel, rfl⟩
theorem dX11_total_127 : decode cX11_total 127 = .ok (.ireturn, 1) := by decide +kernel
theorem dX11_total_128 : gw_dc cX11_total 128 (.aload_n 0) 1 129 := ⟨by decide +kernel, rfl⟩
theorem dX11_total_129 : gw_dc cX11_total 129 (.getfield 9) 3 132 := ⟨by decide +kernel, rfl⟩
theorem dX11_total_132 : gw_dc cX11_total 132 (.iconst 3) 1 133 := ⟨by decide +kernel, rfl⟩
theorem dX11_total_133 : gw_dc cX11_total 133 (.iaload) 1 134 := ⟨by decide +kernel, rfl⟩
theorem dX11_total_134 : gw_dc cX11_total 134 (.aload_n 0) 1 135 := ⟨by decide +kernel, rfl⟩
theorem dX11_total_135 : gw_dc cX11_total 135 (.getfield 9) 3 138 := ⟨by decide +kernel, rfl⟩
theorem dX11_total_138 : gw_dc cX11_total 138 (.sipush 668) 3 141 := ⟨by decide +kernel, rfl⟩
theorem dX11_total_141 : gw_dc cX11_total 141 (.iaload) 1 142 := ⟨by decide +kernel, rfl⟩
theorem dX11_total_142 : gw_dc cX11_total 142 (.imul) 1 143 := ⟨by decide +kernel, rfl⟩
theorem dX11_total_143 : decode cX11_total 143 = .ok (.ireturn, 1) := by decide +kernel
theorem dX11_total_144 : gw_dc cX11_total 144 (.aload_n 0) 1 145 := ⟨by decide +kernel, rfl⟩
theorem dX11_total_145 : gw_dc cX11_total 145 (.getfield 289) 3 148 := ⟨by decide +kernel, rfl⟩
theorem dX11_total_148 : decode cX11_total 148 = .ok (.ireturn, 1) := by decide +kernel
theorem dX11_total_149 : gw_dc cX11_total 149 (.iconst (-1)) 1 150 := ⟨by decide +kernel, rfl⟩
theorem dX11_total_150 : decode cX11_total 150 = .ok (.ireturn, 1) := by decide +kernel
theorem dX11_total_30 : gw_dc cX11_total 30 (.iload_n 2) 1 31 := ⟨by decide +kernel, rfl⟩
theorem dX11_total_31 : gw_dc cX11_total 31 (.aload_n 0) 1 32 := ⟨by decide +kernel, rfl⟩
theorem dX11_total_32 : gw_dc cX11_total 32 (.iload 5) 2 34 := ⟨by decide +kernel, rfl⟩
theorem dX11_total_34 : gw_dc cX11_total 34 (.invokevirtual 320) 3 37 := ⟨by decide +kernel, rfl⟩
theorem dX11_total_37 : gw_dc cX11_total 37 (.iadd) 1 38 := ⟨by decide +kernel, rfl⟩
theorem dX11_total_38 : gw_dc cX11_total 38 (.istore_n 2) 1 39 := ⟨by decide +kernel, rfl⟩
theorem dX11_total_39 : gw_dc cX11_total 39 (.iload_n 3) 1 40 := ⟨by decide +kernel, rfl⟩
theorem dX11_total_40 : gw_dc cX11_total 40 (.aload_n 0) 1 41 := ⟨by decide +kernel, rfl⟩
theorem dX11_total_41 : gw_dc cX11_total 41 (.iload 5) 2 43 := ⟨by decide +kernel, rfl⟩
theorem dX11_total_43 : gw_dc cX11_total 43 (.invokevirtual 335) 3 46 := ⟨by decide +kernel, rfl⟩
theorem mv_RX11_335 : gw_mv RX11 335 yX11_isLate := ⟨gw_mem 1803 (by decide +kernel) rfl, gw_mem 1805 (by decide +kernel) rfl, gw_mem 76 (by decide +kernel) rfl⟩
theorem my_X11_isLate : gw_my yX11_isLate cX11_isLate 2 (some .boolean) 1 := ⟨gw_mem 1806 (by decide +kernel) rfl, gw_mem 106 (by decide +kernel) rfl, by decide +kernel, by decide⟩
theorem dX11_total_46 : gw_dc cX11_total 46 (.ifCond .eq 7) 3 49 := ⟨by decide +kernel, rfl⟩
theorem dX11_total_53 : gw_dc cX11_total 53 (.iconst 0) 1 54 := ⟨by decide +kernel, rfl⟩
theorem dX11_total_54 : gw_dc cX11_total 54 (.iadd) 1 55 := ⟨by decide +kernel, rfl⟩
theorem dX11_total_55 : gw_dc cX11_total 55 (.istore_n 3) 1 56 := ⟨by decide +kernel, rfl⟩
theorem dX11_total_56 : gw_dc cX11_total 56 (.iload 4) 2 58 := ⟨by decide +kernel, rfl⟩
theorem dX11_total_58 : gw_dc cX11_total 58 (.aload_n 0) 1 59 := ⟨by decide +kernel, rfl⟩
theorem dX11_total_59 : gw_dc cX11_total 59 (.iload 5) 2 61 := ⟨by decide +kernel, rfl⟩
theorem dX11_total_61 : gw_dc cX11_total 61 (.invokevirtual 317) 3 64 := ⟨by decide +kernel, rfl⟩
theorem dX11_total_64 : gw_dc cX11_total 64 (.invokestatic 268) 3 67 := ⟨by decide +kernel, rfl⟩
theorem dX11_total_67 : gw_dc cX11_total 67 (.istore 4) 2 69 := ⟨by decide +kernel, rfl⟩
theorem dX11_total_69 : gw_dc cX11_total 69 (.iinc 5 1) 3 72 := ⟨by decide +kernel, rfl⟩
theorem dX11_total_72 : gw_dc cX11_total 72 (.goto (-53)) 3 75 := ⟨by decide +kernel, rfl⟩
theorem dX11_total_49 : gw_dc cX11_total 49 (.iconst 1) 1 50 := ⟨by decide +kernel, rfl⟩
theorem dX11_total_50 : gw_dc cX11_total 50 (.goto 4) 3 53 := ⟨by decide +kernel, rfl⟩
theorem dX11_longest_0 : gw_dc cX11_longest 0 (.aload_n 0) 1 1 := ⟨by decide +kernel, rfl⟩
theorem dX11_longest_1 : gw_dc cX11_longest 1 (.iconst 0) 1 2 := ⟨by decide +kernel, rfl⟩
theorem dX11_longest_2 : gw_dc cX11_longest 2 (.putfield 88) 3 5 := ⟨by decide +kernel, rfl⟩
theorem dX11_longest_5 : gw_dc cX11_longest 5 (.aload_n 0) 1 6 := ⟨by decide +kernel, rfl⟩
theorem dX11_longest_6 : gw_dc cX11_longest 6 (.invokevirtual 323) 3 9 := ⟨by decide +kernel, rfl⟩
theorem dX11_longest_9 : gw_dc cX11_longest 9 (.iconst (-1)) 1 10 := ⟨by decide +kernel, rfl⟩
theorem dX11_longest_10 : gw_dc cX11_longest 10 (.istore_n 1) 1 11 := ⟨by decide +kernel, rfl⟩
theorem dX11_longest_11 : gw_dc cX11_longest 11 (.iconst 0) 1 12 := ⟨by decide +kernel, rfl⟩
theorem dX11_longest_12 : gw_dc cX11_longest 12 (.istore_n 2) 1 13 := ⟨by decide +kernel, rfl⟩
theorem dX11_longest_13 : gw_dc cX11_longest 13 (.iload_n 2) 1 14 := ⟨by decide +kernel, rfl⟩
theorem dX11_longest_14 : gw_dc cX11_longest 14 (.aload_n 0) 1 15 := ⟨by decide +kernel, rfl⟩
theorem dX11_longest_15 : gw_dc cX11_longest 15 (.getfield 9) 3 18 := ⟨by decide +kernel, rfl⟩
theorem dX11_longest_18 : gw_dc cX11_longest 18 (.iconst 4) 1 19 := ⟨by decide +kernel, rfl⟩
theorem dX11_longest_19 : gw_dc cX11_longest 19 (.iaload) 1 20 := ⟨by decide +kernel, rfl⟩
theorem dX11_longest_20 : gw_dc cX11_longest 20 (.if_icmp .ge 29) 3 23 := ⟨by decide +kernel, rfl⟩
theorem dX11_longest_49 : gw_dc cX11_longest 49 (.iload_n 1) 1 50 := ⟨by decide +kernel, rfl⟩
theorem dX11_longest_50 : decode cX11_longest 50 = .ok (.ireturn, 1) := by decide +kernel
theorem dX11_longest_23 : gw_dc cX11_longest 23 (.iload_n 1) 1 24 := ⟨by decide +kernel, rfl⟩
theorem dX11_longest_24 : gw_dc cX11_longest 24 (.iconst (-1)) 1 25 := ⟨by decide +kernel, rfl⟩
theorem dX11_longest_25 : gw_dc cX11_longest 25 (.if_icmp .eq 16) 3 28 := ⟨by decide +kernel, rfl⟩
theorem dX11_longest_41 : gw_dc cX11_longest 41 (.iload_n 2) 1 42 := ⟨by decide +kernel, rfl⟩
theorem dX11_longest_42 : gw_dc cX11_longest 42 (.istore_n 1) 1 43 := ⟨by decide +kernel, rfl⟩
theorem dX11_longest_43 : gw_dc cX11_longest 43 (.iinc 2 1) 3 46 := ⟨by decide +kernel, rfl⟩
theorem dX11_longest_46 : gw_dc cX11_longest 46 (.goto (-33)) 3 49 := ⟨by decide +kernel, rfl⟩
theorem dX11_longest_28 : gw_dc cX11_longest 28 (.aload_n 0) 1 29 := ⟨by decide +kernel, rfl⟩
theorem dX11_longest_29 : gw_dc cX11_longest 29 (.iload_n 2) 1 30 := ⟨by decide +kernel, rfl⟩
theorem dX11_longest_30 : gw_dc cX11_longest 30 (.invokevirtual 320) 3 33 := ⟨by decide +kernel, rfl⟩
theorem dX11_longest_33 : gw_dc cX11_longest 33 (.aload_n 0) 1 34 := ⟨by decide +kernel, rfl⟩
theorem dX11_longest_34 : gw_dc cX11_longest 34 (.iload_n 1) 1 35 := ⟨by decide +kernel, rfl⟩
theorem dX11_longest_35 : gw_dc cX11_longest 35 (.invokevirtual 320) 3 38 := ⟨by decide +kernel, rfl⟩
theorem dX11_longest_38 : gw_dc cX11_longest 38 (.if_icmp .le 5) 3 41 := ⟨by decide +kernel, rfl⟩
theorem dX11_ahead_0 : gw_dc cX11_ahead 0 (.aload_n 0) 1 1 := ⟨by decide +kernel, rfl⟩
theorem dX11_ahead_1 : gw_dc cX11_ahead 1 (.iconst 0) 1 2 := ⟨by decide +kernel, rfl⟩
theorem dX11_ahead_2 : gw_dc cX11_ahead 2 (.putfield 88) 3 5 := ⟨by decide +kernel, rfl⟩
theorem dX11_ahead_5 : gw_dc cX11_ahead 5 (.aload_n 0) 1 6 := ⟨by decide +kernel, rfl⟩
theorem dX11_ahead_6 : gw_dc cX11_ahead 6 (.iload_n 1) 1 7 := ⟨by decide +kernel, rfl⟩
theorem dX11_ahead_7 : gw_dc cX11_ahead 7 (.i2l) 1 8 := ⟨by decide +kernel, rfl⟩
theorem dX11_ahead_8 : gw_dc cX11_ahead 8 (.invokevirtual 329) 3 11 := ⟨by decide +kernel, rfl⟩
theorem dX11_ahead_11 : gw_dc cX11_ahead 11 (.ifCond .eq 12) 3 14 := ⟨by decide +kernel, rfl⟩
theorem dX11_ahead_23 : gw_dc cX11_ahead 23 (.aload_n 0) 1 24 := ⟨by decide +kernel, rfl⟩
theorem dX11_ahead_24 : gw_dc cX11_ahead 24 (.iconst 1) 1 25 := ⟨by decide +kernel, rfl⟩
theorem dX11_ahead_25 : gw_dc cX11_ahead 25 (.invokevirtual 191) 3 28 := ⟨by decide +kernel, rfl⟩
theorem dX11_ahead_28 : decode cX11_ahead 28 = .ok (.ireturn, 1) := by decide +kernel
theorem dX11_ahead_14 : gw_dc cX11_ahead 14 (.aload_n 0) 1 15 := ⟨by decide +kernel, rfl⟩
theorem dX11_ahead_15 : gw_dc cX11_ahead 15 (.iload_n 2) 1 16 := ⟨by decide +kernel, rfl⟩
theorem dX11_ahead_16 : gw_dc cX11_ahead 16 (.i2l) 1 17 := ⟨by decide +kernel, rfl⟩
theorem dX11_ahead_17 : gw_dc cX11_ahead 17 (.invokevirtual 329) 3 20 := ⟨by decide +kernel, rfl⟩
theorem dX11_ahead_20 : gw_dc cX11_ahead 20 (.ifCond .ne 9) 3 23 := ⟨by decide +kernel, rfl⟩
theorem dX11_ahead_29 : gw_dc cX11_ahead 29 (.aload_n 0) 1 30 := ⟨by decide +kernel, rfl⟩
theorem dX11_ahead_30 : gw_dc cX11_ahead 30 (.invokevirtual 302) 3 33 := ⟨by decide +kernel, rfl⟩
theorem dX11_ahead_33 : gw_dc cX11_ahead 33 (.iconst 0) 1 34 := ⟨by decide +kernel, rfl⟩
theorem dX11_ahead_34 : gw_dc cX11_ahead 34 (.istore_n 3) 1 35 := ⟨by decide +kernel, rfl⟩
theorem dX11_ahead_35 : gw_dc cX11_ahead 35 (.iload_n 3) 1 36 := ⟨by decide +kernel, rfl⟩
theorem dX11_ahead_36 : gw_dc cX11_ahead 36 (.aload_n 0) 1 37 := ⟨by decide +kernel, rfl⟩
theorem dX11_ahead_37 : gw_dc cX11_ahead 37 (.getfield 9) 3 40 := ⟨by decide +kernel, rfl⟩
theorem dX11_ahead_40 : gw_dc cX11_ahead 40 (.bipush 8) 2 42 := ⟨by decide +kernel, rfl⟩
theorem dX11_ahead_42 : gw_dc cX11_ahead 42 (.iaload) 1 43 := ⟨by decide +kernel, rfl⟩
theorem dX11_ahead_43 : gw_dc cX11_ahead 43 (.if_icmp .ge 48) 3 46 := ⟨by decide +kernel, rfl⟩
theorem dX11_ahead_91 : gw_dc cX11_ahead 91 (.iconst 0) 1 92 := ⟨by decide +kernel, rfl⟩
theorem dX11_ahead_92 : decode cX11_ahead 92 = .ok (.ireturn, 1) := by decide +kernel
theorem dX11_ahead_46 : gw_dc cX11_ahead 46 (.aload_n 0) 1 47 := ⟨by decide +kernel, rfl⟩
theorem dX11_ahead_47 : gw_dc cX11_ahead 47 (.aload_n 0) 1 48 := ⟨by decide +kernel, rfl⟩
theorem dX11_ahead_48 : gw_dc cX11_ahead 48 (.getfield 9) 3 51 := ⟨by decide +kernel, rfl⟩
theorem dX11_ahead_51 : gw_dc cX11_ahead 51 (.bipush 9) 2 53 := ⟨by decide +kernel, rfl⟩
theorem dX11_ahead_53 : gw_dc cX11_ahead 53 (.iload_n 3) 1 54 := ⟨by decide +kernel, rfl⟩
theorem dX11_ahead_54 : gw_dc cX11_ahead 54 (.iadd) 1 55 := ⟨by decide +kernel, rfl⟩
theorem dX11_ahead_55 : gw_dc cX11_ahead 55 (.iaload) 1 56 := ⟨by decide +kernel, rfl⟩
theorem dX11_ahead_56 : gw_dc cX11_ahead 56 (.iload_n 1) 1 57 := ⟨by decide +kernel, rfl⟩
theorem dX11_ahead_57 : gw_dc cX11_ahead 57 (.iload_n 2) 1 58 := ⟨by decide +kernel, rfl⟩
theorem dX11_ahead_58 : gw_dc cX11_ahead 58 (.iconst (-1)) 1 59 := ⟨by decide +kernel, rfl⟩
theorem dX11_ahead_59 : gw_dc cX11_ahead 59 (.invokevirtual 282) 3 62 := ⟨by decide +kernel, rfl⟩
theorem dX11_ahead_62 : gw_dc cX11_ahead 62 (.istore 4) 2 64 := ⟨by decide +kernel, rfl⟩
theorem dX11_ahead_64 : gw_dc cX11_ahead 64 (.iload 4) 2 66 := ⟨by decide +kernel, rfl⟩
theorem dX11_ahead_66 : gw_dc cX11_ahead 66 (.ifCond .eq 19) 3 69 := ⟨by decide +kernel, rfl⟩
theorem dX11_ahead_85 : gw_dc cX11_ahead 85 (.iinc 3 1) 3 88 := ⟨by decide +kernel, rfl⟩
theorem dX11_ahead_88 : gw_dc cX11_ahead 88 (.goto (-53)) 3 91 := ⟨by decide +kernel, rfl⟩
theorem dX11_ahead_69 : gw_dc cX11_ahead 69 (.iload 4) 2 71 := ⟨by decide +kernel, rfl⟩
theorem dX11_ahead_71 : gw_dc cX11_ahead 71 (.ifCond .le 9) 3 74 := ⟨by decide +kernel, rfl⟩
theorem dX11_ahead_80 : gw_dc cX11_ahead 80 (.iload_n 3) 1 81 := ⟨by decide +kernel, rfl⟩
theorem dX11_ahead_81 : gw_dc cX11_ahead 81 (.ineg) 1 82 := ⟨by decide +kernel, rfl⟩
theorem dX11_ahead_82 : gw_dc cX11_ahead 82 (.iconst 1) 1 83 := ⟨by decide +kernel, rfl⟩
theorem dX11_ahead_83 : gw_dc cX11_ahead 83 (.isub) 1 84 := ⟨by decide +kernel, rfl⟩
theorem dX11_ahead_84 : decode cX11_ahead 84 = .ok (.ireturn, 1) := by decide +kernel
theorem dX11_ahead_74 : gw_dc cX11_ahead 74 (.iload_n 3) 1 75 := ⟨by decide +kernel, rfl⟩
theorem dX11_ahead_75 : gw_dc cX11_ahead 75 (.iconst 1) 1 76 := ⟨by decide +kernel, rfl⟩
theorem dX11_ahead_76 : gw_dc cX11_ahead 76 (.iadd) 1 77 := ⟨by decide +kernel, rfl⟩
theorem dX11_ahead_77 : gw_dc cX11_ahead 77 (.goto 7) 3 80 := ⟨by decide +kernel, rfl⟩
/-! The model, 12: what is asked of the run -/
theorem nRu_224 {σ : Sg} (h : TW (σ 224)) : nRu σ 224 = σ 224 := (nRu_end h).2.1
theorem TW_ru {σ : Sg} (h : TW (σ 224)) : TW (nRu σ 224) := by rw [nRu_224 h]; exact h
theorem isP_1 {σ : Sg} (h : TW (σ 224)) {p : Int} : nIsP σ p ≠ 0 ↔ 0 ≤ p ∧ p < σ 224 668 := by
  have h1 := h.p0
  have h2 := h.p60
  unfold nIsP wth
  rw [wr_id (by unfold okI; omega)]
  split <;> omega
theorem isS_1 {σ : Sg} (h : TW (σ 224)) {s : Int} : nIsS σ s ≠ 0 ↔ 0 ≤ s ∧ s < σ 224 4 := by
  have h1 := h.sacks
  unfold nIsS wth
  rw [wr_id (by unfold okI; omega)]
  split <;> omega
def ncS (σ : Sg) (s : Nat) (c : Int) : Int := wr (c + wr (nOf σ ((s : Nat) : Int) 4 * nWa σ ((s : Nat) : Int)))
def nCo (σ : Sg) : Int := itr (σ 224 4).toNat (ncS σ) 0
def nPiV (σ : Sg) (p w : Int) : Int := if w = 0 then σ 231 p.toNat else if w = 1 then nPo σ p else if w = 2 then σ 232 p.toNat else if w = 3 then σ 233 p.toNat else σ 234 p.toNat
def nPi (σ : Sg) (p w : Int) : Int × Sg := if nIsP (nT0 σ) p = 0 then (0, nThr (nT0 σ) 1) else if wth w 0 4 = 0 then (0, nThr (nT0 σ) 2) else (nPiV (nRu (nT0 σ)) p w, nRu (nT0 σ))
def nOrV (σ : Sg) (k : Int) : Int := if wth k 0 (wr (σ 224 668 - 1)) = 0 then -1 else σ 235 k.toNat
def nEd (σ : Sg) (s : Int) : Int × Sg := if nIsS (nT0 σ) s = 0 then (0, nThr (nT0 σ) 1) else (nEo (nRu (nT0 σ)) s, nRu (nT0 σ))
def nWt (σ : Sg) (s : Int) : Int × Sg := if nIsS (nT0 σ) s = 0 then (0, nThr (nT0 σ) 1) else (nWa (nRu (nT0 σ)) s, nRu (nT0 σ))
def nHmS (σ : Sg) (q : Int) (s : Nat) (c : Int) : Int := if nOf σ ((s : Nat) : Int) 1 = q then max c (nEo σ ((s : Nat) : Int)) else c
def nHmV (σ : Sg) (q : Int) : Int := itr (σ 224 4).toNat (nHmS σ q) (-1)
def nHm (σ : Sg) (q : Int) : Int × Sg := if wth q 0 7 = 0 then (0, nThr (nT0 σ) 1) else (nHmV (nRu (nT0 σ)) q, nRu (nT0 σ))
def nToS (σ : Sg) (s : Nat) (x : Int × Int × Int) : Int × Int × Int := (wr (x.1 + nWa σ ((s : Nat) : Int)), wr (x.2.1 + if nLa σ ((s : Nat) : Int) = 0 then 0 else 1), max x.2.2 (nEo σ ((s : Nat) : Int)))
def nToL (σ : Sg) : Int × Int × Int := itr (σ 224 4).toNat (nToS σ) (0, 0, 0)
def nTo (σ : Sg) (w : Int) : Int := if w = 0 then (nToL σ).1 else if w = 1 then nCo σ else if w = 2 then (nToL σ).2.1 else if w = 3 then (nToL σ).2.2 else if w = 4 then wr (σ 224 3 * σ 224 668) else if w = 5 then σ 223 28 else -1
def nLgS (σ : Sg) (s : Nat) (c : Int) : Int := if c = -1 ∨ nWa σ c < nWa σ ((s : Nat) : Int) then ((s : Nat) : Int) else c
def nLg (σ : Sg) : Int := itr (σ 224 4).toNat (nLgS σ) (-1)
theorem nLg_rg (σ : Sg) (n : Nat) : itr n (nLgS σ) (-1) = -1 ∨ (0 ≤ itr n (nLgS σ) (-1) ∧ itr n (nLgS σ) (-1) < n) := by
  have h := itr_inv (fun (k : Nat) (c : Int) => c = -1 ∨ (0 ≤ c ∧ c < (k : Nat))) n (nLgS σ) (-1) (Or.inl rfl) (by
    intro k y hk hy
    rw [nLgS]; split <;> omega)
  exact h
def nAhV (σ : Sg) (p q : Int) : Int := ldR (nKf σ p q (-1)) (σ 224 8).toNat 0
def nAh (σ : Sg) (p q : Int) : Int × Sg := if nIsP (nT0 σ) p = 0 ∨ nIsP (nT0 σ) q = 0 then (0, nThr (nT0 σ) 1) else (nAhV (nFg (nT0 σ)) p q, nFg (nT0 σ))
set_option maxRecDepth 4000 in
theorem s_X11_costNow (ad : Nat → Nat) (σ : Sg)  (hT : TW (σ 224)) : gw_Sp yX11_costNow cX11_costNow 3 (some .int) 4 0 0 [vR (some 223)] (gw_M0 ad) σ (gw_D (some (vI (nCo σ))) (gw_M0 ad) (σ)) gw_no := by
  refine gw_Sp.of [some (vR (some 223)), none, none] (by decide +kernel) rfl (Nat.le_of_ble_eq_true rfl) ?_
  intro X G fx het hnm
  have hS := hT.sacks
  have hP := hT.p60
  refine g_iconst fx dX11_costNow_0 (by unfold okI; omega) ?_
  refine g_istore_n fx dX11_costNow_1 (by decide) rfl rfl ?_
  refine g_iconst fx dX11_costNow_2 (by unfold okI; omega) ?_
  refine g_istore_n fx dX11_costNow_3 (by decide) rfl rfl ?_
  have loop4 : ∀ k : Nat, k ≤ (σ 224 4).toNat → gw_W X (yX11_costNow.cls, cX11_costNow, 3, (some .int), 4, 0, 0) G (gw_Z X G (gw_M0 ad) σ (gw_D (some (vI (nCo σ))) (gw_M0 ad) (σ)) gw_no 0 0) 0 0 (gw_M0 ad) (σ) 4 [some (vR (some 223)), some (vI (itr k (ncS σ) 0)), some (vI (k : Nat))] [] := by
    refine up_ind _ ((σ 224 4).toNat) (fun k hk ih => ?_)
    refine g_iload_n fx dX11_costNow_4 rfl ?_
    refine g_aload_n fx dX11_costNow_5 rfl ?_
    refine g_getr fx dX11_costNow_6 fk_RX11_9 o_223 rf_223_0 ?_
    refine g_iconst fx dX11_costNow_9 (by unfold okI; omega) ?_
    refine g_iald fx dX11_costNow_10 o_224 (by decide) (by decide) ?_
    rw [show Int.toNat 4 = 4 from rfl]
    refine g_icmp_ge (tgt := 35) fx dX11_costNow_11 (by decide) (fun h11 => ?_) (fun h11 => ?_)
    · refine g_iload_n fx dX11_costNow_35 rfl ?_
      exact g_iret fx rfl dX11_costNow_36 (by decide) (by decide) (gw_le.rf _) ⟨by rw [nCo, show (σ 224 4).toNat = k by omega], rfl, rfl⟩
    · refine g_iload_n fx dX11_costNow_14 rfl ?_
      refine g_aload_n fx dX11_costNow_15 rfl ?_
      refine g_iload_n fx dX11_costNow_16 rfl ?_
      refine g_iconst fx dX11_costNow_17 (by unfold okI; omega) ?_
      refine g_callVD fx dX11_costNow_18 mv_RX11_242 my_X11_of (s_X11_of ad _ _ _ (by omega)) o_223 rfl rfl rfl (Nat.le_of_ble_eq_true rfl) (by decide) (by decide) ?_
      refine g_aload_n fx dX11_costNow_21 rfl ?_
      refine g_iload_n fx dX11_costNow_22 rfl ?_
      refine g_callVD fx dX11_costNow_23 mv_RX11_320 my_X11_waitOf (s_X11_waitOf ad _ _ (by omega) (by omega)) o_223 rfl rfl rfl (Nat.le_of_ble_eq_true rfl) (by decide) (by decide) ?_
      refine g_imul fx dX11_costNow_26 ?_
      refine g_iadd fx dX11_costNow_27 ?_
      refine g_istore_n fx dX11_costNow_28 (by decide) rfl rfl ?_
      refine g_iinc1 fx dX11_costNow_29 (by decide) rfl rfl (by unfold okI; omega) rfl ?_
      refine g_goto (tgt := 4) fx dX11_costNow_32 (by decide) ?_
      exact gw_cg rfl (by rw [itr_s, ncS, show ((k : Nat) : Int) + 1 = ((k + 1 : Nat) : Int) by omega] <;> rfl) (ih (by omega))
  exact loop4 0 (Nat.zero_le _)
set_option maxRecDepth 4000 in
theorem s_X11_costOfRun (ad : Nat → Nat) (σ : Sg)  (hT : TW (σ 224)) : gw_Sp yX11_costOfRun cX11_costOfRun 1 (some .int) 7 0 0 [vR (some 223)] (gw_M0 ad) σ (gw_D (some (vI (nCo (nRu σ)))) (gw_M0 ad) (nRu σ)) gw_no := by
  refine gw_Sp.of [some (vR (some 223))] (by decide +kernel) rfl (Nat.le_of_ble_eq_true rfl) ?_
  intro X G fx het hnm
  refine g_aload_n fx dX11_costOfRun_0 rfl ?_
  refine g_callVD0 fx dX11_costOfRun_1 mv_RX11_323 my_X11_runs (s_X11_runs ad _ (by first | exact hT | exact hTx)) o_223 rfl rfl rfl (Nat.le_of_ble_eq_true rfl) (by decide) (by decide) ?_
  refine g_aload_n fx dX11_costOfRun_4 rfl ?_
  refine g_callVD fx dX11_costOfRun_5 mv_RX11_326 my_X11_costNow (s_X11_costNow ad _ (by first | exact TW_ru hT | exact hTx)) o_223 rfl rfl rfl (Nat.le_of_ble_eq_true rfl) (by decide) (by decide) ?_
  exact g_iret fx rfl dX11_costOfRun_8 (by decide) (by decide) (gw_le.rf _) ⟨rfl, rfl, rfl⟩
set_option maxRecDepth 4000 in
theorem s_X11_piece (ad : Nat → Nat) (σ : Sg)  (p : Int) (w : Int) (hT : TW (σ 224)) : gw_Sp yX11_piece cX11_piece 3 (some .int) 7 0 0 [vR (some 223), vI p, vI w] (gw_M0 ad) σ (gw_D (some (vI (nPi σ p w).1)) (gw_M0 ad) ((nPi σ p w).2)) gw_no := by
  refine gw_Sp.of [some (vR (some 223)), some (vI p), some (vI w)] (by decide +kernel) rfl (Nat.le_of_ble_eq_true rfl) ?_
  intro X G fx het hnm
  have hTr : TW (nRu (nT0 σ) 224) := TW_ru (σ := nT0 σ) hT
  have hS := hTr.sacks
  have hP := hTr.p60
  have hTx := hTr
  have j102 : ∀ v : Int, nIsP (nT0 σ) p ≠ 0 → wth w 0 4 ≠ 0 → v = nPiV (nRu (nT0 σ)) p w → gw_W X (yX11_piece.cls, cX11_piece, 3, (some .int), 7, 0, 0) G (gw_Z X G (gw_M0 ad) σ (gw_D (some (vI (nPi σ p w).1)) (gw_M0 ad) ((nPi σ p w).2)) gw_no 0 0) 0 0 (gw_M0 ad) ((nRu (nT0 σ))) 102 [some (vR (some 223)), some (vI p), some (vI w)] [vI v] := by
    intro v hj1 hj2 hj3
    exact g_iret fx rfl dX11_piece_102 (by decide) (by decide) (gw_le.rf _) ⟨by rw [hj3, nPi, if_neg hj1, if_neg hj2], rfl, by rw [nPi, if_neg hj1, if_neg hj2]⟩
  refine g_aload_n fx dX11_piece_0 rfl ?_
  refine g_iconst fx dX11_piece_1 (by unfold okI; omega) ?_
  refine g_puti fx dX11_piece_2 fk_RX11_88 o_223 ?_
  refine gw_cg (σ' := nT0 σ) rfl rfl ?_
  refine g_aload_n fx dX11_piece_5 rfl ?_
  refine g_iload_n fx dX11_piece_6 rfl ?_
  refine g_i2l fx dX11_piece_7 ?_
  refine g_callVD fx dX11_piece_8 mv_RX11_329 my_X11_isPiece (s_X11_isPiece ad _ _) o_223 rfl rfl rfl (Nat.le_of_ble_eq_true rfl) (by decide) (by decide) ?_
  refine g_if_ne (tgt := 20) fx dX11_piece_11 (by decide) (fun h11 => ?_) (fun h11 => ?_)
  · refine g_iload_n fx dX11_piece_20 rfl ?_
    refine g_i2l fx dX11_piece_21 ?_
    refine g_lconst0 fx dX11_piece_22 ?_
    refine g_ldcL fx dX11_piece_23 kc_RX11_333 (by unfold okJ; omega) ?_
    refine g_callSD fx dX11_piece_26 ms_RX11_147 my_X11_within (s_X11_within ad _ _ _ _) rfl rfl (Nat.le_of_ble_eq_true rfl) (by decide) (by decide) ?_
    refine g_if_ne (tgt := 38) fx dX11_piece_29 (by decide) (fun h29 => ?_) (fun h29 => ?_)
    · have hi := (isP_1 (σ := nT0 σ) hT (p := p)).mp (by assumption)
      rw [← nRu_224 (σ := nT0 σ) hT] at hi
      refine g_aload_n fx dX11_piece_38 rfl ?_
      refine g_callVD0 fx dX11_piece_39 mv_RX11_323 my_X11_runs (s_X11_runs ad _ (by first | exact hT | exact hTx)) o_223 rfl rfl rfl (Nat.le_of_ble_eq_true rfl) (by decide) (by decide) ?_
      refine g_iload_n fx dX11_piece_42 rfl ?_
      refine g_if_ne (tgt := 55) fx dX11_piece_43 (by decide) (fun h43 => ?_) (fun h43 => ?_)
      · refine g_iload_n fx dX11_piece_55 rfl ?_
        refine g_iconst fx dX11_piece_56 (by unfold okI; omega) ?_
        refine g_icmp_ne (tgt := 68) fx dX11_piece_57 (by decide) (fun h57 => ?_) (fun h57 => ?_)
        · refine g_iload_n fx dX11_piece_68 rfl ?_
          refine g_iconst fx dX11_piece_69 (by unfold okI; omega) ?_
          refine g_icmp_ne (tgt := 82) fx dX11_piece_70 (by decide) (fun h70 => ?_) (fun h70 => ?_)
          · refine g_iload_n fx dX11_piece_82 rfl ?_
            refine g_iconst fx dX11_piece_83 (by unfold okI; omega) ?_
            refine g_icmp_ne (tgt := 96) fx dX11_piece_84 (by decide) (fun h84 => ?_) (fun h84 => ?_)
            · refine g_aload_n fx dX11_piece_96 rfl ?_
              refine g_getr fx dX11_piece_97 fk_RX11_45 o_223 rf_223_21 ?_
              refine g_iload_n fx dX11_piece_100 rfl ?_
              refine g_iald fx dX11_piece_101 o_234 (by omega) (by show _ < ((60 : Nat) : Int); omega) ?_
              exact j102 _ (by assumption) (by assumption) (by rw [nPiV]; (repeat first | rw [if_pos (by omega)] | rw [if_neg (by omega)]) <;> rfl)
            · refine g_aload_n fx dX11_piece_87 rfl ?_
              refine g_getr fx dX11_piece_88 fk_RX11_42 o_223 rf_223_20 ?_
              refine g_iload_n fx dX11_piece_91 rfl ?_
              refine g_iald fx dX11_piece_92 o_233 (by omega) (by show _ < ((60 : Nat) : Int); omega) ?_
              refine g_goto (tgt := 102) fx dX11_piece_93 (by decide) ?_
              exact j102 _ (by assumption) (by assumption) (by rw [nPiV]; (repeat first | rw [if_pos (by omega)] | rw [if_neg (by omega)]) <;> rfl)
          · refine g_aload_n fx dX11_piece_73 rfl ?_
            refine g_getr fx dX11_piece_74 fk_RX11_39 o_223 rf_223_19 ?_
            refine g_iload_n fx dX11_piece_77 rfl ?_
            refine g_iald fx dX11_piece_78 o_232 (by omega) (by show _ < ((60 : Nat) : Int); omega) ?_
            refine g_goto (tgt := 102) fx dX11_piece_79 (by decide) ?_
            exact j102 _ (by assumption) (by assumption) (by rw [nPiV]; (repeat first | rw [if_pos (by omega)] | rw [if_neg (by omega)]) <;> rfl)
        · refine g_aload_n fx dX11_piece_60 rfl ?_
          refine g_iload_n fx dX11_piece_61 rfl ?_
          refine g_callVD fx dX11_piece_62 mv_RX11_273 my_X11_pounds (s_X11_pounds ad _ _ (by omega)) o_223 rfl rfl rfl (Nat.le_of_ble_eq_true rfl) (by decide) (by decide) ?_
          refine g_goto (tgt := 102) fx dX11_piece_65 (by decide) ?_
          exact j102 _ (by assumption) (by assumption) (by rw [nPiV]; (repeat first | rw [if_pos (by omega)] | rw [if_neg (by omega)]) <;> rfl)
      · refine g_aload_n fx dX11_piece_46 rfl ?_
        refine g_getr fx dX11_piece_47 fk_RX11_36 o_223 rf_223_18 ?_
        refine g_iload_n fx dX11_piece_50 rfl ?_
        refine g_iald fx dX11_piece_51 o_231 (by omega) (by show _ < ((60 : Nat) : Int); omega) ?_
        refine g_goto (tgt := 102) fx dX11_piece_52 (by decide) ?_
        exact j102 _ (by assumption) (by assumption) (by rw [nPiV]; (repeat first | rw [if_pos (by omega)] | rw [if_neg (by omega)]) <;> rfl)
    · refine g_aload_n fx dX11_piece_32 rfl ?_
      refine g_iconst fx dX11_piece_33 (by unfold okI; omega) ?_
      refine g_callVD fx dX11_piece_34 mv_RX11_191 my_X11_fails (s_X11_fails ad _ _) o_223 rfl rfl rfl (Nat.le_of_ble_eq_true rfl) (by decide) (by decide) ?_
      exact g_iret fx rfl dX11_piece_37 (by decide) (by decide) (gw_le.rf _) ⟨by first | (exfalso; omega) | (rw [nPi]; (repeat first | rw [if_pos (by omega)] | rw [if_neg (by omega)]) <;> rfl), rfl, by first | (exfalso; omega) | (rw [nPi]; (repeat first | rw [if_pos (by omega)] | rw [if_neg (by omega)]) <;> rfl)⟩
  · refine g_aload_n fx dX11_piece_14 rfl ?_
    refine g_iconst fx dX11_piece_15 (by unfold okI; omega) ?_
    refine g_callVD fx dX11_piece_16 mv_RX11_191 my_X11_fails (s_X11_fails ad _ _) o_223 rfl rfl rfl (Nat.le_of_ble_eq_true rfl) (by decide) (by decide) ?_
    exact g_iret fx rfl dX11_piece_19 (by decide) (by decide) (gw_le.rf _) ⟨by first | (exfalso; omega) | (rw [nPi]; (repeat first | rw [if_pos (by omega)] | rw [if_neg (by omega)]) <;> rfl), rfl, by first | (exfalso; omega) | (rw [nPi]; (repeat first | rw [if_pos (by omega)] | rw [if_neg (by omega)]) <;> rfl)⟩
set_option maxRecDepth 4000 in
theorem s_X11_order (ad : Nat → Nat) (σ : Sg)  (k : Int) (hT : TW (σ 224)) : gw_Sp yX11_order cX11_order 2 (some .int) 7 0 0 [vR (some 223), vI k] (gw_M0 ad) σ (gw_D (some (vI (nOrV (nRu (nT0 σ)) k))) (gw_M0 ad) ((nRu (nT0 σ)))) gw_no := by
  refine gw_Sp.of [some (vR (some 223)), some (vI k)] (by decide +kernel) rfl (Nat.le_of_ble_eq_true rfl) ?_
  intro X G fx het hnm
  have hTr : TW (nRu (nT0 σ) 224) := TW_ru (σ := nT0 σ) hT
  have hS := hTr.sacks
  have hP := hTr.p60
  have hTx := hTr
  refine g_aload_n fx dX11_order_0 rfl ?_
  refine g_iconst fx dX11_order_1 (by unfold okI; omega) ?_
  refine g_puti fx dX11_order_2 fk_RX11_88 o_223 ?_
  refine gw_cg (σ' := nT0 σ) rfl rfl ?_
  refine g_aload_n fx dX11_order_5 rfl ?_
  refine g_callVD0 fx dX11_order_6 mv_RX11_323 my_X11_runs (s_X11_runs ad _ (by first | exact hT | exact hTx)) o_223 rfl rfl rfl (Nat.le_of_ble_eq_true rfl) (by decide) (by decide) ?_
  refine g_iload_n fx dX11_order_9 rfl ?_
  refine g_i2l fx dX11_order_10 ?_
  refine g_lconst0 fx dX11_order_11 ?_
  refine g_aload_n fx dX11_order_12 rfl ?_
  refine g_getr fx dX11_order_13 fk_RX11_9 o_223 rf_223_0 ?_
  refine g_sipush fx dX11_order_16 (by decide) ?_
  refine g_iald fx dX11_order_19 o_224 (by decide) (by decide) ?_
  rw [show Int.toNat 668 = 668 from rfl]
  refine g_iconst fx dX11_order_20 (by unfold okI; omega) ?_
  refine g_isub fx dX11_order_21 ?_
  refine g_i2l fx dX11_order_22 ?_
  refine g_callSD fx dX11_order_23 ms_RX11_147 my_X11_within (s_X11_within ad _ _ _ _) rfl rfl (Nat.le_of_ble_eq_true rfl) (by decide) (by decide) ?_
  refine g_if_eq (tgt := 38) fx dX11_order_26 (by decide) (fun h26 => ?_) (fun h26 => ?_)
  · refine g_iconst fx dX11_order_38 (by unfold okI; omega) ?_
    exact g_iret fx rfl dX11_order_39 (by decide) (by decide) (gw_le.rf _) ⟨by first | (exfalso; omega) | (rw [nOrV]; (repeat first | rw [if_pos (by omega)] | rw [if_neg (by omega)]) <;> rfl), rfl, rfl⟩
  · have hp0 := hTr.p0
    have hw := wth_1 h26
    rw [wr_id (by unfold okI; omega)] at hw
    refine g_aload_n fx dX11_order_29 rfl ?_
    refine g_getr fx dX11_order_30 fk_RX11_48 o_223 rf_223_22 ?_
    refine g_iload_n fx dX11_order_33 rfl ?_
    refine g_iald fx dX11_order_34 o_235 (by omega) (by show _ < ((60 : Nat) : Int); omega) ?_
    refine g_goto (tgt := 39) fx dX11_order_35 (by decide) ?_
    exact g_iret fx rfl dX11_order_39 (by decide) (by decide) (gw_le.rf _) ⟨by first | (exfalso; omega) | (rw [nOrV]; (repeat first | rw [if_pos (by omega)] | rw [if_neg (by omega)]) <;> rfl), rfl, rfl⟩
set_option maxRecDepth 4000 in
theorem s_X11_end (ad : Nat → Nat) (σ : Sg)  (s : Int) (hT : TW (σ 224)) : gw_Sp yX11_end cX11_end 2 (some .int) 7 0 0 [vR (some 223), vI s] (gw_M0 ad) σ (gw_D (some (vI (nEd σ s).1)) (gw_M0 ad) ((nEd σ s).2)) gw_no := by
  refine gw_Sp.of [some (vR (some 223)), some (vI s)] (by decide +kernel) rfl (Nat.le_of_ble_eq_true rfl) ?_
  intro X G fx het hnm
  have hTr : TW (nRu (nT0 σ) 224) := TW_ru (σ := nT0 σ) hT
  have hS := hTr.sacks
  have hP := hTr.p60
  have hTx := hTr
  refine g_aload_n fx dX11_end_0 rfl ?_
  refine g_iconst fx dX11_end_1 (by unfold okI; omega) ?_
  refine g_puti fx dX11_end_2 fk_RX11_88 o_223 ?_
  refine gw_cg (σ' := nT0 σ) rfl rfl ?_
  refine g_aload_n fx dX11_end_5 rfl ?_
  refine g_iload_n fx dX11_end_6 rfl ?_
  refine g_callVD fx dX11_end_7 mv_RX11_244 my_X11_isSack (s_X11_isSack ad _ _) o_223 rfl rfl rfl (Nat.le_of_ble_eq_true rfl) (by decide) (by decide) ?_
  refine g_if_ne (tgt := 19) fx dX11_end_10 (by decide) (fun h10 => ?_) (fun h10 => ?_)
  · have hi := (isS_1 (σ := nT0 σ) hT (s := s)).mp (by assumption)
    rw [← nRu_224 (σ := nT0 σ) hT] at hi
    refine g_aload_n fx dX11_end_19 rfl ?_
    refine g_callVD0 fx dX11_end_20 mv_RX11_323 my_X11_runs (s_X11_runs ad _ (by first | exact hT | exact hTx)) o_223 rfl rfl rfl (Nat.le_of_ble_eq_true rfl) (by decide) (by decide) ?_
    refine g_aload_n fx dX11_end_23 rfl ?_
    refine g_iload_n fx dX11_end_24 rfl ?_
    refine g_callVD fx dX11_end_25 mv_RX11_317 my_X11_endOf (s_X11_endOf ad _ _ (by omega)) o_223 rfl rfl rfl (Nat.le_of_ble_eq_true rfl) (by decide) (by decide) ?_
    exact g_iret fx rfl dX11_end_28 (by decide) (by decide) (gw_le.rf _) ⟨by first | (exfalso; omega) | (rw [nEd]; (repeat first | rw [if_pos (by omega)] | rw [if_neg (by omega)]) <;> rfl), rfl, by first | (exfalso; omega) | (rw [nEd]; (repeat first | rw [if_pos (by omega)] | rw [if_neg (by omega)]) <;> rfl)⟩
  · refine g_aload_n fx dX11_end_13 rfl ?_
    refine g_iconst fx dX11_end_14 (by unfold okI; omega) ?_
    refine g_callVD fx dX11_end_15 mv_RX11_191 my_X11_fails (s_X11_fails ad _ _) o_223 rfl rfl rfl (Nat.le_of_ble_eq_true rfl) (by decide) (by decide) ?_
    exact g_iret fx rfl dX11_end_18 (by decide) (by decide) (gw_le.rf _) ⟨by first | (exfalso; omega) | (rw [nEd]; (repeat first | rw [if_pos (by omega)] | rw [if_neg (by omega)]) <;> rfl), rfl, by first | (exfalso; omega) | (rw [nEd]; (repeat first | rw [if_pos (by omega)] | rw [if_neg (by omega)]) <;> rfl)⟩
set_option maxRecDepth 4000 in
theorem s_X11_waits (ad : Nat → Nat) (σ : Sg)  (s : Int) (hT : TW (σ 224)) : gw_Sp yX11_waits cX11_waits 2 (some .int) 7 0 0 [vR (some 223), vI s] (gw_M0 ad) σ (gw_D (some (vI (nWt σ s).1)) (gw_M0 ad) ((nWt σ s).2)) gw_no := by
  refine gw_Sp.of [some (vR (some 223)), some (vI s)] (by decide +kernel) rfl (Nat.le_of_ble_eq_true rfl) ?_
  intro X G fx het hnm
  have hTr : TW (nRu (nT0 σ) 224) := TW_ru (σ := nT0 σ) hT
  have hS := hTr.sacks
  have hP := hTr.p60
  have hTx := hTr
  refine g_aload_n fx dX11_waits_0 rfl ?_
  refine g_iconst fx dX11_waits_1 (by unfold okI; omega) ?_
  refine g_puti fx dX11_waits_2 fk_RX11_88 o_223 ?_
  refine gw_cg (σ' := nT0 σ) rfl rfl ?_
  refine g_aload_n fx dX11_waits_5 rfl ?_
  refine g_iload_n fx dX11_waits_6 rfl ?_
  refine g_callVD fx dX11_waits_7 mv_RX11_244 my_X11_isSack (s_X11_isSack ad _ _) o_223 rfl rfl rfl (Nat.le_of_ble_eq_true rfl) (by decide) (by decide) ?_
  refine g_if_ne (tgt := 19) fx dX11_waits_10 (by decide) (fun h10 => ?_) (fun h10 => ?_)
  · have hi := (isS_1 (σ := nT0 σ) hT (s := s)).mp (by assumption)
    rw [← nRu_224 (σ := nT0 σ) hT] at hi
    refine g_aload_n fx dX11_waits_19 rfl ?_
    refine g_callVD0 fx dX11_waits_20 mv_RX11_323 my_X11_runs (s_X11_runs ad _ (by first | exact hT | exact hTx)) o_223 rfl rfl rfl (Nat.le_of_ble_eq_true rfl) (by decide) (by decide) ?_
    refine g_aload_n fx dX11_waits_23 rfl ?_
    refine g_iload_n fx dX11_waits_24 rfl ?_
    refine g_callVD fx dX11_waits_25 mv_RX11_320 my_X11_waitOf (s_X11_waitOf ad _ _ (by omega) (by omega)) o_223 rfl rfl rfl (Nat.le_of_ble_eq_true rfl) (by decide) (by decide) ?_
    exact g_iret fx rfl dX11_waits_28 (by decide) (by decide) (gw_le.rf _) ⟨by first | (exfalso; omega) | (rw [nWt]; (repeat first | rw [if_pos (by omega)] | rw [if_neg (by omega)]) <;> rfl), rfl, by first | (exfalso; omega) | (rw [nWt]; (repeat first | rw [if_pos (by omega)] | rw [if_neg (by omega)]) <;> rfl)⟩
  · refine g_aload_n fx dX11_waits_13 rfl ?_
    refine g_iconst fx dX11_waits_14 (by unfold okI; omega) ?_
    refine g_callVD fx dX11_waits_15 mv_RX11_191 my_X11_fails (s_X11_fails ad _ _) o_223 rfl rfl rfl (Nat.le_of_ble_eq_true rfl) (by decide) (by decide) ?_
    exact g_iret fx rfl dX11_waits_18 (by decide) (by decide) (gw_le.rf _) ⟨by first | (exfalso; omega) | (rw [nWt]; (repeat first | rw [if_pos (by omega)] | rw [if_neg (by omega)]) <;> rfl), rfl, by first | (exfalso; omega) | (rw [nWt]; (repeat first | rw [if_pos (by omega)] | rw [if_neg (by omega)]) <;> rfl)⟩
set_option maxRecDepth 4000 in
theorem s_X11_home (ad : Nat → Nat) (σ : Sg)  (q : Int) (hT : TW (σ 224)) : gw_Sp yX11_home cX11_home 4 (some .int) 7 0 0 [vR (some 223), vI q] (gw_M0 ad) σ (gw_D (some (vI (nHm σ q).1)) (gw_M0 ad) ((nHm σ q).2)) gw_no := by
  refine gw_Sp.of [some (vR (some 223)), some (vI q), none, none] (by decide +kernel) rfl (Nat.le_of_ble_eq_true rfl) ?_
  intro X G fx het hnm
  have hTr : TW (nRu (nT0 σ) 224) := TW_ru (σ := nT0 σ) hT
  have hS := hTr.sacks
  have hP := hTr.p60
  have hTx := hTr
  refine g_aload_n fx dX11_home_0 rfl ?_
  refine g_iconst fx dX11_home_1 (by unfold okI; omega) ?_
  refine g_puti fx dX11_home_2 fk_RX11_88 o_223 ?_
  refine gw_cg (σ' := nT0 σ) rfl rfl ?_
  refine g_iload_n fx dX11_home_5 rfl ?_
  refine g_i2l fx dX11_home_6 ?_
  refine g_lconst0 fx dX11_home_7 ?_
  refine g_ldcL fx dX11_home_8 kc_RX11_247 (by unfold okJ; omega) ?_
  refine g_callSD fx dX11_home_11 ms_RX11_147 my_X11_within (s_X11_within ad _ _ _ _) rfl rfl (Nat.le_of_ble_eq_true rfl) (by decide) (by decide) ?_
  refine g_if_ne (tgt := 23) fx dX11_home_14 (by decide) (fun h14 => ?_) (fun h14 => ?_)
  · refine g_aload_n fx dX11_home_23 rfl ?_
    refine g_callVD0 fx dX11_home_24 mv_RX11_323 my_X11_runs (s_X11_runs ad _ (by first | exact hT | exact hTx)) o_223 rfl rfl rfl (Nat.le_of_ble_eq_true rfl) (by decide) (by decide) ?_
    refine g_iconst fx dX11_home_27 (by unfold okI; omega) ?_
    refine g_istore_n fx dX11_home_28 (by decide) rfl rfl ?_
    refine g_iconst fx dX11_home_29 (by unfold okI; omega) ?_
    refine g_istore_n fx dX11_home_30 (by decide) rfl rfl ?_
    have loop31 : ∀ k : Nat, k ≤ (nRu (nT0 σ) 224 4).toNat → gw_W X (yX11_home.cls, cX11_home, 4, (some .int), 7, 0, 0) G (gw_Z X G (gw_M0 ad) σ (gw_D (some (vI (nHm σ q).1)) (gw_M0 ad) ((nHm σ q).2)) gw_no 0 0) 0 0 (gw_M0 ad) ((nRu (nT0 σ))) 31 [some (vR (some 223)), some (vI q), some (vI (itr k (nHmS (nRu (nT0 σ)) q) (-1))), some (vI (k : Nat))] [] := by
      refine up_ind _ ((nRu (nT0 σ) 224 4).toNat) (fun k hk ih => ?_)
      refine g_iload_n fx dX11_home_31 rfl ?_
      refine g_aload_n fx dX11_home_32 rfl ?_
      refine g_getr fx dX11_home_33 fk_RX11_9 o_223 rf_223_0 ?_
      refine g_iconst fx dX11_home_36 (by unfold okI; omega) ?_
      refine g_iald fx dX11_home_37 o_224 (by decide) (by decide) ?_
      rw [show Int.toNat 4 = 4 from rfl]
      refine g_icmp_ge (tgt := 67) fx dX11_home_38 (by decide) (fun h38 => ?_) (fun h38 => ?_)
      · refine g_iload_n fx dX11_home_67 rfl ?_
        exact g_iret fx rfl dX11_home_68 (by decide) (by decide) (gw_le.rf _) ⟨by rw [nHm, if_neg (by omega), nHmV, show (nRu (nT0 σ) 224 4).toNat = k by omega], rfl, by rw [nHm, if_neg (by omega)]⟩
      · refine g_aload_n fx dX11_home_41 rfl ?_
        refine g_iload_n fx dX11_home_42 rfl ?_
        refine g_iconst fx dX11_home_43 (by unfold okI; omega) ?_
        refine g_callVD fx dX11_home_44 mv_RX11_242 my_X11_of (s_X11_of ad _ _ _ (by omega)) o_223 rfl rfl rfl (Nat.le_of_ble_eq_true rfl) (by decide) (by decide) ?_
        refine g_iload_n fx dX11_home_47 rfl ?_
        refine g_icmp_ne (tgt := 61) fx dX11_home_48 (by decide) (fun h48 => ?_) (fun h48 => ?_)
        · refine g_iinc1 fx dX11_home_61 (by decide) rfl rfl (by unfold okI; omega) rfl ?_
          refine g_goto (tgt := 31) fx dX11_home_64 (by decide) ?_
          exact gw_cg rfl (by rw [itr_s, nHmS, show ((k : Nat) : Int) + 1 = ((k + 1 : Nat) : Int) by omega]; (repeat first | rw [if_pos (by omega)] | rw [if_neg (by omega)]) <;> rfl) (ih (by omega))
        · refine g_iload_n fx dX11_home_51 rfl ?_
          refine g_aload_n fx dX11_home_52 rfl ?_
          refine g_iload_n fx dX11_home_53 rfl ?_
          refine g_callVD fx dX11_home_54 mv_RX11_317 my_X11_endOf (s_X11_endOf ad _ _ (by omega)) o_223 rfl rfl rfl (Nat.le_of_ble_eq_true rfl) (by decide) (by decide) ?_
          refine g_max fx dX11_home_57 mm_RX11_268 (by decide) (by decide) (by decide) (Nat.le_of_ble_eq_true rfl) ?_
          refine g_istore_n fx dX11_home_60 (by decide) rfl rfl ?_
          refine g_iinc1 fx dX11_home_61 (by decide) rfl rfl (by unfold okI; omega) rfl ?_
          refine g_goto (tgt := 31) fx dX11_home_64 (by decide) ?_
          exact gw_cg rfl (by rw [itr_s, nHmS, show ((k : Nat) : Int) + 1 = ((k + 1 : Nat) : Int) by omega]; (repeat first | rw [if_pos (by omega)] | rw [if_neg (by omega)]) <;> rfl) (ih (by omega))
    exact loop31 0 (Nat.zero_le _)
  · refine g_aload_n fx dX11_home_17 rfl ?_
    refine g_iconst fx dX11_home_18 (by unfold okI; omega) ?_
    refine g_callVD fx dX11_home_19 mv_RX11_191 my_X11_fails (s_X11_fails ad _ _) o_223 rfl rfl rfl (Nat.le_of_ble_eq_true rfl) (by decide) (by decide) ?_
    exact g_iret fx rfl dX11_home_22 (by decide) (by decide) (gw_le.rf _) ⟨by first | (exfalso; omega) | (rw [nHm]; (repeat first | rw [if_pos (by omega)] | rw [if_neg (by omega)]) <;> rfl), rfl, by first | (exfalso; omega) | (rw [nHm]; (repeat first | rw [if_pos (by omega)] | rw [if_neg (by omega)]) <;> rfl)⟩
set_option maxRecDepth 4000 in
theorem s_X11_total (ad : Nat → Nat) (σ : Sg)  (w : Int) (hT : TW (σ 224)) : gw_Sp yX11_total cX11_total 6 (some .int) 7 0 0 [vR (some 223), vI w] (gw_M0 ad) σ (gw_D (some (vI (nTo (nRu (nT0 σ)) w))) (gw_M0 ad) ((nRu (nT0 σ)))) gw_no := by
  refine gw_Sp.of [some (vR (some 223)), some (vI w), none, none, none, none] (by decide +kernel) rfl (Nat.le_of_ble_eq_true rfl) ?_
  intro X G fx het hnm
  have hTr : TW (nRu (nT0 σ) 224) := TW_ru (σ := nT0 σ) hT
  have hS := hTr.sacks
  have hP := hTr.p60
  have hTx := hTr
  refine g_aload_n fx dX11_total_0 rfl ?_
  refine g_iconst fx dX11_total_1 (by unfold okI; omega) ?_
  refine g_puti fx dX11_total_2 fk_RX11_88 o_223 ?_
  refine gw_cg (σ' := nT0 σ) rfl rfl ?_
  refine g_aload_n fx dX11_total_5 rfl ?_
  refine g_callVD0 fx dX11_total_6 mv_RX11_323 my_X11_runs (s_X11_runs ad _ (by first | exact hT | exact hTx)) o_223 rfl rfl rfl (Nat.le_of_ble_eq_true rfl) (by decide) (by decide) ?_
  refine g_iconst fx dX11_total_9 (by unfold okI; omega) ?_
  refine g_istore_n fx dX11_total_10 (by decide) rfl rfl ?_
  refine g_iconst fx dX11_total_11 (by unfold okI; omega) ?_
  refine g_istore_n fx dX11_total_12 (by decide) rfl rfl ?_
  refine g_iconst fx dX11_total_13 (by unfold okI; omega) ?_
  refine g_istore fx dX11_total_14 (by decide) rfl rfl ?_
  refine g_iconst fx dX11_total_16 (by unfold okI; omega) ?_
  refine g_istore fx dX11_total_17 (by decide) rfl rfl ?_
  have loop19 : ∀ k : Nat, k ≤ (nRu (nT0 σ) 224 4).toNat → gw_W X (yX11_total.cls, cX11_total, 6, (some .int), 7, 0, 0) G (gw_Z X G (gw_M0 ad) σ (gw_D (some (vI (nTo (nRu (nT0 σ)) w))) (gw_M0 ad) ((nRu (nT0 σ)))) gw_no 0 0) 0 0 (gw_M0 ad) ((nRu (nT0 σ))) 19 [some (vR (some 223)), some (vI w), some (vI (itr k (nToS (nRu (nT0 σ))) (0, 0, 0)).1), some (vI (itr k (nToS (nRu (nT0 σ))) (0, 0, 0)).2.1), some (vI (itr k (nToS (nRu (nT0 σ))) (0, 0, 0)).2.2), some (vI (k : Nat))] [] := by
    refine up_ind _ _ (fun k hk ih => ?_)
    refine g_iload fx dX11_total_19 rfl ?_
    refine g_aload_n fx dX11_total_21 rfl ?_
    refine g_getr fx dX11_total_22 fk_RX11_9 o_223 rf_223_0 ?_
    refine g_iconst fx dX11_total_25 (by unfold okI; omega) ?_
    refine g_iald fx dX11_total_26 o_224 (by decide) (by decide) ?_
    rw [show Int.toNat 4 = 4 from rfl]
    refine g_icmp_ge (tgt := 75) fx dX11_total_27 (by decide) (fun h27 => ?_) (fun h27 => ?_)
    · have hL : (itr k (nToS (nRu (nT0 σ))) (0, 0, 0)) = nToL (nRu (nT0 σ)) := by rw [nToL, show (nRu (nT0 σ) 224 4).toNat = k by omega]
      rw [hL]
      refine g_iload_n fx dX11_total_75 rfl ?_
      by_cases h76_0 : w = 0
      · refine g_tsw 0 (tgt := 116) fx dX11_total_76 (by omega) (by decide) rfl (by decide) ?_
        refine g_iload_n fx dX11_total_116 rfl ?_
        exact g_iret fx rfl dX11_total_117 (by decide) (by decide) (gw_le.rf _) ⟨by first | (exfalso; omega) | (rw [nTo]; (repeat first | rw [if_pos (by omega)] | rw [if_neg (by omega)]) <;> rfl), rfl, rfl⟩
      by_cases h76_1 : w = 1
      · refine g_tsw 1 (tgt := 118) fx dX11_total_76 (by omega) (by decide) rfl (by decide) ?_
        refine g_aload_n fx dX11_total_118 rfl ?_
        refine g_callVD fx dX11_total_119 mv_RX11_326 my_X11_costNow (s_X11_costNow ad _ (by first | exact TW_ru hT | exact hTx)) o_223 rfl rfl rfl (Nat.le_of_ble_eq_true rfl) (by decide) (by decide) ?_
        exact g_iret fx rfl dX11_total_122 (by decide) (by decide) (gw_le.rf _) ⟨by first | (exfalso; omega) | (rw [nTo]; (repeat first | rw [if_pos (by omega)] | rw [if_neg (by omega)]) <;> rfl), rfl, rfl⟩
      by_cases h76_2 : w = 2
      · refine g_tsw 2 (tgt := 123) fx dX11_total_76 (by omega) (by decide) rfl (by decide) ?_
        refine g_iload_n fx dX11_total_123 rfl ?_
        exact g_iret fx rfl dX11_total_124 (by decide) (by decide) (gw_le.rf _) ⟨by first | (exfalso; omega) | (rw [nTo]; (repeat first | rw [if_pos (by omega)] | rw [if_neg (by omega)]) <;> rfl), rfl, rfl⟩
      by_cases h76_3 : w = 3
      · refine g_tsw 3 (tgt := 125) fx dX11_total_76 (by omega) (by decide) rfl (by decide) ?_
        refine g_iload fx dX11_total_125 rfl ?_
        exact g_iret fx rfl dX11_total_127 (by decide) (by decide) (gw_le.rf _) ⟨by first | (exfalso; omega) | (rw [nTo]; (repeat first | rw [if_pos (by omega)] | rw [if_neg (by omega)]) <;> rfl), rfl, rfl⟩
      by_cases h76_4 : w = 4
      · refine g_tsw 4 (tgt := 128) fx dX11_total_76 (by omega) (by decide) rfl (by decide) ?_
        refine g_aload_n fx dX11_total_128 rfl ?_
        refine g_getr fx dX11_total_129 fk_RX11_9 o_223 rf_223_0 ?_
        refine g_iconst fx dX11_total_132 (by unfold okI; omega) ?_
        refine g_iald fx dX11_total_133 o_224 (by decide) (by decide) ?_
        rw [show Int.toNat 3 = 3 from rfl]
        refine g_aload_n fx dX11_total_134 rfl ?_
        refine g_getr fx dX11_total_135 fk_RX11_9 o_223 rf_223_0 ?_
        refine g_sipush fx dX11_total_138 (by decide) ?_
        refine g_iald fx dX11_total_141 o_224 (by decide) (by decide) ?_
        rw [show Int.toNat 668 = 668 from rfl]
        refine g_imul fx dX11_total_142 ?_
        exact g_iret fx rfl dX11_total_143 (by decide) (by decide) (gw_le.rf _) ⟨by first | (exfalso; omega) | (rw [nTo]; (repeat first | rw [if_pos (by omega)] | rw [if_neg (by omega)]) <;> rfl), rfl, rfl⟩
      by_cases h76_5 : w = 5
      · refine g_tsw 5 (tgt := 144) fx dX11_total_76 (by omega) (by decide) rfl (by decide) ?_
        refine g_aload_n fx dX11_total_144 rfl ?_
        refine g_geti fx dX11_total_145 fk_RX11_289 (by decide) o_223 ?_
        exact g_iret fx rfl dX11_total_148 (by decide) (by decide) (gw_le.rf _) ⟨by first | (exfalso; omega) | (rw [nTo]; (repeat first | rw [if_pos (by omega)] | rw [if_neg (by omega)]) <;> rfl), rfl, rfl⟩
      refine g_tswO (tgt := 149) fx dX11_total_76 (by omega) (by decide) ?_
      refine g_iconst fx dX11_total_149 (by unfold okI; omega) ?_
      exact g_iret fx rfl dX11_total_150 (by decide) (by decide) (gw_le.rf _) ⟨by first | (exfalso; omega) | (rw [nTo]; (repeat first | rw [if_pos (by omega)] | rw [if_neg (by omega)]) <;> rfl), rfl, rfl⟩
    · refine g_iload_n fx dX11_total_30 rfl ?_
      refine g_aload_n fx dX11_total_31 rfl ?_
      refine g_iload fx dX11_total_32 rfl ?_
      refine g_callVD fx dX11_total_34 mv_RX11_320 my_X11_waitOf (s_X11_waitOf ad _ _ (by omega) (by omega)) o_223 rfl rfl rfl (Nat.le_of_ble_eq_true rfl) (by decide) (by decide) ?_
      refine g_iadd fx dX11_total_37 ?_
      refine g_istore_n fx dX11_total_38 (by decide) rfl rfl ?_
      refine g_iload_n fx dX11_total_39 rfl ?_
      refine g_aload_n fx dX11_total_40 rfl ?_
      refine g_iload fx dX11_total_41 rfl ?_
      refine g_callVD fx dX11_total_43 mv_RX11_335 my_X11_isLate (s_X11_isLate ad _ _ (by omega) (by omega)) o_223 rfl rfl rfl (Nat.le_of_ble_eq_true rfl) (by decide) (by decide) ?_
      refine g_if_eq (tgt := 53) fx dX11_total_46 (by decide) (fun h46 => ?_) (fun h46 => ?_)
      · refine g_iconst fx dX11_total_53 (by unfold okI; omega) ?_
        refine g_iadd fx dX11_total_54 ?_
        refine g_istore_n fx dX11_total_55 (by decide) rfl rfl ?_
        refine g_iload fx dX11_total_56 rfl ?_
        refine g_aload_n fx dX11_total_58 rfl ?_
        refine g_iload fx dX11_total_59 rfl ?_
        refine g_callVD fx dX11_total_61 mv_RX11_317 my_X11_endOf (s_X11_endOf ad _ _ (by omega)) o_223 rfl rfl rfl (Nat.le_of_ble_eq_true rfl) (by decide) (by decide) ?_
        refine g_max fx dX11_total_64 mm_RX11_268 (by decide) (by decide) (by decide) (Nat.le_of_ble_eq_true rfl) ?_
        refine g_istore fx dX11_total_67 (by decide) rfl rfl ?_
        refine g_iinc1 fx dX11_total_69 (by decide) rfl rfl (by unfold okI; omega) rfl ?_
        refine g_goto (tgt := 19) fx dX11_total_72 (by decide) ?_
        exact gw_cg rfl (by rw [itr_s, nToS, show ((k : Nat) : Int) + 1 = ((k + 1 : Nat) : Int) by omega]; (repeat first | rw [if_pos (by omega)] | rw [if_neg (by omega)]) <;> rfl) (ih (by omega))
      · refine g_iconst fx dX11_total_49 (by unfold okI; omega) ?_
        refine g_goto (tgt := 54) fx dX11_total_50 (by decide) ?_
        refine g_iadd fx dX11_total_54 ?_
        refine g_istore_n fx dX11_total_55 (by decide) rfl rfl ?_
        refine g_iload fx dX11_total_56 rfl ?_
        refine g_aload_n fx dX11_total_58 rfl ?_
        refine g_iload fx dX11_total_59 rfl ?_
        refine g_callVD fx dX11_total_61 mv_RX11_317 my_X11_endOf (s_X11_endOf ad _ _ (by omega)) o_223 rfl rfl rfl (Nat.le_of_ble_eq_true rfl) (by decide) (by decide) ?_
        refine g_max fx dX11_total_64 mm_RX11_268 (by decide) (by decide) (by decide) (Nat.le_of_ble_eq_true rfl) ?_
        refine g_istore fx dX11_total_67 (by decide) rfl rfl ?_
        refine g_iinc1 fx dX11_total_69 (by decide) rfl rfl (by unfold okI; omega) rfl ?_
        refine g_goto (tgt := 19) fx dX11_total_72 (by decide) ?_
        exact gw_cg rfl (by rw [itr_s, nToS, show ((k : Nat) : Int) + 1 = ((k + 1 : Nat) : Int) by omega]; (repeat first | rw [if_pos (by omega)] | rw [if_neg (by omega)]) <;> rfl) (ih (by omega))
  exact loop19 0 (Nat.zero_le _)
set_option maxRecDepth 4000 in
theorem s_X11_longest (ad : Nat → Nat) (σ : Sg)  (hT : TW (σ 224)) : gw_Sp yX11_longest cX11_longest 3 (some .int) 7 0 0 [vR (some 223)] (gw_M0 ad) σ (gw_D (some (vI (nLg (nRu (nT0 σ))))) (gw_M0 ad) ((nRu (nT0 σ)))) gw_no := by
  refine gw_Sp.of [some (vR (some 223)), none, none] (by decide +kernel) rfl (Nat.le_of_ble_eq_true rfl) ?_
  intro X G fx het hnm
  have hTr : TW (nRu (nT0 σ) 224) := TW_ru (σ := nT0 σ) hT
  have hS := hTr.sacks
  have hP := hTr.p60
  have hTx := hTr
  refine g_aload_n fx dX11_longest_0 rfl ?_
  refine g_iconst fx dX11_longest_1 (by unfold okI; omega) ?_
  refine g_puti fx dX11_longest_2 fk_RX11_88 o_223 ?_
  refine gw_cg (σ' := nT0 σ) rfl rfl ?_
  refine g_aload_n fx dX11_longest_5 rfl ?_
  refine g_callVD0 fx dX11_longest_6 mv_RX11_323 my_X11_runs (s_X11_runs ad _ (by first | exact hT | exact hTx)) o_223 rfl rfl rfl (Nat.le_of_ble_eq_true rfl) (by decide) (by decide) ?_
  refine g_iconst fx dX11_longest_9 (by unfold okI; omega) ?_
  refine g_istore_n fx dX11_longest_10 (by decide) rfl rfl ?_
  refine g_iconst fx dX11_longest_11 (by unfold okI; omega) ?_
  refine g_istore_n fx dX11_longest_12 (by decide) rfl rfl ?_
  have loop13 : ∀ k : Nat, k ≤ (nRu (nT0 σ) 224 4).toNat → gw_W X (yX11_longest.cls, cX11_longest, 3, (some .int), 7, 0, 0) G (gw_Z X G (gw_M0 ad) σ (gw_D (some (vI (nLg (nRu (nT0 σ))))) (gw_M0 ad) ((nRu (nT0 σ)))) gw_no 0 0) 0 0 (gw_M0 ad) ((nRu (nT0 σ))) 13 [some (vR (some 223)), some (vI (itr k (nLgS (nRu (nT0 σ))) (-1))), some (vI (k : Nat))] [] := by
    refine up_ind _ ((nRu (nT0 σ) 224 4).toNat) (fun k hk ih => ?_)
    have hl := nLg_rg (nRu (nT0 σ)) k
    refine g_iload_n fx dX11_longest_13 rfl ?_
    refine g_aload_n fx dX11_longest_14 rfl ?_
    refine g_getr fx dX11_longest_15 fk_RX11_9 o_223 rf_223_0 ?_
    refine g_iconst fx dX11_longest_18 (by unfold okI; omega) ?_
    refine g_iald fx dX11_longest_19 o_224 (by decide) (by decide) ?_
    rw [show Int.toNat 4 = 4 from rfl]
    refine g_icmp_ge (tgt := 49) fx dX11_longest_20 (by decide) (fun h20 => ?_) (fun h20 => ?_)
    · refine g_iload_n fx dX11_longest_49 rfl ?_
      exact g_iret fx rfl dX11_longest_50 (by decide) (by decide) (gw_le.rf _) ⟨by rw [nLg, show (nRu (nT0 σ) 224 4).toNat = k by omega], rfl, rfl⟩
    · refine g_iload_n fx dX11_longest_23 rfl ?_
      refine g_iconst fx dX11_longest_24 (by unfold okI; omega) ?_
      refine g_icmp_eq (tgt := 41) fx dX11_longest_25 (by decide) (fun h25 => ?_) (fun h25 => ?_)
      · refine g_iload_n fx dX11_longest_41 rfl ?_
        refine g_istore_n fx dX11_longest_42 (by decide) rfl rfl ?_
        refine g_iinc1 fx dX11_longest_43 (by decide) rfl rfl (by unfold okI; omega) rfl ?_
        refine g_goto (tgt := 13) fx dX11_longest_46 (by decide) ?_
        exact gw_cg rfl (by rw [itr_s, nLgS, show ((k : Nat) : Int) + 1 = ((k + 1 : Nat) : Int) by omega]; (repeat first | rw [if_pos (by omega)] | rw [if_neg (by omega)]) <;> rfl) (ih (by omega))
      · refine g_aload_n fx dX11_longest_28 rfl ?_
        refine g_iload_n fx dX11_longest_29 rfl ?_
        refine g_callVD fx dX11_longest_30 mv_RX11_320 my_X11_waitOf (s_X11_waitOf ad _ _ (by omega) (by omega)) o_223 rfl rfl rfl (Nat.le_of_ble_eq_true rfl) (by decide) (by decide) ?_
        refine g_aload_n fx dX11_longest_33 rfl ?_
        refine g_iload_n fx dX11_longest_34 rfl ?_
        refine g_callVD fx dX11_longest_35 mv_RX11_320 my_X11_waitOf (s_X11_waitOf ad _ _ (by omega) (by omega)) o_223 rfl rfl rfl (Nat.le_of_ble_eq_true rfl) (by decide) (by decide) ?_
        refine g_icmp_le (tgt := 43) fx dX11_longest_38 (by decide) (fun h38 => ?_) (fun h38 => ?_)
        · refine g_iinc1 fx dX11_longest_43 (by decide) rfl rfl (by unfold okI; omega) rfl ?_
          refine g_goto (tgt := 13) fx dX11_longest_46 (by decide) ?_
          exact gw_cg rfl (by rw [itr_s, nLgS, show ((k : Nat) : Int) + 1 = ((k + 1 : Nat) : Int) by omega]; (repeat first | rw [if_pos (by omega)] | rw [if_neg (by omega)]) <;> rfl) (ih (by omega))
        · refine g_iload_n fx dX11_longest_41 rfl ?_
          refine g_istore_n fx dX11_longest_42 (by decide) rfl rfl ?_
          refine g_iinc1 fx dX11_longest_43 (by decide) rfl rfl (by unfold okI; omega) rfl ?_
          refine g_goto (tgt := 13) fx dX11_longest_46 (by decide) ?_
          exact gw_cg rfl (by rw [itr_s, nLgS, show ((k : Nat) : Int) + 1 = ((k + 1 : Nat) : Int) by omega]; (repeat first | rw [if_pos (by omega)] | rw [if_neg (by omega)]) <;> rfl) (ih (by omega))
  exact loop13 0 (Nat.zero_le _)
set_option maxRecDepth 4000 in
theorem s_X11_ahead (ad : Nat → Nat) (σ : Sg)  (p : Int) (q : Int) (hT : TW (σ 224)) : gw_Sp yX11_ahead cX11_ahead 5 (some .int) 4 0 0 [vR (some 223), vI p, vI q] (gw_M0 ad) σ (gw_D (some (vI (nAh σ p q).1)) (gw_M0 ad) ((nAh σ p q).2)) gw_no := by
  refine gw_Sp.of [some (vR (some 223)), some (vI p), some (vI q), none, none] (by decide +kernel) rfl (Nat.le_of_ble_eq_true rfl) ?_
  intro X G fx het hnm
  have hK := hT.keys
  refine g_aload_n fx dX11_ahead_0 rfl ?_
  refine g_iconst fx dX11_ahead_1 (by unfold okI; omega) ?_
  refine g_puti fx dX11_ahead_2 fk_RX11_88 o_223 ?_
  refine gw_cg (σ' := nT0 σ) rfl rfl ?_
  refine g_aload_n fx dX11_ahead_5 rfl ?_
  refine g_iload_n fx dX11_ahead_6 rfl ?_
  refine g_i2l fx dX11_ahead_7 ?_
  refine g_callVD fx dX11_ahead_8 mv_RX11_329 my_X11_isPiece (s_X11_isPiece ad _ _) o_223 rfl rfl rfl (Nat.le_of_ble_eq_true rfl) (by decide) (by decide) ?_
  refine g_if_eq (tgt := 23) fx dX11_ahead_11 (by decide) (fun h11 => ?_) (fun h11 => ?_)
  · refine g_aload_n fx dX11_ahead_23 rfl ?_
    refine g_iconst fx dX11_ahead_24 (by unfold okI; omega) ?_
    refine g_callVD fx dX11_ahead_25 mv_RX11_191 my_X11_fails (s_X11_fails ad _ _) o_223 rfl rfl rfl (Nat.le_of_ble_eq_true rfl) (by decide) (by decide) ?_
    exact g_iret fx rfl dX11_ahead_28 (by decide) (by decide) (gw_le.rf _) ⟨by first | (exfalso; omega) | (rw [nAh]; (repeat first | rw [if_pos (by omega)] | rw [if_neg (by omega)]) <;> rfl), rfl, by first | (exfalso; omega) | (rw [nAh]; (repeat first | rw [if_pos (by omega)] | rw [if_neg (by omega)]) <;> rfl)⟩
  · refine g_aload_n fx dX11_ahead_14 rfl ?_
    refine g_iload_n fx dX11_ahead_15 rfl ?_
    refine g_i2l fx dX11_ahead_16 ?_
    refine g_callVD fx dX11_ahead_17 mv_RX11_329 my_X11_isPiece (s_X11_isPiece ad _ _) o_223 rfl rfl rfl (Nat.le_of_ble_eq_true rfl) (by decide) (by decide) ?_
    refine g_if_ne (tgt := 29) fx dX11_ahead_20 (by decide) (fun h20 => ?_) (fun h20 => ?_)
    · have hi := (isP_1 (σ := nT0 σ) hT (p := p)).mp h11
      have hi2 := (isP_1 (σ := nT0 σ) hT (p := q)).mp h20
      rw [← nFg_224 (nT0 σ)] at hi hi2
      refine g_aload_n fx dX11_ahead_29 rfl ?_
      refine g_callVD0 fx dX11_ahead_30 mv_RX11_302 my_X11_forgets (s_X11_forgets ad _ (by first | exact hT | exact hTx)) o_223 rfl rfl rfl (Nat.le_of_ble_eq_true rfl) (by decide) (by decide) ?_
      have hR := (nFg_RI (σ := nT0 σ) hT).1.1
      have hK := hR.1.keys
      refine g_iconst fx dX11_ahead_33 (by unfold okI; omega) ?_
      refine g_istore_n fx dX11_ahead_34 (by decide) rfl rfl ?_
      have loop35 : ∀ i : Nat, i ≤ ((nFg (nT0 σ)) 224 8).toNat → nAhV (nFg (nT0 σ)) p q = ldR (nKf (nFg (nT0 σ)) p q (-1)) (((nFg (nT0 σ)) 224 8).toNat - i) i → gw_W X (yX11_ahead.cls, cX11_ahead, 5, (some .int), 4, 0, 0) G (gw_Z X G (gw_M0 ad) σ (gw_D (some (vI (nAh σ p q).1)) (gw_M0 ad) ((nAh σ p q).2)) gw_no 0 0) 0 0 (gw_M0 ad) ((nFg (nT0 σ))) 35 [some (vR (some 223)), some (vI p), some (vI q), some (vI (i : Nat)), none] [] := by
        refine up_ind _ _ (fun i hi9 ih => ?_)
        intro he
        refine g_iload_n fx dX11_ahead_35 rfl ?_
        refine g_aload_n fx dX11_ahead_36 rfl ?_
        refine g_getr fx dX11_ahead_37 fk_RX11_9 o_223 rf_223_0 ?_
        refine g_bipush fx dX11_ahead_40 (by decide) ?_
        refine g_iald fx dX11_ahead_42 o_224 (by decide) (by decide) ?_
        rw [show Int.toNat 8 = 8 from rfl]
        refine g_icmp_ge (tgt := 91) fx dX11_ahead_43 (by decide) (fun h43 => ?_) (fun h43 => ?_)
        · refine g_iconst fx dX11_ahead_91 (by unfold okI; omega) ?_
          exact g_iret fx rfl dX11_ahead_92 (by decide) (by decide) (gw_le.rf _) ⟨by rw [nAh, if_neg (by omega), he, show ((nFg (nT0 σ)) 224 8).toNat - i = 0 by omega, ldR], rfl, by rw [nAh, if_neg (by omega)]⟩
        · refine g_aload_n fx dX11_ahead_46 rfl ?_
          refine g_aload_n fx dX11_ahead_47 rfl ?_
          refine g_getr fx dX11_ahead_48 fk_RX11_9 o_223 rf_223_0 ?_
          refine g_bipush fx dX11_ahead_51 (by decide) ?_
          refine g_iload_n fx dX11_ahead_53 rfl ?_
          refine g_iadd fx dX11_ahead_54 ?_
          refine gw_cgt rfl (show wr (9 + ((i : Nat) : Int)) = ((9 + i : Nat) : Int) by rw [wr_id (by unfold okI; omega)]; omega) ?_
          refine g_iald fx dX11_ahead_55 o_224 (by omega) (by show _ < ((672 : Nat) : Int); omega) ?_
          rw [show ((9 + i : Nat) : Int).toNat = 9 + i from rfl]
          refine g_iload_n fx dX11_ahead_56 rfl ?_
          refine g_iload_n fx dX11_ahead_57 rfl ?_
          refine g_iconst fx dX11_ahead_58 (by unfold okI; omega) ?_
          refine g_callVD fx dX11_ahead_59 mv_RX11_282 my_X11_byKey (s_X11_byKey ad _ _ _ _ _ hR (by omega) (by omega)) o_223 rfl rfl rfl (Nat.le_of_ble_eq_true rfl) (by decide) (by decide) ?_
          refine g_istore fx dX11_ahead_62 (by decide) rfl rfl ?_
          refine g_iload fx dX11_ahead_64 rfl ?_
          refine g_if_eq (tgt := 85) fx dX11_ahead_66 (by decide) (fun h66 => ?_) (fun h66 => ?_)
          · refine g_iinc1 fx dX11_ahead_85 (by decide) rfl rfl (by unfold okI; omega) rfl ?_
            refine g_goto (tgt := 35) fx dX11_ahead_88 (by decide) ?_
            refine g_kill 4 rfl ?_
            exact gw_cg rfl (by rw [show ((i : Nat) : Int) + 1 = ((i + 1 : Nat) : Int) by omega] <;> rfl) (ih (by omega) (by rw [he, show ((nFg (nT0 σ)) 224 8).toNat - i = ((nFg (nT0 σ)) 224 8).toNat - (i + 1) + 1 by omega, ldR, if_neg (by show ¬ (nBk (nFg (nT0 σ)) ((nFg (nT0 σ)) 224 (9 + i)) p q (-1) ≠ 0); omega)]))
          · refine g_iload fx dX11_ahead_69 rfl ?_
            refine g_if_le (tgt := 80) fx dX11_ahead_71 (by decide) (fun h71 => ?_) (fun h71 => ?_)
            · refine g_iload_n fx dX11_ahead_80 rfl ?_
              refine g_ineg fx dX11_ahead_81 ?_
              refine g_iconst fx dX11_ahead_82 (by unfold okI; omega) ?_
              refine g_isub fx dX11_ahead_83 ?_
              exact g_iret fx rfl dX11_ahead_84 (by decide) (by decide) (gw_le.rf _) ⟨by rw [nAh, if_neg (by omega), he, show ((nFg (nT0 σ)) 224 8).toNat - i = ((nFg (nT0 σ)) 224 8).toNat - (i + 1) + 1 by omega, ldR, if_pos (by show nBk (nFg (nT0 σ)) ((nFg (nT0 σ)) 224 (9 + i)) p q (-1) ≠ 0; omega), show nKf (nFg (nT0 σ)) p q (-1) i = nBk (nFg (nT0 σ)) ((nFg (nT0 σ)) 224 (9 + i)) p q (-1) from rfl]; (repeat first | rw [if_pos (by omega)] | rw [if_neg (by omega)]) <;> rfl, rfl, by rw [nAh, if_neg (by omega)]⟩
            · refine g_iload_n fx dX11_ahead_74 rfl ?_
              refine g_iconst fx dX11_ahead_75 (by unfold okI; omega) ?_
              refine g_iadd fx dX11_ahead_76 ?_
              refine g_goto (tgt := 84) fx dX11_ahead_77 (by decide) ?_
              exact g_iret fx rfl dX11_ahead_84 (by decide) (by decide) (gw_le.rf _) ⟨by rw [nAh, if_neg (by omega), he, show ((nFg (nT0 σ)) 224 8).toNat - i = ((nFg (nT0 σ)) 224 8).toNat - (i + 1) + 1 by omega, ldR, if_pos (by show nBk (nFg (nT0 σ)) ((nFg (nT0 σ)) 224 (9 + i)) p q (-1) ≠ 0; omega), show nKf (nFg (nT0 σ)) p q (-1) i = nBk (nFg (nT0 σ)) ((nFg (nT0 σ)) 224 (9 + i)) p q (-1) from rfl]; (repeat first | rw [if_pos (by omega)] | rw [if_neg (by omega)]) <;> rfl, rfl, by rw [nAh, if_neg (by omega)]⟩
      exact loop35 0 (Nat.zero_le _) rfl
    · refine g_aload_n fx dX11_ahead_23 rfl ?_
      refine g_iconst fx dX11_ahead_24 (by unfold okI; omega) ?_
      refine g_callVD fx dX11_ahead_25 mv_RX11_191 my_X11_fails (s_X11_fails ad _ _) o_223 rfl rfl rfl (Nat.le_of_ble_eq_true rfl) (by decide) (by decide) ?_
      exact g_iret fx rfl dX11_ahead_28 (by decide) (by decide) (gw_le.rf _) ⟨by first | (exfalso; omega) | (rw [nAh]; (repeat first | rw [if_pos (by omega)] | rw [if_neg (by omega)]) <;> rfl), rfl, by first | (exfalso; omega) | (rw [nAh]; (repeat first | rw [if_pos (by omega)] | rw [if_neg (by omega)]) <;> rfl)⟩
