theorem dX11_unlike_0 : gw_dc cX11_unlike 0 (.iconst 0) 1 1 := ⟨by decide +kernel, rfl⟩
theorem dX11_unlike_1 : gw_dc cX11_unlike 1 (.istore_n 2) 1 2 := ⟨by decide +kernel, rfl⟩
theorem dX11_unlike_2 : gw_dc cX11_unlike 2 (.iload_n 2) 1 3 := ⟨by decide +kernel, rfl⟩
theorem dX11_unlike_3 : gw_dc cX11_unlike 3 (.aload_n 0) 1 4 := ⟨by decide +kernel, rfl⟩
theorem dX11_unlike_4 : gw_dc cX11_unlike 4 (.getfield 81) 3 7 := ⟨by decide +kernel, rfl⟩
theorem fk_RX11_81 : gw_fk RX11 81 11 40 42 1 true := ⟨_, _, _, ck_11, by decide, by decide, fun h => absurd h (by decide), fun h => absurd h (by decide), fun _ => Or.inr ⟨_, rfl⟩, rfl, Or.inl (gw_mem 1461 (by decide +kernel) rfl)⟩
theorem rf_223_40 {ad : Nat → Nat} : (gw_M0 ad).2.2 223 40 = some 246 := (by decide +kernel : gw_rh 223 40 = some 246)
theorem dX11_unlike_7 : gw_dc cX11_unlike 7 (.iload_n 1) 1 8 := ⟨by decide +kernel, rfl⟩
theorem dX11_unlike_8 : gw_dc cX11_unlike 8 (.iaload) 1 9 := ⟨by decide +kernel, rfl⟩
theorem o_246 {ad : Nat → Nat} : isO (gw_M0 ad) 246 21 4 := (by decide +kernel : 246 < gw_N0 ∧ gw_sh 246 = (21, 4))
theorem dX11_unlike_9 : gw_dc cX11_unlike 9 (.if_icmp .ge 43) 3 12 := ⟨by decide +kernel, rfl⟩
theorem dX11_unlike_52 : gw_dc cX11_unlike 52 (.iload_n 2) 1 53 := ⟨by decide +kernel, rfl⟩
theorem dX11_unlike_53 : gw_dc cX11_unlike 53 (.aload_n 0) 1 54 := ⟨by decide +kernel, rfl⟩
theorem dX11_unlike_54 : gw_dc cX11_unlike 54 (.getfield 81) 3 57 := ⟨by decide +kernel, rfl⟩
theorem dX11_unlike_57 : gw_dc cX11_unlike 57 (.iload_n 1) 1 58 := ⟨by decide +kernel, rfl⟩
theorem dX11_unlike_58 : gw_dc cX11_unlike 58 (.iaload) 1 59 := ⟨by decide +kernel, rfl⟩
theorem dX11_unlike_59 : gw_dc cX11_unlike 59 (.if_icmp .ne 19) 3 62 := ⟨by decide +kernel, rfl⟩
theorem dX11_unlike_78 : gw_dc cX11_unlike 78 (.iload_n 2) 1 79 := ⟨by decide +kernel, rfl⟩
theorem dX11_unlike_79 : decode cX11_unlike 79 = .ok (.ireturn, 1) := by decide +kernel
theorem dX11_unlike_62 : gw_dc cX11_unlike 62 (.iload_n 2) 1 63 := ⟨by decide +kernel, rfl⟩
theorem dX11_unlike_63 : gw_dc cX11_unlike 63 (.aload_n 0) 1 64 := ⟨by decide +kernel, rfl⟩
theorem dX11_unlike_64 : gw_dc cX11_unlike 64 (.getfield 9) 3 67 := ⟨by decide +kernel, rfl⟩
theorem dX11_unlike_67 : gw_dc cX11_unlike 67 (.sipush 668) 3 70 := ⟨by decide +kernel, rfl⟩
theorem dX11_unlike_70 : gw_dc cX11_unlike 70 (.iaload) 1 71 := ⟨by decide +kernel, rfl⟩
theorem dX11_unlike_71 : gw_dc cX11_unlike 71 (.if_icmp .ne 7) 3 74 := ⟨by decide +kernel, rfl⟩
theorem dX11_unlike_74 : gw_dc cX11_unlike 74 (.iconst (-1)) 1 75 := ⟨by decide +kernel, rfl⟩
theorem dX11_unlike_75 : gw_dc cX11_unlike 75 (.goto 4) 3 78 := ⟨by decide +kernel, rfl⟩
theorem dX11_unlike_12 : gw_dc cX11_unlike 12 (.iload_n 2) 1 13 := ⟨by decide +kernel, rfl⟩
theorem dX11_unlike_13 : gw_dc cX11_unlike 13 (.aload_n 0) 1 14 := ⟨by decide +kernel, rfl⟩
theorem dX11_unlike_14 : gw_dc cX11_unlike 14 (.getfield 9) 3 17 := ⟨by decide +kernel, rfl⟩
theorem dX11_unlike_17 : gw_dc cX11_unlike 17 (.sipush 668) 3 20 := ⟨by decide +kernel, rfl⟩
theorem dX11_unlike_20 : gw_dc cX11_unlike 20 (.iaload) 1 21 := ⟨by decide +kernel, rfl⟩
theorem dX11_unlike_21 : gw_dc cX11_unlike 21 (.if_icmp .ge 31) 3 24 := ⟨by decide +kernel, rfl⟩
theorem dX11_unlike_24 : gw_dc cX11_unlike 24 (.aload_n 0) 1 25 := ⟨by decide +kernel, rfl⟩
theorem dX11_unlike_25 : gw_dc cX11_unlike 25 (.getfield 84) 3 28 := ⟨by decide +kernel, rfl⟩
theorem fk_RX11_84 : gw_fk RX11 84 11 41 42 1 true := ⟨_, _, _, ck_11, by decide, by decide, fun h => absurd h (by decide), fun h => absurd h (by decide), fun _ => Or.inr ⟨_, rfl⟩, rfl, Or.inl (gw_mem 1462 (by decide +kernel) rfl)⟩
theorem rf_223_41 {ad : Nat → Nat} : (gw_M0 ad).2.2 223 41 = some 247 := (by decide +kernel : gw_rh 223 41 = some 247)
theorem dX11_unlike_28 : gw_dc cX11_unlike 28 (.bipush 60) 2 30 := ⟨by decide +kernel, rfl⟩
theorem dX11_unlike_30 : gw_dc cX11_unlike 30 (.iload_n 1) 1 31 := ⟨by decide +kernel, rfl⟩
theorem dX11_unlike_31 : gw_dc cX11_unlike 31 (.imul) 1 32 := ⟨by decide +kernel, rfl⟩
theorem dX11_unlike_32 : gw_dc cX11_unlike 32 (.iload_n 2) 1 33 := ⟨by decide +kernel, rfl⟩
theorem dX11_unlike_33 : gw_dc cX11_unlike 33 (.iadd) 1 34 := ⟨by decide +kernel, rfl⟩
theorem dX11_unlike_34 : gw_dc cX11_unlike 34 (.laload) 1 35 := ⟨by decide +kernel, rfl⟩
theorem o_247 {ad : Nat → Nat} : isO (gw_M0 ad) 247 22 240 := (by decide +kernel : 247 < gw_N0 ∧ gw_sh 247 = (22, 240))
theorem dX11_unlike_35 : gw_dc cX11_unlike 35 (.aload_n 0) 1 36 := ⟨by decide +kernel, rfl⟩
theorem dX11_unlike_36 : gw_dc cX11_unlike 36 (.getfield 48) 3 39 := ⟨by decide +kernel, rfl⟩
theorem dX11_unlike_39 : gw_dc cX11_unlike 39 (.iload_n 2) 1 40 := ⟨by decide +kernel, rfl⟩
theorem dX11_unlike_40 : gw_dc cX11_unlike 40 (.iaload) 1 41 := ⟨by decide +kernel, rfl⟩
theorem dX11_unlike_41 : gw_dc cX11_unlike 41 (.i2l) 1 42 := ⟨by decide +kernel, rfl⟩
theorem dX11_unlike_42 : gw_dc cX11_unlike 42 (.lcmp) 1 43 := ⟨by decide +kernel, rfl⟩
theorem dX11_unlike_43 : gw_dc cX11_unlike 43 (.ifCond .ne 9) 3 46 := ⟨by decide +kernel, rfl⟩
theorem dX11_unlike_46 : gw_dc cX11_unlike 46 (.iinc 2 1) 3 49 := ⟨by decide +kernel, rfl⟩
theorem dX11_unlike_49 : gw_dc cX11_unlike 49 (.goto (-47)) 3 52 := ⟨by decide +kernel, rfl⟩
theorem dX11_judge_31 : gw_dc cX11_judge 31 (.aload_n 0) 1 32 := ⟨by decide +kernel, rfl⟩
theorem dX11_judge_32 : gw_dc cX11_judge 32 (.getfield 88) 3 35 := ⟨by decide +kernel, rfl⟩
theorem dX11_judge_35 : gw_dc cX11_judge 35 (.ifCond .le 5) 3 38 := ⟨by decide +kernel, rfl⟩
theorem dX11_judge_40 : gw_dc cX11_judge 40 (.aload_n 0) 1 41 := ⟨by decide +kernel, rfl⟩
theorem dX11_judge_41 : gw_dc cX11_judge 41 (.invokevirtual 323) 3 44 := ⟨by decide +kernel, rfl⟩
theorem dX11_judge_44 : gw_dc cX11_judge 44 (.aload_n 0) 1 45 := ⟨by decide +kernel, rfl⟩
theorem dX11_judge_45 : gw_dc cX11_judge 45 (.iload_n 1) 1 46 := ⟨by decide +kernel, rfl⟩
theorem dX11_judge_46 : gw_dc cX11_judge 46 (.invokevirtual 343) 3 49 := ⟨by decide +kernel, rfl⟩
theorem mv_RX11_343 : gw_mv RX11 343 yX11_unlike := ⟨gw_mem 1831 (by decide +kernel) rfl, gw_mem 1833 (by decide +kernel) rfl, gw_mem 79 (by decide +kernel) rfl⟩
theorem my_X11_unlike : gw_my yX11_unlike cX11_unlike 3 (some .int) 1 := ⟨gw_mem 1834 (by decide +kernel) rfl, gw_mem 106 (by decide +kernel) rfl, by decide +kernel, by decide⟩
theorem dX11_judge_49 : gw_dc cX11_judge 49 (.istore_n 3) 1 50 := ⟨by decide +kernel, rfl⟩
theorem dX11_judge_50 : gw_dc cX11_judge 50 (.iload_n 2) 1 51 := ⟨by decide +kernel, rfl⟩
theorem dX11_judge_51 : gw_dc cX11_judge 51 (.ifCond .eq 8) 3 54 := ⟨by decide +kernel, rfl⟩
theorem dX11_judge_59 : gw_dc cX11_judge 59 (.iload_n 3) 1 60 := ⟨by decide +kernel, rfl⟩
theorem dX11_judge_60 : gw_dc cX11_judge 60 (.goto 25) 3 63 := ⟨by decide +kernel, rfl⟩
theorem dX11_judge_85 : decode cX11_judge 85 = .ok (.ireturn, 1) := by decide +kernel
theorem dX11_judge_54 : gw_dc cX11_judge 54 (.iload_n 3) 1 55 := ⟨by decide +kernel, rfl⟩
theorem dX11_judge_55 : gw_dc cX11_judge 55 (.iconst (-1)) 1 56 := ⟨by decide +kernel, rfl⟩
theorem dX11_judge_56 : gw_dc cX11_judge 56 (.if_icmp .ne 7) 3 59 := ⟨by decide +kernel, rfl⟩
theorem dX11_judge_63 : gw_dc cX11_judge 63 (.iload_n 3) 1 64 := ⟨by decide +kernel, rfl⟩
theorem dX11_judge_64 : gw_dc cX11_judge 64 (.aload_n 0) 1 65 := ⟨by decide +kernel, rfl⟩
theorem dX11_judge_65 : gw_dc cX11_judge 65 (.getfield 9) 3 68 := ⟨by decide +kernel, rfl⟩
theorem dX11_judge_68 : gw_dc cX11_judge 68 (.sipush 668) 3 71 := ⟨by decide +kernel, rfl⟩
theorem dX11_judge_71 : gw_dc cX11_judge 71 (.iaload) 1 72 := ⟨by decide +kernel, rfl⟩
theorem dX11_judge_72 : gw_dc cX11_judge 72 (.if_icmp .ge 12) 3 75 := ⟨by decide +kernel, rfl⟩
theorem dX11_judge_84 : gw_dc cX11_judge 84 (.iconst (-1)) 1 85 := ⟨by decide +kernel, rfl⟩
theorem dX11_judge_75 : gw_dc cX11_judge 75 (.aload_n 0) 1 76 := ⟨by decide +kernel, rfl⟩
theorem dX11_judge_76 : gw_dc cX11_judge 76 (.getfield 48) 3 79 := ⟨by decide +kernel, rfl⟩
theorem dX11_judge_79 : gw_dc cX11_judge 79 (.iload_n 3) 1 80 := ⟨by decide +kernel, rfl⟩
theorem dX11_judge_80 : gw_dc cX11_judge 80 (.iaload) 1 81 := ⟨by decide +kernel, rfl⟩
theorem dX11_judge_81 : gw_dc cX11_judge 81 (.goto 4) 3 84 := ⟨by decide +kernel, rfl⟩
theorem dX11_judge_38 : gw_dc cX11_judge 38 (.iconst 0) 1 39 := ⟨by decide +kernel, rfl⟩
theorem dX11_judge_39 : decode cX11_judge 39 = .ok (.ireturn, 1) := by decide +kernel
theorem dX11_judge_0 : gw_dc cX11_judge 0 (.aload_n 0) 1 1 := ⟨by decide +kernel, rfl⟩
theorem dX11_judge_1 : gw_dc cX11_judge 1 (.aload_n 0) 1 2 := ⟨by decide +kernel, rfl⟩
theorem dX11_judge_2 : gw_dc cX11_judge 2 (.iload_n 1) 1 3 := ⟨by decide +kernel, rfl⟩
theorem dX11_judge_3 : gw_dc cX11_judge 3 (.invokevirtual 340) 3 6 := ⟨by decide +kernel, rfl⟩
theorem mv_RX11_340 : gw_mv RX11 340 yX11_trayFault := ⟨gw_mem 1827 (by decide +kernel) rfl, gw_mem 1829 (by decide +kernel) rfl, gw_mem 78 (by decide +kernel) rfl⟩
theorem my_X11_trayFault : gw_my yX11_trayFault cX11_trayFault 2 (some .int) 1 := ⟨gw_mem 1830 (by decide +kernel) rfl, gw_mem 106 (by decide +kernel) rfl, by decide +kernel, by decide⟩
theorem dX11_judge_6 : gw_dc cX11_judge 6 (.putfield 88) 3 9 := ⟨by decide +kernel, rfl⟩
theorem dX11_judge_9 : gw_dc cX11_judge 9 (.aload_n 0) 1 10 := ⟨by decide +kernel, rfl⟩
theorem dX11_judge_10 : gw_dc cX11_judge 10 (.getfield 88) 3 13 := ⟨by decide +kernel, rfl⟩
theorem dX11_judge_13 : gw_dc cX11_judge 13 (.ifCond .ne 18) 3 16 := ⟨by decide +kernel, rfl⟩
theorem dX11_judge_16 : gw_dc cX11_judge 16 (.iload_n 2) 1 17 := ⟨by decide +kernel, rfl⟩
theorem dX11_judge_17 : gw_dc cX11_judge 17 (.i2l) 1 18 := ⟨by decide +kernel, rfl⟩
theorem dX11_judge_18 : gw_dc cX11_judge 18 (.lconst 0) 1 19 := ⟨by decide +kernel, rfl⟩
theorem dX11_judge_19 : gw_dc cX11_judge 19 (.lconst 1) 1 20 := ⟨by decide +kernel, rfl⟩
theorem dX11_judge_20 : gw_dc cX11_judge 20 (.invokestatic 147) 3 23 := ⟨by decide +kernel, rfl⟩
theorem dX11_judge_23 : gw_dc cX11_judge 23 (.ifCond .ne 8) 3 26 := ⟨by decide +kernel, rfl⟩
theorem dX11_judge_26 : gw_dc cX11_judge 26 (.aload_n 0) 1 27 := ⟨by decide +kernel, rfl⟩
theorem dX11_judge_27 : gw_dc cX11_judge 27 (.iconst 3) 1 28 := ⟨by decide +kernel, rfl⟩
theorem dX11_judge_28 : gw_dc cX11_judge 28 (.putfield 88) 3 31 := ⟨by decide +kernel, rfl⟩
theorem dX11_isOrder_22 : gw_dc cX11_isOrder 22 (.istore_n 2) 1 23 := ⟨by decide +kernel, rfl⟩
theorem dX11_isOrder_23 : gw_dc cX11_isOrder 23 (.iconst 0) 1 24 := ⟨by decide +kernel, rfl⟩
theorem dX11_isOrder_24 : gw_dc cX11_isOrder 24 (.istore_n 3) 1 25 := ⟨by decide +kernel, rfl⟩
theorem dX11_isOrder_25 : gw_dc cX11_isOrder 25 (.iload_n 3) 1 26 := ⟨by decide +kernel, rfl⟩
theorem dX11_isOrder_26 : gw_dc cX11_isOrder 26 (.aload_n 0) 1 27 := ⟨by decide +kernel, rfl⟩
theorem dX11_isOrder_27 : gw_dc cX11_isOrder 27 (.getfield 81) 3 30 := ⟨by decide +kernel, rfl⟩
theorem dX11_isOrder_30 : gw_dc cX11_isOrder 30 (.iload_n 1) 1 31 := ⟨by decide +kernel, rfl⟩
theorem dX11_isOrder_31 : gw_dc cX11_isOrder 31 (.iaload) 1 32 := ⟨by decide +kernel, rfl⟩
theorem dX11_isOrder_32 : gw_dc cX11_isOrder 32 (.if_icmp .ge 88) 3 35 := ⟨by decide +kernel, rfl⟩
theorem dX11_isOrder_120 : gw_dc cX11_isOrder 120 (.iload_n 2) 1 121 := ⟨by decide +kernel, rfl⟩
theorem dX11_isOrder_121 : decode cX11_isOrder 121 = .ok (.ireturn, 1) := by decide +kernel
theorem dX11_isOrder_35 : gw_dc cX11_isOrder 35 (.iload_n 2) 1 36 := ⟨by decide +kernel, rfl⟩
theorem dX11_isOrder_36 : gw_dc cX11_isOrder 36 (.ifCond .eq 84) 3 39 := ⟨by decide +kernel, rfl⟩
theorem dX11_isOrder_39 : gw_dc cX11_isOrder 39 (.aload_n 0) 1 40 := ⟨by decide +kernel, rfl⟩
theorem dX11_isOrder_40 : gw_dc cX11_isOrder 40 (.aload_n 0) 1 41 := ⟨by decide +kernel, rfl⟩
theorem dX11_isOrder_41 : gw_dc cX11_isOrder 41 (.getfield 84) 3 44 := ⟨by decide +kernel, rfl⟩
theorem dX11_isOrder_44 : gw_dc cX11_isOrder 44 (.bipush 60) 2 46 := ⟨by decide +kernel, rfl⟩
theorem dX11_isOrder_46 : gw_dc cX11_isOrder 46 (.iload_n 1) 1 47 := ⟨by decide +kernel, rfl⟩
theorem dX11_isOrder_47 : gw_dc cX11_isOrder 47 (.imul) 1 48 := ⟨by decide +kernel, rfl⟩
theorem dX11_isOrder_48 : gw_dc cX11_isOrder 48 (.iload_n 3) 1 49 := ⟨by decide +kernel, rfl⟩
theorem dX11_isOrder_49 : gw_dc cX11_isOrder 49 (.iadd) 1 50 := ⟨by decide +kernel, rfl⟩
theorem dX11_isOrder_50 : gw_dc cX11_isOrder 50 (.laload) 1 51 := ⟨by decide +kernel, rfl⟩
theorem dX11_isOrder_51 : gw_dc cX11_isOrder 51 (.invokevirtual 329) 3 54 := ⟨by decide +kernel, rfl⟩
theorem dX11_isOrder_54 : gw_dc cX11_isOrder 54 (.istore_n 2) 1 55 := ⟨by decide +kernel, rfl⟩
theorem dX11_isOrder_55 : gw_dc cX11_isOrder 55 (.aload_n 0) 1 56 := ⟨by decide +kernel, rfl⟩
theorem dX11_isOrder_56 : gw_dc cX11_isOrder 56 (.getfield 63) 3 59 := ⟨by decide +kernel, rfl⟩
theorem fk_RX11_63 : gw_fk RX11 63 11 29 42 1 true := ⟨_, _, _, ck_11, by decide, by decide, fun h => absurd h (by decide), fun h => absurd h (by decide), fun _ => Or.inr ⟨_, rfl⟩, rfl, Or.inl (gw_mem 1450 (by decide +kernel) rfl)⟩
theorem rf_223_29 {ad : Nat → Nat} : (gw_M0 ad).2.2 223 29 = some 240 := (by decide +kernel : gw_rh 223 29 = some 240)
theorem dX11_isOrder_59 : gw_dc cX11_isOrder 59 (.iload_n 3) 1 60 := ⟨by decide +kernel, rfl⟩
theorem dX11_isOrder_60 : gw_dc cX11_isOrder 60 (.aload_n 0) 1 61 := ⟨by decide +kernel, rfl⟩
theorem dX11_isOrder_61 : gw_dc cX11_isOrder 61 (.getfield 84) 3 64 := ⟨by decide +kernel, rfl⟩
theorem dX11_isOrder_64 : gw_dc cX11_isOrder 64 (.bipush 60) 2 66 := ⟨by decide +kernel, rfl⟩
theorem dX11_isOrder_66 : gw_dc cX11_isOrder 66 (.iload_n 1) 1 67 := ⟨by decide +kernel, rfl⟩
theorem dX11_isOrder_67 : gw_dc cX11_isOrder 67 (.imul) 1 68 := ⟨by decide +kernel, rfl⟩
theorem dX11_isOrder_68 : gw_dc cX11_isOrder 68 (.iload_n 3) 1 69 := ⟨by decide +kernel, rfl⟩
theorem dX11_isOrder_69 : gw_dc cX11_isOrder 69 (.iadd) 1 70 := ⟨by decide +kernel, rfl⟩
theorem dX11_isOrder_70 : gw_dc cX11_isOrder 70 (.laload) 1 71 := ⟨by decide +kernel, rfl⟩
theorem dX11_isOrder_71 : gw_dc cX11_isOrder 71 (.l2i) 1 72 := ⟨by decide +kernel, rfl⟩
theorem dX11_isOrder_72 : gw_dc cX11_isOrder 72 (.iastore) 1 73 := ⟨by decide +kernel, rfl⟩
theorem o_240 {ad : Nat → Nat} : isO (gw_M0 ad) 240 21 60 := (by decide +kernel : 240 < gw_N0 ∧ gw_sh 240 = (21, 60))
theorem dX11_isOrder_73 : gw_dc cX11_isOrder 73 (.iconst 0) 1 74 := ⟨by decide +kernel, rfl⟩
theorem dX11_isOrder_74 : gw_dc cX11_isOrder 74 (.istore 4) 2 76 := ⟨by decide +kernel, rfl⟩
theorem dX11_isOrder_76 : gw_dc cX11_isOrder 76 (.iload 4) 2 78 := ⟨by decide +kernel, rfl⟩
theorem dX11_isOrder_78 : gw_dc cX11_isOrder 78 (.iload_n 3) 1 79 := ⟨by decide +kernel, rfl⟩
theorem dX11_isOrder_79 : gw_dc cX11_isOrder 79 (.if_icmp .ge 35) 3 82 := ⟨by decide +kernel, rfl⟩
theorem dX11_isOrder_114 : gw_dc cX11_isOrder 114 (.iinc 3 1) 3 117 := ⟨by decide +kernel, rfl⟩
theorem dX11_isOrder_117 : gw_dc cX11_isOrder 117 (.goto (-92)) 3 120 := ⟨by decide +kernel, rfl⟩
theorem dX11_isOrder_82 : gw_dc cX11_isOrder 82 (.iload_n 2) 1 83 := ⟨by decide +kernel, rfl⟩
theorem dX11_isOrder_83 : gw_dc cX11_isOrder 83 (.ifCond .eq 23) 3 86 := ⟨by decide +kernel, rfl⟩
theorem dX11_isOrder_106 : gw_dc cX11_isOrder 106 (.iconst 0) 1 107 := ⟨by decide +kernel, rfl⟩
theorem dX11_isOrder_107 : gw_dc cX11_isOrder 107 (.istore_n 2) 1 108 := ⟨by decide +kernel, rfl⟩
theorem dX11_isOrder_108 : gw_dc cX11_isOrder 108 (.iinc 4 1) 3 111 := ⟨by decide +kernel, rfl⟩
theorem dX11_isOrder_111 : gw_dc cX11_isOrder 111 (.goto (-35)) 3 114 := ⟨by decide +kernel, rfl⟩
theorem dX11_isOrder_86 : gw_dc cX11_isOrder 86 (.aload_n 0) 1 87 := ⟨by decide +kernel, rfl⟩
theorem dX11_isOrder_87 : gw_dc cX11_isOrder 87 (.getfield 63) 3 90 := ⟨by decide +kernel, rfl⟩
theorem dX11_isOrder_90 : gw_dc cX11_isOrder 90 (.iload 4) 2 92 := ⟨by decide +kernel, rfl⟩
theorem dX11_isOrder_92 : gw_dc cX11_isOrder 92 (.iaload) 1 93 := ⟨by decide +kernel, rfl⟩
theorem dX11_isOrder_93 : gw_dc cX11_isOrder 93 (.aload_n 0) 1 94 := ⟨by decide +kernel, rfl⟩
theorem dX11_isOrder_94 : gw_dc cX11_isOrder 94 (.getfield 63) 3 97 := ⟨by decide +kernel, rfl⟩
theorem dX11_isOrder_97 : gw_dc cX11_isOrder 97 (.iload_n 3) 1 98 := ⟨by decide +kernel, rfl⟩
theorem dX11_isOrder_98 : gw_dc cX11_isOrder 98 (.iaload) 1 99 := ⟨by decide +kernel, rfl⟩
theorem dX11_isOrder_99 : gw_dc cX11_isOrder 99 (.if_icmp .eq 7) 3 102 := ⟨by decide +kernel, rfl⟩
theorem dX11_isOrder_102 : gw_dc cX11_isOrder 102 (.iconst 1) 1 103 := ⟨by decide +kernel, rfl⟩
theorem dX11_isOrder_103 : gw_dc cX11_isOrder 103 (.goto 4) 3 106 := ⟨by decide +kernel, rfl⟩
theorem dX11_isOrder_0 : gw_dc cX11_isOrder 0 (.aload_n 0) 1 1 := ⟨by decide +kernel, rfl⟩
theorem dX11_isOrder_1 : gw_dc cX11_isOrder 1 (.getfield 81) 3 4 := ⟨by decide +kernel, rfl⟩
theorem dX11_isOrder_4 : gw_dc cX11_isOrder 4 (.iload_n 1) 1 5 := ⟨by decide +kernel, rfl⟩
theorem dX11_isOrder_5 : gw_dc cX11_isOrder 5 (.iaload) 1 6 := ⟨by decide +kernel, rfl⟩
theorem dX11_isOrder_6 : gw_dc cX11_isOrder 6 (.aload_n 0) 1 7 := ⟨by decide +kernel, rfl⟩
theorem dX11_isOrder_7 : gw_dc cX11_isOrder 7 (.getfield 9) 3 10 := ⟨by decide +kernel, rfl⟩
theorem dX11_isOrder_10 : gw_dc cX11_isOrder 10 (.sipush 668) 3 13 := ⟨by decide +kernel, rfl⟩
theorem dX11_isOrder_13 : gw_dc cX11_isOrder 13 (.iaload) 1 14 := ⟨by decide +kernel, rfl⟩
theorem dX11_isOrder_14 : gw_dc cX11_isOrder 14 (.if_icmp .ne 7) 3 17 := ⟨by decide +kernel, rfl⟩
theorem dX11_isOrder_21 : gw_dc cX11_isOrder 21 (.iconst 0) 1 22 := ⟨by decide +kernel, rfl⟩
theorem dX11_isOrder_17 : gw_dc cX11_isOrder 17 (.iconst 1) 1 18 := ⟨by decide +kernel, rfl⟩
theorem dX11_isOrder_18 : gw_dc cX11_isOrder 18 (.goto 4) 3 21 := ⟨by decide +kernel, rfl⟩
theorem dX11_costOfOrder_0 : gw_dc cX11_costOfOrder 0 (.aload_n 0) 1 1 := ⟨by decide +kernel, rfl⟩
theorem dX11_costOfOrder_1 : gw_dc cX11_costOfOrder 1 (.invokevirtual 302) 3 4 := ⟨by decide +kernel, rfl⟩
theorem dX11_costOfOrder_4 : gw_dc cX11_costOfOrder 4 (.iconst 0) 1 5 := ⟨by decide +kernel, rfl⟩
theorem dX11_costOfOrder_5 : gw_dc cX11_costOfOrder 5 (.istore_n 1) 1 6 := ⟨by decide +kernel, rfl⟩
theorem dX11_costOfOrder_6 : gw_dc cX11_costOfOrder 6 (.iload_n 1) 1 7 := ⟨by decide +kernel, rfl⟩
theorem dX11_costOfOrder_7 : gw_dc cX11_costOfOrder 7 (.aload_n 0) 1 8 := ⟨by decide +kernel, rfl⟩
theorem dX11_costOfOrder_8 : gw_dc cX11_costOfOrder 8 (.getfield 9) 3 11 := ⟨by decide +kernel, rfl⟩
theorem dX11_costOfOrder_11 : gw_dc cX11_costOfOrder 11 (.sipush 668) 3 14 := ⟨by decide +kernel, rfl⟩
theorem dX11_costOfOrder_14 : gw_dc cX11_costOfOrder 14 (.iaload) 1 15 := ⟨by decide +kernel, rfl⟩
theorem dX11_costOfOrder_15 : gw_dc cX11_costOfOrder 15 (.if_icmp .ge 45) 3 18 := ⟨by decide +kernel, rfl⟩
theorem dX11_costOfOrder_60 : gw_dc cX11_costOfOrder 60 (.aload_n 0) 1 61 := ⟨by decide +kernel, rfl⟩
theorem dX11_costOfOrder_61 : gw_dc cX11_costOfOrder 61 (.invokevirtual 326) 3 64 := ⟨by decide +kernel, rfl⟩
theorem dX11_costOfOrder_64 : decode cX11_costOfOrder 64 = .ok (.ireturn, 1) := by decide +kernel
theorem dX11_costOfOrder_18 : gw_dc cX11_costOfOrder 18 (.aload_n 0) 1 19 := ⟨by decide +kernel, rfl⟩
theorem dX11_costOfOrder_19 : gw_dc cX11_costOfOrder 19 (.aload_n 0) 1 20 := ⟨by decide +kernel, rfl⟩
theorem dX11_costOfOrder_20 : gw_dc cX11_costOfOrder 20 (.getfield 63) 3 23 := ⟨by decide +kernel, rfl⟩
theorem dX11_costOfOrder_23 : gw_dc cX11_costOfOrder 23 (.iload_n 1) 1 24 := ⟨by decide +kernel, rfl⟩
theorem dX11_costOfOrder_24 : gw_dc cX11_costOfOrder 24 (.iaload) 1 25 := ⟨by decide +kernel, rfl⟩
theorem dX11_costOfOrder_25 : gw_dc cX11_costOfOrder 25 (.iconst 0) 1 26 := ⟨by decide +kernel, rfl⟩
theorem dX11_costOfOrder_26 : gw_dc cX11_costOfOrder 26 (.aload_n 0) 1 27 := ⟨by decide +kernel, rfl⟩
theorem dX11_costOfOrder_27 : gw_dc cX11_costOfOrder 27 (.getfield 51) 3 30 := ⟨by decide +kernel, rfl⟩
theorem dX11_costOfOrder_30 : gw_dc cX11_costOfOrder 30 (.iconst 0) 1 31 := ⟨by decide +kernel, rfl⟩
theorem dX11_costOfOrder_31 : gw_dc cX11_costOfOrder 31 (.iaload) 1 32 := ⟨by decide +kernel, rfl⟩
theorem dX11_costOfOrder_32 : gw_dc cX11_costOfOrder 32 (.aload_n 0) 1 33 := ⟨by decide +kernel, rfl⟩
theorem dX11_costOfOrder_33 : gw_dc cX11_costOfOrder 33 (.aload_n 0) 1 34 := ⟨by decide +kernel, rfl⟩
theorem dX11_costOfOrder_34 : gw_dc cX11_costOfOrder 34 (.getfield 36) 3 37 := ⟨by decide +kernel, rfl⟩
theorem dX11_costOfOrder_37 : gw_dc cX11_costOfOrder 37 (.aload_n 0) 1 38 := ⟨by decide +kernel, rfl⟩
theorem dX11_costOfOrder_38 : gw_dc cX11_costOfOrder 38 (.getfield 63) 3 41 := ⟨by decide +kernel, rfl⟩
theorem dX11_costOfOrder_41 : gw_dc cX11_costOfOrder 41 (.iload_n 1) 1 42 := ⟨by decide +kernel, rfl⟩
theorem dX11_costOfOrder_42 : gw_dc cX11_costOfOrder 42 (.iaload) 1 43 := ⟨by decide +kernel, rfl⟩
theorem dX11_costOfOrder_43 : gw_dc cX11_costOfOrder 43 (.iaload) 1 44 := ⟨by decide +kernel, rfl⟩
theorem dX11_costOfOrder_44 : gw_dc cX11_costOfOrder 44 (.iconst 2) 1 45 := ⟨by decide +kernel, rfl⟩
theorem dX11_costOfOrder_45 : gw_dc cX11_costOfOrder 45 (.invokevirtual 242) 3 48 := ⟨by decide +kernel, rfl⟩
theorem dX11_costOfOrder_48 : gw_dc cX11_costOfOrder 48 (.invokestatic 268) 3 51 := ⟨by decide +kernel, rfl⟩
theorem dX11_costOfOrder_51 : gw_dc cX11_costOfOrder 51 (.invokevirtual 311) 3 54 := ⟨by decide +kernel, rfl⟩
theorem dX11_costOfOrder_54 : gw_dc cX11_costOfOrder 54 (.iinc 1 1) 3 57 := ⟨by decide +kernel, rfl⟩
theorem dX11_costOfOrder_57 : gw_dc cX11_costOfOrder 57 (.goto (-51)) 3 60 := ⟨by decide +kernel, rfl⟩
theorem dX11_cost_0 : gw_dc cX11_cost 0 (.aload_n 0) 1 1 := ⟨by decide +kernel, rfl⟩
theorem dX11_cost_1 : gw_dc cX11_cost 1 (.aload_n 0) 1 2 := ⟨by decide +kernel, rfl⟩
theorem dX11_cost_2 : gw_dc cX11_cost 2 (.iload_n 1) 1 3 := ⟨by decide +kernel, rfl⟩
theorem dX11_cost_3 : gw_dc cX11_cost 3 (.invokevirtual 340) 3 6 := ⟨by decide +kernel, rfl⟩
theorem dX11_cost_6 : gw_dc cX11_cost 6 (.putfield 88) 3 9 := ⟨by decide +kernel, rfl⟩
theorem dX11_cost_9 : gw_dc cX11_cost 9 (.aload_n 0) 1 10 := ⟨by decide +kernel, rfl⟩
theorem dX11_cost_10 : gw_dc cX11_cost 10 (.getfield 88) 3 13 := ⟨by decide +kernel, rfl⟩
theorem dX11_cost_13 : gw_dc cX11_cost 13 (.ifCond .le 5) 3 16 := ⟨by decide +kernel, rfl⟩
theorem dX11_cost_18 : gw_dc cX11_cost 18 (.aload_n 0) 1 19 := ⟨by decide +kernel, rfl⟩
theorem dX11_cost_19 : gw_dc cX11_cost 19 (.iload_n 1) 1 20 := ⟨by decide +kernel, rfl⟩
theorem dX11_cost_20 : gw_dc cX11_cost 20 (.invokevirtual 346) 3 23 := ⟨by decide +kernel, rfl⟩
theorem mv_RX11_346 : gw_mv RX11 346 yX11_isOrder := ⟨gw_mem 1839 (by decide +kernel) rfl, gw_mem 1841 (by decide +kernel) rfl, gw_mem 80 (by decide +kernel) rfl⟩
theorem my_X11_isOrder : gw_my yX11_isOrder cX11_isOrder 5 (some .boolean) 1 := ⟨gw_mem 1842 (by decide +kernel) rfl, gw_mem 106 (by decide +kernel) rfl, by decide +kernel, by decide⟩
theorem dX11_cost_23 : gw_dc cX11_cost 23 (.ifCond .eq 10) 3 26 := ⟨by decide +kernel, rfl⟩
theorem dX11_cost_33 : gw_dc cX11_cost 33 (.iconst (-1)) 1 34 := ⟨by decide +kernel, rfl⟩
theorem dX11_cost_34 : decode cX11_cost 34 = .ok (.ireturn, 1) := by decide +kernel
theorem dX11_cost_26 : gw_dc cX11_cost 26 (.aload_n 0) 1 27 := ⟨by decide +kernel, rfl⟩
theorem dX11_cost_27 : gw_dc cX11_cost 27 (.invokevirtual 349) 3 30 := ⟨by decide +kernel, rfl⟩
theorem mv_RX11_349 : gw_mv RX11 349 yX11_costOfOrder := ⟨gw_mem 1843 (by decide +kernel) rfl, gw_mem 1845 (by decide +kernel) rfl, gw_mem 81 (by decide +kernel) rfl⟩
theorem my_X11_costOfOrder : gw_my yX11_costOfOrder cX11_costOfOrder 2 (some .int) 0 := ⟨gw_mem 1846 (by decide +kernel) rfl, gw_mem 106 (by decide +kernel) rfl, by decide +kernel, by decide⟩
theorem dX11_cost_30 : gw_dc cX11_cost 30 (.goto 4) 3 33 := ⟨by decide +kernel, rfl⟩
theorem dX11_cost_16 : gw_dc cX11_cost 16 (.iconst 0) 1 17 := ⟨by decide +kernel, rfl⟩
theorem dX11_cost_17 : decode cX11_cost 17 = .ok (.ireturn, 1) := by decide +kernel
theorem dX11_swap_39 : gw_dc cX11_swap 39 (.aload_n 0) 1 40 := ⟨by decide +kernel, rfl⟩
theorem dX11_swap_40 : gw_dc cX11_swap 40 (.getfield 88) 3 43 := ⟨by decide +kernel, rfl⟩
theorem dX11_swap_43 : gw_dc cX11_swap 43 (.ifCond .gt 11) 3 46 := ⟨by decide +kernel, rfl⟩
theorem dX11_swap_54 : gw_dc cX11_swap 54 (.iconst 0) 1 55 := ⟨by decide +kernel, rfl⟩
theorem dX11_swap_55 : decode cX11_swap 55 = .ok (.ireturn, 1) := by decide +kernel
theorem dX11_swap_46 : gw_dc cX11_swap 46 (.aload_n 0) 1 47 := ⟨by decide +kernel, rfl⟩
theorem dX11_swap_47 : gw_dc cX11_swap 47 (.iload_n 1) 1 48 := ⟨by decide +kernel, rfl⟩
theorem dX11_swap_48 : gw_dc cX11_swap 48 (.invokevirtual 346) 3 51 := ⟨by decide +kernel, rfl⟩
theorem dX11_swap_51 : gw_dc cX11_swap 51 (.ifCond .ne 5) 3 54 := ⟨by decide +kernel, rfl⟩
theorem dX11_swap_56 : gw_dc cX11_swap 56 (.aload_n 0) 1 57 := ⟨by decide +kernel, rfl⟩
theorem dX11_swap_57 : gw_dc cX11_swap 57 (.invokevirtual 349) 3 60 := ⟨by decide +kernel, rfl⟩
theorem dX11_swap_60 : gw_dc cX11_swap 60 (.istore_n 3) 1 61 := ⟨by decide +kernel, rfl⟩
theorem dX11_swap_61 : gw_dc cX11_swap 61 (.aload_n 0) 1 62 := ⟨by decide +kernel, rfl⟩
theorem dX11_swap_62 : gw_dc cX11_swap 62 (.getfield 63) 3 65 := ⟨by decide +kernel, rfl⟩
theorem dX11_swap_65 : gw_dc cX11_swap 65 (.iload_n 2) 1 66 := ⟨by decide +kernel, rfl⟩
theorem dX11_swap_66 : gw_dc cX11_swap 66 (.iaload) 1 67 := ⟨by decide +kernel, rfl⟩
theorem dX11_swap_67 : gw_dc cX11_swap 67 (.istore 4) 2 69 := ⟨by decide +kernel, rfl⟩
theorem dX11_swap_69 : gw_dc cX11_swap 69 (.aload_n 0) 1 70 := ⟨by decide +kernel, rfl⟩
theorem dX11_swap_70 : gw_dc cX11_swap 70 (.getfield 63) 3 73 := ⟨by decide +kernel, rfl⟩
theorem dX11_swap_73 : gw_dc cX11_swap 73 (.iload_n 2) 1 74 := ⟨by decide +kernel, rfl⟩
theorem dX11_swap_74 : gw_dc cX11_swap 74 (.aload_n 0) 1 75 := ⟨by decide +kernel, rfl⟩
theorem dX11_swap_75 : gw_dc cX11_swap 75 (.getfield 63) 3 78 := ⟨by decide +kernel, rfl⟩
theorem dX11_swap_78 : gw_dc cX11_swap 78 (.iload_n 2) 1 79 := ⟨by decide +kernel, rfl⟩
theorem dX11_swap_79 : gw_dc cX11_swap 79 (.iconst 1) 1 80 := ⟨by decide +kernel, rfl⟩
theorem dX11_swap_80 : gw_dc cX11_swap 80 (.iadd) 1 81 := ⟨by decide +kernel, rfl⟩
theorem dX11_swap_81 : gw_dc cX11_swap 81 (.iaload) 1 82 := ⟨by decide +kernel, rfl⟩
theorem dX11_swap_82 : gw_dc cX11_swap 82 (.iastore) 1 83 := ⟨by decide +kernel, rfl⟩
theorem dX11_swap_83 : gw_dc cX11_swap 83 (.aload_n 0) 1 84 := ⟨by decide +kernel, rfl⟩
theorem dX11_swap_84 : gw_dc cX11_swap 84 (.getfield 63) 3 87 := ⟨by decide +kernel, rfl⟩
theorem dX11_swap_87 : gw_dc cX11_swap 87 (.iload_n 2) 1 88 := ⟨by decide +kernel, rfl⟩
theorem dX11_swap_88 : gw_dc cX11_swap 88 (.iconst 1) 1 89 := ⟨by decide +kernel, rfl⟩
theorem dX11_swap_89 : gw_dc cX11_swap 89 (.iadd) 1 90 := ⟨by decide +kernel, rfl⟩
theorem dX11_swap_90 : gw_dc cX11_swap 90 (.iload 4) 2 92 := ⟨by decide +kernel, rfl⟩
theorem dX11_swap_92 : gw_dc cX11_swap 92 (.iastore) 1 93 := ⟨by decide +kernel, rfl⟩
theorem dX11_swap_93 : gw_dc cX11_swap 93 (.aload_n 0) 1 94 := ⟨by decide +kernel, rfl⟩
theorem dX11_swap_94 : gw_dc cX11_swap 94 (.invokevirtual 349) 3 97 := ⟨by decide +kernel, rfl⟩
theorem dX11_swap_97 : gw_dc cX11_swap 97 (.iload_n 3) 1 98 := ⟨by decide +kernel, rfl⟩
theorem dX11_swap_98 : gw_dc cX11_swap 98 (.isub) 1 99 := ⟨by decide +kernel, rfl⟩
theorem dX11_swap_99 : decode cX11_swap 99 = .ok (.ireturn, 1) := by decide +kernel
theorem dX11_swap_0 : gw_dc cX11_swap 0 (.aload_n 0) 1 1 := ⟨by decide +kernel, rfl⟩
theorem dX11_swap_1 : gw_dc cX11_swap 1 (.aload_n 0) 1 2 := ⟨by decide +kernel, rfl⟩
theorem dX11_swap_2 : gw_dc cX11_swap 2 (.iload_n 1) 1 3 := ⟨by decide +kernel, rfl⟩
theorem dX11_swap_3 : gw_dc cX11_swap 3 (.invokevirtual 340) 3 6 := ⟨by decide +kernel, rfl⟩
theorem dX11_swap_6 : gw_dc cX11_swap 6 (.putfield 88) 3 9 := ⟨by decide +kernel, rfl⟩
theorem dX11_swap_9 : gw_dc cX11_swap 9 (.aload_n 0) 1 10 := ⟨by decide +kernel, rfl⟩
theorem dX11_swap_10 : gw_dc cX11_swap 10 (.getfield 88) 3 13 := ⟨by decide +kernel, rfl⟩
theorem dX11_swap_13 : gw_dc cX11_swap 13 (.ifCond .ne 26) 3 16 := ⟨by decide +kernel, rfl⟩
theorem dX11_swap_16 : gw_dc cX11_swap 16 (.iload_n 2) 1 17 := ⟨by decide +kernel, rfl⟩
theorem dX11_swap_17 : gw_dc cX11_swap 17 (.i2l) 1 18 := ⟨by decide +kernel, rfl⟩
theorem dX11_swap_18 : gw_dc cX11_swap 18 (.lconst 0) 1 19 := ⟨by decide +kernel, rfl⟩
theorem dX11_swap_19 : gw_dc cX11_swap 19 (.aload_n 0) 1 20 := ⟨by decide +kernel, rfl⟩
theorem dX11_swap_20 : gw_dc cX11_swap 20 (.getfield 81) 3 23 := ⟨by decide +kernel, rfl⟩
theorem dX11_swap_23 : gw_dc cX11_swap 23 (.iload_n 1) 1 24 := ⟨by decide +kernel, rfl⟩
theorem dX11_swap_24 : gw_dc cX11_swap 24 (.iaload) 1 25 := ⟨by decide +kernel, rfl⟩
theorem dX11_swap_25 : gw_dc cX11_swap 25 (.iconst 2) 1 26 := ⟨by decide +kernel, rfl⟩
theorem dX11_swap_26 : gw_dc cX11_swap 26 (.isub) 1 27 := ⟨by decide +kernel, rfl⟩
theorem dX11_swap_27 : gw_dc cX11_swap 27 (.i2l) 1 28 := ⟨by decide +kernel, rfl⟩
theorem dX11_swap_28 : gw_dc cX11_swap 28 (.invokestatic 147) 3 31 := ⟨by decide +kernel, rfl⟩
theorem dX11_swap_31 : gw_dc cX11_swap 31 (.ifCond .ne 8) 3 34 := ⟨by decide +kernel, rfl⟩
theorem dX11_swap_34 : gw_dc cX11_swap 34 (.aload_n 0) 1 35 := ⟨by decide +kernel, rfl⟩
theorem dX11_swap_35 : gw_dc cX11_swap 35 (.iconst 3) 1 36 := ⟨by decide +kernel, rfl⟩
theorem dX11_swap_36 : gw_dc cX11_swap 36 (.putfield 88) 3 39 := ⟨by decide +kernel, rfl⟩
theorem dX11_tray_41 : gw_dc cX11_tray 41 (.putfield 88) 3 44 := ⟨by decide +kernel, rfl⟩
theorem dX11_tray_44 : gw_dc cX11_tray 44 (.aload_n 0) 1 45 := ⟨by decide +kernel, rfl⟩
theorem dX11_tray_45 : gw_dc cX11_tray 45 (.getfield 88) 3 48 := ⟨by decide +kernel, rfl⟩
theorem dX11_tray_48 : gw_dc cX11_tray 48 (.ifCond .le 4) 3 51 := ⟨by decide +kernel, rfl⟩
theorem dX11_tray_52 : gw_dc cX11_tray 52 (.aload_n 0) 1 53 := ⟨by decide +kernel, rfl⟩
theorem dX11_tray_53 : gw_dc cX11_tray 53 (.getfield 78) 3 56 := ⟨by decide +kernel, rfl⟩
theorem dX11_tray_56 : gw_dc cX11_tray 56 (.iload_n 1) 1 57 := ⟨by decide +kernel, rfl⟩
theorem dX11_tray_57 : gw_dc cX11_tray 57 (.iload_n 2) 1 58 := ⟨by decide +kernel, rfl⟩
theorem dX11_tray_58 : gw_dc cX11_tray 58 (.iastore) 1 59 := ⟨by decide +kernel, rfl⟩
theorem dX11_tray_59 : gw_dc cX11_tray 59 (.aload_n 0) 1 60 := ⟨by decide +kernel, rfl⟩
theorem dX11_tray_60 : gw_dc cX11_tray 60 (.getfield 81) 3 63 := ⟨by decide +kernel, rfl⟩
theorem dX11_tray_63 : gw_dc cX11_tray 63 (.iload_n 1) 1 64 := ⟨by decide +kernel, rfl⟩
theorem dX11_tray_64 : gw_dc cX11_tray 64 (.iload_n 3) 1 65 := ⟨by decide +kernel, rfl⟩
theorem dX11_tray_65 : gw_dc cX11_tray 65 (.iastore) 1 66 := ⟨by decide +kernel, rfl⟩
theorem dX11_tray_66 : gw_dc cX11_tray 66 (.iconst 0) 1 67 := ⟨by decide +kernel, rfl⟩
theorem dX11_tray_67 : gw_dc cX11_tray 67 (.istore 4) 2 69 := ⟨by decide +kernel, rfl⟩
theorem dX11_tray_69 : gw_dc cX11_tray 69 (.iload 4) 2 71 := ⟨by decide +kernel, rfl⟩
theorem dX11_tray_71 : gw_dc cX11_tray 71 (.bipush 60) 2 73 := ⟨by decide +kernel, rfl⟩
theorem dX11_tray_73 : gw_dc cX11_tray 73 (.if_icmp .ge 22) 3 76 := ⟨by decide +kernel, rfl⟩
theorem dX11_tray_95 : decode cX11_tray 95 = .ok (.return_, 1) := by decide +kernel
theorem dX11_tray_76 : gw_dc cX11_tray 76 (.aload_n 0) 1 77 := ⟨by decide +kernel, rfl⟩
theorem dX11_tray_77 : gw_dc cX11_tray 77 (.getfield 84) 3 80 := ⟨by decide +kernel, rfl⟩
theorem dX11_tray_80 : gw_dc cX11_tray 80 (.bipush 60) 2 82 := ⟨by decide +kernel, rfl⟩
theorem dX11_tray_82 : gw_dc cX11_tray 82 (.iload_n 1) 1 83 := ⟨by decide +kernel, rfl⟩
theorem dX11_tray_83 : gw_dc cX11_tray 83 (.imul) 1 84 := ⟨by decide +kernel, rfl⟩
theorem dX11_tray_84 : gw_dc cX11_tray 84 (.iload 4) 2 86 := ⟨by decide +kernel, rfl⟩
theorem dX11_tray_86 : gw_dc cX11_tray 86 (.iadd) 1 87 := ⟨by decide +kernel, rfl⟩
theorem dX11_tray_87 : gw_dc cX11_tray 87 (.lconst 0) 1 88 := ⟨by decide +kernel, rfl⟩
theorem dX11_tray_88 : gw_dc cX11_tray 88 (.lastore) 1 89 := ⟨by decide +kernel, rfl⟩
theorem dX11_tray_89 : gw_dc cX11_tray 89 (.iinc 4 1) 3 92 := ⟨by decide +kernel, rfl⟩
theorem dX11_tray_92 : gw_dc cX11_tray 92 (.goto (-23)) 3 95 := ⟨by decide +kernel, rfl⟩
theorem dX11_tray_51 : decode cX11_tray 51 = .ok (.return_, 1) := by decide +kernel
theorem dX11_tray_0 : gw_dc cX11_tray 0 (.aload_n 0) 1 1 := ⟨by decide +kernel, rfl⟩
theorem dX11_tray_1 : gw_dc cX11_tray 1 (.iload_n 1) 1 2 := ⟨by decide +kernel, rfl⟩
theorem dX11_tray_2 : gw_dc cX11_tray 2 (.invokestatic 256) 3 5 := ⟨by decide +kernel, rfl⟩
theorem dX11_tray_5 : gw_dc cX11_tray 5 (.ifCond .ne 7) 3 8 := ⟨by decide +kernel, rfl⟩
theorem dX11_tray_12 : gw_dc cX11_tray 12 (.iload_n 2) 1 13 := ⟨by decide +kernel, rfl⟩
theorem dX11_tray_13 : gw_dc cX11_tray 13 (.i2l) 1 14 := ⟨by decide +kernel, rfl⟩
theorem dX11_tray_14 : gw_dc cX11_tray 14 (.lconst 0) 1 15 := ⟨by decide +kernel, rfl⟩
theorem dX11_tray_15 : gw_dc cX11_tray 15 (.ldc2_w 338) 3 18 := ⟨by decide +kernel, rfl⟩
theorem dX11_tray_18 : gw_dc cX11_tray 18 (.invokestatic 147) 3 21 := ⟨by decide +kernel, rfl⟩
theorem dX11_tray_21 : gw_dc cX11_tray 21 (.ifCond .eq 15) 3 24 := ⟨by decide +kernel, rfl⟩
theorem dX11_tray_36 : gw_dc cX11_tray 36 (.iconst 2) 1 37 := ⟨by decide +kernel, rfl⟩
theorem dX11_tray_37 : gw_dc cX11_tray 37 (.goto 4) 3 40 := ⟨by decide +kernel, rfl⟩
theorem dX11_tray_24 : gw_dc cX11_tray 24 (.iload_n 3) 1 25 := ⟨by decide +kernel, rfl⟩
theorem dX11_tray_25 : gw_dc cX11_tray 25 (.i2l) 1 26 := ⟨by decide +kernel, rfl⟩
theorem dX11_tray_26 : gw_dc cX11_tray 26 (.lconst 0) 1 27 := ⟨by decide +kernel, rfl⟩
theorem dX11_tray_27 : gw_dc cX11_tray 27 (.ldc2_w 420) 3 30 := ⟨by decide +kernel, rfl⟩
theorem kc_RX11_420 : Cond.constantLong RX11 420 (Int64.ofInt 60) ∈ wsG := gw_mem 1961 (by decide +kernel) rfl
theorem dX11_tray_30 : gw_dc cX11_tray 30 (.invokestatic 147) 3 33 := ⟨by decide +kernel, rfl⟩
theorem dX11_tray_33 : gw_dc cX11_tray 33 (.ifCond .ne 7) 3 36 := ⟨by decide +kernel, rfl⟩
theorem dX11_tray_40 : gw_dc cX11_tray 40 (.iconst 0) 1 41 := ⟨by decide +kernel, rfl⟩
theorem dX11_tray_8 : gw_dc cX11_tray 8 (.iconst 1) 1 9 := ⟨by decide +kernel, rfl⟩
theorem dX11_tray_9 : gw_dc cX11_tray 9 (.goto 32) 3 12 := ⟨by decide +kernel, rfl⟩
theorem dX11_cut_0 : gw_dc cX11_cut 0 (.bipush 64) 2 2 := ⟨by decide +kernel, rfl⟩
theorem dX11_cut_2 : gw_dc cX11_cut 2 (.bipush 8) 2 4 := ⟨by decide +kernel, rfl⟩
theorem dX11_cut_4 : gw_dc cX11_cut 4 (.aload_n 0) 1 5 := ⟨by decide +kernel, rfl⟩
theorem dX11_cut_5 : gw_dc cX11_cut 5 (.getfield 78) 3 8 := ⟨by decide +kernel, rfl⟩
theorem dX11_cut_8 : gw_dc cX11_cut 8 (.iload_n 1) 1 9 := ⟨by decide +kernel, rfl⟩
theorem dX11_cut_9 : gw_dc cX11_cut 9 (.iaload) 1 10 := ⟨by decide +kernel, rfl⟩
theorem dX11_cut_10 : gw_dc cX11_cut 10 (.ishl) 1 11 := ⟨by decide +kernel, rfl⟩
theorem dX11_cut_11 : gw_dc cX11_cut 11 (.isub) 1 12 := ⟨by decide +kernel, rfl⟩
theorem dX11_cut_12 : gw_dc cX11_cut 12 (.istore 5) 2 14 := ⟨by decide +kernel, rfl⟩
theorem dX11_cut_14 : gw_dc cX11_cut 14 (.aload_n 0) 1 15 := ⟨by decide +kernel, rfl⟩
theorem dX11_cut_15 : gw_dc cX11_cut 15 (.getfield 84) 3 18 := ⟨by decide +kernel, rfl⟩
theorem dX11_cut_18 : gw_dc cX11_cut 18 (.bipush 60) 2 20 := ⟨by decide +kernel, rfl⟩
theorem dX11_cut_20 : gw_dc cX11_cut 20 (.iload_n 1) 1 21 := ⟨by decide +kernel, rfl⟩
theorem dX11_cut_21 : gw_dc cX11_cut 21 (.imul) 1 22 := ⟨by decide +kernel, rfl⟩
theorem dX11_cut_22 : gw_dc cX11_cut 22 (.iload_n 2) 1 23 := ⟨by decide +kernel, rfl⟩
theorem dX11_cut_23 : gw_dc cX11_cut 23 (.iadd) 1 24 := ⟨by decide +kernel, rfl⟩
theorem dX11_cut_24 : gw_dc cX11_cut 24 (.lload_n 3) 1 25 := ⟨by decide +kernel, rfl⟩
theorem dX11_cut_25 : gw_dc cX11_cut 25 (.iload 5) 2 27 := ⟨by decide +kernel, rfl⟩
theorem dX11_cut_27 : gw_dc cX11_cut 27 (.lshl) 1 28 := ⟨by decide +kernel, rfl⟩
theorem dX11_cut_28 : gw_dc cX11_cut 28 (.iload 5) 2 30 := ⟨by decide +kernel, rfl⟩
theorem dX11_cut_30 : gw_dc cX11_cut 30 (.lshr) 1 31 := ⟨by decide +kernel, rfl⟩
theorem dX11_cut_31 : gw_dc cX11_cut 31 (.lastore) 1 32 := ⟨by decide +kernel, rfl⟩
theorem dX11_cut_32 : gw_dc cX11_cut 32 (.aload_n 0) 1 33 := ⟨by decide +kernel, rfl⟩
theorem dX11_cut_33 : gw_dc cX11_cut 33 (.getfield 84) 3 36 := ⟨by decide +kernel, rfl⟩
theorem dX11_cut_36 : gw_dc cX11_cut 36 (.bipush 60) 2 38 := ⟨by decide +kernel, rfl⟩
theorem dX11_cut_38 : gw_dc cX11_cut 38 (.iload_n 1) 1 39 := ⟨by decide +kernel, rfl⟩
theorem dX11_cut_39 : gw_dc cX11_cut 39 (.imul) 1 40 := ⟨by decide +kernel, rfl⟩
theorem dX11_cut_40 : gw_dc cX11_cut 40 (.iload_n 2) 1 41 := ⟨by decide +kernel, rfl⟩
theorem dX11_cut_41 : gw_dc cX11_cut 41 (.iadd) 1 42 := ⟨by decide +kernel, rfl⟩
theorem dX11_cut_42 : gw_dc cX11_cut 42 (.laload) 1 43 := ⟨by decide +kernel, rfl⟩
theorem dX11_cut_43 : decode cX11_cut 43 = .ok (.lreturn, 1) := by decide +kernel
/-! The model, 14: trays, orders, images, walked -/
set_option maxRecDepth 4000 in
theorem s_X11_unlike (ad : Nat → Nat) (σ : Sg)  (t : Int) (hTr : TrW σ) (h : 0 ≤ t ∧ t ≤ 3) : gw_Sp yX11_unlike cX11_unlike 3 (some .int) 1 0 0 [vR (some 223), vI t] (gw_M0 ad) σ (gw_D (some (vI (nUn σ t))) (gw_M0 ad) (σ)) gw_no := by
  refine gw_Sp.of [some (vR (some 223)), some (vI t), none] (by decide +kernel) rfl (Nat.le_of_ble_eq_true rfl) ?_
  intro X G fx het hnm
  have ht := hTr.at h.1 h.2
  refine g_iconst fx dX11_unlike_0 (by unfold okI; omega) ?_
  refine g_istore_n fx dX11_unlike_1 (by decide) rfl rfl ?_
  have loop2 : ∀ k : Nat, k ≤ 60 → nUnP σ t = nUnR σ t (60 - k) k → gw_W X (yX11_unlike.cls, cX11_unlike, 3, (some .int), 1, 0, 0) G (gw_Z X G (gw_M0 ad) σ (gw_D (some (vI (nUn σ t))) (gw_M0 ad) (σ)) gw_no 0 0) 0 0 (gw_M0 ad) (σ) 2 [some (vR (some 223)), some (vI t), some (vI (k : Nat))] [] := by
    refine up_ind _ _ (fun k hk ih => ?_)
    intro he
    refine g_iload_n fx dX11_unlike_2 rfl ?_
    refine g_aload_n fx dX11_unlike_3 rfl ?_
    refine g_getr fx dX11_unlike_4 fk_RX11_81 o_223 rf_223_40 ?_
    refine g_iload_n fx dX11_unlike_7 rfl ?_
    refine g_iald fx dX11_unlike_8 o_246 (by omega) (by show _ < ((4 : Nat) : Int); omega) ?_
    refine g_icmp_ge (tgt := 52) fx dX11_unlike_9 (by decide) (fun h9 => ?_) (fun h9 => ?_)
    · have hx : nUnP σ t = ((k : Nat) : Int) := by
        rw [he]
        exact nUnR_x σ t _ _ (by first | omega | (intro q; exact absurd (jc_eq.mpr q.2.2) (by assumption)))
      refine g_iload_n fx dX11_unlike_52 rfl ?_
      refine g_aload_n fx dX11_unlike_53 rfl ?_
      refine g_getr fx dX11_unlike_54 fk_RX11_81 o_223 rf_223_40 ?_
      refine g_iload_n fx dX11_unlike_57 rfl ?_
      refine g_iald fx dX11_unlike_58 o_246 (by omega) (by show _ < ((4 : Nat) : Int); omega) ?_
      refine g_icmp_ne (tgt := 78) fx dX11_unlike_59 (by decide) (fun h59 => ?_) (fun h59 => ?_)
      · refine g_iload_n fx dX11_unlike_78 rfl ?_
        exact g_iret fx rfl dX11_unlike_79 (by decide) (by decide) (gw_le.rf _) ⟨by first | (exfalso; omega) | (rw [nUn, hx]; (repeat first | rw [if_pos (by omega)] | rw [if_neg (by omega)]) <;> rfl), rfl, rfl⟩
      · refine g_iload_n fx dX11_unlike_62 rfl ?_
        refine g_aload_n fx dX11_unlike_63 rfl ?_
        refine g_getr fx dX11_unlike_64 fk_RX11_9 o_223 rf_223_0 ?_
        refine g_sipush fx dX11_unlike_67 (by decide) ?_
        refine g_iald fx dX11_unlike_70 o_224 (by decide) (by decide) ?_
        rw [show Int.toNat 668 = 668 from rfl]
        refine g_icmp_ne (tgt := 78) fx dX11_unlike_71 (by decide) (fun h71 => ?_) (fun h71 => ?_)
        · refine g_iload_n fx dX11_unlike_78 rfl ?_
          exact g_iret fx rfl dX11_unlike_79 (by decide) (by decide) (gw_le.rf _) ⟨by first | (exfalso; omega) | (rw [nUn, hx]; (repeat first | rw [if_pos (by omega)] | rw [if_neg (by omega)]) <;> rfl), rfl, rfl⟩
        · refine g_iconst fx dX11_unlike_74 (by unfold okI; omega) ?_
          refine g_goto (tgt := 79) fx dX11_unlike_75 (by decide) ?_
          exact g_iret fx rfl dX11_unlike_79 (by decide) (by decide) (gw_le.rf _) ⟨by first | (exfalso; omega) | (rw [nUn, hx]; (repeat first | rw [if_pos (by omega)] | rw [if_neg (by omega)]) <;> rfl), rfl, rfl⟩
    · refine g_iload_n fx dX11_unlike_12 rfl ?_
      refine g_aload_n fx dX11_unlike_13 rfl ?_
      refine g_getr fx dX11_unlike_14 fk_RX11_9 o_223 rf_223_0 ?_
      refine g_sipush fx dX11_unlike_17 (by decide) ?_
      refine g_iald fx dX11_unlike_20 o_224 (by decide) (by decide) ?_
      rw [show Int.toNat 668 = 668 from rfl]
      refine g_icmp_ge (tgt := 52) fx dX11_unlike_21 (by decide) (fun h21 => ?_) (fun h21 => ?_)
      · have hx : nUnP σ t = ((k : Nat) : Int) := by
          rw [he]
          exact nUnR_x σ t _ _ (by first | omega | (intro q; exact absurd (jc_eq.mpr q.2.2) (by assumption)))
        refine g_iload_n fx dX11_unlike_52 rfl ?_
        refine g_aload_n fx dX11_unlike_53 rfl ?_
        refine g_getr fx dX11_unlike_54 fk_RX11_81 o_223 rf_223_40 ?_
        refine g_iload_n fx dX11_unlike_57 rfl ?_
        refine g_iald fx dX11_unlike_58 o_246 (by omega) (by show _ < ((4 : Nat) : Int); omega) ?_
        refine g_icmp_ne (tgt := 78) fx dX11_unlike_59 (by decide) (fun h59 => ?_) (fun h59 => ?_)
        · refine g_iload_n fx dX11_unlike_78 rfl ?_
          exact g_iret fx rfl dX11_unlike_79 (by decide) (by decide) (gw_le.rf _) ⟨by first | (exfalso; omega) | (rw [nUn, hx]; (repeat first | rw [if_pos (by omega)] | rw [if_neg (by omega)]) <;> rfl), rfl, rfl⟩
        · refine g_iload_n fx dX11_unlike_62 rfl ?_
          refine g_aload_n fx dX11_unlike_63 rfl ?_
          refine g_getr fx dX11_unlike_64 fk_RX11_9 o_223 rf_223_0 ?_
          refine g_sipush fx dX11_unlike_67 (by decide) ?_
          refine g_iald fx dX11_unlike_70 o_224 (by decide) (by decide) ?_
          rw [show Int.toNat 668 = 668 from rfl]
          refine g_icmp_ne (tgt := 78) fx dX11_unlike_71 (by decide) (fun h71 => ?_) (fun h71 => ?_)
          · refine g_iload_n fx dX11_unlike_78 rfl ?_
            exact g_iret fx rfl dX11_unlike_79 (by decide) (by decide) (gw_le.rf _) ⟨by first | (exfalso; omega) | (rw [nUn, hx]; (repeat first | rw [if_pos (by omega)] | rw [if_neg (by omega)]) <;> rfl), rfl, rfl⟩
          · refine g_iconst fx dX11_unlike_74 (by unfold okI; omega) ?_
            refine g_goto (tgt := 79) fx dX11_unlike_75 (by decide) ?_
            exact g_iret fx rfl dX11_unlike_79 (by decide) (by decide) (gw_le.rf _) ⟨by first | (exfalso; omega) | (rw [nUn, hx]; (repeat first | rw [if_pos (by omega)] | rw [if_neg (by omega)]) <;> rfl), rfl, rfl⟩
      · refine g_aload_n fx dX11_unlike_24 rfl ?_
        refine g_getr fx dX11_unlike_25 fk_RX11_84 o_223 rf_223_41 ?_
        refine g_bipush fx dX11_unlike_28 (by decide) ?_
        refine g_iload_n fx dX11_unlike_30 rfl ?_
        refine g_imul fx dX11_unlike_31 ?_
        refine g_iload_n fx dX11_unlike_32 rfl ?_
        refine g_iadd fx dX11_unlike_33 ?_
        refine gw_cgt rfl (ix60 h (by omega)) ?_
        refine g_lald fx dX11_unlike_34 o_247 (by omega) (by show _ < ((240 : Nat) : Int); omega) ?_
        refine g_aload_n fx dX11_unlike_35 rfl ?_
        refine g_getr fx dX11_unlike_36 fk_RX11_48 o_223 rf_223_22 ?_
        refine g_iload_n fx dX11_unlike_39 rfl ?_
        refine g_iald fx dX11_unlike_40 o_235 (by omega) (by show _ < ((60 : Nat) : Int); omega) ?_
        rw [show ((k : Nat) : Int).toNat = k from rfl]
        refine g_i2l fx dX11_unlike_41 ?_
        refine g_lcmp fx dX11_unlike_42 ?_
        refine g_if_ne (tgt := 52) fx dX11_unlike_43 (by decide) (fun h43 => ?_) (fun h43 => ?_)
        · have hx : nUnP σ t = ((k : Nat) : Int) := by
            rw [he]
            exact nUnR_x σ t _ _ (by first | omega | (intro q; exact absurd (jc_eq.mpr q.2.2) (by assumption)))
          refine g_iload_n fx dX11_unlike_52 rfl ?_
          refine g_aload_n fx dX11_unlike_53 rfl ?_
          refine g_getr fx dX11_unlike_54 fk_RX11_81 o_223 rf_223_40 ?_
          refine g_iload_n fx dX11_unlike_57 rfl ?_
          refine g_iald fx dX11_unlike_58 o_246 (by omega) (by show _ < ((4 : Nat) : Int); omega) ?_
          refine g_icmp_ne (tgt := 78) fx dX11_unlike_59 (by decide) (fun h59 => ?_) (fun h59 => ?_)
          · refine g_iload_n fx dX11_unlike_78 rfl ?_
            exact g_iret fx rfl dX11_unlike_79 (by decide) (by decide) (gw_le.rf _) ⟨by first | (exfalso; omega) | (rw [nUn, hx]; (repeat first | rw [if_pos (by omega)] | rw [if_neg (by omega)]) <;> rfl), rfl, rfl⟩
          · refine g_iload_n fx dX11_unlike_62 rfl ?_
            refine g_aload_n fx dX11_unlike_63 rfl ?_
            refine g_getr fx dX11_unlike_64 fk_RX11_9 o_223 rf_223_0 ?_
            refine g_sipush fx dX11_unlike_67 (by decide) ?_
            refine g_iald fx dX11_unlike_70 o_224 (by decide) (by decide) ?_
            rw [show Int.toNat 668 = 668 from rfl]
            refine g_icmp_ne (tgt := 78) fx dX11_unlike_71 (by decide) (fun h71 => ?_) (fun h71 => ?_)
            · refine g_iload_n fx dX11_unlike_78 rfl ?_
              exact g_iret fx rfl dX11_unlike_79 (by decide) (by decide) (gw_le.rf _) ⟨by first | (exfalso; omega) | (rw [nUn, hx]; (repeat first | rw [if_pos (by omega)] | rw [if_neg (by omega)]) <;> rfl), rfl, rfl⟩
            · refine g_iconst fx dX11_unlike_74 (by unfold okI; omega) ?_
              refine g_goto (tgt := 79) fx dX11_unlike_75 (by decide) ?_
              exact g_iret fx rfl dX11_unlike_79 (by decide) (by decide) (gw_le.rf _) ⟨by first | (exfalso; omega) | (rw [nUn, hx]; (repeat first | rw [if_pos (by omega)] | rw [if_neg (by omega)]) <;> rfl), rfl, rfl⟩
        · refine g_iinc1 fx dX11_unlike_46 (by decide) rfl rfl (by unfold okI; omega) rfl ?_
          refine g_goto (tgt := 2) fx dX11_unlike_49 (by decide) ?_
          exact gw_cg rfl (by rw [show ((k : Nat) : Int) + 1 = ((k + 1 : Nat) : Int) by omega] <;> rfl) (ih (by omega) (by rw [he, show 60 - k = 60 - (k + 1) + 1 by omega, nUnR, if_pos ⟨by omega, by omega, jc_eq.mp h43⟩]))
  exact loop2 0 (Nat.zero_le _) rfl
theorem nBg_off (σ : Sg) (p st mi : Int) {a : Nat} (h : a < 223 ∨ 239 < a ∨ (223 < a ∧ a < 232)) : nBg σ p st mi a = σ a := funext fun j => nBg_ne σ p st mi h j
theorem nRuR_ne (n : Nat) : ∀ (σ : Sg) (mi : Int) {a : Nat}, (a < 223 ∨ 239 < a ∨ (223 < a ∧ a < 232)) → nRuR n σ mi a = σ a := by
  induction n with
  | zero => intro σ mi a h; rfl
  | succ n ih =>
    intro σ mi a h
    rw [nRuR]; split
    · rw [ih _ _ h]
      have h2 : ∀ k x, itr k (rnS mi) x a = x a := by
        intro k x
        induction k with
        | zero => rfl
        | succ k ih2 =>
          rw [itr_s, rnS]; (repeat' split) <;> first | exact ih2 | (rw [nBg_off _ _ _ _ h]; exact ih2)
      exact h2 _ _
    · rfl
theorem nRu_ne (σ : Sg) {a : Nat} (h : a < 223 ∨ 239 < a ∨ (223 < a ∧ a < 231)) : nRu σ a = σ a := by
  rw [nRu, nRuR_ne _ _ _ (by omega)]; exact nFg_240 σ (by omega) (by omega)
theorem nCooL_ne (σ : Sg) (k : Nat) {a : Nat} (h : a < 223 ∨ 239 < a ∨ (223 < a ∧ a < 231)) : nCooL σ k a = σ a := by
  induction k with
  | zero => exact nFg_240 σ (by omega) (by omega)
  | succ k ih => rw [nCooL_s, cooS, nBg_off _ _ _ _ (by omega)]; exact ih
theorem nCoo_ne (σ : Sg) {a : Nat} (h : a < 223 ∨ 239 < a ∨ (223 < a ∧ a < 231)) : nCoo σ a = σ a := nCooL_ne σ _ h
theorem TrW_ru {σ : Sg} (h : TrW σ) : TrW (nRu σ) := by
  intro i hi
  rw [nRu_ne σ (a := 245) (by omega), nRu_ne σ (a := 246) (by omega)]; exact h i hi
set_option maxRecDepth 4000 in
theorem s_X11_judge (ad : Nat → Nat) (σ : Sg)  (t : Int) (w : Int) (hT : TW (σ 224)) (hTr : TrW σ) : gw_Sp yX11_judge cX11_judge 4 (some .int) 7 0 0 [vR (some 223), vI t, vI w] (gw_M0 ad) σ (gw_D (some (vI (nJd σ t w).1)) (gw_M0 ad) ((nJd σ t w).2)) gw_no := by
  refine gw_Sp.of [some (vR (some 223)), some (vI t), some (vI w), none] (by decide +kernel) rfl (Nat.le_of_ble_eq_true rfl) ?_
  intro X G fx het hnm
  have j31 : gw_W X (yX11_judge.cls, cX11_judge, 4, (some .int), 7, 0, 0) G (gw_Z X G (gw_M0 ad) σ (gw_D (some (vI (nJd σ t w).1)) (gw_M0 ad) ((nJd σ t w).2)) gw_no 0 0) 0 0 (gw_M0 ad) ((nThr σ (jdV σ t w))) 31 [some (vR (some 223)), some (vI t), some (vI w), none] [] := by
    refine g_aload_n fx dX11_judge_31 rfl ?_
    refine g_geti fx dX11_judge_32 fk_RX11_88 (by decide) o_223 ?_
    refine gw_cgt rfl (show nThr σ (jdV σ t w) 223 5 = jdV σ t w from su_same _ _ _ _) ?_
    refine g_if_le (tgt := 40) fx dX11_judge_35 (by decide) (fun h35 => ?_) (fun h35 => ?_)
    · have hi := (nTf_0 (jdV_0 h35)).1
      refine g_aload_n fx dX11_judge_40 rfl ?_
      refine g_callVD0 fx dX11_judge_41 mv_RX11_323 my_X11_runs (s_X11_runs ad _ hT) o_223 rfl rfl rfl (Nat.le_of_ble_eq_true rfl) (by decide) (by decide) ?_
      have hTru : TW (nRu (nThr σ (jdV σ t w)) 224) := TW_ru (σ := (nThr σ (jdV σ t w))) hT
      have hTrr : TrW (nRu (nThr σ (jdV σ t w))) := TrW_ru (σ := (nThr σ (jdV σ t w))) hTr
      have hP := hTru.p60
      refine g_aload_n fx dX11_judge_44 rfl ?_
      refine g_iload_n fx dX11_judge_45 rfl ?_
      refine g_callVD fx dX11_judge_46 mv_RX11_343 my_X11_unlike (s_X11_unlike ad _ _ hTrr hi) o_223 rfl rfl rfl (Nat.le_of_ble_eq_true rfl) (by decide) (by decide) ?_
      refine g_istore_n fx dX11_judge_49 (by decide) rfl rfl ?_
      refine g_iload_n fx dX11_judge_50 rfl ?_
      refine g_if_eq (tgt := 59) fx dX11_judge_51 (by decide) (fun h51 => ?_) (fun h51 => ?_)
      · refine g_iload_n fx dX11_judge_59 rfl ?_
        refine g_goto (tgt := 85) fx dX11_judge_60 (by decide) ?_
        exact g_iret fx rfl dX11_judge_85 (by decide) (by decide) (gw_le.rf _) ⟨by rw [nJd]; (repeat first | rw [if_pos (by omega)] | rw [if_neg (by omega)]) <;> (try (show some (vI _) = some (vI (jdA _ t w)); rw [jdA]; (repeat first | rw [if_pos (by omega)] | rw [if_neg (by omega)]))) <;> rfl, rfl, by rw [nJd]; (repeat first | rw [if_pos (by omega)] | rw [if_neg (by omega)]) <;> rfl⟩
      · refine g_iload_n fx dX11_judge_54 rfl ?_
        refine g_iconst fx dX11_judge_55 (by unfold okI; omega) ?_
        refine g_icmp_ne (tgt := 63) fx dX11_judge_56 (by decide) (fun h56 => ?_) (fun h56 => ?_)
        · refine g_iload_n fx dX11_judge_63 rfl ?_
          refine g_aload_n fx dX11_judge_64 rfl ?_
          refine g_getr fx dX11_judge_65 fk_RX11_9 o_223 rf_223_0 ?_
          refine g_sipush fx dX11_judge_68 (by decide) ?_
          refine g_iald fx dX11_judge_71 o_224 (by decide) (by decide) ?_
          rw [show Int.toNat 668 = 668 from rfl]
          refine g_icmp_ge (tgt := 84) fx dX11_judge_72 (by decide) (fun h72 => ?_) (fun h72 => ?_)
          · refine g_iconst fx dX11_judge_84 (by unfold okI; omega) ?_
            exact g_iret fx rfl dX11_judge_85 (by decide) (by decide) (gw_le.rf _) ⟨by rw [nJd]; (repeat first | rw [if_pos (by omega)] | rw [if_neg (by omega)]) <;> (try (show some (vI _) = some (vI (jdA _ t w)); rw [jdA]; (repeat first | rw [if_pos (by omega)] | rw [if_neg (by omega)]))) <;> rfl, rfl, by rw [nJd]; (repeat first | rw [if_pos (by omega)] | rw [if_neg (by omega)]) <;> rfl⟩
          · refine g_aload_n fx dX11_judge_75 rfl ?_
            refine g_getr fx dX11_judge_76 fk_RX11_48 o_223 rf_223_22 ?_
            have hn := nUn_nn (nRu (nThr σ (jdV σ t w))) t (by omega)
            refine g_iload_n fx dX11_judge_79 rfl ?_
            refine g_iald fx dX11_judge_80 o_235 (by omega) (by show _ < ((60 : Nat) : Int); omega) ?_
            refine g_goto (tgt := 85) fx dX11_judge_81 (by decide) ?_
            exact g_iret fx rfl dX11_judge_85 (by decide) (by decide) (gw_le.rf _) ⟨by rw [nJd]; (repeat first | rw [if_pos (by omega)] | rw [if_neg (by omega)]) <;> (try (show some (vI _) = some (vI (jdA _ t w)); rw [jdA]; (repeat first | rw [if_pos (by omega)] | rw [if_neg (by omega)]))) <;> rfl, rfl, by rw [nJd]; (repeat first | rw [if_pos (by omega)] | rw [if_neg (by omega)]) <;> rfl⟩
        · refine g_iload_n fx dX11_judge_59 rfl ?_
          refine g_goto (tgt := 85) fx dX11_judge_60 (by decide) ?_
          exact g_iret fx rfl dX11_judge_85 (by decide) (by decide) (gw_le.rf _) ⟨by rw [nJd]; (repeat first | rw [if_pos (by omega)] | rw [if_neg (by omega)]) <;> (try (show some (vI _) = some (vI (jdA _ t w)); rw [jdA]; (repeat first | rw [if_pos (by omega)] | rw [if_neg (by omega)]))) <;> rfl, rfl, by rw [nJd]; (repeat first | rw [if_pos (by omega)] | rw [if_neg (by omega)]) <;> rfl⟩
    · refine g_iconst fx dX11_judge_38 (by unfold okI; omega) ?_
      exact g_iret fx rfl dX11_judge_39 (by decide) (by decide) (gw_le.rf _) ⟨by rw [nJd]; (repeat first | rw [if_pos (by omega)] | rw [if_neg (by omega)]) <;> (try (show some (vI _) = some (vI (jdA _ t w)); rw [jdA]; (repeat first | rw [if_pos (by omega)] | rw [if_neg (by omega)]))) <;> rfl, rfl, by rw [nJd]; (repeat first | rw [if_pos (by omega)] | rw [if_neg (by omega)]) <;> rfl⟩
  refine g_aload_n fx dX11_judge_0 rfl ?_
  refine g_aload_n fx dX11_judge_1 rfl ?_
  refine g_iload_n fx dX11_judge_2 rfl ?_
  refine g_callVD fx dX11_judge_3 mv_RX11_340 my_X11_trayFault (s_X11_trayFault ad _ _) o_223 rfl rfl rfl (Nat.le_of_ble_eq_true rfl) (by decide) (by decide) ?_
  refine g_puti fx dX11_judge_6 fk_RX11_88 o_223 ?_
  refine gw_cg (σ' := nThr σ (nTf σ t)) rfl rfl ?_
  refine g_aload_n fx dX11_judge_9 rfl ?_
  refine g_geti fx dX11_judge_10 fk_RX11_88 (by decide) o_223 ?_
  refine gw_cgt rfl (show nThr σ (nTf σ t) 223 5 = nTf σ t from su_same _ _ _ _) ?_
  refine g_if_ne (tgt := 31) fx dX11_judge_13 (by decide) (fun h13 => ?_) (fun h13 => ?_)
  · exact gw_cg (by rw [jdV]; (repeat first | rw [if_pos (by omega)] | rw [if_neg (by omega)]) <;> first | rfl | exact su_su _ _ _ _ _) rfl j31
  · refine g_iload_n fx dX11_judge_16 rfl ?_
    refine g_i2l fx dX11_judge_17 ?_
    refine g_lconst0 fx dX11_judge_18 ?_
    refine g_lconst1 fx dX11_judge_19 ?_
    refine g_callSD fx dX11_judge_20 ms_RX11_147 my_X11_within (s_X11_within ad _ _ _ _) rfl rfl (Nat.le_of_ble_eq_true rfl) (by decide) (by decide) ?_
    refine g_if_ne (tgt := 31) fx dX11_judge_23 (by decide) (fun h23 => ?_) (fun h23 => ?_)
    · exact gw_cg (by rw [jdV]; (repeat first | rw [if_pos (by omega)] | rw [if_neg (by omega)]) <;> first | rfl | exact su_su _ _ _ _ _) rfl j31
    · refine g_aload_n fx dX11_judge_26 rfl ?_
      refine g_iconst fx dX11_judge_27 (by unfold okI; omega) ?_
      refine g_puti fx dX11_judge_28 fk_RX11_88 o_223 ?_
      exact gw_cg (by rw [jdV]; (repeat first | rw [if_pos (by omega)] | rw [if_neg (by omega)]) <;> first | rfl | exact su_su _ _ _ _ _) rfl j31
set_option maxRecDepth 4000 in
theorem s_X11_isOrder (ad : Nat → Nat) (σ : Sg)  (t : Int) (hT : TW (σ 224)) (hTr : TrW σ) (h : 0 ≤ t ∧ t ≤ 3) : gw_Sp yX11_isOrder cX11_isOrder 5 (some .boolean) 3 0 0 [vR (some 223), vI t] (gw_M0 ad) σ (gw_D (some (vI (nio σ t).1)) (gw_M0 ad) ((nio σ t).2)) gw_no := by
  refine gw_Sp.of [some (vR (some 223)), some (vI t), none, none, none] (by decide +kernel) rfl (Nat.le_of_ble_eq_true rfl) ?_
  intro X G fx het hnm
  have ht := hTr.at h.1 h.2
  have hP0 := hT.p0
  have hP := hT.p60
  have j22 : gw_W X (yX11_isOrder.cls, cX11_isOrder, 5, (some .boolean), 3, 0, 0) G (gw_Z X G (gw_M0 ad) σ (gw_D (some (vI (nio σ t).1)) (gw_M0 ad) ((nio σ t).2)) gw_no 0 0) 0 0 (gw_M0 ad) (σ) 22 [some (vR (some 223)), some (vI t), none, none, none] [vI (nio0 σ t)] := by
    refine g_istore_n fx dX11_isOrder_22 (by decide) rfl rfl ?_
    refine g_iconst fx dX11_isOrder_23 (by unfold okI; omega) ?_
    refine g_istore_n fx dX11_isOrder_24 (by decide) rfl rfl ?_
    have loop25 : ∀ k : Nat, k ≤ (σ 246 t.toNat).toNat → gw_W X (yX11_isOrder.cls, cX11_isOrder, 5, (some .boolean), 3, 0, 0) G (gw_Z X G (gw_M0 ad) σ (gw_D (some (vI (nio σ t).1)) (gw_M0 ad) ((nio σ t).2)) gw_no 0 0) 0 0 (gw_M0 ad) ((nioL σ t k).2) 25 [some (vR (some 223)), some (vI t), some (vI (nioL σ t k).1), some (vI (k : Nat)), none] [] := by
      refine up_ind _ ((σ 246 t.toNat).toNat) (fun k hk ih25 => ?_)
      have e4 : (nioL σ t k).2 246 t.toNat = σ 246 t.toNat := by rw [nioL_ne σ t k (show 246 ≠ 240 by decide)]
      have e5 : (nioL σ t k).2 224 = σ 224 := nioL_ne σ t k (by decide)
      refine g_iload_n fx dX11_isOrder_25 rfl ?_
      refine g_aload_n fx dX11_isOrder_26 rfl ?_
      refine g_getr fx dX11_isOrder_27 fk_RX11_81 o_223 rf_223_40 ?_
      refine g_iload_n fx dX11_isOrder_30 rfl ?_
      refine g_iald fx dX11_isOrder_31 o_246 (by omega) (by show _ < ((4 : Nat) : Int); omega) ?_
      refine g_icmp_ge (tgt := 120) fx dX11_isOrder_32 (by decide) (fun h32 => ?_) (fun h32 => ?_)
      · have hL : nioL σ t k = nio σ t := by
          rw [nio]
          first
          | rw [show (σ 246 t.toNat).toNat = k by omega]
          | (rw [show (σ 246 t.toNat).toNat = k + ((σ 246 t.toNat).toNat - k) by omega]; exact (nioL_z σ t k (by assumption) _).symm)
        rw [hL]
        refine g_iload_n fx dX11_isOrder_120 rfl ?_
        exact g_zret fx rfl dX11_isOrder_121 (nio_b σ t _) (by decide) (by decide) (gw_le.rf _) ⟨rfl, rfl, rfl⟩
      · refine g_iload_n fx dX11_isOrder_35 rfl ?_
        refine g_if_eq (tgt := 120) fx dX11_isOrder_36 (by decide) (fun h36 => ?_) (fun h36 => ?_)
        · have hL : nioL σ t k = nio σ t := by
            rw [nio]
            first
            | rw [show (σ 246 t.toNat).toNat = k by omega]
            | (rw [show (σ 246 t.toNat).toNat = k + ((σ 246 t.toNat).toNat - k) by omega]; exact (nioL_z σ t k (by assumption) _).symm)
          rw [hL]
          refine g_iload_n fx dX11_isOrder_120 rfl ?_
          exact g_zret fx rfl dX11_isOrder_121 (nio_b σ t _) (by decide) (by decide) (gw_le.rf _) ⟨rfl, rfl, rfl⟩
        · refine g_aload_n fx dX11_isOrder_39 rfl ?_
          refine g_aload_n fx dX11_isOrder_40 rfl ?_
          refine g_getr fx dX11_isOrder_41 fk_RX11_84 o_223 rf_223_41 ?_
          refine g_bipush fx dX11_isOrder_44 (by decide) ?_
          refine g_iload_n fx dX11_isOrder_46 rfl ?_
          refine g_imul fx dX11_isOrder_47 ?_
          refine g_iload_n fx dX11_isOrder_48 rfl ?_
          refine g_iadd fx dX11_isOrder_49 ?_
          refine gw_cgt rfl (ix60 h (by omega)) ?_
          refine g_lald fx dX11_isOrder_50 o_247 (by omega) (by show _ < ((240 : Nat) : Int); omega) ?_
          have e7 : (nioL σ t k).2 247 (60 * t + ((k : Nat) : Int)).toNat = σ 247 (60 * t + ((k : Nat) : Int)).toNat := by rw [nioL_ne σ t k (show 247 ≠ 240 by decide)]
          refine g_callVD fx dX11_isOrder_51 mv_RX11_329 my_X11_isPiece (s_X11_isPiece ad _ _) o_223 rfl rfl rfl (Nat.le_of_ble_eq_true rfl) (by decide) (by decide) ?_
          refine g_istore_n fx dX11_isOrder_54 (by decide) rfl rfl ?_
          refine g_aload_n fx dX11_isOrder_55 rfl ?_
          refine g_getr fx dX11_isOrder_56 fk_RX11_63 o_223 rf_223_29 ?_
          refine g_iload_n fx dX11_isOrder_59 rfl ?_
          refine g_aload_n fx dX11_isOrder_60 rfl ?_
          refine g_getr fx dX11_isOrder_61 fk_RX11_84 o_223 rf_223_41 ?_
          refine g_bipush fx dX11_isOrder_64 (by decide) ?_
          refine g_iload_n fx dX11_isOrder_66 rfl ?_
          refine g_imul fx dX11_isOrder_67 ?_
          refine g_iload_n fx dX11_isOrder_68 rfl ?_
          refine g_iadd fx dX11_isOrder_69 ?_
          refine gw_cgt rfl (ix60 h (by omega)) ?_
          refine g_lald fx dX11_isOrder_70 o_247 (by omega) (by show _ < ((240 : Nat) : Int); omega) ?_
          refine g_l2i fx dX11_isOrder_71 ?_
          refine g_iast fx dX11_isOrder_72 o_240 (by omega) (by show _ < ((60 : Nat) : Int); omega) ?_
          rw [show ((k : Nat) : Int).toNat = k from rfl]
          refine gw_cg (σ' := nioW t k (nioL σ t k).2) rfl rfl ?_
          refine g_iconst fx dX11_isOrder_73 (by unfold okI; omega) ?_
          refine g_istore fx dX11_isOrder_74 (by decide) rfl rfl ?_
          have loop76 : ∀ i : Nat, i ≤ k → gw_W X (yX11_isOrder.cls, cX11_isOrder, 5, (some .boolean), 3, 0, 0) G (gw_Z X G (gw_M0 ad) σ (gw_D (some (vI (nio σ t).1)) (gw_M0 ad) ((nio σ t).2)) gw_no 0 0) 0 0 (gw_M0 ad) ((nioW t k (nioL σ t k).2)) 76 [some (vR (some 223)), some (vI t), some (vI (itr i (niI (nioW t k (nioL σ t k).2) k) (nIsP (nioL σ t k).2 ((nioL σ t k).2 247 (60 * t + ((k : Nat) : Int)).toNat)))), some (vI (k : Nat)), some (vI (i : Nat))] [] := by
            refine up_ind _ (k) (fun i hi ih => ?_)
            refine g_iload fx dX11_isOrder_76 rfl ?_
            refine g_iload_n fx dX11_isOrder_78 rfl ?_
            refine g_icmp_ge (tgt := 114) fx dX11_isOrder_79 (by decide) (fun h79 => ?_) (fun h79 => ?_)
            · refine g_iinc1 fx dX11_isOrder_114 (by decide) rfl rfl (by unfold okI; omega) rfl ?_
              refine g_goto (tgt := 25) fx dX11_isOrder_117 (by decide) ?_
              refine g_kill 4 rfl ?_
              exact gw_cg (by rw [nioL_s, if_neg (by assumption)]) (by rw [nioL_s, if_neg (by assumption), show ((k : Nat) : Int) + 1 = ((k + 1 : Nat) : Int) by omega, nioB, show k = i by omega] <;> rfl) (ih25 (by omega))
            · refine g_iload_n fx dX11_isOrder_82 rfl ?_
              refine g_if_eq (tgt := 106) fx dX11_isOrder_83 (by decide) (fun h83 => ?_) (fun h83 => ?_)
              · refine g_iconst fx dX11_isOrder_106 (by unfold okI; omega) ?_
                refine g_istore_n fx dX11_isOrder_107 (by decide) rfl rfl ?_
                refine g_iinc1 fx dX11_isOrder_108 (by decide) rfl rfl (by unfold okI; omega) rfl ?_
                refine g_goto (tgt := 76) fx dX11_isOrder_111 (by decide) ?_
                exact gw_cg rfl (by rw [itr_s, niI, show ((i : Nat) : Int) + 1 = ((i + 1 : Nat) : Int) by omega]; (repeat first | rw [if_pos (by omega)] | rw [if_neg (by omega)]) <;> rfl) (ih (by omega))
              · refine g_aload_n fx dX11_isOrder_86 rfl ?_
                refine g_getr fx dX11_isOrder_87 fk_RX11_63 o_223 rf_223_29 ?_
                refine g_iload fx dX11_isOrder_90 rfl ?_
                refine g_iald fx dX11_isOrder_92 o_240 (by omega) (by show _ < ((60 : Nat) : Int); omega) ?_
                rw [show ((i : Nat) : Int).toNat = i from rfl]
                refine g_aload_n fx dX11_isOrder_93 rfl ?_
                refine g_getr fx dX11_isOrder_94 fk_RX11_63 o_223 rf_223_29 ?_
                refine g_iload_n fx dX11_isOrder_97 rfl ?_
                refine g_iald fx dX11_isOrder_98 o_240 (by omega) (by show _ < ((60 : Nat) : Int); omega) ?_
                rw [show ((k : Nat) : Int).toNat = k from rfl]
                refine g_icmp_eq (tgt := 106) fx dX11_isOrder_99 (by decide) (fun h99 => ?_) (fun h99 => ?_)
                · refine g_iconst fx dX11_isOrder_106 (by unfold okI; omega) ?_
                  refine g_istore_n fx dX11_isOrder_107 (by decide) rfl rfl ?_
                  refine g_iinc1 fx dX11_isOrder_108 (by decide) rfl rfl (by unfold okI; omega) rfl ?_
                  refine g_goto (tgt := 76) fx dX11_isOrder_111 (by decide) ?_
                  exact gw_cg rfl (by rw [itr_s, niI, show ((i : Nat) : Int) + 1 = ((i + 1 : Nat) : Int) by omega]; (repeat first | rw [if_pos (by omega)] | rw [if_neg (by omega)]) <;> rfl) (ih (by omega))
                · refine g_iconst fx dX11_isOrder_102 (by unfold okI; omega) ?_
                  refine g_goto (tgt := 107) fx dX11_isOrder_103 (by decide) ?_
                  refine g_istore_n fx dX11_isOrder_107 (by decide) rfl rfl ?_
                  refine g_iinc1 fx dX11_isOrder_108 (by decide) rfl rfl (by unfold okI; omega) rfl ?_
                  refine g_goto (tgt := 76) fx dX11_isOrder_111 (by decide) ?_
                  exact gw_cg rfl (by rw [itr_s, niI, show ((i : Nat) : Int) + 1 = ((i + 1 : Nat) : Int) by omega]; (repeat first | rw [if_pos (by omega)] | rw [if_neg (by omega)]) <;> rfl) (ih (by omega))
          exact loop76 0 (Nat.zero_le _)
    exact loop25 0 (Nat.zero_le _)
  refine g_aload_n fx dX11_isOrder_0 rfl ?_
  refine g_getr fx dX11_isOrder_1 fk_RX11_81 o_223 rf_223_40 ?_
  refine g_iload_n fx dX11_isOrder_4 rfl ?_
  refine g_iald fx dX11_isOrder_5 o_246 (by omega) (by show _ < ((4 : Nat) : Int); omega) ?_
  refine g_aload_n fx dX11_isOrder_6 rfl ?_
  refine g_getr fx dX11_isOrder_7 fk_RX11_9 o_223 rf_223_0 ?_
  refine g_sipush fx dX11_isOrder_10 (by decide) ?_
  refine g_iald fx dX11_isOrder_13 o_224 (by decide) (by decide) ?_
  rw [show Int.toNat 668 = 668 from rfl]
  refine g_icmp_ne (tgt := 21) fx dX11_isOrder_14 (by decide) (fun h14 => ?_) (fun h14 => ?_)
  · refine g_iconst fx dX11_isOrder_21 (by unfold okI; omega) ?_
    exact gw_cgt rfl (by rw [nio0]; (repeat first | rw [if_pos (by omega)] | rw [if_neg (by omega)]) <;> rfl) j22
  · refine g_iconst fx dX11_isOrder_17 (by unfold okI; omega) ?_
    refine g_goto (tgt := 22) fx dX11_isOrder_18 (by decide) ?_
    exact gw_cgt rfl (by rw [nio0]; (repeat first | rw [if_pos (by omega)] | rw [if_neg (by omega)]) <;> rfl) j22
set_option maxRecDepth 4000 in
theorem s_X11_costOfOrder (ad : Nat → Nat) (σ : Sg)  (hT : TW (σ 224)) (hO : OrW σ) : gw_Sp yX11_costOfOrder cX11_costOfOrder 2 (some .int) 5 0 0 [vR (some 223)] (gw_M0 ad) σ (gw_D (some (vI (nCo (nCoo σ)))) (gw_M0 ad) (nCoo σ)) gw_no := by
  refine gw_Sp.of [some (vR (some 223)), none] (by decide +kernel) rfl (Nat.le_of_ble_eq_true rfl) ?_
  intro X G fx het hnm
  have hP0 := hT.p0
  have hP := hT.p60
  refine g_aload_n fx dX11_costOfOrder_0 rfl ?_
  refine g_callVD0 fx dX11_costOfOrder_1 mv_RX11_302 my_X11_forgets (s_X11_forgets ad _ (by first | exact hT | exact hTx)) o_223 rfl rfl rfl (Nat.le_of_ble_eq_true rfl) (by decide) (by decide) ?_
  refine g_iconst fx dX11_costOfOrder_4 (by unfold okI; omega) ?_
  refine g_istore_n fx dX11_costOfOrder_5 (by decide) rfl rfl ?_
  have loop6 : ∀ k : Nat, k ≤ (σ 224 668).toNat → gw_W X (yX11_costOfOrder.cls, cX11_costOfOrder, 2, (some .int), 5, 0, 0) G (gw_Z X G (gw_M0 ad) σ (gw_D (some (vI (nCo (nCoo σ)))) (gw_M0 ad) (nCoo σ)) gw_no 0 0) 0 0 (gw_M0 ad) ((nCooL σ k)) 6 [some (vR (some 223)), some (vI (k : Nat))] [] := by
    refine up_ind _ ((σ 224 668).toNat) (fun k hk ih => ?_)
    have e668 : (nCooL σ k) 224 668 = σ 224 668 := by rw [(nCooL_k hT k (by omega)).2.1]
    refine g_iload_n fx dX11_costOfOrder_6 rfl ?_
    refine g_aload_n fx dX11_costOfOrder_7 rfl ?_
    refine g_getr fx dX11_costOfOrder_8 fk_RX11_9 o_223 rf_223_0 ?_
    refine g_sipush fx dX11_costOfOrder_11 (by decide) ?_
    refine g_iald fx dX11_costOfOrder_14 o_224 (by decide) (by decide) ?_
    rw [show Int.toNat 668 = 668 from rfl]
    refine g_icmp_ge (tgt := 60) fx dX11_costOfOrder_15 (by decide) (fun h15 => ?_) (fun h15 => ?_)
    · have hL : nCooL σ k = nCoo σ := by rw [nCoo, show (σ 224 668).toNat = k by omega]
      rw [hL]
      have hTx := TW_coo hT
      refine g_aload_n fx dX11_costOfOrder_60 rfl ?_
      refine g_callVD fx dX11_costOfOrder_61 mv_RX11_326 my_X11_costNow (s_X11_costNow ad _ (by first | exact TW_ru hT | exact hTx)) o_223 rfl rfl rfl (Nat.le_of_ble_eq_true rfl) (by decide) (by decide) ?_
      exact g_iret fx rfl dX11_costOfOrder_64 (by decide) (by decide) (gw_le.rf _) ⟨rfl, rfl, rfl⟩
    · have hk1 := nCooL_k hT k (by omega)
      have e240 : (nCooL σ k) 240 k = σ 240 k := by rw [hk1.2.2.2]
      have ho := hO k (by omega)
      have hP2 : (nCooL σ k) 224 668 = σ 224 668 := by rw [hk1.2.1]
      have hso := hk1.1.so (p := (nCooL σ k) 240 k) (by omega) (by omega)
      have hS2 := hk1.1.1.sacks
      refine g_aload_n fx dX11_costOfOrder_18 rfl ?_
      refine g_aload_n fx dX11_costOfOrder_19 rfl ?_
      refine g_getr fx dX11_costOfOrder_20 fk_RX11_63 o_223 rf_223_29 ?_
      refine g_iload_n fx dX11_costOfOrder_23 rfl ?_
      refine g_iald fx dX11_costOfOrder_24 o_240 (by omega) (by show _ < ((60 : Nat) : Int); omega) ?_
      rw [show ((k : Nat) : Int).toNat = k from rfl]
      refine g_iconst fx dX11_costOfOrder_25 (by unfold okI; omega) ?_
      refine g_aload_n fx dX11_costOfOrder_26 rfl ?_
      refine g_getr fx dX11_costOfOrder_27 fk_RX11_51 o_223 rf_223_23 ?_
      refine g_iconst fx dX11_costOfOrder_30 (by unfold okI; omega) ?_
      refine g_iald fx dX11_costOfOrder_31 o_236 (by decide) (by decide) ?_
      rw [show Int.toNat 0 = 0 from rfl]
      refine g_aload_n fx dX11_costOfOrder_32 rfl ?_
      refine g_aload_n fx dX11_costOfOrder_33 rfl ?_
      refine g_getr fx dX11_costOfOrder_34 fk_RX11_36 o_223 rf_223_18 ?_
      refine g_aload_n fx dX11_costOfOrder_37 rfl ?_
      refine g_getr fx dX11_costOfOrder_38 fk_RX11_63 o_223 rf_223_29 ?_
      refine g_iload_n fx dX11_costOfOrder_41 rfl ?_
      refine g_iald fx dX11_costOfOrder_42 o_240 (by omega) (by show _ < ((60 : Nat) : Int); omega) ?_
      rw [show ((k : Nat) : Int).toNat = k from rfl]
      refine g_iald fx dX11_costOfOrder_43 o_231 (by omega) (by show _ < ((60 : Nat) : Int); omega) ?_
      refine g_iconst fx dX11_costOfOrder_44 (by unfold okI; omega) ?_
      refine g_callVD fx dX11_costOfOrder_45 mv_RX11_242 my_X11_of (s_X11_of ad _ _ _ (by omega)) o_223 rfl rfl rfl (Nat.le_of_ble_eq_true rfl) (by decide) (by decide) ?_
      refine g_max fx dX11_costOfOrder_48 mm_RX11_268 (by decide) (by decide) (by decide) (Nat.le_of_ble_eq_true rfl) ?_
      refine g_callVD0 fx dX11_costOfOrder_51 mv_RX11_311 my_X11_begins (s_X11_begins ad _ _ _ _ hk1.1 (by omega) (by omega) (by rw [hk1.2.2.1]; omega)) o_223 rfl rfl rfl (Nat.le_of_ble_eq_true rfl) (by decide) (by decide) ?_
      refine g_iinc1 fx dX11_costOfOrder_54 (by decide) rfl rfl (by unfold okI; omega) rfl ?_
      refine g_goto (tgt := 6) fx dX11_costOfOrder_57 (by decide) ?_
      exact gw_cg rfl (by rw [show ((k : Nat) : Int) + 1 = ((k + 1 : Nat) : Int) by omega] <;> rfl) (ih (by omega))
  exact loop6 0 (Nat.zero_le _)
set_option maxRecDepth 4000 in
theorem s_X11_cost (ad : Nat → Nat) (σ : Sg)  (t : Int) (hT : TW (σ 224)) (hTr : TrW σ) : gw_Sp yX11_cost cX11_cost 2 (some .int) 6 0 0 [vR (some 223), vI t] (gw_M0 ad) σ (gw_D (some (vI (nTC σ t).1)) (gw_M0 ad) ((nTC σ t).2)) gw_no := by
  refine gw_Sp.of [some (vR (some 223)), some (vI t)] (by decide +kernel) rfl (Nat.le_of_ble_eq_true rfl) ?_
  intro X G fx het hnm
  refine g_aload_n fx dX11_cost_0 rfl ?_
  refine g_aload_n fx dX11_cost_1 rfl ?_
  refine g_iload_n fx dX11_cost_2 rfl ?_
  refine g_callVD fx dX11_cost_3 mv_RX11_340 my_X11_trayFault (s_X11_trayFault ad _ _) o_223 rfl rfl rfl (Nat.le_of_ble_eq_true rfl) (by decide) (by decide) ?_
  refine g_puti fx dX11_cost_6 fk_RX11_88 o_223 ?_
  refine gw_cg (σ' := nThr σ (nTf σ t)) rfl rfl ?_
  refine g_aload_n fx dX11_cost_9 rfl ?_
  refine g_geti fx dX11_cost_10 fk_RX11_88 (by decide) o_223 ?_
  refine gw_cgt rfl (show nThr σ (nTf σ t) 223 5 = nTf σ t from su_same _ _ _ _) ?_
  refine g_if_le (tgt := 18) fx dX11_cost_13 (by decide) (fun h13 => ?_) (fun h13 => ?_)
  · have hi := (nTf_0 h13).1
    refine g_aload_n fx dX11_cost_18 rfl ?_
    refine g_iload_n fx dX11_cost_19 rfl ?_
    refine g_callVD fx dX11_cost_20 mv_RX11_346 my_X11_isOrder (s_X11_isOrder ad (nThr σ (nTf σ t)) t hT hTr hi) o_223 rfl rfl rfl (Nat.le_of_ble_eq_true rfl) (by decide) (by decide) ?_
    refine g_if_eq (tgt := 33) fx dX11_cost_23 (by decide) (fun h23 => ?_) (fun h23 => ?_)
    · refine g_iconst fx dX11_cost_33 (by unfold okI; omega) ?_
      exact g_iret fx rfl dX11_cost_34 (by decide) (by decide) (gw_le.rf _) ⟨by first | (exfalso; omega) | (rw [nTC]; (repeat first | rw [if_pos (by omega)] | rw [if_neg (by omega)]) <;> rfl), rfl, by first | (exfalso; omega) | (rw [nTC]; (repeat first | rw [if_pos (by omega)] | rw [if_neg (by omega)]) <;> rfl)⟩
    · refine g_aload_n fx dX11_cost_26 rfl ?_
      refine g_callVD fx dX11_cost_27 mv_RX11_349 my_X11_costOfOrder (s_X11_costOfOrder ad _ (TW_io (σ := (nThr σ (nTf σ t))) hT t) (OrW_io (σ := (nThr σ (nTf σ t))) hT (by assumption))) o_223 rfl rfl rfl (Nat.le_of_ble_eq_true rfl) (by decide) (by decide) ?_
      refine g_goto (tgt := 34) fx dX11_cost_30 (by decide) ?_
      exact g_iret fx rfl dX11_cost_34 (by decide) (by decide) (gw_le.rf _) ⟨by first | (exfalso; omega) | (rw [nTC]; (repeat first | rw [if_pos (by omega)] | rw [if_neg (by omega)]) <;> rfl), rfl, by first | (exfalso; omega) | (rw [nTC]; (repeat first | rw [if_pos (by omega)] | rw [if_neg (by omega)]) <;> rfl)⟩
  · refine g_iconst fx dX11_cost_16 (by unfold okI; omega) ?_
    exact g_iret fx rfl dX11_cost_17 (by decide) (by decide) (gw_le.rf _) ⟨by first | (exfalso; omega) | (rw [nTC]; (repeat first | rw [if_pos (by omega)] | rw [if_neg (by omega)]) <;> rfl), rfl, by first | (exfalso; omega) | (rw [nTC]; (repeat first | rw [if_pos (by omega)] | rw [if_neg (by omega)]) <;> rfl)⟩
set_option maxRecDepth 4000 in
theorem s_X11_swap (ad : Nat → Nat) (σ : Sg)  (t : Int) (k : Int) (hT : TW (σ 224)) (hTr : TrW σ) : gw_Sp yX11_swap cX11_swap 5 (some .int) 6 0 0 [vR (some 223), vI t, vI k] (gw_M0 ad) σ (gw_D (some (vI (nSw σ t k).1)) (gw_M0 ad) ((nSw σ t k).2)) gw_no := by
  refine gw_Sp.of [some (vR (some 223)), some (vI t), some (vI k), none, none] (by decide +kernel) rfl (Nat.le_of_ble_eq_true rfl) ?_
  intro X G fx het hnm
  have j39 : gw_W X (yX11_swap.cls, cX11_swap, 5, (some .int), 6, 0, 0) G (gw_Z X G (gw_M0 ad) σ (gw_D (some (vI (nSw σ t k).1)) (gw_M0 ad) ((nSw σ t k).2)) gw_no 0 0) 0 0 (gw_M0 ad) ((nThr σ (swV σ t k))) 39 [some (vR (some 223)), some (vI t), some (vI k), none, none] [] := by
    refine g_aload_n fx dX11_swap_39 rfl ?_
    refine g_geti fx dX11_swap_40 fk_RX11_88 (by decide) o_223 ?_
    refine gw_cgt rfl (show nThr σ (swV σ t k) 223 5 = swV σ t k from su_same _ _ _ _) ?_
    refine g_if_gt (tgt := 54) fx dX11_swap_43 (by decide) (fun h43 => ?_) (fun h43 => ?_)
    · refine g_iconst fx dX11_swap_54 (by unfold okI; omega) ?_
      exact g_iret fx rfl dX11_swap_55 (by decide) (by decide) (gw_le.rf _) ⟨by first | (exfalso; omega) | (rw [nSw]; (repeat first | rw [if_pos (by omega)] | rw [if_neg (by omega)]) <;> rfl), rfl, by first | (exfalso; omega) | (rw [nSw]; (repeat first | rw [if_pos (by omega)] | rw [if_neg (by omega)]) <;> rfl)⟩
    · have hi := (nTf_0 (swV_0 h43).1).1
      have hk0 := wth_1 (swV_0 h43).2
      have ht := hTr.at hi.1 hi.2
      rw [wr_id (by unfold okI; omega)] at hk0
      refine g_aload_n fx dX11_swap_46 rfl ?_
      refine g_iload_n fx dX11_swap_47 rfl ?_
      refine g_callVD fx dX11_swap_48 mv_RX11_346 my_X11_isOrder (s_X11_isOrder ad (nThr σ (swV σ t k)) t hT hTr hi) o_223 rfl rfl rfl (Nat.le_of_ble_eq_true rfl) (by decide) (by decide) ?_
      refine g_if_ne (tgt := 56) fx dX11_swap_51 (by decide) (fun h51 => ?_) (fun h51 => ?_)
      · have hOk := OrW_io (σ := (nThr σ (swV σ t k))) hT h51
        have hTi := TW_io (σ := (nThr σ (swV σ t k))) hT t
        have hm := (nioL_1 (σ := (nThr σ (swV σ t k))) hT t _ h51).1
        have e9 : (nio (nThr σ (swV σ t k)) t).2 224 = (nThr σ (swV σ t k)) 224 := nioL_ne (nThr σ (swV σ t k)) t _ (by decide)
        have hP := hT.p60
        refine g_aload_n fx dX11_swap_56 rfl ?_
        refine g_callVD fx dX11_swap_57 mv_RX11_349 my_X11_costOfOrder (s_X11_costOfOrder ad _ hTi hOk) o_223 rfl rfl rfl (Nat.le_of_ble_eq_true rfl) (by decide) (by decide) ?_
        refine g_istore_n fx dX11_swap_60 (by decide) rfl rfl ?_
        refine g_aload_n fx dX11_swap_61 rfl ?_
        refine g_getr fx dX11_swap_62 fk_RX11_63 o_223 rf_223_29 ?_
        refine g_iload_n fx dX11_swap_65 rfl ?_
        refine g_iald fx dX11_swap_66 o_240 (by omega) (by show _ < ((60 : Nat) : Int); change σ 246 t.toNat = σ 224 668 at hm; omega) ?_
        refine g_istore fx dX11_swap_67 (by decide) rfl rfl ?_
        refine g_aload_n fx dX11_swap_69 rfl ?_
        refine g_getr fx dX11_swap_70 fk_RX11_63 o_223 rf_223_29 ?_
        refine g_iload_n fx dX11_swap_73 rfl ?_
        refine g_aload_n fx dX11_swap_74 rfl ?_
        refine g_getr fx dX11_swap_75 fk_RX11_63 o_223 rf_223_29 ?_
        refine g_iload_n fx dX11_swap_78 rfl ?_
        refine g_iconst fx dX11_swap_79 (by unfold okI; omega) ?_
        refine g_iadd fx dX11_swap_80 ?_
        refine gw_cgt rfl (wr_id (show okI (k + 1) by unfold okI; omega)) ?_
        refine g_iald fx dX11_swap_81 o_240 (by omega) (by show _ < ((60 : Nat) : Int); change σ 246 t.toNat = σ 224 668 at hm; omega) ?_
        refine g_iast fx dX11_swap_82 o_240 (by omega) (by show _ < ((60 : Nat) : Int); change σ 246 t.toNat = σ 224 668 at hm; omega) ?_
        refine g_aload_n fx dX11_swap_83 rfl ?_
        refine g_getr fx dX11_swap_84 fk_RX11_63 o_223 rf_223_29 ?_
        refine g_iload_n fx dX11_swap_87 rfl ?_
        refine g_iconst fx dX11_swap_88 (by unfold okI; omega) ?_
        refine g_iadd fx dX11_swap_89 ?_
        refine gw_cgt rfl (wr_id (show okI (k + 1) by unfold okI; omega)) ?_
        refine g_iload fx dX11_swap_90 rfl ?_
        refine g_iast fx dX11_swap_92 o_240 (by omega) (by show _ < ((60 : Nat) : Int); change σ 246 t.toNat = σ 224 668 at hm; omega) ?_
        refine gw_cg (σ' := sw1 (nCoo (nio (nThr σ (swV σ t k)) t).2) k) rfl rfl ?_
        have hTc := TW_coo hTi
        have hOc := OrW_sw (OrW_coo hTi hOk) (k := k) (by omega) (by rw [nCoo_224 hTi, e9]; show k + 1 < σ 224 668; change σ 246 t.toNat = σ 224 668 at hm; omega)
        refine g_aload_n fx dX11_swap_93 rfl ?_
        refine g_callVD fx dX11_swap_94 mv_RX11_349 my_X11_costOfOrder (s_X11_costOfOrder ad _ hTc hOc) o_223 rfl rfl rfl (Nat.le_of_ble_eq_true rfl) (by decide) (by decide) ?_
        refine g_iload_n fx dX11_swap_97 rfl ?_
        refine g_isub fx dX11_swap_98 ?_
        exact g_iret fx rfl dX11_swap_99 (by decide) (by decide) (gw_le.rf _) ⟨by first | (exfalso; omega) | (rw [nSw]; (repeat first | rw [if_pos (by omega)] | rw [if_neg (by omega)]) <;> rfl), rfl, by first | (exfalso; omega) | (rw [nSw]; (repeat first | rw [if_pos (by omega)] | rw [if_neg (by omega)]) <;> rfl)⟩
      · refine g_iconst fx dX11_swap_54 (by unfold okI; omega) ?_
        exact g_iret fx rfl dX11_swap_55 (by decide) (by decide) (gw_le.rf _) ⟨by first | (exfalso; omega) | (rw [nSw]; (repeat first | rw [if_pos (by omega)] | rw [if_neg (by omega)]) <;> rfl), rfl, by first | (exfalso; omega) | (rw [nSw]; (repeat first | rw [if_pos (by omega)] | rw [if_neg (by omega)]) <;> rfl)⟩
  refine g_aload_n fx dX11_swap_0 rfl ?_
  refine g_aload_n fx dX11_swap_1 rfl ?_
  refine g_iload_n fx dX11_swap_2 rfl ?_
  refine g_callVD fx dX11_swap_3 mv_RX11_340 my_X11_trayFault (s_X11_trayFault ad _ _) o_223 rfl rfl rfl (Nat.le_of_ble_eq_true rfl) (by decide) (by decide) ?_
  refine g_puti fx dX11_swap_6 fk_RX11_88 o_223 ?_
  refine gw_cg (σ' := nThr σ (nTf σ t)) rfl rfl ?_
  refine g_aload_n fx dX11_swap_9 rfl ?_
  refine g_geti fx dX11_swap_10 fk_RX11_88 (by decide) o_223 ?_
  refine gw_cgt rfl (show nThr σ (nTf σ t) 223 5 = nTf σ t from su_same _ _ _ _) ?_
  refine g_if_ne (tgt := 39) fx dX11_swap_13 (by decide) (fun h13 => ?_) (fun h13 => ?_)
  · exact gw_cg (by rw [swV]; (repeat first | rw [if_pos (by omega)] | rw [if_neg (by omega)]) <;> first | rfl | exact su_su _ _ _ _ _) rfl j39
  · have hi0 := (nTf_0 (σ := σ) (t := t) (by omega)).1
    have ht := hTr.at hi0.1 hi0.2
    refine g_iload_n fx dX11_swap_16 rfl ?_
    refine g_i2l fx dX11_swap_17 ?_
    refine g_lconst0 fx dX11_swap_18 ?_
    refine g_aload_n fx dX11_swap_19 rfl ?_
    refine g_getr fx dX11_swap_20 fk_RX11_81 o_223 rf_223_40 ?_
    refine g_iload_n fx dX11_swap_23 rfl ?_
    refine g_iald fx dX11_swap_24 o_246 (by omega) (by show _ < ((4 : Nat) : Int); omega) ?_
    refine g_iconst fx dX11_swap_25 (by unfold okI; omega) ?_
    refine g_isub fx dX11_swap_26 ?_
    refine g_i2l fx dX11_swap_27 ?_
    refine g_callSD fx dX11_swap_28 ms_RX11_147 my_X11_within (s_X11_within ad _ _ _ _) rfl rfl (Nat.le_of_ble_eq_true rfl) (by decide) (by decide) ?_
    refine gw_cgt rfl (show wth k 0 (wr (nThr σ (nTf σ t) 246 t.toNat - 2)) = wth k 0 (wr (σ 246 t.toNat - 2)) from rfl) ?_
    refine g_if_ne (tgt := 39) fx dX11_swap_31 (by decide) (fun h31 => ?_) (fun h31 => ?_)
    · exact gw_cg (by rw [swV]; (repeat first | rw [if_pos (by omega)] | rw [if_neg (by omega)]) <;> first | rfl | exact su_su _ _ _ _ _) rfl j39
    · refine g_aload_n fx dX11_swap_34 rfl ?_
      refine g_iconst fx dX11_swap_35 (by unfold okI; omega) ?_
      refine g_puti fx dX11_swap_36 fk_RX11_88 o_223 ?_
      exact gw_cg (by rw [swV]; (repeat first | rw [if_pos (by omega)] | rw [if_neg (by omega)]) <;> first | rfl | exact su_su _ _ _ _ _) rfl j39
set_option maxRecDepth 4000 in
theorem s_X11_tray (ad : Nat → Nat) (σ : Sg)  (i : Int) (s : Int) (n : Int) (N : Nat) (hN : N = 60) : gw_Sp yX11_tray cX11_tray 5 none 3 0 0 [vR (some 223), vI i, vI s, vI n] (gw_M0 ad) σ (gw_D none (gw_M0 ad) (nTr σ i s n N)) gw_no := by
  refine gw_Sp.of [some (vR (some 223)), some (vI i), some (vI s), some (vI n), none] (by decide +kernel) rfl (Nat.le_of_ble_eq_true rfl) ?_
  intro X G fx het hnm
  have j41 : gw_W X (yX11_tray.cls, cX11_tray, 5, none, 3, 0, 0) G (gw_Z X G (gw_M0 ad) σ (gw_D none (gw_M0 ad) (nTr σ i s n N)) gw_no 0 0) 0 0 (gw_M0 ad) (σ) 41 [some (vR (some 223)), some (vI i), some (vI s), some (vI n), none] [vI (ntV i s n), vR (some 223)] := by
    refine g_puti fx dX11_tray_41 fk_RX11_88 o_223 ?_
    refine gw_cg (σ' := nThr σ (ntV i s n)) rfl rfl ?_
    refine g_aload_n fx dX11_tray_44 rfl ?_
    refine g_geti fx dX11_tray_45 fk_RX11_88 (by decide) o_223 ?_
    refine gw_cgt rfl (show nThr σ (ntV i s n) 223 5 = ntV i s n from su_same _ _ _ _) ?_
    refine g_if_le (tgt := 52) fx dX11_tray_48 (by decide) (fun h48 => ?_) (fun h48 => ?_)
    · have hi := ntV_0 h48
      have h := hi.1
      refine g_aload_n fx dX11_tray_52 rfl ?_
      refine g_getr fx dX11_tray_53 fk_RX11_78 o_223 rf_223_39 ?_
      refine g_iload_n fx dX11_tray_56 rfl ?_
      refine g_iload_n fx dX11_tray_57 rfl ?_
      refine g_iast fx dX11_tray_58 o_245 (by omega) (by show _ < ((4 : Nat) : Int); omega) ?_
      refine g_aload_n fx dX11_tray_59 rfl ?_
      refine g_getr fx dX11_tray_60 fk_RX11_81 o_223 rf_223_40 ?_
      refine g_iload_n fx dX11_tray_63 rfl ?_
      refine g_iload_n fx dX11_tray_64 rfl ?_
      refine g_iast fx dX11_tray_65 o_246 (by omega) (by show _ < ((4 : Nat) : Int); omega) ?_
      refine g_iconst fx dX11_tray_66 (by unfold okI; omega) ?_
      refine g_istore fx dX11_tray_67 (by decide) rfl rfl ?_
      have loop69 : ∀ k : Nat, k ≤ N → gw_W X (yX11_tray.cls, cX11_tray, 5, none, 3, 0, 0) G (gw_Z X G (gw_M0 ad) σ (gw_D none (gw_M0 ad) (nTr σ i s n N)) gw_no 0 0) 0 0 (gw_M0 ad) ((itr k (ntS i) (ntX σ i s n))) 69 [some (vR (some 223)), some (vI i), some (vI s), some (vI n), some (vI (k : Nat))] [] := by
        refine up_ind _ (N) (fun k hk ih => ?_)
        refine g_iload fx dX11_tray_69 rfl ?_
        refine g_bipush fx dX11_tray_71 (by decide) ?_
        refine g_icmp_ge (tgt := 95) fx dX11_tray_73 (by decide) (fun h73 => ?_) (fun h73 => ?_)
        · exact g_vret fx rfl dX11_tray_95 (by decide) (by decide) (gw_le.rf _) ⟨rfl, rfl, by rw [nTr, if_neg (by omega), show N = k by omega]⟩
        · refine g_aload_n fx dX11_tray_76 rfl ?_
          refine g_getr fx dX11_tray_77 fk_RX11_84 o_223 rf_223_41 ?_
          refine g_bipush fx dX11_tray_80 (by decide) ?_
          refine g_iload_n fx dX11_tray_82 rfl ?_
          refine g_imul fx dX11_tray_83 ?_
          refine g_iload fx dX11_tray_84 rfl ?_
          refine g_iadd fx dX11_tray_86 ?_
          refine gw_cgt rfl (ix60 h (by omega)) ?_
          refine g_lconst0 fx dX11_tray_87 ?_
          refine g_last fx dX11_tray_88 o_247 (by omega) (by show _ < ((240 : Nat) : Int); omega) ?_
          refine gw_cg rfl rfl ?_
          refine g_iinc1 fx dX11_tray_89 (by decide) rfl rfl (by unfold okI; omega) rfl ?_
          refine g_goto (tgt := 69) fx dX11_tray_92 (by decide) ?_
          exact gw_cg (by rw [itr_s, ntS]) (by rw [show ((k : Nat) : Int) + 1 = ((k + 1 : Nat) : Int) by omega] <;> rfl) (ih (by omega))
      exact loop69 0 (Nat.zero_le _)
    · exact g_vret fx rfl dX11_tray_51 (by decide) (by decide) (gw_le.rf _) ⟨rfl, rfl, by rw [nTr, if_pos (by omega)]⟩
  refine g_aload_n fx dX11_tray_0 rfl ?_
  refine g_iload_n fx dX11_tray_1 rfl ?_
  refine g_callSD fx dX11_tray_2 ms_RX11_256 my_X11_isTray (s_X11_isTray ad _ _) rfl rfl (Nat.le_of_ble_eq_true rfl) (by decide) (by decide) ?_
  refine g_if_ne (tgt := 12) fx dX11_tray_5 (by decide) (fun h5 => ?_) (fun h5 => ?_)
  · refine g_iload_n fx dX11_tray_12 rfl ?_
    refine g_i2l fx dX11_tray_13 ?_
    refine g_lconst0 fx dX11_tray_14 ?_
    refine g_ldcL fx dX11_tray_15 kc_RX11_338 (by unfold okJ; omega) ?_
    refine g_callSD fx dX11_tray_18 ms_RX11_147 my_X11_within (s_X11_within ad _ _ _ _) rfl rfl (Nat.le_of_ble_eq_true rfl) (by decide) (by decide) ?_
    refine g_if_eq (tgt := 36) fx dX11_tray_21 (by decide) (fun h21 => ?_) (fun h21 => ?_)
    · refine g_iconst fx dX11_tray_36 (by unfold okI; omega) ?_
      refine g_goto (tgt := 41) fx dX11_tray_37 (by decide) ?_
      exact gw_cgt rfl (by rw [ntV]; (repeat first | rw [if_pos (by omega)] | rw [if_neg (by omega)]) <;> rfl) j41
    · refine g_iload_n fx dX11_tray_24 rfl ?_
      refine g_i2l fx dX11_tray_25 ?_
      refine g_lconst0 fx dX11_tray_26 ?_
      refine g_ldcL fx dX11_tray_27 kc_RX11_420 (by unfold okJ; omega) ?_
      refine g_callSD fx dX11_tray_30 ms_RX11_147 my_X11_within (s_X11_within ad _ _ _ _) rfl rfl (Nat.le_of_ble_eq_true rfl) (by decide) (by decide) ?_
      refine g_if_ne (tgt := 40) fx dX11_tray_33 (by decide) (fun h33 => ?_) (fun h33 => ?_)
      · refine g_iconst fx dX11_tray_40 (by unfold okI; omega) ?_
        exact gw_cgt rfl (by rw [ntV]; (repeat first | rw [if_pos (by omega)] | rw [if_neg (by omega)]) <;> rfl) j41
      · refine g_iconst fx dX11_tray_36 (by unfold okI; omega) ?_
        refine g_goto (tgt := 41) fx dX11_tray_37 (by decide) ?_
        exact gw_cgt rfl (by rw [ntV]; (repeat first | rw [if_pos (by omega)] | rw [if_neg (by omega)]) <;> rfl) j41
  · refine g_iconst fx dX11_tray_8 (by unfold okI; omega) ?_
    refine g_goto (tgt := 41) fx dX11_tray_9 (by decide) ?_
    exact gw_cgt rfl (by rw [ntV]; (repeat first | rw [if_pos (by omega)] | rw [if_neg (by omega)]) <;> rfl) j41
set_option maxRecDepth 4000 in
theorem s_X11_cut (ad : Nat → Nat) (σ : Sg)  (t : Int) (p : Int) (v : Int) (h : 0 ≤ t ∧ t ≤ 3) (hp : 0 ≤ p ∧ p < 60) : gw_Sp yX11_cut cX11_cut 6 (some .long) 1 0 0 [vR (some 223), vI t, vI p, vJ v] (gw_M0 ad) σ (gw_D (some (vJ (ncV σ t v))) (gw_M0 ad) (nCut σ t p v)) gw_no := by
  refine gw_Sp.of [some (vR (some 223)), some (vI t), some (vI p), some (vJ v), none, none] (by decide +kernel) rfl (Nat.le_of_ble_eq_true rfl) ?_
  intro X G fx het hnm
  refine g_bipush fx dX11_cut_0 (by decide) ?_
  refine g_bipush fx dX11_cut_2 (by decide) ?_
  refine g_aload_n fx dX11_cut_4 rfl ?_
  refine g_getr fx dX11_cut_5 fk_RX11_78 o_223 rf_223_39 ?_
  refine g_iload_n fx dX11_cut_8 rfl ?_
  refine g_iald fx dX11_cut_9 o_245 (by omega) (by show _ < ((4 : Nat) : Int); omega) ?_
  refine g_ishl fx dX11_cut_10 ?_
  refine g_isub fx dX11_cut_11 ?_
  refine g_istore fx dX11_cut_12 (by decide) rfl rfl ?_
  refine g_aload_n fx dX11_cut_14 rfl ?_
  refine g_getr fx dX11_cut_15 fk_RX11_84 o_223 rf_223_41 ?_
  refine g_bipush fx dX11_cut_18 (by decide) ?_
  refine g_iload_n fx dX11_cut_20 rfl ?_
  refine g_imul fx dX11_cut_21 ?_
  refine g_iload_n fx dX11_cut_22 rfl ?_
  refine g_iadd fx dX11_cut_23 ?_
  refine gw_cgt rfl (ix60 h (by omega)) ?_
  refine g_lload_n fx dX11_cut_24 rfl ?_
  refine g_iload fx dX11_cut_25 rfl ?_
  refine g_lshl fx dX11_cut_27 ?_
  refine g_iload fx dX11_cut_28 rfl ?_
  refine g_lshr fx dX11_cut_30 ?_
  refine g_last fx dX11_cut_31 o_247 (by omega) (by show _ < ((240 : Nat) : Int); omega) ?_
  refine g_aload_n fx dX11_cut_32 rfl ?_
  refine g_getr fx dX11_cut_33 fk_RX11_84 o_223 rf_223_41 ?_
  refine g_bipush fx dX11_cut_36 (by decide) ?_
  refine g_iload_n fx dX11_cut_38 rfl ?_
  refine g_imul fx dX11_cut_39 ?_
  refine g_iload_n fx dX11_cut_40 rfl ?_
  refine g_iadd fx dX11_cut_41 ?_
  refine gw_cgt rfl (ix60 h (by omega)) ?_
  refine g_lald fx dX11_cut_42 o_247 (by omega) (by show _ < ((240 : Nat) : Int); omega) ?_
  refine gw_cgJ rfl (show nCut σ t p v 247 (60 * t + p).toNat = ncV σ t v from su_same _ _ _ _) ?_
  exact g_lret fx rfl dX11_cut_43 (by decide) (by decide) (gw_le.rf _) ⟨rfl, rfl, rfl⟩
