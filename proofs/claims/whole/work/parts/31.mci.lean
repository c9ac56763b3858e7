theorem dX10_runByOne_0 : gw_dc cX10_runByOne 0 (.aload_n 0) 1 1 := ⟨by decide +kernel, rfl⟩
theorem dX10_runByOne_1 : gw_dc cX10_runByOne 1 (.getfield 53) 3 4 := ⟨by decide +kernel, rfl⟩
theorem fk_RX10_53 : gw_fk RX10 53 10 6 14 1 true := ⟨_, _, _, ck_10, by decide, by decide, fun h => absurd h (by decide), fun h => absurd h (by decide), fun _ => Or.inl ⟨_, rfl⟩, rfl, Or.inl (gw_mem 511 (by decide +kernel) rfl)⟩
theorem rf_0_6 {ad : Nat → Nat} : (gw_M0 ad).2.2 0 6 = some 74 := (by decide +kernel : gw_rh 0 6 = some 74)
theorem dX10_runByOne_4 : gw_dc cX10_runByOne 4 (.aload_n 0) 1 5 := ⟨by decide +kernel, rfl⟩
theorem dX10_runByOne_5 : gw_dc cX10_runByOne 5 (.getfield 28) 3 8 := ⟨by decide +kernel, rfl⟩
theorem dX10_runByOne_8 : gw_dc cX10_runByOne 8 (.invokevirtual 111) 3 11 := ⟨by decide +kernel, rfl⟩
theorem dX10_runByOne_11 : gw_dc cX10_runByOne 11 (.aload_n 0) 1 12 := ⟨by decide +kernel, rfl⟩
theorem dX10_runByOne_12 : gw_dc cX10_runByOne 12 (.getfield 53) 3 15 := ⟨by decide +kernel, rfl⟩
theorem dX10_runByOne_15 : gw_dc cX10_runByOne 15 (.getfield 130) 3 18 := ⟨by decide +kernel, rfl⟩
theorem rf_74_0 {ad : Nat → Nat} : (gw_M0 ad).2.2 74 0 = some 75 := (by decide +kernel : gw_rh 74 0 = some 75)
theorem in_75 : 75 ∈ gw_laws := by decide +kernel
theorem dX10_runByOne_18 : gw_dc cX10_runByOne 18 (.iload_n 1) 1 19 := ⟨by decide +kernel, rfl⟩
theorem dX10_runByOne_19 : gw_dc cX10_runByOne 19 (.invokevirtual 392) 3 22 := ⟨by decide +kernel, rfl⟩
theorem mv_RX10_392 : gw_mv RX10 392 yX0_setOne := ⟨gw_mem 735 (by decide +kernel) rfl, gw_mem 199 (by decide +kernel) rfl, gw_mem 200 (by decide +kernel) rfl⟩
theorem my_X0_setOne : gw_my yX0_setOne cX0_setOne 2 none 1 := ⟨gw_mem 201 (by decide +kernel) rfl, gw_mem 99 (by decide +kernel) rfl, by decide +kernel, by decide⟩
theorem dX10_runByOne_22 : gw_dc cX10_runByOne 22 (.aload_n 0) 1 23 := ⟨by decide +kernel, rfl⟩
theorem dX10_runByOne_23 : gw_dc cX10_runByOne 23 (.getfield 56) 3 26 := ⟨by decide +kernel, rfl⟩
theorem fk_RX10_56 : gw_fk RX10 56 10 7 14 1 true := ⟨_, _, _, ck_10, by decide, by decide, fun h => absurd h (by decide), fun h => absurd h (by decide), fun _ => Or.inl ⟨_, rfl⟩, rfl, Or.inl (gw_mem 512 (by decide +kernel) rfl)⟩
theorem rf_0_7 {ad : Nat → Nat} : (gw_M0 ad).2.2 0 7 = some 96 := (by decide +kernel : gw_rh 0 7 = some 96)
theorem dX10_runByOne_26 : gw_dc cX10_runByOne 26 (.invokevirtual 189) 3 29 := ⟨by decide +kernel, rfl⟩
theorem dX10_runByOne_29 : decode cX10_runByOne 29 = .ok (.return_, 1) := by decide +kernel
theorem dX10_by_0 : gw_dc cX10_by 0 (.iload_n 1) 1 1 := ⟨by decide +kernel, rfl⟩
theorem dX10_by_1 : gw_dc cX10_by 1 (.ifCond .lt 9) 3 4 := ⟨by decide +kernel, rfl⟩
theorem eX10_by_10 : decode cX10_by 10 = .ok (.new 142, 3) := by decide +kernel
theorem eX10_by_13 : decode cX10_by 13 = .ok (.dup, 1) := by decide +kernel
theorem eX10_by_14 : decode cX10_by 14 = .ok (.ldc_w 382, 3) := by decide +kernel
theorem eX10_by_17 : decode cX10_by 17 = .ok (.invokespecial 146, 3) := by decide +kernel
theorem eX10_by_20 : decode cX10_by 20 = .ok (.athrow, 1) := by decide +kernel
theorem dX10_by_4 : gw_dc cX10_by 4 (.iload_n 1) 1 5 := ⟨by decide +kernel, rfl⟩
theorem dX10_by_5 : gw_dc cX10_by 5 (.bipush 8) 2 7 := ⟨by decide +kernel, rfl⟩
theorem dX10_by_7 : gw_dc cX10_by 7 (.if_icmp .lt 14) 3 10 := ⟨by decide +kernel, rfl⟩
theorem dX10_by_21 : gw_dc cX10_by 21 (.aload_n 0) 1 22 := ⟨by decide +kernel, rfl⟩
theorem dX10_by_22 : gw_dc cX10_by 22 (.iload_n 1) 1 23 := ⟨by decide +kernel, rfl⟩
theorem dX10_by_23 : gw_dc cX10_by 23 (.invokevirtual 384) 3 26 := ⟨by decide +kernel, rfl⟩
theorem mv_RX10_384 : gw_mv RX10 384 yX10_runByOne := ⟨gw_mem 721 (by decide +kernel) rfl, gw_mem 723 (by decide +kernel) rfl, gw_mem 8 (by decide +kernel) rfl⟩
theorem my_X10_runByOne : gw_my yX10_runByOne cX10_runByOne 2 none 1 := ⟨gw_mem 724 (by decide +kernel) rfl, gw_mem 95 (by decide +kernel) rfl, by decide +kernel, by decide⟩
theorem dX10_by_26 : gw_dc cX10_by 26 (.aload_n 0) 1 27 := ⟨by decide +kernel, rfl⟩
theorem dX10_by_27 : gw_dc cX10_by 27 (.getfield 56) 3 30 := ⟨by decide +kernel, rfl⟩
theorem dX10_by_30 : gw_dc cX10_by 30 (.invokevirtual 263) 3 33 := ⟨by decide +kernel, rfl⟩
theorem dX10_by_33 : decode cX10_by 33 = .ok (.ireturn, 1) := by decide +kernel
theorem dX10_bestLaw_0 : gw_dc cX10_bestLaw 0 (.iconst 0) 1 1 := ⟨by decide +kernel, rfl⟩
theorem dX10_bestLaw_1 : gw_dc cX10_bestLaw 1 (.istore_n 1) 1 2 := ⟨by decide +kernel, rfl⟩
theorem dX10_bestLaw_2 : gw_dc cX10_bestLaw 2 (.ldc_w 387) 3 5 := ⟨by decide +kernel, rfl⟩
theorem kc_RX10_387 : Cond.constant RX10 387 (Int32.ofInt 1000000000) ∈ wsG := gw_mem 720 (by decide +kernel) rfl
theorem dX10_bestLaw_5 : gw_dc cX10_bestLaw 5 (.istore_n 2) 1 6 := ⟨by decide +kernel, rfl⟩
theorem dX10_bestLaw_6 : gw_dc cX10_bestLaw 6 (.iconst 0) 1 7 := ⟨by decide +kernel, rfl⟩
theorem dX10_bestLaw_7 : gw_dc cX10_bestLaw 7 (.istore_n 3) 1 8 := ⟨by decide +kernel, rfl⟩
theorem dX10_bestLaw_8 : gw_dc cX10_bestLaw 8 (.iload_n 3) 1 9 := ⟨by decide +kernel, rfl⟩
theorem dX10_bestLaw_9 : gw_dc cX10_bestLaw 9 (.bipush 8) 2 11 := ⟨by decide +kernel, rfl⟩
theorem dX10_bestLaw_11 : gw_dc cX10_bestLaw 11 (.if_icmp .ge 35) 3 14 := ⟨by decide +kernel, rfl⟩
theorem dX10_bestLaw_46 : gw_dc cX10_bestLaw 46 (.iload_n 1) 1 47 := ⟨by decide +kernel, rfl⟩
theorem dX10_bestLaw_47 : decode cX10_bestLaw 47 = .ok (.ireturn, 1) := by decide +kernel
theorem dX10_bestLaw_14 : gw_dc cX10_bestLaw 14 (.aload_n 0) 1 15 := ⟨by decide +kernel, rfl⟩
theorem dX10_bestLaw_15 : gw_dc cX10_bestLaw 15 (.iload_n 3) 1 16 := ⟨by decide +kernel, rfl⟩
theorem dX10_bestLaw_16 : gw_dc cX10_bestLaw 16 (.invokevirtual 384) 3 19 := ⟨by decide +kernel, rfl⟩
theorem dX10_bestLaw_19 : gw_dc cX10_bestLaw 19 (.aload_n 0) 1 20 := ⟨by decide +kernel, rfl⟩
theorem dX10_bestLaw_20 : gw_dc cX10_bestLaw 20 (.getfield 56) 3 23 := ⟨by decide +kernel, rfl⟩
theorem dX10_bestLaw_23 : gw_dc cX10_bestLaw 23 (.invokevirtual 263) 3 26 := ⟨by decide +kernel, rfl⟩
theorem dX10_bestLaw_26 : gw_dc cX10_bestLaw 26 (.iload_n 2) 1 27 := ⟨by decide +kernel, rfl⟩
theorem dX10_bestLaw_27 : gw_dc cX10_bestLaw 27 (.if_icmp .ge 13) 3 30 := ⟨by decide +kernel, rfl⟩
theorem dX10_bestLaw_40 : gw_dc cX10_bestLaw 40 (.iinc 3 1) 3 43 := ⟨by decide +kernel, rfl⟩
theorem dX10_bestLaw_43 : gw_dc cX10_bestLaw 43 (.goto (-35)) 3 46 := ⟨by decide +kernel, rfl⟩
theorem dX10_bestLaw_30 : gw_dc cX10_bestLaw 30 (.iload_n 3) 1 31 := ⟨by decide +kernel, rfl⟩
theorem dX10_bestLaw_31 : gw_dc cX10_bestLaw 31 (.istore_n 1) 1 32 := ⟨by decide +kernel, rfl⟩
theorem dX10_bestLaw_32 : gw_dc cX10_bestLaw 32 (.aload_n 0) 1 33 := ⟨by decide +kernel, rfl⟩
theorem dX10_bestLaw_33 : gw_dc cX10_bestLaw 33 (.getfield 56) 3 36 := ⟨by decide +kernel, rfl⟩
theorem dX10_bestLaw_36 : gw_dc cX10_bestLaw 36 (.invokevirtual 263) 3 39 := ⟨by decide +kernel, rfl⟩
theorem dX10_bestLaw_39 : gw_dc cX10_bestLaw 39 (.istore_n 2) 1 40 := ⟨by decide +kernel, rfl⟩
theorem dX10_fits_0 : gw_dc cX10_fits 0 (.iconst 0) 1 1 := ⟨by decide +kernel, rfl⟩
theorem dX10_fits_1 : gw_dc cX10_fits 1 (.istore_n 2) 1 2 := ⟨by decide +kernel, rfl⟩
theorem dX10_fits_2 : gw_dc cX10_fits 2 (.aload_n 0) 1 3 := ⟨by decide +kernel, rfl⟩
theorem dX10_fits_3 : gw_dc cX10_fits 3 (.aload_n 0) 1 4 := ⟨by decide +kernel, rfl⟩
theorem dX10_fits_4 : gw_dc cX10_fits 4 (.iload_n 1) 1 5 := ⟨by decide +kernel, rfl⟩
theorem dX10_fits_5 : gw_dc cX10_fits 5 (.invokevirtual 205) 3 8 := ⟨by decide +kernel, rfl⟩
theorem dX10_fits_8 : gw_dc cX10_fits 8 (.invokevirtual 304) 3 11 := ⟨by decide +kernel, rfl⟩
theorem dX10_fits_11 : gw_dc cX10_fits 11 (.ifCond .eq 46) 3 14 := ⟨by decide +kernel, rfl⟩
theorem dX10_fits_57 : gw_dc cX10_fits 57 (.iload_n 2) 1 58 := ⟨by decide +kernel, rfl⟩
theorem dX10_fits_58 : decode cX10_fits 58 = .ok (.ireturn, 1) := by decide +kernel
theorem dX10_fits_14 : gw_dc cX10_fits 14 (.iconst 0) 1 15 := ⟨by decide +kernel, rfl⟩
theorem dX10_fits_15 : gw_dc cX10_fits 15 (.istore_n 3) 1 16 := ⟨by decide +kernel, rfl⟩
theorem dX10_fits_16 : gw_dc cX10_fits 16 (.iload_n 3) 1 17 := ⟨by decide +kernel, rfl⟩
theorem dX10_fits_17 : gw_dc cX10_fits 17 (.bipush 8) 2 19 := ⟨by decide +kernel, rfl⟩
theorem dX10_fits_19 : gw_dc cX10_fits 19 (.if_icmp .ge 38) 3 22 := ⟨by decide +kernel, rfl⟩
theorem dX10_fits_22 : gw_dc cX10_fits 22 (.aload_n 0) 1 23 := ⟨by decide +kernel, rfl⟩
theorem dX10_fits_23 : gw_dc cX10_fits 23 (.iload_n 3) 1 24 := ⟨by decide +kernel, rfl⟩
theorem dX10_fits_24 : gw_dc cX10_fits 24 (.invokevirtual 384) 3 27 := ⟨by decide +kernel, rfl⟩
theorem dX10_fits_27 : gw_dc cX10_fits 27 (.iload_n 2) 1 28 := ⟨by decide +kernel, rfl⟩
theorem dX10_fits_28 : gw_dc cX10_fits 28 (.aload_n 0) 1 29 := ⟨by decide +kernel, rfl⟩
theorem dX10_fits_29 : gw_dc cX10_fits 29 (.getfield 56) 3 32 := ⟨by decide +kernel, rfl⟩
theorem dX10_fits_32 : gw_dc cX10_fits 32 (.aload_n 0) 1 33 := ⟨by decide +kernel, rfl⟩
theorem dX10_fits_33 : gw_dc cX10_fits 33 (.getfield 80) 3 36 := ⟨by decide +kernel, rfl⟩
theorem dX10_fits_36 : gw_dc cX10_fits 36 (.invokevirtual 388) 3 39 := ⟨by decide +kernel, rfl⟩
theorem mv_RX10_388 : gw_mv RX10 388 yX5_isOrdered := ⟨gw_mem 1322 (by decide +kernel) rfl, gw_mem 1323 (by decide +kernel) rfl, gw_mem 1324 (by decide +kernel) rfl⟩
theorem my_X5_isOrdered : gw_my yX5_isOrdered cX5_isOrdered 4 (some .boolean) 1 := ⟨gw_mem 1325 (by decide +kernel) rfl, gw_mem 101 (by decide +kernel) rfl, by decide +kernel, by decide⟩
theorem dX10_fits_39 : gw_dc cX10_fits 39 (.ifCond .eq 9) 3 42 := ⟨by decide +kernel, rfl⟩
theorem dX10_fits_48 : gw_dc cX10_fits 48 (.iconst 0) 1 49 := ⟨by decide +kernel, rfl⟩
theorem dX10_fits_49 : gw_dc cX10_fits 49 (.ior) 1 50 := ⟨by decide +kernel, rfl⟩
theorem dX10_fits_50 : gw_dc cX10_fits 50 (.istore_n 2) 1 51 := ⟨by decide +kernel, rfl⟩
theorem dX10_fits_51 : gw_dc cX10_fits 51 (.iinc 3 1) 3 54 := ⟨by decide +kernel, rfl⟩
theorem dX10_fits_54 : gw_dc cX10_fits 54 (.goto (-38)) 3 57 := ⟨by decide +kernel, rfl⟩
theorem dX10_fits_42 : gw_dc cX10_fits 42 (.iconst 1) 1 43 := ⟨by decide +kernel, rfl⟩
theorem dX10_fits_43 : gw_dc cX10_fits 43 (.iload_n 3) 1 44 := ⟨by decide +kernel, rfl⟩
theorem dX10_fits_44 : gw_dc cX10_fits 44 (.ishl) 1 45 := ⟨by decide +kernel, rfl⟩
theorem dX10_fits_45 : gw_dc cX10_fits 45 (.goto 4) 3 48 := ⟨by decide +kernel, rfl⟩
theorem dX10_waitOnDay_0 : gw_dc cX10_waitOnDay 0 (.aload_n 0) 1 1 := ⟨by decide +kernel, rfl⟩
theorem dX10_waitOnDay_1 : gw_dc cX10_waitOnDay 1 (.getfield 53) 3 4 := ⟨by decide +kernel, rfl⟩
theorem dX10_waitOnDay_4 : gw_dc cX10_waitOnDay 4 (.aload_n 0) 1 5 := ⟨by decide +kernel, rfl⟩
theorem dX10_waitOnDay_5 : gw_dc cX10_waitOnDay 5 (.getfield 28) 3 8 := ⟨by decide +kernel, rfl⟩
theorem dX10_waitOnDay_8 : gw_dc cX10_waitOnDay 8 (.invokevirtual 111) 3 11 := ⟨by decide +kernel, rfl⟩
theorem dX10_waitOnDay_11 : gw_dc cX10_waitOnDay 11 (.aload_n 0) 1 12 := ⟨by decide +kernel, rfl⟩
theorem dX10_waitOnDay_12 : gw_dc cX10_waitOnDay 12 (.getfield 53) 3 15 := ⟨by decide +kernel, rfl⟩
theorem dX10_waitOnDay_15 : gw_dc cX10_waitOnDay 15 (.iload_n 2) 1 16 := ⟨by decide +kernel, rfl⟩
theorem dX10_waitOnDay_16 : gw_dc cX10_waitOnDay 16 (.iload_n 3) 1 17 := ⟨by decide +kernel, rfl⟩
theorem dX10_waitOnDay_17 : gw_dc cX10_waitOnDay 17 (.iload 4) 2 19 := ⟨by decide +kernel, rfl⟩
theorem dX10_waitOnDay_19 : gw_dc cX10_waitOnDay 19 (.invokevirtual 406) 3 22 := ⟨by decide +kernel, rfl⟩
theorem mv_RX10_406 : gw_mv RX10 406 yX1_addStrangers := ⟨gw_mem 1342 (by decide +kernel) rfl, gw_mem 1343 (by decide +kernel) rfl, gw_mem 1344 (by decide +kernel) rfl⟩
theorem my_X1_addStrangers : gw_my yX1_addStrangers cX1_addStrangers 7 none 3 := ⟨gw_mem 1345 (by decide +kernel) rfl, gw_mem 98 (by decide +kernel) rfl, by decide +kernel, by decide⟩
theorem dX10_waitOnDay_22 : gw_dc cX10_waitOnDay 22 (.aload_n 0) 1 23 := ⟨by decide +kernel, rfl⟩
theorem dX10_waitOnDay_23 : gw_dc cX10_waitOnDay 23 (.getfield 56) 3 26 := ⟨by decide +kernel, rfl⟩
theorem dX10_waitOnDay_26 : gw_dc cX10_waitOnDay 26 (.invokevirtual 189) 3 29 := ⟨by decide +kernel, rfl⟩
theorem dX10_waitOnDay_29 : gw_dc cX10_waitOnDay 29 (.aload_n 0) 1 30 := ⟨by decide +kernel, rfl⟩
theorem dX10_waitOnDay_30 : gw_dc cX10_waitOnDay 30 (.getfield 56) 3 33 := ⟨by decide +kernel, rfl⟩
theorem dX10_waitOnDay_33 : gw_dc cX10_waitOnDay 33 (.iload_n 1) 1 34 := ⟨by decide +kernel, rfl⟩
theorem dX10_waitOnDay_34 : gw_dc cX10_waitOnDay 34 (.invokevirtual 252) 3 37 := ⟨by decide +kernel, rfl⟩
theorem dX10_waitOnDay_37 : decode cX10_waitOnDay 37 = .ok (.ireturn, 1) := by decide +kernel
theorem dX10_day_0 : gw_dc cX10_day 0 (.aload_n 0) 1 1 := ⟨by decide +kernel, rfl⟩
theorem dX10_day_1 : gw_dc cX10_day 1 (.iload_n 1) 1 2 := ⟨by decide +kernel, rfl⟩
theorem dX10_day_2 : gw_dc cX10_day 2 (.invokevirtual 149) 3 5 := ⟨by decide +kernel, rfl⟩
theorem dX10_day_5 : gw_dc cX10_day 5 (.aload_n 0) 1 6 := ⟨by decide +kernel, rfl⟩
theorem dX10_day_6 : gw_dc cX10_day 6 (.iload_n 3) 1 7 := ⟨by decide +kernel, rfl⟩
theorem dX10_day_7 : gw_dc cX10_day 7 (.iload 4) 2 9 := ⟨by decide +kernel, rfl⟩
theorem dX10_day_9 : gw_dc cX10_day 9 (.invokevirtual 395) 3 12 := ⟨by decide +kernel, rfl⟩
theorem mv_RX10_395 : gw_mv RX10 395 yX10_needStrangers := ⟨gw_mem 1333 (by decide +kernel) rfl, gw_mem 1335 (by decide +kernel) rfl, gw_mem 34 (by decide +kernel) rfl⟩
theorem my_X10_needStrangers : gw_my yX10_needStrangers cX10_needStrangers 3 none 2 := ⟨gw_mem 1336 (by decide +kernel) rfl, gw_mem 95 (by decide +kernel) rfl, by decide +kernel, by decide⟩
theorem dX10_day_12 : gw_dc cX10_day 12 (.aload_n 0) 1 13 := ⟨by decide +kernel, rfl⟩
theorem dX10_day_13 : gw_dc cX10_day 13 (.iload_n 1) 1 14 := ⟨by decide +kernel, rfl⟩
theorem dX10_day_14 : gw_dc cX10_day 14 (.iload_n 2) 1 15 := ⟨by decide +kernel, rfl⟩
theorem dX10_day_15 : gw_dc cX10_day 15 (.iload_n 3) 1 16 := ⟨by decide +kernel, rfl⟩
theorem dX10_day_16 : gw_dc cX10_day 16 (.iload 4) 2 18 := ⟨by decide +kernel, rfl⟩
theorem dX10_day_18 : gw_dc cX10_day 18 (.invokevirtual 398) 3 21 := ⟨by decide +kernel, rfl⟩
theorem mv_RX10_398 : gw_mv RX10 398 yX10_waitOnDay := ⟨gw_mem 1338 (by decide +kernel) rfl, gw_mem 1340 (by decide +kernel) rfl, gw_mem 35 (by decide +kernel) rfl⟩
theorem my_X10_waitOnDay : gw_my yX10_waitOnDay cX10_waitOnDay 5 (some .int) 4 := ⟨gw_mem 1341 (by decide +kernel) rfl, gw_mem 95 (by decide +kernel) rfl, by decide +kernel, by decide⟩
theorem dX10_day_21 : decode cX10_day 21 = .ok (.ireturn, 1) := by decide +kernel
theorem dX10_days_0 : gw_dc cX10_days 0 (.aload_n 0) 1 1 := ⟨by decide +kernel, rfl⟩
theorem dX10_days_1 : gw_dc cX10_days 1 (.iload_n 1) 1 2 := ⟨by decide +kernel, rfl⟩
theorem dX10_days_2 : gw_dc cX10_days 2 (.invokevirtual 149) 3 5 := ⟨by decide +kernel, rfl⟩
theorem dX10_days_5 : gw_dc cX10_days 5 (.iload_n 2) 1 6 := ⟨by decide +kernel, rfl⟩
theorem dX10_days_6 : gw_dc cX10_days 6 (.iconst 1) 1 7 := ⟨by decide +kernel, rfl⟩
theorem dX10_days_7 : gw_dc cX10_days 7 (.if_icmp .lt 9) 3 10 := ⟨by decide +kernel, rfl⟩
theorem eX10_days_16 : decode cX10_days 16 = .ok (.new 142, 3) := by decide +kernel
theorem eX10_days_19 : decode cX10_days 19 = .ok (.dup, 1) := by decide +kernel
theorem eX10_days_20 : decode cX10_days 20 = .ok (.ldc_w 402, 3) := by decide +kernel
theorem eX10_days_23 : decode cX10_days 23 = .ok (.invokespecial 146, 3) := by decide +kernel
theorem eX10_days_26 : decode cX10_days 26 = .ok (.athrow, 1) := by decide +kernel
theorem dX10_days_10 : gw_dc cX10_days 10 (.iload_n 2) 1 11 := ⟨by decide +kernel, rfl⟩
theorem dX10_days_11 : gw_dc cX10_days 11 (.bipush 30) 2 13 := ⟨by decide +kernel, rfl⟩
theorem dX10_days_13 : gw_dc cX10_days 13 (.if_icmp .le 14) 3 16 := ⟨by decide +kernel, rfl⟩
theorem dX10_days_27 : gw_dc cX10_days 27 (.aload_n 0) 1 28 := ⟨by decide +kernel, rfl⟩
theorem dX10_days_28 : gw_dc cX10_days 28 (.iload_n 3) 1 29 := ⟨by decide +kernel, rfl⟩
theorem dX10_days_29 : gw_dc cX10_days 29 (.iload 4) 2 31 := ⟨by decide +kernel, rfl⟩
theorem dX10_days_31 : gw_dc cX10_days 31 (.invokevirtual 395) 3 34 := ⟨by decide +kernel, rfl⟩
theorem dX10_days_34 : gw_dc cX10_days 34 (.aload_n 0) 1 35 := ⟨by decide +kernel, rfl⟩
theorem dX10_days_35 : gw_dc cX10_days 35 (.iload 5) 2 37 := ⟨by decide +kernel, rfl⟩
theorem dX10_days_37 : gw_dc cX10_days 37 (.iconst 2) 1 38 := ⟨by decide +kernel, rfl⟩
theorem dX10_days_38 : gw_dc cX10_days 38 (.invokevirtual 185) 3 41 := ⟨by decide +kernel, rfl⟩
theorem dX10_days_41 : gw_dc cX10_days 41 (.iconst (-1)) 1 42 := ⟨by decide +kernel, rfl⟩
theorem dX10_days_42 : gw_dc cX10_days 42 (.istore 6) 2 44 := ⟨by decide +kernel, rfl⟩
theorem dX10_days_44 : gw_dc cX10_days 44 (.iconst (-1)) 1 45 := ⟨by decide +kernel, rfl⟩
theorem dX10_days_45 : gw_dc cX10_days 45 (.istore 7) 2 47 := ⟨by decide +kernel, rfl⟩
theorem dX10_days_47 : gw_dc cX10_days 47 (.iconst 0) 1 48 := ⟨by decide +kernel, rfl⟩
theorem dX10_days_48 : gw_dc cX10_days 48 (.istore 8) 2 50 := ⟨by decide +kernel, rfl⟩
theorem dX10_days_50 : gw_dc cX10_days 50 (.iconst 1) 1 51 := ⟨by decide +kernel, rfl⟩
theorem dX10_days_51 : gw_dc cX10_days 51 (.istore 9) 2 53 := ⟨by decide +kernel, rfl⟩
theorem dX10_days_53 : gw_dc cX10_days 53 (.iload 9) 2 55 := ⟨by decide +kernel, rfl⟩
theorem dX10_days_55 : gw_dc cX10_days 55 (.iload_n 2) 1 56 := ⟨by decide +kernel, rfl⟩
theorem dX10_days_56 : gw_dc cX10_days 56 (.if_icmp .gt 43) 3 59 := ⟨by decide +kernel, rfl⟩
theorem dX10_days_99 : gw_dc cX10_days 99 (.iload 5) 2 101 := ⟨by decide +kernel, rfl⟩
theorem dX10_days_101 : gw_dc cX10_days 101 (.ifCond .ne 6) 3 104 := ⟨by decide +kernel, rfl⟩
theorem dX10_days_107 : gw_dc cX10_days 107 (.iload 5) 2 109 := ⟨by decide +kernel, rfl⟩
theorem dX10_days_109 : gw_dc cX10_days 109 (.iconst 1) 1 110 := ⟨by decide +kernel, rfl⟩
theorem dX10_days_110 : gw_dc cX10_days 110 (.if_icmp .ne 8) 3 113 := ⟨by decide +kernel, rfl⟩
theorem dX10_days_118 : gw_dc cX10_days 118 (.iload 8) 2 120 := ⟨by decide +kernel, rfl⟩
theorem dX10_days_120 : decode cX10_days 120 = .ok (.ireturn, 1) := by decide +kernel
theorem dX10_days_113 : gw_dc cX10_days 113 (.iload 7) 2 115 := ⟨by decide +kernel, rfl⟩
theorem dX10_days_115 : gw_dc cX10_days 115 (.goto 5) 3 118 := ⟨by decide +kernel, rfl⟩
theorem dX10_days_104 : gw_dc cX10_days 104 (.iload 6) 2 106 := ⟨by decide +kernel, rfl⟩
theorem dX10_days_106 : decode cX10_days 106 = .ok (.ireturn, 1) := by decide +kernel
theorem dX10_days_59 : gw_dc cX10_days 59 (.aload_n 0) 1 60 := ⟨by decide +kernel, rfl⟩
theorem dX10_days_60 : gw_dc cX10_days 60 (.iload_n 1) 1 61 := ⟨by decide +kernel, rfl⟩
theorem dX10_days_61 : gw_dc cX10_days 61 (.iload 9) 2 63 := ⟨by decide +kernel, rfl⟩
theorem dX10_days_63 : gw_dc cX10_days 63 (.iload_n 3) 1 64 := ⟨by decide +kernel, rfl⟩
theorem dX10_days_64 : gw_dc cX10_days 64 (.iload 4) 2 66 := ⟨by decide +kernel, rfl⟩
theorem dX10_days_66 : gw_dc cX10_days 66 (.invokevirtual 398) 3 69 := ⟨by decide +kernel, rfl⟩
theorem dX10_days_69 : gw_dc cX10_days 69 (.istore 10) 2 71 := ⟨by decide +kernel, rfl⟩
theorem dX10_days_71 : gw_dc cX10_days 71 (.iload 8) 2 73 := ⟨by decide +kernel, rfl⟩
theorem dX10_days_73 : gw_dc cX10_days 73 (.iload 10) 2 75 := ⟨by decide +kernel, rfl⟩
theorem dX10_days_75 : gw_dc cX10_days 75 (.iadd) 1 76 := ⟨by decide +kernel, rfl⟩
theorem dX10_days_76 : gw_dc cX10_days 76 (.istore 8) 2 78 := ⟨by decide +kernel, rfl⟩
theorem dX10_days_78 : gw_dc cX10_days 78 (.iload 10) 2 80 := ⟨by decide +kernel, rfl⟩
theorem dX10_days_80 : gw_dc cX10_days 80 (.iload 6) 2 82 := ⟨by decide +kernel, rfl⟩
theorem dX10_days_82 : gw_dc cX10_days 82 (.if_icmp .le 11) 3 85 := ⟨by decide +kernel, rfl⟩
theorem dX10_days_93 : gw_dc cX10_days 93 (.iinc 9 1) 3 96 := ⟨by decide +kernel, rfl⟩
theorem dX10_days_96 : gw_dc cX10_days 96 (.goto (-43)) 3 99 := ⟨by decide +kernel, rfl⟩
theorem dX10_days_85 : gw_dc cX10_days 85 (.iload 10) 2 87 := ⟨by decide +kernel, rfl⟩
theorem dX10_days_87 : gw_dc cX10_days 87 (.istore 6) 2 89 := ⟨by decide +kernel, rfl⟩
theorem dX10_days_89 : gw_dc cX10_days 89 (.iload 9) 2 91 := ⟨by decide +kernel, rfl⟩
theorem dX10_days_91 : gw_dc cX10_days 91 (.istore 7) 2 93 := ⟨by decide +kernel, rfl⟩
theorem dX10_latestNotLate_0 : gw_dc cX10_latestNotLate 0 (.sipush 600) 3 3 := ⟨by decide +kernel, rfl⟩
theorem dX10_latestNotLate_3 : gw_dc cX10_latestNotLate 3 (.istore_n 2) 1 4 := ⟨by decide +kernel, rfl⟩
theorem dX10_latestNotLate_4 : gw_dc cX10_latestNotLate 4 (.iload_n 2) 1 5 := ⟨by decide +kernel, rfl⟩
theorem dX10_latestNotLate_5 : gw_dc cX10_latestNotLate 5 (.ifCond .lt 41) 3 8 := ⟨by decide +kernel, rfl⟩
theorem dX10_latestNotLate_46 : gw_dc cX10_latestNotLate 46 (.iconst (-1)) 1 47 := ⟨by decide +kernel, rfl⟩
theorem dX10_latestNotLate_47 : decode cX10_latestNotLate 47 = .ok (.ireturn, 1) := by decide +kernel
theorem dX10_latestNotLate_8 : gw_dc cX10_latestNotLate 8 (.aload_n 0) 1 9 := ⟨by decide +kernel, rfl⟩
theorem dX10_latestNotLate_9 : gw_dc cX10_latestNotLate 9 (.getfield 53) 3 12 := ⟨by decide +kernel, rfl⟩
theorem dX10_latestNotLate_12 : gw_dc cX10_latestNotLate 12 (.getfield 162) 3 15 := ⟨by decide +kernel, rfl⟩
theorem rf_74_10 {ad : Nat → Nat} : (gw_M0 ad).2.2 74 10 = some 84 := (by decide +kernel : gw_rh 74 10 = some 84)
theorem in_84 : (84, 60) ∈ gw_rows := by decide +kernel
theorem dX10_latestNotLate_15 : gw_dc cX10_latestNotLate 15 (.iload_n 1) 1 16 := ⟨by decide +kernel, rfl⟩
theorem dX10_latestNotLate_16 : gw_dc cX10_latestNotLate 16 (.iload_n 2) 1 17 := ⟨by decide +kernel, rfl⟩
theorem dX10_latestNotLate_17 : gw_dc cX10_latestNotLate 17 (.invokevirtual 219) 3 20 := ⟨by decide +kernel, rfl⟩
theorem dX10_latestNotLate_20 : gw_dc cX10_latestNotLate 20 (.aload_n 0) 1 21 := ⟨by decide +kernel, rfl⟩
theorem dX10_latestNotLate_21 : gw_dc cX10_latestNotLate 21 (.getfield 56) 3 24 := ⟨by decide +kernel, rfl⟩
theorem dX10_latestNotLate_24 : gw_dc cX10_latestNotLate 24 (.invokevirtual 189) 3 27 := ⟨by decide +kernel, rfl⟩
theorem dX10_latestNotLate_27 : gw_dc cX10_latestNotLate 27 (.aload_n 0) 1 28 := ⟨by decide +kernel, rfl⟩
theorem dX10_latestNotLate_28 : gw_dc cX10_latestNotLate 28 (.getfield 56) 3 31 := ⟨by decide +kernel, rfl⟩
theorem dX10_latestNotLate_31 : gw_dc cX10_latestNotLate 31 (.iload_n 1) 1 32 := ⟨by decide +kernel, rfl⟩
theorem dX10_latestNotLate_32 : gw_dc cX10_latestNotLate 32 (.invokevirtual 368) 3 35 := ⟨by decide +kernel, rfl⟩
theorem mv_RX10_368 : gw_mv RX10 368 yX5_isLate := ⟨gw_mem 1285 (by decide +kernel) rfl, gw_mem 662 (by decide +kernel) rfl, gw_mem 663 (by decide +kernel) rfl⟩
theorem dX10_latestNotLate_35 : gw_dc cX10_latestNotLate 35 (.ifCond .ne 5) 3 38 := ⟨by decide +kernel, rfl⟩
theorem dX10_latestNotLate_40 : gw_dc cX10_latestNotLate 40 (.iinc 2 (-1)) 3 43 := ⟨by decide +kernel, rfl⟩
theorem dX10_latestNotLate_43 : gw_dc cX10_latestNotLate 43 (.goto (-39)) 3 46 := ⟨by decide +kernel, rfl⟩
theorem dX10_latestNotLate_38 : gw_dc cX10_latestNotLate 38 (.iload_n 2) 1 39 := ⟨by decide +kernel, rfl⟩
theorem dX10_latestNotLate_39 : decode cX10_latestNotLate 39 = .ok (.ireturn, 1) := by decide +kernel
theorem dX10_firstWithLeastWait_0 : gw_dc cX10_firstWithLeastWait 0 (.iconst (-1)) 1 1 := ⟨by decide +kernel, rfl⟩
theorem dX10_firstWithLeastWait_1 : gw_dc cX10_firstWithLeastWait 1 (.istore_n 2) 1 2 := ⟨by decide +kernel, rfl⟩
theorem dX10_firstWithLeastWait_2 : gw_dc cX10_firstWithLeastWait 2 (.iconst 0) 1 3 := ⟨by decide +kernel, rfl⟩
theorem dX10_firstWithLeastWait_3 : gw_dc cX10_firstWithLeastWait 3 (.istore_n 3) 1 4 := ⟨by decide +kernel, rfl⟩
theorem dX10_firstWithLeastWait_4 : gw_dc cX10_firstWithLeastWait 4 (.iconst 0) 1 5 := ⟨by decide +kernel, rfl⟩
theorem dX10_firstWithLeastWait_5 : gw_dc cX10_firstWithLeastWait 5 (.istore 4) 2 7 := ⟨by decide +kernel, rfl⟩
theorem dX10_firstWithLeastWait_7 : gw_dc cX10_firstWithLeastWait 7 (.iload 4) 2 9 := ⟨by decide +kernel, rfl⟩
theorem dX10_firstWithLeastWait_9 : gw_dc cX10_firstWithLeastWait 9 (.sipush 600) 3 12 := ⟨by decide +kernel, rfl⟩
theorem dX10_firstWithLeastWait_12 : gw_dc cX10_firstWithLeastWait 12 (.if_icmp .gt 58) 3 15 := ⟨by decide +kernel, rfl⟩
theorem dX10_firstWithLeastWait_70 : gw_dc cX10_firstWithLeastWait 70 (.iload_n 2) 1 71 := ⟨by decide +kernel, rfl⟩
theorem dX10_firstWithLeastWait_71 : decode cX10_firstWithLeastWait 71 = .ok (.ireturn, 1) := by decide +kernel
theorem dX10_firstWithLeastWait_15 : gw_dc cX10_firstWithLeastWait 15 (.aload_n 0) 1 16 := ⟨by decide +kernel, rfl⟩
theorem dX10_firstWithLeastWait_16 : gw_dc cX10_firstWithLeastWait 16 (.getfield 53) 3 19 := ⟨by decide +kernel, rfl⟩
theorem dX10_firstWithLeastWait_19 : gw_dc cX10_firstWithLeastWait 19 (.getfield 162) 3 22 := ⟨by decide +kernel, rfl⟩
theorem dX10_firstWithLeastWait_22 : gw_dc cX10_firstWithLeastWait 22 (.iload_n 1) 1 23 := ⟨by decide +kernel, rfl⟩
theorem dX10_firstWithLeastWait_23 : gw_dc cX10_firstWithLeastWait 23 (.iload 4) 2 25 := ⟨by decide +kernel, rfl⟩
theorem dX10_firstWithLeastWait_25 : gw_dc cX10_firstWithLeastWait 25 (.invokevirtual 219) 3 28 := ⟨by decide +kernel, rfl⟩
theorem dX10_firstWithLeastWait_28 : gw_dc cX10_firstWithLeastWait 28 (.aload_n 0) 1 29 := ⟨by decide +kernel, rfl⟩
theorem dX10_firstWithLeastWait_29 : gw_dc cX10_firstWithLeastWait 29 (.getfield 56) 3 32 := ⟨by decide +kernel, rfl⟩
theorem dX10_firstWithLeastWait_32 : gw_dc cX10_firstWithLeastWait 32 (.invokevirtual 189) 3 35 := ⟨by decide +kernel, rfl⟩
theorem dX10_firstWithLeastWait_35 : gw_dc cX10_firstWithLeastWait 35 (.iload_n 2) 1 36 := ⟨by decide +kernel, rfl⟩
theorem dX10_firstWithLeastWait_36 : gw_dc cX10_firstWithLeastWait 36 (.iconst (-1)) 1 37 := ⟨by decide +kernel, rfl⟩
theorem dX10_firstWithLeastWait_37 : gw_dc cX10_firstWithLeastWait 37 (.if_icmp .eq 15) 3 40 := ⟨by decide +kernel, rfl⟩
theorem dX10_firstWithLeastWait_52 : gw_dc cX10_firstWithLeastWait 52 (.iload 4) 2 54 := ⟨by decide +kernel, rfl⟩
theorem dX10_firstWithLeastWait_54 : gw_dc cX10_firstWithLeastWait 54 (.istore_n 2) 1 55 := ⟨by decide +kernel, rfl⟩
theorem dX10_firstWithLeastWait_55 : gw_dc cX10_firstWithLeastWait 55 (.aload_n 0) 1 56 := ⟨by decide +kernel, rfl⟩
theorem dX10_firstWithLeastWait_56 : gw_dc cX10_firstWithLeastWait 56 (.getfield 56) 3 59 := ⟨by decide +kernel, rfl⟩
theorem dX10_firstWithLeastWait_59 : gw_dc cX10_firstWithLeastWait 59 (.iload_n 1) 1 60 := ⟨by decide +kernel, rfl⟩
theorem dX10_firstWithLeastWait_60 : gw_dc cX10_firstWithLeastWait 60 (.invokevirtual 252) 3 63 := ⟨by decide +kernel, rfl⟩
theorem dX10_firstWithLeastWait_63 : gw_dc cX10_firstWithLeastWait 63 (.istore_n 3) 1 64 := ⟨by decide +kernel, rfl⟩
theorem dX10_firstWithLeastWait_64 : gw_dc cX10_firstWithLeastWait 64 (.iinc 4 1) 3 67 := ⟨by decide +kernel, rfl⟩
theorem dX10_firstWithLeastWait_67 : gw_dc cX10_firstWithLeastWait 67 (.goto (-60)) 3 70 := ⟨by decide +kernel, rfl⟩
theorem dX10_firstWithLeastWait_40 : gw_dc cX10_firstWithLeastWait 40 (.aload_n 0) 1 41 := ⟨by decide +kernel, rfl⟩
theorem dX10_firstWithLeastWait_41 : gw_dc cX10_firstWithLeastWait 41 (.getfield 56) 3 44 := ⟨by decide +kernel, rfl⟩
theorem dX10_firstWithLeastWait_44 : gw_dc cX10_firstWithLeastWait 44 (.iload_n 1) 1 45 := ⟨by decide +kernel, rfl⟩
theorem dX10_firstWithLeastWait_45 : gw_dc cX10_firstWithLeastWait 45 (.invokevirtual 252) 3 48 := ⟨by decide +kernel, rfl⟩
theorem dX10_firstWithLeastWait_48 : gw_dc cX10_firstWithLeastWait 48 (.iload_n 3) 1 49 := ⟨by decide +kernel, rfl⟩
theorem dX10_firstWithLeastWait_49 : gw_dc cX10_firstWithLeastWait 49 (.if_icmp .ge 15) 3 52 := ⟨by decide +kernel, rfl⟩
theorem dX10_when_0 : gw_dc cX10_when 0 (.aload_n 0) 1 1 := ⟨by decide +kernel, rfl⟩
theorem dX10_when_1 : gw_dc cX10_when 1 (.iload_n 1) 1 2 := ⟨by decide +kernel, rfl⟩
theorem dX10_when_2 : gw_dc cX10_when 2 (.invokevirtual 149) 3 5 := ⟨by decide +kernel, rfl⟩
theorem dX10_when_5 : gw_dc cX10_when 5 (.aload_n 0) 1 6 := ⟨by decide +kernel, rfl⟩
theorem dX10_when_6 : gw_dc cX10_when 6 (.iload_n 2) 1 7 := ⟨by decide +kernel, rfl⟩
theorem dX10_when_7 : gw_dc cX10_when 7 (.iconst 1) 1 8 := ⟨by decide +kernel, rfl⟩
theorem dX10_when_8 : gw_dc cX10_when 8 (.invokevirtual 185) 3 11 := ⟨by decide +kernel, rfl⟩
theorem dX10_when_11 : gw_dc cX10_when 11 (.aload_n 0) 1 12 := ⟨by decide +kernel, rfl⟩
theorem dX10_when_12 : gw_dc cX10_when 12 (.getfield 53) 3 15 := ⟨by decide +kernel, rfl⟩
theorem dX10_when_15 : gw_dc cX10_when 15 (.aload_n 0) 1 16 := ⟨by decide +kernel, rfl⟩
theorem dX10_when_16 : gw_dc cX10_when 16 (.getfield 28) 3 19 := ⟨by decide +kernel, rfl⟩
theorem dX10_when_19 : gw_dc cX10_when 19 (.invokevirtual 111) 3 22 := ⟨by decide +kernel, rfl⟩
theorem dX10_when_22 : gw_dc cX10_when 22 (.iload_n 2) 1 23 := ⟨by decide +kernel, rfl⟩
theorem dX10_when_23 : gw_dc cX10_when 23 (.ifCond .ne 11) 3 26 := ⟨by decide +kernel, rfl⟩
theorem dX10_when_34 : gw_dc cX10_when 34 (.aload_n 0) 1 35 := ⟨by decide +kernel, rfl⟩
theorem dX10_when_35 : gw_dc cX10_when 35 (.iload_n 1) 1 36 := ⟨by decide +kernel, rfl⟩
theorem dX10_when_36 : gw_dc cX10_when 36 (.invokevirtual 365) 3 39 := ⟨by decide +kernel, rfl⟩
theorem mv_RX10_365 : gw_mv RX10 365 yX10_firstWithLeastWait := ⟨gw_mem 1286 (by decide +kernel) rfl, gw_mem 1288 (by decide +kernel) rfl, gw_mem 33 (by decide +kernel) rfl⟩
theorem my_X10_firstWithLeastWait : gw_my yX10_firstWithLeastWait cX10_firstWithLeastWait 5 (some .int) 1 := ⟨gw_mem 1289 (by decide +kernel) rfl, gw_mem 95 (by decide +kernel) rfl, by decide +kernel, by decide⟩
theorem dX10_when_39 : decode cX10_when 39 = .ok (.ireturn, 1) := by decide +kernel
theorem dX10_when_26 : gw_dc cX10_when 26 (.aload_n 0) 1 27 := ⟨by decide +kernel, rfl⟩
theorem dX10_when_27 : gw_dc cX10_when 27 (.iload_n 1) 1 28 := ⟨by decide +kernel, rfl⟩
theorem dX10_when_28 : gw_dc cX10_when 28 (.invokevirtual 362) 3 31 := ⟨by decide +kernel, rfl⟩
theorem mv_RX10_362 : gw_mv RX10 362 yX10_latestNotLate := ⟨gw_mem 1281 (by decide +kernel) rfl, gw_mem 1283 (by decide +kernel) rfl, gw_mem 32 (by decide +kernel) rfl⟩
theorem my_X10_latestNotLate : gw_my yX10_latestNotLate cX10_latestNotLate 3 (some .int) 1 := ⟨gw_mem 1284 (by decide +kernel) rfl, gw_mem 95 (by decide +kernel) rfl, by decide +kernel, by decide⟩
theorem dX10_when_31 : gw_dc cX10_when 31 (.goto 8) 3 34 := ⟨by decide +kernel, rfl⟩
theorem dX10_heaviest_0 : gw_dc cX10_heaviest 0 (.aload_n 0) 1 1 := ⟨by decide +kernel, rfl⟩
theorem dX10_heaviest_1 : gw_dc cX10_heaviest 1 (.iload_n 1) 1 2 := ⟨by decide +kernel, rfl⟩
theorem dX10_heaviest_2 : gw_dc cX10_heaviest 2 (.invokevirtual 149) 3 5 := ⟨by decide +kernel, rfl⟩
theorem dX10_heaviest_5 : gw_dc cX10_heaviest 5 (.aload_n 0) 1 6 := ⟨by decide +kernel, rfl⟩
theorem dX10_heaviest_6 : gw_dc cX10_heaviest 6 (.getfield 53) 3 9 := ⟨by decide +kernel, rfl⟩
theorem dX10_heaviest_9 : gw_dc cX10_heaviest 9 (.aload_n 0) 1 10 := ⟨by decide +kernel, rfl⟩
theorem dX10_heaviest_10 : gw_dc cX10_heaviest 10 (.getfield 28) 3 13 := ⟨by decide +kernel, rfl⟩
theorem dX10_heaviest_13 : gw_dc cX10_heaviest 13 (.invokevirtual 111) 3 16 := ⟨by decide +kernel, rfl⟩
theorem dX10_heaviest_16 : gw_dc cX10_heaviest 16 (.bipush 99) 2 18 := ⟨by decide +kernel, rfl⟩
theorem dX10_heaviest_18 : gw_dc cX10_heaviest 18 (.istore_n 2) 1 19 := ⟨by decide +kernel, rfl⟩
theorem dX10_heaviest_19 : gw_dc cX10_heaviest 19 (.iload_n 2) 1 20 := ⟨by decide +kernel, rfl⟩
theorem dX10_heaviest_20 : gw_dc cX10_heaviest 20 (.iconst 1) 1 21 := ⟨by decide +kernel, rfl⟩
theorem dX10_heaviest_21 : gw_dc cX10_heaviest 21 (.if_icmp .lt 38) 3 24 := ⟨by decide +kernel, rfl⟩
theorem dX10_heaviest_59 : gw_dc cX10_heaviest 59 (.iconst (-1)) 1 60 := ⟨by decide +kernel, rfl⟩
theorem dX10_heaviest_60 : decode cX10_heaviest 60 = .ok (.ireturn, 1) := by decide +kernel
theorem dX10_heaviest_24 : gw_dc cX10_heaviest 24 (.aload_n 0) 1 25 := ⟨by decide +kernel, rfl⟩
theorem dX10_heaviest_25 : gw_dc cX10_heaviest 25 (.getfield 53) 3 28 := ⟨by decide +kernel, rfl⟩
theorem dX10_heaviest_28 : gw_dc cX10_heaviest 28 (.iload_n 1) 1 29 := ⟨by decide +kernel, rfl⟩
theorem dX10_heaviest_29 : gw_dc cX10_heaviest 29 (.iload_n 2) 1 30 := ⟨by decide +kernel, rfl⟩
theorem dX10_heaviest_30 : gw_dc cX10_heaviest 30 (.invokevirtual 359) 3 33 := ⟨by decide +kernel, rfl⟩
theorem mv_RX10_359 : gw_mv RX10 359 yX1_setWhole := ⟨gw_mem 1273 (by decide +kernel) rfl, gw_mem 577 (by decide +kernel) rfl, gw_mem 578 (by decide +kernel) rfl⟩
theorem dX10_heaviest_33 : gw_dc cX10_heaviest 33 (.aload_n 0) 1 34 := ⟨by decide +kernel, rfl⟩
theorem dX10_heaviest_34 : gw_dc cX10_heaviest 34 (.getfield 56) 3 37 := ⟨by decide +kernel, rfl⟩
theorem dX10_heaviest_37 : gw_dc cX10_heaviest 37 (.invokevirtual 189) 3 40 := ⟨by decide +kernel, rfl⟩
theorem dX10_heaviest_40 : gw_dc cX10_heaviest 40 (.aload_n 0) 1 41 := ⟨by decide +kernel, rfl⟩
theorem dX10_heaviest_41 : gw_dc cX10_heaviest 41 (.getfield 56) 3 44 := ⟨by decide +kernel, rfl⟩
theorem dX10_heaviest_44 : gw_dc cX10_heaviest 44 (.iload_n 1) 1 45 := ⟨by decide +kernel, rfl⟩
theorem dX10_heaviest_45 : gw_dc cX10_heaviest 45 (.invokevirtual 368) 3 48 := ⟨by decide +kernel, rfl⟩
theorem dX10_heaviest_48 : gw_dc cX10_heaviest 48 (.ifCond .ne 5) 3 51 := ⟨by decide +kernel, rfl⟩
theorem dX10_heaviest_53 : gw_dc cX10_heaviest 53 (.iinc 2 (-1)) 3 56 := ⟨by decide +kernel, rfl⟩
theorem dX10_heaviest_56 : gw_dc cX10_heaviest 56 (.goto (-37)) 3 59 := ⟨by decide +kernel, rfl⟩
theorem dX10_heaviest_51 : gw_dc cX10_heaviest 51 (.iload_n 2) 1 52 := ⟨by decide +kernel, rfl⟩
theorem dX10_heaviest_52 : decode cX10_heaviest 52 = .ok (.ireturn, 1) := by decide +kernel
theorem dX10_lend_0 : gw_dc cX10_lend 0 (.aload_n 0) 1 1 := ⟨by decide +kernel, rfl⟩
theorem dX10_lend_1 : gw_dc cX10_lend 1 (.iload_n 1) 1 2 := ⟨by decide +kernel, rfl⟩
theorem dX10_lend_2 : gw_dc cX10_lend 2 (.invokevirtual 149) 3 5 := ⟨by decide +kernel, rfl⟩
theorem dX10_lend_5 : gw_dc cX10_lend 5 (.aload_n 0) 1 6 := ⟨by decide +kernel, rfl⟩
theorem dX10_lend_6 : gw_dc cX10_lend 6 (.iload_n 2) 1 7 := ⟨by decide +kernel, rfl⟩
theorem dX10_lend_7 : gw_dc cX10_lend 7 (.invokevirtual 149) 3 10 := ⟨by decide +kernel, rfl⟩
theorem dX10_lend_10 : gw_dc cX10_lend 10 (.aload_n 0) 1 11 := ⟨by decide +kernel, rfl⟩
theorem dX10_lend_11 : gw_dc cX10_lend 11 (.getfield 28) 3 14 := ⟨by decide +kernel, rfl⟩
theorem dX10_lend_14 : gw_dc cX10_lend 14 (.iload_n 1) 1 15 := ⟨by decide +kernel, rfl⟩
theorem dX10_lend_15 : gw_dc cX10_lend 15 (.invokevirtual 372) 3 18 := ⟨by decide +kernel, rfl⟩
theorem mv_RX10_372 : gw_mv RX10 372 yX1_isWhole := ⟨gw_mem 1304 (by decide +kernel) rfl, gw_mem 569 (by decide +kernel) rfl, gw_mem 570 (by decide +kernel) rfl⟩
theorem dX10_lend_18 : gw_dc cX10_lend 18 (.ifCond .eq 14) 3 21 := ⟨by decide +kernel, rfl⟩
theorem eX10_lend_32 : decode cX10_lend 32 = .ok (.new 375, 3) := by decide +kernel
theorem eX10_lend_35 : decode cX10_lend 35 = .ok (.dup, 1) := by decide +kernel
theorem eX10_lend_36 : decode cX10_lend 36 = .ok (.ldc_w 377, 3) := by decide +kernel
theorem eX10_lend_39 : decode cX10_lend 39 = .ok (.invokespecial 379, 3) := by decide +kernel
theorem eX10_lend_42 : decode cX10_lend 42 = .ok (.athrow, 1) := by decide +kernel
theorem dX10_lend_21 : gw_dc cX10_lend 21 (.aload_n 0) 1 22 := ⟨by decide +kernel, rfl⟩
theorem dX10_lend_22 : gw_dc cX10_lend 22 (.getfield 28) 3 25 := ⟨by decide +kernel, rfl⟩
theorem dX10_lend_25 : gw_dc cX10_lend 25 (.iload_n 2) 1 26 := ⟨by decide +kernel, rfl⟩
theorem dX10_lend_26 : gw_dc cX10_lend 26 (.invokevirtual 372) 3 29 := ⟨by decide +kernel, rfl⟩
theorem dX10_lend_29 : gw_dc cX10_lend 29 (.ifCond .ne 14) 3 32 := ⟨by decide +kernel, rfl⟩
theorem dX10_lend_43 : gw_dc cX10_lend 43 (.aload_n 0) 1 44 := ⟨by decide +kernel, rfl⟩
theorem dX10_lend_44 : gw_dc cX10_lend 44 (.getfield 28) 3 47 := ⟨by decide +kernel, rfl⟩
theorem dX10_lend_47 : gw_dc cX10_lend 47 (.getfield 152) 3 50 := ⟨by decide +kernel, rfl⟩
theorem dX10_lend_50 : gw_dc cX10_lend 50 (.iload_n 1) 1 51 := ⟨by decide +kernel, rfl⟩
theorem dX10_lend_51 : gw_dc cX10_lend 51 (.invokevirtual 155) 3 54 := ⟨by decide +kernel, rfl⟩
theorem dX10_lend_54 : gw_dc cX10_lend 54 (.istore 4) 2 56 := ⟨by decide +kernel, rfl⟩
theorem dX10_lend_56 : gw_dc cX10_lend 56 (.aload_n 0) 1 57 := ⟨by decide +kernel, rfl⟩
theorem dX10_lend_57 : gw_dc cX10_lend 57 (.getfield 28) 3 60 := ⟨by decide +kernel, rfl⟩
theorem dX10_lend_60 : gw_dc cX10_lend 60 (.getfield 152) 3 63 := ⟨by decide +kernel, rfl⟩
theorem dX10_lend_63 : gw_dc cX10_lend 63 (.iload_n 2) 1 64 := ⟨by decide +kernel, rfl⟩
theorem dX10_lend_64 : gw_dc cX10_lend 64 (.invokevirtual 155) 3 67 := ⟨by decide +kernel, rfl⟩
theorem dX10_lend_67 : gw_dc cX10_lend 67 (.istore 5) 2 69 := ⟨by decide +kernel, rfl⟩
theorem dX10_lend_69 : gw_dc cX10_lend 69 (.iload_n 1) 1 70 := ⟨by decide +kernel, rfl⟩
theorem dX10_lend_70 : gw_dc cX10_lend 70 (.iload_n 2) 1 71 := ⟨by decide +kernel, rfl⟩
theorem dX10_lend_71 : gw_dc cX10_lend 71 (.if_icmp .eq 23) 3 74 := ⟨by decide +kernel, rfl⟩
theorem eX10_lend_94 : decode cX10_lend 94 = .ok (.new 142, 3) := by decide +kernel
theorem eX10_lend_97 : decode cX10_lend 97 = .ok (.dup, 1) := by decide +kernel
theorem eX10_lend_98 : decode cX10_lend 98 = .ok (.ldc_w 380, 3) := by decide +kernel
theorem eX10_lend_101 : decode cX10_lend 101 = .ok (.invokespecial 146, 3) := by decide +kernel
theorem eX10_lend_104 : decode cX10_lend 104 = .ok (.athrow, 1) := by decide +kernel
theorem dX10_lend_74 : gw_dc cX10_lend 74 (.iload_n 3) 1 75 := ⟨by decide +kernel, rfl⟩
theorem dX10_lend_75 : gw_dc cX10_lend 75 (.iconst 1) 1 76 := ⟨by decide +kernel, rfl⟩
theorem dX10_lend_76 : gw_dc cX10_lend 76 (.if_icmp .lt 18) 3 79 := ⟨by decide +kernel, rfl⟩
theorem dX10_lend_79 : gw_dc cX10_lend 79 (.iload_n 3) 1 80 := ⟨by decide +kernel, rfl⟩
theorem dX10_lend_80 : gw_dc cX10_lend 80 (.iload 4) 2 82 := ⟨by decide +kernel, rfl⟩
theorem dX10_lend_82 : gw_dc cX10_lend 82 (.if_icmp .ge 12) 3 85 := ⟨by decide +kernel, rfl⟩
theorem dX10_lend_85 : gw_dc cX10_lend 85 (.iload_n 3) 1 86 := ⟨by decide +kernel, rfl⟩
theorem dX10_lend_86 : gw_dc cX10_lend 86 (.bipush 99) 2 88 := ⟨by decide +kernel, rfl⟩
theorem dX10_lend_88 : gw_dc cX10_lend 88 (.iload 5) 2 90 := ⟨by decide +kernel, rfl⟩
theorem dX10_lend_90 : gw_dc cX10_lend 90 (.isub) 1 91 := ⟨by decide +kernel, rfl⟩
theorem dX10_lend_91 : gw_dc cX10_lend 91 (.if_icmp .le 14) 3 94 := ⟨by decide +kernel, rfl⟩
theorem dX10_lend_105 : gw_dc cX10_lend 105 (.aload_n 0) 1 106 := ⟨by decide +kernel, rfl⟩
theorem dX10_lend_106 : gw_dc cX10_lend 106 (.getfield 53) 3 109 := ⟨by decide +kernel, rfl⟩
theorem dX10_lend_109 : gw_dc cX10_lend 109 (.aload_n 0) 1 110 := ⟨by decide +kernel, rfl⟩
theorem dX10_lend_110 : gw_dc cX10_lend 110 (.getfield 28) 3 113 := ⟨by decide +kernel, rfl⟩
theorem dX10_lend_113 : gw_dc cX10_lend 113 (.invokevirtual 111) 3 116 := ⟨by decide +kernel, rfl⟩
theorem dX10_lend_116 : gw_dc cX10_lend 116 (.aload_n 0) 1 117 := ⟨by decide +kernel, rfl⟩
theorem dX10_lend_117 : gw_dc cX10_lend 117 (.getfield 53) 3 120 := ⟨by decide +kernel, rfl⟩
theorem dX10_lend_120 : gw_dc cX10_lend 120 (.iload_n 1) 1 121 := ⟨by decide +kernel, rfl⟩
theorem dX10_lend_121 : gw_dc cX10_lend 121 (.iload 4) 2 123 := ⟨by decide +kernel, rfl⟩
theorem dX10_lend_123 : gw_dc cX10_lend 123 (.iload_n 3) 1 124 := ⟨by decide +kernel, rfl⟩
theorem dX10_lend_124 : gw_dc cX10_lend 124 (.isub) 1 125 := ⟨by decide +kernel, rfl⟩
theorem dX10_lend_125 : gw_dc cX10_lend 125 (.invokevirtual 359) 3 128 := ⟨by decide +kernel, rfl⟩
theorem dX10_lend_128 : gw_dc cX10_lend 128 (.aload_n 0) 1 129 := ⟨by decide +kernel, rfl⟩
theorem dX10_lend_129 : gw_dc cX10_lend 129 (.getfield 53) 3 132 := ⟨by decide +kernel, rfl⟩
theorem dX10_lend_132 : gw_dc cX10_lend 132 (.iload_n 2) 1 133 := ⟨by decide +kernel, rfl⟩
theorem dX10_lend_133 : gw_dc cX10_lend 133 (.iload 5) 2 135 := ⟨by decide +kernel, rfl⟩
theorem dX10_lend_135 : gw_dc cX10_lend 135 (.iload_n 3) 1 136 := ⟨by decide +kernel, rfl⟩
theorem dX10_lend_136 : gw_dc cX10_lend 136 (.iadd) 1 137 := ⟨by decide +kernel, rfl⟩
theorem dX10_lend_137 : gw_dc cX10_lend 137 (.invokevirtual 359) 3 140 := ⟨by decide +kernel, rfl⟩
theorem dX10_lend_140 : gw_dc cX10_lend 140 (.aload_n 0) 1 141 := ⟨by decide +kernel, rfl⟩
theorem dX10_lend_141 : gw_dc cX10_lend 141 (.getfield 56) 3 144 := ⟨by decide +kernel, rfl⟩
theorem dX10_lend_144 : gw_dc cX10_lend 144 (.invokevirtual 189) 3 147 := ⟨by decide +kernel, rfl⟩
theorem dX10_lend_147 : gw_dc cX10_lend 147 (.aload_n 0) 1 148 := ⟨by decide +kernel, rfl⟩
theorem dX10_lend_148 : gw_dc cX10_lend 148 (.getfield 37) 3 151 := ⟨by decide +kernel, rfl⟩
theorem dX10_lend_151 : gw_dc cX10_lend 151 (.invokevirtual 189) 3 154 := ⟨by decide +kernel, rfl⟩
theorem dX10_lend_154 : gw_dc cX10_lend 154 (.aload_n 0) 1 155 := ⟨by decide +kernel, rfl⟩
theorem dX10_lend_155 : gw_dc cX10_lend 155 (.getfield 56) 3 158 := ⟨by decide +kernel, rfl⟩
theorem dX10_lend_158 : gw_dc cX10_lend 158 (.invokevirtual 263) 3 161 := ⟨by decide +kernel, rfl⟩
theorem dX10_lend_161 : gw_dc cX10_lend 161 (.aload_n 0) 1 162 := ⟨by decide +kernel, rfl⟩
theorem dX10_lend_162 : gw_dc cX10_lend 162 (.getfield 37) 3 165 := ⟨by decide +kernel, rfl⟩
theorem dX10_lend_165 : gw_dc cX10_lend 165 (.invokevirtual 263) 3 168 := ⟨by decide +kernel, rfl⟩
theorem dX10_lend_168 : gw_dc cX10_lend 168 (.isub) 1 169 := ⟨by decide +kernel, rfl⟩
theorem dX10_lend_169 : decode cX10_lend 169 = .ok (.ireturn, 1) := by decide +kernel
/-! LightestSack (0), 3: when, heaviest, lend, by, fits, days -/
theorem dn_ind (P : Nat → Prop) (h : ∀ k, (∀ j, k = j + 1 → P j) → P k) : ∀ k, P k := by
  intro k
  induction k with
  | zero => exact h 0 (fun j e => by omega)
  | succ k ih => exact h (k + 1) (fun j e => by obtain rfl : k = j := by omega
                                                exact ih)
def zRb (σ : Sg) (key : Int) : Sg := go (lAdd (su (mCopy σ 74 4) 75 1 0) 75 key) 96 74
def zBlS (i : Nat) (x : Int × Int × Sg) : Int × Int × Sg := if coF (zRb x.2.2 (i : Nat)) 96 74 < x.2.1 then ((i : Nat), coF (zRb x.2.2 (i : Nat)) 96 74, zRb x.2.2 (i : Nat)) else (x.1, x.2.1, zRb x.2.2 (i : Nat))
def zBl (σ : Sg) : Int × Int × Sg := itr 8 zBlS (0, 1000000000, σ)
def zFiS (i : Nat) (x : Int × Sg) : Int × Sg := (wor x.1 (if ioF (zRb x.2 (i : Nat)) 96 144 60 = 0 then 0 else wshl 1 (i : Nat)), zRb x.2 (i : Nat))
def zFit (σ : Sg) (t : Nat) : Int × Sg := if (zOr σ t).1 = 0 then (0, (zOr σ t).2) else itr 8 zFiS (0, (zOr σ t).2)
def zDay (σ : Sg) (seed come g : Int) : Sg := go (mStr (mCopy σ 74 4) 74 seed come g) 96 74
def zDs (s come g : Int) (i : Nat) (x : Int × Int × Int × Sg) : Int × Int × Int × Sg :=
  if x.1 < uW (zDay x.2.2.2 ((i : Nat) + 1) come g) 96 74 s then (uW (zDay x.2.2.2 ((i : Nat) + 1) come g) 96 74 s, (i : Nat) + 1, wr (x.2.2.1 + uW (zDay x.2.2.2 ((i : Nat) + 1) come g) 96 74 s), zDay x.2.2.2 ((i : Nat) + 1) come g)
  else (x.1, x.2.1, wr (x.2.2.1 + uW (zDay x.2.2.2 ((i : Nat) + 1) come g) 96 74 s), zDay x.2.2.2 ((i : Nat) + 1) come g)
def zDays (σ : Sg) (s n come g : Int) : Int × Int × Int × Sg := itr n.toNat (zDs s come g) (-1, -1, 0, σ)
def gDays (σ : Sg) (s n come g w : Int) : Option String := (gSack σ s).or ((if 1 ≤ n ∧ n ≤ 30 then none else gIA).or ((gStr come g).or (gWhat w 2)))
def zLn (s : Int) : Nat → Sg → Int × Sg
  | 0, x => (-1, x)
  | n + 1, x => if uLate (go (rPut x 85 60 s (n : Nat)) 96 74) 96 74 s = 0 then ((n : Nat), go (rPut x 85 60 s (n : Nat)) 96 74) else zLn s n (go (rPut x 85 60 s (n : Nat)) 96 74)
def zFlS (s : Int) (i : Nat) (x : Int × Int × Sg) : Int × Int × Sg :=
  if x.1 = -1 ∨ uW (go (rPut x.2.2 85 60 s (i : Nat)) 96 74) 96 74 s < x.2.1 then ((i : Nat), uW (go (rPut x.2.2 85 60 s (i : Nat)) 96 74) 96 74 s, go (rPut x.2.2 85 60 s (i : Nat)) 96 74) else (x.1, x.2.1, go (rPut x.2.2 85 60 s (i : Nat)) 96 74)
def zFl (σ : Sg) (s : Int) : Int × Int × Sg := itr 601 (zFlS s) (-1, 0, σ)
def zWhen (σ : Sg) (s w : Int) : Int × Sg := if w = 0 then zLn s 601 (mCopy σ 74 4) else ((zFl (mCopy σ 74 4) s).1, (zFl (mCopy σ 74 4) s).2.2)
def zHv (s : Int) : Nat → Sg → Int × Sg
  | 0, x => (-1, x)
  | n + 1, x => if uLate (go (mWhole x 74 s ((n : Nat) + 1)) 96 74) 96 74 s = 0 then ((n : Nat) + 1, go (mWhole x 74 s ((n : Nat) + 1)) 96 74) else zHv s n (go (mWhole x 74 s ((n : Nat) + 1)) 96 74)
def gLend (σ : Sg) (s t n : Int) : Option String := (gSack σ s).or ((gSack σ t).or (if mIsW σ 4 s = 0 ∨ mIsW σ 4 t = 0 then gIS else if s = t ∨ n < 1 ∨ rAt σ 11 60 s ≤ n ∨ wr (99 - rAt σ 11 60 t) < n then gIA else none))
def zLend (σ : Sg) (s t n : Int) : Sg := go (go (mWhole (mWhole (mCopy σ 74 4) 74 s (wr (rAt σ 11 60 s - n))) 74 t (wr (rAt σ 11 60 t + n))) 96 74) 26 4
set_option maxRecDepth 4000 in
theorem s_X10_runByOne (ad : Nat → Nat) (σ : Sg)  (key : Int) : gw_Sp yX10_runByOne cX10_runByOne 2 none 6 0 0 [vR (some 0), vI key] (gw_M0 ad) σ (gw_D none (gw_M0 ad) (zRb σ key)) gw_no := by
  refine gw_Sp.of [some (vR (some 0)), some (vI key)] (by decide +kernel) rfl (Nat.le_of_ble_eq_true rfl) ?_
  intro X G fx het hnm
  refine g_aload_n fx dX10_runByOne_0 rfl ?_
  refine g_getr fx dX10_runByOne_1 fk_RX10_53 o_0 rf_0_6 ?_
  refine g_aload_n fx dX10_runByOne_4 rfl ?_
  refine g_getr fx dX10_runByOne_5 fk_RX10_28 o_0 rf_0_2 ?_
  refine g_callVD0 fx dX10_runByOne_8 mv_RX10_111 my_X1_copyOf (s_X1_copyOf ad _ in_74 in_4 (by decide)) (mill_O in_74) rfl rfl rfl (Nat.le_of_ble_eq_true rfl) (by decide) (by decide) ?_
  refine g_aload_n fx dX10_runByOne_11 rfl ?_
  refine g_getr fx dX10_runByOne_12 fk_RX10_53 o_0 rf_0_6 ?_
  refine g_getr fx dX10_runByOne_15 fk_RX10_130 (mill_O in_74) rf_74_0 ?_
  refine g_iload_n fx dX10_runByOne_18 rfl ?_
  refine g_callVD0 fx dX10_runByOne_19 mv_RX10_392 my_X0_setOne (s_X0_setOne ad _ in_75 _) (law_O in_75) rfl rfl rfl (Nat.le_of_ble_eq_true rfl) (by decide) (by decide) ?_
  refine g_aload_n fx dX10_runByOne_22 rfl ?_
  refine g_getr fx dX10_runByOne_23 fk_RX10_56 o_0 rf_0_7 ?_
  refine g_callVD0 fx dX10_runByOne_26 mv_RX10_189 my_X5_go (s_X5_go ad _ in_96) (run_O in_96) rfl rfl rfl (Nat.le_of_ble_eq_true rfl) (by decide) (by decide) ?_
  exact g_vret fx rfl dX10_runByOne_29 (by decide) (by decide) (gw_le.rf _) ⟨rfl, rfl, rfl⟩
set_option maxRecDepth 4000 in
theorem s_X10_by (ad : Nat → Nat) (σ : Sg)  (key : Int) : gw_Sp yX10_by cX10_by 2 (some .int) 7 1 6 [vR (some 0), vI key] (gw_M0 ad) σ (gw_DG (gPerson key) (some (vI (coF (zRb σ key) 96 74))) (gw_M0 ad) (zRb σ key)) (gw_isG (gPerson key)) := by
  refine gw_Sp.of [some (vR (some 0)), some (vI key)] (by decide +kernel) rfl (Nat.le_of_ble_eq_true rfl) ?_
  intro X G fx het hnm
  refine g_iload_n fx dX10_by_0 rfl ?_
  refine g_if_lt (tgt := 10) fx dX10_by_1 (by decide) (fun h1 => ?_) (fun h1 => ?_)
  · exact g_throwSW fx het th_RX10_142_146 (by decide +kernel : (RX10, 382, "no such key", 33) ∈ gw_strT) eX10_by_10 eX10_by_13 eX10_by_14 eX10_by_17 eX10_by_20 (by decide) rfl rfl (by decide) (by decide) (by decide) (by show gPerson key = _; rw [gPerson]; (repeat first | rw [if_pos (by omega)] | rw [if_neg (by omega)]); rfl)
  · refine g_iload_n fx dX10_by_4 rfl ?_
    refine g_bipush fx dX10_by_5 (by decide) ?_
    refine g_icmp_lt (tgt := 21) fx dX10_by_7 (by decide) (fun h7 => ?_) (fun h7 => ?_)
    · refine g_aload_n fx dX10_by_21 rfl ?_
      refine g_iload_n fx dX10_by_22 rfl ?_
      refine g_callVD0 fx dX10_by_23 mv_RX10_384 my_X10_runByOne (s_X10_runByOne ad _ _) o_0 rfl rfl rfl (Nat.le_of_ble_eq_true rfl) (by decide) (by decide) ?_
      refine g_aload_n fx dX10_by_26 rfl ?_
      refine g_getr fx dX10_by_27 fk_RX10_56 o_0 rf_0_7 ?_
      refine g_callVD fx dX10_by_30 mv_RX10_263 my_X5_costOfAll (s_X5_costOfAll ad _ in_96) (run_O in_96) rfl rfl rfl (Nat.le_of_ble_eq_true rfl) (by decide) (by decide) ?_
      exact g_iret fx rfl dX10_by_33 (by decide) (by decide) (gw_le.rf _) ⟨by rw [gPerson]; (repeat first | rw [if_pos (by omega)] | rw [if_neg (by omega)]), rfl, rfl, rfl⟩
    · exact g_throwSW fx het th_RX10_142_146 (by decide +kernel : (RX10, 382, "no such key", 33) ∈ gw_strT) eX10_by_10 eX10_by_13 eX10_by_14 eX10_by_17 eX10_by_20 (by decide) rfl rfl (by decide) (by decide) (by decide) (by show gPerson key = _; rw [gPerson]; (repeat first | rw [if_pos (by omega)] | rw [if_neg (by omega)]); rfl)
set_option maxRecDepth 4000 in
theorem s_X10_bestLaw (ad : Nat → Nat) (σ : Sg)  : gw_Sp yX10_bestLaw cX10_bestLaw 4 (some .int) 7 0 0 [vR (some 0)] (gw_M0 ad) σ (gw_D (some (vI (zBl σ).1)) (gw_M0 ad) ((zBl σ).2.2)) gw_no := by
  refine gw_Sp.of [some (vR (some 0)), none, none, none] (by decide +kernel) rfl (Nat.le_of_ble_eq_true rfl) ?_
  intro X G fx het hnm
  refine g_iconst fx dX10_bestLaw_0 (by unfold okI; omega) ?_
  refine g_istore_n fx dX10_bestLaw_1 (by decide) rfl rfl ?_
  refine g_ldcWI fx dX10_bestLaw_2 kc_RX10_387 (by unfold okI; omega) ?_
  refine g_istore_n fx dX10_bestLaw_5 (by decide) rfl rfl ?_
  refine g_iconst fx dX10_bestLaw_6 (by unfold okI; omega) ?_
  refine g_istore_n fx dX10_bestLaw_7 (by decide) rfl rfl ?_
  have loop8 : ∀ i : Nat, i ≤ 8 → gw_W X (yX10_bestLaw.cls, cX10_bestLaw, 4, (some .int), 7, 0, 0) G (gw_Z X G (gw_M0 ad) σ (gw_D (some (vI (zBl σ).1)) (gw_M0 ad) ((zBl σ).2.2)) gw_no 0 0) 0 0 (gw_M0 ad) ((itr i zBlS (0, 1000000000, σ)).2.2) 8 [some (vR (some 0)), some (vI (itr i zBlS (0, 1000000000, σ)).1), some (vI (itr i zBlS (0, 1000000000, σ)).2.1), some (vI (i : Nat))] [] := by
    refine up_ind _ (8) (fun i hi ih => ?_)
    refine g_iload_n fx dX10_bestLaw_8 rfl ?_
    refine g_bipush fx dX10_bestLaw_9 (by decide) ?_
    refine g_icmp_ge (tgt := 46) fx dX10_bestLaw_11 (by decide) (fun h11 => ?_) (fun h11 => ?_)
    · refine g_iload_n fx dX10_bestLaw_46 rfl ?_
      exact g_iret fx rfl dX10_bestLaw_47 (by decide) (by decide) (gw_le.rf _) ⟨by rw [zBl, show (8 : Nat) = i by omega], rfl, by rw [zBl, show (8 : Nat) = i by omega]⟩
    · refine g_aload_n fx dX10_bestLaw_14 rfl ?_
      refine g_iload_n fx dX10_bestLaw_15 rfl ?_
      refine g_callVD0 fx dX10_bestLaw_16 mv_RX10_384 my_X10_runByOne (s_X10_runByOne ad _ _) o_0 rfl rfl rfl (Nat.le_of_ble_eq_true rfl) (by decide) (by decide) ?_
      refine g_aload_n fx dX10_bestLaw_19 rfl ?_
      refine g_getr fx dX10_bestLaw_20 fk_RX10_56 o_0 rf_0_7 ?_
      refine g_callVD fx dX10_bestLaw_23 mv_RX10_263 my_X5_costOfAll (s_X5_costOfAll ad _ in_96) (run_O in_96) rfl rfl rfl (Nat.le_of_ble_eq_true rfl) (by decide) (by decide) ?_
      refine g_iload_n fx dX10_bestLaw_26 rfl ?_
      refine g_icmp_ge (tgt := 40) fx dX10_bestLaw_27 (by decide) (fun h27 => ?_) (fun h27 => ?_)
      · refine g_iinc1 fx dX10_bestLaw_40 (by decide) rfl rfl (by unfold okI; omega) rfl ?_
        refine g_goto (tgt := 8) fx dX10_bestLaw_43 (by decide) ?_
        exact gw_cg (by rw [itr_s, zBlS]; (repeat first | rw [if_pos (by omega)] | rw [if_neg (by omega)])) (by rw [itr_s, zBlS, show ((i : Nat) : Int) + 1 = ((i + 1 : Nat) : Int) by omega]; (repeat first | rw [if_pos (by omega)] | rw [if_neg (by omega)]) <;> rfl) (ih (by omega))
      · refine g_iload_n fx dX10_bestLaw_30 rfl ?_
        refine g_istore_n fx dX10_bestLaw_31 (by decide) rfl rfl ?_
        refine g_aload_n fx dX10_bestLaw_32 rfl ?_
        refine g_getr fx dX10_bestLaw_33 fk_RX10_56 o_0 rf_0_7 ?_
        refine g_callVD fx dX10_bestLaw_36 mv_RX10_263 my_X5_costOfAll (s_X5_costOfAll ad _ in_96) (run_O in_96) rfl rfl rfl (Nat.le_of_ble_eq_true rfl) (by decide) (by decide) ?_
        refine g_istore_n fx dX10_bestLaw_39 (by decide) rfl rfl ?_
        refine g_iinc1 fx dX10_bestLaw_40 (by decide) rfl rfl (by unfold okI; omega) rfl ?_
        refine g_goto (tgt := 8) fx dX10_bestLaw_43 (by decide) ?_
        exact gw_cg (by rw [itr_s, zBlS]; (repeat first | rw [if_pos (by omega)] | rw [if_neg (by omega)])) (by rw [itr_s, zBlS, show ((i : Nat) : Int) + 1 = ((i + 1 : Nat) : Int) by omega]; (repeat first | rw [if_pos (by omega)] | rw [if_neg (by omega)]) <;> rfl) (ih (by omega))
  exact loop8 0 (Nat.zero_le _)
set_option maxRecDepth 4000 in
theorem s_X10_fits (ad : Nat → Nat) (σ : Sg)  (i : Int) : gw_Sp yX10_fits cX10_fits 4 (some .int) 9 2 12 [vR (some 0), vI i] (gw_M0 ad) σ (gw_DG (gFull σ i) (some (vI (zFit σ (trT i)).1)) (gw_M0 ad) ((zFit σ (trT i)).2)) (gw_isG (gFull σ i)) := by
  refine gw_Sp.of [some (vR (some 0)), some (vI i), none, none] (by decide +kernel) rfl (Nat.le_of_ble_eq_true rfl) ?_
  intro X G fx het hnm
  refine g_iconst fx dX10_fits_0 (by unfold okI; omega) ?_
  refine g_istore_n fx dX10_fits_1 (by decide) rfl rfl ?_
  refine g_aload_n fx dX10_fits_2 rfl ?_
  refine g_aload_n fx dX10_fits_3 rfl ?_
  refine g_iload_n fx dX10_fits_4 rfl ?_
  refine g_callVG fx het dX10_fits_5 mv_RX10_205 my_X10_needFullTray (s_X10_needFullTray ad _ _) o_0 rfl rfl rfl (Nat.le_of_ble_eq_true rfl) (by decide) (by decide) rfl rfl (fun E hE => (by (repeat first | rw [or_n hg5] | rw [if_pos (by omega)] | rw [if_neg (by omega)] | rw [Option.none_or]); first | rfl | assumption | (refine or_s ?_; assumption) | (unfold gWhat; (repeat first | rw [if_pos (by omega)] | rw [if_neg (by omega)]) <;> rfl))) (fun hg5 => ?_)
  refine g_callVD fx dX10_fits_8 mv_RX10_304 my_X10_tellsAnOrder (s_X10_tellsAnOrder ad _ (trF_in hg5)) o_0 rfl rfl rfl (Nat.le_of_ble_eq_true rfl) (by decide) (by decide) ?_
  refine g_if_eq (tgt := 57) fx dX10_fits_11 (by decide) (fun h11 => ?_) (fun h11 => ?_)
  · refine g_iload_n fx dX10_fits_57 rfl ?_
    exact g_iret fx rfl dX10_fits_58 (by decide) (by decide) (gw_le.rf _) ⟨(by (repeat first | rw [or_n hg5] | rw [if_pos (by omega)] | rw [if_neg (by omega)] | rw [Option.none_or]); first | rfl | assumption | (refine or_s ?_; assumption) | (unfold gWhat; (repeat first | rw [if_pos (by omega)] | rw [if_neg (by omega)]) <;> rfl)), by first | (rw [zFit, if_pos (by omega)]; done) | (rw [zFit, if_neg (by omega), show (8 : Nat) = k by omega]), rfl, by first | (rw [zFit, if_pos (by omega)]; done) | (rw [zFit, if_neg (by omega), show (8 : Nat) = k by omega])⟩
  · refine g_iconst fx dX10_fits_14 (by unfold okI; omega) ?_
    refine g_istore_n fx dX10_fits_15 (by decide) rfl rfl ?_
    have loop16 : ∀ k : Nat, k ≤ 8 → gw_W X (yX10_fits.cls, cX10_fits, 4, (some .int), 9, 2, 12) G (gw_Z X G (gw_M0 ad) σ (gw_DG (gFull σ i) (some (vI (zFit σ (trT i)).1)) (gw_M0 ad) ((zFit σ (trT i)).2)) (gw_isG (gFull σ i)) 2 12) (0 + 2) (0 + 12) (gw_M0 ad) ((itr k zFiS (0, (zOr σ (trT i)).2)).2) 16 [some (vR (some 0)), some (vI i), some (vI (itr k zFiS (0, (zOr σ (trT i)).2)).1), some (vI (k : Nat))] [] := by
      refine up_ind _ (8) (fun k hk ih => ?_)
      refine g_iload_n fx dX10_fits_16 rfl ?_
      refine g_bipush fx dX10_fits_17 (by decide) ?_
      refine g_icmp_ge (tgt := 57) fx dX10_fits_19 (by decide) (fun h19 => ?_) (fun h19 => ?_)
      · refine g_iload_n fx dX10_fits_57 rfl ?_
        exact g_iret fx rfl dX10_fits_58 (by decide) (by decide) (gw_le.rf _) ⟨(by (repeat first | rw [or_n hg5] | rw [if_pos (by omega)] | rw [if_neg (by omega)] | rw [Option.none_or]); first | rfl | assumption | (refine or_s ?_; assumption) | (unfold gWhat; (repeat first | rw [if_pos (by omega)] | rw [if_neg (by omega)]) <;> rfl)), by first | (rw [zFit, if_pos (by omega)]; done) | (rw [zFit, if_neg (by omega), show (8 : Nat) = k by omega]), rfl, by first | (rw [zFit, if_pos (by omega)]; done) | (rw [zFit, if_neg (by omega), show (8 : Nat) = k by omega])⟩
      · refine g_aload_n fx dX10_fits_22 rfl ?_
        refine g_iload_n fx dX10_fits_23 rfl ?_
        refine g_callVD0 fx dX10_fits_24 mv_RX10_384 my_X10_runByOne (s_X10_runByOne ad _ _) o_0 rfl rfl rfl (Nat.le_of_ble_eq_true rfl) (by decide) (by decide) ?_
        refine g_iload_n fx dX10_fits_27 rfl ?_
        refine g_aload_n fx dX10_fits_28 rfl ?_
        refine g_getr fx dX10_fits_29 fk_RX10_56 o_0 rf_0_7 ?_
        refine g_aload_n fx dX10_fits_32 rfl ?_
        refine g_getr fx dX10_fits_33 fk_RX10_80 o_0 rf_0_10 ?_
        refine g_callVD fx dX10_fits_36 mv_RX10_388 my_X5_isOrdered (s_X5_isOrdered ad _ in_96 in_143) (run_O in_96) rfl rfl rfl (Nat.le_of_ble_eq_true rfl) (by decide) (by decide) ?_
        refine g_if_eq (tgt := 48) fx dX10_fits_39 (by decide) (fun h39 => ?_) (fun h39 => ?_)
        · refine g_iconst fx dX10_fits_48 (by unfold okI; omega) ?_
          refine g_ior fx dX10_fits_49 ?_
          refine g_istore_n fx dX10_fits_50 (by decide) rfl rfl ?_
          refine g_iinc1 fx dX10_fits_51 (by decide) rfl rfl (by unfold okI; omega) rfl ?_
          refine g_goto (tgt := 16) fx dX10_fits_54 (by decide) ?_
          exact gw_cg (by rw [itr_s, zFiS]) (by rw [itr_s, zFiS, show ((k : Nat) : Int) + 1 = ((k + 1 : Nat) : Int) by omega]; (repeat first | rw [if_pos (by omega)] | rw [if_neg (by omega)]) <;> rfl) (ih (by omega))
        · refine g_iconst fx dX10_fits_42 (by unfold okI; omega) ?_
          refine g_iload_n fx dX10_fits_43 rfl ?_
          refine g_ishl fx dX10_fits_44 ?_
          refine g_goto (tgt := 49) fx dX10_fits_45 (by decide) ?_
          refine g_ior fx dX10_fits_49 ?_
          refine g_istore_n fx dX10_fits_50 (by decide) rfl rfl ?_
          refine g_iinc1 fx dX10_fits_51 (by decide) rfl rfl (by unfold okI; omega) rfl ?_
          refine g_goto (tgt := 16) fx dX10_fits_54 (by decide) ?_
          exact gw_cg (by rw [itr_s, zFiS]) (by rw [itr_s, zFiS, show ((k : Nat) : Int) + 1 = ((k + 1 : Nat) : Int) by omega]; (repeat first | rw [if_pos (by omega)] | rw [if_neg (by omega)]) <;> rfl) (ih (by omega))
    exact loop16 0 (Nat.zero_le _)
set_option maxRecDepth 4000 in
theorem s_X10_waitOnDay (ad : Nat → Nat) (σ : Sg)  (s : Int) (seed : Int) (come : Int) (g : Int) : gw_Sp yX10_waitOnDay cX10_waitOnDay 5 (some .int) 6 0 0 [vR (some 0), vI s, vI seed, vI come, vI g] (gw_M0 ad) σ (gw_D (some (vI (uW (zDay σ seed come g) 96 74 s))) (gw_M0 ad) (zDay σ seed come g)) gw_no := by
  refine gw_Sp.of [some (vR (some 0)), some (vI s), some (vI seed), some (vI come), some (vI g)] (by decide +kernel) rfl (Nat.le_of_ble_eq_true rfl) ?_
  intro X G fx het hnm
  refine g_aload_n fx dX10_waitOnDay_0 rfl ?_
  refine g_getr fx dX10_waitOnDay_1 fk_RX10_53 o_0 rf_0_6 ?_
  refine g_aload_n fx dX10_waitOnDay_4 rfl ?_
  refine g_getr fx dX10_waitOnDay_5 fk_RX10_28 o_0 rf_0_2 ?_
  refine g_callVD0 fx dX10_waitOnDay_8 mv_RX10_111 my_X1_copyOf (s_X1_copyOf ad _ in_74 in_4 (by decide)) (mill_O in_74) rfl rfl rfl (Nat.le_of_ble_eq_true rfl) (by decide) (by decide) ?_
  refine g_aload_n fx dX10_waitOnDay_11 rfl ?_
  refine g_getr fx dX10_waitOnDay_12 fk_RX10_53 o_0 rf_0_6 ?_
  refine g_iload_n fx dX10_waitOnDay_15 rfl ?_
  refine g_iload_n fx dX10_waitOnDay_16 rfl ?_
  refine g_iload fx dX10_waitOnDay_17 rfl ?_
  refine g_callVD0 fx dX10_waitOnDay_19 mv_RX10_406 my_X1_addStrangers (s_X1_addStrangers ad _ in_74 _ _ _) (mill_O in_74) rfl rfl rfl (Nat.le_of_ble_eq_true rfl) (by decide) (by decide) ?_
  refine g_aload_n fx dX10_waitOnDay_22 rfl ?_
  refine g_getr fx dX10_waitOnDay_23 fk_RX10_56 o_0 rf_0_7 ?_
  refine g_callVD0 fx dX10_waitOnDay_26 mv_RX10_189 my_X5_go (s_X5_go ad _ in_96) (run_O in_96) rfl rfl rfl (Nat.le_of_ble_eq_true rfl) (by decide) (by decide) ?_
  refine g_aload_n fx dX10_waitOnDay_29 rfl ?_
  refine g_getr fx dX10_waitOnDay_30 fk_RX10_56 o_0 rf_0_7 ?_
  refine g_iload_n fx dX10_waitOnDay_33 rfl ?_
  refine g_callVD fx dX10_waitOnDay_34 mv_RX10_252 my_X5_waitOf (s_X5_waitOf ad _ in_96 _) (run_O in_96) rfl rfl rfl (Nat.le_of_ble_eq_true rfl) (by decide) (by decide) ?_
  exact g_iret fx rfl dX10_waitOnDay_37 (by decide) (by decide) (gw_le.rf _) ⟨rfl, rfl, rfl⟩
set_option maxRecDepth 4000 in
theorem s_X10_day (ad : Nat → Nat) (σ : Sg)  (s : Int) (seed : Int) (come : Int) (g : Int) : gw_Sp yX10_day cX10_day 5 (some .int) 8 2 12 [vR (some 0), vI s, vI seed, vI come, vI g] (gw_M0 ad) σ (gw_DG ((gSack σ s).or (gStr come g)) (some (vI (uW (zDay σ seed come g) 96 74 s))) (gw_M0 ad) (zDay σ seed come g)) (gw_isG ((gSack σ s).or (gStr come g))) := by
  refine gw_Sp.of [some (vR (some 0)), some (vI s), some (vI seed), some (vI come), some (vI g)] (by decide +kernel) rfl (Nat.le_of_ble_eq_true rfl) ?_
  intro X G fx het hnm
  refine g_aload_n fx dX10_day_0 rfl ?_
  refine g_iload_n fx dX10_day_1 rfl ?_
  refine g_callVG0 fx het dX10_day_2 mv_RX10_149 my_X10_needSack (s_X10_needSack ad _ _) o_0 rfl rfl rfl (Nat.le_of_ble_eq_true rfl) (by decide) (by decide) rfl rfl (fun E hE => (by (repeat first | rw [or_n hg2] | rw [if_pos (by omega)] | rw [if_neg (by omega)] | rw [Option.none_or]); first | rfl | assumption | (refine or_s ?_; assumption) | (unfold gWhat; (repeat first | rw [if_pos (by omega)] | rw [if_neg (by omega)]) <;> rfl))) (fun hg2 => ?_)
  refine g_aload_n fx dX10_day_5 rfl ?_
  refine g_iload_n fx dX10_day_6 rfl ?_
  refine g_iload fx dX10_day_7 rfl ?_
  refine g_callVG0 fx het dX10_day_9 mv_RX10_395 my_X10_needStrangers (s_X10_needStrangers ad _ _ _) o_0 rfl rfl rfl (Nat.le_of_ble_eq_true rfl) (by decide) (by decide) rfl rfl (fun E hE => (by (repeat first | rw [or_n hg2] | rw [or_n hg9] | rw [if_pos (by omega)] | rw [if_neg (by omega)] | rw [Option.none_or]); first | rfl | assumption | (refine or_s ?_; assumption) | (unfold gWhat; (repeat first | rw [if_pos (by omega)] | rw [if_neg (by omega)]) <;> rfl))) (fun hg9 => ?_)
  refine g_aload_n fx dX10_day_12 rfl ?_
  refine g_iload_n fx dX10_day_13 rfl ?_
  refine g_iload_n fx dX10_day_14 rfl ?_
  refine g_iload_n fx dX10_day_15 rfl ?_
  refine g_iload fx dX10_day_16 rfl ?_
  refine g_callVD fx dX10_day_18 mv_RX10_398 my_X10_waitOnDay (s_X10_waitOnDay ad _ _ _ _ _) o_0 rfl rfl rfl (Nat.le_of_ble_eq_true rfl) (by decide) (by decide) ?_
  exact g_iret fx rfl dX10_day_21 (by decide) (by decide) (gw_le.rf _) ⟨(by (repeat first | rw [or_n hg2] | rw [or_n hg9] | rw [if_pos (by omega)] | rw [if_neg (by omega)] | rw [Option.none_or]); first | rfl | assumption | (refine or_s ?_; assumption) | (unfold gWhat; (repeat first | rw [if_pos (by omega)] | rw [if_neg (by omega)]) <;> rfl)), rfl, rfl, rfl⟩
set_option maxRecDepth 4000 in
theorem s_X10_days (ad : Nat → Nat) (σ : Sg)  (s : Int) (n : Int) (come : Int) (g : Int) (w : Int) : gw_Sp yX10_days cX10_days 11 (some .int) 8 4 24 [vR (some 0), vI s, vI n, vI come, vI g, vI w] (gw_M0 ad) σ (gw_DG (gDays σ s n come g w) (some (vI (if w = 0 then (zDays σ s n come g).1 else if w = 1 then (zDays σ s n come g).2.1 else (zDays σ s n come g).2.2.1))) (gw_M0 ad) ((zDays σ s n come g).2.2.2)) (gw_isG (gDays σ s n come g w)) := by
  refine gw_Sp.of [some (vR (some 0)), some (vI s), some (vI n), some (vI come), some (vI g), some (vI w), none, none, none, none, none] (by decide +kernel) rfl (Nat.le_of_ble_eq_true rfl) ?_
  intro X G fx het hnm
  refine g_aload_n fx dX10_days_0 rfl ?_
  refine g_iload_n fx dX10_days_1 rfl ?_
  refine g_callVG0 fx het dX10_days_2 mv_RX10_149 my_X10_needSack (s_X10_needSack ad _ _) o_0 rfl rfl rfl (Nat.le_of_ble_eq_true rfl) (by decide) (by decide) rfl rfl (fun E hE => (by show gDays σ s n come g w = _; rw [gDays]; (repeat first | rw [or_n hg2] | rw [if_pos (by omega)] | rw [if_neg (by omega)] | rw [Option.none_or]); first | rfl | assumption | (refine or_s ?_; assumption) | (unfold gWhat; (repeat first | rw [if_pos (by omega)] | rw [if_neg (by omega)]) <;> rfl))) (fun hg2 => ?_)
  refine g_iload_n fx dX10_days_5 rfl ?_
  refine g_iconst fx dX10_days_6 (by unfold okI; omega) ?_
  refine g_icmp_lt (tgt := 16) fx dX10_days_7 (by decide) (fun h7 => ?_) (fun h7 => ?_)
  · exact g_throwSW fx het th_RX10_142_146 (by decide +kernel : (RX10, 402, "not so many days", 35) ∈ gw_strT) eX10_days_16 eX10_days_19 eX10_days_20 eX10_days_23 eX10_days_26 (by decide) rfl rfl (by decide) (by decide) (by decide) (by show gDays σ s n come g w = _; rw [gDays, or_n hg2, if_neg (by omega)]; rfl)
  · refine g_iload_n fx dX10_days_10 rfl ?_
    refine g_bipush fx dX10_days_11 (by decide) ?_
    refine g_icmp_le (tgt := 27) fx dX10_days_13 (by decide) (fun h13 => ?_) (fun h13 => ?_)
    · refine g_aload_n fx dX10_days_27 rfl ?_
      refine g_iload_n fx dX10_days_28 rfl ?_
      refine g_iload fx dX10_days_29 rfl ?_
      refine g_callVG0 fx het dX10_days_31 mv_RX10_395 my_X10_needStrangers (s_X10_needStrangers ad _ _ _) o_0 rfl rfl rfl (Nat.le_of_ble_eq_true rfl) (by decide) (by decide) rfl rfl (fun E hE => (by show gDays σ s n come g w = _; rw [gDays]; (repeat first | rw [or_n hg2] | rw [or_n hg31] | rw [if_pos (by omega)] | rw [if_neg (by omega)] | rw [Option.none_or]); first | rfl | assumption | (refine or_s ?_; assumption) | (unfold gWhat; (repeat first | rw [if_pos (by omega)] | rw [if_neg (by omega)]) <;> rfl))) (fun hg31 => ?_)
      refine g_aload_n fx dX10_days_34 rfl ?_
      refine g_iload fx dX10_days_35 rfl ?_
      refine g_iconst fx dX10_days_37 (by unfold okI; omega) ?_
      refine g_callVG0 fx het dX10_days_38 mv_RX10_185 my_X10_needWhat (s_X10_needWhat ad _ _ _) o_0 rfl rfl rfl (Nat.le_of_ble_eq_true rfl) (by decide) (by decide) rfl rfl (fun E hE => (by show gDays σ s n come g w = _; rw [gDays]; (repeat first | rw [or_n hg2] | rw [or_n hg31] | rw [or_n hg38] | rw [if_pos (by omega)] | rw [if_neg (by omega)] | rw [Option.none_or]); first | rfl | assumption | (refine or_s ?_; assumption) | (unfold gWhat; (repeat first | rw [if_pos (by omega)] | rw [if_neg (by omega)]) <;> rfl))) (fun hg38 => ?_)
      refine g_iconst fx dX10_days_41 (by unfold okI; omega) ?_
      refine g_istore fx dX10_days_42 (by decide) rfl rfl ?_
      refine g_iconst fx dX10_days_44 (by unfold okI; omega) ?_
      refine g_istore fx dX10_days_45 (by decide) rfl rfl ?_
      refine g_iconst fx dX10_days_47 (by unfold okI; omega) ?_
      refine g_istore fx dX10_days_48 (by decide) rfl rfl ?_
      refine g_iconst fx dX10_days_50 (by unfold okI; omega) ?_
      refine g_istore fx dX10_days_51 (by decide) rfl rfl ?_
      have loop53 : ∀ i : Nat, i ≤ n.toNat → gw_W X (yX10_days.cls, cX10_days, 11, (some .int), 8, 4, 24) G (gw_Z X G (gw_M0 ad) σ (gw_DG (gDays σ s n come g w) (some (vI (if w = 0 then (zDays σ s n come g).1 else if w = 1 then (zDays σ s n come g).2.1 else (zDays σ s n come g).2.2.1))) (gw_M0 ad) ((zDays σ s n come g).2.2.2)) (gw_isG (gDays σ s n come g w)) 4 24) (0 + 1 + 1 + 1) (0 + 6 + 6 + 6) (gw_M0 ad) ((itr i (zDs s come g) (-1, -1, 0, σ)).2.2.2) 53 [some (vR (some 0)), some (vI s), some (vI n), some (vI come), some (vI g), some (vI w), some (vI (itr i (zDs s come g) (-1, -1, 0, σ)).1), some (vI (itr i (zDs s come g) (-1, -1, 0, σ)).2.1), some (vI (itr i (zDs s come g) (-1, -1, 0, σ)).2.2.1), some (vI ((i : Nat) + 1)), none] [] := by
        refine up_ind _ (n.toNat) (fun i hi ih => ?_)
        refine g_iload fx dX10_days_53 rfl ?_
        refine g_iload_n fx dX10_days_55 rfl ?_
        refine g_icmp_gt (tgt := 99) fx dX10_days_56 (by decide) (fun h56 => ?_) (fun h56 => ?_)
        · refine g_iload fx dX10_days_99 rfl ?_
          refine g_if_ne (tgt := 107) fx dX10_days_101 (by decide) (fun h101 => ?_) (fun h101 => ?_)
          · refine g_iload fx dX10_days_107 rfl ?_
            refine g_iconst fx dX10_days_109 (by unfold okI; omega) ?_
            refine g_icmp_ne (tgt := 118) fx dX10_days_110 (by decide) (fun h110 => ?_) (fun h110 => ?_)
            · refine g_iload fx dX10_days_118 rfl ?_
              exact g_iret fx rfl dX10_days_120 (by decide) (by decide) (gw_le.rf _) ⟨by rw [gDays, or_n hg2, if_pos (by omega), Option.none_or, or_n hg31]; exact hg38, by rw [zDays, show n.toNat = i by omega]; (repeat first | rw [if_pos (by omega)] | rw [if_neg (by omega)]) <;> rfl, rfl, by rw [zDays, show n.toNat = i by omega]⟩
            · refine g_iload fx dX10_days_113 rfl ?_
              refine g_goto (tgt := 120) fx dX10_days_115 (by decide) ?_
              exact g_iret fx rfl dX10_days_120 (by decide) (by decide) (gw_le.rf _) ⟨by rw [gDays, or_n hg2, if_pos (by omega), Option.none_or, or_n hg31]; exact hg38, by rw [zDays, show n.toNat = i by omega]; (repeat first | rw [if_pos (by omega)] | rw [if_neg (by omega)]) <;> rfl, rfl, by rw [zDays, show n.toNat = i by omega]⟩
          · refine g_iload fx dX10_days_104 rfl ?_
            exact g_iret fx rfl dX10_days_106 (by decide) (by decide) (gw_le.rf _) ⟨by rw [gDays, or_n hg2, if_pos (by omega), Option.none_or, or_n hg31]; exact hg38, by rw [zDays, show n.toNat = i by omega]; (repeat first | rw [if_pos (by omega)] | rw [if_neg (by omega)]) <;> rfl, rfl, by rw [zDays, show n.toNat = i by omega]⟩
        · refine g_aload_n fx dX10_days_59 rfl ?_
          refine g_iload_n fx dX10_days_60 rfl ?_
          refine g_iload fx dX10_days_61 rfl ?_
          refine g_iload_n fx dX10_days_63 rfl ?_
          refine g_iload fx dX10_days_64 rfl ?_
          refine g_callVD fx dX10_days_66 mv_RX10_398 my_X10_waitOnDay (s_X10_waitOnDay ad _ _ _ _ _) o_0 rfl rfl rfl (Nat.le_of_ble_eq_true rfl) (by decide) (by decide) ?_
          refine g_istore fx dX10_days_69 (by decide) rfl rfl ?_
          refine g_iload fx dX10_days_71 rfl ?_
          refine g_iload fx dX10_days_73 rfl ?_
          refine g_iadd fx dX10_days_75 ?_
          refine g_istore fx dX10_days_76 (by decide) rfl rfl ?_
          refine g_iload fx dX10_days_78 rfl ?_
          refine g_iload fx dX10_days_80 rfl ?_
          refine g_icmp_le (tgt := 93) fx dX10_days_82 (by decide) (fun h82 => ?_) (fun h82 => ?_)
          · refine g_iinc1 fx dX10_days_93 (by decide) rfl rfl (by unfold okI; omega) rfl ?_
            refine g_goto (tgt := 53) fx dX10_days_96 (by decide) ?_
            refine g_kill 10 rfl ?_
            exact gw_cg (by rw [itr_s, zDs]; (repeat first | rw [if_pos (by omega)] | rw [if_neg (by omega)]) <;> rfl) (by rw [itr_s, zDs, show (((i + 1 : Nat) : Int) + 1) = (i : Nat) + 1 + 1 by omega]; (repeat first | rw [if_pos (by omega)] | rw [if_neg (by omega)]) <;> rfl) (ih (by omega))
          · refine g_iload fx dX10_days_85 rfl ?_
            refine g_istore fx dX10_days_87 (by decide) rfl rfl ?_
            refine g_iload fx dX10_days_89 rfl ?_
            refine g_istore fx dX10_days_91 (by decide) rfl rfl ?_
            refine g_iinc1 fx dX10_days_93 (by decide) rfl rfl (by unfold okI; omega) rfl ?_
            refine g_goto (tgt := 53) fx dX10_days_96 (by decide) ?_
            refine g_kill 10 rfl ?_
            exact gw_cg (by rw [itr_s, zDs]; (repeat first | rw [if_pos (by omega)] | rw [if_neg (by omega)]) <;> rfl) (by rw [itr_s, zDs, show (((i + 1 : Nat) : Int) + 1) = (i : Nat) + 1 + 1 by omega]; (repeat first | rw [if_pos (by omega)] | rw [if_neg (by omega)]) <;> rfl) (ih (by omega))
      exact loop53 0 (Nat.zero_le _)
    · exact g_throwSW fx het th_RX10_142_146 (by decide +kernel : (RX10, 402, "not so many days", 35) ∈ gw_strT) eX10_days_16 eX10_days_19 eX10_days_20 eX10_days_23 eX10_days_26 (by decide) rfl rfl (by decide) (by decide) (by decide) (by show gDays σ s n come g w = _; rw [gDays, or_n hg2, if_neg (by omega)]; rfl)
set_option maxRecDepth 4000 in
theorem s_X10_latestNotLate (ad : Nat → Nat) (σ : Sg)  (s : Int) : gw_Sp yX10_latestNotLate cX10_latestNotLate 3 (some .int) 6 0 0 [vR (some 0), vI s] (gw_M0 ad) σ (gw_D (some (vI (zLn s 601 σ).1)) (gw_M0 ad) ((zLn s 601 σ).2)) gw_no := by
  refine gw_Sp.of [some (vR (some 0)), some (vI s), none] (by decide +kernel) rfl (Nat.le_of_ble_eq_true rfl) ?_
  intro X G fx het hnm
  refine g_sipush fx dX10_latestNotLate_0 (by decide) ?_
  refine g_istore_n fx dX10_latestNotLate_3 (by decide) rfl rfl ?_
  have loop4 : ∀ k : Nat, k ≤ 601 → ∀ x : Sg, zLn s 601 (σ) = zLn s k x → gw_W X (yX10_latestNotLate.cls, cX10_latestNotLate, 3, (some .int), 6, 0, 0) G (gw_Z X G (gw_M0 ad) σ (gw_D (some (vI (zLn s 601 σ).1)) (gw_M0 ad) ((zLn s 601 σ).2)) gw_no 0 0) 0 0 (gw_M0 ad) (x) 4 [some (vR (some 0)), some (vI s), some (vI ((k : Nat) - 1))] [] := by
    refine dn_ind _ (fun k ih => ?_)
    intro hk x he
    refine g_iload_n fx dX10_latestNotLate_4 rfl ?_
    refine g_if_lt (tgt := 46) fx dX10_latestNotLate_5 (by decide) (fun h5 => ?_) (fun h5 => ?_)
    · refine g_iconst fx dX10_latestNotLate_46 (by unfold okI; omega) ?_
      exact g_iret fx rfl dX10_latestNotLate_47 (by decide) (by decide) (gw_le.rf _) ⟨by rw [he, show k = 0 by omega, zLn], rfl, by rw [he, show k = 0 by omega, zLn]⟩
    · obtain ⟨j, rfl⟩ : ∃ j, k = j + 1 := ⟨k - 1, by omega⟩
      have ih := ih j rfl
      rw [show (((j + 1 : Nat) : Int) - 1) = (j : Nat) by omega]
      refine g_aload_n fx dX10_latestNotLate_8 rfl ?_
      refine g_getr fx dX10_latestNotLate_9 fk_RX10_53 o_0 rf_0_6 ?_
      refine g_getr fx dX10_latestNotLate_12 fk_RX10_162 (mill_O in_74) rf_74_10 ?_
      refine g_iload_n fx dX10_latestNotLate_15 rfl ?_
      refine g_iload_n fx dX10_latestNotLate_16 rfl ?_
      refine g_callVD0 fx dX10_latestNotLate_17 mv_RX10_219 my_X4_put (s_X4_putC ad _ in_84 (show 84 + 1 = 85 from rfl) _ _) (row_O in_84) rfl rfl rfl (Nat.le_of_ble_eq_true rfl) (by decide) (by decide) ?_
      refine g_aload_n fx dX10_latestNotLate_20 rfl ?_
      refine g_getr fx dX10_latestNotLate_21 fk_RX10_56 o_0 rf_0_7 ?_
      refine g_callVD0 fx dX10_latestNotLate_24 mv_RX10_189 my_X5_go (s_X5_go ad _ in_96) (run_O in_96) rfl rfl rfl (Nat.le_of_ble_eq_true rfl) (by decide) (by decide) ?_
      refine g_aload_n fx dX10_latestNotLate_27 rfl ?_
      refine g_getr fx dX10_latestNotLate_28 fk_RX10_56 o_0 rf_0_7 ?_
      refine g_iload_n fx dX10_latestNotLate_31 rfl ?_
      refine g_callVD fx dX10_latestNotLate_32 mv_RX10_368 my_X5_isLate (s_X5_isLate ad _ in_96 _) (run_O in_96) rfl rfl rfl (Nat.le_of_ble_eq_true rfl) (by decide) (by decide) ?_
      refine g_if_ne (tgt := 40) fx dX10_latestNotLate_35 (by decide) (fun h35 => ?_) (fun h35 => ?_)
      · refine g_iinc1 fx dX10_latestNotLate_40 (by decide) rfl rfl (by unfold okI; omega) rfl ?_
        refine g_goto (tgt := 4) fx dX10_latestNotLate_43 (by decide) ?_
        exact gw_cg rfl (by rw [show ((j : Nat) : Int) + (-1) = ((j : Nat) : Int) - 1 by omega]; rfl) (ih (by omega) _ (by rw [he, zLn, if_neg (by assumption)]))
      · refine g_iload_n fx dX10_latestNotLate_38 rfl ?_
        exact g_iret fx rfl dX10_latestNotLate_39 (by decide) (by decide) (gw_le.rf _) ⟨by rw [he, zLn, if_pos (by assumption)], rfl, by rw [he, zLn, if_pos (by assumption)]⟩
  exact gw_cg rfl (by rw [show (((601 : Nat) : Int) - 1) = 600 by omega]; rfl) (loop4 601 (Nat.le_refl _) σ rfl)
set_option maxRecDepth 4000 in
theorem s_X10_firstWithLeastWait (ad : Nat → Nat) (σ : Sg)  (s : Int) : gw_Sp yX10_firstWithLeastWait cX10_firstWithLeastWait 5 (some .int) 6 0 0 [vR (some 0), vI s] (gw_M0 ad) σ (gw_D (some (vI (zFl σ s).1)) (gw_M0 ad) ((zFl σ s).2.2)) gw_no := by
  refine gw_Sp.of [some (vR (some 0)), some (vI s), none, none, none] (by decide +kernel) rfl (Nat.le_of_ble_eq_true rfl) ?_
  intro X G fx het hnm
  refine g_iconst fx dX10_firstWithLeastWait_0 (by unfold okI; omega) ?_
  refine g_istore_n fx dX10_firstWithLeastWait_1 (by decide) rfl rfl ?_
  refine g_iconst fx dX10_firstWithLeastWait_2 (by unfold okI; omega) ?_
  refine g_istore_n fx dX10_firstWithLeastWait_3 (by decide) rfl rfl ?_
  refine g_iconst fx dX10_firstWithLeastWait_4 (by unfold okI; omega) ?_
  refine g_istore fx dX10_firstWithLeastWait_5 (by decide) rfl rfl ?_
  have loop7 : ∀ i : Nat, i ≤ 601 → gw_W X (yX10_firstWithLeastWait.cls, cX10_firstWithLeastWait, 5, (some .int), 6, 0, 0) G (gw_Z X G (gw_M0 ad) σ (gw_D (some (vI (zFl σ s).1)) (gw_M0 ad) ((zFl σ s).2.2)) gw_no 0 0) 0 0 (gw_M0 ad) ((itr i (zFlS s) (-1, 0, σ)).2.2) 7 [some (vR (some 0)), some (vI s), some (vI (itr i (zFlS s) (-1, 0, σ)).1), some (vI (itr i (zFlS s) (-1, 0, σ)).2.1), some (vI (i : Nat))] [] := by
    refine up_ind _ (601) (fun i hi ih => ?_)
    refine g_iload fx dX10_firstWithLeastWait_7 rfl ?_
    refine g_sipush fx dX10_firstWithLeastWait_9 (by decide) ?_
    refine g_icmp_gt (tgt := 70) fx dX10_firstWithLeastWait_12 (by decide) (fun h12 => ?_) (fun h12 => ?_)
    · refine g_iload_n fx dX10_firstWithLeastWait_70 rfl ?_
      exact g_iret fx rfl dX10_firstWithLeastWait_71 (by decide) (by decide) (gw_le.rf _) ⟨by rw [zFl, show (601 : Nat) = i by omega], rfl, by rw [zFl, show (601 : Nat) = i by omega]⟩
    · refine g_aload_n fx dX10_firstWithLeastWait_15 rfl ?_
      refine g_getr fx dX10_firstWithLeastWait_16 fk_RX10_53 o_0 rf_0_6 ?_
      refine g_getr fx dX10_firstWithLeastWait_19 fk_RX10_162 (mill_O in_74) rf_74_10 ?_
      refine g_iload_n fx dX10_firstWithLeastWait_22 rfl ?_
      refine g_iload fx dX10_firstWithLeastWait_23 rfl ?_
      refine g_callVD0 fx dX10_firstWithLeastWait_25 mv_RX10_219 my_X4_put (s_X4_putC ad _ in_84 (show 84 + 1 = 85 from rfl) _ _) (row_O in_84) rfl rfl rfl (Nat.le_of_ble_eq_true rfl) (by decide) (by decide) ?_
      refine g_aload_n fx dX10_firstWithLeastWait_28 rfl ?_
      refine g_getr fx dX10_firstWithLeastWait_29 fk_RX10_56 o_0 rf_0_7 ?_
      refine g_callVD0 fx dX10_firstWithLeastWait_32 mv_RX10_189 my_X5_go (s_X5_go ad _ in_96) (run_O in_96) rfl rfl rfl (Nat.le_of_ble_eq_true rfl) (by decide) (by decide) ?_
      refine g_iload_n fx dX10_firstWithLeastWait_35 rfl ?_
      refine g_iconst fx dX10_firstWithLeastWait_36 (by unfold okI; omega) ?_
      refine g_icmp_eq (tgt := 52) fx dX10_firstWithLeastWait_37 (by decide) (fun h37 => ?_) (fun h37 => ?_)
      · refine g_iload fx dX10_firstWithLeastWait_52 rfl ?_
        refine g_istore_n fx dX10_firstWithLeastWait_54 (by decide) rfl rfl ?_
        refine g_aload_n fx dX10_firstWithLeastWait_55 rfl ?_
        refine g_getr fx dX10_firstWithLeastWait_56 fk_RX10_56 o_0 rf_0_7 ?_
        refine g_iload_n fx dX10_firstWithLeastWait_59 rfl ?_
        refine g_callVD fx dX10_firstWithLeastWait_60 mv_RX10_252 my_X5_waitOf (s_X5_waitOf ad _ in_96 _) (run_O in_96) rfl rfl rfl (Nat.le_of_ble_eq_true rfl) (by decide) (by decide) ?_
        refine g_istore_n fx dX10_firstWithLeastWait_63 (by decide) rfl rfl ?_
        refine g_iinc1 fx dX10_firstWithLeastWait_64 (by decide) rfl rfl (by unfold okI; omega) rfl ?_
        refine g_goto (tgt := 7) fx dX10_firstWithLeastWait_67 (by decide) ?_
        exact gw_cg (by rw [itr_s, zFlS]; (repeat first | rw [if_pos (by omega)] | rw [if_neg (by omega)]) <;> rfl) (by rw [itr_s, zFlS, show ((i : Nat) : Int) + 1 = ((i + 1 : Nat) : Int) by omega]; (repeat first | rw [if_pos (by omega)] | rw [if_neg (by omega)]) <;> rfl) (ih (by omega))
      · refine g_aload_n fx dX10_firstWithLeastWait_40 rfl ?_
        refine g_getr fx dX10_firstWithLeastWait_41 fk_RX10_56 o_0 rf_0_7 ?_
        refine g_iload_n fx dX10_firstWithLeastWait_44 rfl ?_
        refine g_callVD fx dX10_firstWithLeastWait_45 mv_RX10_252 my_X5_waitOf (s_X5_waitOf ad _ in_96 _) (run_O in_96) rfl rfl rfl (Nat.le_of_ble_eq_true rfl) (by decide) (by decide) ?_
        refine g_iload_n fx dX10_firstWithLeastWait_48 rfl ?_
        refine g_icmp_ge (tgt := 64) fx dX10_firstWithLeastWait_49 (by decide) (fun h49 => ?_) (fun h49 => ?_)
        · refine g_iinc1 fx dX10_firstWithLeastWait_64 (by decide) rfl rfl (by unfold okI; omega) rfl ?_
          refine g_goto (tgt := 7) fx dX10_firstWithLeastWait_67 (by decide) ?_
          exact gw_cg (by rw [itr_s, zFlS]; (repeat first | rw [if_pos (by omega)] | rw [if_neg (by omega)]) <;> rfl) (by rw [itr_s, zFlS, show ((i : Nat) : Int) + 1 = ((i + 1 : Nat) : Int) by omega]; (repeat first | rw [if_pos (by omega)] | rw [if_neg (by omega)]) <;> rfl) (ih (by omega))
        · refine g_iload fx dX10_firstWithLeastWait_52 rfl ?_
          refine g_istore_n fx dX10_firstWithLeastWait_54 (by decide) rfl rfl ?_
          refine g_aload_n fx dX10_firstWithLeastWait_55 rfl ?_
          refine g_getr fx dX10_firstWithLeastWait_56 fk_RX10_56 o_0 rf_0_7 ?_
          refine g_iload_n fx dX10_firstWithLeastWait_59 rfl ?_
          refine g_callVD fx dX10_firstWithLeastWait_60 mv_RX10_252 my_X5_waitOf (s_X5_waitOf ad _ in_96 _) (run_O in_96) rfl rfl rfl (Nat.le_of_ble_eq_true rfl) (by decide) (by decide) ?_
          refine g_istore_n fx dX10_firstWithLeastWait_63 (by decide) rfl rfl ?_
          refine g_iinc1 fx dX10_firstWithLeastWait_64 (by decide) rfl rfl (by unfold okI; omega) rfl ?_
          refine g_goto (tgt := 7) fx dX10_firstWithLeastWait_67 (by decide) ?_
          exact gw_cg (by rw [itr_s, zFlS]; (repeat first | rw [if_pos (by omega)] | rw [if_neg (by omega)]) <;> rfl) (by rw [itr_s, zFlS, show ((i : Nat) : Int) + 1 = ((i + 1 : Nat) : Int) by omega]; (repeat first | rw [if_pos (by omega)] | rw [if_neg (by omega)]) <;> rfl) (ih (by omega))
  exact loop7 0 (Nat.zero_le _)
set_option maxRecDepth 4000 in
theorem s_X10_when (ad : Nat → Nat) (σ : Sg)  (s : Int) (w : Int) : gw_Sp yX10_when cX10_when 3 (some .int) 8 2 12 [vR (some 0), vI s, vI w] (gw_M0 ad) σ (gw_DG ((gSack σ s).or (gWhat w 1)) (some (vI (zWhen σ s w).1)) (gw_M0 ad) ((zWhen σ s w).2)) (gw_isG ((gSack σ s).or (gWhat w 1))) := by
  refine gw_Sp.of [some (vR (some 0)), some (vI s), some (vI w)] (by decide +kernel) rfl (Nat.le_of_ble_eq_true rfl) ?_
  intro X G fx het hnm
  refine g_aload_n fx dX10_when_0 rfl ?_
  refine g_iload_n fx dX10_when_1 rfl ?_
  refine g_callVG0 fx het dX10_when_2 mv_RX10_149 my_X10_needSack (s_X10_needSack ad _ _) o_0 rfl rfl rfl (Nat.le_of_ble_eq_true rfl) (by decide) (by decide) rfl rfl (fun E hE => (by (repeat first | rw [or_n hg2] | rw [if_pos (by omega)] | rw [if_neg (by omega)] | rw [Option.none_or]); first | rfl | assumption | (refine or_s ?_; assumption) | (unfold gWhat; (repeat first | rw [if_pos (by omega)] | rw [if_neg (by omega)]) <;> rfl))) (fun hg2 => ?_)
  refine g_aload_n fx dX10_when_5 rfl ?_
  refine g_iload_n fx dX10_when_6 rfl ?_
  refine g_iconst fx dX10_when_7 (by unfold okI; omega) ?_
  refine g_callVG0 fx het dX10_when_8 mv_RX10_185 my_X10_needWhat (s_X10_needWhat ad _ _ _) o_0 rfl rfl rfl (Nat.le_of_ble_eq_true rfl) (by decide) (by decide) rfl rfl (fun E hE => (by (repeat first | rw [or_n hg2] | rw [or_n hg8] | rw [if_pos (by omega)] | rw [if_neg (by omega)] | rw [Option.none_or]); first | rfl | assumption | (refine or_s ?_; assumption) | (unfold gWhat; (repeat first | rw [if_pos (by omega)] | rw [if_neg (by omega)]) <;> rfl))) (fun hg8 => ?_)
  refine g_aload_n fx dX10_when_11 rfl ?_
  refine g_getr fx dX10_when_12 fk_RX10_53 o_0 rf_0_6 ?_
  refine g_aload_n fx dX10_when_15 rfl ?_
  refine g_getr fx dX10_when_16 fk_RX10_28 o_0 rf_0_2 ?_
  refine g_callVD0 fx dX10_when_19 mv_RX10_111 my_X1_copyOf (s_X1_copyOf ad _ in_74 in_4 (by decide)) (mill_O in_74) rfl rfl rfl (Nat.le_of_ble_eq_true rfl) (by decide) (by decide) ?_
  refine g_iload_n fx dX10_when_22 rfl ?_
  refine g_if_ne (tgt := 34) fx dX10_when_23 (by decide) (fun h23 => ?_) (fun h23 => ?_)
  · refine g_aload_n fx dX10_when_34 rfl ?_
    refine g_iload_n fx dX10_when_35 rfl ?_
    refine g_callVD fx dX10_when_36 mv_RX10_365 my_X10_firstWithLeastWait (s_X10_firstWithLeastWait ad _ _) o_0 rfl rfl rfl (Nat.le_of_ble_eq_true rfl) (by decide) (by decide) ?_
    exact g_iret fx rfl dX10_when_39 (by decide) (by decide) (gw_le.rf _) ⟨(by (repeat first | rw [or_n hg2] | rw [or_n hg8] | rw [if_pos (by omega)] | rw [if_neg (by omega)] | rw [Option.none_or]); first | rfl | assumption | (refine or_s ?_; assumption) | (unfold gWhat; (repeat first | rw [if_pos (by omega)] | rw [if_neg (by omega)]) <;> rfl)), by first | (exfalso; omega) | (rw [zWhen]; (repeat first | rw [if_pos (by omega)] | rw [if_neg (by omega)]) <;> rfl), rfl, by first | (exfalso; omega) | (rw [zWhen]; (repeat first | rw [if_pos (by omega)] | rw [if_neg (by omega)]) <;> rfl)⟩
  · refine g_aload_n fx dX10_when_26 rfl ?_
    refine g_iload_n fx dX10_when_27 rfl ?_
    refine g_callVD fx dX10_when_28 mv_RX10_362 my_X10_latestNotLate (s_X10_latestNotLate ad _ _) o_0 rfl rfl rfl (Nat.le_of_ble_eq_true rfl) (by decide) (by decide) ?_
    refine g_goto (tgt := 39) fx dX10_when_31 (by decide) ?_
    exact g_iret fx rfl dX10_when_39 (by decide) (by decide) (gw_le.rf _) ⟨(by (repeat first | rw [or_n hg2] | rw [or_n hg8] | rw [if_pos (by omega)] | rw [if_neg (by omega)] | rw [Option.none_or]); first | rfl | assumption | (refine or_s ?_; assumption) | (unfold gWhat; (repeat first | rw [if_pos (by omega)] | rw [if_neg (by omega)]) <;> rfl)), by first | (exfalso; omega) | (rw [zWhen]; (repeat first | rw [if_pos (by omega)] | rw [if_neg (by omega)]) <;> rfl), rfl, by first | (exfalso; omega) | (rw [zWhen]; (repeat first | rw [if_pos (by omega)] | rw [if_neg (by omega)]) <;> rfl)⟩
set_option maxRecDepth 4000 in
theorem s_X10_heaviest (ad : Nat → Nat) (σ : Sg)  (s : Int) : gw_Sp yX10_heaviest cX10_heaviest 3 (some .int) 8 1 6 [vR (some 0), vI s] (gw_M0 ad) σ (gw_DG (gSack σ s) (some (vI (zHv s 99 (mCopy σ 74 4)).1)) (gw_M0 ad) ((zHv s 99 (mCopy σ 74 4)).2)) (gw_isG (gSack σ s)) := by
  refine gw_Sp.of [some (vR (some 0)), some (vI s), none] (by decide +kernel) rfl (Nat.le_of_ble_eq_true rfl) ?_
  intro X G fx het hnm
  refine g_aload_n fx dX10_heaviest_0 rfl ?_
  refine g_iload_n fx dX10_heaviest_1 rfl ?_
  refine g_callVG0 fx het dX10_heaviest_2 mv_RX10_149 my_X10_needSack (s_X10_needSack ad _ _) o_0 rfl rfl rfl (Nat.le_of_ble_eq_true rfl) (by decide) (by decide) rfl rfl (fun E hE => (by (repeat first | rw [or_n hg2] | rw [if_pos (by omega)] | rw [if_neg (by omega)] | rw [Option.none_or]); first | rfl | assumption | (refine or_s ?_; assumption) | (unfold gWhat; (repeat first | rw [if_pos (by omega)] | rw [if_neg (by omega)]) <;> rfl))) (fun hg2 => ?_)
  refine g_aload_n fx dX10_heaviest_5 rfl ?_
  refine g_getr fx dX10_heaviest_6 fk_RX10_53 o_0 rf_0_6 ?_
  refine g_aload_n fx dX10_heaviest_9 rfl ?_
  refine g_getr fx dX10_heaviest_10 fk_RX10_28 o_0 rf_0_2 ?_
  refine g_callVD0 fx dX10_heaviest_13 mv_RX10_111 my_X1_copyOf (s_X1_copyOf ad _ in_74 in_4 (by decide)) (mill_O in_74) rfl rfl rfl (Nat.le_of_ble_eq_true rfl) (by decide) (by decide) ?_
  refine g_bipush fx dX10_heaviest_16 (by decide) ?_
  refine g_istore_n fx dX10_heaviest_18 (by decide) rfl rfl ?_
  have loop19 : ∀ k : Nat, k ≤ 99 → ∀ x : Sg, zHv s 99 (mCopy σ 74 4) = zHv s k x → gw_W X (yX10_heaviest.cls, cX10_heaviest, 3, (some .int), 8, 1, 6) G (gw_Z X G (gw_M0 ad) σ (gw_DG (gSack σ s) (some (vI (zHv s 99 (mCopy σ 74 4)).1)) (gw_M0 ad) ((zHv s 99 (mCopy σ 74 4)).2)) (gw_isG (gSack σ s)) 1 6) (0 + 1) (0 + 6) (gw_M0 ad) (x) 19 [some (vR (some 0)), some (vI s), some (vI (k : Nat))] [] := by
    refine dn_ind _ (fun k ih => ?_)
    intro hk x he
    refine g_iload_n fx dX10_heaviest_19 rfl ?_
    refine g_iconst fx dX10_heaviest_20 (by unfold okI; omega) ?_
    refine g_icmp_lt (tgt := 59) fx dX10_heaviest_21 (by decide) (fun h21 => ?_) (fun h21 => ?_)
    · refine g_iconst fx dX10_heaviest_59 (by unfold okI; omega) ?_
      exact g_iret fx rfl dX10_heaviest_60 (by decide) (by decide) (gw_le.rf _) ⟨(by (repeat first | rw [or_n hg2] | rw [if_pos (by omega)] | rw [if_neg (by omega)] | rw [Option.none_or]); first | rfl | assumption | (refine or_s ?_; assumption) | (unfold gWhat; (repeat first | rw [if_pos (by omega)] | rw [if_neg (by omega)]) <;> rfl)), by rw [he, show k = 0 by omega, zHv], rfl, by rw [he, show k = 0 by omega, zHv]⟩
    · obtain ⟨j, rfl⟩ : ∃ j, k = j + 1 := ⟨k - 1, by omega⟩
      have ih := ih j rfl
      rw [show (((j + 1 : Nat) : Int)) = (j : Nat) + 1 by omega]
      refine g_aload_n fx dX10_heaviest_24 rfl ?_
      refine g_getr fx dX10_heaviest_25 fk_RX10_53 o_0 rf_0_6 ?_
      refine g_iload_n fx dX10_heaviest_28 rfl ?_
      refine g_iload_n fx dX10_heaviest_29 rfl ?_
      refine g_callVD0 fx dX10_heaviest_30 mv_RX10_359 my_X1_setWhole (s_X1_setWhole ad _ in_74 _ _) (mill_O in_74) rfl rfl rfl (Nat.le_of_ble_eq_true rfl) (by decide) (by decide) ?_
      refine g_aload_n fx dX10_heaviest_33 rfl ?_
      refine g_getr fx dX10_heaviest_34 fk_RX10_56 o_0 rf_0_7 ?_
      refine g_callVD0 fx dX10_heaviest_37 mv_RX10_189 my_X5_go (s_X5_go ad _ in_96) (run_O in_96) rfl rfl rfl (Nat.le_of_ble_eq_true rfl) (by decide) (by decide) ?_
      refine g_aload_n fx dX10_heaviest_40 rfl ?_
      refine g_getr fx dX10_heaviest_41 fk_RX10_56 o_0 rf_0_7 ?_
      refine g_iload_n fx dX10_heaviest_44 rfl ?_
      refine g_callVD fx dX10_heaviest_45 mv_RX10_368 my_X5_isLate (s_X5_isLate ad _ in_96 _) (run_O in_96) rfl rfl rfl (Nat.le_of_ble_eq_true rfl) (by decide) (by decide) ?_
      refine g_if_ne (tgt := 53) fx dX10_heaviest_48 (by decide) (fun h48 => ?_) (fun h48 => ?_)
      · refine g_iinc1 fx dX10_heaviest_53 (by decide) rfl rfl (by unfold okI; omega) rfl ?_
        refine g_goto (tgt := 19) fx dX10_heaviest_56 (by decide) ?_
        exact gw_cg rfl (by rw [show ((j : Nat) : Int) + 1 + (-1) = ((j : Nat) : Int) by omega]; rfl) (ih (by omega) _ (by rw [he, zHv, if_neg (by assumption)]))
      · refine g_iload_n fx dX10_heaviest_51 rfl ?_
        exact g_iret fx rfl dX10_heaviest_52 (by decide) (by decide) (gw_le.rf _) ⟨(by (repeat first | rw [or_n hg2] | rw [if_pos (by omega)] | rw [if_neg (by omega)] | rw [Option.none_or]); first | rfl | assumption | (refine or_s ?_; assumption) | (unfold gWhat; (repeat first | rw [if_pos (by omega)] | rw [if_neg (by omega)]) <;> rfl)), by rw [he, zHv, if_pos (by assumption)], rfl, by rw [he, zHv, if_pos (by assumption)]⟩
  exact loop19 99 (Nat.le_refl _) _ rfl
set_option maxRecDepth 4000 in
theorem s_X10_lend (ad : Nat → Nat) (σ : Sg)  (s : Int) (t : Int) (n : Int) : gw_Sp yX10_lend cX10_lend 6 (some .int) 8 3 18 [vR (some 0), vI s, vI t, vI n] (gw_M0 ad) σ (gw_DG (gLend σ s t n) (some (vI (wr (coF (zLend σ s t n) 96 74 - coF (zLend σ s t n) 26 4)))) (gw_M0 ad) (zLend σ s t n)) (gw_isG (gLend σ s t n)) := by
  refine gw_Sp.of [some (vR (some 0)), some (vI s), some (vI t), some (vI n), none, none] (by decide +kernel) rfl (Nat.le_of_ble_eq_true rfl) ?_
  intro X G fx het hnm
  refine g_aload_n fx dX10_lend_0 rfl ?_
  refine g_iload_n fx dX10_lend_1 rfl ?_
  refine g_callVG0 fx het dX10_lend_2 mv_RX10_149 my_X10_needSack (s_X10_needSack ad _ _) o_0 rfl rfl rfl (Nat.le_of_ble_eq_true rfl) (by decide) (by decide) rfl rfl (fun E hE => (by show gLend σ s t n = _; rw [gLend]; (repeat first | rw [or_n hg2] | rw [if_pos (by omega)] | rw [if_neg (by omega)] | rw [Option.none_or]); first | rfl | assumption | (refine or_s ?_; assumption) | (unfold gWhat; (repeat first | rw [if_pos (by omega)] | rw [if_neg (by omega)]) <;> rfl))) (fun hg2 => ?_)
  refine g_aload_n fx dX10_lend_5 rfl ?_
  refine g_iload_n fx dX10_lend_6 rfl ?_
  refine g_callVG0 fx het dX10_lend_7 mv_RX10_149 my_X10_needSack (s_X10_needSack ad _ _) o_0 rfl rfl rfl (Nat.le_of_ble_eq_true rfl) (by decide) (by decide) rfl rfl (fun E hE => (by show gLend σ s t n = _; rw [gLend]; (repeat first | rw [or_n hg2] | rw [or_n hg7] | rw [if_pos (by omega)] | rw [if_neg (by omega)] | rw [Option.none_or]); first | rfl | assumption | (refine or_s ?_; assumption) | (unfold gWhat; (repeat first | rw [if_pos (by omega)] | rw [if_neg (by omega)]) <;> rfl))) (fun hg7 => ?_)
  refine g_aload_n fx dX10_lend_10 rfl ?_
  refine g_getr fx dX10_lend_11 fk_RX10_28 o_0 rf_0_2 ?_
  refine g_iload_n fx dX10_lend_14 rfl ?_
  refine g_callVD fx dX10_lend_15 mv_RX10_372 my_X1_isWhole (s_X1_isWhole ad _ in_4 _) (mill_O in_4) rfl rfl rfl (Nat.le_of_ble_eq_true rfl) (by decide) (by decide) ?_
  refine g_if_eq (tgt := 32) fx dX10_lend_18 (by decide) (fun h18 => ?_) (fun h18 => ?_)
  · exact g_throwSW fx het th_RX10_375_379 (by decide +kernel : (RX10, 377, "a sack is parted", 31) ∈ gw_strT) eX10_lend_32 eX10_lend_35 eX10_lend_36 eX10_lend_39 eX10_lend_42 (by decide) rfl rfl (by decide) (by decide) (by decide) (by show gLend σ s t n = _; rw [gLend, or_n hg2, or_n hg7, if_pos (by omega)]; rfl)
  · refine g_aload_n fx dX10_lend_21 rfl ?_
    refine g_getr fx dX10_lend_22 fk_RX10_28 o_0 rf_0_2 ?_
    refine g_iload_n fx dX10_lend_25 rfl ?_
    refine g_callVD fx dX10_lend_26 mv_RX10_372 my_X1_isWhole (s_X1_isWhole ad _ in_4 _) (mill_O in_4) rfl rfl rfl (Nat.le_of_ble_eq_true rfl) (by decide) (by decide) ?_
    refine g_if_ne (tgt := 43) fx dX10_lend_29 (by decide) (fun h29 => ?_) (fun h29 => ?_)
    · refine g_aload_n fx dX10_lend_43 rfl ?_
      refine g_getr fx dX10_lend_44 fk_RX10_28 o_0 rf_0_2 ?_
      refine g_getr fx dX10_lend_47 fk_RX10_152 (mill_O in_4) rf_4_8 ?_
      refine g_iload_n fx dX10_lend_50 rfl ?_
      refine g_callVD fx dX10_lend_51 mv_RX10_155 my_X4_at (s_X4_atC ad _ in_10 (show 10 + 1 = 11 from rfl) _) (row_O in_10) rfl rfl rfl (Nat.le_of_ble_eq_true rfl) (by decide) (by decide) ?_
      refine g_istore fx dX10_lend_54 (by decide) rfl rfl ?_
      refine g_aload_n fx dX10_lend_56 rfl ?_
      refine g_getr fx dX10_lend_57 fk_RX10_28 o_0 rf_0_2 ?_
      refine g_getr fx dX10_lend_60 fk_RX10_152 (mill_O in_4) rf_4_8 ?_
      refine g_iload_n fx dX10_lend_63 rfl ?_
      refine g_callVD fx dX10_lend_64 mv_RX10_155 my_X4_at (s_X4_atC ad _ in_10 (show 10 + 1 = 11 from rfl) _) (row_O in_10) rfl rfl rfl (Nat.le_of_ble_eq_true rfl) (by decide) (by decide) ?_
      refine g_istore fx dX10_lend_67 (by decide) rfl rfl ?_
      refine g_iload_n fx dX10_lend_69 rfl ?_
      refine g_iload_n fx dX10_lend_70 rfl ?_
      refine g_icmp_eq (tgt := 94) fx dX10_lend_71 (by decide) (fun h71 => ?_) (fun h71 => ?_)
      · exact g_throwSW fx het th_RX10_142_146 (by decide +kernel : (RX10, 380, "not to be lent", 32) ∈ gw_strT) eX10_lend_94 eX10_lend_97 eX10_lend_98 eX10_lend_101 eX10_lend_104 (by decide) rfl rfl (by decide) (by decide) (by decide) (by show gLend σ s t n = _; rw [gLend, or_n hg2, or_n hg7, if_neg (by omega), if_pos (by omega)]; rfl)
      · refine g_iload_n fx dX10_lend_74 rfl ?_
        refine g_iconst fx dX10_lend_75 (by unfold okI; omega) ?_
        refine g_icmp_lt (tgt := 94) fx dX10_lend_76 (by decide) (fun h76 => ?_) (fun h76 => ?_)
        · exact g_throwSW fx het th_RX10_142_146 (by decide +kernel : (RX10, 380, "not to be lent", 32) ∈ gw_strT) eX10_lend_94 eX10_lend_97 eX10_lend_98 eX10_lend_101 eX10_lend_104 (by decide) rfl rfl (by decide) (by decide) (by decide) (by show gLend σ s t n = _; rw [gLend, or_n hg2, or_n hg7, if_neg (by omega), if_pos (by omega)]; rfl)
        · refine g_iload_n fx dX10_lend_79 rfl ?_
          refine g_iload fx dX10_lend_80 rfl ?_
          refine g_icmp_ge (tgt := 94) fx dX10_lend_82 (by decide) (fun h82 => ?_) (fun h82 => ?_)
          · exact g_throwSW fx het th_RX10_142_146 (by decide +kernel : (RX10, 380, "not to be lent", 32) ∈ gw_strT) eX10_lend_94 eX10_lend_97 eX10_lend_98 eX10_lend_101 eX10_lend_104 (by decide) rfl rfl (by decide) (by decide) (by decide) (by show gLend σ s t n = _; rw [gLend, or_n hg2, or_n hg7, if_neg (by omega), if_pos (by omega)]; rfl)
          · refine g_iload_n fx dX10_lend_85 rfl ?_
            refine g_bipush fx dX10_lend_86 (by decide) ?_
            refine g_iload fx dX10_lend_88 rfl ?_
            refine g_isub fx dX10_lend_90 ?_
            refine g_icmp_le (tgt := 105) fx dX10_lend_91 (by decide) (fun h91 => ?_) (fun h91 => ?_)
            · refine g_aload_n fx dX10_lend_105 rfl ?_
              refine g_getr fx dX10_lend_106 fk_RX10_53 o_0 rf_0_6 ?_
              refine g_aload_n fx dX10_lend_109 rfl ?_
              refine g_getr fx dX10_lend_110 fk_RX10_28 o_0 rf_0_2 ?_
              refine g_callVD0 fx dX10_lend_113 mv_RX10_111 my_X1_copyOf (s_X1_copyOf ad _ in_74 in_4 (by decide)) (mill_O in_74) rfl rfl rfl (Nat.le_of_ble_eq_true rfl) (by decide) (by decide) ?_
              refine g_aload_n fx dX10_lend_116 rfl ?_
              refine g_getr fx dX10_lend_117 fk_RX10_53 o_0 rf_0_6 ?_
              refine g_iload_n fx dX10_lend_120 rfl ?_
              refine g_iload fx dX10_lend_121 rfl ?_
              refine g_iload_n fx dX10_lend_123 rfl ?_
              refine g_isub fx dX10_lend_124 ?_
              refine g_callVD0 fx dX10_lend_125 mv_RX10_359 my_X1_setWhole (s_X1_setWhole ad _ in_74 _ _) (mill_O in_74) rfl rfl rfl (Nat.le_of_ble_eq_true rfl) (by decide) (by decide) ?_
              refine g_aload_n fx dX10_lend_128 rfl ?_
              refine g_getr fx dX10_lend_129 fk_RX10_53 o_0 rf_0_6 ?_
              refine g_iload_n fx dX10_lend_132 rfl ?_
              refine g_iload fx dX10_lend_133 rfl ?_
              refine g_iload_n fx dX10_lend_135 rfl ?_
              refine g_iadd fx dX10_lend_136 ?_
              refine g_callVD0 fx dX10_lend_137 mv_RX10_359 my_X1_setWhole (s_X1_setWhole ad _ in_74 _ _) (mill_O in_74) rfl rfl rfl (Nat.le_of_ble_eq_true rfl) (by decide) (by decide) ?_
              refine g_aload_n fx dX10_lend_140 rfl ?_
              refine g_getr fx dX10_lend_141 fk_RX10_56 o_0 rf_0_7 ?_
              refine g_callVD0 fx dX10_lend_144 mv_RX10_189 my_X5_go (s_X5_go ad _ in_96) (run_O in_96) rfl rfl rfl (Nat.le_of_ble_eq_true rfl) (by decide) (by decide) ?_
              refine g_aload_n fx dX10_lend_147 rfl ?_
              refine g_getr fx dX10_lend_148 fk_RX10_37 o_0 rf_0_3 ?_
              refine g_callVD0 fx dX10_lend_151 mv_RX10_189 my_X5_go (s_X5_go ad _ in_26) (run_O in_26) rfl rfl rfl (Nat.le_of_ble_eq_true rfl) (by decide) (by decide) ?_
              refine g_aload_n fx dX10_lend_154 rfl ?_
              refine g_getr fx dX10_lend_155 fk_RX10_56 o_0 rf_0_7 ?_
              refine g_callVD fx dX10_lend_158 mv_RX10_263 my_X5_costOfAll (s_X5_costOfAll ad _ in_96) (run_O in_96) rfl rfl rfl (Nat.le_of_ble_eq_true rfl) (by decide) (by decide) ?_
              refine g_aload_n fx dX10_lend_161 rfl ?_
              refine g_getr fx dX10_lend_162 fk_RX10_37 o_0 rf_0_3 ?_
              refine g_callVD fx dX10_lend_165 mv_RX10_263 my_X5_costOfAll (s_X5_costOfAll ad _ in_26) (run_O in_26) rfl rfl rfl (Nat.le_of_ble_eq_true rfl) (by decide) (by decide) ?_
              refine g_isub fx dX10_lend_168 ?_
              exact g_iret fx rfl dX10_lend_169 (by decide) (by decide) (gw_le.rf _) ⟨by rw [gLend, or_n hg2, or_n hg7, if_neg (by omega), if_neg (by omega)], rfl, rfl, rfl⟩
            · exact g_throwSW fx het th_RX10_142_146 (by decide +kernel : (RX10, 380, "not to be lent", 32) ∈ gw_strT) eX10_lend_94 eX10_lend_97 eX10_lend_98 eX10_lend_101 eX10_lend_104 (by decide) rfl rfl (by decide) (by decide) (by decide) (by show gLend σ s t n = _; rw [gLend, or_n hg2, or_n hg7, if_neg (by omega), if_pos (by omega)]; rfl)
    · exact g_throwSW fx het th_RX10_375_379 (by decide +kernel : (RX10, 377, "a sack is parted", 31) ∈ gw_strT) eX10_lend_32 eX10_lend_35 eX10_lend_36 eX10_lend_39 eX10_lend_42 (by decide) rfl rfl (by decide) (by decide) (by decide) (by show gLend σ s t n = _; rw [gLend, or_n hg2, or_n hg7, if_pos (by omega)]; rfl)
