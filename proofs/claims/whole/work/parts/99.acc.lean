/-! THE LAW, 7: the rest of its static methods -/
theorem myH_L_settle : gw_myH yL_settle cL_settle 4 (some .int) [(0, 9, 12, 13)] 3 := ⟨gw_mem 1248 (by decide +kernel) rfl, gw_mem 94 (by decide +kernel) rfl, by decide +kernel, by decide⟩
theorem dL_settle_0 : gw_dc cL_settle 0 (.aload_n 2) 1 1 := ⟨by decide +kernel, rfl⟩
theorem dL_settle_1 : gw_dc cL_settle 1 (.iconst 0) 1 2 := ⟨by decide +kernel, rfl⟩
theorem dL_settle_2 : gw_dc cL_settle 2 (.aload_n 0) 1 3 := ⟨by decide +kernel, rfl⟩
theorem dL_settle_3 : gw_dc cL_settle 3 (.iload_n 1) 1 4 := ⟨by decide +kernel, rfl⟩
theorem mv_RL_62 : gw_mv RL 62 yX10_settle := ⟨gw_mem 1249 (by decide +kernel) rfl, gw_mem 1250 (by decide +kernel) rfl, gw_mem 1251 (by decide +kernel) rfl⟩
theorem my_X10_settle : gw_my yX10_settle cX10_settle 6 (some .int) 1 := ⟨gw_mem 1252 (by decide +kernel) rfl, gw_mem 95 (by decide +kernel) rfl, by decide +kernel, by decide⟩
theorem dL_settle_4 : gw_dc cL_settle 4 (.invokevirtual 62) 3 7 := ⟨by decide +kernel, rfl⟩
theorem dL_settle_12 : gw_dc cL_settle 12 (.astore_n 3) 1 13 := ⟨by decide +kernel, rfl⟩
theorem dL_settle_13 : gw_dc cL_settle 13 (.iconst 1) 1 14 := ⟨by decide +kernel, rfl⟩
theorem dL_settle_14 : decode cL_settle 14 = .ok (.ireturn, 1) := by decide +kernel
theorem dL_settle_7 : gw_dc cL_settle 7 (.i2l) 1 8 := ⟨by decide +kernel, rfl⟩
theorem dL_settle_8 : gw_dc cL_settle 8 (.lastore) 1 9 := ⟨by decide +kernel, rfl⟩
theorem dL_settle_9 : gw_dc cL_settle 9 (.goto 6) 3 12 := ⟨by decide +kernel, rfl⟩
theorem dL_settle_15 : gw_dc cL_settle 15 (.iconst 0) 1 16 := ⟨by decide +kernel, rfl⟩
theorem dL_settle_16 : decode cL_settle 16 = .ok (.ireturn, 1) := by decide +kernel
theorem myH_L_fee : gw_myH yL_fee cL_fee 4 (some .int) [(0, 9, 12, 13)] 3 := ⟨gw_mem 1259 (by decide +kernel) rfl, gw_mem 94 (by decide +kernel) rfl, by decide +kernel, by decide⟩
theorem dL_fee_0 : gw_dc cL_fee 0 (.aload_n 2) 1 1 := ⟨by decide +kernel, rfl⟩
theorem dL_fee_1 : gw_dc cL_fee 1 (.iconst 0) 1 2 := ⟨by decide +kernel, rfl⟩
theorem dL_fee_2 : gw_dc cL_fee 2 (.aload_n 0) 1 3 := ⟨by decide +kernel, rfl⟩
theorem dL_fee_3 : gw_dc cL_fee 3 (.iload_n 1) 1 4 := ⟨by decide +kernel, rfl⟩
theorem mv_RL_65 : gw_mv RL 65 yX10_fee := ⟨gw_mem 1260 (by decide +kernel) rfl, gw_mem 1261 (by decide +kernel) rfl, gw_mem 1262 (by decide +kernel) rfl⟩
theorem my_X10_fee : gw_my yX10_fee cX10_fee 4 (some .int) 1 := ⟨gw_mem 1263 (by decide +kernel) rfl, gw_mem 95 (by decide +kernel) rfl, by decide +kernel, by decide⟩
theorem dL_fee_4 : gw_dc cL_fee 4 (.invokevirtual 65) 3 7 := ⟨by decide +kernel, rfl⟩
theorem dL_fee_12 : gw_dc cL_fee 12 (.astore_n 3) 1 13 := ⟨by decide +kernel, rfl⟩
theorem dL_fee_13 : gw_dc cL_fee 13 (.iconst 1) 1 14 := ⟨by decide +kernel, rfl⟩
theorem dL_fee_14 : decode cL_fee 14 = .ok (.ireturn, 1) := by decide +kernel
theorem dL_fee_7 : gw_dc cL_fee 7 (.i2l) 1 8 := ⟨by decide +kernel, rfl⟩
theorem dL_fee_8 : gw_dc cL_fee 8 (.lastore) 1 9 := ⟨by decide +kernel, rfl⟩
theorem dL_fee_9 : gw_dc cL_fee 9 (.goto 6) 3 12 := ⟨by decide +kernel, rfl⟩
theorem dL_fee_15 : gw_dc cL_fee 15 (.iconst 0) 1 16 := ⟨by decide +kernel, rfl⟩
theorem dL_fee_16 : decode cL_fee 16 = .ok (.ireturn, 1) := by decide +kernel
theorem myH_L_when : gw_myH yL_when cL_when 5 (some .int) [(0, 10, 13, 22), (0, 10, 17, 13)] 4 := ⟨gw_mem 1276 (by decide +kernel) rfl, gw_mem 94 (by decide +kernel) rfl, by decide +kernel, by decide⟩
theorem dL_when_0 : gw_dc cL_when 0 (.aload_n 3) 1 1 := ⟨by decide +kernel, rfl⟩
theorem dL_when_1 : gw_dc cL_when 1 (.iconst 0) 1 2 := ⟨by decide +kernel, rfl⟩
theorem dL_when_2 : gw_dc cL_when 2 (.aload_n 0) 1 3 := ⟨by decide +kernel, rfl⟩
theorem dL_when_3 : gw_dc cL_when 3 (.iload_n 1) 1 4 := ⟨by decide +kernel, rfl⟩
theorem dL_when_4 : gw_dc cL_when 4 (.iload_n 2) 1 5 := ⟨by decide +kernel, rfl⟩
theorem mv_RL_68 : gw_mv RL 68 yX10_when := ⟨gw_mem 1277 (by decide +kernel) rfl, gw_mem 1278 (by decide +kernel) rfl, gw_mem 1279 (by decide +kernel) rfl⟩
theorem my_X10_when : gw_my yX10_when cX10_when 3 (some .int) 2 := ⟨gw_mem 1280 (by decide +kernel) rfl, gw_mem 95 (by decide +kernel) rfl, by decide +kernel, by decide⟩
theorem dL_when_5 : gw_dc cL_when 5 (.invokevirtual 68) 3 8 := ⟨by decide +kernel, rfl⟩
theorem dL_when_13 : gw_dc cL_when 13 (.astore 4) 2 15 := ⟨by decide +kernel, rfl⟩
theorem dL_when_15 : gw_dc cL_when 15 (.iconst 1) 1 16 := ⟨by decide +kernel, rfl⟩
theorem dL_when_16 : decode cL_when 16 = .ok (.ireturn, 1) := by decide +kernel
theorem dL_when_17 : gw_dc cL_when 17 (.astore 4) 2 19 := ⟨by decide +kernel, rfl⟩
theorem dL_when_19 : gw_dc cL_when 19 (.iconst 2) 1 20 := ⟨by decide +kernel, rfl⟩
theorem dL_when_20 : decode cL_when 20 = .ok (.ireturn, 1) := by decide +kernel
theorem dL_when_8 : gw_dc cL_when 8 (.i2l) 1 9 := ⟨by decide +kernel, rfl⟩
theorem dL_when_9 : gw_dc cL_when 9 (.lastore) 1 10 := ⟨by decide +kernel, rfl⟩
theorem dL_when_10 : gw_dc cL_when 10 (.goto 11) 3 13 := ⟨by decide +kernel, rfl⟩
theorem dL_when_21 : gw_dc cL_when 21 (.iconst 0) 1 22 := ⟨by decide +kernel, rfl⟩
theorem dL_when_22 : decode cL_when 22 = .ok (.ireturn, 1) := by decide +kernel
theorem myH_L_heaviest : gw_myH yL_heaviest cL_heaviest 4 (some .int) [(0, 9, 12, 22)] 3 := ⟨gw_mem 1292 (by decide +kernel) rfl, gw_mem 94 (by decide +kernel) rfl, by decide +kernel, by decide⟩
theorem dL_heaviest_0 : gw_dc cL_heaviest 0 (.aload_n 2) 1 1 := ⟨by decide +kernel, rfl⟩
theorem dL_heaviest_1 : gw_dc cL_heaviest 1 (.iconst 0) 1 2 := ⟨by decide +kernel, rfl⟩
theorem dL_heaviest_2 : gw_dc cL_heaviest 2 (.aload_n 0) 1 3 := ⟨by decide +kernel, rfl⟩
theorem dL_heaviest_3 : gw_dc cL_heaviest 3 (.iload_n 1) 1 4 := ⟨by decide +kernel, rfl⟩
theorem mv_RL_71 : gw_mv RL 71 yX10_heaviest := ⟨gw_mem 1293 (by decide +kernel) rfl, gw_mem 1294 (by decide +kernel) rfl, gw_mem 1295 (by decide +kernel) rfl⟩
theorem my_X10_heaviest : gw_my yX10_heaviest cX10_heaviest 3 (some .int) 1 := ⟨gw_mem 1296 (by decide +kernel) rfl, gw_mem 95 (by decide +kernel) rfl, by decide +kernel, by decide⟩
theorem dL_heaviest_4 : gw_dc cL_heaviest 4 (.invokevirtual 71) 3 7 := ⟨by decide +kernel, rfl⟩
theorem dL_heaviest_12 : gw_dc cL_heaviest 12 (.astore_n 3) 1 13 := ⟨by decide +kernel, rfl⟩
theorem dL_heaviest_13 : gw_dc cL_heaviest 13 (.iconst 1) 1 14 := ⟨by decide +kernel, rfl⟩
theorem dL_heaviest_14 : decode cL_heaviest 14 = .ok (.ireturn, 1) := by decide +kernel
theorem dL_heaviest_7 : gw_dc cL_heaviest 7 (.i2l) 1 8 := ⟨by decide +kernel, rfl⟩
theorem dL_heaviest_8 : gw_dc cL_heaviest 8 (.lastore) 1 9 := ⟨by decide +kernel, rfl⟩
theorem dL_heaviest_9 : gw_dc cL_heaviest 9 (.goto 6) 3 12 := ⟨by decide +kernel, rfl⟩
theorem dL_heaviest_15 : gw_dc cL_heaviest 15 (.iconst 0) 1 16 := ⟨by decide +kernel, rfl⟩
theorem dL_heaviest_16 : decode cL_heaviest 16 = .ok (.ireturn, 1) := by decide +kernel
theorem myH_L_lend : gw_myH yL_lend cL_lend 6 (some .int) [(0, 12, 15, 22), (0, 12, 19, 30), (0, 12, 23, 13)] 5 := ⟨gw_mem 1299 (by decide +kernel) rfl, gw_mem 94 (by decide +kernel) rfl, by decide +kernel, by decide⟩
theorem dL_lend_0 : gw_dc cL_lend 0 (.aload 4) 2 2 := ⟨by decide +kernel, rfl⟩
theorem dL_lend_2 : gw_dc cL_lend 2 (.iconst 0) 1 3 := ⟨by decide +kernel, rfl⟩
theorem dL_lend_3 : gw_dc cL_lend 3 (.aload_n 0) 1 4 := ⟨by decide +kernel, rfl⟩
theorem dL_lend_4 : gw_dc cL_lend 4 (.iload_n 1) 1 5 := ⟨by decide +kernel, rfl⟩
theorem dL_lend_5 : gw_dc cL_lend 5 (.iload_n 2) 1 6 := ⟨by decide +kernel, rfl⟩
theorem dL_lend_6 : gw_dc cL_lend 6 (.iload_n 3) 1 7 := ⟨by decide +kernel, rfl⟩
theorem mv_RL_74 : gw_mv RL 74 yX10_lend := ⟨gw_mem 1300 (by decide +kernel) rfl, gw_mem 1301 (by decide +kernel) rfl, gw_mem 1302 (by decide +kernel) rfl⟩
theorem my_X10_lend : gw_my yX10_lend cX10_lend 6 (some .int) 3 := ⟨gw_mem 1303 (by decide +kernel) rfl, gw_mem 95 (by decide +kernel) rfl, by decide +kernel, by decide⟩
theorem dL_lend_7 : gw_dc cL_lend 7 (.invokevirtual 74) 3 10 := ⟨by decide +kernel, rfl⟩
theorem dL_lend_15 : gw_dc cL_lend 15 (.astore 5) 2 17 := ⟨by decide +kernel, rfl⟩
theorem dL_lend_17 : gw_dc cL_lend 17 (.iconst 1) 1 18 := ⟨by decide +kernel, rfl⟩
theorem dL_lend_18 : decode cL_lend 18 = .ok (.ireturn, 1) := by decide +kernel
theorem dL_lend_19 : gw_dc cL_lend 19 (.astore 5) 2 21 := ⟨by decide +kernel, rfl⟩
theorem dL_lend_21 : gw_dc cL_lend 21 (.iconst 2) 1 22 := ⟨by decide +kernel, rfl⟩
theorem dL_lend_22 : decode cL_lend 22 = .ok (.ireturn, 1) := by decide +kernel
theorem dL_lend_23 : gw_dc cL_lend 23 (.astore 5) 2 25 := ⟨by decide +kernel, rfl⟩
theorem dL_lend_25 : gw_dc cL_lend 25 (.iconst 3) 1 26 := ⟨by decide +kernel, rfl⟩
theorem dL_lend_26 : decode cL_lend 26 = .ok (.ireturn, 1) := by decide +kernel
theorem dL_lend_10 : gw_dc cL_lend 10 (.i2l) 1 11 := ⟨by decide +kernel, rfl⟩
theorem dL_lend_11 : gw_dc cL_lend 11 (.lastore) 1 12 := ⟨by decide +kernel, rfl⟩
theorem dL_lend_12 : gw_dc cL_lend 12 (.goto 15) 3 15 := ⟨by decide +kernel, rfl⟩
theorem dL_lend_27 : gw_dc cL_lend 27 (.iconst 0) 1 28 := ⟨by decide +kernel, rfl⟩
theorem dL_lend_28 : decode cL_lend 28 = .ok (.ireturn, 1) := by decide +kernel
theorem myH_L_by : gw_myH yL_by cL_by 4 (some .int) [(0, 9, 12, 13)] 3 := ⟨gw_mem 1309 (by decide +kernel) rfl, gw_mem 94 (by decide +kernel) rfl, by decide +kernel, by decide⟩
theorem dL_by_0 : gw_dc cL_by 0 (.aload_n 2) 1 1 := ⟨by decide +kernel, rfl⟩
theorem dL_by_1 : gw_dc cL_by 1 (.iconst 0) 1 2 := ⟨by decide +kernel, rfl⟩
theorem dL_by_2 : gw_dc cL_by 2 (.aload_n 0) 1 3 := ⟨by decide +kernel, rfl⟩
theorem dL_by_3 : gw_dc cL_by 3 (.iload_n 1) 1 4 := ⟨by decide +kernel, rfl⟩
theorem mv_RL_77 : gw_mv RL 77 yX10_by := ⟨gw_mem 1310 (by decide +kernel) rfl, gw_mem 1311 (by decide +kernel) rfl, gw_mem 1312 (by decide +kernel) rfl⟩
theorem my_X10_by : gw_my yX10_by cX10_by 2 (some .int) 1 := ⟨gw_mem 1313 (by decide +kernel) rfl, gw_mem 95 (by decide +kernel) rfl, by decide +kernel, by decide⟩
theorem dL_by_4 : gw_dc cL_by 4 (.invokevirtual 77) 3 7 := ⟨by decide +kernel, rfl⟩
theorem dL_by_12 : gw_dc cL_by 12 (.astore_n 3) 1 13 := ⟨by decide +kernel, rfl⟩
theorem dL_by_13 : gw_dc cL_by 13 (.iconst 1) 1 14 := ⟨by decide +kernel, rfl⟩
theorem dL_by_14 : decode cL_by 14 = .ok (.ireturn, 1) := by decide +kernel
theorem dL_by_7 : gw_dc cL_by 7 (.i2l) 1 8 := ⟨by decide +kernel, rfl⟩
theorem dL_by_8 : gw_dc cL_by 8 (.lastore) 1 9 := ⟨by decide +kernel, rfl⟩
theorem dL_by_9 : gw_dc cL_by 9 (.goto 6) 3 12 := ⟨by decide +kernel, rfl⟩
theorem dL_by_15 : gw_dc cL_by 15 (.iconst 0) 1 16 := ⟨by decide +kernel, rfl⟩
theorem dL_by_16 : decode cL_by 16 = .ok (.ireturn, 1) := by decide +kernel
theorem myH_L_fits : gw_myH yL_fits cL_fits 4 (some .int) [(0, 9, 12, 22), (0, 9, 15, 30)] 3 := ⟨gw_mem 1317 (by decide +kernel) rfl, gw_mem 94 (by decide +kernel) rfl, by decide +kernel, by decide⟩
theorem dL_fits_0 : gw_dc cL_fits 0 (.aload_n 2) 1 1 := ⟨by decide +kernel, rfl⟩
theorem dL_fits_1 : gw_dc cL_fits 1 (.iconst 0) 1 2 := ⟨by decide +kernel, rfl⟩
theorem dL_fits_2 : gw_dc cL_fits 2 (.aload_n 0) 1 3 := ⟨by decide +kernel, rfl⟩
theorem dL_fits_3 : gw_dc cL_fits 3 (.iload_n 1) 1 4 := ⟨by decide +kernel, rfl⟩
theorem mv_RL_80 : gw_mv RL 80 yX10_fits := ⟨gw_mem 1318 (by decide +kernel) rfl, gw_mem 1319 (by decide +kernel) rfl, gw_mem 1320 (by decide +kernel) rfl⟩
theorem my_X10_fits : gw_my yX10_fits cX10_fits 4 (some .int) 1 := ⟨gw_mem 1321 (by decide +kernel) rfl, gw_mem 95 (by decide +kernel) rfl, by decide +kernel, by decide⟩
theorem dL_fits_4 : gw_dc cL_fits 4 (.invokevirtual 80) 3 7 := ⟨by decide +kernel, rfl⟩
theorem dL_fits_12 : gw_dc cL_fits 12 (.astore_n 3) 1 13 := ⟨by decide +kernel, rfl⟩
theorem dL_fits_13 : gw_dc cL_fits 13 (.iconst 1) 1 14 := ⟨by decide +kernel, rfl⟩
theorem dL_fits_14 : decode cL_fits 14 = .ok (.ireturn, 1) := by decide +kernel
theorem dL_fits_15 : gw_dc cL_fits 15 (.astore_n 3) 1 16 := ⟨by decide +kernel, rfl⟩
theorem dL_fits_16 : gw_dc cL_fits 16 (.iconst 2) 1 17 := ⟨by decide +kernel, rfl⟩
theorem dL_fits_17 : decode cL_fits 17 = .ok (.ireturn, 1) := by decide +kernel
theorem dL_fits_7 : gw_dc cL_fits 7 (.i2l) 1 8 := ⟨by decide +kernel, rfl⟩
theorem dL_fits_8 : gw_dc cL_fits 8 (.lastore) 1 9 := ⟨by decide +kernel, rfl⟩
theorem dL_fits_9 : gw_dc cL_fits 9 (.goto 9) 3 12 := ⟨by decide +kernel, rfl⟩
theorem dL_fits_18 : gw_dc cL_fits 18 (.iconst 0) 1 19 := ⟨by decide +kernel, rfl⟩
theorem dL_fits_19 : decode cL_fits 19 = .ok (.ireturn, 1) := by decide +kernel
theorem myH_L_day : gw_myH yL_day cL_day 7 (some .int) [(0, 14, 17, 22), (0, 14, 21, 13)] 6 := ⟨gw_mem 1328 (by decide +kernel) rfl, gw_mem 94 (by decide +kernel) rfl, by decide +kernel, by decide⟩
theorem dL_day_0 : gw_dc cL_day 0 (.aload 5) 2 2 := ⟨by decide +kernel, rfl⟩
theorem dL_day_2 : gw_dc cL_day 2 (.iconst 0) 1 3 := ⟨by decide +kernel, rfl⟩
theorem dL_day_3 : gw_dc cL_day 3 (.aload_n 0) 1 4 := ⟨by decide +kernel, rfl⟩
theorem dL_day_4 : gw_dc cL_day 4 (.iload_n 1) 1 5 := ⟨by decide +kernel, rfl⟩
theorem dL_day_5 : gw_dc cL_day 5 (.iload_n 2) 1 6 := ⟨by decide +kernel, rfl⟩
theorem dL_day_6 : gw_dc cL_day 6 (.iload_n 3) 1 7 := ⟨by decide +kernel, rfl⟩
theorem dL_day_7 : gw_dc cL_day 7 (.iload 4) 2 9 := ⟨by decide +kernel, rfl⟩
theorem mv_RL_83 : gw_mv RL 83 yX10_day := ⟨gw_mem 1329 (by decide +kernel) rfl, gw_mem 1330 (by decide +kernel) rfl, gw_mem 1331 (by decide +kernel) rfl⟩
theorem my_X10_day : gw_my yX10_day cX10_day 5 (some .int) 4 := ⟨gw_mem 1332 (by decide +kernel) rfl, gw_mem 95 (by decide +kernel) rfl, by decide +kernel, by decide⟩
theorem dL_day_9 : gw_dc cL_day 9 (.invokevirtual 83) 3 12 := ⟨by decide +kernel, rfl⟩
theorem dL_day_17 : gw_dc cL_day 17 (.astore 6) 2 19 := ⟨by decide +kernel, rfl⟩
theorem dL_day_19 : gw_dc cL_day 19 (.iconst 1) 1 20 := ⟨by decide +kernel, rfl⟩
theorem dL_day_20 : decode cL_day 20 = .ok (.ireturn, 1) := by decide +kernel
theorem dL_day_21 : gw_dc cL_day 21 (.astore 6) 2 23 := ⟨by decide +kernel, rfl⟩
theorem dL_day_23 : gw_dc cL_day 23 (.iconst 2) 1 24 := ⟨by decide +kernel, rfl⟩
theorem dL_day_24 : decode cL_day 24 = .ok (.ireturn, 1) := by decide +kernel
theorem dL_day_12 : gw_dc cL_day 12 (.i2l) 1 13 := ⟨by decide +kernel, rfl⟩
theorem dL_day_13 : gw_dc cL_day 13 (.lastore) 1 14 := ⟨by decide +kernel, rfl⟩
theorem dL_day_14 : gw_dc cL_day 14 (.goto 11) 3 17 := ⟨by decide +kernel, rfl⟩
theorem dL_day_25 : gw_dc cL_day 25 (.iconst 0) 1 26 := ⟨by decide +kernel, rfl⟩
theorem dL_day_26 : decode cL_day 26 = .ok (.ireturn, 1) := by decide +kernel
theorem myH_L_days : gw_myH yL_days cL_days 8 (some .int) [(0, 16, 19, 22), (0, 16, 23, 13)] 7 := ⟨gw_mem 1353 (by decide +kernel) rfl, gw_mem 94 (by decide +kernel) rfl, by decide +kernel, by decide⟩
theorem dL_days_0 : gw_dc cL_days 0 (.aload 6) 2 2 := ⟨by decide +kernel, rfl⟩
theorem dL_days_2 : gw_dc cL_days 2 (.iconst 0) 1 3 := ⟨by decide +kernel, rfl⟩
theorem dL_days_3 : gw_dc cL_days 3 (.aload_n 0) 1 4 := ⟨by decide +kernel, rfl⟩
theorem dL_days_4 : gw_dc cL_days 4 (.iload_n 1) 1 5 := ⟨by decide +kernel, rfl⟩
theorem dL_days_5 : gw_dc cL_days 5 (.iload_n 2) 1 6 := ⟨by decide +kernel, rfl⟩
theorem dL_days_6 : gw_dc cL_days 6 (.iload_n 3) 1 7 := ⟨by decide +kernel, rfl⟩
theorem dL_days_7 : gw_dc cL_days 7 (.iload 4) 2 9 := ⟨by decide +kernel, rfl⟩
theorem dL_days_9 : gw_dc cL_days 9 (.iload 5) 2 11 := ⟨by decide +kernel, rfl⟩
theorem mv_RL_87 : gw_mv RL 87 yX10_days := ⟨gw_mem 1354 (by decide +kernel) rfl, gw_mem 1355 (by decide +kernel) rfl, gw_mem 1356 (by decide +kernel) rfl⟩
theorem my_X10_days : gw_my yX10_days cX10_days 11 (some .int) 5 := ⟨gw_mem 1357 (by decide +kernel) rfl, gw_mem 95 (by decide +kernel) rfl, by decide +kernel, by decide⟩
theorem dL_days_11 : gw_dc cL_days 11 (.invokevirtual 87) 3 14 := ⟨by decide +kernel, rfl⟩
theorem dL_days_19 : gw_dc cL_days 19 (.astore 7) 2 21 := ⟨by decide +kernel, rfl⟩
theorem dL_days_21 : gw_dc cL_days 21 (.iconst 1) 1 22 := ⟨by decide +kernel, rfl⟩
theorem dL_days_22 : decode cL_days 22 = .ok (.ireturn, 1) := by decide +kernel
theorem dL_days_23 : gw_dc cL_days 23 (.astore 7) 2 25 := ⟨by decide +kernel, rfl⟩
theorem dL_days_25 : gw_dc cL_days 25 (.iconst 2) 1 26 := ⟨by decide +kernel, rfl⟩
theorem dL_days_26 : decode cL_days 26 = .ok (.ireturn, 1) := by decide +kernel
theorem dL_days_14 : gw_dc cL_days 14 (.i2l) 1 15 := ⟨by decide +kernel, rfl⟩
theorem dL_days_15 : gw_dc cL_days 15 (.lastore) 1 16 := ⟨by decide +kernel, rfl⟩
theorem dL_days_16 : gw_dc cL_days 16 (.goto 11) 3 19 := ⟨by decide +kernel, rfl⟩
theorem dL_days_27 : gw_dc cL_days 27 (.iconst 0) 1 28 := ⟨by decide +kernel, rfl⟩
theorem dL_days_28 : decode cL_days 28 = .ok (.ireturn, 1) := by decide +kernel
theorem myH_L_tray : gw_myH yL_tray cL_tray 5 (some .int) [(0, 7, 10, 22), (0, 7, 14, 13)] 4 := ⟨gw_mem 1361 (by decide +kernel) rfl, gw_mem 94 (by decide +kernel) rfl, by decide +kernel, by decide⟩
theorem dL_tray_0 : gw_dc cL_tray 0 (.aload_n 0) 1 1 := ⟨by decide +kernel, rfl⟩
theorem dL_tray_1 : gw_dc cL_tray 1 (.iload_n 1) 1 2 := ⟨by decide +kernel, rfl⟩
theorem dL_tray_2 : gw_dc cL_tray 2 (.iload_n 2) 1 3 := ⟨by decide +kernel, rfl⟩
theorem dL_tray_3 : gw_dc cL_tray 3 (.iload_n 3) 1 4 := ⟨by decide +kernel, rfl⟩
theorem mv_RL_91 : gw_mv RL 91 yX10_tray := ⟨gw_mem 1362 (by decide +kernel) rfl, gw_mem 1363 (by decide +kernel) rfl, gw_mem 1364 (by decide +kernel) rfl⟩
theorem my_X10_tray : gw_my yX10_tray cX10_tray 5 none 3 := ⟨gw_mem 1365 (by decide +kernel) rfl, gw_mem 95 (by decide +kernel) rfl, by decide +kernel, by decide⟩
theorem dL_tray_4 : gw_dc cL_tray 4 (.invokevirtual 91) 3 7 := ⟨by decide +kernel, rfl⟩
theorem dL_tray_10 : gw_dc cL_tray 10 (.astore 4) 2 12 := ⟨by decide +kernel, rfl⟩
theorem dL_tray_12 : gw_dc cL_tray 12 (.iconst 1) 1 13 := ⟨by decide +kernel, rfl⟩
theorem dL_tray_13 : decode cL_tray 13 = .ok (.ireturn, 1) := by decide +kernel
theorem dL_tray_14 : gw_dc cL_tray 14 (.astore 4) 2 16 := ⟨by decide +kernel, rfl⟩
theorem dL_tray_16 : gw_dc cL_tray 16 (.iconst 2) 1 17 := ⟨by decide +kernel, rfl⟩
theorem dL_tray_17 : decode cL_tray 17 = .ok (.ireturn, 1) := by decide +kernel
theorem dL_tray_7 : gw_dc cL_tray 7 (.goto 11) 3 10 := ⟨by decide +kernel, rfl⟩
theorem dL_tray_18 : gw_dc cL_tray 18 (.iconst 0) 1 19 := ⟨by decide +kernel, rfl⟩
theorem dL_tray_19 : decode cL_tray 19 = .ok (.ireturn, 1) := by decide +kernel
theorem myH_L_write : gw_myH yL_write cL_write 7 (some .int) [(0, 11, 14, 22), (0, 11, 18, 30), (0, 11, 22, 56)] 5 := ⟨gw_mem 1373 (by decide +kernel) rfl, gw_mem 94 (by decide +kernel) rfl, by decide +kernel, by decide⟩
theorem dL_write_0 : gw_dc cL_write 0 (.aload 5) 2 2 := ⟨by decide +kernel, rfl⟩
theorem dL_write_2 : gw_dc cL_write 2 (.iconst 0) 1 3 := ⟨by decide +kernel, rfl⟩
theorem dL_write_3 : gw_dc cL_write 3 (.aload_n 0) 1 4 := ⟨by decide +kernel, rfl⟩
theorem dL_write_4 : gw_dc cL_write 4 (.iload_n 1) 1 5 := ⟨by decide +kernel, rfl⟩
theorem dL_write_5 : gw_dc cL_write 5 (.iload_n 2) 1 6 := ⟨by decide +kernel, rfl⟩
theorem dL_write_6 : gw_dc cL_write 6 (.lload_n 3) 1 7 := ⟨by decide +kernel, rfl⟩
theorem mv_RL_95 : gw_mv RL 95 yX10_write := ⟨gw_mem 1374 (by decide +kernel) rfl, gw_mem 1375 (by decide +kernel) rfl, gw_mem 1376 (by decide +kernel) rfl⟩
theorem my_X10_write : gw_my yX10_write cX10_write 6 (some .long) 3 := ⟨gw_mem 1377 (by decide +kernel) rfl, gw_mem 95 (by decide +kernel) rfl, by decide +kernel, by decide⟩
theorem dL_write_7 : gw_dc cL_write 7 (.invokevirtual 95) 3 10 := ⟨by decide +kernel, rfl⟩
theorem dL_write_14 : gw_dc cL_write 14 (.astore 6) 2 16 := ⟨by decide +kernel, rfl⟩
theorem dL_write_16 : gw_dc cL_write 16 (.iconst 1) 1 17 := ⟨by decide +kernel, rfl⟩
theorem dL_write_17 : decode cL_write 17 = .ok (.ireturn, 1) := by decide +kernel
theorem dL_write_18 : gw_dc cL_write 18 (.astore 6) 2 20 := ⟨by decide +kernel, rfl⟩
theorem dL_write_20 : gw_dc cL_write 20 (.iconst 2) 1 21 := ⟨by decide +kernel, rfl⟩
theorem dL_write_21 : decode cL_write 21 = .ok (.ireturn, 1) := by decide +kernel
theorem dL_write_22 : gw_dc cL_write 22 (.astore 6) 2 24 := ⟨by decide +kernel, rfl⟩
theorem dL_write_24 : gw_dc cL_write 24 (.iconst 3) 1 25 := ⟨by decide +kernel, rfl⟩
theorem dL_write_25 : decode cL_write 25 = .ok (.ireturn, 1) := by decide +kernel
theorem dL_write_10 : gw_dc cL_write 10 (.lastore) 1 11 := ⟨by decide +kernel, rfl⟩
theorem dL_write_11 : gw_dc cL_write 11 (.goto 15) 3 14 := ⟨by decide +kernel, rfl⟩
theorem dL_write_26 : gw_dc cL_write 26 (.iconst 0) 1 27 := ⟨by decide +kernel, rfl⟩
theorem dL_write_27 : decode cL_write 27 = .ok (.ireturn, 1) := by decide +kernel
theorem myH_L_pour : gw_myH yL_pour cL_pour 4 (some .int) [(0, 9, 12, 22), (0, 9, 15, 30)] 3 := ⟨gw_mem 1389 (by decide +kernel) rfl, gw_mem 94 (by decide +kernel) rfl, by decide +kernel, by decide⟩
theorem dL_pour_0 : gw_dc cL_pour 0 (.aload_n 2) 1 1 := ⟨by decide +kernel, rfl⟩
theorem dL_pour_1 : gw_dc cL_pour 1 (.iconst 0) 1 2 := ⟨by decide +kernel, rfl⟩
theorem dL_pour_2 : gw_dc cL_pour 2 (.aload_n 0) 1 3 := ⟨by decide +kernel, rfl⟩
theorem dL_pour_3 : gw_dc cL_pour 3 (.iload_n 1) 1 4 := ⟨by decide +kernel, rfl⟩
theorem mv_RL_99 : gw_mv RL 99 yX10_pour := ⟨gw_mem 1390 (by decide +kernel) rfl, gw_mem 1391 (by decide +kernel) rfl, gw_mem 1392 (by decide +kernel) rfl⟩
theorem my_X10_pour : gw_my yX10_pour cX10_pour 5 (some .int) 1 := ⟨gw_mem 1393 (by decide +kernel) rfl, gw_mem 95 (by decide +kernel) rfl, by decide +kernel, by decide⟩
theorem dL_pour_4 : gw_dc cL_pour 4 (.invokevirtual 99) 3 7 := ⟨by decide +kernel, rfl⟩
theorem dL_pour_12 : gw_dc cL_pour 12 (.astore_n 3) 1 13 := ⟨by decide +kernel, rfl⟩
theorem dL_pour_13 : gw_dc cL_pour 13 (.iconst 1) 1 14 := ⟨by decide +kernel, rfl⟩
theorem dL_pour_14 : decode cL_pour 14 = .ok (.ireturn, 1) := by decide +kernel
theorem dL_pour_15 : gw_dc cL_pour 15 (.astore_n 3) 1 16 := ⟨by decide +kernel, rfl⟩
theorem dL_pour_16 : gw_dc cL_pour 16 (.iconst 2) 1 17 := ⟨by decide +kernel, rfl⟩
theorem dL_pour_17 : decode cL_pour 17 = .ok (.ireturn, 1) := by decide +kernel
theorem dL_pour_7 : gw_dc cL_pour 7 (.i2l) 1 8 := ⟨by decide +kernel, rfl⟩
theorem dL_pour_8 : gw_dc cL_pour 8 (.lastore) 1 9 := ⟨by decide +kernel, rfl⟩
theorem dL_pour_9 : gw_dc cL_pour 9 (.goto 9) 3 12 := ⟨by decide +kernel, rfl⟩
theorem dL_pour_18 : gw_dc cL_pour 18 (.iconst 0) 1 19 := ⟨by decide +kernel, rfl⟩
theorem dL_pour_19 : decode cL_pour 19 = .ok (.ireturn, 1) := by decide +kernel
theorem myH_L_image : gw_myH yL_image cL_image 3 (some .int) [(0, 5, 8, 22)] 2 := ⟨gw_mem 1397 (by decide +kernel) rfl, gw_mem 94 (by decide +kernel) rfl, by decide +kernel, by decide⟩
theorem dL_image_0 : gw_dc cL_image 0 (.aload_n 0) 1 1 := ⟨by decide +kernel, rfl⟩
theorem dL_image_1 : gw_dc cL_image 1 (.iload_n 1) 1 2 := ⟨by decide +kernel, rfl⟩
theorem mv_RL_102 : gw_mv RL 102 yX10_image := ⟨gw_mem 1398 (by decide +kernel) rfl, gw_mem 1399 (by decide +kernel) rfl, gw_mem 1400 (by decide +kernel) rfl⟩
theorem my_X10_image : gw_my yX10_image cX10_image 3 none 1 := ⟨gw_mem 1401 (by decide +kernel) rfl, gw_mem 95 (by decide +kernel) rfl, by decide +kernel, by decide⟩
theorem dL_image_2 : gw_dc cL_image 2 (.invokevirtual 102) 3 5 := ⟨by decide +kernel, rfl⟩
theorem dL_image_8 : gw_dc cL_image 8 (.astore_n 2) 1 9 := ⟨by decide +kernel, rfl⟩
theorem dL_image_9 : gw_dc cL_image 9 (.iconst 1) 1 10 := ⟨by decide +kernel, rfl⟩
theorem dL_image_10 : decode cL_image 10 = .ok (.ireturn, 1) := by decide +kernel
theorem dL_image_5 : gw_dc cL_image 5 (.goto 6) 3 8 := ⟨by decide +kernel, rfl⟩
theorem dL_image_11 : gw_dc cL_image 11 (.iconst 0) 1 12 := ⟨by decide +kernel, rfl⟩
theorem dL_image_12 : decode cL_image 12 = .ok (.ireturn, 1) := by decide +kernel
theorem myH_L_restore : gw_myH yL_restore cL_restore 3 (some .int) [(0, 5, 8, 22), (0, 5, 11, 30)] 2 := ⟨gw_mem 1409 (by decide +kernel) rfl, gw_mem 94 (by decide +kernel) rfl, by decide +kernel, by decide⟩
theorem dL_restore_0 : gw_dc cL_restore 0 (.aload_n 0) 1 1 := ⟨by decide +kernel, rfl⟩
theorem dL_restore_1 : gw_dc cL_restore 1 (.iload_n 1) 1 2 := ⟨by decide +kernel, rfl⟩
theorem mv_RL_106 : gw_mv RL 106 yX10_restore := ⟨gw_mem 1410 (by decide +kernel) rfl, gw_mem 1411 (by decide +kernel) rfl, gw_mem 1412 (by decide +kernel) rfl⟩
theorem my_X10_restore : gw_my yX10_restore cX10_restore 3 none 1 := ⟨gw_mem 1413 (by decide +kernel) rfl, gw_mem 95 (by decide +kernel) rfl, by decide +kernel, by decide⟩
theorem dL_restore_2 : gw_dc cL_restore 2 (.invokevirtual 106) 3 5 := ⟨by decide +kernel, rfl⟩
theorem dL_restore_8 : gw_dc cL_restore 8 (.astore_n 2) 1 9 := ⟨by decide +kernel, rfl⟩
theorem dL_restore_9 : gw_dc cL_restore 9 (.iconst 1) 1 10 := ⟨by decide +kernel, rfl⟩
theorem dL_restore_10 : decode cL_restore 10 = .ok (.ireturn, 1) := by decide +kernel
theorem dL_restore_11 : gw_dc cL_restore 11 (.astore_n 2) 1 12 := ⟨by decide +kernel, rfl⟩
theorem dL_restore_12 : gw_dc cL_restore 12 (.iconst 2) 1 13 := ⟨by decide +kernel, rfl⟩
theorem dL_restore_13 : decode cL_restore 13 = .ok (.ireturn, 1) := by decide +kernel
theorem dL_restore_5 : gw_dc cL_restore 5 (.goto 9) 3 8 := ⟨by decide +kernel, rfl⟩
theorem dL_restore_14 : gw_dc cL_restore 14 (.iconst 0) 1 15 := ⟨by decide +kernel, rfl⟩
theorem dL_restore_15 : decode cL_restore 15 = .ok (.ireturn, 1) := by decide +kernel
set_option maxRecDepth 4000 in
theorem w_settle (ad : Nat → Nat) (σ : Sg) (n : Int) (hg : ∀ E, (gSe n) = some E → E ∈ eI) : gw_SpH yL_settle cL_settle 4 (some .int) [(0, 9, 12, 13)] 8 1 6 [vR (some 0), vI n, vR (some 248)] (gw_M0 ad) σ (gw_WQ (gSe n) eI (gw_M0 ad) σ (su ((zSettle σ n).2) 248 0 (zSettle σ n).1)) gw_no := by
  refine gw_SpH.of [some (vR (some 0)), some (vI n), some (vR (some 248)), none] (by decide +kernel) rfl (Nat.le_of_ble_eq_true rfl) ?_
  intro X G fx het nc
  refine g_aload_n fx dL_settle_0 rfl ?_
  refine g_iconst fx dL_settle_1 (by unfold okI; omega) ?_
  refine g_aload_n fx dL_settle_2 rfl ?_
  refine g_iload_n fx dL_settle_3 rfl ?_
  refine g_callV fx dL_settle_4 mv_RL_62 my_X10_settle (s_X10_settle ad σ n) o_0 rfl rfl rfl (Nat.le_of_ble_eq_true rfl) (by decide) ⟨by decide, by decide⟩ (fun E hE => ?_) (fun r M2 σ2 hq _ => ?_)
  · have hm := hg E hE
    rcases List.mem_cons.mp hm with rfl | hm
    · refine g_catchN (pre := []) (suf := []) fx nc het rfl (fun z hz => absurd hz List.not_mem_nil) rfl (by decide) cl_13 ca_13 dL_settle_12 (by decide) rfl rfl ?_
      refine g_iconst fx dL_settle_13 (by unfold okI; omega) ?_
      exact g_iret fx rfl dL_settle_14 (by decide) (by decide) (gw_le.rf _) ⟨rfl, Or.inr ⟨0, _, hE, rfl, rfl, rfl⟩⟩
    exact absurd hm List.not_mem_nil
  · obtain ⟨h0, rfl, rfl, rfl⟩ := hq
    refine g_i2l fx dL_settle_7 ?_
    refine g_last fx dL_settle_8 o_248 (by decide) (by decide) ?_
    refine g_goto (tgt := 15) fx dL_settle_9 (by decide) ?_
    refine g_iconst fx dL_settle_15 (by unfold okI; omega) ?_
    exact g_iret fx rfl dL_settle_16 (by decide) (by decide) (gw_le.rf _) ⟨rfl, Or.inl ⟨h0, rfl, rfl⟩⟩
set_option maxRecDepth 4000 in
theorem w_fee (ad : Nat → Nat) (σ : Sg) (n : Int) (hg : ∀ E, (gFe n) = some E → E ∈ eI) : gw_SpH yL_fee cL_fee 4 (some .int) [(0, 9, 12, 13)] 8 1 6 [vR (some 0), vI n, vR (some 248)] (gw_M0 ad) σ (gw_WQ (gFe n) eI (gw_M0 ad) σ (su ((zFee σ n).2) 248 0 (zFee σ n).1)) gw_no := by
  refine gw_SpH.of [some (vR (some 0)), some (vI n), some (vR (some 248)), none] (by decide +kernel) rfl (Nat.le_of_ble_eq_true rfl) ?_
  intro X G fx het nc
  refine g_aload_n fx dL_fee_0 rfl ?_
  refine g_iconst fx dL_fee_1 (by unfold okI; omega) ?_
  refine g_aload_n fx dL_fee_2 rfl ?_
  refine g_iload_n fx dL_fee_3 rfl ?_
  refine g_callV fx dL_fee_4 mv_RL_65 my_X10_fee (s_X10_fee ad σ n) o_0 rfl rfl rfl (Nat.le_of_ble_eq_true rfl) (by decide) ⟨by decide, by decide⟩ (fun E hE => ?_) (fun r M2 σ2 hq _ => ?_)
  · have hm := hg E hE
    rcases List.mem_cons.mp hm with rfl | hm
    · refine g_catchN (pre := []) (suf := []) fx nc het rfl (fun z hz => absurd hz List.not_mem_nil) rfl (by decide) cl_13 ca_13 dL_fee_12 (by decide) rfl rfl ?_
      refine g_iconst fx dL_fee_13 (by unfold okI; omega) ?_
      exact g_iret fx rfl dL_fee_14 (by decide) (by decide) (gw_le.rf _) ⟨rfl, Or.inr ⟨0, _, hE, rfl, rfl, rfl⟩⟩
    exact absurd hm List.not_mem_nil
  · obtain ⟨h0, rfl, rfl, rfl⟩ := hq
    refine g_i2l fx dL_fee_7 ?_
    refine g_last fx dL_fee_8 o_248 (by decide) (by decide) ?_
    refine g_goto (tgt := 15) fx dL_fee_9 (by decide) ?_
    refine g_iconst fx dL_fee_15 (by unfold okI; omega) ?_
    exact g_iret fx rfl dL_fee_16 (by decide) (by decide) (gw_le.rf _) ⟨rfl, Or.inl ⟨h0, rfl, rfl⟩⟩
set_option maxRecDepth 4000 in
theorem w_when (ad : Nat → Nat) (σ : Sg) (s : Int) (w : Int) (hg : ∀ E, ((gSack σ s).or (gWhat w 1)) = some E → E ∈ eNI) : gw_SpH yL_when cL_when 5 (some .int) [(0, 10, 13, 22), (0, 10, 17, 13)] 9 2 12 [vR (some 0), vI s, vI w, vR (some 248)] (gw_M0 ad) σ (gw_WQ ((gSack σ s).or (gWhat w 1)) eNI (gw_M0 ad) σ (su ((zWhen σ s w).2) 248 0 (zWhen σ s w).1)) gw_no := by
  refine gw_SpH.of [some (vR (some 0)), some (vI s), some (vI w), some (vR (some 248)), none] (by decide +kernel) rfl (Nat.le_of_ble_eq_true rfl) ?_
  intro X G fx het nc
  refine g_aload_n fx dL_when_0 rfl ?_
  refine g_iconst fx dL_when_1 (by unfold okI; omega) ?_
  refine g_aload_n fx dL_when_2 rfl ?_
  refine g_iload_n fx dL_when_3 rfl ?_
  refine g_iload_n fx dL_when_4 rfl ?_
  refine g_callV fx dL_when_5 mv_RL_68 my_X10_when (s_X10_when ad σ s w) o_0 rfl rfl rfl (Nat.le_of_ble_eq_true rfl) (by decide) ⟨by decide, by decide⟩ (fun E hE => ?_) (fun r M2 σ2 hq _ => ?_)
  · have hm := hg E hE
    rcases List.mem_cons.mp hm with rfl | hm
    · refine g_catch (pre := []) (suf := [(0, 10, 17, 13)]) fx nc het rfl (fun z hz => absurd hz List.not_mem_nil) rfl (by decide) cl_22 ca_22 dL_when_13 (by decide) rfl rfl ?_
      refine g_iconst fx dL_when_15 (by unfold okI; omega) ?_
      exact g_iret fx rfl dL_when_16 (by decide) (by decide) (gw_le.rf _) ⟨rfl, Or.inr ⟨0, _, hE, rfl, rfl, rfl⟩⟩
    rcases List.mem_cons.mp hm with rfl | hm
    · refine g_catch (pre := [(0, 10, 13, 22)]) (suf := []) fx nc het rfl (List.forall_mem_cons.mpr ⟨⟨by decide, _, cl_22, by decide⟩, (fun z hz => absurd hz List.not_mem_nil)⟩) rfl (by decide) cl_13 ca_13 dL_when_17 (by decide) rfl rfl ?_
      refine g_iconst fx dL_when_19 (by unfold okI; omega) ?_
      exact g_iret fx rfl dL_when_20 (by decide) (by decide) (gw_le.rf _) ⟨rfl, Or.inr ⟨1, _, hE, rfl, rfl, rfl⟩⟩
    exact absurd hm List.not_mem_nil
  · obtain ⟨h0, rfl, rfl, rfl⟩ := hq
    refine g_i2l fx dL_when_8 ?_
    refine g_last fx dL_when_9 o_248 (by decide) (by decide) ?_
    refine g_goto (tgt := 21) fx dL_when_10 (by decide) ?_
    refine g_iconst fx dL_when_21 (by unfold okI; omega) ?_
    exact g_iret fx rfl dL_when_22 (by decide) (by decide) (gw_le.rf _) ⟨rfl, Or.inl ⟨h0, rfl, rfl⟩⟩
set_option maxRecDepth 4000 in
theorem w_heaviest (ad : Nat → Nat) (σ : Sg) (s : Int) (hg : ∀ E, (gSack σ s) = some E → E ∈ eN) : gw_SpH yL_heaviest cL_heaviest 4 (some .int) [(0, 9, 12, 22)] 9 1 6 [vR (some 0), vI s, vR (some 248)] (gw_M0 ad) σ (gw_WQ (gSack σ s) eN (gw_M0 ad) σ (su ((zHv s 99 (mCopy σ 74 4)).2) 248 0 (zHv s 99 (mCopy σ 74 4)).1)) gw_no := by
  refine gw_SpH.of [some (vR (some 0)), some (vI s), some (vR (some 248)), none] (by decide +kernel) rfl (Nat.le_of_ble_eq_true rfl) ?_
  intro X G fx het nc
  refine g_aload_n fx dL_heaviest_0 rfl ?_
  refine g_iconst fx dL_heaviest_1 (by unfold okI; omega) ?_
  refine g_aload_n fx dL_heaviest_2 rfl ?_
  refine g_iload_n fx dL_heaviest_3 rfl ?_
  refine g_callV fx dL_heaviest_4 mv_RL_71 my_X10_heaviest (s_X10_heaviest ad σ s) o_0 rfl rfl rfl (Nat.le_of_ble_eq_true rfl) (by decide) ⟨by decide, by decide⟩ (fun E hE => ?_) (fun r M2 σ2 hq _ => ?_)
  · have hm := hg E hE
    rcases List.mem_cons.mp hm with rfl | hm
    · refine g_catchN (pre := []) (suf := []) fx nc het rfl (fun z hz => absurd hz List.not_mem_nil) rfl (by decide) cl_22 ca_22 dL_heaviest_12 (by decide) rfl rfl ?_
      refine g_iconst fx dL_heaviest_13 (by unfold okI; omega) ?_
      exact g_iret fx rfl dL_heaviest_14 (by decide) (by decide) (gw_le.rf _) ⟨rfl, Or.inr ⟨0, _, hE, rfl, rfl, rfl⟩⟩
    exact absurd hm List.not_mem_nil
  · obtain ⟨h0, rfl, rfl, rfl⟩ := hq
    refine g_i2l fx dL_heaviest_7 ?_
    refine g_last fx dL_heaviest_8 o_248 (by decide) (by decide) ?_
    refine g_goto (tgt := 15) fx dL_heaviest_9 (by decide) ?_
    refine g_iconst fx dL_heaviest_15 (by unfold okI; omega) ?_
    exact g_iret fx rfl dL_heaviest_16 (by decide) (by decide) (gw_le.rf _) ⟨rfl, Or.inl ⟨h0, rfl, rfl⟩⟩
set_option maxRecDepth 4000 in
theorem w_lend (ad : Nat → Nat) (σ : Sg) (s : Int) (t : Int) (n : Int) (hg : ∀ E, (gLend σ s t n) = some E → E ∈ eNSI) : gw_SpH yL_lend cL_lend 6 (some .int) [(0, 12, 15, 22), (0, 12, 19, 30), (0, 12, 23, 13)] 9 3 18 [vR (some 0), vI s, vI t, vI n, vR (some 248)] (gw_M0 ad) σ (gw_WQ (gLend σ s t n) eNSI (gw_M0 ad) σ (su (zLend σ s t n) 248 0 (wr (coF (zLend σ s t n) 96 74 - coF (zLend σ s t n) 26 4)))) gw_no := by
  refine gw_SpH.of [some (vR (some 0)), some (vI s), some (vI t), some (vI n), some (vR (some 248)), none] (by decide +kernel) rfl (Nat.le_of_ble_eq_true rfl) ?_
  intro X G fx het nc
  refine g_aload fx dL_lend_0 rfl ?_
  refine g_iconst fx dL_lend_2 (by unfold okI; omega) ?_
  refine g_aload_n fx dL_lend_3 rfl ?_
  refine g_iload_n fx dL_lend_4 rfl ?_
  refine g_iload_n fx dL_lend_5 rfl ?_
  refine g_iload_n fx dL_lend_6 rfl ?_
  refine g_callV fx dL_lend_7 mv_RL_74 my_X10_lend (s_X10_lend ad σ s t n) o_0 rfl rfl rfl (Nat.le_of_ble_eq_true rfl) (by decide) ⟨by decide, by decide⟩ (fun E hE => ?_) (fun r M2 σ2 hq _ => ?_)
  · have hm := hg E hE
    rcases List.mem_cons.mp hm with rfl | hm
    · refine g_catch (pre := []) (suf := [(0, 12, 19, 30), (0, 12, 23, 13)]) fx nc het rfl (fun z hz => absurd hz List.not_mem_nil) rfl (by decide) cl_22 ca_22 dL_lend_15 (by decide) rfl rfl ?_
      refine g_iconst fx dL_lend_17 (by unfold okI; omega) ?_
      exact g_iret fx rfl dL_lend_18 (by decide) (by decide) (gw_le.rf _) ⟨rfl, Or.inr ⟨0, _, hE, rfl, rfl, rfl⟩⟩
    rcases List.mem_cons.mp hm with rfl | hm
    · refine g_catch (pre := [(0, 12, 15, 22)]) (suf := [(0, 12, 23, 13)]) fx nc het rfl (List.forall_mem_cons.mpr ⟨⟨by decide, _, cl_22, by decide⟩, (fun z hz => absurd hz List.not_mem_nil)⟩) rfl (by decide) cl_30 ca_30 dL_lend_19 (by decide) rfl rfl ?_
      refine g_iconst fx dL_lend_21 (by unfold okI; omega) ?_
      exact g_iret fx rfl dL_lend_22 (by decide) (by decide) (gw_le.rf _) ⟨rfl, Or.inr ⟨1, _, hE, rfl, rfl, rfl⟩⟩
    rcases List.mem_cons.mp hm with rfl | hm
    · refine g_catch (pre := [(0, 12, 15, 22), (0, 12, 19, 30)]) (suf := []) fx nc het rfl (List.forall_mem_cons.mpr ⟨⟨by decide, _, cl_22, by decide⟩, (List.forall_mem_cons.mpr ⟨⟨by decide, _, cl_30, by decide⟩, (fun z hz => absurd hz List.not_mem_nil)⟩)⟩) rfl (by decide) cl_13 ca_13 dL_lend_23 (by decide) rfl rfl ?_
      refine g_iconst fx dL_lend_25 (by unfold okI; omega) ?_
      exact g_iret fx rfl dL_lend_26 (by decide) (by decide) (gw_le.rf _) ⟨rfl, Or.inr ⟨2, _, hE, rfl, rfl, rfl⟩⟩
    exact absurd hm List.not_mem_nil
  · obtain ⟨h0, rfl, rfl, rfl⟩ := hq
    refine g_i2l fx dL_lend_10 ?_
    refine g_last fx dL_lend_11 o_248 (by decide) (by decide) ?_
    refine g_goto (tgt := 27) fx dL_lend_12 (by decide) ?_
    refine g_iconst fx dL_lend_27 (by unfold okI; omega) ?_
    exact g_iret fx rfl dL_lend_28 (by decide) (by decide) (gw_le.rf _) ⟨rfl, Or.inl ⟨h0, rfl, rfl⟩⟩
set_option maxRecDepth 4000 in
theorem w_by (ad : Nat → Nat) (σ : Sg) (key : Int) (hg : ∀ E, (gPerson key) = some E → E ∈ eI) : gw_SpH yL_by cL_by 4 (some .int) [(0, 9, 12, 13)] 8 1 6 [vR (some 0), vI key, vR (some 248)] (gw_M0 ad) σ (gw_WQ (gPerson key) eI (gw_M0 ad) σ (su (zRb σ key) 248 0 (coF (zRb σ key) 96 74))) gw_no := by
  refine gw_SpH.of [some (vR (some 0)), some (vI key), some (vR (some 248)), none] (by decide +kernel) rfl (Nat.le_of_ble_eq_true rfl) ?_
  intro X G fx het nc
  refine g_aload_n fx dL_by_0 rfl ?_
  refine g_iconst fx dL_by_1 (by unfold okI; omega) ?_
  refine g_aload_n fx dL_by_2 rfl ?_
  refine g_iload_n fx dL_by_3 rfl ?_
  refine g_callV fx dL_by_4 mv_RL_77 my_X10_by (s_X10_by ad σ key) o_0 rfl rfl rfl (Nat.le_of_ble_eq_true rfl) (by decide) ⟨by decide, by decide⟩ (fun E hE => ?_) (fun r M2 σ2 hq _ => ?_)
  · have hm := hg E hE
    rcases List.mem_cons.mp hm with rfl | hm
    · refine g_catchN (pre := []) (suf := []) fx nc het rfl (fun z hz => absurd hz List.not_mem_nil) rfl (by decide) cl_13 ca_13 dL_by_12 (by decide) rfl rfl ?_
      refine g_iconst fx dL_by_13 (by unfold okI; omega) ?_
      exact g_iret fx rfl dL_by_14 (by decide) (by decide) (gw_le.rf _) ⟨rfl, Or.inr ⟨0, _, hE, rfl, rfl, rfl⟩⟩
    exact absurd hm List.not_mem_nil
  · obtain ⟨h0, rfl, rfl, rfl⟩ := hq
    refine g_i2l fx dL_by_7 ?_
    refine g_last fx dL_by_8 o_248 (by decide) (by decide) ?_
    refine g_goto (tgt := 15) fx dL_by_9 (by decide) ?_
    refine g_iconst fx dL_by_15 (by unfold okI; omega) ?_
    exact g_iret fx rfl dL_by_16 (by decide) (by decide) (gw_le.rf _) ⟨rfl, Or.inl ⟨h0, rfl, rfl⟩⟩
set_option maxRecDepth 4000 in
theorem w_fits (ad : Nat → Nat) (σ : Sg) (i : Int) (hg : ∀ E, (gFull σ i) = some E → E ∈ eNS) : gw_SpH yL_fits cL_fits 4 (some .int) [(0, 9, 12, 22), (0, 9, 15, 30)] 10 2 12 [vR (some 0), vI i, vR (some 248)] (gw_M0 ad) σ (gw_WQ (gFull σ i) eNS (gw_M0 ad) σ (su ((zFit σ (trT i)).2) 248 0 (zFit σ (trT i)).1)) gw_no := by
  refine gw_SpH.of [some (vR (some 0)), some (vI i), some (vR (some 248)), none] (by decide +kernel) rfl (Nat.le_of_ble_eq_true rfl) ?_
  intro X G fx het nc
  refine g_aload_n fx dL_fits_0 rfl ?_
  refine g_iconst fx dL_fits_1 (by unfold okI; omega) ?_
  refine g_aload_n fx dL_fits_2 rfl ?_
  refine g_iload_n fx dL_fits_3 rfl ?_
  refine g_callV fx dL_fits_4 mv_RL_80 my_X10_fits (s_X10_fits ad σ i) o_0 rfl rfl rfl (Nat.le_of_ble_eq_true rfl) (by decide) ⟨by decide, by decide⟩ (fun E hE => ?_) (fun r M2 σ2 hq _ => ?_)
  · have hm := hg E hE
    rcases List.mem_cons.mp hm with rfl | hm
    · refine g_catchN (pre := []) (suf := [(0, 9, 15, 30)]) fx nc het rfl (fun z hz => absurd hz List.not_mem_nil) rfl (by decide) cl_22 ca_22 dL_fits_12 (by decide) rfl rfl ?_
      refine g_iconst fx dL_fits_13 (by unfold okI; omega) ?_
      exact g_iret fx rfl dL_fits_14 (by decide) (by decide) (gw_le.rf _) ⟨rfl, Or.inr ⟨0, _, hE, rfl, rfl, rfl⟩⟩
    rcases List.mem_cons.mp hm with rfl | hm
    · refine g_catchN (pre := [(0, 9, 12, 22)]) (suf := []) fx nc het rfl (List.forall_mem_cons.mpr ⟨⟨by decide, _, cl_22, by decide⟩, (fun z hz => absurd hz List.not_mem_nil)⟩) rfl (by decide) cl_30 ca_30 dL_fits_15 (by decide) rfl rfl ?_
      refine g_iconst fx dL_fits_16 (by unfold okI; omega) ?_
      exact g_iret fx rfl dL_fits_17 (by decide) (by decide) (gw_le.rf _) ⟨rfl, Or.inr ⟨1, _, hE, rfl, rfl, rfl⟩⟩
    exact absurd hm List.not_mem_nil
  · obtain ⟨h0, rfl, rfl, rfl⟩ := hq
    refine g_i2l fx dL_fits_7 ?_
    refine g_last fx dL_fits_8 o_248 (by decide) (by decide) ?_
    refine g_goto (tgt := 18) fx dL_fits_9 (by decide) ?_
    refine g_iconst fx dL_fits_18 (by unfold okI; omega) ?_
    exact g_iret fx rfl dL_fits_19 (by decide) (by decide) (gw_le.rf _) ⟨rfl, Or.inl ⟨h0, rfl, rfl⟩⟩
set_option maxRecDepth 4000 in
theorem w_day (ad : Nat → Nat) (σ : Sg) (s : Int) (seed : Int) (come : Int) (g : Int) (hg : ∀ E, ((gSack σ s).or (gStr come g)) = some E → E ∈ eNI) : gw_SpH yL_day cL_day 7 (some .int) [(0, 14, 17, 22), (0, 14, 21, 13)] 9 2 12 [vR (some 0), vI s, vI seed, vI come, vI g, vR (some 248)] (gw_M0 ad) σ (gw_WQ ((gSack σ s).or (gStr come g)) eNI (gw_M0 ad) σ (su (zDay σ seed come g) 248 0 (uW (zDay σ seed come g) 96 74 s))) gw_no := by
  refine gw_SpH.of [some (vR (some 0)), some (vI s), some (vI seed), some (vI come), some (vI g), some (vR (some 248)), none] (by decide +kernel) rfl (Nat.le_of_ble_eq_true rfl) ?_
  intro X G fx het nc
  refine g_aload fx dL_day_0 rfl ?_
  refine g_iconst fx dL_day_2 (by unfold okI; omega) ?_
  refine g_aload_n fx dL_day_3 rfl ?_
  refine g_iload_n fx dL_day_4 rfl ?_
  refine g_iload_n fx dL_day_5 rfl ?_
  refine g_iload_n fx dL_day_6 rfl ?_
  refine g_iload fx dL_day_7 rfl ?_
  refine g_callV fx dL_day_9 mv_RL_83 my_X10_day (s_X10_day ad σ s seed come g) o_0 rfl rfl rfl (Nat.le_of_ble_eq_true rfl) (by decide) ⟨by decide, by decide⟩ (fun E hE => ?_) (fun r M2 σ2 hq _ => ?_)
  · have hm := hg E hE
    rcases List.mem_cons.mp hm with rfl | hm
    · refine g_catch (pre := []) (suf := [(0, 14, 21, 13)]) fx nc het rfl (fun z hz => absurd hz List.not_mem_nil) rfl (by decide) cl_22 ca_22 dL_day_17 (by decide) rfl rfl ?_
      refine g_iconst fx dL_day_19 (by unfold okI; omega) ?_
      exact g_iret fx rfl dL_day_20 (by decide) (by decide) (gw_le.rf _) ⟨rfl, Or.inr ⟨0, _, hE, rfl, rfl, rfl⟩⟩
    rcases List.mem_cons.mp hm with rfl | hm
    · refine g_catch (pre := [(0, 14, 17, 22)]) (suf := []) fx nc het rfl (List.forall_mem_cons.mpr ⟨⟨by decide, _, cl_22, by decide⟩, (fun z hz => absurd hz List.not_mem_nil)⟩) rfl (by decide) cl_13 ca_13 dL_day_21 (by decide) rfl rfl ?_
      refine g_iconst fx dL_day_23 (by unfold okI; omega) ?_
      exact g_iret fx rfl dL_day_24 (by decide) (by decide) (gw_le.rf _) ⟨rfl, Or.inr ⟨1, _, hE, rfl, rfl, rfl⟩⟩
    exact absurd hm List.not_mem_nil
  · obtain ⟨h0, rfl, rfl, rfl⟩ := hq
    refine g_i2l fx dL_day_12 ?_
    refine g_last fx dL_day_13 o_248 (by decide) (by decide) ?_
    refine g_goto (tgt := 25) fx dL_day_14 (by decide) ?_
    refine g_iconst fx dL_day_25 (by unfold okI; omega) ?_
    exact g_iret fx rfl dL_day_26 (by decide) (by decide) (gw_le.rf _) ⟨rfl, Or.inl ⟨h0, rfl, rfl⟩⟩
set_option maxRecDepth 4000 in
theorem w_days (ad : Nat → Nat) (σ : Sg) (s : Int) (n : Int) (come : Int) (g : Int) (w : Int) (hg : ∀ E, (gDays σ s n come g w) = some E → E ∈ eNI) : gw_SpH yL_days cL_days 8 (some .int) [(0, 16, 19, 22), (0, 16, 23, 13)] 9 4 24 [vR (some 0), vI s, vI n, vI come, vI g, vI w, vR (some 248)] (gw_M0 ad) σ (gw_WQ (gDays σ s n come g w) eNI (gw_M0 ad) σ (su ((zDays σ s n come g).2.2.2) 248 0 (if w = 0 then (zDays σ s n come g).1 else if w = 1 then (zDays σ s n come g).2.1 else (zDays σ s n come g).2.2.1))) gw_no := by
  refine gw_SpH.of [some (vR (some 0)), some (vI s), some (vI n), some (vI come), some (vI g), some (vI w), some (vR (some 248)), none] (by decide +kernel) rfl (Nat.le_of_ble_eq_true rfl) ?_
  intro X G fx het nc
  refine g_aload fx dL_days_0 rfl ?_
  refine g_iconst fx dL_days_2 (by unfold okI; omega) ?_
  refine g_aload_n fx dL_days_3 rfl ?_
  refine g_iload_n fx dL_days_4 rfl ?_
  refine g_iload_n fx dL_days_5 rfl ?_
  refine g_iload_n fx dL_days_6 rfl ?_
  refine g_iload fx dL_days_7 rfl ?_
  refine g_iload fx dL_days_9 rfl ?_
  refine g_callV fx dL_days_11 mv_RL_87 my_X10_days (s_X10_days ad σ s n come g w) o_0 rfl rfl rfl (Nat.le_of_ble_eq_true rfl) (by decide) ⟨by decide, by decide⟩ (fun E hE => ?_) (fun r M2 σ2 hq _ => ?_)
  · have hm := hg E hE
    rcases List.mem_cons.mp hm with rfl | hm
    · refine g_catch (pre := []) (suf := [(0, 16, 23, 13)]) fx nc het rfl (fun z hz => absurd hz List.not_mem_nil) rfl (by decide) cl_22 ca_22 dL_days_19 (by decide) rfl rfl ?_
      refine g_iconst fx dL_days_21 (by unfold okI; omega) ?_
      exact g_iret fx rfl dL_days_22 (by decide) (by decide) (gw_le.rf _) ⟨rfl, Or.inr ⟨0, _, hE, rfl, rfl, rfl⟩⟩
    rcases List.mem_cons.mp hm with rfl | hm
    · refine g_catch (pre := [(0, 16, 19, 22)]) (suf := []) fx nc het rfl (List.forall_mem_cons.mpr ⟨⟨by decide, _, cl_22, by decide⟩, (fun z hz => absurd hz List.not_mem_nil)⟩) rfl (by decide) cl_13 ca_13 dL_days_23 (by decide) rfl rfl ?_
      refine g_iconst fx dL_days_25 (by unfold okI; omega) ?_
      exact g_iret fx rfl dL_days_26 (by decide) (by decide) (gw_le.rf _) ⟨rfl, Or.inr ⟨1, _, hE, rfl, rfl, rfl⟩⟩
    exact absurd hm List.not_mem_nil
  · obtain ⟨h0, rfl, rfl, rfl⟩ := hq
    refine g_i2l fx dL_days_14 ?_
    refine g_last fx dL_days_15 o_248 (by decide) (by decide) ?_
    refine g_goto (tgt := 27) fx dL_days_16 (by decide) ?_
    refine g_iconst fx dL_days_27 (by unfold okI; omega) ?_
    exact g_iret fx rfl dL_days_28 (by decide) (by decide) (gw_le.rf _) ⟨rfl, Or.inl ⟨h0, rfl, rfl⟩⟩
set_option maxRecDepth 4000 in
theorem w_tray (ad : Nat → Nat) (σ : Sg) (i : Int) (s : Int) (n : Int) (hg : ∀ E, (gRow i s n) = some E → E ∈ eNI) : gw_SpH yL_tray cL_tray 5 (some .int) [(0, 7, 10, 22), (0, 7, 14, 13)] 9 2 12 [vR (some 0), vI i, vI s, vI n] (gw_M0 ad) σ (gw_WQ (gRow i s n) eNI (gw_M0 ad) σ (yFill (su (su σ (trT i) 1 s) (trT i) 2 n) (trT i + 1) 60)) gw_no := by
  refine gw_SpH.of [some (vR (some 0)), some (vI i), some (vI s), some (vI n), none] (by decide +kernel) rfl (Nat.le_of_ble_eq_true rfl) ?_
  intro X G fx het nc
  refine g_aload_n fx dL_tray_0 rfl ?_
  refine g_iload_n fx dL_tray_1 rfl ?_
  refine g_iload_n fx dL_tray_2 rfl ?_
  refine g_iload_n fx dL_tray_3 rfl ?_
  refine g_callV fx dL_tray_4 mv_RL_91 my_X10_tray (s_X10_tray ad σ i s n) o_0 rfl rfl rfl (Nat.le_of_ble_eq_true rfl) (by decide) ⟨by decide, by decide⟩ (fun E hE => ?_) (fun r M2 σ2 hq _ => ?_)
  · have hm := hg E hE
    rcases List.mem_cons.mp hm with rfl | hm
    · refine g_catch (pre := []) (suf := [(0, 7, 14, 13)]) fx nc het rfl (fun z hz => absurd hz List.not_mem_nil) rfl (by decide) cl_22 ca_22 dL_tray_10 (by decide) rfl rfl ?_
      refine g_iconst fx dL_tray_12 (by unfold okI; omega) ?_
      exact g_iret fx rfl dL_tray_13 (by decide) (by decide) (gw_le.rf _) ⟨rfl, Or.inr ⟨0, _, hE, rfl, rfl, rfl⟩⟩
    rcases List.mem_cons.mp hm with rfl | hm
    · refine g_catch (pre := [(0, 7, 10, 22)]) (suf := []) fx nc het rfl (List.forall_mem_cons.mpr ⟨⟨by decide, _, cl_22, by decide⟩, (fun z hz => absurd hz List.not_mem_nil)⟩) rfl (by decide) cl_13 ca_13 dL_tray_14 (by decide) rfl rfl ?_
      refine g_iconst fx dL_tray_16 (by unfold okI; omega) ?_
      exact g_iret fx rfl dL_tray_17 (by decide) (by decide) (gw_le.rf _) ⟨rfl, Or.inr ⟨1, _, hE, rfl, rfl, rfl⟩⟩
    exact absurd hm List.not_mem_nil
  · obtain ⟨h0, rfl, rfl, rfl⟩ := hq
    refine g_goto (tgt := 18) fx dL_tray_7 (by decide) ?_
    refine g_iconst fx dL_tray_18 (by unfold okI; omega) ?_
    exact g_iret fx rfl dL_tray_19 (by decide) (by decide) (gw_le.rf _) ⟨rfl, Or.inl ⟨h0, rfl, rfl⟩⟩
set_option maxRecDepth 4000 in
theorem w_write (ad : Nat → Nat) (σ : Sg) (i : Int) (k : Int) (v : Int) (hg : ∀ E, (gWrite σ i k) = some E → E ∈ eNSO) : gw_SpH yL_write cL_write 7 (some .int) [(0, 11, 14, 22), (0, 11, 18, 30), (0, 11, 22, 56)] 10 3 18 [vR (some 0), vI i, vI k, vJ v, vR (some 248)] (gw_M0 ad) σ (gw_WQ (gWrite σ i k) eNSO (gw_M0 ad) σ (su (yPut σ (trT i) k v) 248 0 (yAt (yPut σ (trT i) k v) (trT i + 1) k))) gw_no := by
  refine gw_SpH.of [some (vR (some 0)), some (vI i), some (vI k), some (vJ v), none, some (vR (some 248)), none] (by decide +kernel) rfl (Nat.le_of_ble_eq_true rfl) ?_
  intro X G fx het nc
  refine g_aload fx dL_write_0 rfl ?_
  refine g_iconst fx dL_write_2 (by unfold okI; omega) ?_
  refine g_aload_n fx dL_write_3 rfl ?_
  refine g_iload_n fx dL_write_4 rfl ?_
  refine g_iload_n fx dL_write_5 rfl ?_
  refine g_lload_n fx dL_write_6 rfl ?_
  refine g_callV fx dL_write_7 mv_RL_95 my_X10_write (s_X10_write ad σ i k v) o_0 rfl rfl rfl (Nat.le_of_ble_eq_true rfl) (by decide) ⟨by decide, by decide⟩ (fun E hE => ?_) (fun r M2 σ2 hq _ => ?_)
  · have hm := hg E hE
    rcases List.mem_cons.mp hm with rfl | hm
    · refine g_catch (pre := []) (suf := [(0, 11, 18, 30), (0, 11, 22, 56)]) fx nc het rfl (fun z hz => absurd hz List.not_mem_nil) rfl (by decide) cl_22 ca_22 dL_write_14 (by decide) rfl rfl ?_
      refine g_iconst fx dL_write_16 (by unfold okI; omega) ?_
      exact g_iret fx rfl dL_write_17 (by decide) (by decide) (gw_le.rf _) ⟨rfl, Or.inr ⟨0, _, hE, rfl, rfl, rfl⟩⟩
    rcases List.mem_cons.mp hm with rfl | hm
    · refine g_catch (pre := [(0, 11, 14, 22)]) (suf := [(0, 11, 22, 56)]) fx nc het rfl (List.forall_mem_cons.mpr ⟨⟨by decide, _, cl_22, by decide⟩, (fun z hz => absurd hz List.not_mem_nil)⟩) rfl (by decide) cl_30 ca_30 dL_write_18 (by decide) rfl rfl ?_
      refine g_iconst fx dL_write_20 (by unfold okI; omega) ?_
      exact g_iret fx rfl dL_write_21 (by decide) (by decide) (gw_le.rf _) ⟨rfl, Or.inr ⟨1, _, hE, rfl, rfl, rfl⟩⟩
    rcases List.mem_cons.mp hm with rfl | hm
    · refine g_catch (pre := [(0, 11, 14, 22), (0, 11, 18, 30)]) (suf := []) fx nc het rfl (List.forall_mem_cons.mpr ⟨⟨by decide, _, cl_22, by decide⟩, (List.forall_mem_cons.mpr ⟨⟨by decide, _, cl_30, by decide⟩, (fun z hz => absurd hz List.not_mem_nil)⟩)⟩) rfl (by decide) cl_56 ca_56 dL_write_22 (by decide) rfl rfl ?_
      refine g_iconst fx dL_write_24 (by unfold okI; omega) ?_
      exact g_iret fx rfl dL_write_25 (by decide) (by decide) (gw_le.rf _) ⟨rfl, Or.inr ⟨2, _, hE, rfl, rfl, rfl⟩⟩
    exact absurd hm List.not_mem_nil
  · obtain ⟨h0, rfl, rfl, rfl⟩ := hq
    refine g_last fx dL_write_10 o_248 (by decide) (by decide) ?_
    refine g_goto (tgt := 26) fx dL_write_11 (by decide) ?_
    refine g_iconst fx dL_write_26 (by unfold okI; omega) ?_
    exact g_iret fx rfl dL_write_27 (by decide) (by decide) (gw_le.rf _) ⟨rfl, Or.inl ⟨h0, rfl, rfl⟩⟩
set_option maxRecDepth 4000 in
theorem w_pour (ad : Nat → Nat) (σ : Sg) (i : Int) (hg : ∀ E, (gFull σ i) = some E → E ∈ eNS) : gw_SpH yL_pour cL_pour 4 (some .int) [(0, 9, 12, 22), (0, 9, 15, 30)] 10 2 12 [vR (some 0), vI i, vR (some 248)] (gw_M0 ad) σ (gw_WQ (gFull σ i) eNS (gw_M0 ad) σ (su (zPour (go σ 26 4) (trT i)) 248 0 (min (go σ 26 4 (trT i) 2) (go σ 26 4 26 1)))) gw_no := by
  refine gw_SpH.of [some (vR (some 0)), some (vI i), some (vR (some 248)), none] (by decide +kernel) rfl (Nat.le_of_ble_eq_true rfl) ?_
  intro X G fx het nc
  refine g_aload_n fx dL_pour_0 rfl ?_
  refine g_iconst fx dL_pour_1 (by unfold okI; omega) ?_
  refine g_aload_n fx dL_pour_2 rfl ?_
  refine g_iload_n fx dL_pour_3 rfl ?_
  refine g_callV fx dL_pour_4 mv_RL_99 my_X10_pour (s_X10_pour ad σ i) o_0 rfl rfl rfl (Nat.le_of_ble_eq_true rfl) (by decide) ⟨by decide, by decide⟩ (fun E hE => ?_) (fun r M2 σ2 hq _ => ?_)
  · have hm := hg E hE
    rcases List.mem_cons.mp hm with rfl | hm
    · refine g_catchN (pre := []) (suf := [(0, 9, 15, 30)]) fx nc het rfl (fun z hz => absurd hz List.not_mem_nil) rfl (by decide) cl_22 ca_22 dL_pour_12 (by decide) rfl rfl ?_
      refine g_iconst fx dL_pour_13 (by unfold okI; omega) ?_
      exact g_iret fx rfl dL_pour_14 (by decide) (by decide) (gw_le.rf _) ⟨rfl, Or.inr ⟨0, _, hE, rfl, rfl, rfl⟩⟩
    rcases List.mem_cons.mp hm with rfl | hm
    · refine g_catchN (pre := [(0, 9, 12, 22)]) (suf := []) fx nc het rfl (List.forall_mem_cons.mpr ⟨⟨by decide, _, cl_22, by decide⟩, (fun z hz => absurd hz List.not_mem_nil)⟩) rfl (by decide) cl_30 ca_30 dL_pour_15 (by decide) rfl rfl ?_
      refine g_iconst fx dL_pour_16 (by unfold okI; omega) ?_
      exact g_iret fx rfl dL_pour_17 (by decide) (by decide) (gw_le.rf _) ⟨rfl, Or.inr ⟨1, _, hE, rfl, rfl, rfl⟩⟩
    exact absurd hm List.not_mem_nil
  · obtain ⟨h0, rfl, rfl, rfl⟩ := hq
    refine g_i2l fx dL_pour_7 ?_
    refine g_last fx dL_pour_8 o_248 (by decide) (by decide) ?_
    refine g_goto (tgt := 18) fx dL_pour_9 (by decide) ?_
    refine g_iconst fx dL_pour_18 (by unfold okI; omega) ?_
    exact g_iret fx rfl dL_pour_19 (by decide) (by decide) (gw_le.rf _) ⟨rfl, Or.inl ⟨h0, rfl, rfl⟩⟩
set_option maxRecDepth 4000 in
theorem w_image (ad : Nat → Nat) (σ : Sg) (i : Int) (hg : ∀ E, (gImg i) = some E → E ∈ eN) : gw_SpH yL_image cL_image 3 (some .int) [(0, 5, 8, 22)] 9 1 6 [vR (some 0), vI i] (gw_M0 ad) σ (gw_WQ (gImg i) eN (gw_M0 ad) σ (su (mCopy σ (imT i) 4) (imT i) 6 1)) gw_no := by
  refine gw_SpH.of [some (vR (some 0)), some (vI i), none] (by decide +kernel) rfl (Nat.le_of_ble_eq_true rfl) ?_
  intro X G fx het nc
  refine g_aload_n fx dL_image_0 rfl ?_
  refine g_iload_n fx dL_image_1 rfl ?_
  refine g_callV fx dL_image_2 mv_RL_102 my_X10_image (s_X10_image ad σ i) o_0 rfl rfl rfl (Nat.le_of_ble_eq_true rfl) (by decide) ⟨by decide, by decide⟩ (fun E hE => ?_) (fun r M2 σ2 hq _ => ?_)
  · have hm := hg E hE
    rcases List.mem_cons.mp hm with rfl | hm
    · refine g_catchN (pre := []) (suf := []) fx nc het rfl (fun z hz => absurd hz List.not_mem_nil) rfl (by decide) cl_22 ca_22 dL_image_8 (by decide) rfl rfl ?_
      refine g_iconst fx dL_image_9 (by unfold okI; omega) ?_
      exact g_iret fx rfl dL_image_10 (by decide) (by decide) (gw_le.rf _) ⟨rfl, Or.inr ⟨0, _, hE, rfl, rfl, rfl⟩⟩
    exact absurd hm List.not_mem_nil
  · obtain ⟨h0, rfl, rfl, rfl⟩ := hq
    refine g_goto (tgt := 11) fx dL_image_5 (by decide) ?_
    refine g_iconst fx dL_image_11 (by unfold okI; omega) ?_
    exact g_iret fx rfl dL_image_12 (by decide) (by decide) (gw_le.rf _) ⟨rfl, Or.inl ⟨h0, rfl, rfl⟩⟩
set_option maxRecDepth 4000 in
theorem w_restore (ad : Nat → Nat) (σ : Sg) (i : Int) (hg : ∀ E, (gRest σ i) = some E → E ∈ eNS) : gw_SpH yL_restore cL_restore 3 (some .int) [(0, 5, 8, 22), (0, 5, 11, 30)] 9 2 12 [vR (some 0), vI i] (gw_M0 ad) σ (gw_WQ (gRest σ i) eNS (gw_M0 ad) σ (mCopy σ 4 (imT i))) gw_no := by
  refine gw_SpH.of [some (vR (some 0)), some (vI i), none] (by decide +kernel) rfl (Nat.le_of_ble_eq_true rfl) ?_
  intro X G fx het nc
  refine g_aload_n fx dL_restore_0 rfl ?_
  refine g_iload_n fx dL_restore_1 rfl ?_
  refine g_callV fx dL_restore_2 mv_RL_106 my_X10_restore (s_X10_restore ad σ i) o_0 rfl rfl rfl (Nat.le_of_ble_eq_true rfl) (by decide) ⟨by decide, by decide⟩ (fun E hE => ?_) (fun r M2 σ2 hq _ => ?_)
  · have hm := hg E hE
    rcases List.mem_cons.mp hm with rfl | hm
    · refine g_catchN (pre := []) (suf := [(0, 5, 11, 30)]) fx nc het rfl (fun z hz => absurd hz List.not_mem_nil) rfl (by decide) cl_22 ca_22 dL_restore_8 (by decide) rfl rfl ?_
      refine g_iconst fx dL_restore_9 (by unfold okI; omega) ?_
      exact g_iret fx rfl dL_restore_10 (by decide) (by decide) (gw_le.rf _) ⟨rfl, Or.inr ⟨0, _, hE, rfl, rfl, rfl⟩⟩
    rcases List.mem_cons.mp hm with rfl | hm
    · refine g_catchN (pre := [(0, 5, 8, 22)]) (suf := []) fx nc het rfl (List.forall_mem_cons.mpr ⟨⟨by decide, _, cl_22, by decide⟩, (fun z hz => absurd hz List.not_mem_nil)⟩) rfl (by decide) cl_30 ca_30 dL_restore_11 (by decide) rfl rfl ?_
      refine g_iconst fx dL_restore_12 (by unfold okI; omega) ?_
      exact g_iret fx rfl dL_restore_13 (by decide) (by decide) (gw_le.rf _) ⟨rfl, Or.inr ⟨1, _, hE, rfl, rfl, rfl⟩⟩
    exact absurd hm List.not_mem_nil
  · obtain ⟨h0, rfl, rfl, rfl⟩ := hq
    refine g_goto (tgt := 14) fx dL_restore_5 (by decide) ?_
    refine g_iconst fx dL_restore_14 (by unfold okI; omega) ?_
    exact g_iret fx rfl dL_restore_15 (by decide) (by decide) (gw_le.rf _) ⟨rfl, Or.inl ⟨h0, rfl, rfl⟩⟩
