theorem dX10_needBytes_0 : gw_dc cX10_needBytes 0 (.iload_n 1) 1 1 := ⟨by decide +kernel, rfl⟩
theorem dX10_needBytes_1 : gw_dc cX10_needBytes 1 (.ifCond .lt 14) 3 4 := ⟨by decide +kernel, rfl⟩
theorem eX10_needBytes_15 : decode cX10_needBytes 15 = .ok (.new 142, 3) := by decide +kernel
theorem eX10_needBytes_18 : decode cX10_needBytes 18 = .ok (.dup, 1) := by decide +kernel
theorem eX10_needBytes_19 : decode cX10_needBytes 19 = .ok (.ldc 144, 2) := by decide +kernel
theorem eX10_needBytes_21 : decode cX10_needBytes 21 = .ok (.invokespecial 146, 3) := by decide +kernel
theorem eX10_needBytes_24 : decode cX10_needBytes 24 = .ok (.athrow, 1) := by decide +kernel
set_option maxRecDepth 20000 in
theorem th_RX10_142_146 : gw_th RX10 142 146 "java/lang/IllegalArgumentException" := ⟨by decide +kernel, gw_mem 752 (by decide +kernel) rfl, gw_mem 110 (by decide +kernel) rfl, by decide +kernel, by decide +kernel⟩
theorem dX10_needBytes_4 : gw_dc cX10_needBytes 4 (.iload_n 1) 1 5 := ⟨by decide +kernel, rfl⟩
theorem dX10_needBytes_5 : gw_dc cX10_needBytes 5 (.aload_n 0) 1 6 := ⟨by decide +kernel, rfl⟩
theorem dX10_needBytes_6 : gw_dc cX10_needBytes 6 (.getfield 10) 3 9 := ⟨by decide +kernel, rfl⟩
theorem fk_RX10_10 : gw_fk RX10 10 10 0 14 1 true := ⟨_, _, _, ck_10, by decide, by decide, fun h => absurd h (by decide), fun h => absurd h (by decide), fun _ => Or.inl ⟨_, rfl⟩, rfl, Or.inl (gw_mem 505 (by decide +kernel) rfl)⟩
theorem rf_0_0 {ad : Nat → Nat} : (gw_M0 ad).2.2 0 0 = some 1 := (by decide +kernel : gw_rh 0 0 = some 1)
theorem o_0 {ad : Nat → Nat} : isO (gw_M0 ad) 0 10 14 := (by decide +kernel : 0 < gw_N0 ∧ gw_sh 0 = (10, 14))
theorem dX10_needBytes_9 : gw_dc cX10_needBytes 9 (.getfield 101) 3 12 := ⟨by decide +kernel, rfl⟩
theorem fk_RX10_101 : gw_fk RX10 101 7 1 2 0 false := ⟨_, _, _, ck_7, by decide, by decide, fun _ => rfl, fun h => absurd h (by decide), fun h => absurd h (by decide), rfl, Or.inr ⟨"LightestSack", gw_memN 134 (by decide +kernel) rfl⟩⟩
theorem dX10_needBytes_12 : gw_dc cX10_needBytes 12 (.if_icmp .le 13) 3 15 := ⟨by decide +kernel, rfl⟩
theorem dX10_needBytes_25 : decode cX10_needBytes 25 = .ok (.return_, 1) := by decide +kernel
theorem dX10_needSack_0 : gw_dc cX10_needSack 0 (.iload_n 1) 1 1 := ⟨by decide +kernel, rfl⟩
theorem dX10_needSack_1 : gw_dc cX10_needSack 1 (.ifCond .lt 14) 3 4 := ⟨by decide +kernel, rfl⟩
theorem eX10_needSack_15 : decode cX10_needSack 15 = .ok (.new 239, 3) := by decide +kernel
theorem eX10_needSack_18 : decode cX10_needSack 18 = .ok (.dup, 1) := by decide +kernel
theorem eX10_needSack_19 : decode cX10_needSack 19 = .ok (.ldc 241, 2) := by decide +kernel
theorem eX10_needSack_21 : decode cX10_needSack 21 = .ok (.invokespecial 243, 3) := by decide +kernel
theorem eX10_needSack_24 : decode cX10_needSack 24 = .ok (.athrow, 1) := by decide +kernel
set_option maxRecDepth 20000 in
theorem th_RX10_239_243 : gw_thN RX10 239 243 := ⟨gw_mem 1007 (by decide +kernel) rfl, gw_mem 115 (by decide +kernel) rfl, by decide +kernel, by decide +kernel⟩
theorem dX10_needSack_4 : gw_dc cX10_needSack 4 (.iload_n 1) 1 5 := ⟨by decide +kernel, rfl⟩
theorem dX10_needSack_5 : gw_dc cX10_needSack 5 (.aload_n 0) 1 6 := ⟨by decide +kernel, rfl⟩
theorem dX10_needSack_6 : gw_dc cX10_needSack 6 (.getfield 28) 3 9 := ⟨by decide +kernel, rfl⟩
theorem fk_RX10_28 : gw_fk RX10 28 10 2 14 1 true := ⟨_, _, _, ck_10, by decide, by decide, fun h => absurd h (by decide), fun h => absurd h (by decide), fun _ => Or.inl ⟨_, rfl⟩, rfl, Or.inl (gw_mem 507 (by decide +kernel) rfl)⟩
theorem rf_0_2 {ad : Nat → Nat} : (gw_M0 ad).2.2 0 2 = some 4 := (by decide +kernel : gw_rh 0 2 = some 4)
theorem dX10_needSack_9 : gw_dc cX10_needSack 9 (.getfield 236) 3 12 := ⟨by decide +kernel, rfl⟩
theorem fk_RX10_236 : gw_fk RX10 236 1 5 16 0 false := ⟨_, _, _, ck_1, by decide, by decide, fun _ => rfl, fun h => absurd h (by decide), fun h => absurd h (by decide), rfl, Or.inr ⟨"LightestSack", gw_memN 253 (by decide +kernel) rfl⟩⟩
theorem dX10_needSack_12 : gw_dc cX10_needSack 12 (.if_icmp .lt 13) 3 15 := ⟨by decide +kernel, rfl⟩
theorem dX10_needSack_25 : decode cX10_needSack 25 = .ok (.return_, 1) := by decide +kernel
theorem dX10_needPiece_0 : gw_dc cX10_needPiece 0 (.iload_n 1) 1 1 := ⟨by decide +kernel, rfl⟩
theorem dX10_needPiece_1 : gw_dc cX10_needPiece 1 (.ifCond .lt 14) 3 4 := ⟨by decide +kernel, rfl⟩
theorem eX10_needPiece_15 : decode cX10_needPiece 15 = .ok (.new 239, 3) := by decide +kernel
theorem eX10_needPiece_18 : decode cX10_needPiece 18 = .ok (.dup, 1) := by decide +kernel
theorem eX10_needPiece_19 : decode cX10_needPiece 19 = .ok (.ldc 244, 2) := by decide +kernel
theorem eX10_needPiece_21 : decode cX10_needPiece 21 = .ok (.invokespecial 243, 3) := by decide +kernel
theorem eX10_needPiece_24 : decode cX10_needPiece 24 = .ok (.athrow, 1) := by decide +kernel
theorem dX10_needPiece_4 : gw_dc cX10_needPiece 4 (.iload_n 1) 1 5 := ⟨by decide +kernel, rfl⟩
theorem dX10_needPiece_5 : gw_dc cX10_needPiece 5 (.aload_n 0) 1 6 := ⟨by decide +kernel, rfl⟩
theorem dX10_needPiece_6 : gw_dc cX10_needPiece 6 (.getfield 28) 3 9 := ⟨by decide +kernel, rfl⟩
theorem dX10_needPiece_9 : gw_dc cX10_needPiece 9 (.invokevirtual 226) 3 12 := ⟨by decide +kernel, rfl⟩
theorem mv_RX10_226 : gw_mv RX10 226 yX1_pieces := ⟨gw_mem 669 (by decide +kernel) rfl, gw_mem 670 (by decide +kernel) rfl, gw_mem 671 (by decide +kernel) rfl⟩
theorem dX10_needPiece_12 : gw_dc cX10_needPiece 12 (.if_icmp .lt 13) 3 15 := ⟨by decide +kernel, rfl⟩
theorem dX10_needPiece_25 : decode cX10_needPiece 25 = .ok (.return_, 1) := by decide +kernel
theorem dX10_needWhat_0 : gw_dc cX10_needWhat 0 (.iload_n 1) 1 1 := ⟨by decide +kernel, rfl⟩
theorem dX10_needWhat_1 : gw_dc cX10_needWhat 1 (.ifCond .lt 8) 3 4 := ⟨by decide +kernel, rfl⟩
theorem eX10_needWhat_9 : decode cX10_needWhat 9 = .ok (.new 142, 3) := by decide +kernel
theorem eX10_needWhat_12 : decode cX10_needWhat 12 = .ok (.dup, 1) := by decide +kernel
theorem eX10_needWhat_13 : decode cX10_needWhat 13 = .ok (.ldc 180, 2) := by decide +kernel
theorem eX10_needWhat_15 : decode cX10_needWhat 15 = .ok (.invokespecial 146, 3) := by decide +kernel
theorem eX10_needWhat_18 : decode cX10_needWhat 18 = .ok (.athrow, 1) := by decide +kernel
theorem dX10_needWhat_4 : gw_dc cX10_needWhat 4 (.iload_n 1) 1 5 := ⟨by decide +kernel, rfl⟩
theorem dX10_needWhat_5 : gw_dc cX10_needWhat 5 (.iload_n 2) 1 6 := ⟨by decide +kernel, rfl⟩
theorem dX10_needWhat_6 : gw_dc cX10_needWhat 6 (.if_icmp .le 13) 3 9 := ⟨by decide +kernel, rfl⟩
theorem dX10_needWhat_19 : decode cX10_needWhat 19 = .ok (.return_, 1) := by decide +kernel
theorem dX10_needStrangers_0 : gw_dc cX10_needStrangers 0 (.iload_n 1) 1 1 := ⟨by decide +kernel, rfl⟩
theorem dX10_needStrangers_1 : gw_dc cX10_needStrangers 1 (.ifCond .lt 20) 3 4 := ⟨by decide +kernel, rfl⟩
theorem eX10_needStrangers_21 : decode cX10_needStrangers 21 = .ok (.new 142, 3) := by decide +kernel
theorem eX10_needStrangers_24 : decode cX10_needStrangers 24 = .ok (.dup, 1) := by decide +kernel
theorem eX10_needStrangers_25 : decode cX10_needStrangers 25 = .ok (.ldc_w 404, 3) := by decide +kernel
theorem eX10_needStrangers_28 : decode cX10_needStrangers 28 = .ok (.invokespecial 146, 3) := by decide +kernel
theorem eX10_needStrangers_31 : decode cX10_needStrangers 31 = .ok (.athrow, 1) := by decide +kernel
theorem dX10_needStrangers_4 : gw_dc cX10_needStrangers 4 (.iload_n 1) 1 5 := ⟨by decide +kernel, rfl⟩
theorem dX10_needStrangers_5 : gw_dc cX10_needStrangers 5 (.bipush 100) 2 7 := ⟨by decide +kernel, rfl⟩
theorem dX10_needStrangers_7 : gw_dc cX10_needStrangers 7 (.if_icmp .gt 14) 3 10 := ⟨by decide +kernel, rfl⟩
theorem dX10_needStrangers_10 : gw_dc cX10_needStrangers 10 (.iload_n 2) 1 11 := ⟨by decide +kernel, rfl⟩
theorem dX10_needStrangers_11 : gw_dc cX10_needStrangers 11 (.iconst 1) 1 12 := ⟨by decide +kernel, rfl⟩
theorem dX10_needStrangers_12 : gw_dc cX10_needStrangers 12 (.if_icmp .lt 9) 3 15 := ⟨by decide +kernel, rfl⟩
theorem dX10_needStrangers_15 : gw_dc cX10_needStrangers 15 (.iload_n 2) 1 16 := ⟨by decide +kernel, rfl⟩
theorem dX10_needStrangers_16 : gw_dc cX10_needStrangers 16 (.bipush 99) 2 18 := ⟨by decide +kernel, rfl⟩
theorem dX10_needStrangers_18 : gw_dc cX10_needStrangers 18 (.if_icmp .le 14) 3 21 := ⟨by decide +kernel, rfl⟩
theorem dX10_needStrangers_32 : decode cX10_needStrangers 32 = .ok (.return_, 1) := by decide +kernel
theorem dX10_needTray_0 : gw_dc cX10_needTray 0 (.iload_n 1) 1 1 := ⟨by decide +kernel, rfl⟩
theorem dX10_needTray_1 : gw_dc cX10_needTray 1 (.ifCond .lt 21) 3 4 := ⟨by decide +kernel, rfl⟩
theorem dX10_needTray_22 : gw_dc cX10_needTray 22 (.aconst_null) 1 23 := ⟨by decide +kernel, rfl⟩
theorem dX10_needTray_23 : gw_dc cX10_needTray 23 (.astore_n 2) 1 24 := ⟨by decide +kernel, rfl⟩
theorem dX10_needTray_24 : gw_dc cX10_needTray 24 (.aload_n 2) 1 25 := ⟨by decide +kernel, rfl⟩
theorem dX10_needTray_25 : gw_dc cX10_needTray 25 (.ifnonnull 14) 3 28 := ⟨by decide +kernel, rfl⟩
theorem eX10_needTray_28 : decode cX10_needTray 28 = .ok (.new 239, 3) := by decide +kernel
theorem eX10_needTray_31 : decode cX10_needTray 31 = .ok (.dup, 1) := by decide +kernel
theorem eX10_needTray_32 : decode cX10_needTray 32 = .ok (.ldc_w 442, 3) := by decide +kernel
theorem eX10_needTray_35 : decode cX10_needTray 35 = .ok (.invokespecial 243, 3) := by decide +kernel
theorem eX10_needTray_38 : decode cX10_needTray 38 = .ok (.athrow, 1) := by decide +kernel
theorem dX10_needTray_4 : gw_dc cX10_needTray 4 (.iload_n 1) 1 5 := ⟨by decide +kernel, rfl⟩
theorem dX10_needTray_5 : gw_dc cX10_needTray 5 (.aload_n 0) 1 6 := ⟨by decide +kernel, rfl⟩
theorem dX10_needTray_6 : gw_dc cX10_needTray 6 (.getfield 89) 3 9 := ⟨by decide +kernel, rfl⟩
theorem fk_RX10_89 : gw_fk RX10 89 10 12 14 1 true := ⟨_, _, _, ck_10, by decide, by decide, fun h => absurd h (by decide), fun h => absurd h (by decide), fun _ => Or.inr ⟨_, rfl⟩, rfl, Or.inl (gw_mem 517 (by decide +kernel) rfl)⟩
theorem rf_0_12 {ad : Nat → Nat} : (gw_M0 ad).2.2 0 12 = some 147 := (by decide +kernel : gw_rh 0 12 = some 147)
theorem dX10_needTray_9 : gw_dc cX10_needTray 9 (.arraylength) 1 10 := ⟨by decide +kernel, rfl⟩
theorem o_147 {ad : Nat → Nat} : isO (gw_M0 ad) 147 25 4 := (by decide +kernel : 147 < gw_N0 ∧ gw_sh 147 = (25, 4))
theorem dX10_needTray_10 : gw_dc cX10_needTray 10 (.if_icmp .ge 12) 3 13 := ⟨by decide +kernel, rfl⟩
theorem dX10_needTray_13 : gw_dc cX10_needTray 13 (.aload_n 0) 1 14 := ⟨by decide +kernel, rfl⟩
theorem dX10_needTray_14 : gw_dc cX10_needTray 14 (.getfield 89) 3 17 := ⟨by decide +kernel, rfl⟩
theorem dX10_needTray_17 : gw_dc cX10_needTray 17 (.iload_n 1) 1 18 := ⟨by decide +kernel, rfl⟩
theorem dX10_needTray_18 : gw_dc cX10_needTray 18 (.aaload) 1 19 := ⟨by decide +kernel, rfl⟩
theorem dX10_needTray_19 : gw_dc cX10_needTray 19 (.goto 4) 3 22 := ⟨by decide +kernel, rfl⟩
theorem dX10_needTray_39 : gw_dc cX10_needTray 39 (.aload_n 2) 1 40 := ⟨by decide +kernel, rfl⟩
theorem dX10_needTray_40 : decode cX10_needTray 40 = .ok (.areturn, 1) := by decide +kernel
theorem dX10_needImage_0 : gw_dc cX10_needImage 0 (.iload_n 1) 1 1 := ⟨by decide +kernel, rfl⟩
theorem dX10_needImage_1 : gw_dc cX10_needImage 1 (.ifCond .lt 21) 3 4 := ⟨by decide +kernel, rfl⟩
theorem dX10_needImage_22 : gw_dc cX10_needImage 22 (.aconst_null) 1 23 := ⟨by decide +kernel, rfl⟩
theorem dX10_needImage_23 : gw_dc cX10_needImage 23 (.astore_n 2) 1 24 := ⟨by decide +kernel, rfl⟩
theorem dX10_needImage_24 : gw_dc cX10_needImage 24 (.aload_n 2) 1 25 := ⟨by decide +kernel, rfl⟩
theorem dX10_needImage_25 : gw_dc cX10_needImage 25 (.ifnonnull 14) 3 28 := ⟨by decide +kernel, rfl⟩
theorem eX10_needImage_28 : decode cX10_needImage 28 = .ok (.new 239, 3) := by decide +kernel
theorem eX10_needImage_31 : decode cX10_needImage 31 = .ok (.dup, 1) := by decide +kernel
theorem eX10_needImage_32 : decode cX10_needImage 32 = .ok (.ldc_w 446, 3) := by decide +kernel
theorem eX10_needImage_35 : decode cX10_needImage 35 = .ok (.invokespecial 243, 3) := by decide +kernel
theorem eX10_needImage_38 : decode cX10_needImage 38 = .ok (.athrow, 1) := by decide +kernel
theorem dX10_needImage_4 : gw_dc cX10_needImage 4 (.iload_n 1) 1 5 := ⟨by decide +kernel, rfl⟩
theorem dX10_needImage_5 : gw_dc cX10_needImage 5 (.aload_n 0) 1 6 := ⟨by decide +kernel, rfl⟩
theorem dX10_needImage_6 : gw_dc cX10_needImage 6 (.getfield 93) 3 9 := ⟨by decide +kernel, rfl⟩
theorem fk_RX10_93 : gw_fk RX10 93 10 13 14 1 true := ⟨_, _, _, ck_10, by decide, by decide, fun h => absurd h (by decide), fun h => absurd h (by decide), fun _ => Or.inr ⟨_, rfl⟩, rfl, Or.inl (gw_mem 518 (by decide +kernel) rfl)⟩
theorem rf_0_13 {ad : Nat → Nat} : (gw_M0 ad).2.2 0 13 = some 148 := (by decide +kernel : gw_rh 0 13 = some 148)
theorem dX10_needImage_9 : gw_dc cX10_needImage 9 (.arraylength) 1 10 := ⟨by decide +kernel, rfl⟩
theorem o_148 {ad : Nat → Nat} : isO (gw_M0 ad) 148 24 3 := (by decide +kernel : 148 < gw_N0 ∧ gw_sh 148 = (24, 3))
theorem dX10_needImage_10 : gw_dc cX10_needImage 10 (.if_icmp .ge 12) 3 13 := ⟨by decide +kernel, rfl⟩
theorem dX10_needImage_13 : gw_dc cX10_needImage 13 (.aload_n 0) 1 14 := ⟨by decide +kernel, rfl⟩
theorem dX10_needImage_14 : gw_dc cX10_needImage 14 (.getfield 93) 3 17 := ⟨by decide +kernel, rfl⟩
theorem dX10_needImage_17 : gw_dc cX10_needImage 17 (.iload_n 1) 1 18 := ⟨by decide +kernel, rfl⟩
theorem dX10_needImage_18 : gw_dc cX10_needImage 18 (.aaload) 1 19 := ⟨by decide +kernel, rfl⟩
theorem dX10_needImage_19 : gw_dc cX10_needImage 19 (.goto 4) 3 22 := ⟨by decide +kernel, rfl⟩
theorem dX10_needImage_39 : gw_dc cX10_needImage 39 (.aload_n 2) 1 40 := ⟨by decide +kernel, rfl⟩
theorem dX10_needImage_40 : decode cX10_needImage 40 = .ok (.areturn, 1) := by decide +kernel
theorem dX10_needFullTray_0 : gw_dc cX10_needFullTray 0 (.aload_n 0) 1 1 := ⟨by decide +kernel, rfl⟩
theorem dX10_needFullTray_1 : gw_dc cX10_needFullTray 1 (.iload_n 1) 1 2 := ⟨by decide +kernel, rfl⟩
theorem dX10_needFullTray_2 : gw_dc cX10_needFullTray 2 (.invokevirtual 410) 3 5 := ⟨by decide +kernel, rfl⟩
theorem mv_RX10_410 : gw_mv RX10 410 yX10_needTray := ⟨gw_mem 1053 (by decide +kernel) rfl, gw_mem 1055 (by decide +kernel) rfl, gw_mem 22 (by decide +kernel) rfl⟩
theorem my_X10_needTray : gw_my yX10_needTray cX10_needTray 3 (some (.object "LightestSack$Tray")) 1 := ⟨gw_mem 1056 (by decide +kernel) rfl, gw_mem 95 (by decide +kernel) rfl, by decide +kernel, by decide⟩
theorem dX10_needFullTray_5 : gw_dc cX10_needFullTray 5 (.astore_n 2) 1 6 := ⟨by decide +kernel, rfl⟩
theorem dX10_needFullTray_6 : gw_dc cX10_needFullTray 6 (.aload_n 2) 1 7 := ⟨by decide +kernel, rfl⟩
theorem dX10_needFullTray_7 : gw_dc cX10_needFullTray 7 (.getfield 215) 3 10 := ⟨by decide +kernel, rfl⟩
theorem fk_RX10_215 : gw_fk RX10 215 9 2 3 0 false := ⟨_, _, _, ck_9, by decide, by decide, fun _ => rfl, fun h => absurd h (by decide), fun h => absurd h (by decide), rfl, Or.inr ⟨"LightestSack", gw_memN 487 (by decide +kernel) rfl⟩⟩
theorem dX10_needFullTray_10 : gw_dc cX10_needFullTray 10 (.iconst (-1)) 1 11 := ⟨by decide +kernel, rfl⟩
theorem dX10_needFullTray_11 : gw_dc cX10_needFullTray 11 (.if_icmp .ne 14) 3 14 := ⟨by decide +kernel, rfl⟩
theorem dX10_needFullTray_25 : gw_dc cX10_needFullTray 25 (.aload_n 2) 1 26 := ⟨by decide +kernel, rfl⟩
theorem dX10_needFullTray_26 : decode cX10_needFullTray 26 = .ok (.areturn, 1) := by decide +kernel
theorem eX10_needFullTray_14 : decode cX10_needFullTray 14 = .ok (.new 375, 3) := by decide +kernel
theorem eX10_needFullTray_17 : decode cX10_needFullTray 17 = .ok (.dup, 1) := by decide +kernel
theorem eX10_needFullTray_18 : decode cX10_needFullTray 18 = .ok (.ldc_w 444, 3) := by decide +kernel
theorem eX10_needFullTray_21 : decode cX10_needFullTray 21 = .ok (.invokespecial 379, 3) := by decide +kernel
theorem eX10_needFullTray_24 : decode cX10_needFullTray 24 = .ok (.athrow, 1) := by decide +kernel
set_option maxRecDepth 20000 in
theorem th_RX10_375_379 : gw_th RX10 375 379 "java/lang/IllegalStateException" := ⟨by decide +kernel, gw_mem 1058 (by decide +kernel) rfl, gw_mem 117 (by decide +kernel) rfl, by decide +kernel, by decide +kernel⟩
theorem dX10_feed_0 : gw_dc cX10_feed 0 (.aload_n 0) 1 1 := ⟨by decide +kernel, rfl⟩
theorem dX10_feed_1 : gw_dc cX10_feed 1 (.getfield 10) 3 4 := ⟨by decide +kernel, rfl⟩
theorem dX10_feed_4 : gw_dc cX10_feed 4 (.getfield 101) 3 7 := ⟨by decide +kernel, rfl⟩
theorem dX10_feed_7 : gw_dc cX10_feed 7 (.sipush 880) 3 10 := ⟨by decide +kernel, rfl⟩
theorem dX10_feed_10 : gw_dc cX10_feed 10 (.if_icmp .le 5) 3 13 := ⟨by decide +kernel, rfl⟩
theorem dX10_feed_15 : gw_dc cX10_feed 15 (.aload_n 0) 1 16 := ⟨by decide +kernel, rfl⟩
theorem dX10_feed_16 : gw_dc cX10_feed 16 (.getfield 10) 3 19 := ⟨by decide +kernel, rfl⟩
theorem dX10_feed_19 : gw_dc cX10_feed 19 (.iload_n 1) 1 20 := ⟨by decide +kernel, rfl⟩
theorem dX10_feed_20 : gw_dc cX10_feed 20 (.invokevirtual 105) 3 23 := ⟨by decide +kernel, rfl⟩
theorem mv_RX10_105 : gw_mv RX10 105 yX7_take := ⟨gw_mem 552 (by decide +kernel) rfl, gw_mem 553 (by decide +kernel) rfl, gw_mem 554 (by decide +kernel) rfl⟩
theorem my_X7_take : gw_my yX7_take cX7_take 3 none 1 := ⟨gw_mem 555 (by decide +kernel) rfl, gw_mem 96 (by decide +kernel) rfl, by decide +kernel, by decide⟩
theorem dX10_feed_23 : gw_dc cX10_feed 23 (.aload_n 0) 1 24 := ⟨by decide +kernel, rfl⟩
theorem dX10_feed_24 : gw_dc cX10_feed 24 (.getfield 10) 3 27 := ⟨by decide +kernel, rfl⟩
theorem dX10_feed_27 : gw_dc cX10_feed 27 (.iload_n 2) 1 28 := ⟨by decide +kernel, rfl⟩
theorem dX10_feed_28 : gw_dc cX10_feed 28 (.invokevirtual 105) 3 31 := ⟨by decide +kernel, rfl⟩
theorem dX10_feed_31 : gw_dc cX10_feed 31 (.aload_n 0) 1 32 := ⟨by decide +kernel, rfl⟩
theorem dX10_feed_32 : gw_dc cX10_feed 32 (.getfield 10) 3 35 := ⟨by decide +kernel, rfl⟩
theorem dX10_feed_35 : gw_dc cX10_feed 35 (.iload_n 3) 1 36 := ⟨by decide +kernel, rfl⟩
theorem dX10_feed_36 : gw_dc cX10_feed 36 (.invokevirtual 105) 3 39 := ⟨by decide +kernel, rfl⟩
theorem dX10_feed_39 : gw_dc cX10_feed 39 (.aload_n 0) 1 40 := ⟨by decide +kernel, rfl⟩
theorem dX10_feed_40 : gw_dc cX10_feed 40 (.getfield 10) 3 43 := ⟨by decide +kernel, rfl⟩
theorem dX10_feed_43 : gw_dc cX10_feed 43 (.iload 4) 2 45 := ⟨by decide +kernel, rfl⟩
theorem dX10_feed_45 : gw_dc cX10_feed 45 (.invokevirtual 105) 3 48 := ⟨by decide +kernel, rfl⟩
theorem dX10_feed_48 : gw_dc cX10_feed 48 (.aload_n 0) 1 49 := ⟨by decide +kernel, rfl⟩
theorem dX10_feed_49 : gw_dc cX10_feed 49 (.getfield 10) 3 52 := ⟨by decide +kernel, rfl⟩
theorem dX10_feed_52 : gw_dc cX10_feed 52 (.iload 5) 2 54 := ⟨by decide +kernel, rfl⟩
theorem dX10_feed_54 : gw_dc cX10_feed 54 (.invokevirtual 105) 3 57 := ⟨by decide +kernel, rfl⟩
theorem dX10_feed_57 : gw_dc cX10_feed 57 (.aload_n 0) 1 58 := ⟨by decide +kernel, rfl⟩
theorem dX10_feed_58 : gw_dc cX10_feed 58 (.getfield 10) 3 61 := ⟨by decide +kernel, rfl⟩
theorem dX10_feed_61 : gw_dc cX10_feed 61 (.getfield 101) 3 64 := ⟨by decide +kernel, rfl⟩
theorem dX10_feed_64 : decode cX10_feed 64 = .ok (.ireturn, 1) := by decide +kernel
theorem dX10_feed_13 : gw_dc cX10_feed 13 (.iconst (-1)) 1 14 := ⟨by decide +kernel, rfl⟩
theorem dX10_feed_14 : decode cX10_feed 14 = .ok (.ireturn, 1) := by decide +kernel
theorem dX10_takeDraft_0 : gw_dc cX10_takeDraft 0 (.aload_n 0) 1 1 := ⟨by decide +kernel, rfl⟩
theorem dX10_takeDraft_1 : gw_dc cX10_takeDraft 1 (.getfield 10) 3 4 := ⟨by decide +kernel, rfl⟩
theorem dX10_takeDraft_4 : gw_dc cX10_takeDraft 4 (.iconst 0) 1 5 := ⟨by decide +kernel, rfl⟩
theorem dX10_takeDraft_5 : gw_dc cX10_takeDraft 5 (.putfield 101) 3 8 := ⟨by decide +kernel, rfl⟩
theorem dX10_takeDraft_8 : gw_dc cX10_takeDraft 8 (.aload_n 0) 1 9 := ⟨by decide +kernel, rfl⟩
theorem dX10_takeDraft_9 : gw_dc cX10_takeDraft 9 (.getfield 21) 3 12 := ⟨by decide +kernel, rfl⟩
theorem fk_RX10_21 : gw_fk RX10 21 10 1 14 1 true := ⟨_, _, _, ck_10, by decide, by decide, fun h => absurd h (by decide), fun h => absurd h (by decide), fun _ => Or.inl ⟨_, rfl⟩, rfl, Or.inl (gw_mem 506 (by decide +kernel) rfl)⟩
theorem rf_0_1 {ad : Nat → Nat} : (gw_M0 ad).2.2 0 1 = some 3 := (by decide +kernel : gw_rh 0 1 = some 3)
theorem dX10_takeDraft_12 : gw_dc cX10_takeDraft 12 (.getfield 124) 3 15 := ⟨by decide +kernel, rfl⟩
theorem fk_RX10_124 : gw_fk RX10 124 3 6 8 0 false := ⟨_, _, _, ck_3, by decide, by decide, fun _ => rfl, fun h => absurd h (by decide), fun h => absurd h (by decide), rfl, Or.inr ⟨"LightestSack", gw_memN 155 (by decide +kernel) rfl⟩⟩
theorem dX10_takeDraft_15 : gw_dc cX10_takeDraft 15 (.ifCond .eq 5) 3 18 := ⟨by decide +kernel, rfl⟩
theorem dX10_takeDraft_20 : gw_dc cX10_takeDraft 20 (.aload_n 0) 1 21 := ⟨by decide +kernel, rfl⟩
theorem dX10_takeDraft_21 : gw_dc cX10_takeDraft 21 (.getfield 28) 3 24 := ⟨by decide +kernel, rfl⟩
theorem dX10_takeDraft_24 : gw_dc cX10_takeDraft 24 (.aload_n 0) 1 25 := ⟨by decide +kernel, rfl⟩
theorem dX10_takeDraft_25 : gw_dc cX10_takeDraft 25 (.getfield 41) 3 28 := ⟨by decide +kernel, rfl⟩
theorem fk_RX10_41 : gw_fk RX10 41 10 4 14 1 true := ⟨_, _, _, ck_10, by decide, by decide, fun h => absurd h (by decide), fun h => absurd h (by decide), fun _ => Or.inl ⟨_, rfl⟩, rfl, Or.inl (gw_mem 509 (by decide +kernel) rfl)⟩
theorem rf_0_4 {ad : Nat → Nat} : (gw_M0 ad).2.2 0 4 = some 51 := (by decide +kernel : gw_rh 0 4 = some 51)
theorem dX10_takeDraft_28 : gw_dc cX10_takeDraft 28 (.invokevirtual 111) 3 31 := ⟨by decide +kernel, rfl⟩
theorem mv_RX10_111 : gw_mv RX10 111 yX1_copyOf := ⟨gw_mem 725 (by decide +kernel) rfl, gw_mem 726 (by decide +kernel) rfl, gw_mem 727 (by decide +kernel) rfl⟩
theorem my_X1_copyOf : gw_my yX1_copyOf cX1_copyOf 2 none 1 := ⟨gw_mem 728 (by decide +kernel) rfl, gw_mem 98 (by decide +kernel) rfl, by decide +kernel, by decide⟩
theorem dX10_takeDraft_31 : gw_dc cX10_takeDraft 31 (.iconst 1) 1 32 := ⟨by decide +kernel, rfl⟩
theorem dX10_takeDraft_32 : decode cX10_takeDraft 32 = .ok (.ireturn, 1) := by decide +kernel
theorem dX10_takeDraft_18 : gw_dc cX10_takeDraft 18 (.iconst 0) 1 19 := ⟨by decide +kernel, rfl⟩
theorem dX10_takeDraft_19 : decode cX10_takeDraft 19 = .ok (.ireturn, 1) := by decide +kernel
theorem dX10_mill_0 : gw_dc cX10_mill 0 (.aload_n 0) 1 1 := ⟨by decide +kernel, rfl⟩
theorem dX10_mill_1 : gw_dc cX10_mill 1 (.iload_n 1) 1 2 := ⟨by decide +kernel, rfl⟩
theorem dX10_mill_2 : gw_dc cX10_mill 2 (.invokevirtual 108) 3 5 := ⟨by decide +kernel, rfl⟩
theorem mv_RX10_108 : gw_mv RX10 108 yX10_needBytes := ⟨gw_mem 748 (by decide +kernel) rfl, gw_mem 750 (by decide +kernel) rfl, gw_mem 9 (by decide +kernel) rfl⟩
theorem my_X10_needBytes : gw_my yX10_needBytes cX10_needBytes 2 none 1 := ⟨gw_mem 751 (by decide +kernel) rfl, gw_mem 95 (by decide +kernel) rfl, by decide +kernel, by decide⟩
theorem dX10_mill_5 : gw_dc cX10_mill 5 (.aload_n 0) 1 6 := ⟨by decide +kernel, rfl⟩
theorem dX10_mill_6 : gw_dc cX10_mill 6 (.getfield 41) 3 9 := ⟨by decide +kernel, rfl⟩
theorem dX10_mill_9 : gw_dc cX10_mill 9 (.aload_n 0) 1 10 := ⟨by decide +kernel, rfl⟩
theorem dX10_mill_10 : gw_dc cX10_mill 10 (.getfield 28) 3 13 := ⟨by decide +kernel, rfl⟩
theorem dX10_mill_13 : gw_dc cX10_mill 13 (.invokevirtual 111) 3 16 := ⟨by decide +kernel, rfl⟩
theorem dX10_mill_16 : gw_dc cX10_mill 16 (.aload_n 0) 1 17 := ⟨by decide +kernel, rfl⟩
theorem dX10_mill_17 : gw_dc cX10_mill 17 (.getfield 49) 3 20 := ⟨by decide +kernel, rfl⟩
theorem fk_RX10_49 : gw_fk RX10 49 10 5 14 1 true := ⟨_, _, _, ck_10, by decide, by decide, fun h => absurd h (by decide), fun h => absurd h (by decide), fun _ => Or.inl ⟨_, rfl⟩, rfl, Or.inl (gw_mem 510 (by decide +kernel) rfl)⟩
theorem rf_0_5 {ad : Nat → Nat} : (gw_M0 ad).2.2 0 5 = some 73 := (by decide +kernel : gw_rh 0 5 = some 73)
theorem dX10_mill_20 : gw_dc cX10_mill 20 (.iload_n 1) 1 21 := ⟨by decide +kernel, rfl⟩
theorem dX10_mill_21 : gw_dc cX10_mill 21 (.invokevirtual 114) 3 24 := ⟨by decide +kernel, rfl⟩
theorem mv_RX10_114 : gw_mv RX10 114 yX8_readMill := ⟨gw_mem 820 (by decide +kernel) rfl, gw_mem 821 (by decide +kernel) rfl, gw_mem 822 (by decide +kernel) rfl⟩
theorem my_X8_readMill : gw_my yX8_readMill cX8_readMill 3 none 1 := ⟨gw_mem 823 (by decide +kernel) rfl, gw_mem 102 (by decide +kernel) rfl, by decide +kernel, by decide⟩
theorem dX10_mill_24 : gw_dc cX10_mill 24 (.aload_n 0) 1 25 := ⟨by decide +kernel, rfl⟩
theorem dX10_mill_25 : gw_dc cX10_mill 25 (.invokevirtual 117) 3 28 := ⟨by decide +kernel, rfl⟩
theorem mv_RX10_117 : gw_mv RX10 117 yX10_takeDraft := ⟨gw_mem 952 (by decide +kernel) rfl, gw_mem 954 (by decide +kernel) rfl, gw_mem 14 (by decide +kernel) rfl⟩
theorem my_X10_takeDraft : gw_my yX10_takeDraft cX10_takeDraft 1 (some .boolean) 0 := ⟨gw_mem 955 (by decide +kernel) rfl, gw_mem 95 (by decide +kernel) rfl, by decide +kernel, by decide⟩
theorem dX10_mill_28 : gw_dc cX10_mill 28 (.ifCond .eq 13) 3 31 := ⟨by decide +kernel, rfl⟩
theorem dX10_mill_41 : gw_dc cX10_mill 41 (.bipush (-10)) 2 43 := ⟨by decide +kernel, rfl⟩
theorem dX10_mill_43 : gw_dc cX10_mill 43 (.aload_n 0) 1 44 := ⟨by decide +kernel, rfl⟩
theorem dX10_mill_44 : gw_dc cX10_mill 44 (.getfield 21) 3 47 := ⟨by decide +kernel, rfl⟩
theorem dX10_mill_47 : gw_dc cX10_mill 47 (.getfield 124) 3 50 := ⟨by decide +kernel, rfl⟩
theorem dX10_mill_50 : gw_dc cX10_mill 50 (.isub) 1 51 := ⟨by decide +kernel, rfl⟩
theorem dX10_mill_51 : decode cX10_mill 51 = .ok (.ireturn, 1) := by decide +kernel
theorem dX10_mill_31 : gw_dc cX10_mill 31 (.aload_n 0) 1 32 := ⟨by decide +kernel, rfl⟩
theorem dX10_mill_32 : gw_dc cX10_mill 32 (.getfield 28) 3 35 := ⟨by decide +kernel, rfl⟩
theorem dX10_mill_35 : gw_dc cX10_mill 35 (.getfield 121) 3 38 := ⟨by decide +kernel, rfl⟩
theorem fk_RX10_121 : gw_fk RX10 121 1 1 16 0 false := ⟨_, _, _, ck_1, by decide, by decide, fun _ => rfl, fun h => absurd h (by decide), fun h => absurd h (by decide), rfl, Or.inr ⟨"LightestSack", gw_memN 235 (by decide +kernel) rfl⟩⟩
theorem dX10_mill_38 : gw_dc cX10_mill 38 (.goto 13) 3 41 := ⟨by decide +kernel, rfl⟩
theorem dX10_law_0 : gw_dc cX10_law 0 (.aload_n 0) 1 1 := ⟨by decide +kernel, rfl⟩
theorem dX10_law_1 : gw_dc cX10_law 1 (.iload_n 1) 1 2 := ⟨by decide +kernel, rfl⟩
theorem dX10_law_2 : gw_dc cX10_law 2 (.invokevirtual 108) 3 5 := ⟨by decide +kernel, rfl⟩
theorem dX10_law_5 : gw_dc cX10_law 5 (.aload_n 0) 1 6 := ⟨by decide +kernel, rfl⟩
theorem dX10_law_6 : gw_dc cX10_law 6 (.getfield 41) 3 9 := ⟨by decide +kernel, rfl⟩
theorem dX10_law_9 : gw_dc cX10_law 9 (.aload_n 0) 1 10 := ⟨by decide +kernel, rfl⟩
theorem dX10_law_10 : gw_dc cX10_law 10 (.getfield 28) 3 13 := ⟨by decide +kernel, rfl⟩
theorem dX10_law_13 : gw_dc cX10_law 13 (.invokevirtual 111) 3 16 := ⟨by decide +kernel, rfl⟩
theorem dX10_law_16 : gw_dc cX10_law 16 (.aload_n 0) 1 17 := ⟨by decide +kernel, rfl⟩
theorem dX10_law_17 : gw_dc cX10_law 17 (.getfield 49) 3 20 := ⟨by decide +kernel, rfl⟩
theorem dX10_law_20 : gw_dc cX10_law 20 (.iload_n 1) 1 21 := ⟨by decide +kernel, rfl⟩
theorem dX10_law_21 : gw_dc cX10_law 21 (.invokevirtual 127) 3 24 := ⟨by decide +kernel, rfl⟩
theorem mv_RX10_127 : gw_mv RX10 127 yX8_readLaw := ⟨gw_mem 963 (by decide +kernel) rfl, gw_mem 964 (by decide +kernel) rfl, gw_mem 965 (by decide +kernel) rfl⟩
theorem my_X8_readLaw : gw_my yX8_readLaw cX8_readLaw 3 none 1 := ⟨gw_mem 966 (by decide +kernel) rfl, gw_mem 102 (by decide +kernel) rfl, by decide +kernel, by decide⟩
theorem dX10_law_24 : gw_dc cX10_law 24 (.aload_n 0) 1 25 := ⟨by decide +kernel, rfl⟩
theorem dX10_law_25 : gw_dc cX10_law 25 (.invokevirtual 117) 3 28 := ⟨by decide +kernel, rfl⟩
theorem dX10_law_28 : gw_dc cX10_law 28 (.ifCond .eq 16) 3 31 := ⟨by decide +kernel, rfl⟩
theorem dX10_law_44 : gw_dc cX10_law 44 (.bipush (-10)) 2 46 := ⟨by decide +kernel, rfl⟩
theorem dX10_law_46 : gw_dc cX10_law 46 (.aload_n 0) 1 47 := ⟨by decide +kernel, rfl⟩
theorem dX10_law_47 : gw_dc cX10_law 47 (.getfield 21) 3 50 := ⟨by decide +kernel, rfl⟩
theorem dX10_law_50 : gw_dc cX10_law 50 (.getfield 124) 3 53 := ⟨by decide +kernel, rfl⟩
theorem dX10_law_53 : gw_dc cX10_law 53 (.isub) 1 54 := ⟨by decide +kernel, rfl⟩
theorem dX10_law_54 : decode cX10_law 54 = .ok (.ireturn, 1) := by decide +kernel
theorem dX10_law_31 : gw_dc cX10_law 31 (.aload_n 0) 1 32 := ⟨by decide +kernel, rfl⟩
theorem dX10_law_32 : gw_dc cX10_law 32 (.getfield 28) 3 35 := ⟨by decide +kernel, rfl⟩
theorem dX10_law_35 : gw_dc cX10_law 35 (.getfield 130) 3 38 := ⟨by decide +kernel, rfl⟩
theorem fk_RX10_130 : gw_fk RX10 130 1 0 16 1 true := ⟨_, _, _, ck_1, by decide, by decide, fun h => absurd h (by decide), fun h => absurd h (by decide), fun _ => Or.inl ⟨_, rfl⟩, rfl, Or.inr ⟨"LightestSack", gw_memN 231 (by decide +kernel) rfl⟩⟩
theorem rf_4_0 {ad : Nat → Nat} : (gw_M0 ad).2.2 4 0 = some 5 := (by decide +kernel : gw_rh 4 0 = some 5)
theorem in_5 : 5 ∈ gw_laws := by decide +kernel
theorem dX10_law_38 : gw_dc cX10_law 38 (.getfield 134) 3 41 := ⟨by decide +kernel, rfl⟩
theorem fk_RX10_134 : gw_fk RX10 134 0 1 3 0 false := ⟨_, _, _, ck_0, by decide, by decide, fun _ => rfl, fun h => absurd h (by decide), fun h => absurd h (by decide), rfl, Or.inr ⟨"LightestSack", gw_memN 213 (by decide +kernel) rfl⟩⟩
theorem dX10_law_41 : gw_dc cX10_law 41 (.goto 13) 3 44 := ⟨by decide +kernel, rfl⟩
theorem dX10_fault_0 : gw_dc cX10_fault 0 (.iload_n 1) 1 1 := ⟨by decide +kernel, rfl⟩
theorem dX10_fault_1 : gw_dc cX10_fault 1 (.ifCond .ne 11) 3 4 := ⟨by decide +kernel, rfl⟩
theorem dX10_fault_12 : gw_dc cX10_fault 12 (.iload_n 1) 1 13 := ⟨by decide +kernel, rfl⟩
theorem dX10_fault_13 : gw_dc cX10_fault 13 (.iconst 1) 1 14 := ⟨by decide +kernel, rfl⟩
theorem dX10_fault_14 : gw_dc cX10_fault 14 (.if_icmp .ne 13) 3 17 := ⟨by decide +kernel, rfl⟩
theorem dX10_fault_27 : gw_dc cX10_fault 27 (.iconst (-1)) 1 28 := ⟨by decide +kernel, rfl⟩
theorem dX10_fault_28 : decode cX10_fault 28 = .ok (.ireturn, 1) := by decide +kernel
theorem dX10_fault_17 : gw_dc cX10_fault 17 (.aload_n 0) 1 18 := ⟨by decide +kernel, rfl⟩
theorem dX10_fault_18 : gw_dc cX10_fault 18 (.getfield 21) 3 21 := ⟨by decide +kernel, rfl⟩
theorem dX10_fault_21 : gw_dc cX10_fault 21 (.getfield 139) 3 24 := ⟨by decide +kernel, rfl⟩
theorem fk_RX10_139 : gw_fk RX10 139 3 7 8 0 false := ⟨_, _, _, ck_3, by decide, by decide, fun _ => rfl, fun h => absurd h (by decide), fun h => absurd h (by decide), rfl, Or.inr ⟨"LightestSack", gw_memN 157 (by decide +kernel) rfl⟩⟩
theorem dX10_fault_24 : gw_dc cX10_fault 24 (.goto 4) 3 27 := ⟨by decide +kernel, rfl⟩
theorem dX10_fault_4 : gw_dc cX10_fault 4 (.aload_n 0) 1 5 := ⟨by decide +kernel, rfl⟩
theorem dX10_fault_5 : gw_dc cX10_fault 5 (.getfield 21) 3 8 := ⟨by decide +kernel, rfl⟩
theorem dX10_fault_8 : gw_dc cX10_fault 8 (.getfield 124) 3 11 := ⟨by decide +kernel, rfl⟩
theorem dX10_fault_11 : decode cX10_fault 11 = .ok (.ireturn, 1) := by decide +kernel
theorem dX10_sack_0 : gw_dc cX10_sack 0 (.aload_n 0) 1 1 := ⟨by decide +kernel, rfl⟩
theorem dX10_sack_1 : gw_dc cX10_sack 1 (.iload_n 1) 1 2 := ⟨by decide +kernel, rfl⟩
theorem dX10_sack_2 : gw_dc cX10_sack 2 (.invokevirtual 149) 3 5 := ⟨by decide +kernel, rfl⟩
theorem mv_RX10_149 : gw_mv RX10 149 yX10_needSack := ⟨gw_mem 1003 (by decide +kernel) rfl, gw_mem 1005 (by decide +kernel) rfl, gw_mem 18 (by decide +kernel) rfl⟩
theorem my_X10_needSack : gw_my yX10_needSack cX10_needSack 2 none 1 := ⟨gw_mem 1006 (by decide +kernel) rfl, gw_mem 95 (by decide +kernel) rfl, by decide +kernel, by decide⟩
theorem dX10_sack_5 : gw_dc cX10_sack 5 (.iload_n 2) 1 6 := ⟨by decide +kernel, rfl⟩
theorem dX10_sack_6 : decode cX10_sack 6 = .ok (.tableswitch 139 0 7 #[46, 58, 70, 82, 94, 106, 118, 130], 46) := by decide +kernel
theorem dX10_sack_52 : gw_dc cX10_sack 52 (.aload_n 0) 1 53 := ⟨by decide +kernel, rfl⟩
theorem dX10_sack_53 : gw_dc cX10_sack 53 (.getfield 28) 3 56 := ⟨by decide +kernel, rfl⟩
theorem dX10_sack_56 : gw_dc cX10_sack 56 (.getfield 152) 3 59 := ⟨by decide +kernel, rfl⟩
theorem fk_RX10_152 : gw_fk RX10 152 1 8 16 1 true := ⟨_, _, _, ck_1, by decide, by decide, fun h => absurd h (by decide), fun h => absurd h (by decide), fun _ => Or.inl ⟨_, rfl⟩, rfl, Or.inr ⟨"LightestSack", gw_memN 260 (by decide +kernel) rfl⟩⟩
theorem rf_4_8 {ad : Nat → Nat} : (gw_M0 ad).2.2 4 8 = some 10 := (by decide +kernel : gw_rh 4 8 = some 10)
theorem in_10 : (10, 60) ∈ gw_rows := by decide +kernel
theorem dX10_sack_59 : gw_dc cX10_sack 59 (.iload_n 1) 1 60 := ⟨by decide +kernel, rfl⟩
theorem dX10_sack_60 : gw_dc cX10_sack 60 (.invokevirtual 155) 3 63 := ⟨by decide +kernel, rfl⟩
theorem mv_RX10_155 : gw_mv RX10 155 yX4_at := ⟨gw_mem 711 (by decide +kernel) rfl, gw_mem 573 (by decide +kernel) rfl, gw_mem 574 (by decide +kernel) rfl⟩
theorem dX10_sack_63 : decode cX10_sack 63 = .ok (.ireturn, 1) := by decide +kernel
theorem dX10_sack_64 : gw_dc cX10_sack 64 (.aload_n 0) 1 65 := ⟨by decide +kernel, rfl⟩
theorem dX10_sack_65 : gw_dc cX10_sack 65 (.getfield 28) 3 68 := ⟨by decide +kernel, rfl⟩
theorem dX10_sack_68 : gw_dc cX10_sack 68 (.getfield 159) 3 71 := ⟨by decide +kernel, rfl⟩
theorem fk_RX10_159 : gw_fk RX10 159 1 9 16 1 true := ⟨_, _, _, ck_1, by decide, by decide, fun h => absurd h (by decide), fun h => absurd h (by decide), fun _ => Or.inl ⟨_, rfl⟩, rfl, Or.inr ⟨"LightestSack", gw_memN 263 (by decide +kernel) rfl⟩⟩
theorem rf_4_9 {ad : Nat → Nat} : (gw_M0 ad).2.2 4 9 = some 12 := (by decide +kernel : gw_rh 4 9 = some 12)
theorem in_12 : (12, 60) ∈ gw_rows := by decide +kernel
theorem dX10_sack_71 : gw_dc cX10_sack 71 (.iload_n 1) 1 72 := ⟨by decide +kernel, rfl⟩
theorem dX10_sack_72 : gw_dc cX10_sack 72 (.invokevirtual 155) 3 75 := ⟨by decide +kernel, rfl⟩
theorem dX10_sack_75 : decode cX10_sack 75 = .ok (.ireturn, 1) := by decide +kernel
theorem dX10_sack_76 : gw_dc cX10_sack 76 (.aload_n 0) 1 77 := ⟨by decide +kernel, rfl⟩
theorem dX10_sack_77 : gw_dc cX10_sack 77 (.getfield 28) 3 80 := ⟨by decide +kernel, rfl⟩
theorem dX10_sack_80 : gw_dc cX10_sack 80 (.getfield 162) 3 83 := ⟨by decide +kernel, rfl⟩
theorem fk_RX10_162 : gw_fk RX10 162 1 10 16 1 true := ⟨_, _, _, ck_1, by decide, by decide, fun h => absurd h (by decide), fun h => absurd h (by decide), fun _ => Or.inl ⟨_, rfl⟩, rfl, Or.inr ⟨"LightestSack", gw_memN 266 (by decide +kernel) rfl⟩⟩
theorem rf_4_10 {ad : Nat → Nat} : (gw_M0 ad).2.2 4 10 = some 14 := (by decide +kernel : gw_rh 4 10 = some 14)
theorem in_14 : (14, 60) ∈ gw_rows := by decide +kernel
theorem dX10_sack_83 : gw_dc cX10_sack 83 (.iload_n 1) 1 84 := ⟨by decide +kernel, rfl⟩
theorem dX10_sack_84 : gw_dc cX10_sack 84 (.invokevirtual 155) 3 87 := ⟨by decide +kernel, rfl⟩
theorem dX10_sack_87 : decode cX10_sack 87 = .ok (.ireturn, 1) := by decide +kernel
theorem dX10_sack_88 : gw_dc cX10_sack 88 (.aload_n 0) 1 89 := ⟨by decide +kernel, rfl⟩
theorem dX10_sack_89 : gw_dc cX10_sack 89 (.getfield 28) 3 92 := ⟨by decide +kernel, rfl⟩
theorem dX10_sack_92 : gw_dc cX10_sack 92 (.getfield 165) 3 95 := ⟨by decide +kernel, rfl⟩
theorem fk_RX10_165 : gw_fk RX10 165 1 11 16 1 true := ⟨_, _, _, ck_1, by decide, by decide, fun h => absurd h (by decide), fun h => absurd h (by decide), fun _ => Or.inl ⟨_, rfl⟩, rfl, Or.inr ⟨"LightestSack", gw_memN 271 (by decide +kernel) rfl⟩⟩
theorem rf_4_11 {ad : Nat → Nat} : (gw_M0 ad).2.2 4 11 = some 16 := (by decide +kernel : gw_rh 4 11 = some 16)
theorem in_16 : (16, 60) ∈ gw_rows := by decide +kernel
theorem dX10_sack_95 : gw_dc cX10_sack 95 (.iload_n 1) 1 96 := ⟨by decide +kernel, rfl⟩
theorem dX10_sack_96 : gw_dc cX10_sack 96 (.invokevirtual 155) 3 99 := ⟨by decide +kernel, rfl⟩
theorem dX10_sack_99 : decode cX10_sack 99 = .ok (.ireturn, 1) := by decide +kernel
theorem dX10_sack_100 : gw_dc cX10_sack 100 (.aload_n 0) 1 101 := ⟨by decide +kernel, rfl⟩
theorem dX10_sack_101 : gw_dc cX10_sack 101 (.getfield 28) 3 104 := ⟨by decide +kernel, rfl⟩
theorem dX10_sack_104 : gw_dc cX10_sack 104 (.getfield 168) 3 107 := ⟨by decide +kernel, rfl⟩
theorem fk_RX10_168 : gw_fk RX10 168 1 12 16 1 true := ⟨_, _, _, ck_1, by decide, by decide, fun h => absurd h (by decide), fun h => absurd h (by decide), fun _ => Or.inl ⟨_, rfl⟩, rfl, Or.inr ⟨"LightestSack", gw_memN 275 (by decide +kernel) rfl⟩⟩
theorem rf_4_12 {ad : Nat → Nat} : (gw_M0 ad).2.2 4 12 = some 18 := (by decide +kernel : gw_rh 4 12 = some 18)
theorem in_18 : (18, 60) ∈ gw_rows := by decide +kernel
theorem dX10_sack_107 : gw_dc cX10_sack 107 (.iload_n 1) 1 108 := ⟨by decide +kernel, rfl⟩
theorem dX10_sack_108 : gw_dc cX10_sack 108 (.invokevirtual 155) 3 111 := ⟨by decide +kernel, rfl⟩
theorem dX10_sack_111 : decode cX10_sack 111 = .ok (.ireturn, 1) := by decide +kernel
theorem dX10_sack_112 : gw_dc cX10_sack 112 (.aload_n 0) 1 113 := ⟨by decide +kernel, rfl⟩
theorem dX10_sack_113 : gw_dc cX10_sack 113 (.getfield 28) 3 116 := ⟨by decide +kernel, rfl⟩
theorem dX10_sack_116 : gw_dc cX10_sack 116 (.getfield 171) 3 119 := ⟨by decide +kernel, rfl⟩
theorem fk_RX10_171 : gw_fk RX10 171 1 13 16 1 true := ⟨_, _, _, ck_1, by decide, by decide, fun h => absurd h (by decide), fun h => absurd h (by decide), fun _ => Or.inl ⟨_, rfl⟩, rfl, Or.inr ⟨"LightestSack", gw_memN 279 (by decide +kernel) rfl⟩⟩
theorem rf_4_13 {ad : Nat → Nat} : (gw_M0 ad).2.2 4 13 = some 20 := (by decide +kernel : gw_rh 4 13 = some 20)
theorem in_20 : (20, 60) ∈ gw_rows := by decide +kernel
theorem dX10_sack_119 : gw_dc cX10_sack 119 (.iload_n 1) 1 120 := ⟨by decide +kernel, rfl⟩
theorem dX10_sack_120 : gw_dc cX10_sack 120 (.invokevirtual 155) 3 123 := ⟨by decide +kernel, rfl⟩
theorem dX10_sack_123 : decode cX10_sack 123 = .ok (.ireturn, 1) := by decide +kernel
theorem dX10_sack_124 : gw_dc cX10_sack 124 (.aload_n 0) 1 125 := ⟨by decide +kernel, rfl⟩
theorem dX10_sack_125 : gw_dc cX10_sack 125 (.getfield 28) 3 128 := ⟨by decide +kernel, rfl⟩
theorem dX10_sack_128 : gw_dc cX10_sack 128 (.getfield 174) 3 131 := ⟨by decide +kernel, rfl⟩
theorem fk_RX10_174 : gw_fk RX10 174 1 14 16 1 true := ⟨_, _, _, ck_1, by decide, by decide, fun h => absurd h (by decide), fun h => absurd h (by decide), fun _ => Or.inl ⟨_, rfl⟩, rfl, Or.inr ⟨"LightestSack", gw_memN 283 (by decide +kernel) rfl⟩⟩
theorem rf_4_14 {ad : Nat → Nat} : (gw_M0 ad).2.2 4 14 = some 22 := (by decide +kernel : gw_rh 4 14 = some 22)
theorem in_22 : (22, 60) ∈ gw_rows := by decide +kernel
theorem dX10_sack_131 : gw_dc cX10_sack 131 (.iload_n 1) 1 132 := ⟨by decide +kernel, rfl⟩
theorem dX10_sack_132 : gw_dc cX10_sack 132 (.invokevirtual 155) 3 135 := ⟨by decide +kernel, rfl⟩
theorem dX10_sack_135 : decode cX10_sack 135 = .ok (.ireturn, 1) := by decide +kernel
theorem dX10_sack_136 : gw_dc cX10_sack 136 (.aload_n 0) 1 137 := ⟨by decide +kernel, rfl⟩
theorem dX10_sack_137 : gw_dc cX10_sack 137 (.getfield 28) 3 140 := ⟨by decide +kernel, rfl⟩
theorem dX10_sack_140 : gw_dc cX10_sack 140 (.iload_n 1) 1 141 := ⟨by decide +kernel, rfl⟩
theorem dX10_sack_141 : gw_dc cX10_sack 141 (.invokevirtual 177) 3 144 := ⟨by decide +kernel, rfl⟩
theorem mv_RX10_177 : gw_mv RX10 177 yX1_firstPiece := ⟨gw_mem 1023 (by decide +kernel) rfl, gw_mem 674 (by decide +kernel) rfl, gw_mem 675 (by decide +kernel) rfl⟩
theorem dX10_sack_144 : decode cX10_sack 144 = .ok (.ireturn, 1) := by decide +kernel
theorem eX10_sack_145 : decode cX10_sack 145 = .ok (.new 142, 3) := by decide +kernel
theorem eX10_sack_148 : decode cX10_sack 148 = .ok (.dup, 1) := by decide +kernel
theorem eX10_sack_149 : decode cX10_sack 149 = .ok (.ldc 180, 2) := by decide +kernel
theorem eX10_sack_151 : decode cX10_sack 151 = .ok (.invokespecial 146, 3) := by decide +kernel
theorem eX10_sack_154 : decode cX10_sack 154 = .ok (.athrow, 1) := by decide +kernel
theorem dX10_piece_0 : gw_dc cX10_piece 0 (.aload_n 0) 1 1 := ⟨by decide +kernel, rfl⟩
theorem dX10_piece_1 : gw_dc cX10_piece 1 (.iload_n 1) 1 2 := ⟨by decide +kernel, rfl⟩
theorem dX10_piece_2 : gw_dc cX10_piece 2 (.invokevirtual 182) 3 5 := ⟨by decide +kernel, rfl⟩
theorem mv_RX10_182 : gw_mv RX10 182 yX10_needPiece := ⟨gw_mem 1032 (by decide +kernel) rfl, gw_mem 1034 (by decide +kernel) rfl, gw_mem 19 (by decide +kernel) rfl⟩
theorem my_X10_needPiece : gw_my yX10_needPiece cX10_needPiece 2 none 1 := ⟨gw_mem 1035 (by decide +kernel) rfl, gw_mem 95 (by decide +kernel) rfl, by decide +kernel, by decide⟩
theorem dX10_piece_5 : gw_dc cX10_piece 5 (.aload_n 0) 1 6 := ⟨by decide +kernel, rfl⟩
theorem dX10_piece_6 : gw_dc cX10_piece 6 (.iload_n 2) 1 7 := ⟨by decide +kernel, rfl⟩
theorem dX10_piece_7 : gw_dc cX10_piece 7 (.iconst 4) 1 8 := ⟨by decide +kernel, rfl⟩
theorem dX10_piece_8 : gw_dc cX10_piece 8 (.invokevirtual 185) 3 11 := ⟨by decide +kernel, rfl⟩
theorem mv_RX10_185 : gw_mv RX10 185 yX10_needWhat := ⟨gw_mem 1037 (by decide +kernel) rfl, gw_mem 1039 (by decide +kernel) rfl, gw_mem 20 (by decide +kernel) rfl⟩
theorem my_X10_needWhat : gw_my yX10_needWhat cX10_needWhat 3 none 2 := ⟨gw_mem 1040 (by decide +kernel) rfl, gw_mem 95 (by decide +kernel) rfl, by decide +kernel, by decide⟩
theorem dX10_piece_11 : gw_dc cX10_piece 11 (.aload_n 0) 1 12 := ⟨by decide +kernel, rfl⟩
theorem dX10_piece_12 : gw_dc cX10_piece 12 (.getfield 37) 3 15 := ⟨by decide +kernel, rfl⟩
theorem fk_RX10_37 : gw_fk RX10 37 10 3 14 1 true := ⟨_, _, _, ck_10, by decide, by decide, fun h => absurd h (by decide), fun h => absurd h (by decide), fun _ => Or.inl ⟨_, rfl⟩, rfl, Or.inl (gw_mem 508 (by decide +kernel) rfl)⟩
theorem rf_0_3 {ad : Nat → Nat} : (gw_M0 ad).2.2 0 3 = some 26 := (by decide +kernel : gw_rh 0 3 = some 26)
theorem dX10_piece_15 : gw_dc cX10_piece 15 (.invokevirtual 189) 3 18 := ⟨by decide +kernel, rfl⟩
theorem mv_RX10_189 : gw_mv RX10 189 yX5_go := ⟨gw_mem 584 (by decide +kernel) rfl, gw_mem 585 (by decide +kernel) rfl, gw_mem 586 (by decide +kernel) rfl⟩
theorem dX10_piece_18 : gw_dc cX10_piece 18 (.iload_n 2) 1 19 := ⟨by decide +kernel, rfl⟩
theorem dX10_piece_19 : decode cX10_piece 19 = .ok (.tableswitch 77 0 3 #[29, 41, 53, 65], 29) := by decide +kernel
theorem dX10_piece_48 : gw_dc cX10_piece 48 (.aload_n 0) 1 49 := ⟨by decide +kernel, rfl⟩
theorem dX10_piece_49 : gw_dc cX10_piece 49 (.getfield 37) 3 52 := ⟨by decide +kernel, rfl⟩
theorem dX10_piece_52 : gw_dc cX10_piece 52 (.getfield 192) 3 55 := ⟨by decide +kernel, rfl⟩
theorem fk_RX10_192 : gw_fk RX10 192 5 3 15 1 true := ⟨_, _, _, ck_5, by decide, by decide, fun h => absurd h (by decide), fun h => absurd h (by decide), fun _ => Or.inl ⟨_, rfl⟩, rfl, Or.inr ⟨"LightestSack", gw_memN 334 (by decide +kernel) rfl⟩⟩
theorem rf_26_3 {ad : Nat → Nat} : (gw_M0 ad).2.2 26 3 = some 27 := (by decide +kernel : gw_rh 26 3 = some 27)
theorem in_27 : (27, 60) ∈ gw_rows := by decide +kernel
theorem dX10_piece_55 : gw_dc cX10_piece 55 (.iload_n 1) 1 56 := ⟨by decide +kernel, rfl⟩
theorem dX10_piece_56 : gw_dc cX10_piece 56 (.invokevirtual 155) 3 59 := ⟨by decide +kernel, rfl⟩
theorem dX10_piece_59 : decode cX10_piece 59 = .ok (.ireturn, 1) := by decide +kernel
theorem dX10_piece_60 : gw_dc cX10_piece 60 (.aload_n 0) 1 61 := ⟨by decide +kernel, rfl⟩
theorem dX10_piece_61 : gw_dc cX10_piece 61 (.getfield 37) 3 64 := ⟨by decide +kernel, rfl⟩
theorem dX10_piece_64 : gw_dc cX10_piece 64 (.getfield 195) 3 67 := ⟨by decide +kernel, rfl⟩
theorem fk_RX10_195 : gw_fk RX10 195 5 4 15 1 true := ⟨_, _, _, ck_5, by decide, by decide, fun h => absurd h (by decide), fun h => absurd h (by decide), fun _ => Or.inl ⟨_, rfl⟩, rfl, Or.inr ⟨"LightestSack", gw_memN 337 (by decide +kernel) rfl⟩⟩
theorem rf_26_4 {ad : Nat → Nat} : (gw_M0 ad).2.2 26 4 = some 29 := (by decide +kernel : gw_rh 26 4 = some 29)
theorem in_29 : (29, 60) ∈ gw_rows := by decide +kernel
theorem dX10_piece_67 : gw_dc cX10_piece 67 (.iload_n 1) 1 68 := ⟨by decide +kernel, rfl⟩
theorem dX10_piece_68 : gw_dc cX10_piece 68 (.invokevirtual 155) 3 71 := ⟨by decide +kernel, rfl⟩
theorem dX10_piece_71 : decode cX10_piece 71 = .ok (.ireturn, 1) := by decide +kernel
theorem dX10_piece_72 : gw_dc cX10_piece 72 (.aload_n 0) 1 73 := ⟨by decide +kernel, rfl⟩
theorem dX10_piece_73 : gw_dc cX10_piece 73 (.getfield 37) 3 76 := ⟨by decide +kernel, rfl⟩
theorem dX10_piece_76 : gw_dc cX10_piece 76 (.getfield 196) 3 79 := ⟨by decide +kernel, rfl⟩
theorem fk_RX10_196 : gw_fk RX10 196 5 6 15 1 true := ⟨_, _, _, ck_5, by decide, by decide, fun h => absurd h (by decide), fun h => absurd h (by decide), fun _ => Or.inl ⟨_, rfl⟩, rfl, Or.inr ⟨"LightestSack", gw_memN 340 (by decide +kernel) rfl⟩⟩
theorem rf_26_6 {ad : Nat → Nat} : (gw_M0 ad).2.2 26 6 = some 33 := (by decide +kernel : gw_rh 26 6 = some 33)
theorem in_33 : (33, 60) ∈ gw_rows := by decide +kernel
theorem dX10_piece_79 : gw_dc cX10_piece 79 (.iload_n 1) 1 80 := ⟨by decide +kernel, rfl⟩
theorem dX10_piece_80 : gw_dc cX10_piece 80 (.invokevirtual 155) 3 83 := ⟨by decide +kernel, rfl⟩
theorem dX10_piece_83 : decode cX10_piece 83 = .ok (.ireturn, 1) := by decide +kernel
theorem dX10_piece_84 : gw_dc cX10_piece 84 (.aload_n 0) 1 85 := ⟨by decide +kernel, rfl⟩
theorem dX10_piece_85 : gw_dc cX10_piece 85 (.getfield 37) 3 88 := ⟨by decide +kernel, rfl⟩
theorem dX10_piece_88 : gw_dc cX10_piece 88 (.getfield 199) 3 91 := ⟨by decide +kernel, rfl⟩
theorem fk_RX10_199 : gw_fk RX10 199 5 7 15 1 true := ⟨_, _, _, ck_5, by decide, by decide, fun h => absurd h (by decide), fun h => absurd h (by decide), fun _ => Or.inl ⟨_, rfl⟩, rfl, Or.inr ⟨"LightestSack", gw_memN 342 (by decide +kernel) rfl⟩⟩
theorem rf_26_7 {ad : Nat → Nat} : (gw_M0 ad).2.2 26 7 = some 35 := (by decide +kernel : gw_rh 26 7 = some 35)
theorem in_35 : (35, 60) ∈ gw_rows := by decide +kernel
theorem dX10_piece_91 : gw_dc cX10_piece 91 (.iload_n 1) 1 92 := ⟨by decide +kernel, rfl⟩
theorem dX10_piece_92 : gw_dc cX10_piece 92 (.invokevirtual 155) 3 95 := ⟨by decide +kernel, rfl⟩
theorem dX10_piece_95 : decode cX10_piece 95 = .ok (.ireturn, 1) := by decide +kernel
theorem dX10_piece_96 : gw_dc cX10_piece 96 (.aload_n 0) 1 97 := ⟨by decide +kernel, rfl⟩
theorem dX10_piece_97 : gw_dc cX10_piece 97 (.getfield 37) 3 100 := ⟨by decide +kernel, rfl⟩
theorem dX10_piece_100 : gw_dc cX10_piece 100 (.getfield 202) 3 103 := ⟨by decide +kernel, rfl⟩
theorem fk_RX10_202 : gw_fk RX10 202 5 8 15 1 true := ⟨_, _, _, ck_5, by decide, by decide, fun h => absurd h (by decide), fun h => absurd h (by decide), fun _ => Or.inl ⟨_, rfl⟩, rfl, Or.inr ⟨"LightestSack", gw_memN 344 (by decide +kernel) rfl⟩⟩
theorem rf_26_8 {ad : Nat → Nat} : (gw_M0 ad).2.2 26 8 = some 37 := (by decide +kernel : gw_rh 26 8 = some 37)
theorem in_37 : (37, 60) ∈ gw_rows := by decide +kernel
theorem dX10_piece_103 : gw_dc cX10_piece 103 (.iload_n 1) 1 104 := ⟨by decide +kernel, rfl⟩
theorem dX10_piece_104 : gw_dc cX10_piece 104 (.invokevirtual 155) 3 107 := ⟨by decide +kernel, rfl⟩
theorem dX10_piece_107 : decode cX10_piece 107 = .ok (.ireturn, 1) := by decide +kernel
theorem dX10_whole_0 : gw_dc cX10_whole 0 (.aload_n 0) 1 1 := ⟨by decide +kernel, rfl⟩
theorem dX10_whole_1 : gw_dc cX10_whole 1 (.getfield 28) 3 4 := ⟨by decide +kernel, rfl⟩
theorem dX10_whole_4 : gw_dc cX10_whole 4 (.invokevirtual 233) 3 7 := ⟨by decide +kernel, rfl⟩
theorem mv_RX10_233 : gw_mv RX10 233 yX1_makeWhole := ⟨gw_mem 564 (by decide +kernel) rfl, gw_mem 565 (by decide +kernel) rfl, gw_mem 566 (by decide +kernel) rfl⟩
theorem my_X1_makeWhole : gw_my yX1_makeWhole cX1_makeWhole 3 (some .int) 0 := ⟨gw_mem 567 (by decide +kernel) rfl, gw_mem 98 (by decide +kernel) rfl, by decide +kernel, by decide⟩
theorem dX10_whole_7 : decode cX10_whole 7 = .ok (.ireturn, 1) := by decide +kernel
theorem dX10_order_0 : gw_dc cX10_order 0 (.aload_n 0) 1 1 := ⟨by decide +kernel, rfl⟩
theorem dX10_order_1 : gw_dc cX10_order 1 (.getfield 37) 3 4 := ⟨by decide +kernel, rfl⟩
theorem dX10_order_4 : gw_dc cX10_order 4 (.invokevirtual 189) 3 7 := ⟨by decide +kernel, rfl⟩
theorem dX10_order_7 : gw_dc cX10_order 7 (.aload_n 0) 1 8 := ⟨by decide +kernel, rfl⟩
theorem dX10_order_8 : gw_dc cX10_order 8 (.getfield 37) 3 11 := ⟨by decide +kernel, rfl⟩
theorem dX10_order_11 : gw_dc cX10_order 11 (.iload_n 1) 1 12 := ⟨by decide +kernel, rfl⟩
theorem dX10_order_12 : gw_dc cX10_order 12 (.invokevirtual 246) 3 15 := ⟨by decide +kernel, rfl⟩
theorem mv_RX10_246 : gw_mv RX10 246 yX5_pieceBegun := ⟨gw_mem 637 (by decide +kernel) rfl, gw_mem 638 (by decide +kernel) rfl, gw_mem 639 (by decide +kernel) rfl⟩
theorem my_X5_pieceBegun : gw_my yX5_pieceBegun cX5_pieceBegun 2 (some .int) 1 := ⟨gw_mem 640 (by decide +kernel) rfl, gw_mem 101 (by decide +kernel) rfl, by decide +kernel, by decide⟩
theorem dX10_order_15 : decode cX10_order 15 = .ok (.ireturn, 1) := by decide +kernel
theorem dX10_end_0 : gw_dc cX10_end 0 (.aload_n 0) 1 1 := ⟨by decide +kernel, rfl⟩
theorem dX10_end_1 : gw_dc cX10_end 1 (.iload_n 1) 1 2 := ⟨by decide +kernel, rfl⟩
theorem dX10_end_2 : gw_dc cX10_end 2 (.invokevirtual 149) 3 5 := ⟨by decide +kernel, rfl⟩
theorem dX10_end_5 : gw_dc cX10_end 5 (.aload_n 0) 1 6 := ⟨by decide +kernel, rfl⟩
theorem dX10_end_6 : gw_dc cX10_end 6 (.getfield 37) 3 9 := ⟨by decide +kernel, rfl⟩
theorem dX10_end_9 : gw_dc cX10_end 9 (.invokevirtual 189) 3 12 := ⟨by decide +kernel, rfl⟩
theorem dX10_end_12 : gw_dc cX10_end 12 (.aload_n 0) 1 13 := ⟨by decide +kernel, rfl⟩
theorem dX10_end_13 : gw_dc cX10_end 13 (.getfield 37) 3 16 := ⟨by decide +kernel, rfl⟩
theorem dX10_end_16 : gw_dc cX10_end 16 (.getfield 249) 3 19 := ⟨by decide +kernel, rfl⟩
theorem fk_RX10_249 : gw_fk RX10 249 5 10 15 1 true := ⟨_, _, _, ck_5, by decide, by decide, fun h => absurd h (by decide), fun h => absurd h (by decide), fun _ => Or.inl ⟨_, rfl⟩, rfl, Or.inr ⟨"LightestSack", gw_memN 348 (by decide +kernel) rfl⟩⟩
theorem rf_26_10 {ad : Nat → Nat} : (gw_M0 ad).2.2 26 10 = some 41 := (by decide +kernel : gw_rh 26 10 = some 41)
theorem in_41 : (41, 60) ∈ gw_rows := by decide +kernel
theorem dX10_end_19 : gw_dc cX10_end 19 (.iload_n 1) 1 20 := ⟨by decide +kernel, rfl⟩
theorem dX10_end_20 : gw_dc cX10_end 20 (.invokevirtual 155) 3 23 := ⟨by decide +kernel, rfl⟩
theorem dX10_end_23 : decode cX10_end 23 = .ok (.ireturn, 1) := by decide +kernel
theorem dX10_waits_0 : gw_dc cX10_waits 0 (.aload_n 0) 1 1 := ⟨by decide +kernel, rfl⟩
theorem dX10_waits_1 : gw_dc cX10_waits 1 (.iload_n 1) 1 2 := ⟨by decide +kernel, rfl⟩
theorem dX10_waits_2 : gw_dc cX10_waits 2 (.invokevirtual 149) 3 5 := ⟨by decide +kernel, rfl⟩
theorem dX10_waits_5 : gw_dc cX10_waits 5 (.aload_n 0) 1 6 := ⟨by decide +kernel, rfl⟩
theorem dX10_waits_6 : gw_dc cX10_waits 6 (.getfield 37) 3 9 := ⟨by decide +kernel, rfl⟩
theorem dX10_waits_9 : gw_dc cX10_waits 9 (.invokevirtual 189) 3 12 := ⟨by decide +kernel, rfl⟩
theorem dX10_waits_12 : gw_dc cX10_waits 12 (.aload_n 0) 1 13 := ⟨by decide +kernel, rfl⟩
theorem dX10_waits_13 : gw_dc cX10_waits 13 (.getfield 37) 3 16 := ⟨by decide +kernel, rfl⟩
theorem dX10_waits_16 : gw_dc cX10_waits 16 (.iload_n 1) 1 17 := ⟨by decide +kernel, rfl⟩
theorem dX10_waits_17 : gw_dc cX10_waits 17 (.invokevirtual 252) 3 20 := ⟨by decide +kernel, rfl⟩
theorem mv_RX10_252 : gw_mv RX10 252 yX5_waitOf := ⟨gw_mem 681 (by decide +kernel) rfl, gw_mem 650 (by decide +kernel) rfl, gw_mem 651 (by decide +kernel) rfl⟩
theorem dX10_waits_20 : decode cX10_waits 20 = .ok (.ireturn, 1) := by decide +kernel
theorem dX10_home_0 : gw_dc cX10_home 0 (.iload_n 1) 1 1 := ⟨by decide +kernel, rfl⟩
theorem dX10_home_1 : gw_dc cX10_home 1 (.ifCond .lt 9) 3 4 := ⟨by decide +kernel, rfl⟩
theorem eX10_home_10 : decode cX10_home 10 = .ok (.new 142, 3) := by decide +kernel
theorem eX10_home_13 : decode cX10_home 13 = .ok (.dup, 1) := by decide +kernel
theorem eX10_home_14 : decode cX10_home 14 = .ok (.ldc 255, 2) := by decide +kernel
theorem eX10_home_16 : decode cX10_home 16 = .ok (.invokespecial 146, 3) := by decide +kernel
theorem eX10_home_19 : decode cX10_home 19 = .ok (.athrow, 1) := by decide +kernel
theorem dX10_home_4 : gw_dc cX10_home 4 (.iload_n 1) 1 5 := ⟨by decide +kernel, rfl⟩
theorem dX10_home_5 : gw_dc cX10_home 5 (.bipush 8) 2 7 := ⟨by decide +kernel, rfl⟩
theorem dX10_home_7 : gw_dc cX10_home 7 (.if_icmp .lt 13) 3 10 := ⟨by decide +kernel, rfl⟩
theorem dX10_home_20 : gw_dc cX10_home 20 (.aload_n 0) 1 21 := ⟨by decide +kernel, rfl⟩
theorem dX10_home_21 : gw_dc cX10_home 21 (.getfield 37) 3 24 := ⟨by decide +kernel, rfl⟩
theorem dX10_home_24 : gw_dc cX10_home 24 (.invokevirtual 189) 3 27 := ⟨by decide +kernel, rfl⟩
theorem dX10_home_27 : gw_dc cX10_home 27 (.aload_n 0) 1 28 := ⟨by decide +kernel, rfl⟩
theorem dX10_home_28 : gw_dc cX10_home 28 (.getfield 37) 3 31 := ⟨by decide +kernel, rfl⟩
theorem dX10_home_31 : gw_dc cX10_home 31 (.iload_n 1) 1 32 := ⟨by decide +kernel, rfl⟩
theorem dX10_home_32 : gw_dc cX10_home 32 (.invokevirtual 257) 3 35 := ⟨by decide +kernel, rfl⟩
theorem mv_RX10_257 : gw_mv RX10 257 yX5_lastEndOf := ⟨gw_mem 1116 (by decide +kernel) rfl, gw_mem 1117 (by decide +kernel) rfl, gw_mem 1118 (by decide +kernel) rfl⟩
theorem my_X5_lastEndOf : gw_my yX5_lastEndOf cX5_lastEndOf 4 (some .int) 1 := ⟨gw_mem 1119 (by decide +kernel) rfl, gw_mem 101 (by decide +kernel) rfl, by decide +kernel, by decide⟩
theorem dX10_home_35 : decode cX10_home 35 = .ok (.ireturn, 1) := by decide +kernel
theorem dX10_total_0 : gw_dc cX10_total 0 (.aload_n 0) 1 1 := ⟨by decide +kernel, rfl⟩
theorem dX10_total_1 : gw_dc cX10_total 1 (.getfield 37) 3 4 := ⟨by decide +kernel, rfl⟩
theorem dX10_total_4 : gw_dc cX10_total 4 (.invokevirtual 189) 3 7 := ⟨by decide +kernel, rfl⟩
theorem dX10_total_7 : gw_dc cX10_total 7 (.iload_n 1) 1 8 := ⟨by decide +kernel, rfl⟩
theorem dX10_total_8 : decode cX10_total 8 = .ok (.tableswitch 96 0 5 #[40, 48, 56, 64, 72, 88], 40) := by decide +kernel
theorem dX10_total_48 : gw_dc cX10_total 48 (.aload_n 0) 1 49 := ⟨by decide +kernel, rfl⟩
theorem dX10_total_49 : gw_dc cX10_total 49 (.getfield 37) 3 52 := ⟨by decide +kernel, rfl⟩
theorem dX10_total_52 : gw_dc cX10_total 52 (.invokevirtual 260) 3 55 := ⟨by decide +kernel, rfl⟩
theorem mv_RX10_260 : gw_mv RX10 260 yX5_allWaits := ⟨gw_mem 645 (by decide +kernel) rfl, gw_mem 646 (by decide +kernel) rfl, gw_mem 647 (by decide +kernel) rfl⟩
theorem my_X5_allWaits : gw_my yX5_allWaits cX5_allWaits 3 (some .int) 0 := ⟨gw_mem 648 (by decide +kernel) rfl, gw_mem 101 (by decide +kernel) rfl, by decide +kernel, by decide⟩
theorem dX10_total_55 : decode cX10_total 55 = .ok (.ireturn, 1) := by decide +kernel
theorem dX10_total_56 : gw_dc cX10_total 56 (.aload_n 0) 1 57 := ⟨by decide +kernel, rfl⟩
theorem dX10_total_57 : gw_dc cX10_total 57 (.getfield 37) 3 60 := ⟨by decide +kernel, rfl⟩
theorem dX10_total_60 : gw_dc cX10_total 60 (.invokevirtual 263) 3 63 := ⟨by decide +kernel, rfl⟩
theorem mv_RX10_263 : gw_mv RX10 263 yX5_costOfAll := ⟨gw_mem 653 (by decide +kernel) rfl, gw_mem 654 (by decide +kernel) rfl, gw_mem 655 (by decide +kernel) rfl⟩
theorem my_X5_costOfAll : gw_my yX5_costOfAll cX5_costOfAll 3 (some .int) 0 := ⟨gw_mem 656 (by decide +kernel) rfl, gw_mem 101 (by decide +kernel) rfl, by decide +kernel, by decide⟩
theorem dX10_total_63 : decode cX10_total 63 = .ok (.ireturn, 1) := by decide +kernel
theorem dX10_total_64 : gw_dc cX10_total 64 (.aload_n 0) 1 65 := ⟨by decide +kernel, rfl⟩
theorem dX10_total_65 : gw_dc cX10_total 65 (.getfield 37) 3 68 := ⟨by decide +kernel, rfl⟩
theorem dX10_total_68 : gw_dc cX10_total 68 (.invokevirtual 266) 3 71 := ⟨by decide +kernel, rfl⟩
theorem mv_RX10_266 : gw_mv RX10 266 yX5_lateSacks := ⟨gw_mem 657 (by decide +kernel) rfl, gw_mem 658 (by decide +kernel) rfl, gw_mem 659 (by decide +kernel) rfl⟩
theorem my_X5_lateSacks : gw_my yX5_lateSacks cX5_lateSacks 3 (some .int) 0 := ⟨gw_mem 660 (by decide +kernel) rfl, gw_mem 101 (by decide +kernel) rfl, by decide +kernel, by decide⟩
theorem dX10_total_71 : decode cX10_total 71 = .ok (.ireturn, 1) := by decide +kernel
theorem dX10_total_72 : gw_dc cX10_total 72 (.aload_n 0) 1 73 := ⟨by decide +kernel, rfl⟩
theorem dX10_total_73 : gw_dc cX10_total 73 (.getfield 37) 3 76 := ⟨by decide +kernel, rfl⟩
theorem dX10_total_76 : gw_dc cX10_total 76 (.invokevirtual 269) 3 79 := ⟨by decide +kernel, rfl⟩
theorem mv_RX10_269 : gw_mv RX10 269 yX5_lastEnd := ⟨gw_mem 665 (by decide +kernel) rfl, gw_mem 666 (by decide +kernel) rfl, gw_mem 667 (by decide +kernel) rfl⟩
theorem my_X5_lastEnd : gw_my yX5_lastEnd cX5_lastEnd 3 (some .int) 0 := ⟨gw_mem 668 (by decide +kernel) rfl, gw_mem 101 (by decide +kernel) rfl, by decide +kernel, by decide⟩
theorem dX10_total_79 : decode cX10_total 79 = .ok (.ireturn, 1) := by decide +kernel
theorem dX10_total_80 : gw_dc cX10_total 80 (.aload_n 0) 1 81 := ⟨by decide +kernel, rfl⟩
theorem dX10_total_81 : gw_dc cX10_total 81 (.getfield 28) 3 84 := ⟨by decide +kernel, rfl⟩
theorem dX10_total_84 : gw_dc cX10_total 84 (.getfield 272) 3 87 := ⟨by decide +kernel, rfl⟩
theorem fk_RX10_272 : gw_fk RX10 272 1 4 16 0 false := ⟨_, _, _, ck_1, by decide, by decide, fun _ => rfl, fun h => absurd h (by decide), fun h => absurd h (by decide), rfl, Or.inr ⟨"LightestSack", gw_memN 248 (by decide +kernel) rfl⟩⟩
theorem dX10_total_87 : gw_dc cX10_total 87 (.aload_n 0) 1 88 := ⟨by decide +kernel, rfl⟩
theorem dX10_total_88 : gw_dc cX10_total 88 (.getfield 28) 3 91 := ⟨by decide +kernel, rfl⟩
theorem dX10_total_91 : gw_dc cX10_total 91 (.invokevirtual 226) 3 94 := ⟨by decide +kernel, rfl⟩
theorem dX10_total_94 : gw_dc cX10_total 94 (.imul) 1 95 := ⟨by decide +kernel, rfl⟩
theorem dX10_total_95 : decode cX10_total 95 = .ok (.ireturn, 1) := by decide +kernel
theorem dX10_total_96 : gw_dc cX10_total 96 (.aload_n 0) 1 97 := ⟨by decide +kernel, rfl⟩
theorem dX10_total_97 : gw_dc cX10_total 97 (.getfield 37) 3 100 := ⟨by decide +kernel, rfl⟩
theorem dX10_total_100 : gw_dc cX10_total 100 (.getfield 275) 3 103 := ⟨by decide +kernel, rfl⟩
theorem fk_RX10_275 : gw_fk RX10 275 5 2 15 0 false := ⟨_, _, _, ck_5, by decide, by decide, fun _ => rfl, fun h => absurd h (by decide), fun h => absurd h (by decide), rfl, Or.inr ⟨"LightestSack", gw_memN 331 (by decide +kernel) rfl⟩⟩
theorem dX10_total_103 : decode cX10_total 103 = .ok (.ireturn, 1) := by decide +kernel
theorem dX10_total_104 : gw_dc cX10_total 104 (.iconst (-1)) 1 105 := ⟨by decide +kernel, rfl⟩
theorem dX10_total_105 : decode cX10_total 105 = .ok (.ireturn, 1) := by decide +kernel
theorem dX10_stands_0 : gw_dc cX10_stands 0 (.iload_n 1) 1 1 := ⟨by decide +kernel, rfl⟩
theorem dX10_stands_1 : gw_dc cX10_stands 1 (.ifCond .ge 14) 3 4 := ⟨by decide +kernel, rfl⟩
theorem dX10_stands_15 : gw_dc cX10_stands 15 (.aload_n 0) 1 16 := ⟨by decide +kernel, rfl⟩
theorem dX10_stands_16 : gw_dc cX10_stands 16 (.iload_n 2) 1 17 := ⟨by decide +kernel, rfl⟩
theorem dX10_stands_17 : gw_dc cX10_stands 17 (.iconst 3) 1 18 := ⟨by decide +kernel, rfl⟩
theorem dX10_stands_18 : gw_dc cX10_stands 18 (.invokevirtual 185) 3 21 := ⟨by decide +kernel, rfl⟩
theorem dX10_stands_21 : gw_dc cX10_stands 21 (.aload_n 0) 1 22 := ⟨by decide +kernel, rfl⟩
theorem dX10_stands_22 : gw_dc cX10_stands 22 (.getfield 37) 3 25 := ⟨by decide +kernel, rfl⟩
theorem dX10_stands_25 : gw_dc cX10_stands 25 (.invokevirtual 189) 3 28 := ⟨by decide +kernel, rfl⟩
theorem dX10_stands_28 : gw_dc cX10_stands 28 (.iload_n 2) 1 29 := ⟨by decide +kernel, rfl⟩
theorem dX10_stands_29 : decode cX10_stands 29 = .ok (.tableswitch 54 0 2 #[27, 36, 45], 27) := by decide +kernel
theorem dX10_stands_56 : gw_dc cX10_stands 56 (.aload_n 0) 1 57 := ⟨by decide +kernel, rfl⟩
theorem dX10_stands_57 : gw_dc cX10_stands 57 (.getfield 37) 3 60 := ⟨by decide +kernel, rfl⟩
theorem dX10_stands_60 : gw_dc cX10_stands 60 (.iload_n 1) 1 61 := ⟨by decide +kernel, rfl⟩
theorem dX10_stands_61 : gw_dc cX10_stands 61 (.invokevirtual 280) 3 64 := ⟨by decide +kernel, rfl⟩
theorem mv_RX10_280 : gw_mv RX10 280 yX5_standingPieces := ⟨gw_mem 1128 (by decide +kernel) rfl, gw_mem 1129 (by decide +kernel) rfl, gw_mem 1130 (by decide +kernel) rfl⟩
theorem my_X5_standingPieces : gw_my yX5_standingPieces cX5_standingPieces 4 (some .int) 1 := ⟨gw_mem 1131 (by decide +kernel) rfl, gw_mem 101 (by decide +kernel) rfl, by decide +kernel, by decide⟩
theorem dX10_stands_64 : decode cX10_stands 64 = .ok (.ireturn, 1) := by decide +kernel
theorem dX10_stands_65 : gw_dc cX10_stands 65 (.aload_n 0) 1 66 := ⟨by decide +kernel, rfl⟩
theorem dX10_stands_66 : gw_dc cX10_stands 66 (.getfield 37) 3 69 := ⟨by decide +kernel, rfl⟩
theorem dX10_stands_69 : gw_dc cX10_stands 69 (.iload_n 1) 1 70 := ⟨by decide +kernel, rfl⟩
theorem dX10_stands_70 : gw_dc cX10_stands 70 (.invokevirtual 283) 3 73 := ⟨by decide +kernel, rfl⟩
theorem mv_RX10_283 : gw_mv RX10 283 yX5_standingPounds := ⟨gw_mem 1136 (by decide +kernel) rfl, gw_mem 1137 (by decide +kernel) rfl, gw_mem 1138 (by decide +kernel) rfl⟩
theorem my_X5_standingPounds : gw_my yX5_standingPounds cX5_standingPounds 4 (some .int) 1 := ⟨gw_mem 1139 (by decide +kernel) rfl, gw_mem 101 (by decide +kernel) rfl, by decide +kernel, by decide⟩
theorem dX10_stands_73 : decode cX10_stands 73 = .ok (.ireturn, 1) := by decide +kernel
theorem dX10_stands_74 : gw_dc cX10_stands 74 (.aload_n 0) 1 75 := ⟨by decide +kernel, rfl⟩
theorem dX10_stands_75 : gw_dc cX10_stands 75 (.getfield 37) 3 78 := ⟨by decide +kernel, rfl⟩
theorem dX10_stands_78 : gw_dc cX10_stands 78 (.iload_n 1) 1 79 := ⟨by decide +kernel, rfl⟩
theorem dX10_stands_79 : gw_dc cX10_stands 79 (.invokevirtual 286) 3 82 := ⟨by decide +kernel, rfl⟩
theorem mv_RX10_286 : gw_mv RX10 286 yX5_busyStones := ⟨gw_mem 1140 (by decide +kernel) rfl, gw_mem 1141 (by decide +kernel) rfl, gw_mem 1142 (by decide +kernel) rfl⟩
theorem my_X5_busyStones : gw_my yX5_busyStones cX5_busyStones 4 (some .int) 1 := ⟨gw_mem 1143 (by decide +kernel) rfl, gw_mem 101 (by decide +kernel) rfl, by decide +kernel, by decide⟩
theorem dX10_stands_82 : decode cX10_stands 82 = .ok (.ireturn, 1) := by decide +kernel
theorem dX10_stands_83 : gw_dc cX10_stands 83 (.aload_n 0) 1 84 := ⟨by decide +kernel, rfl⟩
theorem dX10_stands_84 : gw_dc cX10_stands 84 (.getfield 37) 3 87 := ⟨by decide +kernel, rfl⟩
theorem dX10_stands_87 : gw_dc cX10_stands 87 (.iload_n 1) 1 88 := ⟨by decide +kernel, rfl⟩
theorem dX10_stands_88 : gw_dc cX10_stands 88 (.invokevirtual 289) 3 91 := ⟨by decide +kernel, rfl⟩
theorem mv_RX10_289 : gw_mv RX10 289 yX5_openSacks := ⟨gw_mem 1144 (by decide +kernel) rfl, gw_mem 1145 (by decide +kernel) rfl, gw_mem 1146 (by decide +kernel) rfl⟩
theorem my_X5_openSacks : gw_my yX5_openSacks cX5_openSacks 4 (some .int) 1 := ⟨gw_mem 1147 (by decide +kernel) rfl, gw_mem 101 (by decide +kernel) rfl, by decide +kernel, by decide⟩
theorem dX10_stands_91 : decode cX10_stands 91 = .ok (.ireturn, 1) := by decide +kernel
theorem eX10_stands_4 : decode cX10_stands 4 = .ok (.new 142, 3) := by decide +kernel
theorem eX10_stands_7 : decode cX10_stands 7 = .ok (.dup, 1) := by decide +kernel
theorem eX10_stands_8 : decode cX10_stands 8 = .ok (.ldc_w 278, 3) := by decide +kernel
theorem eX10_stands_11 : decode cX10_stands 11 = .ok (.invokespecial 146, 3) := by decide +kernel
theorem eX10_stands_14 : decode cX10_stands 14 = .ok (.athrow, 1) := by decide +kernel
theorem dX10_longest_0 : gw_dc cX10_longest 0 (.aload_n 0) 1 1 := ⟨by decide +kernel, rfl⟩
theorem dX10_longest_1 : gw_dc cX10_longest 1 (.getfield 37) 3 4 := ⟨by decide +kernel, rfl⟩
theorem dX10_longest_4 : gw_dc cX10_longest 4 (.invokevirtual 189) 3 7 := ⟨by decide +kernel, rfl⟩
theorem dX10_longest_7 : gw_dc cX10_longest 7 (.iconst (-1)) 1 8 := ⟨by decide +kernel, rfl⟩
theorem dX10_longest_8 : gw_dc cX10_longest 8 (.istore_n 1) 1 9 := ⟨by decide +kernel, rfl⟩
theorem dX10_longest_9 : gw_dc cX10_longest 9 (.iconst 0) 1 10 := ⟨by decide +kernel, rfl⟩
theorem dX10_longest_10 : gw_dc cX10_longest 10 (.istore_n 2) 1 11 := ⟨by decide +kernel, rfl⟩
theorem dX10_longest_11 : gw_dc cX10_longest 11 (.iload_n 2) 1 12 := ⟨by decide +kernel, rfl⟩
theorem dX10_longest_12 : gw_dc cX10_longest 12 (.aload_n 0) 1 13 := ⟨by decide +kernel, rfl⟩
theorem dX10_longest_13 : gw_dc cX10_longest 13 (.getfield 28) 3 16 := ⟨by decide +kernel, rfl⟩
theorem dX10_longest_16 : gw_dc cX10_longest 16 (.getfield 236) 3 19 := ⟨by decide +kernel, rfl⟩
theorem dX10_longest_19 : gw_dc cX10_longest 19 (.if_icmp .ge 35) 3 22 := ⟨by decide +kernel, rfl⟩
theorem dX10_longest_54 : gw_dc cX10_longest 54 (.iload_n 1) 1 55 := ⟨by decide +kernel, rfl⟩
theorem dX10_longest_55 : decode cX10_longest 55 = .ok (.ireturn, 1) := by decide +kernel
theorem dX10_longest_22 : gw_dc cX10_longest 22 (.iload_n 1) 1 23 := ⟨by decide +kernel, rfl⟩
theorem dX10_longest_23 : gw_dc cX10_longest 23 (.iconst (-1)) 1 24 := ⟨by decide +kernel, rfl⟩
theorem dX10_longest_24 : gw_dc cX10_longest 24 (.if_icmp .eq 22) 3 27 := ⟨by decide +kernel, rfl⟩
theorem dX10_longest_46 : gw_dc cX10_longest 46 (.iload_n 2) 1 47 := ⟨by decide +kernel, rfl⟩
theorem dX10_longest_47 : gw_dc cX10_longest 47 (.istore_n 1) 1 48 := ⟨by decide +kernel, rfl⟩
theorem dX10_longest_48 : gw_dc cX10_longest 48 (.iinc 2 1) 3 51 := ⟨by decide +kernel, rfl⟩
theorem dX10_longest_51 : gw_dc cX10_longest 51 (.goto (-40)) 3 54 := ⟨by decide +kernel, rfl⟩
theorem dX10_longest_27 : gw_dc cX10_longest 27 (.aload_n 0) 1 28 := ⟨by decide +kernel, rfl⟩
theorem dX10_longest_28 : gw_dc cX10_longest 28 (.getfield 37) 3 31 := ⟨by decide +kernel, rfl⟩
theorem dX10_longest_31 : gw_dc cX10_longest 31 (.iload_n 2) 1 32 := ⟨by decide +kernel, rfl⟩
theorem dX10_longest_32 : gw_dc cX10_longest 32 (.invokevirtual 252) 3 35 := ⟨by decide +kernel, rfl⟩
theorem dX10_longest_35 : gw_dc cX10_longest 35 (.aload_n 0) 1 36 := ⟨by decide +kernel, rfl⟩
theorem dX10_longest_36 : gw_dc cX10_longest 36 (.getfield 37) 3 39 := ⟨by decide +kernel, rfl⟩
theorem dX10_longest_39 : gw_dc cX10_longest 39 (.iload_n 1) 1 40 := ⟨by decide +kernel, rfl⟩
theorem dX10_longest_40 : gw_dc cX10_longest 40 (.invokevirtual 252) 3 43 := ⟨by decide +kernel, rfl⟩
theorem dX10_longest_43 : gw_dc cX10_longest 43 (.if_icmp .le 5) 3 46 := ⟨by decide +kernel, rfl⟩
theorem dX10_ahead_0 : gw_dc cX10_ahead 0 (.aload_n 0) 1 1 := ⟨by decide +kernel, rfl⟩
theorem dX10_ahead_1 : gw_dc cX10_ahead 1 (.iload_n 1) 1 2 := ⟨by decide +kernel, rfl⟩
theorem dX10_ahead_2 : gw_dc cX10_ahead 2 (.invokevirtual 182) 3 5 := ⟨by decide +kernel, rfl⟩
theorem dX10_ahead_5 : gw_dc cX10_ahead 5 (.aload_n 0) 1 6 := ⟨by decide +kernel, rfl⟩
theorem dX10_ahead_6 : gw_dc cX10_ahead 6 (.iload_n 2) 1 7 := ⟨by decide +kernel, rfl⟩
theorem dX10_ahead_7 : gw_dc cX10_ahead 7 (.invokevirtual 182) 3 10 := ⟨by decide +kernel, rfl⟩
theorem dX10_ahead_10 : gw_dc cX10_ahead 10 (.aload_n 0) 1 11 := ⟨by decide +kernel, rfl⟩
theorem dX10_ahead_11 : gw_dc cX10_ahead 11 (.getfield 37) 3 14 := ⟨by decide +kernel, rfl⟩
theorem dX10_ahead_14 : gw_dc cX10_ahead 14 (.invokevirtual 292) 3 17 := ⟨by decide +kernel, rfl⟩
theorem mv_RX10_292 : gw_mv RX10 292 yX5_lay := ⟨gw_mem 1155 (by decide +kernel) rfl, gw_mem 589 (by decide +kernel) rfl, gw_mem 590 (by decide +kernel) rfl⟩
theorem dX10_ahead_17 : gw_dc cX10_ahead 17 (.aload_n 0) 1 18 := ⟨by decide +kernel, rfl⟩
theorem dX10_ahead_18 : gw_dc cX10_ahead 18 (.getfield 37) 3 21 := ⟨by decide +kernel, rfl⟩
theorem dX10_ahead_21 : gw_dc cX10_ahead 21 (.iload_n 1) 1 22 := ⟨by decide +kernel, rfl⟩
theorem dX10_ahead_22 : gw_dc cX10_ahead 22 (.iload_n 2) 1 23 := ⟨by decide +kernel, rfl⟩
theorem dX10_ahead_23 : gw_dc cX10_ahead 23 (.iconst 0) 1 24 := ⟨by decide +kernel, rfl⟩
theorem dX10_ahead_24 : gw_dc cX10_ahead 24 (.invokevirtual 295) 3 27 := ⟨by decide +kernel, rfl⟩
theorem mv_RX10_295 : gw_mv RX10 295 yX5_lead := ⟨gw_mem 1156 (by decide +kernel) rfl, gw_mem 626 (by decide +kernel) rfl, gw_mem 627 (by decide +kernel) rfl⟩
theorem dX10_ahead_27 : decode cX10_ahead 27 = .ok (.ireturn, 1) := by decide +kernel
theorem dX10_count_0 : gw_dc cX10_count 0 (.iload_n 1) 1 1 := ⟨by decide +kernel, rfl⟩
theorem dX10_count_1 : decode cX10_count 1 = .ok (.tableswitch 129 0 8 #[51, 59, 67, 75, 83, 91, 99, 110, 121], 51) := by decide +kernel
theorem dX10_count_52 : gw_dc cX10_count 52 (.aload_n 0) 1 53 := ⟨by decide +kernel, rfl⟩
theorem dX10_count_53 : gw_dc cX10_count 53 (.getfield 28) 3 56 := ⟨by decide +kernel, rfl⟩
theorem dX10_count_56 : gw_dc cX10_count 56 (.getfield 121) 3 59 := ⟨by decide +kernel, rfl⟩
theorem dX10_count_59 : decode cX10_count 59 = .ok (.ireturn, 1) := by decide +kernel
theorem dX10_count_60 : gw_dc cX10_count 60 (.aload_n 0) 1 61 := ⟨by decide +kernel, rfl⟩
theorem dX10_count_61 : gw_dc cX10_count 61 (.getfield 28) 3 64 := ⟨by decide +kernel, rfl⟩
theorem dX10_count_64 : gw_dc cX10_count 64 (.getfield 325) 3 67 := ⟨by decide +kernel, rfl⟩
theorem fk_RX10_325 : gw_fk RX10 325 1 2 16 0 false := ⟨_, _, _, ck_1, by decide, by decide, fun _ => rfl, fun h => absurd h (by decide), fun h => absurd h (by decide), rfl, Or.inr ⟨"LightestSack", gw_memN 239 (by decide +kernel) rfl⟩⟩
theorem dX10_count_67 : decode cX10_count 67 = .ok (.ireturn, 1) := by decide +kernel
theorem dX10_count_68 : gw_dc cX10_count 68 (.aload_n 0) 1 69 := ⟨by decide +kernel, rfl⟩
theorem dX10_count_69 : gw_dc cX10_count 69 (.getfield 28) 3 72 := ⟨by decide +kernel, rfl⟩
theorem dX10_count_72 : gw_dc cX10_count 72 (.getfield 436) 3 75 := ⟨by decide +kernel, rfl⟩
theorem fk_RX10_436 : gw_fk RX10 436 1 3 16 0 false := ⟨_, _, _, ck_1, by decide, by decide, fun _ => rfl, fun h => absurd h (by decide), fun h => absurd h (by decide), rfl, Or.inr ⟨"LightestSack", gw_memN 244 (by decide +kernel) rfl⟩⟩
theorem dX10_count_75 : decode cX10_count 75 = .ok (.ireturn, 1) := by decide +kernel
theorem dX10_count_76 : gw_dc cX10_count 76 (.aload_n 0) 1 77 := ⟨by decide +kernel, rfl⟩
theorem dX10_count_77 : gw_dc cX10_count 77 (.getfield 28) 3 80 := ⟨by decide +kernel, rfl⟩
theorem dX10_count_80 : gw_dc cX10_count 80 (.getfield 272) 3 83 := ⟨by decide +kernel, rfl⟩
theorem dX10_count_83 : decode cX10_count 83 = .ok (.ireturn, 1) := by decide +kernel
theorem dX10_count_84 : gw_dc cX10_count 84 (.aload_n 0) 1 85 := ⟨by decide +kernel, rfl⟩
theorem dX10_count_85 : gw_dc cX10_count 85 (.getfield 28) 3 88 := ⟨by decide +kernel, rfl⟩
theorem dX10_count_88 : gw_dc cX10_count 88 (.getfield 236) 3 91 := ⟨by decide +kernel, rfl⟩
theorem dX10_count_91 : decode cX10_count 91 = .ok (.ireturn, 1) := by decide +kernel
theorem dX10_count_92 : gw_dc cX10_count 92 (.aload_n 0) 1 93 := ⟨by decide +kernel, rfl⟩
theorem dX10_count_93 : gw_dc cX10_count 93 (.getfield 28) 3 96 := ⟨by decide +kernel, rfl⟩
theorem dX10_count_96 : gw_dc cX10_count 96 (.invokevirtual 226) 3 99 := ⟨by decide +kernel, rfl⟩
theorem dX10_count_99 : decode cX10_count 99 = .ok (.ireturn, 1) := by decide +kernel
theorem dX10_count_100 : gw_dc cX10_count 100 (.aload_n 0) 1 101 := ⟨by decide +kernel, rfl⟩
theorem dX10_count_101 : gw_dc cX10_count 101 (.getfield 28) 3 104 := ⟨by decide +kernel, rfl⟩
theorem dX10_count_104 : gw_dc cX10_count 104 (.getfield 130) 3 107 := ⟨by decide +kernel, rfl⟩
theorem dX10_count_107 : gw_dc cX10_count 107 (.getfield 134) 3 110 := ⟨by decide +kernel, rfl⟩
theorem dX10_count_110 : decode cX10_count 110 = .ok (.ireturn, 1) := by decide +kernel
theorem dX10_count_111 : gw_dc cX10_count 111 (.aload_n 0) 1 112 := ⟨by decide +kernel, rfl⟩
theorem dX10_count_112 : gw_dc cX10_count 112 (.getfield 28) 3 115 := ⟨by decide +kernel, rfl⟩
theorem dX10_count_115 : gw_dc cX10_count 115 (.getfield 130) 3 118 := ⟨by decide +kernel, rfl⟩
theorem dX10_count_118 : gw_dc cX10_count 118 (.getfield 439) 3 121 := ⟨by decide +kernel, rfl⟩
theorem fk_RX10_439 : gw_fk RX10 439 0 2 3 0 false := ⟨_, _, _, ck_0, by decide, by decide, fun _ => rfl, fun h => absurd h (by decide), fun h => absurd h (by decide), rfl, Or.inr ⟨"LightestSack", gw_memN 219 (by decide +kernel) rfl⟩⟩
theorem dX10_count_121 : decode cX10_count 121 = .ok (.ireturn, 1) := by decide +kernel
theorem dX10_count_122 : gw_dc cX10_count 122 (.aload_n 0) 1 123 := ⟨by decide +kernel, rfl⟩
theorem dX10_count_123 : gw_dc cX10_count 123 (.getfield 10) 3 126 := ⟨by decide +kernel, rfl⟩
theorem dX10_count_126 : gw_dc cX10_count 126 (.getfield 101) 3 129 := ⟨by decide +kernel, rfl⟩
theorem dX10_count_129 : decode cX10_count 129 = .ok (.ireturn, 1) := by decide +kernel
theorem dX10_count_130 : gw_dc cX10_count 130 (.iconst (-1)) 1 131 := ⟨by decide +kernel, rfl⟩
theorem dX10_count_131 : decode cX10_count 131 = .ok (.ireturn, 1) := by decide +kernel
/-! LightestSack (0), 1: texts, sacks, pieces, the run -/
def zFeed (σ : Sg) (a b c d e : Int) : Int × Sg := if 880 < σ 1 1 then (-1, σ) else (tTake (tTake (tTake (tTake (tTake σ a) b) c) d) e 1 1, tTake (tTake (tTake (tTake (tTake σ a) b) c) d) e)
def zTd (σ : Sg) : Int × Sg := if su σ 1 1 0 3 6 ≠ 0 then (0, su σ 1 1 0) else (1, mCopy (su σ 1 1 0) 4 51)
def zMill (σ : Sg) (n : Int) : Int × Sg := (if (zTd (tMill (mCopy σ 51 4) n)).1 = 0 then wr (-10 - (zTd (tMill (mCopy σ 51 4) n)).2 3 6) else (zTd (tMill (mCopy σ 51 4) n)).2 4 1, (zTd (tMill (mCopy σ 51 4) n)).2)
def zLaw (σ : Sg) (n : Int) : Int × Sg := (if (zTd (tLaw (mCopy σ 51 4) n)).1 = 0 then wr (-10 - (zTd (tLaw (mCopy σ 51 4) n)).2 3 6) else (zTd (tLaw (mCopy σ 51 4) n)).2 5 1, (zTd (tLaw (mCopy σ 51 4) n)).2)
def zFault (σ : Sg) (w : Int) : Int := if w = 0 then σ 3 6 else if w = 1 then σ 3 7 else -1
def zSack (σ : Sg) (s w : Int) : Int := if w = 0 then rAt σ 11 60 s else if w = 1 then rAt σ 13 60 s else if w = 2 then rAt σ 15 60 s else if w = 3 then rAt σ 17 60 s else if w = 4 then rAt σ 19 60 s else if w = 5 then rAt σ 21 60 s else if w = 6 then rAt σ 23 60 s else mFirst σ 4 s
def zPiece (σ : Sg) (p w : Int) : Int := if w = 0 then rAt σ 28 60 p else if w = 1 then rAt σ 30 60 p else if w = 2 then rAt σ 34 60 p else if w = 3 then rAt σ 36 60 p else rAt σ 38 60 p
def gPerson (p : Int) : Option String := if 0 ≤ p ∧ p < 8 then none else gIA
def zTotal (σ : Sg) (w : Int) : Int := if w = 0 then awF σ 26 4 else if w = 1 then coF σ 26 4 else if w = 2 then lsF σ 26 4 else if w = 3 then leF σ 26 4 else if w = 4 then wr (σ 4 4 * mPcs σ 4) else if w = 5 then σ 26 2 else -1
def gMin (m : Int) : Option String := if 0 ≤ m then none else gIA
def zStands (σ : Sg) (m w : Int) : Int := if w = 0 then spF σ 26 4 m else if w = 1 then swF σ 26 4 m else if w = 2 then bsF σ 26 m else osF σ 26 4 m
def zLoS (σ : Sg) (i : Nat) (c : Int) : Int := if c = -1 ∨ uW σ 26 4 c < uW σ 26 4 i then i else c
def zLongest (σ : Sg) : Int := itr (σ 4 5).toNat (zLoS σ) (-1)
def zCount (σ : Sg) (w : Int) : Int := if w = 0 then σ 4 1 else if w = 1 then σ 4 2 else if w = 2 then σ 4 3 else if w = 3 then σ 4 4 else if w = 4 then σ 4 5 else if w = 5 then mPcs σ 4 else if w = 6 then σ 5 1 else if w = 7 then σ 5 2 else if w = 8 then σ 1 1 else -1
set_option maxRecDepth 4000 in
theorem s_X10_needBytes (ad : Nat → Nat) (σ : Sg)  (n : Int) : gw_Sp yX10_needBytes cX10_needBytes 2 none 7 1 6 [vR (some 0), vI n] (gw_M0 ad) σ (gw_DG (gBytes σ n) none (gw_M0 ad) (σ)) (gw_isG (gBytes σ n)) := by
  refine gw_Sp.of [some (vR (some 0)), some (vI n)] (by decide +kernel) rfl (Nat.le_of_ble_eq_true rfl) ?_
  intro X G fx het hnm
  refine g_iload_n fx dX10_needBytes_0 rfl ?_
  refine g_if_lt (tgt := 15) fx dX10_needBytes_1 (by decide) (fun h1 => ?_) (fun h1 => ?_)
  · exact g_throwS fx het th_RX10_142_146 (by decide +kernel : (RX10, 144, "not so many bytes", 20) ∈ gw_strT) eX10_needBytes_15 eX10_needBytes_18 eX10_needBytes_19 eX10_needBytes_21 eX10_needBytes_24 (by decide) rfl rfl (by decide) (by decide) (by decide) (by show (gBytes σ n) = _; rw [gBytes]; (repeat first | rw [if_pos (by omega)] | rw [if_neg (by omega)]); rfl)
  · refine g_iload_n fx dX10_needBytes_4 rfl ?_
    refine g_aload_n fx dX10_needBytes_5 rfl ?_
    refine g_getr fx dX10_needBytes_6 fk_RX10_10 o_0 rf_0_0 ?_
    refine g_geti fx dX10_needBytes_9 fk_RX10_101 (by decide) o_1 ?_
    refine g_icmp_le (tgt := 25) fx dX10_needBytes_12 (by decide) (fun h12 => ?_) (fun h12 => ?_)
    · exact g_vret fx rfl dX10_needBytes_25 (by decide) (by decide) (gw_le.rf _) ⟨by rw [gBytes]; (repeat first | rw [if_pos (by omega)] | rw [if_neg (by omega)]), rfl, rfl, rfl⟩
    · exact g_throwS fx het th_RX10_142_146 (by decide +kernel : (RX10, 144, "not so many bytes", 20) ∈ gw_strT) eX10_needBytes_15 eX10_needBytes_18 eX10_needBytes_19 eX10_needBytes_21 eX10_needBytes_24 (by decide) rfl rfl (by decide) (by decide) (by decide) (by show (gBytes σ n) = _; rw [gBytes]; (repeat first | rw [if_pos (by omega)] | rw [if_neg (by omega)]); rfl)
set_option maxRecDepth 4000 in
theorem s_X10_needSack (ad : Nat → Nat) (σ : Sg)  (s : Int) : gw_Sp yX10_needSack cX10_needSack 2 none 7 1 6 [vR (some 0), vI s] (gw_M0 ad) σ (gw_DG (gSack σ s) none (gw_M0 ad) (σ)) (gw_isG (gSack σ s)) := by
  refine gw_Sp.of [some (vR (some 0)), some (vI s)] (by decide +kernel) rfl (Nat.le_of_ble_eq_true rfl) ?_
  intro X G fx het hnm
  refine g_iload_n fx dX10_needSack_0 rfl ?_
  refine g_if_lt (tgt := 15) fx dX10_needSack_1 (by decide) (fun h1 => ?_) (fun h1 => ?_)
  · exact g_throwN fx het th_RX10_239_243 (by decide +kernel : (RX10, 241, "no such sack", 21) ∈ gw_strT) eX10_needSack_15 eX10_needSack_18 eX10_needSack_19 eX10_needSack_21 eX10_needSack_24 (by decide) rfl rfl (by decide) (by decide) (by decide) (by show (gSack σ s) = _; rw [gSack]; (repeat first | rw [if_pos (by omega)] | rw [if_neg (by omega)]); rfl)
  · refine g_iload_n fx dX10_needSack_4 rfl ?_
    refine g_aload_n fx dX10_needSack_5 rfl ?_
    refine g_getr fx dX10_needSack_6 fk_RX10_28 o_0 rf_0_2 ?_
    refine g_geti fx dX10_needSack_9 fk_RX10_236 (by decide) (mill_O in_4) ?_
    refine g_icmp_lt (tgt := 25) fx dX10_needSack_12 (by decide) (fun h12 => ?_) (fun h12 => ?_)
    · exact g_vret fx rfl dX10_needSack_25 (by decide) (by decide) (gw_le.rf _) ⟨by rw [gSack]; (repeat first | rw [if_pos (by omega)] | rw [if_neg (by omega)]), rfl, rfl, rfl⟩
    · exact g_throwN fx het th_RX10_239_243 (by decide +kernel : (RX10, 241, "no such sack", 21) ∈ gw_strT) eX10_needSack_15 eX10_needSack_18 eX10_needSack_19 eX10_needSack_21 eX10_needSack_24 (by decide) rfl rfl (by decide) (by decide) (by decide) (by show (gSack σ s) = _; rw [gSack]; (repeat first | rw [if_pos (by omega)] | rw [if_neg (by omega)]); rfl)
set_option maxRecDepth 4000 in
theorem s_X10_needPiece (ad : Nat → Nat) (σ : Sg)  (p : Int) : gw_Sp yX10_needPiece cX10_needPiece 2 none 7 1 6 [vR (some 0), vI p] (gw_M0 ad) σ (gw_DG (gPiece σ p) none (gw_M0 ad) (σ)) (gw_isG (gPiece σ p)) := by
  refine gw_Sp.of [some (vR (some 0)), some (vI p)] (by decide +kernel) rfl (Nat.le_of_ble_eq_true rfl) ?_
  intro X G fx het hnm
  refine g_iload_n fx dX10_needPiece_0 rfl ?_
  refine g_if_lt (tgt := 15) fx dX10_needPiece_1 (by decide) (fun h1 => ?_) (fun h1 => ?_)
  · exact g_throwN fx het th_RX10_239_243 (by decide +kernel : (RX10, 244, "no such piece", 23) ∈ gw_strT) eX10_needPiece_15 eX10_needPiece_18 eX10_needPiece_19 eX10_needPiece_21 eX10_needPiece_24 (by decide) rfl rfl (by decide) (by decide) (by decide) (by show (gPiece σ p) = _; rw [gPiece]; (repeat first | rw [if_pos (by omega)] | rw [if_neg (by omega)]); rfl)
  · refine g_iload_n fx dX10_needPiece_4 rfl ?_
    refine g_aload_n fx dX10_needPiece_5 rfl ?_
    refine g_getr fx dX10_needPiece_6 fk_RX10_28 o_0 rf_0_2 ?_
    refine g_callVD fx dX10_needPiece_9 mv_RX10_226 my_X1_pieces (s_X1_pieces ad _ in_4) (mill_O in_4) rfl rfl rfl (Nat.le_of_ble_eq_true rfl) (by decide) (by decide) ?_
    refine g_icmp_lt (tgt := 25) fx dX10_needPiece_12 (by decide) (fun h12 => ?_) (fun h12 => ?_)
    · exact g_vret fx rfl dX10_needPiece_25 (by decide) (by decide) (gw_le.rf _) ⟨by rw [gPiece]; (repeat first | rw [if_pos (by omega)] | rw [if_neg (by omega)]), rfl, rfl, rfl⟩
    · exact g_throwN fx het th_RX10_239_243 (by decide +kernel : (RX10, 244, "no such piece", 23) ∈ gw_strT) eX10_needPiece_15 eX10_needPiece_18 eX10_needPiece_19 eX10_needPiece_21 eX10_needPiece_24 (by decide) rfl rfl (by decide) (by decide) (by decide) (by show (gPiece σ p) = _; rw [gPiece]; (repeat first | rw [if_pos (by omega)] | rw [if_neg (by omega)]); rfl)
set_option maxRecDepth 4000 in
theorem s_X10_needWhat (ad : Nat → Nat) (σ : Sg)  (w : Int) (m : Int) : gw_Sp yX10_needWhat cX10_needWhat 3 none 7 1 6 [vR (some 0), vI w, vI m] (gw_M0 ad) σ (gw_DG (gWhat w m) none (gw_M0 ad) (σ)) (gw_isG (gWhat w m)) := by
  refine gw_Sp.of [some (vR (some 0)), some (vI w), some (vI m)] (by decide +kernel) rfl (Nat.le_of_ble_eq_true rfl) ?_
  intro X G fx het hnm
  refine g_iload_n fx dX10_needWhat_0 rfl ?_
  refine g_if_lt (tgt := 9) fx dX10_needWhat_1 (by decide) (fun h1 => ?_) (fun h1 => ?_)
  · exact g_throwS fx het th_RX10_142_146 (by decide +kernel : (RX10, 180, "no such what", 22) ∈ gw_strT) eX10_needWhat_9 eX10_needWhat_12 eX10_needWhat_13 eX10_needWhat_15 eX10_needWhat_18 (by decide) rfl rfl (by decide) (by decide) (by decide) (by show (gWhat w m) = _; rw [gWhat]; (repeat first | rw [if_pos (by omega)] | rw [if_neg (by omega)]); rfl)
  · refine g_iload_n fx dX10_needWhat_4 rfl ?_
    refine g_iload_n fx dX10_needWhat_5 rfl ?_
    refine g_icmp_le (tgt := 19) fx dX10_needWhat_6 (by decide) (fun h6 => ?_) (fun h6 => ?_)
    · exact g_vret fx rfl dX10_needWhat_19 (by decide) (by decide) (gw_le.rf _) ⟨by rw [gWhat]; (repeat first | rw [if_pos (by omega)] | rw [if_neg (by omega)]), rfl, rfl, rfl⟩
    · exact g_throwS fx het th_RX10_142_146 (by decide +kernel : (RX10, 180, "no such what", 22) ∈ gw_strT) eX10_needWhat_9 eX10_needWhat_12 eX10_needWhat_13 eX10_needWhat_15 eX10_needWhat_18 (by decide) rfl rfl (by decide) (by decide) (by decide) (by show (gWhat w m) = _; rw [gWhat]; (repeat first | rw [if_pos (by omega)] | rw [if_neg (by omega)]); rfl)
set_option maxRecDepth 4000 in
theorem s_X10_needStrangers (ad : Nat → Nat) (σ : Sg)  (come : Int) (greatest : Int) : gw_Sp yX10_needStrangers cX10_needStrangers 3 none 7 1 6 [vR (some 0), vI come, vI greatest] (gw_M0 ad) σ (gw_DG (gStr come greatest) none (gw_M0 ad) (σ)) (gw_isG (gStr come greatest)) := by
  refine gw_Sp.of [some (vR (some 0)), some (vI come), some (vI greatest)] (by decide +kernel) rfl (Nat.le_of_ble_eq_true rfl) ?_
  intro X G fx het hnm
  refine g_iload_n fx dX10_needStrangers_0 rfl ?_
  refine g_if_lt (tgt := 21) fx dX10_needStrangers_1 (by decide) (fun h1 => ?_) (fun h1 => ?_)
  · exact g_throwSW fx het th_RX10_142_146 (by decide +kernel : (RX10, 404, "no such strangers", 34) ∈ gw_strT) eX10_needStrangers_21 eX10_needStrangers_24 eX10_needStrangers_25 eX10_needStrangers_28 eX10_needStrangers_31 (by decide) rfl rfl (by decide) (by decide) (by decide) (by show (gStr come greatest) = _; rw [gStr]; (repeat first | rw [if_pos (by omega)] | rw [if_neg (by omega)]); rfl)
  · refine g_iload_n fx dX10_needStrangers_4 rfl ?_
    refine g_bipush fx dX10_needStrangers_5 (by decide) ?_
    refine g_icmp_gt (tgt := 21) fx dX10_needStrangers_7 (by decide) (fun h7 => ?_) (fun h7 => ?_)
    · exact g_throwSW fx het th_RX10_142_146 (by decide +kernel : (RX10, 404, "no such strangers", 34) ∈ gw_strT) eX10_needStrangers_21 eX10_needStrangers_24 eX10_needStrangers_25 eX10_needStrangers_28 eX10_needStrangers_31 (by decide) rfl rfl (by decide) (by decide) (by decide) (by show (gStr come greatest) = _; rw [gStr]; (repeat first | rw [if_pos (by omega)] | rw [if_neg (by omega)]); rfl)
    · refine g_iload_n fx dX10_needStrangers_10 rfl ?_
      refine g_iconst fx dX10_needStrangers_11 (by unfold okI; omega) ?_
      refine g_icmp_lt (tgt := 21) fx dX10_needStrangers_12 (by decide) (fun h12 => ?_) (fun h12 => ?_)
      · exact g_throwSW fx het th_RX10_142_146 (by decide +kernel : (RX10, 404, "no such strangers", 34) ∈ gw_strT) eX10_needStrangers_21 eX10_needStrangers_24 eX10_needStrangers_25 eX10_needStrangers_28 eX10_needStrangers_31 (by decide) rfl rfl (by decide) (by decide) (by decide) (by show (gStr come greatest) = _; rw [gStr]; (repeat first | rw [if_pos (by omega)] | rw [if_neg (by omega)]); rfl)
      · refine g_iload_n fx dX10_needStrangers_15 rfl ?_
        refine g_bipush fx dX10_needStrangers_16 (by decide) ?_
        refine g_icmp_le (tgt := 32) fx dX10_needStrangers_18 (by decide) (fun h18 => ?_) (fun h18 => ?_)
        · exact g_vret fx rfl dX10_needStrangers_32 (by decide) (by decide) (gw_le.rf _) ⟨by rw [gStr]; (repeat first | rw [if_pos (by omega)] | rw [if_neg (by omega)]), rfl, rfl, rfl⟩
        · exact g_throwSW fx het th_RX10_142_146 (by decide +kernel : (RX10, 404, "no such strangers", 34) ∈ gw_strT) eX10_needStrangers_21 eX10_needStrangers_24 eX10_needStrangers_25 eX10_needStrangers_28 eX10_needStrangers_31 (by decide) rfl rfl (by decide) (by decide) (by decide) (by show (gStr come greatest) = _; rw [gStr]; (repeat first | rw [if_pos (by omega)] | rw [if_neg (by omega)]); rfl)
set_option maxRecDepth 4000 in
theorem s_X10_needTray (ad : Nat → Nat) (σ : Sg)  (i : Int) : gw_Sp yX10_needTray cX10_needTray 3 (some (.object "LightestSack$Tray")) 7 1 6 [vR (some 0), vI i] (gw_M0 ad) σ (gw_DG (gTray i) (some (vR (some (trT i)))) (gw_M0 ad) (σ)) (gw_isG (gTray i)) := by
  refine gw_Sp.of [some (vR (some 0)), some (vI i), none] (by decide +kernel) rfl (Nat.le_of_ble_eq_true rfl) ?_
  intro X G fx het hnm
  refine g_iload_n fx dX10_needTray_0 rfl ?_
  refine g_if_lt (tgt := 22) fx dX10_needTray_1 (by decide) (fun h1 => ?_) (fun h1 => ?_)
  · refine g_null fx dX10_needTray_22 ?_
    refine g_astore_nN fx dX10_needTray_23 (by decide) rfl rfl ?_
    refine g_aload_nN fx dX10_needTray_24 rfl ?_
    refine g_ifnonnullN fx dX10_needTray_25 ?_
    exact g_throwNW fx het th_RX10_239_243 (by decide +kernel : (RX10, 442, "no such tray", 24) ∈ gw_strT) eX10_needTray_28 eX10_needTray_31 eX10_needTray_32 eX10_needTray_35 eX10_needTray_38 (by decide) rfl rfl (by decide) (by decide) (by decide) (by show gTray i = _; rw [gTray]; (repeat first | rw [if_pos (by omega)] | rw [if_neg (by omega)]); rfl)
  · refine g_iload_n fx dX10_needTray_4 rfl ?_
    refine g_aload_n fx dX10_needTray_5 rfl ?_
    refine g_getr fx dX10_needTray_6 fk_RX10_89 o_0 rf_0_12 ?_
    refine g_alen fx dX10_needTray_9 o_147 (by decide) (by decide) ?_
    refine g_icmp_ge (tgt := 22) fx dX10_needTray_10 (by decide) (fun h10 => ?_) (fun h10 => ?_)
    · refine g_null fx dX10_needTray_22 ?_
      refine g_astore_nN fx dX10_needTray_23 (by decide) rfl rfl ?_
      refine g_aload_nN fx dX10_needTray_24 rfl ?_
      refine g_ifnonnullN fx dX10_needTray_25 ?_
      exact g_throwNW fx het th_RX10_239_243 (by decide +kernel : (RX10, 442, "no such tray", 24) ∈ gw_strT) eX10_needTray_28 eX10_needTray_31 eX10_needTray_32 eX10_needTray_35 eX10_needTray_38 (by decide) rfl rfl (by decide) (by decide) (by decide) (by show gTray i = _; rw [gTray]; (repeat first | rw [if_pos (by omega)] | rw [if_neg (by omega)]); rfl)
    · refine g_aload_n fx dX10_needTray_13 rfl ?_
      refine g_getr fx dX10_needTray_14 fk_RX10_89 o_0 rf_0_12 ?_
      refine g_iload_n fx dX10_needTray_17 rfl ?_
      refine g_aald fx dX10_needTray_18 o_147 (by decide) (by omega) (by show i < ((4 : Nat) : Int); omega) ((trT_all i.toNat (by omega)).2) ?_
      refine g_goto (tgt := 23) fx dX10_needTray_19 (by decide) ?_
      refine g_astore_n fx dX10_needTray_23 (by decide) rfl rfl ?_
      refine g_aload_n fx dX10_needTray_24 rfl ?_
      refine g_ifnonnull (tgt := 39) fx dX10_needTray_25 (by decide) ?_
      refine g_aload_n fx dX10_needTray_39 rfl ?_
      exact g_aret fx rfl (Or.inl ⟨_, rfl⟩) dX10_needTray_40 (by decide) (by decide) (gw_le.rf _) ⟨by rw [gTray]; (repeat first | rw [if_pos (by omega)] | rw [if_neg (by omega)]), rfl, rfl, rfl⟩
set_option maxRecDepth 4000 in
theorem s_X10_needImage (ad : Nat → Nat) (σ : Sg)  (i : Int) : gw_Sp yX10_needImage cX10_needImage 3 (some (.object "LightestSack$Mill")) 7 1 6 [vR (some 0), vI i] (gw_M0 ad) σ (gw_DG (gImg i) (some (vR (some (imT i)))) (gw_M0 ad) (σ)) (gw_isG (gImg i)) := by
  refine gw_Sp.of [some (vR (some 0)), some (vI i), none] (by decide +kernel) rfl (Nat.le_of_ble_eq_true rfl) ?_
  intro X G fx het hnm
  refine g_iload_n fx dX10_needImage_0 rfl ?_
  refine g_if_lt (tgt := 22) fx dX10_needImage_1 (by decide) (fun h1 => ?_) (fun h1 => ?_)
  · refine g_null fx dX10_needImage_22 ?_
    refine g_astore_nN fx dX10_needImage_23 (by decide) rfl rfl ?_
    refine g_aload_nN fx dX10_needImage_24 rfl ?_
    refine g_ifnonnullN fx dX10_needImage_25 ?_
    exact g_throwNW fx het th_RX10_239_243 (by decide +kernel : (RX10, 446, "no such image", 38) ∈ gw_strT) eX10_needImage_28 eX10_needImage_31 eX10_needImage_32 eX10_needImage_35 eX10_needImage_38 (by decide) rfl rfl (by decide) (by decide) (by decide) (by show gImg i = _; rw [gImg]; (repeat first | rw [if_pos (by omega)] | rw [if_neg (by omega)]); rfl)
  · refine g_iload_n fx dX10_needImage_4 rfl ?_
    refine g_aload_n fx dX10_needImage_5 rfl ?_
    refine g_getr fx dX10_needImage_6 fk_RX10_93 o_0 rf_0_13 ?_
    refine g_alen fx dX10_needImage_9 o_148 (by decide) (by decide) ?_
    refine g_icmp_ge (tgt := 22) fx dX10_needImage_10 (by decide) (fun h10 => ?_) (fun h10 => ?_)
    · refine g_null fx dX10_needImage_22 ?_
      refine g_astore_nN fx dX10_needImage_23 (by decide) rfl rfl ?_
      refine g_aload_nN fx dX10_needImage_24 rfl ?_
      refine g_ifnonnullN fx dX10_needImage_25 ?_
      exact g_throwNW fx het th_RX10_239_243 (by decide +kernel : (RX10, 446, "no such image", 38) ∈ gw_strT) eX10_needImage_28 eX10_needImage_31 eX10_needImage_32 eX10_needImage_35 eX10_needImage_38 (by decide) rfl rfl (by decide) (by decide) (by decide) (by show gImg i = _; rw [gImg]; (repeat first | rw [if_pos (by omega)] | rw [if_neg (by omega)]); rfl)
    · refine g_aload_n fx dX10_needImage_13 rfl ?_
      refine g_getr fx dX10_needImage_14 fk_RX10_93 o_0 rf_0_13 ?_
      refine g_iload_n fx dX10_needImage_17 rfl ?_
      refine g_aald fx dX10_needImage_18 o_148 (by decide) (by omega) (by show i < ((3 : Nat) : Int); omega) ((imT_all i.toNat (by omega)).2) ?_
      refine g_goto (tgt := 23) fx dX10_needImage_19 (by decide) ?_
      refine g_astore_n fx dX10_needImage_23 (by decide) rfl rfl ?_
      refine g_aload_n fx dX10_needImage_24 rfl ?_
      refine g_ifnonnull (tgt := 39) fx dX10_needImage_25 (by decide) ?_
      refine g_aload_n fx dX10_needImage_39 rfl ?_
      exact g_aret fx rfl (Or.inl ⟨_, rfl⟩) dX10_needImage_40 (by decide) (by decide) (gw_le.rf _) ⟨by rw [gImg]; (repeat first | rw [if_pos (by omega)] | rw [if_neg (by omega)]), rfl, rfl, rfl⟩
set_option maxRecDepth 4000 in
theorem s_X10_needFullTray (ad : Nat → Nat) (σ : Sg)  (i : Int) : gw_Sp yX10_needFullTray cX10_needFullTray 3 (some (.object "LightestSack$Tray")) 8 2 12 [vR (some 0), vI i] (gw_M0 ad) σ (gw_DG (gFull σ i) (some (vR (some (trT i)))) (gw_M0 ad) (σ)) (gw_isG (gFull σ i)) := by
  refine gw_Sp.of [some (vR (some 0)), some (vI i), none] (by decide +kernel) rfl (Nat.le_of_ble_eq_true rfl) ?_
  intro X G fx het hnm
  refine g_aload_n fx dX10_needFullTray_0 rfl ?_
  refine g_iload_n fx dX10_needFullTray_1 rfl ?_
  refine g_callVG fx het dX10_needFullTray_2 mv_RX10_410 my_X10_needTray (s_X10_needTray ad _ _) o_0 rfl rfl rfl (Nat.le_of_ble_eq_true rfl) (by decide) (by decide) rfl rfl (fun E hE => (by show gFull σ i = _; rw [gFull]; (repeat first | rw [or_n hg2] | rw [if_pos (by omega)] | rw [if_neg (by omega)] | rw [Option.none_or]); first | rfl | assumption | (refine or_s ?_; assumption) | (unfold gWhat; (repeat first | rw [if_pos (by omega)] | rw [if_neg (by omega)]) <;> rfl))) (fun hg2 => ?_)
  refine g_astore_n fx dX10_needFullTray_5 (by decide) rfl rfl ?_
  refine g_aload_n fx dX10_needFullTray_6 rfl ?_
  refine g_geti fx dX10_needFullTray_7 fk_RX10_215 (by decide) (tray_O (trT_in hg2)) ?_
  refine g_iconst fx dX10_needFullTray_10 (by unfold okI; omega) ?_
  refine g_icmp_ne (tgt := 25) fx dX10_needFullTray_11 (by decide) (fun h11 => ?_) (fun h11 => ?_)
  · refine g_aload_n fx dX10_needFullTray_25 rfl ?_
    exact g_aret fx rfl (Or.inl ⟨_, rfl⟩) dX10_needFullTray_26 (by decide) (by decide) (gw_le.rf _) ⟨by rw [gFull, or_n hg2]; (repeat first | rw [if_pos (by omega)] | rw [if_neg (by omega)]), rfl, rfl, rfl⟩
  · exact g_throwSW fx het th_RX10_375_379 (by decide +kernel : (RX10, 444, "the tray is missing", 25) ∈ gw_strT) eX10_needFullTray_14 eX10_needFullTray_17 eX10_needFullTray_18 eX10_needFullTray_21 eX10_needFullTray_24 (by decide) rfl rfl (by decide) (by decide) (by decide) (by show gFull σ i = _; rw [gFull, or_n hg2]; (repeat first | rw [if_pos (by omega)] | rw [if_neg (by omega)]); rfl)
set_option maxRecDepth 4000 in
theorem s_X10_feed (ad : Nat → Nat) (σ : Sg)  (a : Int) (b : Int) (c : Int) (d : Int) (e : Int) : gw_Sp yX10_feed cX10_feed 6 (some .int) 2 0 0 [vR (some 0), vI a, vI b, vI c, vI d, vI e] (gw_M0 ad) σ (gw_D (some (vI (zFeed σ a b c d e).1)) (gw_M0 ad) ((zFeed σ a b c d e).2)) gw_no := by
  refine gw_Sp.of [some (vR (some 0)), some (vI a), some (vI b), some (vI c), some (vI d), some (vI e)] (by decide +kernel) rfl (Nat.le_of_ble_eq_true rfl) ?_
  intro X G fx het hnm
  refine g_aload_n fx dX10_feed_0 rfl ?_
  refine g_getr fx dX10_feed_1 fk_RX10_10 o_0 rf_0_0 ?_
  refine g_geti fx dX10_feed_4 fk_RX10_101 (by decide) o_1 ?_
  refine g_sipush fx dX10_feed_7 (by decide) ?_
  refine g_icmp_le (tgt := 15) fx dX10_feed_10 (by decide) (fun h10 => ?_) (fun h10 => ?_)
  · refine g_aload_n fx dX10_feed_15 rfl ?_
    refine g_getr fx dX10_feed_16 fk_RX10_10 o_0 rf_0_0 ?_
    refine g_iload_n fx dX10_feed_19 rfl ?_
    refine g_callVD0 fx dX10_feed_20 mv_RX10_105 my_X7_take (s_X7_take ad _ _) o_1 rfl rfl rfl (Nat.le_of_ble_eq_true rfl) (by decide) (by decide) ?_
    refine g_aload_n fx dX10_feed_23 rfl ?_
    refine g_getr fx dX10_feed_24 fk_RX10_10 o_0 rf_0_0 ?_
    refine g_iload_n fx dX10_feed_27 rfl ?_
    refine g_callVD0 fx dX10_feed_28 mv_RX10_105 my_X7_take (s_X7_take ad _ _) o_1 rfl rfl rfl (Nat.le_of_ble_eq_true rfl) (by decide) (by decide) ?_
    refine g_aload_n fx dX10_feed_31 rfl ?_
    refine g_getr fx dX10_feed_32 fk_RX10_10 o_0 rf_0_0 ?_
    refine g_iload_n fx dX10_feed_35 rfl ?_
    refine g_callVD0 fx dX10_feed_36 mv_RX10_105 my_X7_take (s_X7_take ad _ _) o_1 rfl rfl rfl (Nat.le_of_ble_eq_true rfl) (by decide) (by decide) ?_
    refine g_aload_n fx dX10_feed_39 rfl ?_
    refine g_getr fx dX10_feed_40 fk_RX10_10 o_0 rf_0_0 ?_
    refine g_iload fx dX10_feed_43 rfl ?_
    refine g_callVD0 fx dX10_feed_45 mv_RX10_105 my_X7_take (s_X7_take ad _ _) o_1 rfl rfl rfl (Nat.le_of_ble_eq_true rfl) (by decide) (by decide) ?_
    refine g_aload_n fx dX10_feed_48 rfl ?_
    refine g_getr fx dX10_feed_49 fk_RX10_10 o_0 rf_0_0 ?_
    refine g_iload fx dX10_feed_52 rfl ?_
    refine g_callVD0 fx dX10_feed_54 mv_RX10_105 my_X7_take (s_X7_take ad _ _) o_1 rfl rfl rfl (Nat.le_of_ble_eq_true rfl) (by decide) (by decide) ?_
    refine g_aload_n fx dX10_feed_57 rfl ?_
    refine g_getr fx dX10_feed_58 fk_RX10_10 o_0 rf_0_0 ?_
    refine g_geti fx dX10_feed_61 fk_RX10_101 (by decide) o_1 ?_
    exact g_iret fx rfl dX10_feed_64 (by decide) (by decide) (gw_le.rf _) ⟨by rw [zFeed]; (repeat first | rw [if_pos (by omega)] | rw [if_neg (by omega)]) <;> rfl, rfl, by rw [zFeed]; (repeat first | rw [if_pos (by omega)] | rw [if_neg (by omega)]) <;> rfl⟩
  · refine g_iconst fx dX10_feed_13 (by unfold okI; omega) ?_
    exact g_iret fx rfl dX10_feed_14 (by decide) (by decide) (gw_le.rf _) ⟨by rw [zFeed]; (repeat first | rw [if_pos (by omega)] | rw [if_neg (by omega)]) <;> rfl, rfl, by rw [zFeed]; (repeat first | rw [if_pos (by omega)] | rw [if_neg (by omega)]) <;> rfl⟩
set_option maxRecDepth 4000 in
theorem s_X10_takeDraft (ad : Nat → Nat) (σ : Sg)  : gw_Sp yX10_takeDraft cX10_takeDraft 1 (some .boolean) 4 0 0 [vR (some 0)] (gw_M0 ad) σ (gw_D (some (vI (zTd σ).1)) (gw_M0 ad) ((zTd σ).2)) gw_no := by
  refine gw_Sp.of [some (vR (some 0))] (by decide +kernel) rfl (Nat.le_of_ble_eq_true rfl) ?_
  intro X G fx het hnm
  refine g_aload_n fx dX10_takeDraft_0 rfl ?_
  refine g_getr fx dX10_takeDraft_1 fk_RX10_10 o_0 rf_0_0 ?_
  refine g_iconst fx dX10_takeDraft_4 (by unfold okI; omega) ?_
  refine g_puti fx dX10_takeDraft_5 fk_RX10_101 o_1 ?_
  refine g_aload_n fx dX10_takeDraft_8 rfl ?_
  refine g_getr fx dX10_takeDraft_9 fk_RX10_21 o_0 rf_0_1 ?_
  refine g_geti fx dX10_takeDraft_12 fk_RX10_124 (by decide) o_3 ?_
  refine g_if_eq (tgt := 20) fx dX10_takeDraft_15 (by decide) (fun h15 => ?_) (fun h15 => ?_)
  · refine g_aload_n fx dX10_takeDraft_20 rfl ?_
    refine g_getr fx dX10_takeDraft_21 fk_RX10_28 o_0 rf_0_2 ?_
    refine g_aload_n fx dX10_takeDraft_24 rfl ?_
    refine g_getr fx dX10_takeDraft_25 fk_RX10_41 o_0 rf_0_4 ?_
    refine g_callVD0 fx dX10_takeDraft_28 mv_RX10_111 my_X1_copyOf (s_X1_copyOf ad _ in_4 in_51 (by decide)) (mill_O in_4) rfl rfl rfl (Nat.le_of_ble_eq_true rfl) (by decide) (by decide) ?_
    refine g_iconst fx dX10_takeDraft_31 (by unfold okI; omega) ?_
    exact g_zret fx rfl dX10_takeDraft_32 (by first | exact Or.inl rfl | exact Or.inr rfl | omega) (by decide) (by decide) (gw_le.rf _) ⟨by rw [zTd]; (repeat first | rw [if_pos (by omega)] | rw [if_neg (by omega)]) <;> rfl, rfl, by rw [zTd]; (repeat first | rw [if_pos (by omega)] | rw [if_neg (by omega)]) <;> rfl⟩
  · refine g_iconst fx dX10_takeDraft_18 (by unfold okI; omega) ?_
    exact g_zret fx rfl dX10_takeDraft_19 (by first | exact Or.inl rfl | exact Or.inr rfl | omega) (by decide) (by decide) (gw_le.rf _) ⟨by rw [zTd]; (repeat first | rw [if_pos (by omega)] | rw [if_neg (by omega)]) <;> rfl, rfl, by rw [zTd]; (repeat first | rw [if_pos (by omega)] | rw [if_neg (by omega)]) <;> rfl⟩
set_option maxRecDepth 4000 in
theorem s_X10_mill (ad : Nat → Nat) (σ : Sg)  (n : Int) : gw_Sp yX10_mill cX10_mill 2 (some .int) 10 1 6 [vR (some 0), vI n] (gw_M0 ad) σ (gw_DG (gBytes σ n) (some (vI (zMill σ n).1)) (gw_M0 ad) ((zMill σ n).2)) (gw_isG (gBytes σ n)) := by
  refine gw_Sp.of [some (vR (some 0)), some (vI n)] (by decide +kernel) rfl (Nat.le_of_ble_eq_true rfl) ?_
  intro X G fx het hnm
  refine g_aload_n fx dX10_mill_0 rfl ?_
  refine g_iload_n fx dX10_mill_1 rfl ?_
  refine g_callVG0 fx het dX10_mill_2 mv_RX10_108 my_X10_needBytes (s_X10_needBytes ad _ _) o_0 rfl rfl rfl (Nat.le_of_ble_eq_true rfl) (by decide) (by decide) rfl rfl (fun E hE => (by (repeat first | rw [or_n hg2] | rw [if_pos (by omega)] | rw [if_neg (by omega)] | rw [Option.none_or]); first | rfl | assumption | (refine or_s ?_; assumption) | (unfold gWhat; (repeat first | rw [if_pos (by omega)] | rw [if_neg (by omega)]) <;> rfl))) (fun hg2 => ?_)
  refine g_aload_n fx dX10_mill_5 rfl ?_
  refine g_getr fx dX10_mill_6 fk_RX10_41 o_0 rf_0_4 ?_
  refine g_aload_n fx dX10_mill_9 rfl ?_
  refine g_getr fx dX10_mill_10 fk_RX10_28 o_0 rf_0_2 ?_
  refine g_callVD0 fx dX10_mill_13 mv_RX10_111 my_X1_copyOf (s_X1_copyOf ad _ in_51 in_4 (by decide)) (mill_O in_51) rfl rfl rfl (Nat.le_of_ble_eq_true rfl) (by decide) (by decide) ?_
  refine g_aload_n fx dX10_mill_16 rfl ?_
  refine g_getr fx dX10_mill_17 fk_RX10_49 o_0 rf_0_5 ?_
  refine g_iload_n fx dX10_mill_20 rfl ?_
  refine g_callVD0 fx dX10_mill_21 mv_RX10_114 my_X8_readMill (s_X8_readMill ad _ _) o_73 rfl rfl rfl (Nat.le_of_ble_eq_true rfl) (by decide) (by decide) ?_
  refine g_aload_n fx dX10_mill_24 rfl ?_
  refine g_callVD fx dX10_mill_25 mv_RX10_117 my_X10_takeDraft (s_X10_takeDraft ad _ ) o_0 rfl rfl rfl (Nat.le_of_ble_eq_true rfl) (by decide) (by decide) ?_
  refine g_if_eq (tgt := 41) fx dX10_mill_28 (by decide) (fun h28 => ?_) (fun h28 => ?_)
  · refine g_bipush fx dX10_mill_41 (by decide) ?_
    refine g_aload_n fx dX10_mill_43 rfl ?_
    refine g_getr fx dX10_mill_44 fk_RX10_21 o_0 rf_0_1 ?_
    refine g_geti fx dX10_mill_47 fk_RX10_124 (by decide) o_3 ?_
    refine g_isub fx dX10_mill_50 ?_
    exact g_iret fx rfl dX10_mill_51 (by decide) (by decide) (gw_le.rf _) ⟨(by (repeat first | rw [or_n hg2] | rw [if_pos (by omega)] | rw [if_neg (by omega)] | rw [Option.none_or]); first | rfl | assumption | (refine or_s ?_; assumption) | (unfold gWhat; (repeat first | rw [if_pos (by omega)] | rw [if_neg (by omega)]) <;> rfl)), by rw [zMill]; (repeat first | rw [if_pos (by omega)] | rw [if_neg (by omega)]) <;> rfl, rfl, rfl⟩
  · refine g_aload_n fx dX10_mill_31 rfl ?_
    refine g_getr fx dX10_mill_32 fk_RX10_28 o_0 rf_0_2 ?_
    refine g_geti fx dX10_mill_35 fk_RX10_121 (by decide) (mill_O in_4) ?_
    refine g_goto (tgt := 51) fx dX10_mill_38 (by decide) ?_
    exact g_iret fx rfl dX10_mill_51 (by decide) (by decide) (gw_le.rf _) ⟨(by (repeat first | rw [or_n hg2] | rw [if_pos (by omega)] | rw [if_neg (by omega)] | rw [Option.none_or]); first | rfl | assumption | (refine or_s ?_; assumption) | (unfold gWhat; (repeat first | rw [if_pos (by omega)] | rw [if_neg (by omega)]) <;> rfl)), by rw [zMill]; (repeat first | rw [if_pos (by omega)] | rw [if_neg (by omega)]) <;> rfl, rfl, rfl⟩
set_option maxRecDepth 4000 in
theorem s_X10_law (ad : Nat → Nat) (σ : Sg)  (n : Int) : gw_Sp yX10_law cX10_law 2 (some .int) 10 1 6 [vR (some 0), vI n] (gw_M0 ad) σ (gw_DG (gBytes σ n) (some (vI (zLaw σ n).1)) (gw_M0 ad) ((zLaw σ n).2)) (gw_isG (gBytes σ n)) := by
  refine gw_Sp.of [some (vR (some 0)), some (vI n)] (by decide +kernel) rfl (Nat.le_of_ble_eq_true rfl) ?_
  intro X G fx het hnm
  refine g_aload_n fx dX10_law_0 rfl ?_
  refine g_iload_n fx dX10_law_1 rfl ?_
  refine g_callVG0 fx het dX10_law_2 mv_RX10_108 my_X10_needBytes (s_X10_needBytes ad _ _) o_0 rfl rfl rfl (Nat.le_of_ble_eq_true rfl) (by decide) (by decide) rfl rfl (fun E hE => (by (repeat first | rw [or_n hg2] | rw [if_pos (by omega)] | rw [if_neg (by omega)] | rw [Option.none_or]); first | rfl | assumption | (refine or_s ?_; assumption) | (unfold gWhat; (repeat first | rw [if_pos (by omega)] | rw [if_neg (by omega)]) <;> rfl))) (fun hg2 => ?_)
  refine g_aload_n fx dX10_law_5 rfl ?_
  refine g_getr fx dX10_law_6 fk_RX10_41 o_0 rf_0_4 ?_
  refine g_aload_n fx dX10_law_9 rfl ?_
  refine g_getr fx dX10_law_10 fk_RX10_28 o_0 rf_0_2 ?_
  refine g_callVD0 fx dX10_law_13 mv_RX10_111 my_X1_copyOf (s_X1_copyOf ad _ in_51 in_4 (by decide)) (mill_O in_51) rfl rfl rfl (Nat.le_of_ble_eq_true rfl) (by decide) (by decide) ?_
  refine g_aload_n fx dX10_law_16 rfl ?_
  refine g_getr fx dX10_law_17 fk_RX10_49 o_0 rf_0_5 ?_
  refine g_iload_n fx dX10_law_20 rfl ?_
  refine g_callVD0 fx dX10_law_21 mv_RX10_127 my_X8_readLaw (s_X8_readLaw ad _ _) o_73 rfl rfl rfl (Nat.le_of_ble_eq_true rfl) (by decide) (by decide) ?_
  refine g_aload_n fx dX10_law_24 rfl ?_
  refine g_callVD fx dX10_law_25 mv_RX10_117 my_X10_takeDraft (s_X10_takeDraft ad _ ) o_0 rfl rfl rfl (Nat.le_of_ble_eq_true rfl) (by decide) (by decide) ?_
  refine g_if_eq (tgt := 44) fx dX10_law_28 (by decide) (fun h28 => ?_) (fun h28 => ?_)
  · refine g_bipush fx dX10_law_44 (by decide) ?_
    refine g_aload_n fx dX10_law_46 rfl ?_
    refine g_getr fx dX10_law_47 fk_RX10_21 o_0 rf_0_1 ?_
    refine g_geti fx dX10_law_50 fk_RX10_124 (by decide) o_3 ?_
    refine g_isub fx dX10_law_53 ?_
    exact g_iret fx rfl dX10_law_54 (by decide) (by decide) (gw_le.rf _) ⟨(by (repeat first | rw [or_n hg2] | rw [if_pos (by omega)] | rw [if_neg (by omega)] | rw [Option.none_or]); first | rfl | assumption | (refine or_s ?_; assumption) | (unfold gWhat; (repeat first | rw [if_pos (by omega)] | rw [if_neg (by omega)]) <;> rfl)), by rw [zLaw]; (repeat first | rw [if_pos (by omega)] | rw [if_neg (by omega)]) <;> rfl, rfl, rfl⟩
  · refine g_aload_n fx dX10_law_31 rfl ?_
    refine g_getr fx dX10_law_32 fk_RX10_28 o_0 rf_0_2 ?_
    refine g_getr fx dX10_law_35 fk_RX10_130 (mill_O in_4) rf_4_0 ?_
    refine g_geti fx dX10_law_38 fk_RX10_134 (by decide) (law_O in_5) ?_
    refine g_goto (tgt := 54) fx dX10_law_41 (by decide) ?_
    exact g_iret fx rfl dX10_law_54 (by decide) (by decide) (gw_le.rf _) ⟨(by (repeat first | rw [or_n hg2] | rw [if_pos (by omega)] | rw [if_neg (by omega)] | rw [Option.none_or]); first | rfl | assumption | (refine or_s ?_; assumption) | (unfold gWhat; (repeat first | rw [if_pos (by omega)] | rw [if_neg (by omega)]) <;> rfl)), by rw [zLaw]; (repeat first | rw [if_pos (by omega)] | rw [if_neg (by omega)]) <;> rfl, rfl, rfl⟩
set_option maxRecDepth 4000 in
theorem s_X10_fault (ad : Nat → Nat) (σ : Sg)  (w : Int) : gw_Sp yX10_fault cX10_fault 2 (some .int) 1 0 0 [vR (some 0), vI w] (gw_M0 ad) σ (gw_D (some (vI (zFault σ w))) (gw_M0 ad) (σ)) gw_no := by
  refine gw_Sp.of [some (vR (some 0)), some (vI w)] (by decide +kernel) rfl (Nat.le_of_ble_eq_true rfl) ?_
  intro X G fx het hnm
  refine g_iload_n fx dX10_fault_0 rfl ?_
  refine g_if_ne (tgt := 12) fx dX10_fault_1 (by decide) (fun h1 => ?_) (fun h1 => ?_)
  · refine g_iload_n fx dX10_fault_12 rfl ?_
    refine g_iconst fx dX10_fault_13 (by unfold okI; omega) ?_
    refine g_icmp_ne (tgt := 27) fx dX10_fault_14 (by decide) (fun h14 => ?_) (fun h14 => ?_)
    · refine g_iconst fx dX10_fault_27 (by unfold okI; omega) ?_
      exact g_iret fx rfl dX10_fault_28 (by decide) (by decide) (gw_le.rf _) ⟨by rw [zFault]; (repeat first | rw [if_pos (by omega)] | rw [if_neg (by omega)]) <;> rfl, rfl, rfl⟩
    · refine g_aload_n fx dX10_fault_17 rfl ?_
      refine g_getr fx dX10_fault_18 fk_RX10_21 o_0 rf_0_1 ?_
      refine g_geti fx dX10_fault_21 fk_RX10_139 (by decide) o_3 ?_
      refine g_goto (tgt := 28) fx dX10_fault_24 (by decide) ?_
      exact g_iret fx rfl dX10_fault_28 (by decide) (by decide) (gw_le.rf _) ⟨by rw [zFault]; (repeat first | rw [if_pos (by omega)] | rw [if_neg (by omega)]) <;> rfl, rfl, rfl⟩
  · refine g_aload_n fx dX10_fault_4 rfl ?_
    refine g_getr fx dX10_fault_5 fk_RX10_21 o_0 rf_0_1 ?_
    refine g_geti fx dX10_fault_8 fk_RX10_124 (by decide) o_3 ?_
    exact g_iret fx rfl dX10_fault_11 (by decide) (by decide) (gw_le.rf _) ⟨by rw [zFault]; (repeat first | rw [if_pos (by omega)] | rw [if_neg (by omega)]) <;> rfl, rfl, rfl⟩
set_option maxRecDepth 4000 in
theorem s_X10_sack (ad : Nat → Nat) (σ : Sg)  (s : Int) (w : Int) : gw_Sp yX10_sack cX10_sack 3 (some .int) 8 2 12 [vR (some 0), vI s, vI w] (gw_M0 ad) σ (gw_DG ((gSack σ s).or (gWhat w 7)) (some (vI (zSack σ s w))) (gw_M0 ad) (σ)) (gw_isG ((gSack σ s).or (gWhat w 7))) := by
  refine gw_Sp.of [some (vR (some 0)), some (vI s), some (vI w)] (by decide +kernel) rfl (Nat.le_of_ble_eq_true rfl) ?_
  intro X G fx het hnm
  refine g_aload_n fx dX10_sack_0 rfl ?_
  refine g_iload_n fx dX10_sack_1 rfl ?_
  refine g_callVG0 fx het dX10_sack_2 mv_RX10_149 my_X10_needSack (s_X10_needSack ad _ _) o_0 rfl rfl rfl (Nat.le_of_ble_eq_true rfl) (by decide) (by decide) rfl rfl (fun E hE => (by (repeat first | rw [or_n hg2] | rw [if_pos (by omega)] | rw [if_neg (by omega)] | rw [Option.none_or]); first | rfl | assumption | (refine or_s ?_; assumption) | (unfold gWhat; (repeat first | rw [if_pos (by omega)] | rw [if_neg (by omega)]) <;> rfl))) (fun hg2 => ?_)
  refine g_iload_n fx dX10_sack_5 rfl ?_
  by_cases h6_0 : w = 0
  · refine g_tsw 0 (tgt := 52) fx dX10_sack_6 (by omega) (by decide) rfl (by decide) ?_
    refine g_aload_n fx dX10_sack_52 rfl ?_
    refine g_getr fx dX10_sack_53 fk_RX10_28 o_0 rf_0_2 ?_
    refine g_getr fx dX10_sack_56 fk_RX10_152 (mill_O in_4) rf_4_8 ?_
    refine g_iload_n fx dX10_sack_59 rfl ?_
    refine g_callVD fx dX10_sack_60 mv_RX10_155 my_X4_at (s_X4_atC ad _ in_10 (show 10 + 1 = 11 from rfl) _) (row_O in_10) rfl rfl rfl (Nat.le_of_ble_eq_true rfl) (by decide) (by decide) ?_
    exact g_iret fx rfl dX10_sack_63 (by decide) (by decide) (gw_le.rf _) ⟨(by (repeat first | rw [or_n hg2] | rw [if_pos (by omega)] | rw [if_neg (by omega)] | rw [Option.none_or]); first | rfl | assumption | (refine or_s ?_; assumption) | (unfold gWhat; (repeat first | rw [if_pos (by omega)] | rw [if_neg (by omega)]) <;> rfl)), by rw [zSack]; (repeat first | rw [if_pos (by omega)] | rw [if_neg (by omega)]) <;> rfl, rfl, rfl⟩
  by_cases h6_1 : w = 1
  · refine g_tsw 1 (tgt := 64) fx dX10_sack_6 (by omega) (by decide) rfl (by decide) ?_
    refine g_aload_n fx dX10_sack_64 rfl ?_
    refine g_getr fx dX10_sack_65 fk_RX10_28 o_0 rf_0_2 ?_
    refine g_getr fx dX10_sack_68 fk_RX10_159 (mill_O in_4) rf_4_9 ?_
    refine g_iload_n fx dX10_sack_71 rfl ?_
    refine g_callVD fx dX10_sack_72 mv_RX10_155 my_X4_at (s_X4_atC ad _ in_12 (show 12 + 1 = 13 from rfl) _) (row_O in_12) rfl rfl rfl (Nat.le_of_ble_eq_true rfl) (by decide) (by decide) ?_
    exact g_iret fx rfl dX10_sack_75 (by decide) (by decide) (gw_le.rf _) ⟨(by (repeat first | rw [or_n hg2] | rw [if_pos (by omega)] | rw [if_neg (by omega)] | rw [Option.none_or]); first | rfl | assumption | (refine or_s ?_; assumption) | (unfold gWhat; (repeat first | rw [if_pos (by omega)] | rw [if_neg (by omega)]) <;> rfl)), by rw [zSack]; (repeat first | rw [if_pos (by omega)] | rw [if_neg (by omega)]) <;> rfl, rfl, rfl⟩
  by_cases h6_2 : w = 2
  · refine g_tsw 2 (tgt := 76) fx dX10_sack_6 (by omega) (by decide) rfl (by decide) ?_
    refine g_aload_n fx dX10_sack_76 rfl ?_
    refine g_getr fx dX10_sack_77 fk_RX10_28 o_0 rf_0_2 ?_
    refine g_getr fx dX10_sack_80 fk_RX10_162 (mill_O in_4) rf_4_10 ?_
    refine g_iload_n fx dX10_sack_83 rfl ?_
    refine g_callVD fx dX10_sack_84 mv_RX10_155 my_X4_at (s_X4_atC ad _ in_14 (show 14 + 1 = 15 from rfl) _) (row_O in_14) rfl rfl rfl (Nat.le_of_ble_eq_true rfl) (by decide) (by decide) ?_
    exact g_iret fx rfl dX10_sack_87 (by decide) (by decide) (gw_le.rf _) ⟨(by (repeat first | rw [or_n hg2] | rw [if_pos (by omega)] | rw [if_neg (by omega)] | rw [Option.none_or]); first | rfl | assumption | (refine or_s ?_; assumption) | (unfold gWhat; (repeat first | rw [if_pos (by omega)] | rw [if_neg (by omega)]) <;> rfl)), by rw [zSack]; (repeat first | rw [if_pos (by omega)] | rw [if_neg (by omega)]) <;> rfl, rfl, rfl⟩
  by_cases h6_3 : w = 3
  · refine g_tsw 3 (tgt := 88) fx dX10_sack_6 (by omega) (by decide) rfl (by decide) ?_
    refine g_aload_n fx dX10_sack_88 rfl ?_
    refine g_getr fx dX10_sack_89 fk_RX10_28 o_0 rf_0_2 ?_
    refine g_getr fx dX10_sack_92 fk_RX10_165 (mill_O in_4) rf_4_11 ?_
    refine g_iload_n fx dX10_sack_95 rfl ?_
    refine g_callVD fx dX10_sack_96 mv_RX10_155 my_X4_at (s_X4_atC ad _ in_16 (show 16 + 1 = 17 from rfl) _) (row_O in_16) rfl rfl rfl (Nat.le_of_ble_eq_true rfl) (by decide) (by decide) ?_
    exact g_iret fx rfl dX10_sack_99 (by decide) (by decide) (gw_le.rf _) ⟨(by (repeat first | rw [or_n hg2] | rw [if_pos (by omega)] | rw [if_neg (by omega)] | rw [Option.none_or]); first | rfl | assumption | (refine or_s ?_; assumption) | (unfold gWhat; (repeat first | rw [if_pos (by omega)] | rw [if_neg (by omega)]) <;> rfl)), by rw [zSack]; (repeat first | rw [if_pos (by omega)] | rw [if_neg (by omega)]) <;> rfl, rfl, rfl⟩
  by_cases h6_4 : w = 4
  · refine g_tsw 4 (tgt := 100) fx dX10_sack_6 (by omega) (by decide) rfl (by decide) ?_
    refine g_aload_n fx dX10_sack_100 rfl ?_
    refine g_getr fx dX10_sack_101 fk_RX10_28 o_0 rf_0_2 ?_
    refine g_getr fx dX10_sack_104 fk_RX10_168 (mill_O in_4) rf_4_12 ?_
    refine g_iload_n fx dX10_sack_107 rfl ?_
    refine g_callVD fx dX10_sack_108 mv_RX10_155 my_X4_at (s_X4_atC ad _ in_18 (show 18 + 1 = 19 from rfl) _) (row_O in_18) rfl rfl rfl (Nat.le_of_ble_eq_true rfl) (by decide) (by decide) ?_
    exact g_iret fx rfl dX10_sack_111 (by decide) (by decide) (gw_le.rf _) ⟨(by (repeat first | rw [or_n hg2] | rw [if_pos (by omega)] | rw [if_neg (by omega)] | rw [Option.none_or]); first | rfl | assumption | (refine or_s ?_; assumption) | (unfold gWhat; (repeat first | rw [if_pos (by omega)] | rw [if_neg (by omega)]) <;> rfl)), by rw [zSack]; (repeat first | rw [if_pos (by omega)] | rw [if_neg (by omega)]) <;> rfl, rfl, rfl⟩
  by_cases h6_5 : w = 5
  · refine g_tsw 5 (tgt := 112) fx dX10_sack_6 (by omega) (by decide) rfl (by decide) ?_
    refine g_aload_n fx dX10_sack_112 rfl ?_
    refine g_getr fx dX10_sack_113 fk_RX10_28 o_0 rf_0_2 ?_
    refine g_getr fx dX10_sack_116 fk_RX10_171 (mill_O in_4) rf_4_13 ?_
    refine g_iload_n fx dX10_sack_119 rfl ?_
    refine g_callVD fx dX10_sack_120 mv_RX10_155 my_X4_at (s_X4_atC ad _ in_20 (show 20 + 1 = 21 from rfl) _) (row_O in_20) rfl rfl rfl (Nat.le_of_ble_eq_true rfl) (by decide) (by decide) ?_
    exact g_iret fx rfl dX10_sack_123 (by decide) (by decide) (gw_le.rf _) ⟨(by (repeat first | rw [or_n hg2] | rw [if_pos (by omega)] | rw [if_neg (by omega)] | rw [Option.none_or]); first | rfl | assumption | (refine or_s ?_; assumption) | (unfold gWhat; (repeat first | rw [if_pos (by omega)] | rw [if_neg (by omega)]) <;> rfl)), by rw [zSack]; (repeat first | rw [if_pos (by omega)] | rw [if_neg (by omega)]) <;> rfl, rfl, rfl⟩
  by_cases h6_6 : w = 6
  · refine g_tsw 6 (tgt := 124) fx dX10_sack_6 (by omega) (by decide) rfl (by decide) ?_
    refine g_aload_n fx dX10_sack_124 rfl ?_
    refine g_getr fx dX10_sack_125 fk_RX10_28 o_0 rf_0_2 ?_
    refine g_getr fx dX10_sack_128 fk_RX10_174 (mill_O in_4) rf_4_14 ?_
    refine g_iload_n fx dX10_sack_131 rfl ?_
    refine g_callVD fx dX10_sack_132 mv_RX10_155 my_X4_at (s_X4_atC ad _ in_22 (show 22 + 1 = 23 from rfl) _) (row_O in_22) rfl rfl rfl (Nat.le_of_ble_eq_true rfl) (by decide) (by decide) ?_
    exact g_iret fx rfl dX10_sack_135 (by decide) (by decide) (gw_le.rf _) ⟨(by (repeat first | rw [or_n hg2] | rw [if_pos (by omega)] | rw [if_neg (by omega)] | rw [Option.none_or]); first | rfl | assumption | (refine or_s ?_; assumption) | (unfold gWhat; (repeat first | rw [if_pos (by omega)] | rw [if_neg (by omega)]) <;> rfl)), by rw [zSack]; (repeat first | rw [if_pos (by omega)] | rw [if_neg (by omega)]) <;> rfl, rfl, rfl⟩
  by_cases h6_7 : w = 7
  · refine g_tsw 7 (tgt := 136) fx dX10_sack_6 (by omega) (by decide) rfl (by decide) ?_
    refine g_aload_n fx dX10_sack_136 rfl ?_
    refine g_getr fx dX10_sack_137 fk_RX10_28 o_0 rf_0_2 ?_
    refine g_iload_n fx dX10_sack_140 rfl ?_
    refine g_callVD fx dX10_sack_141 mv_RX10_177 my_X1_firstPiece (s_X1_firstPiece ad _ in_4 _) (mill_O in_4) rfl rfl rfl (Nat.le_of_ble_eq_true rfl) (by decide) (by decide) ?_
    exact g_iret fx rfl dX10_sack_144 (by decide) (by decide) (gw_le.rf _) ⟨(by (repeat first | rw [or_n hg2] | rw [if_pos (by omega)] | rw [if_neg (by omega)] | rw [Option.none_or]); first | rfl | assumption | (refine or_s ?_; assumption) | (unfold gWhat; (repeat first | rw [if_pos (by omega)] | rw [if_neg (by omega)]) <;> rfl)), by rw [zSack]; (repeat first | rw [if_pos (by omega)] | rw [if_neg (by omega)]) <;> rfl, rfl, rfl⟩
  refine g_tswO (tgt := 145) fx dX10_sack_6 (by omega) (by decide) ?_
  exact g_throwS fx het th_RX10_142_146 (by decide +kernel : (RX10, 180, "no such what", 22) ∈ gw_strT) eX10_sack_145 eX10_sack_148 eX10_sack_149 eX10_sack_151 eX10_sack_154 (by decide) rfl rfl (by decide) (by decide) (by decide) (by (repeat first | rw [or_n hg2] | rw [if_pos (by omega)] | rw [if_neg (by omega)] | rw [Option.none_or]); first | rfl | assumption | (refine or_s ?_; assumption) | (unfold gWhat; (repeat first | rw [if_pos (by omega)] | rw [if_neg (by omega)]) <;> rfl))
set_option maxRecDepth 4000 in
theorem s_X10_piece (ad : Nat → Nat) (σ : Sg)  (p : Int) (w : Int) : gw_Sp yX10_piece cX10_piece 3 (some .int) 8 2 12 [vR (some 0), vI p, vI w] (gw_M0 ad) σ (gw_DG ((gPiece σ p).or (gWhat w 4)) (some (vI (zPiece (go σ 26 4) p w))) (gw_M0 ad) (go σ 26 4)) (gw_isG ((gPiece σ p).or (gWhat w 4))) := by
  refine gw_Sp.of [some (vR (some 0)), some (vI p), some (vI w)] (by decide +kernel) rfl (Nat.le_of_ble_eq_true rfl) ?_
  intro X G fx het hnm
  refine g_aload_n fx dX10_piece_0 rfl ?_
  refine g_iload_n fx dX10_piece_1 rfl ?_
  refine g_callVG0 fx het dX10_piece_2 mv_RX10_182 my_X10_needPiece (s_X10_needPiece ad _ _) o_0 rfl rfl rfl (Nat.le_of_ble_eq_true rfl) (by decide) (by decide) rfl rfl (fun E hE => (by (repeat first | rw [or_n hg2] | rw [if_pos (by omega)] | rw [if_neg (by omega)] | rw [Option.none_or]); first | rfl | assumption | (refine or_s ?_; assumption) | (unfold gWhat; (repeat first | rw [if_pos (by omega)] | rw [if_neg (by omega)]) <;> rfl))) (fun hg2 => ?_)
  refine g_aload_n fx dX10_piece_5 rfl ?_
  refine g_iload_n fx dX10_piece_6 rfl ?_
  refine g_iconst fx dX10_piece_7 (by unfold okI; omega) ?_
  refine g_callVG0 fx het dX10_piece_8 mv_RX10_185 my_X10_needWhat (s_X10_needWhat ad _ _ _) o_0 rfl rfl rfl (Nat.le_of_ble_eq_true rfl) (by decide) (by decide) rfl rfl (fun E hE => (by (repeat first | rw [or_n hg2] | rw [or_n hg8] | rw [if_pos (by omega)] | rw [if_neg (by omega)] | rw [Option.none_or]); first | rfl | assumption | (refine or_s ?_; assumption) | (unfold gWhat; (repeat first | rw [if_pos (by omega)] | rw [if_neg (by omega)]) <;> rfl))) (fun hg8 => ?_)
  refine g_aload_n fx dX10_piece_11 rfl ?_
  refine g_getr fx dX10_piece_12 fk_RX10_37 o_0 rf_0_3 ?_
  refine g_callVD0 fx dX10_piece_15 mv_RX10_189 my_X5_go (s_X5_go ad _ in_26) (run_O in_26) rfl rfl rfl (Nat.le_of_ble_eq_true rfl) (by decide) (by decide) ?_
  refine g_iload_n fx dX10_piece_18 rfl ?_
  by_cases h19_0 : w = 0
  · refine g_tsw 0 (tgt := 48) fx dX10_piece_19 (by omega) (by decide) rfl (by decide) ?_
    refine g_aload_n fx dX10_piece_48 rfl ?_
    refine g_getr fx dX10_piece_49 fk_RX10_37 o_0 rf_0_3 ?_
    refine g_getr fx dX10_piece_52 fk_RX10_192 (run_O in_26) rf_26_3 ?_
    refine g_iload_n fx dX10_piece_55 rfl ?_
    refine g_callVD fx dX10_piece_56 mv_RX10_155 my_X4_at (s_X4_atC ad _ in_27 (show 27 + 1 = 28 from rfl) _) (row_O in_27) rfl rfl rfl (Nat.le_of_ble_eq_true rfl) (by decide) (by decide) ?_
    exact g_iret fx rfl dX10_piece_59 (by decide) (by decide) (gw_le.rf _) ⟨(by (repeat first | rw [or_n hg2] | rw [or_n hg8] | rw [if_pos (by omega)] | rw [if_neg (by omega)] | rw [Option.none_or]); first | rfl | assumption | (refine or_s ?_; assumption) | (unfold gWhat; (repeat first | rw [if_pos (by omega)] | rw [if_neg (by omega)]) <;> rfl)), by rw [zPiece]; (repeat first | rw [if_pos (by omega)] | rw [if_neg (by omega)]) <;> rfl, rfl, rfl⟩
  by_cases h19_1 : w = 1
  · refine g_tsw 1 (tgt := 60) fx dX10_piece_19 (by omega) (by decide) rfl (by decide) ?_
    refine g_aload_n fx dX10_piece_60 rfl ?_
    refine g_getr fx dX10_piece_61 fk_RX10_37 o_0 rf_0_3 ?_
    refine g_getr fx dX10_piece_64 fk_RX10_195 (run_O in_26) rf_26_4 ?_
    refine g_iload_n fx dX10_piece_67 rfl ?_
    refine g_callVD fx dX10_piece_68 mv_RX10_155 my_X4_at (s_X4_atC ad _ in_29 (show 29 + 1 = 30 from rfl) _) (row_O in_29) rfl rfl rfl (Nat.le_of_ble_eq_true rfl) (by decide) (by decide) ?_
    exact g_iret fx rfl dX10_piece_71 (by decide) (by decide) (gw_le.rf _) ⟨(by (repeat first | rw [or_n hg2] | rw [or_n hg8] | rw [if_pos (by omega)] | rw [if_neg (by omega)] | rw [Option.none_or]); first | rfl | assumption | (refine or_s ?_; assumption) | (unfold gWhat; (repeat first | rw [if_pos (by omega)] | rw [if_neg (by omega)]) <;> rfl)), by rw [zPiece]; (repeat first | rw [if_pos (by omega)] | rw [if_neg (by omega)]) <;> rfl, rfl, rfl⟩
  by_cases h19_2 : w = 2
  · refine g_tsw 2 (tgt := 72) fx dX10_piece_19 (by omega) (by decide) rfl (by decide) ?_
    refine g_aload_n fx dX10_piece_72 rfl ?_
    refine g_getr fx dX10_piece_73 fk_RX10_37 o_0 rf_0_3 ?_
    refine g_getr fx dX10_piece_76 fk_RX10_196 (run_O in_26) rf_26_6 ?_
    refine g_iload_n fx dX10_piece_79 rfl ?_
    refine g_callVD fx dX10_piece_80 mv_RX10_155 my_X4_at (s_X4_atC ad _ in_33 (show 33 + 1 = 34 from rfl) _) (row_O in_33) rfl rfl rfl (Nat.le_of_ble_eq_true rfl) (by decide) (by decide) ?_
    exact g_iret fx rfl dX10_piece_83 (by decide) (by decide) (gw_le.rf _) ⟨(by (repeat first | rw [or_n hg2] | rw [or_n hg8] | rw [if_pos (by omega)] | rw [if_neg (by omega)] | rw [Option.none_or]); first | rfl | assumption | (refine or_s ?_; assumption) | (unfold gWhat; (repeat first | rw [if_pos (by omega)] | rw [if_neg (by omega)]) <;> rfl)), by rw [zPiece]; (repeat first | rw [if_pos (by omega)] | rw [if_neg (by omega)]) <;> rfl, rfl, rfl⟩
  by_cases h19_3 : w = 3
  · refine g_tsw 3 (tgt := 84) fx dX10_piece_19 (by omega) (by decide) rfl (by decide) ?_
    refine g_aload_n fx dX10_piece_84 rfl ?_
    refine g_getr fx dX10_piece_85 fk_RX10_37 o_0 rf_0_3 ?_
    refine g_getr fx dX10_piece_88 fk_RX10_199 (run_O in_26) rf_26_7 ?_
    refine g_iload_n fx dX10_piece_91 rfl ?_
    refine g_callVD fx dX10_piece_92 mv_RX10_155 my_X4_at (s_X4_atC ad _ in_35 (show 35 + 1 = 36 from rfl) _) (row_O in_35) rfl rfl rfl (Nat.le_of_ble_eq_true rfl) (by decide) (by decide) ?_
    exact g_iret fx rfl dX10_piece_95 (by decide) (by decide) (gw_le.rf _) ⟨(by (repeat first | rw [or_n hg2] | rw [or_n hg8] | rw [if_pos (by omega)] | rw [if_neg (by omega)] | rw [Option.none_or]); first | rfl | assumption | (refine or_s ?_; assumption) | (unfold gWhat; (repeat first | rw [if_pos (by omega)] | rw [if_neg (by omega)]) <;> rfl)), by rw [zPiece]; (repeat first | rw [if_pos (by omega)] | rw [if_neg (by omega)]) <;> rfl, rfl, rfl⟩
  refine g_tswO (tgt := 96) fx dX10_piece_19 (by omega) (by decide) ?_
  refine g_aload_n fx dX10_piece_96 rfl ?_
  refine g_getr fx dX10_piece_97 fk_RX10_37 o_0 rf_0_3 ?_
  refine g_getr fx dX10_piece_100 fk_RX10_202 (run_O in_26) rf_26_8 ?_
  refine g_iload_n fx dX10_piece_103 rfl ?_
  refine g_callVD fx dX10_piece_104 mv_RX10_155 my_X4_at (s_X4_atC ad _ in_37 (show 37 + 1 = 38 from rfl) _) (row_O in_37) rfl rfl rfl (Nat.le_of_ble_eq_true rfl) (by decide) (by decide) ?_
  exact g_iret fx rfl dX10_piece_107 (by decide) (by decide) (gw_le.rf _) ⟨(by (repeat first | rw [or_n hg2] | rw [or_n hg8] | rw [if_pos (by omega)] | rw [if_neg (by omega)] | rw [Option.none_or]); first | rfl | assumption | (refine or_s ?_; assumption) | (unfold gWhat; (repeat first | rw [if_pos (by omega)] | rw [if_neg (by omega)]) <;> rfl)), by rw [zPiece]; (repeat first | rw [if_pos (by omega)] | rw [if_neg (by omega)]) <;> rfl, rfl, rfl⟩
set_option maxRecDepth 4000 in
theorem s_X10_whole (ad : Nat → Nat) (σ : Sg)  : gw_Sp yX10_whole cX10_whole 1 (some .int) 4 0 0 [vR (some 0)] (gw_M0 ad) σ (gw_D (some (vI (mMk σ 4).1)) (gw_M0 ad) ((mMk σ 4).2)) gw_no := by
  refine gw_Sp.of [some (vR (some 0))] (by decide +kernel) rfl (Nat.le_of_ble_eq_true rfl) ?_
  intro X G fx het hnm
  refine g_aload_n fx dX10_whole_0 rfl ?_
  refine g_getr fx dX10_whole_1 fk_RX10_28 o_0 rf_0_2 ?_
  refine g_callVD fx dX10_whole_4 mv_RX10_233 my_X1_makeWhole (s_X1_makeWhole ad _ in_4) (mill_O in_4) rfl rfl rfl (Nat.le_of_ble_eq_true rfl) (by decide) (by decide) ?_
  exact g_iret fx rfl dX10_whole_7 (by decide) (by decide) (gw_le.rf _) ⟨rfl, rfl, rfl⟩
set_option maxRecDepth 4000 in
theorem s_X10_order (ad : Nat → Nat) (σ : Sg)  (k : Int) : gw_Sp yX10_order cX10_order 2 (some .int) 6 0 0 [vR (some 0), vI k] (gw_M0 ad) σ (gw_D (some (vI (uPB (go σ 26 4) 26 k))) (gw_M0 ad) (go σ 26 4)) gw_no := by
  refine gw_Sp.of [some (vR (some 0)), some (vI k)] (by decide +kernel) rfl (Nat.le_of_ble_eq_true rfl) ?_
  intro X G fx het hnm
  refine g_aload_n fx dX10_order_0 rfl ?_
  refine g_getr fx dX10_order_1 fk_RX10_37 o_0 rf_0_3 ?_
  refine g_callVD0 fx dX10_order_4 mv_RX10_189 my_X5_go (s_X5_go ad _ in_26) (run_O in_26) rfl rfl rfl (Nat.le_of_ble_eq_true rfl) (by decide) (by decide) ?_
  refine g_aload_n fx dX10_order_7 rfl ?_
  refine g_getr fx dX10_order_8 fk_RX10_37 o_0 rf_0_3 ?_
  refine g_iload_n fx dX10_order_11 rfl ?_
  refine g_callVD fx dX10_order_12 mv_RX10_246 my_X5_pieceBegun (s_X5_pieceBegun ad _ in_26 _) (run_O in_26) rfl rfl rfl (Nat.le_of_ble_eq_true rfl) (by decide) (by decide) ?_
  exact g_iret fx rfl dX10_order_15 (by decide) (by decide) (gw_le.rf _) ⟨rfl, rfl, rfl⟩
set_option maxRecDepth 4000 in
theorem s_X10_end (ad : Nat → Nat) (σ : Sg)  (s : Int) : gw_Sp yX10_end cX10_end 2 (some .int) 8 1 6 [vR (some 0), vI s] (gw_M0 ad) σ (gw_DG (gSack σ s) (some (vI (rAt (go σ 26 4) 42 60 s))) (gw_M0 ad) (go σ 26 4)) (gw_isG (gSack σ s)) := by
  refine gw_Sp.of [some (vR (some 0)), some (vI s)] (by decide +kernel) rfl (Nat.le_of_ble_eq_true rfl) ?_
  intro X G fx het hnm
  refine g_aload_n fx dX10_end_0 rfl ?_
  refine g_iload_n fx dX10_end_1 rfl ?_
  refine g_callVG0 fx het dX10_end_2 mv_RX10_149 my_X10_needSack (s_X10_needSack ad _ _) o_0 rfl rfl rfl (Nat.le_of_ble_eq_true rfl) (by decide) (by decide) rfl rfl (fun E hE => (by (repeat first | rw [or_n hg2] | rw [if_pos (by omega)] | rw [if_neg (by omega)] | rw [Option.none_or]); first | rfl | assumption | (refine or_s ?_; assumption) | (unfold gWhat; (repeat first | rw [if_pos (by omega)] | rw [if_neg (by omega)]) <;> rfl))) (fun hg2 => ?_)
  refine g_aload_n fx dX10_end_5 rfl ?_
  refine g_getr fx dX10_end_6 fk_RX10_37 o_0 rf_0_3 ?_
  refine g_callVD0 fx dX10_end_9 mv_RX10_189 my_X5_go (s_X5_go ad _ in_26) (run_O in_26) rfl rfl rfl (Nat.le_of_ble_eq_true rfl) (by decide) (by decide) ?_
  refine g_aload_n fx dX10_end_12 rfl ?_
  refine g_getr fx dX10_end_13 fk_RX10_37 o_0 rf_0_3 ?_
  refine g_getr fx dX10_end_16 fk_RX10_249 (run_O in_26) rf_26_10 ?_
  refine g_iload_n fx dX10_end_19 rfl ?_
  refine g_callVD fx dX10_end_20 mv_RX10_155 my_X4_at (s_X4_atC ad _ in_41 (show 41 + 1 = 42 from rfl) _) (row_O in_41) rfl rfl rfl (Nat.le_of_ble_eq_true rfl) (by decide) (by decide) ?_
  exact g_iret fx rfl dX10_end_23 (by decide) (by decide) (gw_le.rf _) ⟨(by (repeat first | rw [or_n hg2] | rw [if_pos (by omega)] | rw [if_neg (by omega)] | rw [Option.none_or]); first | rfl | assumption | (refine or_s ?_; assumption) | (unfold gWhat; (repeat first | rw [if_pos (by omega)] | rw [if_neg (by omega)]) <;> rfl)), rfl, rfl, rfl⟩
set_option maxRecDepth 4000 in
theorem s_X10_waits (ad : Nat → Nat) (σ : Sg)  (s : Int) : gw_Sp yX10_waits cX10_waits 2 (some .int) 8 1 6 [vR (some 0), vI s] (gw_M0 ad) σ (gw_DG (gSack σ s) (some (vI (uW (go σ 26 4) 26 4 s))) (gw_M0 ad) (go σ 26 4)) (gw_isG (gSack σ s)) := by
  refine gw_Sp.of [some (vR (some 0)), some (vI s)] (by decide +kernel) rfl (Nat.le_of_ble_eq_true rfl) ?_
  intro X G fx het hnm
  refine g_aload_n fx dX10_waits_0 rfl ?_
  refine g_iload_n fx dX10_waits_1 rfl ?_
  refine g_callVG0 fx het dX10_waits_2 mv_RX10_149 my_X10_needSack (s_X10_needSack ad _ _) o_0 rfl rfl rfl (Nat.le_of_ble_eq_true rfl) (by decide) (by decide) rfl rfl (fun E hE => (by (repeat first | rw [or_n hg2] | rw [if_pos (by omega)] | rw [if_neg (by omega)] | rw [Option.none_or]); first | rfl | assumption | (refine or_s ?_; assumption) | (unfold gWhat; (repeat first | rw [if_pos (by omega)] | rw [if_neg (by omega)]) <;> rfl))) (fun hg2 => ?_)
  refine g_aload_n fx dX10_waits_5 rfl ?_
  refine g_getr fx dX10_waits_6 fk_RX10_37 o_0 rf_0_3 ?_
  refine g_callVD0 fx dX10_waits_9 mv_RX10_189 my_X5_go (s_X5_go ad _ in_26) (run_O in_26) rfl rfl rfl (Nat.le_of_ble_eq_true rfl) (by decide) (by decide) ?_
  refine g_aload_n fx dX10_waits_12 rfl ?_
  refine g_getr fx dX10_waits_13 fk_RX10_37 o_0 rf_0_3 ?_
  refine g_iload_n fx dX10_waits_16 rfl ?_
  refine g_callVD fx dX10_waits_17 mv_RX10_252 my_X5_waitOf (s_X5_waitOf ad _ in_26 _) (run_O in_26) rfl rfl rfl (Nat.le_of_ble_eq_true rfl) (by decide) (by decide) ?_
  exact g_iret fx rfl dX10_waits_20 (by decide) (by decide) (gw_le.rf _) ⟨(by (repeat first | rw [or_n hg2] | rw [if_pos (by omega)] | rw [if_neg (by omega)] | rw [Option.none_or]); first | rfl | assumption | (refine or_s ?_; assumption) | (unfold gWhat; (repeat first | rw [if_pos (by omega)] | rw [if_neg (by omega)]) <;> rfl)), rfl, rfl, rfl⟩
set_option maxRecDepth 4000 in
theorem s_X10_home (ad : Nat → Nat) (σ : Sg)  (p : Int) : gw_Sp yX10_home cX10_home 2 (some .int) 7 1 6 [vR (some 0), vI p] (gw_M0 ad) σ (gw_DG (gPerson p) (some (vI (loF (go σ 26 4) 26 4 p))) (gw_M0 ad) (go σ 26 4)) (gw_isG (gPerson p)) := by
  refine gw_Sp.of [some (vR (some 0)), some (vI p)] (by decide +kernel) rfl (Nat.le_of_ble_eq_true rfl) ?_
  intro X G fx het hnm
  refine g_iload_n fx dX10_home_0 rfl ?_
  refine g_if_lt (tgt := 10) fx dX10_home_1 (by decide) (fun h1 => ?_) (fun h1 => ?_)
  · exact g_throwS fx het th_RX10_142_146 (by decide +kernel : (RX10, 255, "no such person", 27) ∈ gw_strT) eX10_home_10 eX10_home_13 eX10_home_14 eX10_home_16 eX10_home_19 (by decide) rfl rfl (by decide) (by decide) (by decide) (by show gPerson p = _; rw [gPerson]; (repeat first | rw [if_pos (by omega)] | rw [if_neg (by omega)]); rfl)
  · refine g_iload_n fx dX10_home_4 rfl ?_
    refine g_bipush fx dX10_home_5 (by decide) ?_
    refine g_icmp_lt (tgt := 20) fx dX10_home_7 (by decide) (fun h7 => ?_) (fun h7 => ?_)
    · refine g_aload_n fx dX10_home_20 rfl ?_
      refine g_getr fx dX10_home_21 fk_RX10_37 o_0 rf_0_3 ?_
      refine g_callVD0 fx dX10_home_24 mv_RX10_189 my_X5_go (s_X5_go ad _ in_26) (run_O in_26) rfl rfl rfl (Nat.le_of_ble_eq_true rfl) (by decide) (by decide) ?_
      refine g_aload_n fx dX10_home_27 rfl ?_
      refine g_getr fx dX10_home_28 fk_RX10_37 o_0 rf_0_3 ?_
      refine g_iload_n fx dX10_home_31 rfl ?_
      refine g_callVD fx dX10_home_32 mv_RX10_257 my_X5_lastEndOf (s_X5_lastEndOf ad _ in_26 _) (run_O in_26) rfl rfl rfl (Nat.le_of_ble_eq_true rfl) (by decide) (by decide) ?_
      exact g_iret fx rfl dX10_home_35 (by decide) (by decide) (gw_le.rf _) ⟨by rw [gPerson]; (repeat first | rw [if_pos (by omega)] | rw [if_neg (by omega)]), rfl, rfl, rfl⟩
    · exact g_throwS fx het th_RX10_142_146 (by decide +kernel : (RX10, 255, "no such person", 27) ∈ gw_strT) eX10_home_10 eX10_home_13 eX10_home_14 eX10_home_16 eX10_home_19 (by decide) rfl rfl (by decide) (by decide) (by decide) (by show gPerson p = _; rw [gPerson]; (repeat first | rw [if_pos (by omega)] | rw [if_neg (by omega)]); rfl)
set_option maxRecDepth 4000 in
theorem s_X10_total (ad : Nat → Nat) (σ : Sg)  (w : Int) : gw_Sp yX10_total cX10_total 2 (some .int) 6 0 0 [vR (some 0), vI w] (gw_M0 ad) σ (gw_D (some (vI (zTotal (go σ 26 4) w))) (gw_M0 ad) (go σ 26 4)) gw_no := by
  refine gw_Sp.of [some (vR (some 0)), some (vI w)] (by decide +kernel) rfl (Nat.le_of_ble_eq_true rfl) ?_
  intro X G fx het hnm
  refine g_aload_n fx dX10_total_0 rfl ?_
  refine g_getr fx dX10_total_1 fk_RX10_37 o_0 rf_0_3 ?_
  refine g_callVD0 fx dX10_total_4 mv_RX10_189 my_X5_go (s_X5_go ad _ in_26) (run_O in_26) rfl rfl rfl (Nat.le_of_ble_eq_true rfl) (by decide) (by decide) ?_
  refine g_iload_n fx dX10_total_7 rfl ?_
  by_cases h8_0 : w = 0
  · refine g_tsw 0 (tgt := 48) fx dX10_total_8 (by omega) (by decide) rfl (by decide) ?_
    refine g_aload_n fx dX10_total_48 rfl ?_
    refine g_getr fx dX10_total_49 fk_RX10_37 o_0 rf_0_3 ?_
    refine g_callVD fx dX10_total_52 mv_RX10_260 my_X5_allWaits (s_X5_allWaits ad _ in_26) (run_O in_26) rfl rfl rfl (Nat.le_of_ble_eq_true rfl) (by decide) (by decide) ?_
    exact g_iret fx rfl dX10_total_55 (by decide) (by decide) (gw_le.rf _) ⟨by rw [zTotal]; (repeat first | rw [if_pos (by omega)] | rw [if_neg (by omega)]) <;> rfl, rfl, rfl⟩
  by_cases h8_1 : w = 1
  · refine g_tsw 1 (tgt := 56) fx dX10_total_8 (by omega) (by decide) rfl (by decide) ?_
    refine g_aload_n fx dX10_total_56 rfl ?_
    refine g_getr fx dX10_total_57 fk_RX10_37 o_0 rf_0_3 ?_
    refine g_callVD fx dX10_total_60 mv_RX10_263 my_X5_costOfAll (s_X5_costOfAll ad _ in_26) (run_O in_26) rfl rfl rfl (Nat.le_of_ble_eq_true rfl) (by decide) (by decide) ?_
    exact g_iret fx rfl dX10_total_63 (by decide) (by decide) (gw_le.rf _) ⟨by rw [zTotal]; (repeat first | rw [if_pos (by omega)] | rw [if_neg (by omega)]) <;> rfl, rfl, rfl⟩
  by_cases h8_2 : w = 2
  · refine g_tsw 2 (tgt := 64) fx dX10_total_8 (by omega) (by decide) rfl (by decide) ?_
    refine g_aload_n fx dX10_total_64 rfl ?_
    refine g_getr fx dX10_total_65 fk_RX10_37 o_0 rf_0_3 ?_
    refine g_callVD fx dX10_total_68 mv_RX10_266 my_X5_lateSacks (s_X5_lateSacks ad _ in_26) (run_O in_26) rfl rfl rfl (Nat.le_of_ble_eq_true rfl) (by decide) (by decide) ?_
    exact g_iret fx rfl dX10_total_71 (by decide) (by decide) (gw_le.rf _) ⟨by rw [zTotal]; (repeat first | rw [if_pos (by omega)] | rw [if_neg (by omega)]) <;> rfl, rfl, rfl⟩
  by_cases h8_3 : w = 3
  · refine g_tsw 3 (tgt := 72) fx dX10_total_8 (by omega) (by decide) rfl (by decide) ?_
    refine g_aload_n fx dX10_total_72 rfl ?_
    refine g_getr fx dX10_total_73 fk_RX10_37 o_0 rf_0_3 ?_
    refine g_callVD fx dX10_total_76 mv_RX10_269 my_X5_lastEnd (s_X5_lastEnd ad _ in_26) (run_O in_26) rfl rfl rfl (Nat.le_of_ble_eq_true rfl) (by decide) (by decide) ?_
    exact g_iret fx rfl dX10_total_79 (by decide) (by decide) (gw_le.rf _) ⟨by rw [zTotal]; (repeat first | rw [if_pos (by omega)] | rw [if_neg (by omega)]) <;> rfl, rfl, rfl⟩
  by_cases h8_4 : w = 4
  · refine g_tsw 4 (tgt := 80) fx dX10_total_8 (by omega) (by decide) rfl (by decide) ?_
    refine g_aload_n fx dX10_total_80 rfl ?_
    refine g_getr fx dX10_total_81 fk_RX10_28 o_0 rf_0_2 ?_
    refine g_geti fx dX10_total_84 fk_RX10_272 (by decide) (mill_O in_4) ?_
    refine g_aload_n fx dX10_total_87 rfl ?_
    refine g_getr fx dX10_total_88 fk_RX10_28 o_0 rf_0_2 ?_
    refine g_callVD fx dX10_total_91 mv_RX10_226 my_X1_pieces (s_X1_pieces ad _ in_4) (mill_O in_4) rfl rfl rfl (Nat.le_of_ble_eq_true rfl) (by decide) (by decide) ?_
    refine g_imul fx dX10_total_94 ?_
    exact g_iret fx rfl dX10_total_95 (by decide) (by decide) (gw_le.rf _) ⟨by rw [zTotal]; (repeat first | rw [if_pos (by omega)] | rw [if_neg (by omega)]) <;> rfl, rfl, rfl⟩
  by_cases h8_5 : w = 5
  · refine g_tsw 5 (tgt := 96) fx dX10_total_8 (by omega) (by decide) rfl (by decide) ?_
    refine g_aload_n fx dX10_total_96 rfl ?_
    refine g_getr fx dX10_total_97 fk_RX10_37 o_0 rf_0_3 ?_
    refine g_geti fx dX10_total_100 fk_RX10_275 (by decide) (run_O in_26) ?_
    exact g_iret fx rfl dX10_total_103 (by decide) (by decide) (gw_le.rf _) ⟨by rw [zTotal]; (repeat first | rw [if_pos (by omega)] | rw [if_neg (by omega)]) <;> rfl, rfl, rfl⟩
  refine g_tswO (tgt := 104) fx dX10_total_8 (by omega) (by decide) ?_
  refine g_iconst fx dX10_total_104 (by unfold okI; omega) ?_
  exact g_iret fx rfl dX10_total_105 (by decide) (by decide) (gw_le.rf _) ⟨by rw [zTotal]; (repeat first | rw [if_pos (by omega)] | rw [if_neg (by omega)]) <;> rfl, rfl, rfl⟩
set_option maxRecDepth 4000 in
theorem s_X10_stands (ad : Nat → Nat) (σ : Sg)  (m : Int) (w : Int) : gw_Sp yX10_stands cX10_stands 3 (some .int) 8 2 12 [vR (some 0), vI m, vI w] (gw_M0 ad) σ (gw_DG ((gMin m).or (gWhat w 3)) (some (vI (zStands (go σ 26 4) m w))) (gw_M0 ad) (go σ 26 4)) (gw_isG ((gMin m).or (gWhat w 3))) := by
  refine gw_Sp.of [some (vR (some 0)), some (vI m), some (vI w)] (by decide +kernel) rfl (Nat.le_of_ble_eq_true rfl) ?_
  intro X G fx het hnm
  refine g_iload_n fx dX10_stands_0 rfl ?_
  refine g_if_ge (tgt := 15) fx dX10_stands_1 (by decide) (fun h1 => ?_) (fun h1 => ?_)
  · refine g_aload_n fx dX10_stands_15 rfl ?_
    refine g_iload_n fx dX10_stands_16 rfl ?_
    refine g_iconst fx dX10_stands_17 (by unfold okI; omega) ?_
    refine g_callVG0 fx het dX10_stands_18 mv_RX10_185 my_X10_needWhat (s_X10_needWhat ad _ _ _) o_0 rfl rfl rfl (Nat.le_of_ble_eq_true rfl) (by decide) (by decide) rfl rfl (fun E hE => (by rw [gMin]; (repeat first | rw [or_n hg18] | rw [if_pos (by omega)] | rw [if_neg (by omega)] | rw [Option.none_or]); first | rfl | assumption | (refine or_s ?_; assumption) | (unfold gWhat; (repeat first | rw [if_pos (by omega)] | rw [if_neg (by omega)]) <;> rfl))) (fun hg18 => ?_)
    refine g_aload_n fx dX10_stands_21 rfl ?_
    refine g_getr fx dX10_stands_22 fk_RX10_37 o_0 rf_0_3 ?_
    refine g_callVD0 fx dX10_stands_25 mv_RX10_189 my_X5_go (s_X5_go ad _ in_26) (run_O in_26) rfl rfl rfl (Nat.le_of_ble_eq_true rfl) (by decide) (by decide) ?_
    refine g_iload_n fx dX10_stands_28 rfl ?_
    by_cases h29_0 : w = 0
    · refine g_tsw 0 (tgt := 56) fx dX10_stands_29 (by omega) (by decide) rfl (by decide) ?_
      refine g_aload_n fx dX10_stands_56 rfl ?_
      refine g_getr fx dX10_stands_57 fk_RX10_37 o_0 rf_0_3 ?_
      refine g_iload_n fx dX10_stands_60 rfl ?_
      refine g_callVD fx dX10_stands_61 mv_RX10_280 my_X5_standingPieces (s_X5_standingPieces ad _ in_26 _) (run_O in_26) rfl rfl rfl (Nat.le_of_ble_eq_true rfl) (by decide) (by decide) ?_
      exact g_iret fx rfl dX10_stands_64 (by decide) (by decide) (gw_le.rf _) ⟨(by rw [gMin]; (repeat first | rw [or_n hg18] | rw [if_pos (by omega)] | rw [if_neg (by omega)] | rw [Option.none_or]); first | rfl | assumption | (refine or_s ?_; assumption) | (unfold gWhat; (repeat first | rw [if_pos (by omega)] | rw [if_neg (by omega)]) <;> rfl)), by rw [zStands]; (repeat first | rw [if_pos (by omega)] | rw [if_neg (by omega)]) <;> rfl, rfl, rfl⟩
    by_cases h29_1 : w = 1
    · refine g_tsw 1 (tgt := 65) fx dX10_stands_29 (by omega) (by decide) rfl (by decide) ?_
      refine g_aload_n fx dX10_stands_65 rfl ?_
      refine g_getr fx dX10_stands_66 fk_RX10_37 o_0 rf_0_3 ?_
      refine g_iload_n fx dX10_stands_69 rfl ?_
      refine g_callVD fx dX10_stands_70 mv_RX10_283 my_X5_standingPounds (s_X5_standingPounds ad _ in_26 _) (run_O in_26) rfl rfl rfl (Nat.le_of_ble_eq_true rfl) (by decide) (by decide) ?_
      exact g_iret fx rfl dX10_stands_73 (by decide) (by decide) (gw_le.rf _) ⟨(by rw [gMin]; (repeat first | rw [or_n hg18] | rw [if_pos (by omega)] | rw [if_neg (by omega)] | rw [Option.none_or]); first | rfl | assumption | (refine or_s ?_; assumption) | (unfold gWhat; (repeat first | rw [if_pos (by omega)] | rw [if_neg (by omega)]) <;> rfl)), by rw [zStands]; (repeat first | rw [if_pos (by omega)] | rw [if_neg (by omega)]) <;> rfl, rfl, rfl⟩
    by_cases h29_2 : w = 2
    · refine g_tsw 2 (tgt := 74) fx dX10_stands_29 (by omega) (by decide) rfl (by decide) ?_
      refine g_aload_n fx dX10_stands_74 rfl ?_
      refine g_getr fx dX10_stands_75 fk_RX10_37 o_0 rf_0_3 ?_
      refine g_iload_n fx dX10_stands_78 rfl ?_
      refine g_callVD fx dX10_stands_79 mv_RX10_286 my_X5_busyStones (s_X5_busyStones ad _ in_26 _) (run_O in_26) rfl rfl rfl (Nat.le_of_ble_eq_true rfl) (by decide) (by decide) ?_
      exact g_iret fx rfl dX10_stands_82 (by decide) (by decide) (gw_le.rf _) ⟨(by rw [gMin]; (repeat first | rw [or_n hg18] | rw [if_pos (by omega)] | rw [if_neg (by omega)] | rw [Option.none_or]); first | rfl | assumption | (refine or_s ?_; assumption) | (unfold gWhat; (repeat first | rw [if_pos (by omega)] | rw [if_neg (by omega)]) <;> rfl)), by rw [zStands]; (repeat first | rw [if_pos (by omega)] | rw [if_neg (by omega)]) <;> rfl, rfl, rfl⟩
    refine g_tswO (tgt := 83) fx dX10_stands_29 (by omega) (by decide) ?_
    refine g_aload_n fx dX10_stands_83 rfl ?_
    refine g_getr fx dX10_stands_84 fk_RX10_37 o_0 rf_0_3 ?_
    refine g_iload_n fx dX10_stands_87 rfl ?_
    refine g_callVD fx dX10_stands_88 mv_RX10_289 my_X5_openSacks (s_X5_openSacks ad _ in_26 _) (run_O in_26) rfl rfl rfl (Nat.le_of_ble_eq_true rfl) (by decide) (by decide) ?_
    exact g_iret fx rfl dX10_stands_91 (by decide) (by decide) (gw_le.rf _) ⟨(by rw [gMin]; (repeat first | rw [or_n hg18] | rw [if_pos (by omega)] | rw [if_neg (by omega)] | rw [Option.none_or]); first | rfl | assumption | (refine or_s ?_; assumption) | (unfold gWhat; (repeat first | rw [if_pos (by omega)] | rw [if_neg (by omega)]) <;> rfl)), by rw [zStands]; (repeat first | rw [if_pos (by omega)] | rw [if_neg (by omega)]) <;> rfl, rfl, rfl⟩
  · exact g_throwSW fx het th_RX10_142_146 (by decide +kernel : (RX10, 278, "no such minute", 28) ∈ gw_strT) eX10_stands_4 eX10_stands_7 eX10_stands_8 eX10_stands_11 eX10_stands_14 (by decide) rfl rfl (by decide) (by decide) (by decide) (by show (gMin m).or _ = _; rw [gMin]; (repeat first | rw [if_pos (by omega)] | rw [if_neg (by omega)]); rfl)
set_option maxRecDepth 4000 in
theorem s_X10_longest (ad : Nat → Nat) (σ : Sg)  : gw_Sp yX10_longest cX10_longest 3 (some .int) 6 0 0 [vR (some 0)] (gw_M0 ad) σ (gw_D (some (vI (zLongest (go σ 26 4)))) (gw_M0 ad) (go σ 26 4)) gw_no := by
  refine gw_Sp.of [some (vR (some 0)), none, none] (by decide +kernel) rfl (Nat.le_of_ble_eq_true rfl) ?_
  intro X G fx het hnm
  refine g_aload_n fx dX10_longest_0 rfl ?_
  refine g_getr fx dX10_longest_1 fk_RX10_37 o_0 rf_0_3 ?_
  refine g_callVD0 fx dX10_longest_4 mv_RX10_189 my_X5_go (s_X5_go ad _ in_26) (run_O in_26) rfl rfl rfl (Nat.le_of_ble_eq_true rfl) (by decide) (by decide) ?_
  refine g_okS (fun hok => ?_)
  have hq5 := gw_okO 5 hok (mill_O in_4) (by decide)
  unfold okI at hq5
  refine g_iconst fx dX10_longest_7 (by unfold okI; omega) ?_
  refine g_istore_n fx dX10_longest_8 (by decide) rfl rfl ?_
  refine g_iconst fx dX10_longest_9 (by unfold okI; omega) ?_
  refine g_istore_n fx dX10_longest_10 (by decide) rfl rfl ?_
  have loop11 : ∀ i : Nat, i ≤ (go σ 26 4 4 5).toNat → gw_W X (yX10_longest.cls, cX10_longest, 3, (some .int), 6, 0, 0) G (gw_Z X G (gw_M0 ad) σ (gw_D (some (vI (zLongest (go σ 26 4)))) (gw_M0 ad) (go σ 26 4)) gw_no 0 0) 0 0 (gw_M0 ad) (go σ 26 4) 11 [some (vR (some 0)), some (vI (itr i (zLoS (go σ 26 4)) (-1))), some (vI (i : Nat))] [] := by
    refine up_ind _ ((go σ 26 4 4 5).toNat) (fun i hi ih => ?_)
    refine g_iload_n fx dX10_longest_11 rfl ?_
    refine g_aload_n fx dX10_longest_12 rfl ?_
    refine g_getr fx dX10_longest_13 fk_RX10_28 o_0 rf_0_2 ?_
    refine g_geti fx dX10_longest_16 fk_RX10_236 (by decide) (mill_O in_4) ?_
    refine g_icmp_ge (tgt := 54) fx dX10_longest_19 (by decide) (fun h19 => ?_) (fun h19 => ?_)
    · refine g_iload_n fx dX10_longest_54 rfl ?_
      exact g_iret fx rfl dX10_longest_55 (by decide) (by decide) (gw_le.rf _) ⟨by rw [zLongest, show (go σ 26 4 4 5).toNat = i by omega], rfl, rfl⟩
    · refine g_iload_n fx dX10_longest_22 rfl ?_
      refine g_iconst fx dX10_longest_23 (by unfold okI; omega) ?_
      refine g_icmp_eq (tgt := 46) fx dX10_longest_24 (by decide) (fun h24 => ?_) (fun h24 => ?_)
      · refine g_iload_n fx dX10_longest_46 rfl ?_
        refine g_istore_n fx dX10_longest_47 (by decide) rfl rfl ?_
        refine g_iinc1 fx dX10_longest_48 (by decide) rfl rfl (by unfold okI; omega) rfl ?_
        refine g_goto (tgt := 11) fx dX10_longest_51 (by decide) ?_
        exact gw_cg rfl (by rw [itr_s, zLoS, show ((i : Nat) : Int) + 1 = ((i + 1 : Nat) : Int) by omega]; (repeat first | rw [if_pos (by omega)] | rw [if_neg (by omega)]) <;> rfl) (ih (by omega))
      · refine g_aload_n fx dX10_longest_27 rfl ?_
        refine g_getr fx dX10_longest_28 fk_RX10_37 o_0 rf_0_3 ?_
        refine g_iload_n fx dX10_longest_31 rfl ?_
        refine g_callVD fx dX10_longest_32 mv_RX10_252 my_X5_waitOf (s_X5_waitOf ad _ in_26 _) (run_O in_26) rfl rfl rfl (Nat.le_of_ble_eq_true rfl) (by decide) (by decide) ?_
        refine g_aload_n fx dX10_longest_35 rfl ?_
        refine g_getr fx dX10_longest_36 fk_RX10_37 o_0 rf_0_3 ?_
        refine g_iload_n fx dX10_longest_39 rfl ?_
        refine g_callVD fx dX10_longest_40 mv_RX10_252 my_X5_waitOf (s_X5_waitOf ad _ in_26 _) (run_O in_26) rfl rfl rfl (Nat.le_of_ble_eq_true rfl) (by decide) (by decide) ?_
        refine g_icmp_le (tgt := 48) fx dX10_longest_43 (by decide) (fun h43 => ?_) (fun h43 => ?_)
        · refine g_iinc1 fx dX10_longest_48 (by decide) rfl rfl (by unfold okI; omega) rfl ?_
          refine g_goto (tgt := 11) fx dX10_longest_51 (by decide) ?_
          exact gw_cg rfl (by rw [itr_s, zLoS, show ((i : Nat) : Int) + 1 = ((i + 1 : Nat) : Int) by omega]; (repeat first | rw [if_pos (by omega)] | rw [if_neg (by omega)]) <;> rfl) (ih (by omega))
        · refine g_iload_n fx dX10_longest_46 rfl ?_
          refine g_istore_n fx dX10_longest_47 (by decide) rfl rfl ?_
          refine g_iinc1 fx dX10_longest_48 (by decide) rfl rfl (by unfold okI; omega) rfl ?_
          refine g_goto (tgt := 11) fx dX10_longest_51 (by decide) ?_
          exact gw_cg rfl (by rw [itr_s, zLoS, show ((i : Nat) : Int) + 1 = ((i + 1 : Nat) : Int) by omega]; (repeat first | rw [if_pos (by omega)] | rw [if_neg (by omega)]) <;> rfl) (ih (by omega))
  exact loop11 0 (Nat.zero_le _)
set_option maxRecDepth 4000 in
theorem s_X10_ahead (ad : Nat → Nat) (σ : Sg)  (p : Int) (q : Int) : gw_Sp yX10_ahead cX10_ahead 3 (some .int) 8 2 12 [vR (some 0), vI p, vI q] (gw_M0 ad) σ (gw_DG ((gPiece σ p).or (gPiece σ q)) (some (vI (ld (ly σ 26 4) 26 4 p q 0))) (gw_M0 ad) (ly σ 26 4)) (gw_isG ((gPiece σ p).or (gPiece σ q))) := by
  refine gw_Sp.of [some (vR (some 0)), some (vI p), some (vI q)] (by decide +kernel) rfl (Nat.le_of_ble_eq_true rfl) ?_
  intro X G fx het hnm
  refine g_aload_n fx dX10_ahead_0 rfl ?_
  refine g_iload_n fx dX10_ahead_1 rfl ?_
  refine g_callVG0 fx het dX10_ahead_2 mv_RX10_182 my_X10_needPiece (s_X10_needPiece ad _ _) o_0 rfl rfl rfl (Nat.le_of_ble_eq_true rfl) (by decide) (by decide) rfl rfl (fun E hE => (by (repeat first | rw [or_n hg2] | rw [if_pos (by omega)] | rw [if_neg (by omega)] | rw [Option.none_or]); first | rfl | assumption | (refine or_s ?_; assumption) | (unfold gWhat; (repeat first | rw [if_pos (by omega)] | rw [if_neg (by omega)]) <;> rfl))) (fun hg2 => ?_)
  refine g_aload_n fx dX10_ahead_5 rfl ?_
  refine g_iload_n fx dX10_ahead_6 rfl ?_
  refine g_callVG0 fx het dX10_ahead_7 mv_RX10_182 my_X10_needPiece (s_X10_needPiece ad _ _) o_0 rfl rfl rfl (Nat.le_of_ble_eq_true rfl) (by decide) (by decide) rfl rfl (fun E hE => (by (repeat first | rw [or_n hg2] | rw [or_n hg7] | rw [if_pos (by omega)] | rw [if_neg (by omega)] | rw [Option.none_or]); first | rfl | assumption | (refine or_s ?_; assumption) | (unfold gWhat; (repeat first | rw [if_pos (by omega)] | rw [if_neg (by omega)]) <;> rfl))) (fun hg7 => ?_)
  refine g_aload_n fx dX10_ahead_10 rfl ?_
  refine g_getr fx dX10_ahead_11 fk_RX10_37 o_0 rf_0_3 ?_
  refine g_callVD0 fx dX10_ahead_14 mv_RX10_292 my_X5_lay (s_X5_lay ad _ in_26) (run_O in_26) rfl rfl rfl (Nat.le_of_ble_eq_true rfl) (by decide) (by decide) ?_
  refine g_aload_n fx dX10_ahead_17 rfl ?_
  refine g_getr fx dX10_ahead_18 fk_RX10_37 o_0 rf_0_3 ?_
  refine g_iload_n fx dX10_ahead_21 rfl ?_
  refine g_iload_n fx dX10_ahead_22 rfl ?_
  refine g_iconst fx dX10_ahead_23 (by unfold okI; omega) ?_
  refine g_callVD fx dX10_ahead_24 mv_RX10_295 my_X5_lead (s_X5_lead ad _ in_26 _ _ _) (run_O in_26) rfl rfl rfl (Nat.le_of_ble_eq_true rfl) (by decide) (by decide) ?_
  exact g_iret fx rfl dX10_ahead_27 (by decide) (by decide) (gw_le.rf _) ⟨(by (repeat first | rw [or_n hg2] | rw [or_n hg7] | rw [if_pos (by omega)] | rw [if_neg (by omega)] | rw [Option.none_or]); first | rfl | assumption | (refine or_s ?_; assumption) | (unfold gWhat; (repeat first | rw [if_pos (by omega)] | rw [if_neg (by omega)]) <;> rfl)), rfl, rfl, rfl⟩
set_option maxRecDepth 4000 in
theorem s_X10_count (ad : Nat → Nat) (σ : Sg)  (w : Int) : gw_Sp yX10_count cX10_count 2 (some .int) 4 0 0 [vR (some 0), vI w] (gw_M0 ad) σ (gw_D (some (vI (zCount σ w))) (gw_M0 ad) (σ)) gw_no := by
  refine gw_Sp.of [some (vR (some 0)), some (vI w)] (by decide +kernel) rfl (Nat.le_of_ble_eq_true rfl) ?_
  intro X G fx het hnm
  refine g_iload_n fx dX10_count_0 rfl ?_
  by_cases h1_0 : w = 0
  · refine g_tsw 0 (tgt := 52) fx dX10_count_1 (by omega) (by decide) rfl (by decide) ?_
    refine g_aload_n fx dX10_count_52 rfl ?_
    refine g_getr fx dX10_count_53 fk_RX10_28 o_0 rf_0_2 ?_
    refine g_geti fx dX10_count_56 fk_RX10_121 (by decide) (mill_O in_4) ?_
    exact g_iret fx rfl dX10_count_59 (by decide) (by decide) (gw_le.rf _) ⟨by rw [zCount]; (repeat first | rw [if_pos (by omega)] | rw [if_neg (by omega)]) <;> rfl, rfl, rfl⟩
  by_cases h1_1 : w = 1
  · refine g_tsw 1 (tgt := 60) fx dX10_count_1 (by omega) (by decide) rfl (by decide) ?_
    refine g_aload_n fx dX10_count_60 rfl ?_
    refine g_getr fx dX10_count_61 fk_RX10_28 o_0 rf_0_2 ?_
    refine g_geti fx dX10_count_64 fk_RX10_325 (by decide) (mill_O in_4) ?_
    exact g_iret fx rfl dX10_count_67 (by decide) (by decide) (gw_le.rf _) ⟨by rw [zCount]; (repeat first | rw [if_pos (by omega)] | rw [if_neg (by omega)]) <;> rfl, rfl, rfl⟩
  by_cases h1_2 : w = 2
  · refine g_tsw 2 (tgt := 68) fx dX10_count_1 (by omega) (by decide) rfl (by decide) ?_
    refine g_aload_n fx dX10_count_68 rfl ?_
    refine g_getr fx dX10_count_69 fk_RX10_28 o_0 rf_0_2 ?_
    refine g_geti fx dX10_count_72 fk_RX10_436 (by decide) (mill_O in_4) ?_
    exact g_iret fx rfl dX10_count_75 (by decide) (by decide) (gw_le.rf _) ⟨by rw [zCount]; (repeat first | rw [if_pos (by omega)] | rw [if_neg (by omega)]) <;> rfl, rfl, rfl⟩
  by_cases h1_3 : w = 3
  · refine g_tsw 3 (tgt := 76) fx dX10_count_1 (by omega) (by decide) rfl (by decide) ?_
    refine g_aload_n fx dX10_count_76 rfl ?_
    refine g_getr fx dX10_count_77 fk_RX10_28 o_0 rf_0_2 ?_
    refine g_geti fx dX10_count_80 fk_RX10_272 (by decide) (mill_O in_4) ?_
    exact g_iret fx rfl dX10_count_83 (by decide) (by decide) (gw_le.rf _) ⟨by rw [zCount]; (repeat first | rw [if_pos (by omega)] | rw [if_neg (by omega)]) <;> rfl, rfl, rfl⟩
  by_cases h1_4 : w = 4
  · refine g_tsw 4 (tgt := 84) fx dX10_count_1 (by omega) (by decide) rfl (by decide) ?_
    refine g_aload_n fx dX10_count_84 rfl ?_
    refine g_getr fx dX10_count_85 fk_RX10_28 o_0 rf_0_2 ?_
    refine g_geti fx dX10_count_88 fk_RX10_236 (by decide) (mill_O in_4) ?_
    exact g_iret fx rfl dX10_count_91 (by decide) (by decide) (gw_le.rf _) ⟨by rw [zCount]; (repeat first | rw [if_pos (by omega)] | rw [if_neg (by omega)]) <;> rfl, rfl, rfl⟩
  by_cases h1_5 : w = 5
  · refine g_tsw 5 (tgt := 92) fx dX10_count_1 (by omega) (by decide) rfl (by decide) ?_
    refine g_aload_n fx dX10_count_92 rfl ?_
    refine g_getr fx dX10_count_93 fk_RX10_28 o_0 rf_0_2 ?_
    refine g_callVD fx dX10_count_96 mv_RX10_226 my_X1_pieces (s_X1_pieces ad _ in_4) (mill_O in_4) rfl rfl rfl (Nat.le_of_ble_eq_true rfl) (by decide) (by decide) ?_
    exact g_iret fx rfl dX10_count_99 (by decide) (by decide) (gw_le.rf _) ⟨by rw [zCount]; (repeat first | rw [if_pos (by omega)] | rw [if_neg (by omega)]) <;> rfl, rfl, rfl⟩
  by_cases h1_6 : w = 6
  · refine g_tsw 6 (tgt := 100) fx dX10_count_1 (by omega) (by decide) rfl (by decide) ?_
    refine g_aload_n fx dX10_count_100 rfl ?_
    refine g_getr fx dX10_count_101 fk_RX10_28 o_0 rf_0_2 ?_
    refine g_getr fx dX10_count_104 fk_RX10_130 (mill_O in_4) rf_4_0 ?_
    refine g_geti fx dX10_count_107 fk_RX10_134 (by decide) (law_O in_5) ?_
    exact g_iret fx rfl dX10_count_110 (by decide) (by decide) (gw_le.rf _) ⟨by rw [zCount]; (repeat first | rw [if_pos (by omega)] | rw [if_neg (by omega)]) <;> rfl, rfl, rfl⟩
  by_cases h1_7 : w = 7
  · refine g_tsw 7 (tgt := 111) fx dX10_count_1 (by omega) (by decide) rfl (by decide) ?_
    refine g_aload_n fx dX10_count_111 rfl ?_
    refine g_getr fx dX10_count_112 fk_RX10_28 o_0 rf_0_2 ?_
    refine g_getr fx dX10_count_115 fk_RX10_130 (mill_O in_4) rf_4_0 ?_
    refine g_geti fx dX10_count_118 fk_RX10_439 (by decide) (law_O in_5) ?_
    exact g_iret fx rfl dX10_count_121 (by decide) (by decide) (gw_le.rf _) ⟨by rw [zCount]; (repeat first | rw [if_pos (by omega)] | rw [if_neg (by omega)]) <;> rfl, rfl, rfl⟩
  by_cases h1_8 : w = 8
  · refine g_tsw 8 (tgt := 122) fx dX10_count_1 (by omega) (by decide) rfl (by decide) ?_
    refine g_aload_n fx dX10_count_122 rfl ?_
    refine g_getr fx dX10_count_123 fk_RX10_10 o_0 rf_0_0 ?_
    refine g_geti fx dX10_count_126 fk_RX10_101 (by decide) o_1 ?_
    exact g_iret fx rfl dX10_count_129 (by decide) (by decide) (gw_le.rf _) ⟨by rw [zCount]; (repeat first | rw [if_pos (by omega)] | rw [if_neg (by omega)]) <;> rfl, rfl, rfl⟩
  refine g_tswO (tgt := 130) fx dX10_count_1 (by omega) (by decide) ?_
  refine g_iconst fx dX10_count_130 (by unfold okI; omega) ?_
  exact g_iret fx rfl dX10_count_131 (by decide) (by decide) (gw_le.rf _) ⟨by rw [zCount]; (repeat first | rw [if_pos (by omega)] | rw [if_neg (by omega)]) <;> rfl, rfl, rfl⟩
