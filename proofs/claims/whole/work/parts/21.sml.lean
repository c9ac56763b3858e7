theorem dX7_take_0 : gw_dc cX7_take 0 (.bipush 24) 2 2 := ⟨by decide +kernel, rfl⟩
theorem dX7_take_2 : gw_dc cX7_take 2 (.istore_n 2) 1 3 := ⟨by decide +kernel, rfl⟩
theorem dX7_take_3 : gw_dc cX7_take 3 (.iload_n 2) 1 4 := ⟨by decide +kernel, rfl⟩
theorem dX7_take_4 : gw_dc cX7_take 4 (.ifCond .lt 51) 3 7 := ⟨by decide +kernel, rfl⟩
theorem dX7_take_55 : decode cX7_take 55 = .ok (.return_, 1) := by decide +kernel
theorem dX7_take_7 : gw_dc cX7_take 7 (.aload_n 0) 1 8 := ⟨by decide +kernel, rfl⟩
theorem dX7_take_8 : gw_dc cX7_take 8 (.getfield 15) 3 11 := ⟨by decide +kernel, rfl⟩
theorem fk_RX7_15 : gw_fk RX7 15 7 1 2 0 false := ⟨_, _, _, ck_7, by decide, by decide, fun _ => rfl, fun h => absurd h (by decide), fun h => absurd h (by decide), rfl, Or.inl (gw_mem 135 (by decide +kernel) rfl)⟩
theorem o_1 {ad : Nat → Nat} : isO (gw_M0 ad) 1 7 2 := (by decide +kernel : 1 < gw_N0 ∧ gw_sh 1 = (7, 2))
theorem dX7_take_11 : gw_dc cX7_take 11 (.ifCond .lt 38) 3 14 := ⟨by decide +kernel, rfl⟩
theorem dX7_take_49 : gw_dc cX7_take 49 (.iinc 2 (-8)) 3 52 := ⟨by decide +kernel, rfl⟩
theorem dX7_take_52 : gw_dc cX7_take 52 (.goto (-49)) 3 55 := ⟨by decide +kernel, rfl⟩
theorem dX7_take_14 : gw_dc cX7_take 14 (.aload_n 0) 1 15 := ⟨by decide +kernel, rfl⟩
theorem dX7_take_15 : gw_dc cX7_take 15 (.getfield 15) 3 18 := ⟨by decide +kernel, rfl⟩
theorem dX7_take_18 : gw_dc cX7_take 18 (.aload_n 0) 1 19 := ⟨by decide +kernel, rfl⟩
theorem dX7_take_19 : gw_dc cX7_take 19 (.getfield 9) 3 22 := ⟨by decide +kernel, rfl⟩
theorem fk_RX7_9 : gw_fk RX7 9 7 0 2 1 true := ⟨_, _, _, ck_7, by decide, by decide, fun h => absurd h (by decide), fun h => absurd h (by decide), fun _ => Or.inr ⟨_, rfl⟩, rfl, Or.inl (gw_mem 133 (by decide +kernel) rfl)⟩
theorem rf_1_0 {ad : Nat → Nat} : (gw_M0 ad).2.2 1 0 = some 2 := (by decide +kernel : gw_rh 1 0 = some 2)
theorem dX7_take_22 : gw_dc cX7_take 22 (.arraylength) 1 23 := ⟨by decide +kernel, rfl⟩
theorem o_2 {ad : Nat → Nat} : isO (gw_M0 ad) 2 20 900 := (by decide +kernel : 2 < gw_N0 ∧ gw_sh 2 = (20, 900))
theorem dX7_take_23 : gw_dc cX7_take 23 (.if_icmp .ge 26) 3 26 := ⟨by decide +kernel, rfl⟩
theorem dX7_take_26 : gw_dc cX7_take 26 (.aload_n 0) 1 27 := ⟨by decide +kernel, rfl⟩
theorem dX7_take_27 : gw_dc cX7_take 27 (.getfield 9) 3 30 := ⟨by decide +kernel, rfl⟩
theorem dX7_take_30 : gw_dc cX7_take 30 (.aload_n 0) 1 31 := ⟨by decide +kernel, rfl⟩
theorem dX7_take_31 : gw_dc cX7_take 31 (.getfield 15) 3 34 := ⟨by decide +kernel, rfl⟩
theorem dX7_take_34 : gw_dc cX7_take 34 (.iload_n 1) 1 35 := ⟨by decide +kernel, rfl⟩
theorem dX7_take_35 : gw_dc cX7_take 35 (.iload_n 2) 1 36 := ⟨by decide +kernel, rfl⟩
theorem dX7_take_36 : gw_dc cX7_take 36 (.ishr) 1 37 := ⟨by decide +kernel, rfl⟩
theorem dX7_take_37 : gw_dc cX7_take 37 (.i2b) 1 38 := ⟨by decide +kernel, rfl⟩
theorem dX7_take_38 : gw_dc cX7_take 38 (.bastore) 1 39 := ⟨by decide +kernel, rfl⟩
theorem dX7_take_39 : gw_dc cX7_take 39 (.aload_n 0) 1 40 := ⟨by decide +kernel, rfl⟩
theorem dX7_take_40 : gw_dc cX7_take 40 (.dup) 1 41 := ⟨by decide +kernel, rfl⟩
theorem dX7_take_41 : gw_dc cX7_take 41 (.getfield 15) 3 44 := ⟨by decide +kernel, rfl⟩
theorem dX7_take_44 : gw_dc cX7_take 44 (.iconst 1) 1 45 := ⟨by decide +kernel, rfl⟩
theorem dX7_take_45 : gw_dc cX7_take 45 (.iadd) 1 46 := ⟨by decide +kernel, rfl⟩
theorem dX7_take_46 : gw_dc cX7_take 46 (.putfield 15) 3 49 := ⟨by decide +kernel, rfl⟩
theorem dX7_at_0 : gw_dc cX7_at 0 (.iload_n 1) 1 1 := ⟨by decide +kernel, rfl⟩
theorem dX7_at_1 : gw_dc cX7_at 1 (.ifCond .lt 25) 3 4 := ⟨by decide +kernel, rfl⟩
theorem dX7_at_26 : gw_dc cX7_at 26 (.iconst (-1)) 1 27 := ⟨by decide +kernel, rfl⟩
theorem dX7_at_27 : decode cX7_at 27 = .ok (.ireturn, 1) := by decide +kernel
theorem dX7_at_4 : gw_dc cX7_at 4 (.iload_n 1) 1 5 := ⟨by decide +kernel, rfl⟩
theorem dX7_at_5 : gw_dc cX7_at 5 (.aload_n 0) 1 6 := ⟨by decide +kernel, rfl⟩
theorem dX7_at_6 : gw_dc cX7_at 6 (.getfield 9) 3 9 := ⟨by decide +kernel, rfl⟩
theorem dX7_at_9 : gw_dc cX7_at 9 (.arraylength) 1 10 := ⟨by decide +kernel, rfl⟩
theorem dX7_at_10 : gw_dc cX7_at 10 (.if_icmp .ge 16) 3 13 := ⟨by decide +kernel, rfl⟩
theorem dX7_at_13 : gw_dc cX7_at 13 (.aload_n 0) 1 14 := ⟨by decide +kernel, rfl⟩
theorem dX7_at_14 : gw_dc cX7_at 14 (.getfield 9) 3 17 := ⟨by decide +kernel, rfl⟩
theorem dX7_at_17 : gw_dc cX7_at 17 (.iload_n 1) 1 18 := ⟨by decide +kernel, rfl⟩
theorem dX7_at_18 : gw_dc cX7_at 18 (.baload) 1 19 := ⟨by decide +kernel, rfl⟩
theorem dX7_at_19 : gw_dc cX7_at 19 (.sipush 255) 3 22 := ⟨by decide +kernel, rfl⟩
theorem dX7_at_22 : gw_dc cX7_at 22 (.iand) 1 23 := ⟨by decide +kernel, rfl⟩
theorem dX7_at_23 : gw_dc cX7_at 23 (.goto 4) 3 26 := ⟨by decide +kernel, rfl⟩
theorem dX9_clear_0 : gw_dc cX9_clear 0 (.aload_n 0) 1 1 := ⟨by decide +kernel, rfl⟩
theorem dX9_clear_1 : gw_dc cX9_clear 1 (.iload_n 1) 1 2 := ⟨by decide +kernel, rfl⟩
theorem dX9_clear_2 : gw_dc cX9_clear 2 (.putfield 19) 3 5 := ⟨by decide +kernel, rfl⟩
theorem fk_RX9_19 : gw_fk RX9 19 9 1 3 0 false := ⟨_, _, _, ck_9, by decide, by decide, fun _ => rfl, fun h => absurd h (by decide), fun h => absurd h (by decide), rfl, Or.inl (gw_mem 485 (by decide +kernel) rfl)⟩
theorem dX9_clear_5 : gw_dc cX9_clear 5 (.aload_n 0) 1 6 := ⟨by decide +kernel, rfl⟩
theorem dX9_clear_6 : gw_dc cX9_clear 6 (.iload_n 2) 1 7 := ⟨by decide +kernel, rfl⟩
theorem dX9_clear_7 : gw_dc cX9_clear 7 (.putfield 15) 3 10 := ⟨by decide +kernel, rfl⟩
theorem fk_RX9_15 : gw_fk RX9 15 9 2 3 0 false := ⟨_, _, _, ck_9, by decide, by decide, fun _ => rfl, fun h => absurd h (by decide), fun h => absurd h (by decide), rfl, Or.inl (gw_mem 486 (by decide +kernel) rfl)⟩
theorem dX9_clear_10 : gw_dc cX9_clear 10 (.iconst 0) 1 11 := ⟨by decide +kernel, rfl⟩
theorem dX9_clear_11 : gw_dc cX9_clear 11 (.istore_n 3) 1 12 := ⟨by decide +kernel, rfl⟩
theorem dX9_clear_12 : gw_dc cX9_clear 12 (.iload_n 3) 1 13 := ⟨by decide +kernel, rfl⟩
theorem dX9_clear_13 : gw_dc cX9_clear 13 (.aload_n 0) 1 14 := ⟨by decide +kernel, rfl⟩
theorem dX9_clear_14 : gw_dc cX9_clear 14 (.getfield 9) 3 17 := ⟨by decide +kernel, rfl⟩
theorem fk_RX9_9 : gw_fk RX9 9 9 0 3 1 true := ⟨_, _, _, ck_9, by decide, by decide, fun h => absurd h (by decide), fun h => absurd h (by decide), fun _ => Or.inr ⟨_, rfl⟩, rfl, Or.inl (gw_mem 484 (by decide +kernel) rfl)⟩
theorem dX9_clear_17 : gw_dc cX9_clear 17 (.arraylength) 1 18 := ⟨by decide +kernel, rfl⟩
theorem dX9_clear_18 : gw_dc cX9_clear 18 (.if_icmp .ge 16) 3 21 := ⟨by decide +kernel, rfl⟩
theorem dX9_clear_34 : decode cX9_clear 34 = .ok (.return_, 1) := by decide +kernel
theorem dX9_clear_21 : gw_dc cX9_clear 21 (.aload_n 0) 1 22 := ⟨by decide +kernel, rfl⟩
theorem dX9_clear_22 : gw_dc cX9_clear 22 (.getfield 9) 3 25 := ⟨by decide +kernel, rfl⟩
theorem dX9_clear_25 : gw_dc cX9_clear 25 (.iload_n 3) 1 26 := ⟨by decide +kernel, rfl⟩
theorem dX9_clear_26 : gw_dc cX9_clear 26 (.lconst 0) 1 27 := ⟨by decide +kernel, rfl⟩
theorem dX9_clear_27 : gw_dc cX9_clear 27 (.lastore) 1 28 := ⟨by decide +kernel, rfl⟩
theorem dX9_clear_28 : gw_dc cX9_clear 28 (.iinc 3 1) 3 31 := ⟨by decide +kernel, rfl⟩
theorem dX9_clear_31 : gw_dc cX9_clear 31 (.goto (-19)) 3 34 := ⟨by decide +kernel, rfl⟩
theorem dX9_at_0 : gw_dc cX9_at 0 (.iload_n 1) 1 1 := ⟨by decide +kernel, rfl⟩
theorem dX9_at_1 : gw_dc cX9_at 1 (.ifCond .lt 21) 3 4 := ⟨by decide +kernel, rfl⟩
theorem dX9_at_22 : gw_dc cX9_at 22 (.ldc2_w 22) 3 25 := ⟨by decide +kernel, rfl⟩
theorem kc_RX9_22 : Cond.constantLong RX9 22 (Int64.ofInt (-1)) ∈ wsG := gw_mem 1082 (by decide +kernel) rfl
theorem dX9_at_25 : decode cX9_at 25 = .ok (.lreturn, 1) := by decide +kernel
theorem dX9_at_4 : gw_dc cX9_at 4 (.iload_n 1) 1 5 := ⟨by decide +kernel, rfl⟩
theorem dX9_at_5 : gw_dc cX9_at 5 (.aload_n 0) 1 6 := ⟨by decide +kernel, rfl⟩
theorem dX9_at_6 : gw_dc cX9_at 6 (.getfield 9) 3 9 := ⟨by decide +kernel, rfl⟩
theorem dX9_at_9 : gw_dc cX9_at 9 (.arraylength) 1 10 := ⟨by decide +kernel, rfl⟩
theorem dX9_at_10 : gw_dc cX9_at 10 (.if_icmp .ge 12) 3 13 := ⟨by decide +kernel, rfl⟩
theorem dX9_at_13 : gw_dc cX9_at 13 (.aload_n 0) 1 14 := ⟨by decide +kernel, rfl⟩
theorem dX9_at_14 : gw_dc cX9_at 14 (.getfield 9) 3 17 := ⟨by decide +kernel, rfl⟩
theorem dX9_at_17 : gw_dc cX9_at 17 (.iload_n 1) 1 18 := ⟨by decide +kernel, rfl⟩
theorem dX9_at_18 : gw_dc cX9_at 18 (.laload) 1 19 := ⟨by decide +kernel, rfl⟩
theorem dX9_at_19 : gw_dc cX9_at 19 (.goto 6) 3 22 := ⟨by decide +kernel, rfl⟩
theorem dX9_cut_0 : gw_dc cX9_cut 0 (.aload_n 0) 1 1 := ⟨by decide +kernel, rfl⟩
theorem dX9_cut_1 : gw_dc cX9_cut 1 (.getfield 19) 3 4 := ⟨by decide +kernel, rfl⟩
theorem dX9_cut_4 : decode cX9_cut 4 = .ok (.tableswitch 42 0 2 #[28, 33, 38], 28) := by decide +kernel
theorem dX9_cut_32 : gw_dc cX9_cut 32 (.lload_n 1) 1 33 := ⟨by decide +kernel, rfl⟩
theorem dX9_cut_33 : gw_dc cX9_cut 33 (.l2i) 1 34 := ⟨by decide +kernel, rfl⟩
theorem dX9_cut_34 : gw_dc cX9_cut 34 (.i2b) 1 35 := ⟨by decide +kernel, rfl⟩
theorem dX9_cut_35 : gw_dc cX9_cut 35 (.i2l) 1 36 := ⟨by decide +kernel, rfl⟩
theorem dX9_cut_36 : decode cX9_cut 36 = .ok (.lreturn, 1) := by decide +kernel
theorem dX9_cut_37 : gw_dc cX9_cut 37 (.lload_n 1) 1 38 := ⟨by decide +kernel, rfl⟩
theorem dX9_cut_38 : gw_dc cX9_cut 38 (.l2i) 1 39 := ⟨by decide +kernel, rfl⟩
theorem dX9_cut_39 : gw_dc cX9_cut 39 (.i2s) 1 40 := ⟨by decide +kernel, rfl⟩
theorem dX9_cut_40 : gw_dc cX9_cut 40 (.i2l) 1 41 := ⟨by decide +kernel, rfl⟩
theorem dX9_cut_41 : decode cX9_cut 41 = .ok (.lreturn, 1) := by decide +kernel
theorem dX9_cut_42 : gw_dc cX9_cut 42 (.lload_n 1) 1 43 := ⟨by decide +kernel, rfl⟩
theorem dX9_cut_43 : gw_dc cX9_cut 43 (.l2i) 1 44 := ⟨by decide +kernel, rfl⟩
theorem dX9_cut_44 : gw_dc cX9_cut 44 (.i2l) 1 45 := ⟨by decide +kernel, rfl⟩
theorem dX9_cut_45 : decode cX9_cut 45 = .ok (.lreturn, 1) := by decide +kernel
theorem dX9_cut_46 : gw_dc cX9_cut 46 (.lload_n 1) 1 47 := ⟨by decide +kernel, rfl⟩
theorem dX9_cut_47 : decode cX9_cut 47 = .ok (.lreturn, 1) := by decide +kernel
theorem dX9_put_0 : gw_dc cX9_put 0 (.iload_n 1) 1 1 := ⟨by decide +kernel, rfl⟩
theorem dX9_put_1 : gw_dc cX9_put 1 (.ifCond .lt 23) 3 4 := ⟨by decide +kernel, rfl⟩
theorem dX9_put_24 : decode cX9_put 24 = .ok (.return_, 1) := by decide +kernel
theorem dX9_put_4 : gw_dc cX9_put 4 (.iload_n 1) 1 5 := ⟨by decide +kernel, rfl⟩
theorem dX9_put_5 : gw_dc cX9_put 5 (.aload_n 0) 1 6 := ⟨by decide +kernel, rfl⟩
theorem dX9_put_6 : gw_dc cX9_put 6 (.getfield 9) 3 9 := ⟨by decide +kernel, rfl⟩
theorem dX9_put_9 : gw_dc cX9_put 9 (.arraylength) 1 10 := ⟨by decide +kernel, rfl⟩
theorem dX9_put_10 : gw_dc cX9_put 10 (.if_icmp .ge 14) 3 13 := ⟨by decide +kernel, rfl⟩
theorem dX9_put_13 : gw_dc cX9_put 13 (.aload_n 0) 1 14 := ⟨by decide +kernel, rfl⟩
theorem dX9_put_14 : gw_dc cX9_put 14 (.getfield 9) 3 17 := ⟨by decide +kernel, rfl⟩
theorem dX9_put_17 : gw_dc cX9_put 17 (.iload_n 1) 1 18 := ⟨by decide +kernel, rfl⟩
theorem dX9_put_18 : gw_dc cX9_put 18 (.aload_n 0) 1 19 := ⟨by decide +kernel, rfl⟩
theorem dX9_put_19 : gw_dc cX9_put 19 (.lload_n 2) 1 20 := ⟨by decide +kernel, rfl⟩
theorem dX9_put_20 : gw_dc cX9_put 20 (.invokevirtual 24) 3 23 := ⟨by decide +kernel, rfl⟩
theorem mv_RX9_24 : gw_mv RX9 24 yX9_cut := ⟨gw_mem 1383 (by decide +kernel) rfl, gw_mem 1385 (by decide +kernel) rfl, gw_mem 36 (by decide +kernel) rfl⟩
theorem my_X9_cut : gw_my yX9_cut cX9_cut 3 (some .long) 1 := ⟨gw_mem 1386 (by decide +kernel) rfl, gw_mem 105 (by decide +kernel) rfl, by decide +kernel, by decide⟩
theorem dX9_put_23 : gw_dc cX9_put 23 (.lastore) 1 24 := ⟨by decide +kernel, rfl⟩
theorem dX0_clear_0 : gw_dc cX0_clear 0 (.aload_n 0) 1 1 := ⟨by decide +kernel, rfl⟩
theorem dX0_clear_1 : gw_dc cX0_clear 1 (.iconst 0) 1 2 := ⟨by decide +kernel, rfl⟩
theorem dX0_clear_2 : gw_dc cX0_clear 2 (.putfield 23) 3 5 := ⟨by decide +kernel, rfl⟩
theorem fk_RX0_23 : gw_fk RX0 23 0 1 3 0 false := ⟨_, _, _, ck_0, by decide, by decide, fun _ => rfl, fun h => absurd h (by decide), fun h => absurd h (by decide), rfl, Or.inl (gw_mem 212 (by decide +kernel) rfl)⟩
theorem dX0_clear_5 : gw_dc cX0_clear 5 (.aload_n 0) 1 6 := ⟨by decide +kernel, rfl⟩
theorem dX0_clear_6 : gw_dc cX0_clear 6 (.iconst 0) 1 7 := ⟨by decide +kernel, rfl⟩
theorem dX0_clear_7 : gw_dc cX0_clear 7 (.putfield 27) 3 10 := ⟨by decide +kernel, rfl⟩
theorem fk_RX0_27 : gw_fk RX0 27 0 2 3 0 false := ⟨_, _, _, ck_0, by decide, by decide, fun _ => rfl, fun h => absurd h (by decide), fun h => absurd h (by decide), rfl, Or.inl (gw_mem 216 (by decide +kernel) rfl)⟩
theorem dX0_clear_10 : decode cX0_clear 10 = .ok (.return_, 1) := by decide +kernel
theorem dX0_add_0 : gw_dc cX0_add 0 (.aload_n 0) 1 1 := ⟨by decide +kernel, rfl⟩
theorem dX0_add_1 : gw_dc cX0_add 1 (.getfield 14) 3 4 := ⟨by decide +kernel, rfl⟩
theorem fk_RX0_14 : gw_fk RX0 14 0 0 3 1 true := ⟨_, _, _, ck_0, by decide, by decide, fun h => absurd h (by decide), fun h => absurd h (by decide), fun _ => Or.inl ⟨_, rfl⟩, rfl, Or.inl (gw_mem 210 (by decide +kernel) rfl)⟩
theorem dX0_add_4 : gw_dc cX0_add 4 (.aload_n 0) 1 5 := ⟨by decide +kernel, rfl⟩
theorem dX0_add_5 : gw_dc cX0_add 5 (.getfield 23) 3 8 := ⟨by decide +kernel, rfl⟩
theorem dX0_add_8 : gw_dc cX0_add 8 (.iload_n 1) 1 9 := ⟨by decide +kernel, rfl⟩
theorem dX0_add_9 : gw_dc cX0_add 9 (.invokevirtual 33) 3 12 := ⟨by decide +kernel, rfl⟩
theorem mv_RX0_33 : gw_mv RX0 33 yX4_put := ⟨gw_mem 206 (by decide +kernel) rfl, gw_mem 207 (by decide +kernel) rfl, gw_mem 208 (by decide +kernel) rfl⟩
theorem my_X4_put : gw_my yX4_put cX4_put 3 none 2 := ⟨gw_mem 209 (by decide +kernel) rfl, gw_mem 100 (by decide +kernel) rfl, by decide +kernel, by decide⟩
theorem dX0_add_12 : gw_dc cX0_add 12 (.aload_n 0) 1 13 := ⟨by decide +kernel, rfl⟩
theorem dX0_add_13 : gw_dc cX0_add 13 (.dup) 1 14 := ⟨by decide +kernel, rfl⟩
theorem dX0_add_14 : gw_dc cX0_add 14 (.getfield 23) 3 17 := ⟨by decide +kernel, rfl⟩
theorem dX0_add_17 : gw_dc cX0_add 17 (.iconst 1) 1 18 := ⟨by decide +kernel, rfl⟩
theorem dX0_add_18 : gw_dc cX0_add 18 (.iadd) 1 19 := ⟨by decide +kernel, rfl⟩
theorem dX0_add_19 : gw_dc cX0_add 19 (.putfield 23) 3 22 := ⟨by decide +kernel, rfl⟩
theorem dX0_add_22 : decode cX0_add 22 = .ok (.return_, 1) := by decide +kernel
theorem dX0_setOne_0 : gw_dc cX0_setOne 0 (.aload_n 0) 1 1 := ⟨by decide +kernel, rfl⟩
theorem dX0_setOne_1 : gw_dc cX0_setOne 1 (.iconst 0) 1 2 := ⟨by decide +kernel, rfl⟩
theorem dX0_setOne_2 : gw_dc cX0_setOne 2 (.putfield 23) 3 5 := ⟨by decide +kernel, rfl⟩
theorem dX0_setOne_5 : gw_dc cX0_setOne 5 (.aload_n 0) 1 6 := ⟨by decide +kernel, rfl⟩
theorem dX0_setOne_6 : gw_dc cX0_setOne 6 (.iload_n 1) 1 7 := ⟨by decide +kernel, rfl⟩
theorem dX0_setOne_7 : gw_dc cX0_setOne 7 (.invokevirtual 30) 3 10 := ⟨by decide +kernel, rfl⟩
theorem mv_RX0_30 : gw_mv RX0 30 yX0_add := ⟨gw_mem 202 (by decide +kernel) rfl, gw_mem 203 (by decide +kernel) rfl, gw_mem 204 (by decide +kernel) rfl⟩
theorem my_X0_add : gw_my yX0_add cX0_add 2 none 1 := ⟨gw_mem 205 (by decide +kernel) rfl, gw_mem 99 (by decide +kernel) rfl, by decide +kernel, by decide⟩
theorem dX0_setOne_10 : decode cX0_setOne 10 = .ok (.return_, 1) := by decide +kernel
theorem dX0_copyOf_0 : gw_dc cX0_copyOf 0 (.aload_n 0) 1 1 := ⟨by decide +kernel, rfl⟩
theorem dX0_copyOf_1 : gw_dc cX0_copyOf 1 (.getfield 14) 3 4 := ⟨by decide +kernel, rfl⟩
theorem dX0_copyOf_4 : gw_dc cX0_copyOf 4 (.aload_n 1) 1 5 := ⟨by decide +kernel, rfl⟩
theorem dX0_copyOf_5 : gw_dc cX0_copyOf 5 (.getfield 14) 3 8 := ⟨by decide +kernel, rfl⟩
theorem dX0_copyOf_8 : gw_dc cX0_copyOf 8 (.invokevirtual 37) 3 11 := ⟨by decide +kernel, rfl⟩
theorem mv_RX0_37 : gw_mv RX0 37 yX4_copyOf := ⟨gw_mem 733 (by decide +kernel) rfl, gw_mem 699 (by decide +kernel) rfl, gw_mem 700 (by decide +kernel) rfl⟩
theorem my_X4_copyOf : gw_my yX4_copyOf cX4_copyOf 3 none 1 := ⟨gw_mem 701 (by decide +kernel) rfl, gw_mem 100 (by decide +kernel) rfl, by decide +kernel, by decide⟩
theorem dX0_copyOf_11 : gw_dc cX0_copyOf 11 (.aload_n 0) 1 12 := ⟨by decide +kernel, rfl⟩
theorem dX0_copyOf_12 : gw_dc cX0_copyOf 12 (.aload_n 1) 1 13 := ⟨by decide +kernel, rfl⟩
theorem dX0_copyOf_13 : gw_dc cX0_copyOf 13 (.getfield 23) 3 16 := ⟨by decide +kernel, rfl⟩
theorem dX0_copyOf_16 : gw_dc cX0_copyOf 16 (.putfield 23) 3 19 := ⟨by decide +kernel, rfl⟩
theorem dX0_copyOf_19 : gw_dc cX0_copyOf 19 (.aload_n 0) 1 20 := ⟨by decide +kernel, rfl⟩
theorem dX0_copyOf_20 : gw_dc cX0_copyOf 20 (.aload_n 1) 1 21 := ⟨by decide +kernel, rfl⟩
theorem dX0_copyOf_21 : gw_dc cX0_copyOf 21 (.getfield 27) 3 24 := ⟨by decide +kernel, rfl⟩
theorem dX0_copyOf_24 : gw_dc cX0_copyOf 24 (.putfield 27) 3 27 := ⟨by decide +kernel, rfl⟩
theorem dX0_copyOf_27 : decode cX0_copyOf 27 = .ok (.return_, 1) := by decide +kernel
/-! Tape, Tray, Law, Mill -/
def itr {α : Type} : Nat → (Nat → α → α) → α → α
  | 0, _, x => x
  | n + 1, f, x => f n (itr n f x)
theorem itr_s {α : Type} (n : Nat) (f : Nat → α → α) (x : α) : itr (n + 1) f x = f n (itr n f x) := rfl
theorem gw_cg {X : Cx} {F : Fr} {G : Gl} {Z : State → Prop} {kc ks : Nat} {M : Mem} {σ σ' : Sg} {pc : Nat} {ls ls' : List (Option AV)} {st : List AV} (e : σ = σ') (hl : ls = ls') (k : gw_W X F G Z kc ks M σ' pc ls' st) : gw_W X F G Z kc ks M σ pc ls st := by rw [e, hl]; exact k
theorem wb8_rg (x : Int) : -128 ≤ wb8 x ∧ wb8 x ≤ 127 := by
  unfold wb8
  rw [Int8.toInt_toInt32]
  have h1 := Int8.le_toInt (Int32.ofInt x).toInt8
  have h2 := Int8.toInt_lt (Int32.ofInt x).toInt8
  omega
def tTakeS (f : Int) (k : Nat) (σ : Sg) : Sg := if 0 ≤ σ 1 1 ∧ σ 1 1 < 900 then su (su σ 2 (σ 1 1).toNat (wb8 (wshr f (24 - 8 * (k : Nat))))) 1 1 (wr (su σ 2 (σ 1 1).toNat (wb8 (wshr f (24 - 8 * (k : Nat)))) 1 1 + 1)) else σ
def tTake (σ : Sg) (f : Int) : Sg := itr 4 (tTakeS f) σ
def tAt (σ : Sg) (i : Int) : Int := if 0 ≤ i ∧ i < 900 then wand (σ 2 i.toNat) 255 else -1
def yFill (σ : Sg) (c k : Nat) : Sg := fun a j => if a = c ∧ j < k then 0 else σ a j
theorem yFill_0 (σ : Sg) (c : Nat) : yFill σ c 0 = σ := by funext a j; simp [yFill]
theorem yFill_succ (σ : Sg) (c k : Nat) : su (yFill σ c k) c k 0 = yFill σ c (k + 1) := rFill_succ σ c k 0
def yAt (σ : Sg) (c : Nat) (i : Int) : Int := if 0 ≤ i ∧ i < 60 then σ c i.toNat else -1
def yCut (sort v : Int) : Int := if sort = 0 then wb8 (wr v) else if sort = 1 then wb16 (wr v) else if sort = 2 then wr v else v
def yPut (σ : Sg) (t : Nat) (i v : Int) : Sg := if 0 ≤ i ∧ i < 60 then su σ (t + 1) i.toNat (yCut (σ t 1) v) else σ

def lAdd (σ : Sg) (w : Nat) (key : Int) : Sg := su (rPut σ (w + 2) 8 (σ w 1) key) w 1 (wr (rPut σ (w + 2) 8 (σ w 1) key w 1 + 1))
def lCopy (σ : Sg) (w f : Nat) : Sg := su (su (rCopy σ (w + 2) (f + 2) 8) w 1 (rCopy σ (w + 2) (f + 2) 8 f 1)) w 2 (su (rCopy σ (w + 2) (f + 2) 8) w 1 (rCopy σ (w + 2) (f + 2) 8 f 1) f 2)
set_option maxRecDepth 4000 in
theorem s_X7_take (ad : Nat → Nat) (σ : Sg)  (f : Int) : gw_Sp yX7_take cX7_take 3 none 1 0 0 [vR (some 1), vI f] (gw_M0 ad) σ (gw_D none (gw_M0 ad) (tTake σ f)) gw_no := by
  refine gw_Sp.of [some (vR (some 1)), some (vI f), none] (by decide +kernel) rfl (Nat.le_of_ble_eq_true rfl) ?_
  intro X G fx het hnm
  refine g_bipush fx dX7_take_0 (by decide) ?_
  refine g_istore_n fx dX7_take_2 (by decide) rfl rfl ?_
  have loop3 : ∀ k : Nat, k ≤ 4 → gw_W X (yX7_take.cls, cX7_take, 3, none, 1, 0, 0) G (gw_Z X G (gw_M0 ad) σ (gw_D none (gw_M0 ad) (tTake σ f)) gw_no 0 0) 0 0 (gw_M0 ad) (itr k (tTakeS f) σ) 3 [some (vR (some 1)), some (vI f), some (vI (24 - 8 * (k : Nat)))] [] := by
    refine up_ind _ (4) (fun k hk ih => ?_)
    refine g_iload_n fx dX7_take_3 rfl ?_
    refine g_if_lt (tgt := 55) fx dX7_take_4 (by decide) (fun h4 => ?_) (fun h4 => ?_)
    · exact g_vret fx rfl dX7_take_55 (by decide) (by decide) (gw_le.rf _) ⟨rfl, rfl, by rw [show k = 4 by omega]; rfl⟩
    · refine g_aload_n fx dX7_take_7 rfl ?_
      refine g_geti fx dX7_take_8 fk_RX7_15 (by decide) o_1 ?_
      refine g_if_lt (tgt := 49) fx dX7_take_11 (by decide) (fun h11 => ?_) (fun h11 => ?_)
      · refine g_iinc1 fx dX7_take_49 (by decide) rfl rfl (by unfold okI; omega) rfl ?_
        refine g_goto (tgt := 3) fx dX7_take_52 (by decide) ?_
        exact gw_cg (by rw [itr_s]; rw [tTakeS]; (repeat first | rw [if_pos (by omega)] | rw [if_neg (by omega)]) <;> rfl) (by rw [show (24 - 8 * ((k + 1 : Nat) : Int)) = 24 - 8 * (k : Nat) + -8 by omega]; rfl) (ih (by omega))
      · refine g_aload_n fx dX7_take_14 rfl ?_
        refine g_geti fx dX7_take_15 fk_RX7_15 (by decide) o_1 ?_
        refine g_aload_n fx dX7_take_18 rfl ?_
        refine g_getr fx dX7_take_19 fk_RX7_9 o_1 rf_1_0 ?_
        refine g_alen fx dX7_take_22 o_2 (by decide) (by decide) ?_
        refine g_icmp_ge (tgt := 49) fx dX7_take_23 (by decide) (fun h23 => ?_) (fun h23 => ?_)
        · refine g_iinc1 fx dX7_take_49 (by decide) rfl rfl (by unfold okI; omega) rfl ?_
          refine g_goto (tgt := 3) fx dX7_take_52 (by decide) ?_
          exact gw_cg (by rw [itr_s]; rw [tTakeS]; (repeat first | rw [if_pos (by omega)] | rw [if_neg (by omega)]) <;> rfl) (by rw [show (24 - 8 * ((k + 1 : Nat) : Int)) = 24 - 8 * (k : Nat) + -8 by omega]; rfl) (ih (by omega))
        · refine g_aload_n fx dX7_take_26 rfl ?_
          refine g_getr fx dX7_take_27 fk_RX7_9 o_1 rf_1_0 ?_
          refine g_aload_n fx dX7_take_30 rfl ?_
          refine g_geti fx dX7_take_31 fk_RX7_15 (by decide) o_1 ?_
          refine g_iload_n fx dX7_take_34 rfl ?_
          refine g_iload_n fx dX7_take_35 rfl ?_
          refine g_ishr fx dX7_take_36 ?_
          refine g_i2b fx dX7_take_37 ?_
          refine g_bast fx dX7_take_38 o_2 (wb8_rg _) (by omega) (by omega) ?_
          refine g_aload_n fx dX7_take_39 rfl ?_
          refine g_dup fx dX7_take_40 rfl ?_
          refine g_geti fx dX7_take_41 fk_RX7_15 (by decide) o_1 ?_
          refine g_iconst fx dX7_take_44 (by unfold okI; omega) ?_
          refine g_iadd fx dX7_take_45 ?_
          refine g_puti fx dX7_take_46 fk_RX7_15 o_1 ?_
          refine g_iinc1 fx dX7_take_49 (by decide) rfl rfl (by unfold okI; omega) rfl ?_
          refine g_goto (tgt := 3) fx dX7_take_52 (by decide) ?_
          exact gw_cg (by rw [itr_s]; rw [tTakeS]; (repeat first | rw [if_pos (by omega)] | rw [if_neg (by omega)]) <;> rfl) (by rw [show (24 - 8 * ((k + 1 : Nat) : Int)) = 24 - 8 * (k : Nat) + -8 by omega]; rfl) (ih (by omega))
  exact loop3 0 (Nat.zero_le _)
set_option maxRecDepth 4000 in
theorem s_X7_at (ad : Nat → Nat) (σ : Sg)  (i : Int) : gw_Sp yX7_at cX7_at 2 (some .int) 1 0 0 [vR (some 1), vI i] (gw_M0 ad) σ (gw_D (some (vI (tAt σ i))) (gw_M0 ad) (σ)) gw_no := by
  refine gw_Sp.of [some (vR (some 1)), some (vI i)] (by decide +kernel) rfl (Nat.le_of_ble_eq_true rfl) ?_
  intro X G fx het hnm
  refine g_iload_n fx dX7_at_0 rfl ?_
  refine g_if_lt (tgt := 26) fx dX7_at_1 (by decide) (fun h1 => ?_) (fun h1 => ?_)
  · refine g_iconst fx dX7_at_26 (by unfold okI; omega) ?_
    exact g_iret fx rfl dX7_at_27 (by decide) (by decide) (gw_le.rf _) ⟨by rw [tAt]; (repeat first | rw [if_pos (by omega)] | rw [if_neg (by omega)]) <;> rfl, rfl, rfl⟩
  · refine g_iload_n fx dX7_at_4 rfl ?_
    refine g_aload_n fx dX7_at_5 rfl ?_
    refine g_getr fx dX7_at_6 fk_RX7_9 o_1 rf_1_0 ?_
    refine g_alen fx dX7_at_9 o_2 (by decide) (by decide) ?_
    refine g_icmp_ge (tgt := 26) fx dX7_at_10 (by decide) (fun h10 => ?_) (fun h10 => ?_)
    · refine g_iconst fx dX7_at_26 (by unfold okI; omega) ?_
      exact g_iret fx rfl dX7_at_27 (by decide) (by decide) (gw_le.rf _) ⟨by rw [tAt]; (repeat first | rw [if_pos (by omega)] | rw [if_neg (by omega)]) <;> rfl, rfl, rfl⟩
    · refine g_aload_n fx dX7_at_13 rfl ?_
      refine g_getr fx dX7_at_14 fk_RX7_9 o_1 rf_1_0 ?_
      refine g_iload_n fx dX7_at_17 rfl ?_
      refine g_bald fx dX7_at_18 o_2 (by omega) (by omega) ?_
      refine g_sipush fx dX7_at_19 (by decide) ?_
      refine g_iand fx dX7_at_22 ?_
      refine g_goto (tgt := 27) fx dX7_at_23 (by decide) ?_
      exact g_iret fx rfl dX7_at_27 (by decide) (by decide) (gw_le.rf _) ⟨by rw [tAt]; (repeat first | rw [if_pos (by omega)] | rw [if_neg (by omega)]) <;> rfl, rfl, rfl⟩
set_option maxRecDepth 4000 in
theorem s_X9_clear (ad : Nat → Nat) (σ : Sg) {t : Nat} (ht : t ∈ gw_trays) (s : Int) (n : Int) : gw_Sp yX9_clear cX9_clear 4 none 1 0 0 [vR (some t), vI s, vI n] (gw_M0 ad) σ (gw_D none (gw_M0 ad) (yFill (su (su σ t 1 s) t 2 n) (t + 1) 60)) gw_no := by
  refine gw_Sp.of [some (vR (some t)), some (vI s), some (vI n), none] (by decide +kernel) rfl (Nat.le_of_ble_eq_true rfl) ?_
  intro X G fx het hnm
  refine g_aload_n fx dX9_clear_0 rfl ?_
  refine g_iload_n fx dX9_clear_1 rfl ?_
  refine g_puti fx dX9_clear_2 fk_RX9_19 (tray_O ht) ?_
  refine g_aload_n fx dX9_clear_5 rfl ?_
  refine g_iload_n fx dX9_clear_6 rfl ?_
  refine g_puti fx dX9_clear_7 fk_RX9_15 (tray_O ht) ?_
  refine g_iconst fx dX9_clear_10 (by unfold okI; omega) ?_
  refine g_istore_n fx dX9_clear_11 (by decide) rfl rfl ?_
  have loop12 : ∀ k : Nat, k ≤ 60 → gw_W X (yX9_clear.cls, cX9_clear, 4, none, 1, 0, 0) G (gw_Z X G (gw_M0 ad) σ (gw_D none (gw_M0 ad) (yFill (su (su σ t 1 s) t 2 n) (t + 1) 60)) gw_no 0 0) 0 0 (gw_M0 ad) (yFill (su (su σ t 1 s) t 2 n) (t + 1) k) 12 [some (vR (some t)), some (vI s), some (vI n), some (vI (k : Nat))] [] := by
    refine up_ind _ (60) (fun k hk ih => ?_)
    refine g_iload_n fx dX9_clear_12 rfl ?_
    refine g_aload_n fx dX9_clear_13 rfl ?_
    refine g_getr fx dX9_clear_14 fk_RX9_9 (tray_O ht) (tray_f ht) ?_
    refine g_alen fx dX9_clear_17 (tray_c ht) (by decide) (by decide) ?_
    refine g_icmp_ge (tgt := 34) fx dX9_clear_18 (by decide) (fun h18 => ?_) (fun h18 => ?_)
    · exact g_vret fx rfl dX9_clear_34 (by decide) (by decide) (gw_le.rf _) ⟨rfl, rfl, by rw [show k = 60 by omega]⟩
    · refine g_aload_n fx dX9_clear_21 rfl ?_
      refine g_getr fx dX9_clear_22 fk_RX9_9 (tray_O ht) (tray_f ht) ?_
      refine g_iload_n fx dX9_clear_25 rfl ?_
      refine g_lconst fx dX9_clear_26 ?_
      refine g_last fx dX9_clear_27 (tray_c ht) (by omega) (by omega) ?_
      refine g_iinc1 fx dX9_clear_28 (by decide) rfl rfl (by unfold okI; omega) rfl ?_
      refine g_goto (tgt := 12) fx dX9_clear_31 (by decide) ?_
      exact gw_cg (yFill_succ _ _ _) rfl (ih (by omega))
  have h := loop12 0 (Nat.zero_le _)
  rw [yFill_0] at h
  exact h
set_option maxRecDepth 4000 in
theorem s_X9_at (ad : Nat → Nat) (σ : Sg) {t : Nat} (ht : t ∈ gw_trays) (i : Int) : gw_Sp yX9_at cX9_at 2 (some .long) 1 0 0 [vR (some t), vI i] (gw_M0 ad) σ (gw_D (some (vJ (yAt σ (t + 1) i))) (gw_M0 ad) (σ)) gw_no := by
  refine gw_Sp.of [some (vR (some t)), some (vI i)] (by decide +kernel) rfl (Nat.le_of_ble_eq_true rfl) ?_
  intro X G fx het hnm
  refine g_iload_n fx dX9_at_0 rfl ?_
  refine g_if_lt (tgt := 22) fx dX9_at_1 (by decide) (fun h1 => ?_) (fun h1 => ?_)
  · refine g_ldcL fx dX9_at_22 kc_RX9_22 (by unfold okJ; omega) ?_
    exact g_lret fx rfl dX9_at_25 (by decide) (by decide) (gw_le.rf _) ⟨by rw [yAt]; (repeat first | rw [if_pos (by omega)] | rw [if_neg (by omega)]) <;> rfl, rfl, rfl⟩
  · refine g_iload_n fx dX9_at_4 rfl ?_
    refine g_aload_n fx dX9_at_5 rfl ?_
    refine g_getr fx dX9_at_6 fk_RX9_9 (tray_O ht) (tray_f ht) ?_
    refine g_alen fx dX9_at_9 (tray_c ht) (by decide) (by decide) ?_
    refine g_icmp_ge (tgt := 22) fx dX9_at_10 (by decide) (fun h10 => ?_) (fun h10 => ?_)
    · refine g_ldcL fx dX9_at_22 kc_RX9_22 (by unfold okJ; omega) ?_
      exact g_lret fx rfl dX9_at_25 (by decide) (by decide) (gw_le.rf _) ⟨by rw [yAt]; (repeat first | rw [if_pos (by omega)] | rw [if_neg (by omega)]) <;> rfl, rfl, rfl⟩
    · refine g_aload_n fx dX9_at_13 rfl ?_
      refine g_getr fx dX9_at_14 fk_RX9_9 (tray_O ht) (tray_f ht) ?_
      refine g_iload_n fx dX9_at_17 rfl ?_
      refine g_lald fx dX9_at_18 (tray_c ht) (by omega) (by omega) ?_
      refine g_goto (tgt := 25) fx dX9_at_19 (by decide) ?_
      exact g_lret fx rfl dX9_at_25 (by decide) (by decide) (gw_le.rf _) ⟨by rw [yAt]; (repeat first | rw [if_pos (by omega)] | rw [if_neg (by omega)]) <;> rfl, rfl, rfl⟩
set_option maxRecDepth 4000 in
theorem s_X9_cut (ad : Nat → Nat) (σ : Sg) {t : Nat} (ht : t ∈ gw_trays) (v : Int) : gw_Sp yX9_cut cX9_cut 3 (some .long) 1 0 0 [vR (some t), vJ v] (gw_M0 ad) σ (gw_D (some (vJ (yCut (σ t 1) v))) (gw_M0 ad) (σ)) gw_no := by
  refine gw_Sp.of [some (vR (some t)), some (vJ v), none] (by decide +kernel) rfl (Nat.le_of_ble_eq_true rfl) ?_
  intro X G fx het hnm
  refine g_aload_n fx dX9_cut_0 rfl ?_
  refine g_geti fx dX9_cut_1 fk_RX9_19 (by decide) (tray_O ht) ?_
  by_cases h4_0 : σ t 1 = 0
  · refine g_tsw 0 (tgt := 32) fx dX9_cut_4 (by omega) (by decide) rfl (by decide) ?_
    refine g_lload_n fx dX9_cut_32 rfl ?_
    refine g_l2i fx dX9_cut_33 ?_
    refine g_i2b fx dX9_cut_34 ?_
    refine g_i2l fx dX9_cut_35 ?_
    exact g_lret fx rfl dX9_cut_36 (by decide) (by decide) (gw_le.rf _) ⟨by unfold yCut; simp [*], rfl, rfl⟩
  by_cases h4_1 : σ t 1 = 1
  · refine g_tsw 1 (tgt := 37) fx dX9_cut_4 (by omega) (by decide) rfl (by decide) ?_
    refine g_lload_n fx dX9_cut_37 rfl ?_
    refine g_l2i fx dX9_cut_38 ?_
    refine g_i2s fx dX9_cut_39 ?_
    refine g_i2l fx dX9_cut_40 ?_
    exact g_lret fx rfl dX9_cut_41 (by decide) (by decide) (gw_le.rf _) ⟨by unfold yCut; simp [*], rfl, rfl⟩
  by_cases h4_2 : σ t 1 = 2
  · refine g_tsw 2 (tgt := 42) fx dX9_cut_4 (by omega) (by decide) rfl (by decide) ?_
    refine g_lload_n fx dX9_cut_42 rfl ?_
    refine g_l2i fx dX9_cut_43 ?_
    refine g_i2l fx dX9_cut_44 ?_
    exact g_lret fx rfl dX9_cut_45 (by decide) (by decide) (gw_le.rf _) ⟨by unfold yCut; simp [*], rfl, rfl⟩
  refine g_tswO (tgt := 46) fx dX9_cut_4 (by omega) (by decide) ?_
  refine g_lload_n fx dX9_cut_46 rfl ?_
  exact g_lret fx rfl dX9_cut_47 (by decide) (by decide) (gw_le.rf _) ⟨by unfold yCut; simp [*], rfl, rfl⟩
set_option maxRecDepth 4000 in
theorem s_X9_put (ad : Nat → Nat) (σ : Sg) {t : Nat} (ht : t ∈ gw_trays) (i : Int) (v : Int) : gw_Sp yX9_put cX9_put 4 none 2 0 0 [vR (some t), vI i, vJ v] (gw_M0 ad) σ (gw_D none (gw_M0 ad) (yPut σ t i v)) gw_no := by
  refine gw_Sp.of [some (vR (some t)), some (vI i), some (vJ v), none] (by decide +kernel) rfl (Nat.le_of_ble_eq_true rfl) ?_
  intro X G fx het hnm
  refine g_iload_n fx dX9_put_0 rfl ?_
  refine g_if_lt (tgt := 24) fx dX9_put_1 (by decide) (fun h1 => ?_) (fun h1 => ?_)
  · exact g_vret fx rfl dX9_put_24 (by decide) (by decide) (gw_le.rf _) ⟨rfl, rfl, by rw [yPut]; (repeat first | rw [if_pos (by omega)] | rw [if_neg (by omega)]) <;> rfl⟩
  · refine g_iload_n fx dX9_put_4 rfl ?_
    refine g_aload_n fx dX9_put_5 rfl ?_
    refine g_getr fx dX9_put_6 fk_RX9_9 (tray_O ht) (tray_f ht) ?_
    refine g_alen fx dX9_put_9 (tray_c ht) (by decide) (by decide) ?_
    refine g_icmp_ge (tgt := 24) fx dX9_put_10 (by decide) (fun h10 => ?_) (fun h10 => ?_)
    · exact g_vret fx rfl dX9_put_24 (by decide) (by decide) (gw_le.rf _) ⟨rfl, rfl, by rw [yPut]; (repeat first | rw [if_pos (by omega)] | rw [if_neg (by omega)]) <;> rfl⟩
    · refine g_aload_n fx dX9_put_13 rfl ?_
      refine g_getr fx dX9_put_14 fk_RX9_9 (tray_O ht) (tray_f ht) ?_
      refine g_iload_n fx dX9_put_17 rfl ?_
      refine g_aload_n fx dX9_put_18 rfl ?_
      refine g_lload_n fx dX9_put_19 rfl ?_
      refine g_callVD fx dX9_put_20 mv_RX9_24 my_X9_cut (s_X9_cut ad _ ht _) (tray_O ht) rfl rfl rfl (Nat.le_of_ble_eq_true rfl) (by decide) (by decide) ?_
      refine g_last fx dX9_put_23 (tray_c ht) (by omega) (by omega) ?_
      exact g_vret fx rfl dX9_put_24 (by decide) (by decide) (gw_le.rf _) ⟨rfl, rfl, by rw [yPut]; (repeat first | rw [if_pos (by omega)] | rw [if_neg (by omega)]) <;> rfl⟩
set_option maxRecDepth 4000 in
theorem s_X0_clear (ad : Nat → Nat) (σ : Sg) {w : Nat} (hw : w ∈ gw_laws) : gw_Sp yX0_clear cX0_clear 1 none 1 0 0 [vR (some w)] (gw_M0 ad) σ (gw_D none (gw_M0 ad) (su (su σ w 1 0) w 2 0)) gw_no := by
  refine gw_Sp.of [some (vR (some w))] (by decide +kernel) rfl (Nat.le_of_ble_eq_true rfl) ?_
  intro X G fx het hnm
  refine g_aload_n fx dX0_clear_0 rfl ?_
  refine g_iconst fx dX0_clear_1 (by unfold okI; omega) ?_
  refine g_puti fx dX0_clear_2 fk_RX0_23 (law_O hw) ?_
  refine g_aload_n fx dX0_clear_5 rfl ?_
  refine g_iconst fx dX0_clear_6 (by unfold okI; omega) ?_
  refine g_puti fx dX0_clear_7 fk_RX0_27 (law_O hw) ?_
  exact g_vret fx rfl dX0_clear_10 (by decide) (by decide) (gw_le.rf _) ⟨rfl, rfl, rfl⟩
set_option maxRecDepth 4000 in
theorem s_X0_add (ad : Nat → Nat) (σ : Sg) {w : Nat} (hw : w ∈ gw_laws) (key : Int) : gw_Sp yX0_add cX0_add 2 none 2 0 0 [vR (some w), vI key] (gw_M0 ad) σ (gw_D none (gw_M0 ad) (lAdd σ w key)) gw_no := by
  refine gw_Sp.of [some (vR (some w)), some (vI key)] (by decide +kernel) rfl (Nat.le_of_ble_eq_true rfl) ?_
  intro X G fx het hnm
  refine g_aload_n fx dX0_add_0 rfl ?_
  refine g_getr fx dX0_add_1 fk_RX0_14 (law_O hw) (law_f hw) ?_
  refine g_aload_n fx dX0_add_4 rfl ?_
  refine g_geti fx dX0_add_5 fk_RX0_23 (by decide) (law_O hw) ?_
  refine g_iload_n fx dX0_add_8 rfl ?_
  refine g_callVD0 fx dX0_add_9 mv_RX0_33 my_X4_put (s_X4_putC ad _ (law_h hw) (show (w + 1) + 1 = (w + 2) from rfl) _ _) (row_O (law_h hw)) rfl rfl rfl (Nat.le_of_ble_eq_true rfl) (by decide) (by decide) ?_
  refine g_aload_n fx dX0_add_12 rfl ?_
  refine g_dup fx dX0_add_13 rfl ?_
  refine g_geti fx dX0_add_14 fk_RX0_23 (by decide) (law_O hw) ?_
  refine g_iconst fx dX0_add_17 (by unfold okI; omega) ?_
  refine g_iadd fx dX0_add_18 ?_
  refine g_puti fx dX0_add_19 fk_RX0_23 (law_O hw) ?_
  exact g_vret fx rfl dX0_add_22 (by decide) (by decide) (gw_le.rf _) ⟨rfl, rfl, rfl⟩
set_option maxRecDepth 4000 in
theorem s_X0_setOne (ad : Nat → Nat) (σ : Sg) {w : Nat} (hw : w ∈ gw_laws) (key : Int) : gw_Sp yX0_setOne cX0_setOne 2 none 3 0 0 [vR (some w), vI key] (gw_M0 ad) σ (gw_D none (gw_M0 ad) (lAdd (su σ w 1 0) w key)) gw_no := by
  refine gw_Sp.of [some (vR (some w)), some (vI key)] (by decide +kernel) rfl (Nat.le_of_ble_eq_true rfl) ?_
  intro X G fx het hnm
  refine g_aload_n fx dX0_setOne_0 rfl ?_
  refine g_iconst fx dX0_setOne_1 (by unfold okI; omega) ?_
  refine g_puti fx dX0_setOne_2 fk_RX0_23 (law_O hw) ?_
  refine g_aload_n fx dX0_setOne_5 rfl ?_
  refine g_iload_n fx dX0_setOne_6 rfl ?_
  refine g_callVD0 fx dX0_setOne_7 mv_RX0_30 my_X0_add (s_X0_add ad _ hw _) (law_O hw) rfl rfl rfl (Nat.le_of_ble_eq_true rfl) (by decide) (by decide) ?_
  exact g_vret fx rfl dX0_setOne_10 (by decide) (by decide) (gw_le.rf _) ⟨rfl, rfl, rfl⟩
set_option maxRecDepth 4000 in
theorem s_X0_copyOf (ad : Nat → Nat) (σ : Sg) {w : Nat} (hw : w ∈ gw_laws) {f : Nat} (hf : f ∈ gw_laws) (hne : w ≠ f) : gw_Sp yX0_copyOf cX0_copyOf 2 none 2 0 0 [vR (some w), vR (some f)] (gw_M0 ad) σ (gw_D none (gw_M0 ad) (lCopy σ w f)) gw_no := by
  refine gw_Sp.of [some (vR (some w)), some (vR (some f))] (by decide +kernel) rfl (Nat.le_of_ble_eq_true rfl) ?_
  intro X G fx het hnm
  refine g_aload_n fx dX0_copyOf_0 rfl ?_
  refine g_getr fx dX0_copyOf_1 fk_RX0_14 (law_O hw) (law_f hw) ?_
  refine g_aload_n fx dX0_copyOf_4 rfl ?_
  refine g_getr fx dX0_copyOf_5 fk_RX0_14 (law_O hf) (law_f hf) ?_
  refine g_callVD0 fx dX0_copyOf_8 mv_RX0_37 my_X4_copyOf (s_X4_copyOfC ad _ (law_h hw) (law_h hf) (show (w + 1) + 1 = (w + 2) from rfl) (show (f + 1) + 1 = (f + 2) from rfl) (by omega)) (row_O (law_h hw)) rfl rfl rfl (Nat.le_of_ble_eq_true rfl) (by decide) (by decide) ?_
  refine g_aload_n fx dX0_copyOf_11 rfl ?_
  refine g_aload_n fx dX0_copyOf_12 rfl ?_
  refine g_geti fx dX0_copyOf_13 fk_RX0_23 (by decide) (law_O hf) ?_
  refine g_puti fx dX0_copyOf_16 fk_RX0_23 (law_O hw) ?_
  refine g_aload_n fx dX0_copyOf_19 rfl ?_
  refine g_aload_n fx dX0_copyOf_20 rfl ?_
  refine g_geti fx dX0_copyOf_21 fk_RX0_27 (by decide) (law_O hf) ?_
  refine g_puti fx dX0_copyOf_24 fk_RX0_27 (law_O hw) ?_
  exact g_vret fx rfl dX0_copyOf_27 (by decide) (by decide) (gw_le.rf _) ⟨rfl, rfl, rfl⟩
