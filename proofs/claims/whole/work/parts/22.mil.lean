theorem dX1_clear_0 : gw_dc cX1_clear 0 (.aload_n 0) 1 1 := ⟨by decide +kernel, rfl⟩
theorem dX1_clear_1 : gw_dc cX1_clear 1 (.iconst 0) 1 2 := ⟨by decide +kernel, rfl⟩
theorem dX1_clear_2 : gw_dc cX1_clear 2 (.putfield 51) 3 5 := ⟨by decide +kernel, rfl⟩
theorem fk_RX1_51 : gw_fk RX1 51 1 1 16 0 false := ⟨_, _, _, ck_1, by decide, by decide, fun _ => rfl, fun h => absurd h (by decide), fun h => absurd h (by decide), rfl, Or.inl (gw_mem 233 (by decide +kernel) rfl)⟩
theorem dX1_clear_5 : gw_dc cX1_clear 5 (.aload_n 0) 1 6 := ⟨by decide +kernel, rfl⟩
theorem dX1_clear_6 : gw_dc cX1_clear 6 (.iconst 0) 1 7 := ⟨by decide +kernel, rfl⟩
theorem dX1_clear_7 : gw_dc cX1_clear 7 (.putfield 55) 3 10 := ⟨by decide +kernel, rfl⟩
theorem fk_RX1_55 : gw_fk RX1 55 1 2 16 0 false := ⟨_, _, _, ck_1, by decide, by decide, fun _ => rfl, fun h => absurd h (by decide), fun h => absurd h (by decide), rfl, Or.inl (gw_mem 236 (by decide +kernel) rfl)⟩
theorem dX1_clear_10 : gw_dc cX1_clear 10 (.aload_n 0) 1 11 := ⟨by decide +kernel, rfl⟩
theorem dX1_clear_11 : gw_dc cX1_clear 11 (.iconst 0) 1 12 := ⟨by decide +kernel, rfl⟩
theorem dX1_clear_12 : gw_dc cX1_clear 12 (.putfield 58) 3 15 := ⟨by decide +kernel, rfl⟩
theorem fk_RX1_58 : gw_fk RX1 58 1 3 16 0 false := ⟨_, _, _, ck_1, by decide, by decide, fun _ => rfl, fun h => absurd h (by decide), fun h => absurd h (by decide), rfl, Or.inl (gw_mem 240 (by decide +kernel) rfl)⟩
theorem dX1_clear_15 : gw_dc cX1_clear 15 (.aload_n 0) 1 16 := ⟨by decide +kernel, rfl⟩
theorem dX1_clear_16 : gw_dc cX1_clear 16 (.iconst 0) 1 17 := ⟨by decide +kernel, rfl⟩
theorem dX1_clear_17 : gw_dc cX1_clear 17 (.putfield 61) 3 20 := ⟨by decide +kernel, rfl⟩
theorem fk_RX1_61 : gw_fk RX1 61 1 4 16 0 false := ⟨_, _, _, ck_1, by decide, by decide, fun _ => rfl, fun h => absurd h (by decide), fun h => absurd h (by decide), rfl, Or.inl (gw_mem 245 (by decide +kernel) rfl)⟩
theorem dX1_clear_20 : gw_dc cX1_clear 20 (.aload_n 0) 1 21 := ⟨by decide +kernel, rfl⟩
theorem dX1_clear_21 : gw_dc cX1_clear 21 (.iconst 0) 1 22 := ⟨by decide +kernel, rfl⟩
theorem dX1_clear_22 : gw_dc cX1_clear 22 (.putfield 64) 3 25 := ⟨by decide +kernel, rfl⟩
theorem fk_RX1_64 : gw_fk RX1 64 1 5 16 0 false := ⟨_, _, _, ck_1, by decide, by decide, fun _ => rfl, fun h => absurd h (by decide), fun h => absurd h (by decide), rfl, Or.inl (gw_mem 249 (by decide +kernel) rfl)⟩
theorem dX1_clear_25 : decode cX1_clear 25 = .ok (.return_, 1) := by decide +kernel
theorem dX1_addStone_0 : gw_dc cX1_addStone 0 (.aload_n 0) 1 1 := ⟨by decide +kernel, rfl⟩
theorem dX1_addStone_1 : gw_dc cX1_addStone 1 (.getfield 23) 3 4 := ⟨by decide +kernel, rfl⟩
theorem fk_RX1_23 : gw_fk RX1 23 1 7 16 1 true := ⟨_, _, _, ck_1, by decide, by decide, fun h => absurd h (by decide), fun h => absurd h (by decide), fun _ => Or.inl ⟨_, rfl⟩, rfl, Or.inl (gw_mem 255 (by decide +kernel) rfl)⟩
theorem dX1_addStone_4 : gw_dc cX1_addStone 4 (.aload_n 0) 1 5 := ⟨by decide +kernel, rfl⟩
theorem dX1_addStone_5 : gw_dc cX1_addStone 5 (.getfield 55) 3 8 := ⟨by decide +kernel, rfl⟩
theorem dX1_addStone_8 : gw_dc cX1_addStone 8 (.iload_n 1) 1 9 := ⟨by decide +kernel, rfl⟩
theorem dX1_addStone_9 : gw_dc cX1_addStone 9 (.invokevirtual 67) 3 12 := ⟨by decide +kernel, rfl⟩
theorem mv_RX1_67 : gw_mv RX1 67 yX4_put := ⟨gw_mem 504 (by decide +kernel) rfl, gw_mem 207 (by decide +kernel) rfl, gw_mem 208 (by decide +kernel) rfl⟩
theorem dX1_addStone_12 : gw_dc cX1_addStone 12 (.aload_n 0) 1 13 := ⟨by decide +kernel, rfl⟩
theorem dX1_addStone_13 : gw_dc cX1_addStone 13 (.dup) 1 14 := ⟨by decide +kernel, rfl⟩
theorem dX1_addStone_14 : gw_dc cX1_addStone 14 (.getfield 55) 3 17 := ⟨by decide +kernel, rfl⟩
theorem dX1_addStone_17 : gw_dc cX1_addStone 17 (.iconst 1) 1 18 := ⟨by decide +kernel, rfl⟩
theorem dX1_addStone_18 : gw_dc cX1_addStone 18 (.iadd) 1 19 := ⟨by decide +kernel, rfl⟩
theorem dX1_addStone_19 : gw_dc cX1_addStone 19 (.putfield 55) 3 22 := ⟨by decide +kernel, rfl⟩
theorem dX1_addStone_22 : decode cX1_addStone 22 = .ok (.return_, 1) := by decide +kernel
theorem dX1_standAtLeastOneStone_0 : gw_dc cX1_standAtLeastOneStone 0 (.aload_n 0) 1 1 := ⟨by decide +kernel, rfl⟩
theorem dX1_standAtLeastOneStone_1 : gw_dc cX1_standAtLeastOneStone 1 (.getfield 55) 3 4 := ⟨by decide +kernel, rfl⟩
theorem dX1_standAtLeastOneStone_4 : gw_dc cX1_standAtLeastOneStone 4 (.ifCond .ne 8) 3 7 := ⟨by decide +kernel, rfl⟩
theorem dX1_standAtLeastOneStone_12 : decode cX1_standAtLeastOneStone 12 = .ok (.return_, 1) := by decide +kernel
theorem dX1_standAtLeastOneStone_7 : gw_dc cX1_standAtLeastOneStone 7 (.aload_n 0) 1 8 := ⟨by decide +kernel, rfl⟩
theorem dX1_standAtLeastOneStone_8 : gw_dc cX1_standAtLeastOneStone 8 (.iconst 1) 1 9 := ⟨by decide +kernel, rfl⟩
theorem dX1_standAtLeastOneStone_9 : gw_dc cX1_standAtLeastOneStone 9 (.invokevirtual 71) 3 12 := ⟨by decide +kernel, rfl⟩
theorem mv_RX1_71 : gw_mv RX1 71 yX1_addStone := ⟨gw_mem 500 (by decide +kernel) rfl, gw_mem 501 (by decide +kernel) rfl, gw_mem 502 (by decide +kernel) rfl⟩
theorem my_X1_addStone : gw_my yX1_addStone cX1_addStone 2 none 1 := ⟨gw_mem 503 (by decide +kernel) rfl, gw_mem 98 (by decide +kernel) rfl, by decide +kernel, by decide⟩
theorem dX1_setWhole_0 : gw_dc cX1_setWhole 0 (.aload_n 0) 1 1 := ⟨by decide +kernel, rfl⟩
theorem dX1_setWhole_1 : gw_dc cX1_setWhole 1 (.getfield 27) 3 4 := ⟨by decide +kernel, rfl⟩
theorem fk_RX1_27 : gw_fk RX1 27 1 8 16 1 true := ⟨_, _, _, ck_1, by decide, by decide, fun h => absurd h (by decide), fun h => absurd h (by decide), fun _ => Or.inl ⟨_, rfl⟩, rfl, Or.inl (gw_mem 258 (by decide +kernel) rfl)⟩
theorem dX1_setWhole_4 : gw_dc cX1_setWhole 4 (.iload_n 1) 1 5 := ⟨by decide +kernel, rfl⟩
theorem dX1_setWhole_5 : gw_dc cX1_setWhole 5 (.iload_n 2) 1 6 := ⟨by decide +kernel, rfl⟩
theorem dX1_setWhole_6 : gw_dc cX1_setWhole 6 (.invokevirtual 67) 3 9 := ⟨by decide +kernel, rfl⟩
theorem dX1_setWhole_9 : gw_dc cX1_setWhole 9 (.aload_n 0) 1 10 := ⟨by decide +kernel, rfl⟩
theorem dX1_setWhole_10 : gw_dc cX1_setWhole 10 (.getfield 45) 3 13 := ⟨by decide +kernel, rfl⟩
theorem fk_RX1_45 : gw_fk RX1 45 1 14 16 1 true := ⟨_, _, _, ck_1, by decide, by decide, fun h => absurd h (by decide), fun h => absurd h (by decide), fun _ => Or.inl ⟨_, rfl⟩, rfl, Or.inl (gw_mem 280 (by decide +kernel) rfl)⟩
theorem dX1_setWhole_13 : gw_dc cX1_setWhole 13 (.iload_n 1) 1 14 := ⟨by decide +kernel, rfl⟩
theorem dX1_setWhole_14 : gw_dc cX1_setWhole 14 (.iconst 1) 1 15 := ⟨by decide +kernel, rfl⟩
theorem dX1_setWhole_15 : gw_dc cX1_setWhole 15 (.invokevirtual 67) 3 18 := ⟨by decide +kernel, rfl⟩
theorem dX1_setWhole_18 : gw_dc cX1_setWhole 18 (.aload_n 0) 1 19 := ⟨by decide +kernel, rfl⟩
theorem dX1_setWhole_19 : gw_dc cX1_setWhole 19 (.getfield 48) 3 22 := ⟨by decide +kernel, rfl⟩
theorem fk_RX1_48 : gw_fk RX1 48 1 15 16 1 true := ⟨_, _, _, ck_1, by decide, by decide, fun h => absurd h (by decide), fun h => absurd h (by decide), fun _ => Or.inl ⟨_, rfl⟩, rfl, Or.inl (gw_mem 284 (by decide +kernel) rfl)⟩
theorem dX1_setWhole_22 : gw_dc cX1_setWhole 22 (.iload_n 1) 1 23 := ⟨by decide +kernel, rfl⟩
theorem dX1_setWhole_23 : gw_dc cX1_setWhole 23 (.bipush 8) 2 25 := ⟨by decide +kernel, rfl⟩
theorem dX1_setWhole_25 : gw_dc cX1_setWhole 25 (.imul) 1 26 := ⟨by decide +kernel, rfl⟩
theorem dX1_setWhole_26 : gw_dc cX1_setWhole 26 (.iload_n 2) 1 27 := ⟨by decide +kernel, rfl⟩
theorem dX1_setWhole_27 : gw_dc cX1_setWhole 27 (.invokevirtual 67) 3 30 := ⟨by decide +kernel, rfl⟩
theorem dX1_setWhole_30 : decode cX1_setWhole 30 = .ok (.return_, 1) := by decide +kernel
theorem dX1_addSack_0 : gw_dc cX1_addSack 0 (.aload_n 0) 1 1 := ⟨by decide +kernel, rfl⟩
theorem dX1_addSack_1 : gw_dc cX1_addSack 1 (.getfield 30) 3 4 := ⟨by decide +kernel, rfl⟩
theorem fk_RX1_30 : gw_fk RX1 30 1 9 16 1 true := ⟨_, _, _, ck_1, by decide, by decide, fun h => absurd h (by decide), fun h => absurd h (by decide), fun _ => Or.inl ⟨_, rfl⟩, rfl, Or.inl (gw_mem 261 (by decide +kernel) rfl)⟩
theorem dX1_addSack_4 : gw_dc cX1_addSack 4 (.aload_n 0) 1 5 := ⟨by decide +kernel, rfl⟩
theorem dX1_addSack_5 : gw_dc cX1_addSack 5 (.getfield 64) 3 8 := ⟨by decide +kernel, rfl⟩
theorem dX1_addSack_8 : gw_dc cX1_addSack 8 (.iload_n 2) 1 9 := ⟨by decide +kernel, rfl⟩
theorem dX1_addSack_9 : gw_dc cX1_addSack 9 (.invokevirtual 67) 3 12 := ⟨by decide +kernel, rfl⟩
theorem dX1_addSack_12 : gw_dc cX1_addSack 12 (.aload_n 0) 1 13 := ⟨by decide +kernel, rfl⟩
theorem dX1_addSack_13 : gw_dc cX1_addSack 13 (.getfield 33) 3 16 := ⟨by decide +kernel, rfl⟩
theorem fk_RX1_33 : gw_fk RX1 33 1 10 16 1 true := ⟨_, _, _, ck_1, by decide, by decide, fun h => absurd h (by decide), fun h => absurd h (by decide), fun _ => Or.inl ⟨_, rfl⟩, rfl, Or.inl (gw_mem 264 (by decide +kernel) rfl)⟩
theorem dX1_addSack_16 : gw_dc cX1_addSack 16 (.aload_n 0) 1 17 := ⟨by decide +kernel, rfl⟩
theorem dX1_addSack_17 : gw_dc cX1_addSack 17 (.getfield 64) 3 20 := ⟨by decide +kernel, rfl⟩
theorem dX1_addSack_20 : gw_dc cX1_addSack 20 (.iload_n 3) 1 21 := ⟨by decide +kernel, rfl⟩
theorem dX1_addSack_21 : gw_dc cX1_addSack 21 (.invokevirtual 67) 3 24 := ⟨by decide +kernel, rfl⟩
theorem dX1_addSack_24 : gw_dc cX1_addSack 24 (.aload_n 0) 1 25 := ⟨by decide +kernel, rfl⟩
theorem dX1_addSack_25 : gw_dc cX1_addSack 25 (.getfield 36) 3 28 := ⟨by decide +kernel, rfl⟩
theorem fk_RX1_36 : gw_fk RX1 36 1 11 16 1 true := ⟨_, _, _, ck_1, by decide, by decide, fun h => absurd h (by decide), fun h => absurd h (by decide), fun _ => Or.inl ⟨_, rfl⟩, rfl, Or.inl (gw_mem 268 (by decide +kernel) rfl)⟩
theorem dX1_addSack_28 : gw_dc cX1_addSack 28 (.aload_n 0) 1 29 := ⟨by decide +kernel, rfl⟩
theorem dX1_addSack_29 : gw_dc cX1_addSack 29 (.getfield 64) 3 32 := ⟨by decide +kernel, rfl⟩
theorem dX1_addSack_32 : gw_dc cX1_addSack 32 (.iload 4) 2 34 := ⟨by decide +kernel, rfl⟩
theorem dX1_addSack_34 : gw_dc cX1_addSack 34 (.invokevirtual 67) 3 37 := ⟨by decide +kernel, rfl⟩
theorem dX1_addSack_37 : gw_dc cX1_addSack 37 (.aload_n 0) 1 38 := ⟨by decide +kernel, rfl⟩
theorem dX1_addSack_38 : gw_dc cX1_addSack 38 (.getfield 39) 3 41 := ⟨by decide +kernel, rfl⟩
theorem fk_RX1_39 : gw_fk RX1 39 1 12 16 1 true := ⟨_, _, _, ck_1, by decide, by decide, fun h => absurd h (by decide), fun h => absurd h (by decide), fun _ => Or.inl ⟨_, rfl⟩, rfl, Or.inl (gw_mem 272 (by decide +kernel) rfl)⟩
theorem dX1_addSack_41 : gw_dc cX1_addSack 41 (.aload_n 0) 1 42 := ⟨by decide +kernel, rfl⟩
theorem dX1_addSack_42 : gw_dc cX1_addSack 42 (.getfield 64) 3 45 := ⟨by decide +kernel, rfl⟩
theorem dX1_addSack_45 : gw_dc cX1_addSack 45 (.iload 5) 2 47 := ⟨by decide +kernel, rfl⟩
theorem dX1_addSack_47 : gw_dc cX1_addSack 47 (.invokevirtual 67) 3 50 := ⟨by decide +kernel, rfl⟩
theorem dX1_addSack_50 : gw_dc cX1_addSack 50 (.aload_n 0) 1 51 := ⟨by decide +kernel, rfl⟩
theorem dX1_addSack_51 : gw_dc cX1_addSack 51 (.getfield 42) 3 54 := ⟨by decide +kernel, rfl⟩
theorem fk_RX1_42 : gw_fk RX1 42 1 13 16 1 true := ⟨_, _, _, ck_1, by decide, by decide, fun h => absurd h (by decide), fun h => absurd h (by decide), fun _ => Or.inl ⟨_, rfl⟩, rfl, Or.inl (gw_mem 277 (by decide +kernel) rfl)⟩
theorem dX1_addSack_54 : gw_dc cX1_addSack 54 (.aload_n 0) 1 55 := ⟨by decide +kernel, rfl⟩
theorem dX1_addSack_55 : gw_dc cX1_addSack 55 (.getfield 64) 3 58 := ⟨by decide +kernel, rfl⟩
theorem dX1_addSack_58 : gw_dc cX1_addSack 58 (.iload 6) 2 60 := ⟨by decide +kernel, rfl⟩
theorem dX1_addSack_60 : gw_dc cX1_addSack 60 (.invokevirtual 67) 3 63 := ⟨by decide +kernel, rfl⟩
theorem dX1_addSack_63 : gw_dc cX1_addSack 63 (.aload_n 0) 1 64 := ⟨by decide +kernel, rfl⟩
theorem dX1_addSack_64 : gw_dc cX1_addSack 64 (.aload_n 0) 1 65 := ⟨by decide +kernel, rfl⟩
theorem dX1_addSack_65 : gw_dc cX1_addSack 65 (.getfield 64) 3 68 := ⟨by decide +kernel, rfl⟩
theorem dX1_addSack_68 : gw_dc cX1_addSack 68 (.iload_n 1) 1 69 := ⟨by decide +kernel, rfl⟩
theorem dX1_addSack_69 : gw_dc cX1_addSack 69 (.invokevirtual 74) 3 72 := ⟨by decide +kernel, rfl⟩
theorem mv_RX1_74 : gw_mv RX1 74 yX1_setWhole := ⟨gw_mem 576 (by decide +kernel) rfl, gw_mem 577 (by decide +kernel) rfl, gw_mem 578 (by decide +kernel) rfl⟩
theorem my_X1_setWhole : gw_my yX1_setWhole cX1_setWhole 3 none 2 := ⟨gw_mem 579 (by decide +kernel) rfl, gw_mem 98 (by decide +kernel) rfl, by decide +kernel, by decide⟩
theorem dX1_addSack_72 : gw_dc cX1_addSack 72 (.aload_n 0) 1 73 := ⟨by decide +kernel, rfl⟩
theorem dX1_addSack_73 : gw_dc cX1_addSack 73 (.dup) 1 74 := ⟨by decide +kernel, rfl⟩
theorem dX1_addSack_74 : gw_dc cX1_addSack 74 (.getfield 64) 3 77 := ⟨by decide +kernel, rfl⟩
theorem dX1_addSack_77 : gw_dc cX1_addSack 77 (.iconst 1) 1 78 := ⟨by decide +kernel, rfl⟩
theorem dX1_addSack_78 : gw_dc cX1_addSack 78 (.iadd) 1 79 := ⟨by decide +kernel, rfl⟩
theorem dX1_addSack_79 : gw_dc cX1_addSack 79 (.putfield 64) 3 82 := ⟨by decide +kernel, rfl⟩
theorem dX1_addSack_82 : decode cX1_addSack 82 = .ok (.return_, 1) := by decide +kernel
theorem dX1_setWay_0 : gw_dc cX1_setWay 0 (.aload_n 0) 1 1 := ⟨by decide +kernel, rfl⟩
theorem dX1_setWay_1 : gw_dc cX1_setWay 1 (.getfield 45) 3 4 := ⟨by decide +kernel, rfl⟩
theorem dX1_setWay_4 : gw_dc cX1_setWay 4 (.iload_n 1) 1 5 := ⟨by decide +kernel, rfl⟩
theorem dX1_setWay_5 : gw_dc cX1_setWay 5 (.iload_n 3) 1 6 := ⟨by decide +kernel, rfl⟩
theorem dX1_setWay_6 : gw_dc cX1_setWay 6 (.invokevirtual 67) 3 9 := ⟨by decide +kernel, rfl⟩
theorem dX1_setWay_9 : gw_dc cX1_setWay 9 (.iconst 0) 1 10 := ⟨by decide +kernel, rfl⟩
theorem dX1_setWay_10 : gw_dc cX1_setWay 10 (.istore 4) 2 12 := ⟨by decide +kernel, rfl⟩
theorem dX1_setWay_12 : gw_dc cX1_setWay 12 (.iload 4) 2 14 := ⟨by decide +kernel, rfl⟩
theorem dX1_setWay_14 : gw_dc cX1_setWay 14 (.iload_n 3) 1 15 := ⟨by decide +kernel, rfl⟩
theorem dX1_setWay_15 : gw_dc cX1_setWay 15 (.if_icmp .ge 36) 3 18 := ⟨by decide +kernel, rfl⟩
theorem dX1_setWay_51 : decode cX1_setWay 51 = .ok (.return_, 1) := by decide +kernel
theorem dX1_setWay_18 : gw_dc cX1_setWay 18 (.iload 4) 2 20 := ⟨by decide +kernel, rfl⟩
theorem dX1_setWay_20 : gw_dc cX1_setWay 20 (.bipush 8) 2 22 := ⟨by decide +kernel, rfl⟩
theorem dX1_setWay_22 : gw_dc cX1_setWay 22 (.if_icmp .ge 29) 3 25 := ⟨by decide +kernel, rfl⟩
theorem dX1_setWay_25 : gw_dc cX1_setWay 25 (.aload_n 0) 1 26 := ⟨by decide +kernel, rfl⟩
theorem dX1_setWay_26 : gw_dc cX1_setWay 26 (.getfield 48) 3 29 := ⟨by decide +kernel, rfl⟩
theorem dX1_setWay_29 : gw_dc cX1_setWay 29 (.iload_n 1) 1 30 := ⟨by decide +kernel, rfl⟩
theorem dX1_setWay_30 : gw_dc cX1_setWay 30 (.bipush 8) 2 32 := ⟨by decide +kernel, rfl⟩
theorem dX1_setWay_32 : gw_dc cX1_setWay 32 (.imul) 1 33 := ⟨by decide +kernel, rfl⟩
theorem dX1_setWay_33 : gw_dc cX1_setWay 33 (.iload 4) 2 35 := ⟨by decide +kernel, rfl⟩
theorem dX1_setWay_35 : gw_dc cX1_setWay 35 (.iadd) 1 36 := ⟨by decide +kernel, rfl⟩
theorem dX1_setWay_36 : gw_dc cX1_setWay 36 (.aload_n 2) 1 37 := ⟨by decide +kernel, rfl⟩
theorem dX1_setWay_37 : gw_dc cX1_setWay 37 (.iload 4) 2 39 := ⟨by decide +kernel, rfl⟩
theorem dX1_setWay_39 : gw_dc cX1_setWay 39 (.invokevirtual 77) 3 42 := ⟨by decide +kernel, rfl⟩
theorem mv_RX1_77 : gw_mv RX1 77 yX4_at := ⟨gw_mem 572 (by decide +kernel) rfl, gw_mem 573 (by decide +kernel) rfl, gw_mem 574 (by decide +kernel) rfl⟩
theorem my_X4_at : gw_my yX4_at cX4_at 2 (some .int) 1 := ⟨gw_mem 575 (by decide +kernel) rfl, gw_mem 100 (by decide +kernel) rfl, by decide +kernel, by decide⟩
theorem dX1_setWay_42 : gw_dc cX1_setWay 42 (.invokevirtual 67) 3 45 := ⟨by decide +kernel, rfl⟩
theorem dX1_setWay_45 : gw_dc cX1_setWay 45 (.iinc 4 1) 3 48 := ⟨by decide +kernel, rfl⟩
theorem dX1_setWay_48 : gw_dc cX1_setWay 48 (.goto (-36)) 3 51 := ⟨by decide +kernel, rfl⟩
theorem dX1_cutAt_0 : gw_dc cX1_cutAt 0 (.aload_n 0) 1 1 := ⟨by decide +kernel, rfl⟩
theorem dX1_cutAt_1 : gw_dc cX1_cutAt 1 (.getfield 48) 3 4 := ⟨by decide +kernel, rfl⟩
theorem dX1_cutAt_4 : gw_dc cX1_cutAt 4 (.iload_n 1) 1 5 := ⟨by decide +kernel, rfl⟩
theorem dX1_cutAt_5 : gw_dc cX1_cutAt 5 (.bipush 8) 2 7 := ⟨by decide +kernel, rfl⟩
theorem dX1_cutAt_7 : gw_dc cX1_cutAt 7 (.imul) 1 8 := ⟨by decide +kernel, rfl⟩
theorem dX1_cutAt_8 : gw_dc cX1_cutAt 8 (.iload_n 2) 1 9 := ⟨by decide +kernel, rfl⟩
theorem dX1_cutAt_9 : gw_dc cX1_cutAt 9 (.iadd) 1 10 := ⟨by decide +kernel, rfl⟩
theorem dX1_cutAt_10 : gw_dc cX1_cutAt 10 (.invokevirtual 77) 3 13 := ⟨by decide +kernel, rfl⟩
theorem dX1_cutAt_13 : decode cX1_cutAt 13 = .ok (.ireturn, 1) := by decide +kernel
theorem dX1_isWhole_0 : gw_dc cX1_isWhole 0 (.aload_n 0) 1 1 := ⟨by decide +kernel, rfl⟩
theorem dX1_isWhole_1 : gw_dc cX1_isWhole 1 (.getfield 45) 3 4 := ⟨by decide +kernel, rfl⟩
theorem dX1_isWhole_4 : gw_dc cX1_isWhole 4 (.iload_n 1) 1 5 := ⟨by decide +kernel, rfl⟩
theorem dX1_isWhole_5 : gw_dc cX1_isWhole 5 (.invokevirtual 77) 3 8 := ⟨by decide +kernel, rfl⟩
theorem dX1_isWhole_8 : gw_dc cX1_isWhole 8 (.iconst 1) 1 9 := ⟨by decide +kernel, rfl⟩
theorem dX1_isWhole_9 : gw_dc cX1_isWhole 9 (.if_icmp .ne 7) 3 12 := ⟨by decide +kernel, rfl⟩
theorem dX1_isWhole_16 : gw_dc cX1_isWhole 16 (.iconst 0) 1 17 := ⟨by decide +kernel, rfl⟩
theorem dX1_isWhole_17 : decode cX1_isWhole 17 = .ok (.ireturn, 1) := by decide +kernel
theorem dX1_isWhole_12 : gw_dc cX1_isWhole 12 (.iconst 1) 1 13 := ⟨by decide +kernel, rfl⟩
theorem dX1_isWhole_13 : gw_dc cX1_isWhole 13 (.goto 4) 3 16 := ⟨by decide +kernel, rfl⟩
theorem dX1_makeWhole_0 : gw_dc cX1_makeWhole 0 (.iconst 0) 1 1 := ⟨by decide +kernel, rfl⟩
theorem dX1_makeWhole_1 : gw_dc cX1_makeWhole 1 (.istore_n 1) 1 2 := ⟨by decide +kernel, rfl⟩
theorem dX1_makeWhole_2 : gw_dc cX1_makeWhole 2 (.iconst 0) 1 3 := ⟨by decide +kernel, rfl⟩
theorem dX1_makeWhole_3 : gw_dc cX1_makeWhole 3 (.istore_n 2) 1 4 := ⟨by decide +kernel, rfl⟩
theorem dX1_makeWhole_4 : gw_dc cX1_makeWhole 4 (.iload_n 2) 1 5 := ⟨by decide +kernel, rfl⟩
theorem dX1_makeWhole_5 : gw_dc cX1_makeWhole 5 (.aload_n 0) 1 6 := ⟨by decide +kernel, rfl⟩
theorem dX1_makeWhole_6 : gw_dc cX1_makeWhole 6 (.getfield 64) 3 9 := ⟨by decide +kernel, rfl⟩
theorem dX1_makeWhole_9 : gw_dc cX1_makeWhole 9 (.if_icmp .ge 38) 3 12 := ⟨by decide +kernel, rfl⟩
theorem dX1_makeWhole_47 : gw_dc cX1_makeWhole 47 (.iload_n 1) 1 48 := ⟨by decide +kernel, rfl⟩
theorem dX1_makeWhole_48 : decode cX1_makeWhole 48 = .ok (.ireturn, 1) := by decide +kernel
theorem dX1_makeWhole_12 : gw_dc cX1_makeWhole 12 (.iload_n 1) 1 13 := ⟨by decide +kernel, rfl⟩
theorem dX1_makeWhole_13 : gw_dc cX1_makeWhole 13 (.aload_n 0) 1 14 := ⟨by decide +kernel, rfl⟩
theorem dX1_makeWhole_14 : gw_dc cX1_makeWhole 14 (.iload_n 2) 1 15 := ⟨by decide +kernel, rfl⟩
theorem dX1_makeWhole_15 : gw_dc cX1_makeWhole 15 (.invokevirtual 81) 3 18 := ⟨by decide +kernel, rfl⟩
theorem mv_RX1_81 : gw_mv RX1 81 yX1_isWhole := ⟨gw_mem 568 (by decide +kernel) rfl, gw_mem 569 (by decide +kernel) rfl, gw_mem 570 (by decide +kernel) rfl⟩
theorem my_X1_isWhole : gw_my yX1_isWhole cX1_isWhole 2 (some .boolean) 1 := ⟨gw_mem 571 (by decide +kernel) rfl, gw_mem 98 (by decide +kernel) rfl, by decide +kernel, by decide⟩
theorem dX1_makeWhole_18 : gw_dc cX1_makeWhole 18 (.ifCond .eq 7) 3 21 := ⟨by decide +kernel, rfl⟩
theorem dX1_makeWhole_25 : gw_dc cX1_makeWhole 25 (.iconst 1) 1 26 := ⟨by decide +kernel, rfl⟩
theorem dX1_makeWhole_26 : gw_dc cX1_makeWhole 26 (.iadd) 1 27 := ⟨by decide +kernel, rfl⟩
theorem dX1_makeWhole_27 : gw_dc cX1_makeWhole 27 (.istore_n 1) 1 28 := ⟨by decide +kernel, rfl⟩
theorem dX1_makeWhole_28 : gw_dc cX1_makeWhole 28 (.aload_n 0) 1 29 := ⟨by decide +kernel, rfl⟩
theorem dX1_makeWhole_29 : gw_dc cX1_makeWhole 29 (.iload_n 2) 1 30 := ⟨by decide +kernel, rfl⟩
theorem dX1_makeWhole_30 : gw_dc cX1_makeWhole 30 (.aload_n 0) 1 31 := ⟨by decide +kernel, rfl⟩
theorem dX1_makeWhole_31 : gw_dc cX1_makeWhole 31 (.getfield 27) 3 34 := ⟨by decide +kernel, rfl⟩
theorem dX1_makeWhole_34 : gw_dc cX1_makeWhole 34 (.iload_n 2) 1 35 := ⟨by decide +kernel, rfl⟩
theorem dX1_makeWhole_35 : gw_dc cX1_makeWhole 35 (.invokevirtual 77) 3 38 := ⟨by decide +kernel, rfl⟩
theorem dX1_makeWhole_38 : gw_dc cX1_makeWhole 38 (.invokevirtual 74) 3 41 := ⟨by decide +kernel, rfl⟩
theorem dX1_makeWhole_41 : gw_dc cX1_makeWhole 41 (.iinc 2 1) 3 44 := ⟨by decide +kernel, rfl⟩
theorem dX1_makeWhole_44 : gw_dc cX1_makeWhole 44 (.goto (-40)) 3 47 := ⟨by decide +kernel, rfl⟩
theorem dX1_makeWhole_21 : gw_dc cX1_makeWhole 21 (.iconst 0) 1 22 := ⟨by decide +kernel, rfl⟩
theorem dX1_makeWhole_22 : gw_dc cX1_makeWhole 22 (.goto 4) 3 25 := ⟨by decide +kernel, rfl⟩
theorem dX1_firstPiece_0 : gw_dc cX1_firstPiece 0 (.iconst 0) 1 1 := ⟨by decide +kernel, rfl⟩
theorem dX1_firstPiece_1 : gw_dc cX1_firstPiece 1 (.istore_n 2) 1 2 := ⟨by decide +kernel, rfl⟩
theorem dX1_firstPiece_2 : gw_dc cX1_firstPiece 2 (.iconst 0) 1 3 := ⟨by decide +kernel, rfl⟩
theorem dX1_firstPiece_3 : gw_dc cX1_firstPiece 3 (.istore_n 3) 1 4 := ⟨by decide +kernel, rfl⟩
theorem dX1_firstPiece_4 : gw_dc cX1_firstPiece 4 (.iload_n 3) 1 5 := ⟨by decide +kernel, rfl⟩
theorem dX1_firstPiece_5 : gw_dc cX1_firstPiece 5 (.iload_n 1) 1 6 := ⟨by decide +kernel, rfl⟩
theorem dX1_firstPiece_6 : gw_dc cX1_firstPiece 6 (.if_icmp .ge 28) 3 9 := ⟨by decide +kernel, rfl⟩
theorem dX1_firstPiece_34 : gw_dc cX1_firstPiece 34 (.iload_n 2) 1 35 := ⟨by decide +kernel, rfl⟩
theorem dX1_firstPiece_35 : decode cX1_firstPiece 35 = .ok (.ireturn, 1) := by decide +kernel
theorem dX1_firstPiece_9 : gw_dc cX1_firstPiece 9 (.iload_n 3) 1 10 := ⟨by decide +kernel, rfl⟩
theorem dX1_firstPiece_10 : gw_dc cX1_firstPiece 10 (.aload_n 0) 1 11 := ⟨by decide +kernel, rfl⟩
theorem dX1_firstPiece_11 : gw_dc cX1_firstPiece 11 (.getfield 64) 3 14 := ⟨by decide +kernel, rfl⟩
theorem dX1_firstPiece_14 : gw_dc cX1_firstPiece 14 (.if_icmp .ge 20) 3 17 := ⟨by decide +kernel, rfl⟩
theorem dX1_firstPiece_17 : gw_dc cX1_firstPiece 17 (.iload_n 2) 1 18 := ⟨by decide +kernel, rfl⟩
theorem dX1_firstPiece_18 : gw_dc cX1_firstPiece 18 (.aload_n 0) 1 19 := ⟨by decide +kernel, rfl⟩
theorem dX1_firstPiece_19 : gw_dc cX1_firstPiece 19 (.getfield 45) 3 22 := ⟨by decide +kernel, rfl⟩
theorem dX1_firstPiece_22 : gw_dc cX1_firstPiece 22 (.iload_n 3) 1 23 := ⟨by decide +kernel, rfl⟩
theorem dX1_firstPiece_23 : gw_dc cX1_firstPiece 23 (.invokevirtual 77) 3 26 := ⟨by decide +kernel, rfl⟩
theorem dX1_firstPiece_26 : gw_dc cX1_firstPiece 26 (.iadd) 1 27 := ⟨by decide +kernel, rfl⟩
theorem dX1_firstPiece_27 : gw_dc cX1_firstPiece 27 (.istore_n 2) 1 28 := ⟨by decide +kernel, rfl⟩
theorem dX1_firstPiece_28 : gw_dc cX1_firstPiece 28 (.iinc 3 1) 3 31 := ⟨by decide +kernel, rfl⟩
theorem dX1_firstPiece_31 : gw_dc cX1_firstPiece 31 (.goto (-27)) 3 34 := ⟨by decide +kernel, rfl⟩
theorem dX1_pieces_0 : gw_dc cX1_pieces 0 (.aload_n 0) 1 1 := ⟨by decide +kernel, rfl⟩
theorem dX1_pieces_1 : gw_dc cX1_pieces 1 (.aload_n 0) 1 2 := ⟨by decide +kernel, rfl⟩
theorem dX1_pieces_2 : gw_dc cX1_pieces 2 (.getfield 64) 3 5 := ⟨by decide +kernel, rfl⟩
theorem dX1_pieces_5 : gw_dc cX1_pieces 5 (.invokevirtual 85) 3 8 := ⟨by decide +kernel, rfl⟩
theorem mv_RX1_85 : gw_mv RX1 85 yX1_firstPiece := ⟨gw_mem 673 (by decide +kernel) rfl, gw_mem 674 (by decide +kernel) rfl, gw_mem 675 (by decide +kernel) rfl⟩
theorem my_X1_firstPiece : gw_my yX1_firstPiece cX1_firstPiece 4 (some .int) 1 := ⟨gw_mem 676 (by decide +kernel) rfl, gw_mem 98 (by decide +kernel) rfl, by decide +kernel, by decide⟩
theorem dX1_pieces_8 : decode cX1_pieces 8 = .ok (.ireturn, 1) := by decide +kernel
theorem dX1_piecesBeside_0 : gw_dc cX1_piecesBeside 0 (.aload_n 0) 1 1 := ⟨by decide +kernel, rfl⟩
theorem dX1_piecesBeside_1 : gw_dc cX1_piecesBeside 1 (.invokevirtual 88) 3 4 := ⟨by decide +kernel, rfl⟩
theorem mv_RX1_88 : gw_mv RX1 88 yX1_pieces := ⟨gw_mem 1087 (by decide +kernel) rfl, gw_mem 670 (by decide +kernel) rfl, gw_mem 671 (by decide +kernel) rfl⟩
theorem my_X1_pieces : gw_my yX1_pieces cX1_pieces 1 (some .int) 0 := ⟨gw_mem 672 (by decide +kernel) rfl, gw_mem 98 (by decide +kernel) rfl, by decide +kernel, by decide⟩
theorem dX1_piecesBeside_4 : gw_dc cX1_piecesBeside 4 (.aload_n 0) 1 5 := ⟨by decide +kernel, rfl⟩
theorem dX1_piecesBeside_5 : gw_dc cX1_piecesBeside 5 (.getfield 45) 3 8 := ⟨by decide +kernel, rfl⟩
theorem dX1_piecesBeside_8 : gw_dc cX1_piecesBeside 8 (.iload_n 1) 1 9 := ⟨by decide +kernel, rfl⟩
theorem dX1_piecesBeside_9 : gw_dc cX1_piecesBeside 9 (.invokevirtual 77) 3 12 := ⟨by decide +kernel, rfl⟩
theorem dX1_piecesBeside_12 : gw_dc cX1_piecesBeside 12 (.isub) 1 13 := ⟨by decide +kernel, rfl⟩
theorem dX1_piecesBeside_13 : decode cX1_piecesBeside 13 = .ok (.ireturn, 1) := by decide +kernel
theorem dX1_nextDraw_0 : gw_dc cX1_nextDraw 0 (.ldc 99) 2 2 := ⟨by decide +kernel, rfl⟩
theorem kc_RX1_99 : Cond.constant RX1 99 (Int32.ofInt 1103515245) ∈ wsG := gw_mem 1349 (by decide +kernel) rfl
theorem dX1_nextDraw_2 : gw_dc cX1_nextDraw 2 (.iload_n 0) 1 3 := ⟨by decide +kernel, rfl⟩
theorem dX1_nextDraw_3 : gw_dc cX1_nextDraw 3 (.imul) 1 4 := ⟨by decide +kernel, rfl⟩
theorem dX1_nextDraw_4 : gw_dc cX1_nextDraw 4 (.sipush 12345) 3 7 := ⟨by decide +kernel, rfl⟩
theorem dX1_nextDraw_7 : gw_dc cX1_nextDraw 7 (.iadd) 1 8 := ⟨by decide +kernel, rfl⟩
theorem dX1_nextDraw_8 : decode cX1_nextDraw 8 = .ok (.ireturn, 1) := by decide +kernel
theorem dX1_addStrangers_0 : gw_dc cX1_addStrangers 0 (.iload_n 1) 1 1 := ⟨by decide +kernel, rfl⟩
theorem dX1_addStrangers_1 : gw_dc cX1_addStrangers 1 (.istore 4) 2 3 := ⟨by decide +kernel, rfl⟩
theorem dX1_addStrangers_3 : gw_dc cX1_addStrangers 3 (.iconst 0) 1 4 := ⟨by decide +kernel, rfl⟩
theorem dX1_addStrangers_4 : gw_dc cX1_addStrangers 4 (.istore 5) 2 6 := ⟨by decide +kernel, rfl⟩
theorem dX1_addStrangers_6 : gw_dc cX1_addStrangers 6 (.iload 5) 2 8 := ⟨by decide +kernel, rfl⟩
theorem dX1_addStrangers_8 : gw_dc cX1_addStrangers 8 (.sipush 300) 3 11 := ⟨by decide +kernel, rfl⟩
theorem dX1_addStrangers_11 : gw_dc cX1_addStrangers 11 (.if_icmp .ge 76) 3 14 := ⟨by decide +kernel, rfl⟩
theorem dX1_addStrangers_87 : decode cX1_addStrangers 87 = .ok (.return_, 1) := by decide +kernel
theorem dX1_addStrangers_14 : gw_dc cX1_addStrangers 14 (.iload 4) 2 16 := ⟨by decide +kernel, rfl⟩
theorem dX1_addStrangers_16 : gw_dc cX1_addStrangers 16 (.invokestatic 92) 3 19 := ⟨by decide +kernel, rfl⟩
theorem ms_RX1_92 : gw_mst RX1 92 yX1_nextDraw := ⟨gw_mem 1346 (by decide +kernel) rfl, gw_mem 1347 (by decide +kernel) rfl⟩
theorem my_X1_nextDraw : gw_my yX1_nextDraw cX1_nextDraw 1 (some .int) 1 := ⟨gw_mem 1348 (by decide +kernel) rfl, gw_mem 98 (by decide +kernel) rfl, by decide +kernel, by decide⟩
theorem dX1_addStrangers_19 : gw_dc cX1_addStrangers 19 (.istore 4) 2 21 := ⟨by decide +kernel, rfl⟩
theorem dX1_addStrangers_21 : gw_dc cX1_addStrangers 21 (.iload 4) 2 23 := ⟨by decide +kernel, rfl⟩
theorem dX1_addStrangers_23 : gw_dc cX1_addStrangers 23 (.bipush 16) 2 25 := ⟨by decide +kernel, rfl⟩
theorem dX1_addStrangers_25 : gw_dc cX1_addStrangers 25 (.iushr) 1 26 := ⟨by decide +kernel, rfl⟩
theorem dX1_addStrangers_26 : gw_dc cX1_addStrangers 26 (.bipush 100) 2 28 := ⟨by decide +kernel, rfl⟩
theorem dX1_addStrangers_28 : gw_dc cX1_addStrangers 28 (.irem) 1 29 := ⟨by decide +kernel, rfl⟩
theorem dX1_addStrangers_29 : gw_dc cX1_addStrangers 29 (.iload_n 2) 1 30 := ⟨by decide +kernel, rfl⟩
theorem dX1_addStrangers_30 : gw_dc cX1_addStrangers 30 (.if_icmp .ge 51) 3 33 := ⟨by decide +kernel, rfl⟩
theorem dX1_addStrangers_81 : gw_dc cX1_addStrangers 81 (.iinc 5 1) 3 84 := ⟨by decide +kernel, rfl⟩
theorem dX1_addStrangers_84 : gw_dc cX1_addStrangers 84 (.goto (-78)) 3 87 := ⟨by decide +kernel, rfl⟩
theorem dX1_addStrangers_33 : gw_dc cX1_addStrangers 33 (.aload_n 0) 1 34 := ⟨by decide +kernel, rfl⟩
theorem dX1_addStrangers_34 : gw_dc cX1_addStrangers 34 (.invokevirtual 88) 3 37 := ⟨by decide +kernel, rfl⟩
theorem dX1_addStrangers_37 : gw_dc cX1_addStrangers 37 (.bipush 60) 2 39 := ⟨by decide +kernel, rfl⟩
theorem dX1_addStrangers_39 : gw_dc cX1_addStrangers 39 (.if_icmp .ge 42) 3 42 := ⟨by decide +kernel, rfl⟩
theorem dX1_addStrangers_42 : gw_dc cX1_addStrangers 42 (.iload 4) 2 44 := ⟨by decide +kernel, rfl⟩
theorem dX1_addStrangers_44 : gw_dc cX1_addStrangers 44 (.invokestatic 92) 3 47 := ⟨by decide +kernel, rfl⟩
theorem dX1_addStrangers_47 : gw_dc cX1_addStrangers 47 (.istore 4) 2 49 := ⟨by decide +kernel, rfl⟩
theorem dX1_addStrangers_49 : gw_dc cX1_addStrangers 49 (.iload_n 3) 1 50 := ⟨by decide +kernel, rfl⟩
theorem dX1_addStrangers_50 : gw_dc cX1_addStrangers 50 (.ifCond .le 15) 3 53 := ⟨by decide +kernel, rfl⟩
theorem dX1_addStrangers_65 : gw_dc cX1_addStrangers 65 (.iconst 1) 1 66 := ⟨by decide +kernel, rfl⟩
theorem dX1_addStrangers_66 : gw_dc cX1_addStrangers 66 (.istore 6) 2 68 := ⟨by decide +kernel, rfl⟩
theorem dX1_addStrangers_68 : gw_dc cX1_addStrangers 68 (.aload_n 0) 1 69 := ⟨by decide +kernel, rfl⟩
theorem dX1_addStrangers_69 : gw_dc cX1_addStrangers 69 (.iload 6) 2 71 := ⟨by decide +kernel, rfl⟩
theorem dX1_addStrangers_71 : gw_dc cX1_addStrangers 71 (.bipush 7) 2 73 := ⟨by decide +kernel, rfl⟩
theorem dX1_addStrangers_73 : gw_dc cX1_addStrangers 73 (.iload 5) 2 75 := ⟨by decide +kernel, rfl⟩
theorem dX1_addStrangers_75 : gw_dc cX1_addStrangers 75 (.iconst 0) 1 76 := ⟨by decide +kernel, rfl⟩
theorem dX1_addStrangers_76 : gw_dc cX1_addStrangers 76 (.iconst 1) 1 77 := ⟨by decide +kernel, rfl⟩
theorem dX1_addStrangers_77 : gw_dc cX1_addStrangers 77 (.iconst (-1)) 1 78 := ⟨by decide +kernel, rfl⟩
theorem dX1_addStrangers_78 : gw_dc cX1_addStrangers 78 (.invokevirtual 95) 3 81 := ⟨by decide +kernel, rfl⟩
theorem mv_RX1_95 : gw_mv RX1 95 yX1_addSack := ⟨gw_mem 1350 (by decide +kernel) rfl, gw_mem 944 (by decide +kernel) rfl, gw_mem 945 (by decide +kernel) rfl⟩
theorem my_X1_addSack : gw_my yX1_addSack cX1_addSack 7 none 6 := ⟨gw_mem 946 (by decide +kernel) rfl, gw_mem 98 (by decide +kernel) rfl, by decide +kernel, by decide⟩
theorem dX1_addStrangers_53 : gw_dc cX1_addStrangers 53 (.iload 4) 2 55 := ⟨by decide +kernel, rfl⟩
theorem dX1_addStrangers_55 : gw_dc cX1_addStrangers 55 (.bipush 16) 2 57 := ⟨by decide +kernel, rfl⟩
theorem dX1_addStrangers_57 : gw_dc cX1_addStrangers 57 (.iushr) 1 58 := ⟨by decide +kernel, rfl⟩
theorem dX1_addStrangers_58 : gw_dc cX1_addStrangers 58 (.iload_n 3) 1 59 := ⟨by decide +kernel, rfl⟩
theorem dX1_addStrangers_59 : gw_dc cX1_addStrangers 59 (.irem) 1 60 := ⟨by decide +kernel, rfl⟩
theorem dX1_addStrangers_60 : gw_dc cX1_addStrangers 60 (.iconst 1) 1 61 := ⟨by decide +kernel, rfl⟩
theorem dX1_addStrangers_61 : gw_dc cX1_addStrangers 61 (.iadd) 1 62 := ⟨by decide +kernel, rfl⟩
theorem dX1_addStrangers_62 : gw_dc cX1_addStrangers 62 (.goto 4) 3 65 := ⟨by decide +kernel, rfl⟩
theorem dX1_copyOf_0 : gw_dc cX1_copyOf 0 (.aload_n 0) 1 1 := ⟨by decide +kernel, rfl⟩
theorem dX1_copyOf_1 : gw_dc cX1_copyOf 1 (.getfield 12) 3 4 := ⟨by decide +kernel, rfl⟩
theorem fk_RX1_12 : gw_fk RX1 12 1 0 16 1 true := ⟨_, _, _, ck_1, by decide, by decide, fun h => absurd h (by decide), fun h => absurd h (by decide), fun _ => Or.inl ⟨_, rfl⟩, rfl, Or.inl (gw_mem 229 (by decide +kernel) rfl)⟩
theorem dX1_copyOf_4 : gw_dc cX1_copyOf 4 (.aload_n 1) 1 5 := ⟨by decide +kernel, rfl⟩
theorem dX1_copyOf_5 : gw_dc cX1_copyOf 5 (.getfield 12) 3 8 := ⟨by decide +kernel, rfl⟩
theorem dX1_copyOf_8 : gw_dc cX1_copyOf 8 (.invokevirtual 100) 3 11 := ⟨by decide +kernel, rfl⟩
theorem mv_RX1_100 : gw_mv RX1 100 yX0_copyOf := ⟨gw_mem 729 (by decide +kernel) rfl, gw_mem 730 (by decide +kernel) rfl, gw_mem 731 (by decide +kernel) rfl⟩
theorem my_X0_copyOf : gw_my yX0_copyOf cX0_copyOf 2 none 1 := ⟨gw_mem 732 (by decide +kernel) rfl, gw_mem 99 (by decide +kernel) rfl, by decide +kernel, by decide⟩
theorem dX1_copyOf_11 : gw_dc cX1_copyOf 11 (.aload_n 0) 1 12 := ⟨by decide +kernel, rfl⟩
theorem dX1_copyOf_12 : gw_dc cX1_copyOf 12 (.aload_n 1) 1 13 := ⟨by decide +kernel, rfl⟩
theorem dX1_copyOf_13 : gw_dc cX1_copyOf 13 (.getfield 51) 3 16 := ⟨by decide +kernel, rfl⟩
theorem dX1_copyOf_16 : gw_dc cX1_copyOf 16 (.putfield 51) 3 19 := ⟨by decide +kernel, rfl⟩
theorem dX1_copyOf_19 : gw_dc cX1_copyOf 19 (.aload_n 0) 1 20 := ⟨by decide +kernel, rfl⟩
theorem dX1_copyOf_20 : gw_dc cX1_copyOf 20 (.aload_n 1) 1 21 := ⟨by decide +kernel, rfl⟩
theorem dX1_copyOf_21 : gw_dc cX1_copyOf 21 (.getfield 55) 3 24 := ⟨by decide +kernel, rfl⟩
theorem dX1_copyOf_24 : gw_dc cX1_copyOf 24 (.putfield 55) 3 27 := ⟨by decide +kernel, rfl⟩
theorem dX1_copyOf_27 : gw_dc cX1_copyOf 27 (.aload_n 0) 1 28 := ⟨by decide +kernel, rfl⟩
theorem dX1_copyOf_28 : gw_dc cX1_copyOf 28 (.aload_n 1) 1 29 := ⟨by decide +kernel, rfl⟩
theorem dX1_copyOf_29 : gw_dc cX1_copyOf 29 (.getfield 58) 3 32 := ⟨by decide +kernel, rfl⟩
theorem dX1_copyOf_32 : gw_dc cX1_copyOf 32 (.putfield 58) 3 35 := ⟨by decide +kernel, rfl⟩
theorem dX1_copyOf_35 : gw_dc cX1_copyOf 35 (.aload_n 0) 1 36 := ⟨by decide +kernel, rfl⟩
theorem dX1_copyOf_36 : gw_dc cX1_copyOf 36 (.aload_n 1) 1 37 := ⟨by decide +kernel, rfl⟩
theorem dX1_copyOf_37 : gw_dc cX1_copyOf 37 (.getfield 61) 3 40 := ⟨by decide +kernel, rfl⟩
theorem dX1_copyOf_40 : gw_dc cX1_copyOf 40 (.putfield 61) 3 43 := ⟨by decide +kernel, rfl⟩
theorem dX1_copyOf_43 : gw_dc cX1_copyOf 43 (.aload_n 0) 1 44 := ⟨by decide +kernel, rfl⟩
theorem dX1_copyOf_44 : gw_dc cX1_copyOf 44 (.aload_n 1) 1 45 := ⟨by decide +kernel, rfl⟩
theorem dX1_copyOf_45 : gw_dc cX1_copyOf 45 (.getfield 64) 3 48 := ⟨by decide +kernel, rfl⟩
theorem dX1_copyOf_48 : gw_dc cX1_copyOf 48 (.putfield 64) 3 51 := ⟨by decide +kernel, rfl⟩
theorem dX1_copyOf_51 : gw_dc cX1_copyOf 51 (.aload_n 0) 1 52 := ⟨by decide +kernel, rfl⟩
theorem dX1_copyOf_52 : gw_dc cX1_copyOf 52 (.getfield 23) 3 55 := ⟨by decide +kernel, rfl⟩
theorem dX1_copyOf_55 : gw_dc cX1_copyOf 55 (.aload_n 1) 1 56 := ⟨by decide +kernel, rfl⟩
theorem dX1_copyOf_56 : gw_dc cX1_copyOf 56 (.getfield 23) 3 59 := ⟨by decide +kernel, rfl⟩
theorem dX1_copyOf_59 : gw_dc cX1_copyOf 59 (.invokevirtual 104) 3 62 := ⟨by decide +kernel, rfl⟩
theorem mv_RX1_104 : gw_mv RX1 104 yX4_copyOf := ⟨gw_mem 734 (by decide +kernel) rfl, gw_mem 699 (by decide +kernel) rfl, gw_mem 700 (by decide +kernel) rfl⟩
theorem dX1_copyOf_62 : gw_dc cX1_copyOf 62 (.aload_n 0) 1 63 := ⟨by decide +kernel, rfl⟩
theorem dX1_copyOf_63 : gw_dc cX1_copyOf 63 (.getfield 27) 3 66 := ⟨by decide +kernel, rfl⟩
theorem dX1_copyOf_66 : gw_dc cX1_copyOf 66 (.aload_n 1) 1 67 := ⟨by decide +kernel, rfl⟩
theorem dX1_copyOf_67 : gw_dc cX1_copyOf 67 (.getfield 27) 3 70 := ⟨by decide +kernel, rfl⟩
theorem dX1_copyOf_70 : gw_dc cX1_copyOf 70 (.invokevirtual 104) 3 73 := ⟨by decide +kernel, rfl⟩
theorem dX1_copyOf_73 : gw_dc cX1_copyOf 73 (.aload_n 0) 1 74 := ⟨by decide +kernel, rfl⟩
theorem dX1_copyOf_74 : gw_dc cX1_copyOf 74 (.getfield 30) 3 77 := ⟨by decide +kernel, rfl⟩
theorem dX1_copyOf_77 : gw_dc cX1_copyOf 77 (.aload_n 1) 1 78 := ⟨by decide +kernel, rfl⟩
theorem dX1_copyOf_78 : gw_dc cX1_copyOf 78 (.getfield 30) 3 81 := ⟨by decide +kernel, rfl⟩
theorem dX1_copyOf_81 : gw_dc cX1_copyOf 81 (.invokevirtual 104) 3 84 := ⟨by decide +kernel, rfl⟩
theorem dX1_copyOf_84 : gw_dc cX1_copyOf 84 (.aload_n 0) 1 85 := ⟨by decide +kernel, rfl⟩
theorem dX1_copyOf_85 : gw_dc cX1_copyOf 85 (.getfield 33) 3 88 := ⟨by decide +kernel, rfl⟩
theorem dX1_copyOf_88 : gw_dc cX1_copyOf 88 (.aload_n 1) 1 89 := ⟨by decide +kernel, rfl⟩
theorem dX1_copyOf_89 : gw_dc cX1_copyOf 89 (.getfield 33) 3 92 := ⟨by decide +kernel, rfl⟩
theorem dX1_copyOf_92 : gw_dc cX1_copyOf 92 (.invokevirtual 104) 3 95 := ⟨by decide +kernel, rfl⟩
theorem dX1_copyOf_95 : gw_dc cX1_copyOf 95 (.aload_n 0) 1 96 := ⟨by decide +kernel, rfl⟩
theorem dX1_copyOf_96 : gw_dc cX1_copyOf 96 (.getfield 36) 3 99 := ⟨by decide +kernel, rfl⟩
theorem dX1_copyOf_99 : gw_dc cX1_copyOf 99 (.aload_n 1) 1 100 := ⟨by decide +kernel, rfl⟩
theorem dX1_copyOf_100 : gw_dc cX1_copyOf 100 (.getfield 36) 3 103 := ⟨by decide +kernel, rfl⟩
theorem dX1_copyOf_103 : gw_dc cX1_copyOf 103 (.invokevirtual 104) 3 106 := ⟨by decide +kernel, rfl⟩
theorem dX1_copyOf_106 : gw_dc cX1_copyOf 106 (.aload_n 0) 1 107 := ⟨by decide +kernel, rfl⟩
theorem dX1_copyOf_107 : gw_dc cX1_copyOf 107 (.getfield 39) 3 110 := ⟨by decide +kernel, rfl⟩
theorem dX1_copyOf_110 : gw_dc cX1_copyOf 110 (.aload_n 1) 1 111 := ⟨by decide +kernel, rfl⟩
theorem dX1_copyOf_111 : gw_dc cX1_copyOf 111 (.getfield 39) 3 114 := ⟨by decide +kernel, rfl⟩
theorem dX1_copyOf_114 : gw_dc cX1_copyOf 114 (.invokevirtual 104) 3 117 := ⟨by decide +kernel, rfl⟩
theorem dX1_copyOf_117 : gw_dc cX1_copyOf 117 (.aload_n 0) 1 118 := ⟨by decide +kernel, rfl⟩
theorem dX1_copyOf_118 : gw_dc cX1_copyOf 118 (.getfield 42) 3 121 := ⟨by decide +kernel, rfl⟩
theorem dX1_copyOf_121 : gw_dc cX1_copyOf 121 (.aload_n 1) 1 122 := ⟨by decide +kernel, rfl⟩
theorem dX1_copyOf_122 : gw_dc cX1_copyOf 122 (.getfield 42) 3 125 := ⟨by decide +kernel, rfl⟩
theorem dX1_copyOf_125 : gw_dc cX1_copyOf 125 (.invokevirtual 104) 3 128 := ⟨by decide +kernel, rfl⟩
theorem dX1_copyOf_128 : gw_dc cX1_copyOf 128 (.aload_n 0) 1 129 := ⟨by decide +kernel, rfl⟩
theorem dX1_copyOf_129 : gw_dc cX1_copyOf 129 (.getfield 45) 3 132 := ⟨by decide +kernel, rfl⟩
theorem dX1_copyOf_132 : gw_dc cX1_copyOf 132 (.aload_n 1) 1 133 := ⟨by decide +kernel, rfl⟩
theorem dX1_copyOf_133 : gw_dc cX1_copyOf 133 (.getfield 45) 3 136 := ⟨by decide +kernel, rfl⟩
theorem dX1_copyOf_136 : gw_dc cX1_copyOf 136 (.invokevirtual 104) 3 139 := ⟨by decide +kernel, rfl⟩
theorem dX1_copyOf_139 : gw_dc cX1_copyOf 139 (.aload_n 0) 1 140 := ⟨by decide +kernel, rfl⟩
theorem dX1_copyOf_140 : gw_dc cX1_copyOf 140 (.getfield 48) 3 143 := ⟨by decide +kernel, rfl⟩
theorem dX1_copyOf_143 : gw_dc cX1_copyOf 143 (.aload_n 1) 1 144 := ⟨by decide +kernel, rfl⟩
theorem dX1_copyOf_144 : gw_dc cX1_copyOf 144 (.getfield 48) 3 147 := ⟨by decide +kernel, rfl⟩
theorem dX1_copyOf_147 : gw_dc cX1_copyOf 147 (.invokevirtual 104) 3 150 := ⟨by decide +kernel, rfl⟩
theorem dX1_copyOf_150 : decode cX1_copyOf 150 = .ok (.return_, 1) := by decide +kernel
/-! Mill (the world's cells of a mill m: m its fields, m + 1 its law, m + 3 the keys, m + 5 paces, m + 7 pounds, m + 9 persons, m + 11 comes, m + 13 sorts, m + 15 worths, m + 17 homes, m + 19 parts, m + 21 cuts) -/
def mClear (σ : Sg) (m : Nat) : Sg := su (su (su (su (su σ m 1 0) m 2 0) m 3 0) m 4 0) m 5 0
def mStone (σ : Sg) (m : Nat) (pace : Int) : Sg := su (rPut σ (m + 5) 3 (σ m 2) pace) m 2 (wr (rPut σ (m + 5) 3 (σ m 2) pace m 2 + 1))
def mStand (σ : Sg) (m : Nat) : Sg := if σ m 2 = 0 then mStone σ m 1 else σ
def mWhole (σ : Sg) (m : Nat) (s w : Int) : Sg := rPut (rPut (rPut σ (m + 7) 60 s w) (m + 19) 60 s 1) (m + 21) 480 (wr (s * 8)) w
def mSack (σ : Sg) (m : Nat) (w person come sort worth home : Int) : Sg :=
  let σ1 := rPut σ (m + 9) 60 (σ m 5) person
  let σ2 := rPut σ1 (m + 11) 60 (σ1 m 5) come
  let σ3 := rPut σ2 (m + 13) 60 (σ2 m 5) sort
  let σ4 := rPut σ3 (m + 15) 60 (σ3 m 5) worth
  let σ5 := rPut σ4 (m + 17) 60 (σ4 m 5) home
  let σ6 := mWhole σ5 m (σ5 m 5) w
  su σ6 m 5 (wr (σ6 m 5 + 1))
def mWayS (m w n : Nat) (s : Int) (i : Nat) (σ : Sg) : Sg := rPut σ (m + 21) 480 (wr (wr (s * 8) + (i : Nat))) (rAt σ w n i)
/-- parts.put(s, many), then the cuts of the first min(many, 8) places of the row w -/
def mWay (σ : Sg) (m w n : Nat) (s many : Int) : Sg := itr (min many 8).toNat (mWayS m w n s) (rPut σ (m + 19) 60 s many)
def mCut (σ : Sg) (m : Nat) (s i : Int) : Int := rAt σ (m + 21) 480 (wr (wr (s * 8) + i))
def mIsW (σ : Sg) (m : Nat) (s : Int) : Int := if rAt σ (m + 19) 60 s = 1 then 1 else 0
def mMkS (m : Nat) (s : Nat) (x : Int × Sg) : Int × Sg := (wr (x.1 + if mIsW x.2 m s = 0 then 1 else 0), mWhole x.2 m s (rAt x.2 (m + 7) 60 s))
def mMk (σ : Sg) (m : Nat) : Int × Sg := itr (σ m 5).toNat (mMkS m) (0, σ)
def mFirstS (σ : Sg) (m : Nat) (i : Nat) (c : Int) : Int := wr (c + rAt σ (m + 19) 60 i)
def mFirst (σ : Sg) (m : Nat) (s : Int) : Int := itr (min s (σ m 5)).toNat (mFirstS σ m) 0
def mPcs (σ : Sg) (m : Nat) : Int := mFirst σ m (σ m 5)
def mBes (σ : Sg) (m : Nat) (s : Int) : Int := wr (mPcs σ m - rAt σ (m + 19) 60 s)
def mDraw (x : Int) : Int := wr (wr (1103515245 * x) + 12345)
def mStrS (m : Nat) (come greatest : Int) (minute : Nat) (x : Int × Sg) : Int × Sg :=
  let x1 := mDraw x.1
  if wr ((wushr x1 16).tmod 100) < come ∧ mPcs x.2 m < 60 then
    let x2 := mDraw x1
    (x2, mSack x.2 m (if 0 < greatest then wr (wr ((wushr x2 16).tmod greatest) + 1) else 1) 7 minute 0 1 (-1))
  else (x1, x.2)
def mStr (σ : Sg) (m : Nat) (seed come greatest : Int) : Sg := (itr 300 (mStrS m come greatest) (seed, σ)).2
def mCopy (σ : Sg) (m f : Nat) : Sg :=
  let σ1 := lCopy σ (m + 1) (f + 1)
  let σ2 := su σ1 m 1 (σ1 f 1)
  let σ3 := su σ2 m 2 (σ2 f 2)
  let σ4 := su σ3 m 3 (σ3 f 3)
  let σ5 := su σ4 m 4 (σ4 f 4)
  let σ6 := su σ5 m 5 (σ5 f 5)
  rCopy (rCopy (rCopy (rCopy (rCopy (rCopy (rCopy (rCopy (rCopy σ6 (m + 5) (f + 5) 3) (m + 7) (f + 7) 60) (m + 9) (f + 9) 60) (m + 11) (f + 11) 60) (m + 13) (f + 13) 60) (m + 15) (f + 15) 60) (m + 17) (f + 17) 60) (m + 19) (f + 19) 60) (m + 21) (f + 21) 480
theorem mWhole_5 (σ : Sg) (m : Nat) (s w : Int) (k : Nat) : mWhole σ m s w m k = σ m k := by
  unfold mWhole rPut
  have h1 : ∀ (a : Sg) (c : Nat) (i v : Int), c ≠ m → (if 0 ≤ i ∧ i < 60 then su a c i.toNat v else a) m k = a m k := by
    intro a c i v hc; split
    · exact su_ne a v (Or.inl (fun e => hc e.symm))
    · rfl
  have h2 : ∀ (a : Sg) (c : Nat) (i v : Int), c ≠ m → (if 0 ≤ i ∧ i < 480 then su a c i.toNat v else a) m k = a m k := by
    intro a c i v hc; split
    · exact su_ne a v (Or.inl (fun e => hc e.symm))
    · rfl
  have e1 := h2 (rPut (rPut σ (m + 7) 60 s w) (m + 19) 60 s 1) (m + 21) (wr (s * 8)) w (by omega)
  have e2 := h1 (rPut σ (m + 7) 60 s w) (m + 19) s 1 (by omega)
  have e3 := h1 σ (m + 7) s w (by omega)
  unfold rPut at e1 e2 e3
  exact e1.trans (e2.trans e3)
theorem mMk_5 (σ : Sg) (m k : Nat) (j : Nat) : (itr k (mMkS m) (0, σ)).2 m j = σ m j := by
  induction k with
  | zero => rfl
  | succ k ih => rw [itr_s, mMkS]; exact (mWhole_5 _ _ _ _ _).trans ih
set_option maxRecDepth 4000 in
theorem s_X1_clear (ad : Nat → Nat) (σ : Sg) {m : Nat} (hm : m ∈ gw_mills) : gw_Sp yX1_clear cX1_clear 1 none 1 0 0 [vR (some m)] (gw_M0 ad) σ (gw_D none (gw_M0 ad) (mClear σ m)) gw_no := by
  refine gw_Sp.of [some (vR (some m))] (by decide +kernel) rfl (Nat.le_of_ble_eq_true rfl) ?_
  intro X G fx het hnm
  refine g_aload_n fx dX1_clear_0 rfl ?_
  refine g_iconst fx dX1_clear_1 (by unfold okI; omega) ?_
  refine g_puti fx dX1_clear_2 fk_RX1_51 (mill_O hm) ?_
  refine g_aload_n fx dX1_clear_5 rfl ?_
  refine g_iconst fx dX1_clear_6 (by unfold okI; omega) ?_
  refine g_puti fx dX1_clear_7 fk_RX1_55 (mill_O hm) ?_
  refine g_aload_n fx dX1_clear_10 rfl ?_
  refine g_iconst fx dX1_clear_11 (by unfold okI; omega) ?_
  refine g_puti fx dX1_clear_12 fk_RX1_58 (mill_O hm) ?_
  refine g_aload_n fx dX1_clear_15 rfl ?_
  refine g_iconst fx dX1_clear_16 (by unfold okI; omega) ?_
  refine g_puti fx dX1_clear_17 fk_RX1_61 (mill_O hm) ?_
  refine g_aload_n fx dX1_clear_20 rfl ?_
  refine g_iconst fx dX1_clear_21 (by unfold okI; omega) ?_
  refine g_puti fx dX1_clear_22 fk_RX1_64 (mill_O hm) ?_
  exact g_vret fx rfl dX1_clear_25 (by decide) (by decide) (gw_le.rf _) ⟨rfl, rfl, rfl⟩
set_option maxRecDepth 4000 in
theorem s_X1_addStone (ad : Nat → Nat) (σ : Sg) {m : Nat} (hm : m ∈ gw_mills) (pace : Int) : gw_Sp yX1_addStone cX1_addStone 2 none 2 0 0 [vR (some m), vI pace] (gw_M0 ad) σ (gw_D none (gw_M0 ad) (mStone σ m pace)) gw_no := by
  refine gw_Sp.of [some (vR (some m)), some (vI pace)] (by decide +kernel) rfl (Nat.le_of_ble_eq_true rfl) ?_
  intro X G fx het hnm
  refine g_aload_n fx dX1_addStone_0 rfl ?_
  refine g_getr fx dX1_addStone_1 fk_RX1_23 (mill_O hm) (mill_f7 hm) ?_
  refine g_aload_n fx dX1_addStone_4 rfl ?_
  refine g_geti fx dX1_addStone_5 fk_RX1_55 (by decide) (mill_O hm) ?_
  refine g_iload_n fx dX1_addStone_8 rfl ?_
  refine g_callVD0 fx dX1_addStone_9 mv_RX1_67 my_X4_put (s_X4_putC ad _ (mill_h7 hm) (show (m + 4) + 1 = (m + 5) from rfl) _ _) (row_O (mill_h7 hm)) rfl rfl rfl (Nat.le_of_ble_eq_true rfl) (by decide) (by decide) ?_
  refine g_aload_n fx dX1_addStone_12 rfl ?_
  refine g_dup fx dX1_addStone_13 rfl ?_
  refine g_geti fx dX1_addStone_14 fk_RX1_55 (by decide) (mill_O hm) ?_
  refine g_iconst fx dX1_addStone_17 (by unfold okI; omega) ?_
  refine g_iadd fx dX1_addStone_18 ?_
  refine g_puti fx dX1_addStone_19 fk_RX1_55 (mill_O hm) ?_
  exact g_vret fx rfl dX1_addStone_22 (by decide) (by decide) (gw_le.rf _) ⟨rfl, rfl, rfl⟩
set_option maxRecDepth 4000 in
theorem s_X1_standAtLeastOneStone (ad : Nat → Nat) (σ : Sg) {m : Nat} (hm : m ∈ gw_mills) : gw_Sp yX1_standAtLeastOneStone cX1_standAtLeastOneStone 1 none 3 0 0 [vR (some m)] (gw_M0 ad) σ (gw_D none (gw_M0 ad) (mStand σ m)) gw_no := by
  refine gw_Sp.of [some (vR (some m))] (by decide +kernel) rfl (Nat.le_of_ble_eq_true rfl) ?_
  intro X G fx het hnm
  refine g_aload_n fx dX1_standAtLeastOneStone_0 rfl ?_
  refine g_geti fx dX1_standAtLeastOneStone_1 fk_RX1_55 (by decide) (mill_O hm) ?_
  refine g_if_ne (tgt := 12) fx dX1_standAtLeastOneStone_4 (by decide) (fun h4 => ?_) (fun h4 => ?_)
  · exact g_vret fx rfl dX1_standAtLeastOneStone_12 (by decide) (by decide) (gw_le.rf _) ⟨rfl, rfl, by rw [mStand]; (repeat first | rw [if_pos (by omega)] | rw [if_neg (by omega)]) <;> rfl⟩
  · refine g_aload_n fx dX1_standAtLeastOneStone_7 rfl ?_
    refine g_iconst fx dX1_standAtLeastOneStone_8 (by unfold okI; omega) ?_
    refine g_callVD0 fx dX1_standAtLeastOneStone_9 mv_RX1_71 my_X1_addStone (s_X1_addStone ad _ hm _) (mill_O hm) rfl rfl rfl (Nat.le_of_ble_eq_true rfl) (by decide) (by decide) ?_
    exact g_vret fx rfl dX1_standAtLeastOneStone_12 (by decide) (by decide) (gw_le.rf _) ⟨rfl, rfl, by rw [mStand]; (repeat first | rw [if_pos (by omega)] | rw [if_neg (by omega)]) <;> rfl⟩
set_option maxRecDepth 4000 in
theorem s_X1_setWhole (ad : Nat → Nat) (σ : Sg) {m : Nat} (hm : m ∈ gw_mills) (s : Int) (w : Int) : gw_Sp yX1_setWhole cX1_setWhole 3 none 2 0 0 [vR (some m), vI s, vI w] (gw_M0 ad) σ (gw_D none (gw_M0 ad) (mWhole σ m s w)) gw_no := by
  refine gw_Sp.of [some (vR (some m)), some (vI s), some (vI w)] (by decide +kernel) rfl (Nat.le_of_ble_eq_true rfl) ?_
  intro X G fx het hnm
  refine g_aload_n fx dX1_setWhole_0 rfl ?_
  refine g_getr fx dX1_setWhole_1 fk_RX1_27 (mill_O hm) (mill_f8 hm) ?_
  refine g_iload_n fx dX1_setWhole_4 rfl ?_
  refine g_iload_n fx dX1_setWhole_5 rfl ?_
  refine g_callVD0 fx dX1_setWhole_6 mv_RX1_67 my_X4_put (s_X4_putC ad _ (mill_h8 hm) (show (m + 6) + 1 = (m + 7) from rfl) _ _) (row_O (mill_h8 hm)) rfl rfl rfl (Nat.le_of_ble_eq_true rfl) (by decide) (by decide) ?_
  refine g_aload_n fx dX1_setWhole_9 rfl ?_
  refine g_getr fx dX1_setWhole_10 fk_RX1_45 (mill_O hm) (mill_f14 hm) ?_
  refine g_iload_n fx dX1_setWhole_13 rfl ?_
  refine g_iconst fx dX1_setWhole_14 (by unfold okI; omega) ?_
  refine g_callVD0 fx dX1_setWhole_15 mv_RX1_67 my_X4_put (s_X4_putC ad _ (mill_h14 hm) (show (m + 18) + 1 = (m + 19) from rfl) _ _) (row_O (mill_h14 hm)) rfl rfl rfl (Nat.le_of_ble_eq_true rfl) (by decide) (by decide) ?_
  refine g_aload_n fx dX1_setWhole_18 rfl ?_
  refine g_getr fx dX1_setWhole_19 fk_RX1_48 (mill_O hm) (mill_f15 hm) ?_
  refine g_iload_n fx dX1_setWhole_22 rfl ?_
  refine g_bipush fx dX1_setWhole_23 (by decide) ?_
  refine g_imul fx dX1_setWhole_25 ?_
  refine g_iload_n fx dX1_setWhole_26 rfl ?_
  refine g_callVD0 fx dX1_setWhole_27 mv_RX1_67 my_X4_put (s_X4_putC ad _ (mill_h15 hm) (show (m + 20) + 1 = (m + 21) from rfl) _ _) (row_O (mill_h15 hm)) rfl rfl rfl (Nat.le_of_ble_eq_true rfl) (by decide) (by decide) ?_
  exact g_vret fx rfl dX1_setWhole_30 (by decide) (by decide) (gw_le.rf _) ⟨rfl, rfl, rfl⟩
set_option maxRecDepth 4000 in
theorem s_X1_addSack (ad : Nat → Nat) (σ : Sg) {m : Nat} (hm : m ∈ gw_mills) (w : Int) (person : Int) (come : Int) (sort : Int) (worth : Int) (home : Int) : gw_Sp yX1_addSack cX1_addSack 7 none 3 0 0 [vR (some m), vI w, vI person, vI come, vI sort, vI worth, vI home] (gw_M0 ad) σ (gw_D none (gw_M0 ad) (mSack σ m w person come sort worth home)) gw_no := by
  refine gw_Sp.of [some (vR (some m)), some (vI w), some (vI person), some (vI come), some (vI sort), some (vI worth), some (vI home)] (by decide +kernel) rfl (Nat.le_of_ble_eq_true rfl) ?_
  intro X G fx het hnm
  refine g_aload_n fx dX1_addSack_0 rfl ?_
  refine g_getr fx dX1_addSack_1 fk_RX1_30 (mill_O hm) (mill_f9 hm) ?_
  refine g_aload_n fx dX1_addSack_4 rfl ?_
  refine g_geti fx dX1_addSack_5 fk_RX1_64 (by decide) (mill_O hm) ?_
  refine g_iload_n fx dX1_addSack_8 rfl ?_
  refine g_callVD0 fx dX1_addSack_9 mv_RX1_67 my_X4_put (s_X4_putC ad _ (mill_h9 hm) (show (m + 8) + 1 = (m + 9) from rfl) _ _) (row_O (mill_h9 hm)) rfl rfl rfl (Nat.le_of_ble_eq_true rfl) (by decide) (by decide) ?_
  refine g_aload_n fx dX1_addSack_12 rfl ?_
  refine g_getr fx dX1_addSack_13 fk_RX1_33 (mill_O hm) (mill_f10 hm) ?_
  refine g_aload_n fx dX1_addSack_16 rfl ?_
  refine g_geti fx dX1_addSack_17 fk_RX1_64 (by decide) (mill_O hm) ?_
  refine g_iload_n fx dX1_addSack_20 rfl ?_
  refine g_callVD0 fx dX1_addSack_21 mv_RX1_67 my_X4_put (s_X4_putC ad _ (mill_h10 hm) (show (m + 10) + 1 = (m + 11) from rfl) _ _) (row_O (mill_h10 hm)) rfl rfl rfl (Nat.le_of_ble_eq_true rfl) (by decide) (by decide) ?_
  refine g_aload_n fx dX1_addSack_24 rfl ?_
  refine g_getr fx dX1_addSack_25 fk_RX1_36 (mill_O hm) (mill_f11 hm) ?_
  refine g_aload_n fx dX1_addSack_28 rfl ?_
  refine g_geti fx dX1_addSack_29 fk_RX1_64 (by decide) (mill_O hm) ?_
  refine g_iload fx dX1_addSack_32 rfl ?_
  refine g_callVD0 fx dX1_addSack_34 mv_RX1_67 my_X4_put (s_X4_putC ad _ (mill_h11 hm) (show (m + 12) + 1 = (m + 13) from rfl) _ _) (row_O (mill_h11 hm)) rfl rfl rfl (Nat.le_of_ble_eq_true rfl) (by decide) (by decide) ?_
  refine g_aload_n fx dX1_addSack_37 rfl ?_
  refine g_getr fx dX1_addSack_38 fk_RX1_39 (mill_O hm) (mill_f12 hm) ?_
  refine g_aload_n fx dX1_addSack_41 rfl ?_
  refine g_geti fx dX1_addSack_42 fk_RX1_64 (by decide) (mill_O hm) ?_
  refine g_iload fx dX1_addSack_45 rfl ?_
  refine g_callVD0 fx dX1_addSack_47 mv_RX1_67 my_X4_put (s_X4_putC ad _ (mill_h12 hm) (show (m + 14) + 1 = (m + 15) from rfl) _ _) (row_O (mill_h12 hm)) rfl rfl rfl (Nat.le_of_ble_eq_true rfl) (by decide) (by decide) ?_
  refine g_aload_n fx dX1_addSack_50 rfl ?_
  refine g_getr fx dX1_addSack_51 fk_RX1_42 (mill_O hm) (mill_f13 hm) ?_
  refine g_aload_n fx dX1_addSack_54 rfl ?_
  refine g_geti fx dX1_addSack_55 fk_RX1_64 (by decide) (mill_O hm) ?_
  refine g_iload fx dX1_addSack_58 rfl ?_
  refine g_callVD0 fx dX1_addSack_60 mv_RX1_67 my_X4_put (s_X4_putC ad _ (mill_h13 hm) (show (m + 16) + 1 = (m + 17) from rfl) _ _) (row_O (mill_h13 hm)) rfl rfl rfl (Nat.le_of_ble_eq_true rfl) (by decide) (by decide) ?_
  refine g_aload_n fx dX1_addSack_63 rfl ?_
  refine g_aload_n fx dX1_addSack_64 rfl ?_
  refine g_geti fx dX1_addSack_65 fk_RX1_64 (by decide) (mill_O hm) ?_
  refine g_iload_n fx dX1_addSack_68 rfl ?_
  refine g_callVD0 fx dX1_addSack_69 mv_RX1_74 my_X1_setWhole (s_X1_setWhole ad _ hm _ _) (mill_O hm) rfl rfl rfl (Nat.le_of_ble_eq_true rfl) (by decide) (by decide) ?_
  refine g_aload_n fx dX1_addSack_72 rfl ?_
  refine g_dup fx dX1_addSack_73 rfl ?_
  refine g_geti fx dX1_addSack_74 fk_RX1_64 (by decide) (mill_O hm) ?_
  refine g_iconst fx dX1_addSack_77 (by unfold okI; omega) ?_
  refine g_iadd fx dX1_addSack_78 ?_
  refine g_puti fx dX1_addSack_79 fk_RX1_64 (mill_O hm) ?_
  exact g_vret fx rfl dX1_addSack_82 (by decide) (by decide) (gw_le.rf _) ⟨rfl, rfl, rfl⟩
set_option maxRecDepth 4000 in
theorem s_X1_setWay (ad : Nat → Nat) (σ : Sg) {m : Nat} (hm : m ∈ gw_mills) {w n : Nat} (hw : (w, n) ∈ gw_rows) (s : Int) (many : Int) : gw_Sp yX1_setWay cX1_setWay 5 none 2 0 0 [vR (some m), vI s, vR (some w), vI many] (gw_M0 ad) σ (gw_D none (gw_M0 ad) (mWay σ m (w + 1) n s many)) gw_no := by
  refine gw_Sp.of [some (vR (some m)), some (vI s), some (vR (some w)), some (vI many), none] (by decide +kernel) rfl (Nat.le_of_ble_eq_true rfl) ?_
  intro X G fx het hnm
  refine g_aload_n fx dX1_setWay_0 rfl ?_
  refine g_getr fx dX1_setWay_1 fk_RX1_45 (mill_O hm) (mill_f14 hm) ?_
  refine g_iload_n fx dX1_setWay_4 rfl ?_
  refine g_iload_n fx dX1_setWay_5 rfl ?_
  refine g_callVD0 fx dX1_setWay_6 mv_RX1_67 my_X4_put (s_X4_putC ad _ (mill_h14 hm) (show (m + 18) + 1 = (m + 19) from rfl) _ _) (row_O (mill_h14 hm)) rfl rfl rfl (Nat.le_of_ble_eq_true rfl) (by decide) (by decide) ?_
  refine g_iconst fx dX1_setWay_9 (by unfold okI; omega) ?_
  refine g_istore fx dX1_setWay_10 (by decide) rfl rfl ?_
  have loop12 : ∀ k : Nat, k ≤ (min many 8).toNat → gw_W X (yX1_setWay.cls, cX1_setWay, 5, none, 2, 0, 0) G (gw_Z X G (gw_M0 ad) σ (gw_D none (gw_M0 ad) (mWay σ m (w + 1) n s many)) gw_no 0 0) 0 0 (gw_M0 ad) (itr k (mWayS m (w + 1) n s) (rPut σ (m + 19) 60 s many)) 12 [some (vR (some m)), some (vI s), some (vR (some w)), some (vI many), some (vI (k : Nat))] [] := by
    refine up_ind _ ((min many 8).toNat) (fun k hk ih => ?_)
    refine g_iload fx dX1_setWay_12 rfl ?_
    refine g_iload_n fx dX1_setWay_14 rfl ?_
    refine g_icmp_ge (tgt := 51) fx dX1_setWay_15 (by decide) (fun h15 => ?_) (fun h15 => ?_)
    · exact g_vret fx rfl dX1_setWay_51 (by decide) (by decide) (gw_le.rf _) ⟨rfl, rfl, by rw [mWay, show k = (min many 8).toNat by omega]⟩
    · refine g_iload fx dX1_setWay_18 rfl ?_
      refine g_bipush fx dX1_setWay_20 (by decide) ?_
      refine g_icmp_ge (tgt := 51) fx dX1_setWay_22 (by decide) (fun h22 => ?_) (fun h22 => ?_)
      · exact g_vret fx rfl dX1_setWay_51 (by decide) (by decide) (gw_le.rf _) ⟨rfl, rfl, by rw [mWay, show k = (min many 8).toNat by omega]⟩
      · refine g_aload_n fx dX1_setWay_25 rfl ?_
        refine g_getr fx dX1_setWay_26 fk_RX1_48 (mill_O hm) (mill_f15 hm) ?_
        refine g_iload_n fx dX1_setWay_29 rfl ?_
        refine g_bipush fx dX1_setWay_30 (by decide) ?_
        refine g_imul fx dX1_setWay_32 ?_
        refine g_iload fx dX1_setWay_33 rfl ?_
        refine g_iadd fx dX1_setWay_35 ?_
        refine g_aload_n fx dX1_setWay_36 rfl ?_
        refine g_iload fx dX1_setWay_37 rfl ?_
        refine g_callVD fx dX1_setWay_39 mv_RX1_77 my_X4_at (s_X4_atC ad _ hw (show w + 1 = (w + 1) from rfl) _) (row_O hw) rfl rfl rfl (Nat.le_of_ble_eq_true rfl) (by decide) (by decide) ?_
        refine g_callVD0 fx dX1_setWay_42 mv_RX1_67 my_X4_put (s_X4_putC ad _ (mill_h15 hm) (show (m + 20) + 1 = (m + 21) from rfl) _ _) (row_O (mill_h15 hm)) rfl rfl rfl (Nat.le_of_ble_eq_true rfl) (by decide) (by decide) ?_
        refine g_iinc1 fx dX1_setWay_45 (by decide) rfl rfl (by unfold okI; omega) rfl ?_
        refine g_goto (tgt := 12) fx dX1_setWay_48 (by decide) ?_
        exact gw_cg (by rw [itr_s, mWayS]) rfl (ih (by omega))
  exact loop12 0 (Nat.zero_le _)
set_option maxRecDepth 4000 in
theorem s_X1_cutAt (ad : Nat → Nat) (σ : Sg) {m : Nat} (hm : m ∈ gw_mills) (s : Int) (i : Int) : gw_Sp yX1_cutAt cX1_cutAt 3 (some .int) 2 0 0 [vR (some m), vI s, vI i] (gw_M0 ad) σ (gw_D (some (vI (mCut σ m s i))) (gw_M0 ad) (σ)) gw_no := by
  refine gw_Sp.of [some (vR (some m)), some (vI s), some (vI i)] (by decide +kernel) rfl (Nat.le_of_ble_eq_true rfl) ?_
  intro X G fx het hnm
  refine g_aload_n fx dX1_cutAt_0 rfl ?_
  refine g_getr fx dX1_cutAt_1 fk_RX1_48 (mill_O hm) (mill_f15 hm) ?_
  refine g_iload_n fx dX1_cutAt_4 rfl ?_
  refine g_bipush fx dX1_cutAt_5 (by decide) ?_
  refine g_imul fx dX1_cutAt_7 ?_
  refine g_iload_n fx dX1_cutAt_8 rfl ?_
  refine g_iadd fx dX1_cutAt_9 ?_
  refine g_callVD fx dX1_cutAt_10 mv_RX1_77 my_X4_at (s_X4_atC ad _ (mill_h15 hm) (show (m + 20) + 1 = (m + 21) from rfl) _) (row_O (mill_h15 hm)) rfl rfl rfl (Nat.le_of_ble_eq_true rfl) (by decide) (by decide) ?_
  exact g_iret fx rfl dX1_cutAt_13 (by decide) (by decide) (gw_le.rf _) ⟨rfl, rfl, rfl⟩
set_option maxRecDepth 4000 in
theorem s_X1_isWhole (ad : Nat → Nat) (σ : Sg) {m : Nat} (hm : m ∈ gw_mills) (s : Int) : gw_Sp yX1_isWhole cX1_isWhole 2 (some .boolean) 2 0 0 [vR (some m), vI s] (gw_M0 ad) σ (gw_D (some (vI (mIsW σ m s))) (gw_M0 ad) (σ)) gw_no := by
  refine gw_Sp.of [some (vR (some m)), some (vI s)] (by decide +kernel) rfl (Nat.le_of_ble_eq_true rfl) ?_
  intro X G fx het hnm
  refine g_aload_n fx dX1_isWhole_0 rfl ?_
  refine g_getr fx dX1_isWhole_1 fk_RX1_45 (mill_O hm) (mill_f14 hm) ?_
  refine g_iload_n fx dX1_isWhole_4 rfl ?_
  refine g_callVD fx dX1_isWhole_5 mv_RX1_77 my_X4_at (s_X4_atC ad _ (mill_h14 hm) (show (m + 18) + 1 = (m + 19) from rfl) _) (row_O (mill_h14 hm)) rfl rfl rfl (Nat.le_of_ble_eq_true rfl) (by decide) (by decide) ?_
  refine g_iconst fx dX1_isWhole_8 (by unfold okI; omega) ?_
  refine g_icmp_ne (tgt := 16) fx dX1_isWhole_9 (by decide) (fun h9 => ?_) (fun h9 => ?_)
  · refine g_iconst fx dX1_isWhole_16 (by unfold okI; omega) ?_
    exact g_zret fx rfl dX1_isWhole_17 (by first | exact Or.inl rfl | exact Or.inr rfl | omega) (by decide) (by decide) (gw_le.rf _) ⟨by rw [mIsW]; (repeat first | rw [if_pos (by omega)] | rw [if_neg (by omega)]) <;> rfl, rfl, rfl⟩
  · refine g_iconst fx dX1_isWhole_12 (by unfold okI; omega) ?_
    refine g_goto (tgt := 17) fx dX1_isWhole_13 (by decide) ?_
    exact g_zret fx rfl dX1_isWhole_17 (by first | exact Or.inl rfl | exact Or.inr rfl | omega) (by decide) (by decide) (gw_le.rf _) ⟨by rw [mIsW]; (repeat first | rw [if_pos (by omega)] | rw [if_neg (by omega)]) <;> rfl, rfl, rfl⟩
set_option maxRecDepth 4000 in
theorem s_X1_makeWhole (ad : Nat → Nat) (σ : Sg) {m : Nat} (hm : m ∈ gw_mills) : gw_Sp yX1_makeWhole cX1_makeWhole 3 (some .int) 3 0 0 [vR (some m)] (gw_M0 ad) σ (gw_D (some (vI (mMk σ m).1)) (gw_M0 ad) ((mMk σ m).2)) gw_no := by
  refine gw_Sp.of [some (vR (some m)), none, none] (by decide +kernel) rfl (Nat.le_of_ble_eq_true rfl) ?_
  intro X G fx het hnm
  refine g_okS (fun hok => ?_)
  have hq5 := gw_okO 5 hok (mill_O hm) (by decide)
  unfold okI at hq5
  refine g_iconst fx dX1_makeWhole_0 (by unfold okI; omega) ?_
  refine g_istore_n fx dX1_makeWhole_1 (by decide) rfl rfl ?_
  refine g_iconst fx dX1_makeWhole_2 (by unfold okI; omega) ?_
  refine g_istore_n fx dX1_makeWhole_3 (by decide) rfl rfl ?_
  have loop4 : ∀ k : Nat, k ≤ (σ m 5).toNat → gw_W X (yX1_makeWhole.cls, cX1_makeWhole, 3, (some .int), 3, 0, 0) G (gw_Z X G (gw_M0 ad) σ (gw_D (some (vI (mMk σ m).1)) (gw_M0 ad) ((mMk σ m).2)) gw_no 0 0) 0 0 (gw_M0 ad) ((itr k (mMkS m) (0, σ)).2) 4 [some (vR (some m)), some (vI (itr k (mMkS m) (0, σ)).1), some (vI (k : Nat))] [] := by
    refine up_ind _ ((σ m 5).toNat) (fun k hk ih => ?_)
    have h5 := mMk_5 σ m k 5
    refine g_iload_n fx dX1_makeWhole_4 rfl ?_
    refine g_aload_n fx dX1_makeWhole_5 rfl ?_
    refine g_geti fx dX1_makeWhole_6 fk_RX1_64 (by decide) (mill_O hm) ?_
    refine g_icmp_ge (tgt := 47) fx dX1_makeWhole_9 (by decide) (fun h9 => ?_) (fun h9 => ?_)
    · refine g_iload_n fx dX1_makeWhole_47 rfl ?_
      exact g_iret fx rfl dX1_makeWhole_48 (by decide) (by decide) (gw_le.rf _) ⟨by rw [mMk, show k = (σ m 5).toNat by omega], rfl, by rw [mMk, show k = (σ m 5).toNat by omega]⟩
    · refine g_iload_n fx dX1_makeWhole_12 rfl ?_
      refine g_aload_n fx dX1_makeWhole_13 rfl ?_
      refine g_iload_n fx dX1_makeWhole_14 rfl ?_
      refine g_callVD fx dX1_makeWhole_15 mv_RX1_81 my_X1_isWhole (s_X1_isWhole ad _ hm _) (mill_O hm) rfl rfl rfl (Nat.le_of_ble_eq_true rfl) (by decide) (by decide) ?_
      refine g_if_eq (tgt := 25) fx dX1_makeWhole_18 (by decide) (fun h18 => ?_) (fun h18 => ?_)
      · refine g_iconst fx dX1_makeWhole_25 (by unfold okI; omega) ?_
        refine g_iadd fx dX1_makeWhole_26 ?_
        refine g_istore_n fx dX1_makeWhole_27 (by decide) rfl rfl ?_
        refine g_aload_n fx dX1_makeWhole_28 rfl ?_
        refine g_iload_n fx dX1_makeWhole_29 rfl ?_
        refine g_aload_n fx dX1_makeWhole_30 rfl ?_
        refine g_getr fx dX1_makeWhole_31 fk_RX1_27 (mill_O hm) (mill_f8 hm) ?_
        refine g_iload_n fx dX1_makeWhole_34 rfl ?_
        refine g_callVD fx dX1_makeWhole_35 mv_RX1_77 my_X4_at (s_X4_atC ad _ (mill_h8 hm) (show (m + 6) + 1 = (m + 7) from rfl) _) (row_O (mill_h8 hm)) rfl rfl rfl (Nat.le_of_ble_eq_true rfl) (by decide) (by decide) ?_
        refine g_callVD0 fx dX1_makeWhole_38 mv_RX1_74 my_X1_setWhole (s_X1_setWhole ad _ hm _ _) (mill_O hm) rfl rfl rfl (Nat.le_of_ble_eq_true rfl) (by decide) (by decide) ?_
        refine g_iinc1 fx dX1_makeWhole_41 (by decide) rfl rfl (by unfold okI; omega) rfl ?_
        refine g_goto (tgt := 4) fx dX1_makeWhole_44 (by decide) ?_
        exact gw_cg (by rw [itr_s, mMkS]) (by rw [itr_s, mMkS]; dsimp only; (first | rw [if_pos (by omega)] | rw [if_neg (by omega)]); rfl) (ih (by omega))
      · refine g_iconst fx dX1_makeWhole_21 (by unfold okI; omega) ?_
        refine g_goto (tgt := 26) fx dX1_makeWhole_22 (by decide) ?_
        refine g_iadd fx dX1_makeWhole_26 ?_
        refine g_istore_n fx dX1_makeWhole_27 (by decide) rfl rfl ?_
        refine g_aload_n fx dX1_makeWhole_28 rfl ?_
        refine g_iload_n fx dX1_makeWhole_29 rfl ?_
        refine g_aload_n fx dX1_makeWhole_30 rfl ?_
        refine g_getr fx dX1_makeWhole_31 fk_RX1_27 (mill_O hm) (mill_f8 hm) ?_
        refine g_iload_n fx dX1_makeWhole_34 rfl ?_
        refine g_callVD fx dX1_makeWhole_35 mv_RX1_77 my_X4_at (s_X4_atC ad _ (mill_h8 hm) (show (m + 6) + 1 = (m + 7) from rfl) _) (row_O (mill_h8 hm)) rfl rfl rfl (Nat.le_of_ble_eq_true rfl) (by decide) (by decide) ?_
        refine g_callVD0 fx dX1_makeWhole_38 mv_RX1_74 my_X1_setWhole (s_X1_setWhole ad _ hm _ _) (mill_O hm) rfl rfl rfl (Nat.le_of_ble_eq_true rfl) (by decide) (by decide) ?_
        refine g_iinc1 fx dX1_makeWhole_41 (by decide) rfl rfl (by unfold okI; omega) rfl ?_
        refine g_goto (tgt := 4) fx dX1_makeWhole_44 (by decide) ?_
        exact gw_cg (by rw [itr_s, mMkS]) (by rw [itr_s, mMkS]; dsimp only; (first | rw [if_pos (by omega)] | rw [if_neg (by omega)]); rfl) (ih (by omega))
  exact loop4 0 (Nat.zero_le _)
set_option maxRecDepth 4000 in
theorem s_X1_firstPiece (ad : Nat → Nat) (σ : Sg) {m : Nat} (hm : m ∈ gw_mills) (s : Int) : gw_Sp yX1_firstPiece cX1_firstPiece 4 (some .int) 2 0 0 [vR (some m), vI s] (gw_M0 ad) σ (gw_D (some (vI (mFirst σ m s))) (gw_M0 ad) (σ)) gw_no := by
  refine gw_Sp.of [some (vR (some m)), some (vI s), none, none] (by decide +kernel) rfl (Nat.le_of_ble_eq_true rfl) ?_
  intro X G fx het hnm
  refine g_okS (fun hok => ?_)
  have hq5 := gw_okO 5 hok (mill_O hm) (by decide)
  unfold okI at hq5
  refine g_iconst fx dX1_firstPiece_0 (by unfold okI; omega) ?_
  refine g_istore_n fx dX1_firstPiece_1 (by decide) rfl rfl ?_
  refine g_iconst fx dX1_firstPiece_2 (by unfold okI; omega) ?_
  refine g_istore_n fx dX1_firstPiece_3 (by decide) rfl rfl ?_
  have loop4 : ∀ k : Nat, k ≤ (min s (σ m 5)).toNat → gw_W X (yX1_firstPiece.cls, cX1_firstPiece, 4, (some .int), 2, 0, 0) G (gw_Z X G (gw_M0 ad) σ (gw_D (some (vI (mFirst σ m s))) (gw_M0 ad) (σ)) gw_no 0 0) 0 0 (gw_M0 ad) (σ) 4 [some (vR (some m)), some (vI s), some (vI (itr k (mFirstS σ m) 0)), some (vI (k : Nat))] [] := by
    refine up_ind _ ((min s (σ m 5)).toNat) (fun k hk ih => ?_)
    refine g_iload_n fx dX1_firstPiece_4 rfl ?_
    refine g_iload_n fx dX1_firstPiece_5 rfl ?_
    refine g_icmp_ge (tgt := 34) fx dX1_firstPiece_6 (by decide) (fun h6 => ?_) (fun h6 => ?_)
    · refine g_iload_n fx dX1_firstPiece_34 rfl ?_
      exact g_iret fx rfl dX1_firstPiece_35 (by decide) (by decide) (gw_le.rf _) ⟨by rw [mFirst, show k = (min s (σ m 5)).toNat by omega], rfl, rfl⟩
    · refine g_iload_n fx dX1_firstPiece_9 rfl ?_
      refine g_aload_n fx dX1_firstPiece_10 rfl ?_
      refine g_geti fx dX1_firstPiece_11 fk_RX1_64 (by decide) (mill_O hm) ?_
      refine g_icmp_ge (tgt := 34) fx dX1_firstPiece_14 (by decide) (fun h14 => ?_) (fun h14 => ?_)
      · refine g_iload_n fx dX1_firstPiece_34 rfl ?_
        exact g_iret fx rfl dX1_firstPiece_35 (by decide) (by decide) (gw_le.rf _) ⟨by rw [mFirst, show k = (min s (σ m 5)).toNat by omega], rfl, rfl⟩
      · refine g_iload_n fx dX1_firstPiece_17 rfl ?_
        refine g_aload_n fx dX1_firstPiece_18 rfl ?_
        refine g_getr fx dX1_firstPiece_19 fk_RX1_45 (mill_O hm) (mill_f14 hm) ?_
        refine g_iload_n fx dX1_firstPiece_22 rfl ?_
        refine g_callVD fx dX1_firstPiece_23 mv_RX1_77 my_X4_at (s_X4_atC ad _ (mill_h14 hm) (show (m + 18) + 1 = (m + 19) from rfl) _) (row_O (mill_h14 hm)) rfl rfl rfl (Nat.le_of_ble_eq_true rfl) (by decide) (by decide) ?_
        refine g_iadd fx dX1_firstPiece_26 ?_
        refine g_istore_n fx dX1_firstPiece_27 (by decide) rfl rfl ?_
        refine g_iinc1 fx dX1_firstPiece_28 (by decide) rfl rfl (by unfold okI; omega) rfl ?_
        refine g_goto (tgt := 4) fx dX1_firstPiece_31 (by decide) ?_
        exact gw_cg rfl (by rw [itr_s, mFirstS]; rfl) (ih (by omega))
  exact loop4 0 (Nat.zero_le _)
set_option maxRecDepth 4000 in
theorem s_X1_pieces (ad : Nat → Nat) (σ : Sg) {m : Nat} (hm : m ∈ gw_mills) : gw_Sp yX1_pieces cX1_pieces 1 (some .int) 3 0 0 [vR (some m)] (gw_M0 ad) σ (gw_D (some (vI (mPcs σ m))) (gw_M0 ad) (σ)) gw_no := by
  refine gw_Sp.of [some (vR (some m))] (by decide +kernel) rfl (Nat.le_of_ble_eq_true rfl) ?_
  intro X G fx het hnm
  refine g_aload_n fx dX1_pieces_0 rfl ?_
  refine g_aload_n fx dX1_pieces_1 rfl ?_
  refine g_geti fx dX1_pieces_2 fk_RX1_64 (by decide) (mill_O hm) ?_
  refine g_callVD fx dX1_pieces_5 mv_RX1_85 my_X1_firstPiece (s_X1_firstPiece ad _ hm _) (mill_O hm) rfl rfl rfl (Nat.le_of_ble_eq_true rfl) (by decide) (by decide) ?_
  exact g_iret fx rfl dX1_pieces_8 (by decide) (by decide) (gw_le.rf _) ⟨rfl, rfl, rfl⟩
set_option maxRecDepth 4000 in
theorem s_X1_piecesBeside (ad : Nat → Nat) (σ : Sg) {m : Nat} (hm : m ∈ gw_mills) (s : Int) : gw_Sp yX1_piecesBeside cX1_piecesBeside 2 (some .int) 4 0 0 [vR (some m), vI s] (gw_M0 ad) σ (gw_D (some (vI (mBes σ m s))) (gw_M0 ad) (σ)) gw_no := by
  refine gw_Sp.of [some (vR (some m)), some (vI s)] (by decide +kernel) rfl (Nat.le_of_ble_eq_true rfl) ?_
  intro X G fx het hnm
  refine g_aload_n fx dX1_piecesBeside_0 rfl ?_
  refine g_callVD fx dX1_piecesBeside_1 mv_RX1_88 my_X1_pieces (s_X1_pieces ad _ hm) (mill_O hm) rfl rfl rfl (Nat.le_of_ble_eq_true rfl) (by decide) (by decide) ?_
  refine g_aload_n fx dX1_piecesBeside_4 rfl ?_
  refine g_getr fx dX1_piecesBeside_5 fk_RX1_45 (mill_O hm) (mill_f14 hm) ?_
  refine g_iload_n fx dX1_piecesBeside_8 rfl ?_
  refine g_callVD fx dX1_piecesBeside_9 mv_RX1_77 my_X4_at (s_X4_atC ad _ (mill_h14 hm) (show (m + 18) + 1 = (m + 19) from rfl) _) (row_O (mill_h14 hm)) rfl rfl rfl (Nat.le_of_ble_eq_true rfl) (by decide) (by decide) ?_
  refine g_isub fx dX1_piecesBeside_12 ?_
  exact g_iret fx rfl dX1_piecesBeside_13 (by decide) (by decide) (gw_le.rf _) ⟨rfl, rfl, rfl⟩
set_option maxRecDepth 4000 in
theorem s_X1_nextDraw (ad : Nat → Nat) (σ : Sg) (x : Int) : gw_Sp yX1_nextDraw cX1_nextDraw 1 (some .int) 1 0 0 [vI x] (gw_M0 ad) σ (gw_D (some (vI (mDraw x))) (gw_M0 ad) (σ)) gw_no := by
  refine gw_Sp.of [some (vI x)] (by decide +kernel) rfl (Nat.le_of_ble_eq_true rfl) ?_
  intro X G fx het hnm
  refine g_ldcI fx dX1_nextDraw_0 kc_RX1_99 (by unfold okI; omega) ?_
  refine g_iload_n fx dX1_nextDraw_2 rfl ?_
  refine g_imul fx dX1_nextDraw_3 ?_
  refine g_sipush fx dX1_nextDraw_4 (by decide) ?_
  refine g_iadd fx dX1_nextDraw_7 ?_
  exact g_iret fx rfl dX1_nextDraw_8 (by decide) (by decide) (gw_le.rf _) ⟨rfl, rfl, rfl⟩
set_option maxRecDepth 4000 in
theorem s_X1_addStrangers (ad : Nat → Nat) (σ : Sg) {m : Nat} (hm : m ∈ gw_mills) (seed : Int) (come : Int) (greatest : Int) : gw_Sp yX1_addStrangers cX1_addStrangers 7 none 4 0 0 [vR (some m), vI seed, vI come, vI greatest] (gw_M0 ad) σ (gw_D none (gw_M0 ad) (mStr σ m seed come greatest)) gw_no := by
  refine gw_Sp.of [some (vR (some m)), some (vI seed), some (vI come), some (vI greatest), none, none, none] (by decide +kernel) rfl (Nat.le_of_ble_eq_true rfl) ?_
  intro X G fx het hnm
  refine g_iload_n fx dX1_addStrangers_0 rfl ?_
  refine g_istore fx dX1_addStrangers_1 (by decide) rfl rfl ?_
  refine g_iconst fx dX1_addStrangers_3 (by unfold okI; omega) ?_
  refine g_istore fx dX1_addStrangers_4 (by decide) rfl rfl ?_
  have loop6 : ∀ k : Nat, k ≤ 300 → gw_W X (yX1_addStrangers.cls, cX1_addStrangers, 7, none, 4, 0, 0) G (gw_Z X G (gw_M0 ad) σ (gw_D none (gw_M0 ad) (mStr σ m seed come greatest)) gw_no 0 0) 0 0 (gw_M0 ad) ((itr k (mStrS m come greatest) (seed, σ)).2) 6 [some (vR (some m)), some (vI seed), some (vI come), some (vI greatest), some (vI (itr k (mStrS m come greatest) (seed, σ)).1), some (vI (k : Nat)), none] [] := by
    refine up_ind _ (300) (fun k hk ih => ?_)
    refine g_iload fx dX1_addStrangers_6 rfl ?_
    refine g_sipush fx dX1_addStrangers_8 (by decide) ?_
    refine g_icmp_ge (tgt := 87) fx dX1_addStrangers_11 (by decide) (fun h11 => ?_) (fun h11 => ?_)
    · exact g_vret fx rfl dX1_addStrangers_87 (by decide) (by decide) (gw_le.rf _) ⟨rfl, rfl, by rw [mStr, show k = 300 by omega]⟩
    · refine g_iload fx dX1_addStrangers_14 rfl ?_
      refine g_callSD fx dX1_addStrangers_16 ms_RX1_92 my_X1_nextDraw (s_X1_nextDraw ad _ _) rfl rfl (Nat.le_of_ble_eq_true rfl) (by decide) (by decide) ?_
      refine g_istore fx dX1_addStrangers_19 (by decide) rfl rfl ?_
      refine g_iload fx dX1_addStrangers_21 rfl ?_
      refine g_bipush fx dX1_addStrangers_23 (by decide) ?_
      refine g_iushr fx dX1_addStrangers_25 ?_
      refine g_bipush fx dX1_addStrangers_26 (by decide) ?_
      refine g_irem fx dX1_addStrangers_28 (by omega) ?_
      refine g_iload_n fx dX1_addStrangers_29 rfl ?_
      refine g_icmp_ge (tgt := 81) fx dX1_addStrangers_30 (by decide) (fun h30 => ?_) (fun h30 => ?_)
      · refine g_iinc1 fx dX1_addStrangers_81 (by decide) rfl rfl (by unfold okI; omega) rfl ?_
        refine g_goto (tgt := 6) fx dX1_addStrangers_84 (by decide) ?_
        refine g_kill 6 rfl ?_
        exact gw_cg (by rw [itr_s, mStrS]; dsimp only; (first | rw [if_pos (by omega)] | rw [if_neg (by omega)]); (try dsimp only); (try first | rw [if_pos (by omega)] | rw [if_neg (by omega)])) (by rw [itr_s, mStrS]; dsimp only; (first | rw [if_pos (by omega)] | rw [if_neg (by omega)]); (try dsimp only); rfl) (ih (by omega))
      · refine g_aload_n fx dX1_addStrangers_33 rfl ?_
        refine g_callVD fx dX1_addStrangers_34 mv_RX1_88 my_X1_pieces (s_X1_pieces ad _ hm) (mill_O hm) rfl rfl rfl (Nat.le_of_ble_eq_true rfl) (by decide) (by decide) ?_
        refine g_bipush fx dX1_addStrangers_37 (by decide) ?_
        refine g_icmp_ge (tgt := 81) fx dX1_addStrangers_39 (by decide) (fun h39 => ?_) (fun h39 => ?_)
        · refine g_iinc1 fx dX1_addStrangers_81 (by decide) rfl rfl (by unfold okI; omega) rfl ?_
          refine g_goto (tgt := 6) fx dX1_addStrangers_84 (by decide) ?_
          refine g_kill 6 rfl ?_
          exact gw_cg (by rw [itr_s, mStrS]; dsimp only; (first | rw [if_pos (by omega)] | rw [if_neg (by omega)]); (try dsimp only); (try first | rw [if_pos (by omega)] | rw [if_neg (by omega)])) (by rw [itr_s, mStrS]; dsimp only; (first | rw [if_pos (by omega)] | rw [if_neg (by omega)]); (try dsimp only); rfl) (ih (by omega))
        · refine g_iload fx dX1_addStrangers_42 rfl ?_
          refine g_callSD fx dX1_addStrangers_44 ms_RX1_92 my_X1_nextDraw (s_X1_nextDraw ad _ _) rfl rfl (Nat.le_of_ble_eq_true rfl) (by decide) (by decide) ?_
          refine g_istore fx dX1_addStrangers_47 (by decide) rfl rfl ?_
          refine g_iload_n fx dX1_addStrangers_49 rfl ?_
          refine g_if_le (tgt := 65) fx dX1_addStrangers_50 (by decide) (fun h50 => ?_) (fun h50 => ?_)
          · refine g_iconst fx dX1_addStrangers_65 (by unfold okI; omega) ?_
            refine g_istore fx dX1_addStrangers_66 (by decide) rfl rfl ?_
            refine g_aload_n fx dX1_addStrangers_68 rfl ?_
            refine g_iload fx dX1_addStrangers_69 rfl ?_
            refine g_bipush fx dX1_addStrangers_71 (by decide) ?_
            refine g_iload fx dX1_addStrangers_73 rfl ?_
            refine g_iconst fx dX1_addStrangers_75 (by unfold okI; omega) ?_
            refine g_iconst fx dX1_addStrangers_76 (by unfold okI; omega) ?_
            refine g_iconst fx dX1_addStrangers_77 (by unfold okI; omega) ?_
            refine g_callVD0 fx dX1_addStrangers_78 mv_RX1_95 my_X1_addSack (s_X1_addSack ad _ hm _ _ _ _ _ _) (mill_O hm) rfl rfl rfl (Nat.le_of_ble_eq_true rfl) (by decide) (by decide) ?_
            refine g_iinc1 fx dX1_addStrangers_81 (by decide) rfl rfl (by unfold okI; omega) rfl ?_
            refine g_goto (tgt := 6) fx dX1_addStrangers_84 (by decide) ?_
            refine g_kill 6 rfl ?_
            exact gw_cg (by rw [itr_s, mStrS]; dsimp only; (first | rw [if_pos (by omega)] | rw [if_neg (by omega)]); (try dsimp only); (try first | rw [if_pos (by omega)] | rw [if_neg (by omega)])) (by rw [itr_s, mStrS]; dsimp only; (first | rw [if_pos (by omega)] | rw [if_neg (by omega)]); (try dsimp only); rfl) (ih (by omega))
          · refine g_iload fx dX1_addStrangers_53 rfl ?_
            refine g_bipush fx dX1_addStrangers_55 (by decide) ?_
            refine g_iushr fx dX1_addStrangers_57 ?_
            refine g_iload_n fx dX1_addStrangers_58 rfl ?_
            refine g_irem fx dX1_addStrangers_59 (by omega) ?_
            refine g_iconst fx dX1_addStrangers_60 (by unfold okI; omega) ?_
            refine g_iadd fx dX1_addStrangers_61 ?_
            refine g_goto (tgt := 66) fx dX1_addStrangers_62 (by decide) ?_
            refine g_istore fx dX1_addStrangers_66 (by decide) rfl rfl ?_
            refine g_aload_n fx dX1_addStrangers_68 rfl ?_
            refine g_iload fx dX1_addStrangers_69 rfl ?_
            refine g_bipush fx dX1_addStrangers_71 (by decide) ?_
            refine g_iload fx dX1_addStrangers_73 rfl ?_
            refine g_iconst fx dX1_addStrangers_75 (by unfold okI; omega) ?_
            refine g_iconst fx dX1_addStrangers_76 (by unfold okI; omega) ?_
            refine g_iconst fx dX1_addStrangers_77 (by unfold okI; omega) ?_
            refine g_callVD0 fx dX1_addStrangers_78 mv_RX1_95 my_X1_addSack (s_X1_addSack ad _ hm _ _ _ _ _ _) (mill_O hm) rfl rfl rfl (Nat.le_of_ble_eq_true rfl) (by decide) (by decide) ?_
            refine g_iinc1 fx dX1_addStrangers_81 (by decide) rfl rfl (by unfold okI; omega) rfl ?_
            refine g_goto (tgt := 6) fx dX1_addStrangers_84 (by decide) ?_
            refine g_kill 6 rfl ?_
            exact gw_cg (by rw [itr_s, mStrS]; dsimp only; (first | rw [if_pos (by omega)] | rw [if_neg (by omega)]); (try dsimp only); (try first | rw [if_pos (by omega)] | rw [if_neg (by omega)])) (by rw [itr_s, mStrS]; dsimp only; (first | rw [if_pos (by omega)] | rw [if_neg (by omega)]); (try dsimp only); rfl) (ih (by omega))
  exact loop6 0 (Nat.zero_le _)
set_option maxRecDepth 4000 in
theorem s_X1_copyOf (ad : Nat → Nat) (σ : Sg) {m : Nat} (hm : m ∈ gw_mills) {f : Nat} (hf : f ∈ gw_mills) (hne : m ≠ f) : gw_Sp yX1_copyOf cX1_copyOf 2 none 3 0 0 [vR (some m), vR (some f)] (gw_M0 ad) σ (gw_D none (gw_M0 ad) (mCopy σ m f)) gw_no := by
  refine gw_Sp.of [some (vR (some m)), some (vR (some f))] (by decide +kernel) rfl (Nat.le_of_ble_eq_true rfl) ?_
  intro X G fx het hnm
  refine g_aload_n fx dX1_copyOf_0 rfl ?_
  refine g_getr fx dX1_copyOf_1 fk_RX1_12 (mill_O hm) (mill_f0 hm) ?_
  refine g_aload_n fx dX1_copyOf_4 rfl ?_
  refine g_getr fx dX1_copyOf_5 fk_RX1_12 (mill_O hf) (mill_f0 hf) ?_
  refine g_callVD0 fx dX1_copyOf_8 mv_RX1_100 my_X0_copyOf (s_X0_copyOf ad _ (mill_h0 hm) (mill_h0 hf) (by omega)) (law_O (mill_h0 hm)) rfl rfl rfl (Nat.le_of_ble_eq_true rfl) (by decide) (by decide) ?_
  refine g_aload_n fx dX1_copyOf_11 rfl ?_
  refine g_aload_n fx dX1_copyOf_12 rfl ?_
  refine g_geti fx dX1_copyOf_13 fk_RX1_51 (by decide) (mill_O hf) ?_
  refine g_puti fx dX1_copyOf_16 fk_RX1_51 (mill_O hm) ?_
  refine g_aload_n fx dX1_copyOf_19 rfl ?_
  refine g_aload_n fx dX1_copyOf_20 rfl ?_
  refine g_geti fx dX1_copyOf_21 fk_RX1_55 (by decide) (mill_O hf) ?_
  refine g_puti fx dX1_copyOf_24 fk_RX1_55 (mill_O hm) ?_
  refine g_aload_n fx dX1_copyOf_27 rfl ?_
  refine g_aload_n fx dX1_copyOf_28 rfl ?_
  refine g_geti fx dX1_copyOf_29 fk_RX1_58 (by decide) (mill_O hf) ?_
  refine g_puti fx dX1_copyOf_32 fk_RX1_58 (mill_O hm) ?_
  refine g_aload_n fx dX1_copyOf_35 rfl ?_
  refine g_aload_n fx dX1_copyOf_36 rfl ?_
  refine g_geti fx dX1_copyOf_37 fk_RX1_61 (by decide) (mill_O hf) ?_
  refine g_puti fx dX1_copyOf_40 fk_RX1_61 (mill_O hm) ?_
  refine g_aload_n fx dX1_copyOf_43 rfl ?_
  refine g_aload_n fx dX1_copyOf_44 rfl ?_
  refine g_geti fx dX1_copyOf_45 fk_RX1_64 (by decide) (mill_O hf) ?_
  refine g_puti fx dX1_copyOf_48 fk_RX1_64 (mill_O hm) ?_
  refine g_aload_n fx dX1_copyOf_51 rfl ?_
  refine g_getr fx dX1_copyOf_52 fk_RX1_23 (mill_O hm) (mill_f7 hm) ?_
  refine g_aload_n fx dX1_copyOf_55 rfl ?_
  refine g_getr fx dX1_copyOf_56 fk_RX1_23 (mill_O hf) (mill_f7 hf) ?_
  refine g_callVD0 fx dX1_copyOf_59 mv_RX1_104 my_X4_copyOf (s_X4_copyOfC ad _ (mill_h7 hm) (mill_h7 hf) (show (m + 4) + 1 = (m + 5) from rfl) (show (f + 4) + 1 = (f + 5) from rfl) (by omega)) (row_O (mill_h7 hm)) rfl rfl rfl (Nat.le_of_ble_eq_true rfl) (by decide) (by decide) ?_
  refine g_aload_n fx dX1_copyOf_62 rfl ?_
  refine g_getr fx dX1_copyOf_63 fk_RX1_27 (mill_O hm) (mill_f8 hm) ?_
  refine g_aload_n fx dX1_copyOf_66 rfl ?_
  refine g_getr fx dX1_copyOf_67 fk_RX1_27 (mill_O hf) (mill_f8 hf) ?_
  refine g_callVD0 fx dX1_copyOf_70 mv_RX1_104 my_X4_copyOf (s_X4_copyOfC ad _ (mill_h8 hm) (mill_h8 hf) (show (m + 6) + 1 = (m + 7) from rfl) (show (f + 6) + 1 = (f + 7) from rfl) (by omega)) (row_O (mill_h8 hm)) rfl rfl rfl (Nat.le_of_ble_eq_true rfl) (by decide) (by decide) ?_
  refine g_aload_n fx dX1_copyOf_73 rfl ?_
  refine g_getr fx dX1_copyOf_74 fk_RX1_30 (mill_O hm) (mill_f9 hm) ?_
  refine g_aload_n fx dX1_copyOf_77 rfl ?_
  refine g_getr fx dX1_copyOf_78 fk_RX1_30 (mill_O hf) (mill_f9 hf) ?_
  refine g_callVD0 fx dX1_copyOf_81 mv_RX1_104 my_X4_copyOf (s_X4_copyOfC ad _ (mill_h9 hm) (mill_h9 hf) (show (m + 8) + 1 = (m + 9) from rfl) (show (f + 8) + 1 = (f + 9) from rfl) (by omega)) (row_O (mill_h9 hm)) rfl rfl rfl (Nat.le_of_ble_eq_true rfl) (by decide) (by decide) ?_
  refine g_aload_n fx dX1_copyOf_84 rfl ?_
  refine g_getr fx dX1_copyOf_85 fk_RX1_33 (mill_O hm) (mill_f10 hm) ?_
  refine g_aload_n fx dX1_copyOf_88 rfl ?_
  refine g_getr fx dX1_copyOf_89 fk_RX1_33 (mill_O hf) (mill_f10 hf) ?_
  refine g_callVD0 fx dX1_copyOf_92 mv_RX1_104 my_X4_copyOf (s_X4_copyOfC ad _ (mill_h10 hm) (mill_h10 hf) (show (m + 10) + 1 = (m + 11) from rfl) (show (f + 10) + 1 = (f + 11) from rfl) (by omega)) (row_O (mill_h10 hm)) rfl rfl rfl (Nat.le_of_ble_eq_true rfl) (by decide) (by decide) ?_
  refine g_aload_n fx dX1_copyOf_95 rfl ?_
  refine g_getr fx dX1_copyOf_96 fk_RX1_36 (mill_O hm) (mill_f11 hm) ?_
  refine g_aload_n fx dX1_copyOf_99 rfl ?_
  refine g_getr fx dX1_copyOf_100 fk_RX1_36 (mill_O hf) (mill_f11 hf) ?_
  refine g_callVD0 fx dX1_copyOf_103 mv_RX1_104 my_X4_copyOf (s_X4_copyOfC ad _ (mill_h11 hm) (mill_h11 hf) (show (m + 12) + 1 = (m + 13) from rfl) (show (f + 12) + 1 = (f + 13) from rfl) (by omega)) (row_O (mill_h11 hm)) rfl rfl rfl (Nat.le_of_ble_eq_true rfl) (by decide) (by decide) ?_
  refine g_aload_n fx dX1_copyOf_106 rfl ?_
  refine g_getr fx dX1_copyOf_107 fk_RX1_39 (mill_O hm) (mill_f12 hm) ?_
  refine g_aload_n fx dX1_copyOf_110 rfl ?_
  refine g_getr fx dX1_copyOf_111 fk_RX1_39 (mill_O hf) (mill_f12 hf) ?_
  refine g_callVD0 fx dX1_copyOf_114 mv_RX1_104 my_X4_copyOf (s_X4_copyOfC ad _ (mill_h12 hm) (mill_h12 hf) (show (m + 14) + 1 = (m + 15) from rfl) (show (f + 14) + 1 = (f + 15) from rfl) (by omega)) (row_O (mill_h12 hm)) rfl rfl rfl (Nat.le_of_ble_eq_true rfl) (by decide) (by decide) ?_
  refine g_aload_n fx dX1_copyOf_117 rfl ?_
  refine g_getr fx dX1_copyOf_118 fk_RX1_42 (mill_O hm) (mill_f13 hm) ?_
  refine g_aload_n fx dX1_copyOf_121 rfl ?_
  refine g_getr fx dX1_copyOf_122 fk_RX1_42 (mill_O hf) (mill_f13 hf) ?_
  refine g_callVD0 fx dX1_copyOf_125 mv_RX1_104 my_X4_copyOf (s_X4_copyOfC ad _ (mill_h13 hm) (mill_h13 hf) (show (m + 16) + 1 = (m + 17) from rfl) (show (f + 16) + 1 = (f + 17) from rfl) (by omega)) (row_O (mill_h13 hm)) rfl rfl rfl (Nat.le_of_ble_eq_true rfl) (by decide) (by decide) ?_
  refine g_aload_n fx dX1_copyOf_128 rfl ?_
  refine g_getr fx dX1_copyOf_129 fk_RX1_45 (mill_O hm) (mill_f14 hm) ?_
  refine g_aload_n fx dX1_copyOf_132 rfl ?_
  refine g_getr fx dX1_copyOf_133 fk_RX1_45 (mill_O hf) (mill_f14 hf) ?_
  refine g_callVD0 fx dX1_copyOf_136 mv_RX1_104 my_X4_copyOf (s_X4_copyOfC ad _ (mill_h14 hm) (mill_h14 hf) (show (m + 18) + 1 = (m + 19) from rfl) (show (f + 18) + 1 = (f + 19) from rfl) (by omega)) (row_O (mill_h14 hm)) rfl rfl rfl (Nat.le_of_ble_eq_true rfl) (by decide) (by decide) ?_
  refine g_aload_n fx dX1_copyOf_139 rfl ?_
  refine g_getr fx dX1_copyOf_140 fk_RX1_48 (mill_O hm) (mill_f15 hm) ?_
  refine g_aload_n fx dX1_copyOf_143 rfl ?_
  refine g_getr fx dX1_copyOf_144 fk_RX1_48 (mill_O hf) (mill_f15 hf) ?_
  refine g_callVD0 fx dX1_copyOf_147 mv_RX1_104 my_X4_copyOf (s_X4_copyOfC ad _ (mill_h15 hm) (mill_h15 hf) (show (m + 20) + 1 = (m + 21) from rfl) (show (f + 20) + 1 = (f + 21) from rfl) (by omega)) (row_O (mill_h15 hm)) rfl rfl rfl (Nat.le_of_ble_eq_true rfl) (by decide) (by decide) ?_
  exact g_vret fx rfl dX1_copyOf_150 (by decide) (by decide) (gw_le.rf _) ⟨rfl, rfl, rfl⟩
