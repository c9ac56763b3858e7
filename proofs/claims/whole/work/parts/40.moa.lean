theorem dX11_thrown_0 : gw_dc cX11_thrown 0 (.aload_n 0) 1 1 := ⟨by decide +kernel, rfl⟩
theorem dX11_thrown_1 : gw_dc cX11_thrown 1 (.getfield 88) 3 4 := ⟨by decide +kernel, rfl⟩
theorem fk_RX11_88 : gw_fk RX11 88 11 5 42 0 false := ⟨_, _, _, ck_11, by decide, by decide, fun _ => rfl, fun h => absurd h (by decide), fun h => absurd h (by decide), rfl, Or.inl (gw_mem 1426 (by decide +kernel) rfl)⟩
theorem o_223 {ad : Nat → Nat} : isO (gw_M0 ad) 223 11 42 := (by decide +kernel : 223 < gw_N0 ∧ gw_sh 223 = (11, 42))
theorem dX11_thrown_4 : decode cX11_thrown 4 = .ok (.ireturn, 1) := by decide +kernel
theorem dX11_fails_0 : gw_dc cX11_fails 0 (.aload_n 0) 1 1 := ⟨by decide +kernel, rfl⟩
theorem dX11_fails_1 : gw_dc cX11_fails 1 (.iload_n 1) 1 2 := ⟨by decide +kernel, rfl⟩
theorem dX11_fails_2 : gw_dc cX11_fails 2 (.putfield 88) 3 5 := ⟨by decide +kernel, rfl⟩
theorem dX11_fails_5 : gw_dc cX11_fails 5 (.iconst 0) 1 6 := ⟨by decide +kernel, rfl⟩
theorem dX11_fails_6 : decode cX11_fails 6 = .ok (.ireturn, 1) := by decide +kernel
theorem dX11_within_0 : gw_dc cX11_within 0 (.lload_n 0) 1 1 := ⟨by decide +kernel, rfl⟩
theorem dX11_within_1 : gw_dc cX11_within 1 (.lload_n 2) 1 2 := ⟨by decide +kernel, rfl⟩
theorem dX11_within_2 : gw_dc cX11_within 2 (.lcmp) 1 3 := ⟨by decide +kernel, rfl⟩
theorem dX11_within_3 : gw_dc cX11_within 3 (.ifCond .lt 14) 3 6 := ⟨by decide +kernel, rfl⟩
theorem dX11_within_17 : gw_dc cX11_within 17 (.iconst 0) 1 18 := ⟨by decide +kernel, rfl⟩
theorem dX11_within_18 : decode cX11_within 18 = .ok (.ireturn, 1) := by decide +kernel
theorem dX11_within_6 : gw_dc cX11_within 6 (.lload_n 0) 1 7 := ⟨by decide +kernel, rfl⟩
theorem dX11_within_7 : gw_dc cX11_within 7 (.lload 4) 2 9 := ⟨by decide +kernel, rfl⟩
theorem dX11_within_9 : gw_dc cX11_within 9 (.lcmp) 1 10 := ⟨by decide +kernel, rfl⟩
theorem dX11_within_10 : gw_dc cX11_within 10 (.ifCond .gt 7) 3 13 := ⟨by decide +kernel, rfl⟩
theorem dX11_within_13 : gw_dc cX11_within 13 (.iconst 1) 1 14 := ⟨by decide +kernel, rfl⟩
theorem dX11_within_14 : gw_dc cX11_within 14 (.goto 4) 3 17 := ⟨by decide +kernel, rfl⟩
theorem dX11_isLetter_0 : gw_dc cX11_isLetter 0 (.iload_n 0) 1 1 := ⟨by decide +kernel, rfl⟩
theorem dX11_isLetter_1 : gw_dc cX11_isLetter 1 (.bipush 97) 2 3 := ⟨by decide +kernel, rfl⟩
theorem dX11_isLetter_3 : gw_dc cX11_isLetter 3 (.if_icmp .lt 13) 3 6 := ⟨by decide +kernel, rfl⟩
theorem dX11_isLetter_16 : gw_dc cX11_isLetter 16 (.iconst 0) 1 17 := ⟨by decide +kernel, rfl⟩
theorem dX11_isLetter_17 : decode cX11_isLetter 17 = .ok (.ireturn, 1) := by decide +kernel
theorem dX11_isLetter_6 : gw_dc cX11_isLetter 6 (.iload_n 0) 1 7 := ⟨by decide +kernel, rfl⟩
theorem dX11_isLetter_7 : gw_dc cX11_isLetter 7 (.bipush 122) 2 9 := ⟨by decide +kernel, rfl⟩
theorem dX11_isLetter_9 : gw_dc cX11_isLetter 9 (.if_icmp .gt 7) 3 12 := ⟨by decide +kernel, rfl⟩
theorem dX11_isLetter_12 : gw_dc cX11_isLetter 12 (.iconst 1) 1 13 := ⟨by decide +kernel, rfl⟩
theorem dX11_isLetter_13 : gw_dc cX11_isLetter 13 (.goto 4) 3 16 := ⟨by decide +kernel, rfl⟩
theorem dX11_isDigit_0 : gw_dc cX11_isDigit 0 (.iload_n 0) 1 1 := ⟨by decide +kernel, rfl⟩
theorem dX11_isDigit_1 : gw_dc cX11_isDigit 1 (.bipush 48) 2 3 := ⟨by decide +kernel, rfl⟩
theorem dX11_isDigit_3 : gw_dc cX11_isDigit 3 (.if_icmp .lt 13) 3 6 := ⟨by decide +kernel, rfl⟩
theorem dX11_isDigit_16 : gw_dc cX11_isDigit 16 (.iconst 0) 1 17 := ⟨by decide +kernel, rfl⟩
theorem dX11_isDigit_17 : decode cX11_isDigit 17 = .ok (.ireturn, 1) := by decide +kernel
theorem dX11_isDigit_6 : gw_dc cX11_isDigit 6 (.iload_n 0) 1 7 := ⟨by decide +kernel, rfl⟩
theorem dX11_isDigit_7 : gw_dc cX11_isDigit 7 (.bipush 57) 2 9 := ⟨by decide +kernel, rfl⟩
theorem dX11_isDigit_9 : gw_dc cX11_isDigit 9 (.if_icmp .gt 7) 3 12 := ⟨by decide +kernel, rfl⟩
theorem dX11_isDigit_12 : gw_dc cX11_isDigit 12 (.iconst 1) 1 13 := ⟨by decide +kernel, rfl⟩
theorem dX11_isDigit_13 : gw_dc cX11_isDigit 13 (.goto 4) 3 16 := ⟨by decide +kernel, rfl⟩
theorem dX11_see_0 : gw_dc cX11_see 0 (.iload_n 1) 1 1 := ⟨by decide +kernel, rfl⟩
theorem dX11_see_1 : gw_dc cX11_see 1 (.aload_n 0) 1 2 := ⟨by decide +kernel, rfl⟩
theorem dX11_see_2 : gw_dc cX11_see 2 (.getfield 94) 3 5 := ⟨by decide +kernel, rfl⟩
theorem fk_RX11_94 : gw_fk RX11 94 11 8 42 0 false := ⟨_, _, _, ck_11, by decide, by decide, fun _ => rfl, fun h => absurd h (by decide), fun h => absurd h (by decide), rfl, Or.inl (gw_mem 1429 (by decide +kernel) rfl)⟩
theorem dX11_see_5 : gw_dc cX11_see 5 (.if_icmp .ge 12) 3 8 := ⟨by decide +kernel, rfl⟩
theorem dX11_see_17 : gw_dc cX11_see 17 (.iconst 0) 1 18 := ⟨by decide +kernel, rfl⟩
theorem dX11_see_18 : decode cX11_see 18 = .ok (.ireturn, 1) := by decide +kernel
theorem dX11_see_8 : gw_dc cX11_see 8 (.aload_n 0) 1 9 := ⟨by decide +kernel, rfl⟩
theorem dX11_see_9 : gw_dc cX11_see 9 (.getfield 26) 3 12 := ⟨by decide +kernel, rfl⟩
theorem fk_RX11_26 : gw_fk RX11 26 11 6 42 1 true := ⟨_, _, _, ck_11, by decide, by decide, fun h => absurd h (by decide), fun h => absurd h (by decide), fun _ => Or.inr ⟨_, rfl⟩, rfl, Or.inl (gw_mem 1427 (by decide +kernel) rfl)⟩
theorem rf_223_6 {ad : Nat → Nat} : (gw_M0 ad).2.2 223 6 = some 229 := (by decide +kernel : gw_rh 223 6 = some 229)
theorem dX11_see_12 : gw_dc cX11_see 12 (.iload_n 1) 1 13 := ⟨by decide +kernel, rfl⟩
theorem dX11_see_13 : gw_dc cX11_see 13 (.iaload) 1 14 := ⟨by decide +kernel, rfl⟩
theorem o_229 {ad : Nat → Nat} : isO (gw_M0 ad) 229 21 900 := (by decide +kernel : 229 < gw_N0 ∧ gw_sh 229 = (21, 900))
theorem dX11_see_14 : gw_dc cX11_see 14 (.goto 4) 3 17 := ⟨by decide +kernel, rfl⟩
theorem dX11_blames_0 : gw_dc cX11_blames 0 (.aload_n 0) 1 1 := ⟨by decide +kernel, rfl⟩
theorem dX11_blames_1 : gw_dc cX11_blames 1 (.getfield 120) 3 4 := ⟨by decide +kernel, rfl⟩
theorem fk_RX11_120 : gw_fk RX11 120 11 13 42 0 false := ⟨_, _, _, ck_11, by decide, by decide, fun _ => rfl, fun h => absurd h (by decide), fun h => absurd h (by decide), rfl, Or.inl (gw_mem 1434 (by decide +kernel) rfl)⟩
theorem dX11_blames_4 : gw_dc cX11_blames 4 (.ifCond .eq 4) 3 7 := ⟨by decide +kernel, rfl⟩
theorem dX11_blames_8 : gw_dc cX11_blames 8 (.aload_n 0) 1 9 := ⟨by decide +kernel, rfl⟩
theorem dX11_blames_9 : gw_dc cX11_blames 9 (.aload_n 0) 1 10 := ⟨by decide +kernel, rfl⟩
theorem dX11_blames_10 : gw_dc cX11_blames 10 (.getfield 103) 3 13 := ⟨by decide +kernel, rfl⟩
theorem fk_RX11_103 : gw_fk RX11 103 11 11 42 0 false := ⟨_, _, _, ck_11, by decide, by decide, fun _ => rfl, fun h => absurd h (by decide), fun h => absurd h (by decide), rfl, Or.inl (gw_mem 1432 (by decide +kernel) rfl)⟩
theorem dX11_blames_13 : gw_dc cX11_blames 13 (.iconst 4) 1 14 := ⟨by decide +kernel, rfl⟩
theorem dX11_blames_14 : gw_dc cX11_blames 14 (.if_icmp .ne 7) 3 17 := ⟨by decide +kernel, rfl⟩
theorem dX11_blames_21 : gw_dc cX11_blames 21 (.iload_n 1) 1 22 := ⟨by decide +kernel, rfl⟩
theorem dX11_blames_22 : gw_dc cX11_blames 22 (.putfield 120) 3 25 := ⟨by decide +kernel, rfl⟩
theorem dX11_blames_25 : gw_dc cX11_blames 25 (.aload_n 0) 1 26 := ⟨by decide +kernel, rfl⟩
theorem dX11_blames_26 : gw_dc cX11_blames 26 (.aload_n 0) 1 27 := ⟨by decide +kernel, rfl⟩
theorem dX11_blames_27 : gw_dc cX11_blames 27 (.getfield 100) 3 30 := ⟨by decide +kernel, rfl⟩
theorem fk_RX11_100 : gw_fk RX11 100 11 10 42 0 false := ⟨_, _, _, ck_11, by decide, by decide, fun _ => rfl, fun h => absurd h (by decide), fun h => absurd h (by decide), rfl, Or.inl (gw_mem 1431 (by decide +kernel) rfl)⟩
theorem dX11_blames_30 : gw_dc cX11_blames 30 (.putfield 123) 3 33 := ⟨by decide +kernel, rfl⟩
theorem fk_RX11_123 : gw_fk RX11 123 11 14 42 0 false := ⟨_, _, _, ck_11, by decide, by decide, fun _ => rfl, fun h => absurd h (by decide), fun h => absurd h (by decide), rfl, Or.inl (gw_mem 1435 (by decide +kernel) rfl)⟩
theorem dX11_blames_33 : decode cX11_blames 33 = .ok (.return_, 1) := by decide +kernel
theorem dX11_blames_17 : gw_dc cX11_blames 17 (.iconst 1) 1 18 := ⟨by decide +kernel, rfl⟩
theorem dX11_blames_18 : gw_dc cX11_blames 18 (.goto 4) 3 21 := ⟨by decide +kernel, rfl⟩
theorem dX11_blames_7 : decode cX11_blames 7 = .ok (.return_, 1) := by decide +kernel
theorem dX11_fault_0 : gw_dc cX11_fault 0 (.aload_n 0) 1 1 := ⟨by decide +kernel, rfl⟩
theorem dX11_fault_1 : gw_dc cX11_fault 1 (.iconst 0) 1 2 := ⟨by decide +kernel, rfl⟩
theorem dX11_fault_2 : gw_dc cX11_fault 2 (.putfield 88) 3 5 := ⟨by decide +kernel, rfl⟩
theorem dX11_fault_5 : gw_dc cX11_fault 5 (.iload_n 1) 1 6 := ⟨by decide +kernel, rfl⟩
theorem dX11_fault_6 : gw_dc cX11_fault 6 (.ifCond .ne 10) 3 9 := ⟨by decide +kernel, rfl⟩
theorem dX11_fault_16 : gw_dc cX11_fault 16 (.iload_n 1) 1 17 := ⟨by decide +kernel, rfl⟩
theorem dX11_fault_17 : gw_dc cX11_fault 17 (.iconst 1) 1 18 := ⟨by decide +kernel, rfl⟩
theorem dX11_fault_18 : gw_dc cX11_fault 18 (.if_icmp .ne 10) 3 21 := ⟨by decide +kernel, rfl⟩
theorem dX11_fault_28 : gw_dc cX11_fault 28 (.iconst (-1)) 1 29 := ⟨by decide +kernel, rfl⟩
theorem dX11_fault_29 : decode cX11_fault 29 = .ok (.ireturn, 1) := by decide +kernel
theorem dX11_fault_21 : gw_dc cX11_fault 21 (.aload_n 0) 1 22 := ⟨by decide +kernel, rfl⟩
theorem dX11_fault_22 : gw_dc cX11_fault 22 (.getfield 29) 3 25 := ⟨by decide +kernel, rfl⟩
theorem fk_RX11_29 : gw_fk RX11 29 11 16 42 0 false := ⟨_, _, _, ck_11, by decide, by decide, fun _ => rfl, fun h => absurd h (by decide), fun h => absurd h (by decide), rfl, Or.inl (gw_mem 1437 (by decide +kernel) rfl)⟩
theorem dX11_fault_25 : gw_dc cX11_fault 25 (.goto 4) 3 28 := ⟨by decide +kernel, rfl⟩
theorem dX11_fault_9 : gw_dc cX11_fault 9 (.aload_n 0) 1 10 := ⟨by decide +kernel, rfl⟩
theorem dX11_fault_10 : gw_dc cX11_fault 10 (.getfield 188) 3 13 := ⟨by decide +kernel, rfl⟩
theorem fk_RX11_188 : gw_fk RX11 188 11 15 42 0 false := ⟨_, _, _, ck_11, by decide, by decide, fun _ => rfl, fun h => absurd h (by decide), fun h => absurd h (by decide), rfl, Or.inl (gw_mem 1436 (by decide +kernel) rfl)⟩
theorem dX11_fault_13 : gw_dc cX11_fault 13 (.goto 16) 3 16 := ⟨by decide +kernel, rfl⟩
theorem dX11_feed_0 : gw_dc cX11_feed 0 (.aload_n 0) 1 1 := ⟨by decide +kernel, rfl⟩
theorem dX11_feed_1 : gw_dc cX11_feed 1 (.iconst 0) 1 2 := ⟨by decide +kernel, rfl⟩
theorem dX11_feed_2 : gw_dc cX11_feed 2 (.putfield 88) 3 5 := ⟨by decide +kernel, rfl⟩
theorem dX11_feed_5 : gw_dc cX11_feed 5 (.aload_n 0) 1 6 := ⟨by decide +kernel, rfl⟩
theorem dX11_feed_6 : gw_dc cX11_feed 6 (.getfield 91) 3 9 := ⟨by decide +kernel, rfl⟩
theorem fk_RX11_91 : gw_fk RX11 91 11 7 42 0 false := ⟨_, _, _, ck_11, by decide, by decide, fun _ => rfl, fun h => absurd h (by decide), fun h => absurd h (by decide), rfl, Or.inl (gw_mem 1428 (by decide +kernel) rfl)⟩
theorem dX11_feed_9 : gw_dc cX11_feed 9 (.bipush 20) 2 11 := ⟨by decide +kernel, rfl⟩
theorem dX11_feed_11 : gw_dc cX11_feed 11 (.iadd) 1 12 := ⟨by decide +kernel, rfl⟩
theorem dX11_feed_12 : gw_dc cX11_feed 12 (.sipush 900) 3 15 := ⟨by decide +kernel, rfl⟩
theorem dX11_feed_15 : gw_dc cX11_feed 15 (.if_icmp .le 5) 3 18 := ⟨by decide +kernel, rfl⟩
theorem dX11_feed_20 : gw_dc cX11_feed 20 (.iconst 0) 1 21 := ⟨by decide +kernel, rfl⟩
theorem dX11_feed_21 : gw_dc cX11_feed 21 (.istore 6) 2 23 := ⟨by decide +kernel, rfl⟩
theorem dX11_feed_23 : gw_dc cX11_feed 23 (.iload 6) 2 25 := ⟨by decide +kernel, rfl⟩
theorem dX11_feed_25 : gw_dc cX11_feed 25 (.bipush 20) 2 27 := ⟨by decide +kernel, rfl⟩
theorem dX11_feed_27 : gw_dc cX11_feed 27 (.if_icmp .ge 93) 3 30 := ⟨by decide +kernel, rfl⟩
theorem dX11_feed_120 : gw_dc cX11_feed 120 (.aload_n 0) 1 121 := ⟨by decide +kernel, rfl⟩
theorem dX11_feed_121 : gw_dc cX11_feed 121 (.getfield 91) 3 124 := ⟨by decide +kernel, rfl⟩
theorem dX11_feed_124 : decode cX11_feed 124 = .ok (.ireturn, 1) := by decide +kernel
theorem dX11_feed_30 : gw_dc cX11_feed 30 (.iload 6) 2 32 := ⟨by decide +kernel, rfl⟩
theorem dX11_feed_32 : gw_dc cX11_feed 32 (.iconst 4) 1 33 := ⟨by decide +kernel, rfl⟩
theorem dX11_feed_33 : gw_dc cX11_feed 33 (.if_icmp .ge 7) 3 36 := ⟨by decide +kernel, rfl⟩
theorem dX11_feed_40 : gw_dc cX11_feed 40 (.iload 6) 2 42 := ⟨by decide +kernel, rfl⟩
theorem dX11_feed_42 : gw_dc cX11_feed 42 (.bipush 8) 2 44 := ⟨by decide +kernel, rfl⟩
theorem dX11_feed_44 : gw_dc cX11_feed 44 (.if_icmp .ge 7) 3 47 := ⟨by decide +kernel, rfl⟩
theorem dX11_feed_51 : gw_dc cX11_feed 51 (.iload 6) 2 53 := ⟨by decide +kernel, rfl⟩
theorem dX11_feed_53 : gw_dc cX11_feed 53 (.bipush 12) 2 55 := ⟨by decide +kernel, rfl⟩
theorem dX11_feed_55 : gw_dc cX11_feed 55 (.if_icmp .ge 7) 3 58 := ⟨by decide +kernel, rfl⟩
theorem dX11_feed_62 : gw_dc cX11_feed 62 (.iload 6) 2 64 := ⟨by decide +kernel, rfl⟩
theorem dX11_feed_64 : gw_dc cX11_feed 64 (.bipush 16) 2 66 := ⟨by decide +kernel, rfl⟩
theorem dX11_feed_66 : gw_dc cX11_feed 66 (.if_icmp .ge 8) 3 69 := ⟨by decide +kernel, rfl⟩
theorem dX11_feed_74 : gw_dc cX11_feed 74 (.iload 5) 2 76 := ⟨by decide +kernel, rfl⟩
theorem dX11_feed_76 : gw_dc cX11_feed 76 (.istore 7) 2 78 := ⟨by decide +kernel, rfl⟩
theorem dX11_feed_78 : gw_dc cX11_feed 78 (.aload_n 0) 1 79 := ⟨by decide +kernel, rfl⟩
theorem dX11_feed_79 : gw_dc cX11_feed 79 (.getfield 26) 3 82 := ⟨by decide +kernel, rfl⟩
theorem dX11_feed_82 : gw_dc cX11_feed 82 (.aload_n 0) 1 83 := ⟨by decide +kernel, rfl⟩
theorem dX11_feed_83 : gw_dc cX11_feed 83 (.getfield 91) 3 86 := ⟨by decide +kernel, rfl⟩
theorem dX11_feed_86 : gw_dc cX11_feed 86 (.iload 7) 2 88 := ⟨by decide +kernel, rfl⟩
theorem dX11_feed_88 : gw_dc cX11_feed 88 (.bipush 24) 2 90 := ⟨by decide +kernel, rfl⟩
theorem dX11_feed_90 : gw_dc cX11_feed 90 (.bipush 8) 2 92 := ⟨by decide +kernel, rfl⟩
theorem dX11_feed_92 : gw_dc cX11_feed 92 (.iload 6) 2 94 := ⟨by decide +kernel, rfl⟩
theorem dX11_feed_94 : gw_dc cX11_feed 94 (.iconst 3) 1 95 := ⟨by decide +kernel, rfl⟩
theorem dX11_feed_95 : gw_dc cX11_feed 95 (.iand) 1 96 := ⟨by decide +kernel, rfl⟩
theorem dX11_feed_96 : gw_dc cX11_feed 96 (.imul) 1 97 := ⟨by decide +kernel, rfl⟩
theorem dX11_feed_97 : gw_dc cX11_feed 97 (.isub) 1 98 := ⟨by decide +kernel, rfl⟩
theorem dX11_feed_98 : gw_dc cX11_feed 98 (.iushr) 1 99 := ⟨by decide +kernel, rfl⟩
theorem dX11_feed_99 : gw_dc cX11_feed 99 (.sipush 255) 3 102 := ⟨by decide +kernel, rfl⟩
theorem dX11_feed_102 : gw_dc cX11_feed 102 (.iand) 1 103 := ⟨by decide +kernel, rfl⟩
theorem dX11_feed_103 : gw_dc cX11_feed 103 (.iastore) 1 104 := ⟨by decide +kernel, rfl⟩
theorem dX11_feed_104 : gw_dc cX11_feed 104 (.aload_n 0) 1 105 := ⟨by decide +kernel, rfl⟩
theorem dX11_feed_105 : gw_dc cX11_feed 105 (.dup) 1 106 := ⟨by decide +kernel, rfl⟩
theorem dX11_feed_106 : gw_dc cX11_feed 106 (.getfield 91) 3 109 := ⟨by decide +kernel, rfl⟩
theorem dX11_feed_109 : gw_dc cX11_feed 109 (.iconst 1) 1 110 := ⟨by decide +kernel, rfl⟩
theorem dX11_feed_110 : gw_dc cX11_feed 110 (.iadd) 1 111 := ⟨by decide +kernel, rfl⟩
theorem dX11_feed_111 : gw_dc cX11_feed 111 (.putfield 91) 3 114 := ⟨by decide +kernel, rfl⟩
theorem dX11_feed_114 : gw_dc cX11_feed 114 (.iinc 6 1) 3 117 := ⟨by decide +kernel, rfl⟩
theorem dX11_feed_117 : gw_dc cX11_feed 117 (.goto (-94)) 3 120 := ⟨by decide +kernel, rfl⟩
theorem dX11_feed_69 : gw_dc cX11_feed 69 (.iload 4) 2 71 := ⟨by decide +kernel, rfl⟩
theorem dX11_feed_71 : gw_dc cX11_feed 71 (.goto 5) 3 74 := ⟨by decide +kernel, rfl⟩
theorem dX11_feed_58 : gw_dc cX11_feed 58 (.iload_n 3) 1 59 := ⟨by decide +kernel, rfl⟩
theorem dX11_feed_59 : gw_dc cX11_feed 59 (.goto 17) 3 62 := ⟨by decide +kernel, rfl⟩
theorem dX11_feed_47 : gw_dc cX11_feed 47 (.iload_n 2) 1 48 := ⟨by decide +kernel, rfl⟩
theorem dX11_feed_48 : gw_dc cX11_feed 48 (.goto 28) 3 51 := ⟨by decide +kernel, rfl⟩
theorem dX11_feed_36 : gw_dc cX11_feed 36 (.iload_n 1) 1 37 := ⟨by decide +kernel, rfl⟩
theorem dX11_feed_37 : gw_dc cX11_feed 37 (.goto 39) 3 40 := ⟨by decide +kernel, rfl⟩
theorem dX11_feed_18 : gw_dc cX11_feed 18 (.iconst (-1)) 1 19 := ⟨by decide +kernel, rfl⟩
theorem dX11_feed_19 : decode cX11_feed 19 = .ok (.ireturn, 1) := by decide +kernel
/-! The model (223; arrays 224 told 225 fresh 226 saved 227 images 228 isImage 229 tape 230 laid 231 sackOfPiece 232 begunAt 233 doneAt 234 stoneOf 235 row 236 freeAt 237 lastSort 238 begunOf 239 takenAt 240 order 241 bestOrder 242 trial 243 bestParts 244 asWas 245 tSort 246 tMany 247 numbers; fields 5 thrown 7 taped 8 size 9 at 10 begin 11 token 12 value 13 bad 14 badPlace 15 faultKind 16 faultPlace), 1: texts -/
def wth (v lo hi : Int) : Int := if lo ≤ v ∧ v ≤ hi then 1 else 0
def nThr (σ : Sg) (k : Int) : Sg := su σ 223 5 k
def nSee (σ : Sg) (k : Int) : Int := if k < σ 223 8 then σ 229 k.toNat else 0
def nBl (σ : Sg) (k : Int) : Sg := if σ 223 13 ≠ 0 then σ else su (su σ 223 13 (if σ 223 11 = 4 then 1 else k)) 223 14 (su σ 223 13 (if σ 223 11 = 4 then 1 else k) 223 10)
def nFault (σ : Sg) (w : Int) : Int := if w = 0 then σ 223 15 else if w = 1 then σ 223 16 else -1
def gw_big : List Nat := [224, 225, 226, 244]
theorem big_all : ∀ q ∈ gw_big, q < gw_N0 ∧ gw_sh q = (21, 672) := by decide +kernel
theorem big_O {ad : Nat → Nat} {q : Nat} (h : q ∈ gw_big) : isO (gw_M0 ad) q 21 672 := big_all q h
/-- fresh cells of d by those of s, one by one -/
def nCpS (s d : Nat) (i : Nat) (x : Sg) : Sg := su x d i (x s i)
def nCp (σ : Sg) (s d : Nat) : Sg := itr 672 (nCpS s d) σ
def nFeW (a b c d e : Int) (k : Nat) : Int := if k < 4 then a else if k < 8 then b else if k < 12 then c else if k < 16 then d else e
def nFeS (a b c d e : Int) (k : Nat) (x : Sg) : Sg := su (su x 229 (x 223 7).toNat (wand (wushr (nFeW a b c d e k) (wr (24 - wr (8 * wand (k : Nat) 3)))) 255)) 223 7 (wr (su x 229 (x 223 7).toNat (wand (wushr (nFeW a b c d e k) (wr (24 - wr (8 * wand (k : Nat) 3)))) 255) 223 7 + 1))
def nFeed (σ : Sg) (a b c d e : Int) : Int × Sg := if 900 < wr (su σ 223 5 0 223 7 + 20) then (-1, su σ 223 5 0) else ((itr 20 (nFeS a b c d e) (su σ 223 5 0)) 223 7, itr 20 (nFeS a b c d e) (su σ 223 5 0))
set_option maxRecDepth 4000 in
theorem s_X11_thrown (ad : Nat → Nat) (σ : Sg)  : gw_Sp yX11_thrown cX11_thrown 1 (some .int) 1 0 0 [vR (some 223)] (gw_M0 ad) σ (gw_D (some (vI (σ 223 5))) (gw_M0 ad) (σ)) gw_no := by
  refine gw_Sp.of [some (vR (some 223))] (by decide +kernel) rfl (Nat.le_of_ble_eq_true rfl) ?_
  intro X G fx het hnm
  refine g_aload_n fx dX11_thrown_0 rfl ?_
  refine g_geti fx dX11_thrown_1 fk_RX11_88 (by decide) o_223 ?_
  exact g_iret fx rfl dX11_thrown_4 (by decide) (by decide) (gw_le.rf _) ⟨rfl, rfl, rfl⟩
set_option maxRecDepth 4000 in
theorem s_X11_fails (ad : Nat → Nat) (σ : Sg)  (k : Int) : gw_Sp yX11_fails cX11_fails 2 (some .int) 1 0 0 [vR (some 223), vI k] (gw_M0 ad) σ (gw_D (some (vI 0)) (gw_M0 ad) (nThr σ k)) gw_no := by
  refine gw_Sp.of [some (vR (some 223)), some (vI k)] (by decide +kernel) rfl (Nat.le_of_ble_eq_true rfl) ?_
  intro X G fx het hnm
  refine g_aload_n fx dX11_fails_0 rfl ?_
  refine g_iload_n fx dX11_fails_1 rfl ?_
  refine g_puti fx dX11_fails_2 fk_RX11_88 o_223 ?_
  refine g_iconst fx dX11_fails_5 (by unfold okI; omega) ?_
  exact g_iret fx rfl dX11_fails_6 (by decide) (by decide) (gw_le.rf _) ⟨rfl, rfl, rfl⟩
set_option maxRecDepth 4000 in
theorem s_X11_within (ad : Nat → Nat) (σ : Sg) (v : Int) (lo : Int) (hi : Int) : gw_Sp yX11_within cX11_within 6 (some .boolean) 1 0 0 [vJ v, vJ lo, vJ hi] (gw_M0 ad) σ (gw_D (some (vI (wth v lo hi))) (gw_M0 ad) (σ)) gw_no := by
  refine gw_Sp.of [some (vJ v), none, some (vJ lo), none, some (vJ hi), none] (by decide +kernel) rfl (Nat.le_of_ble_eq_true rfl) ?_
  intro X G fx het hnm
  have hj1 := @jc_ge v lo
  have hj2 := @jc_gt v hi
  refine g_lload_n fx dX11_within_0 rfl ?_
  refine g_lload_n fx dX11_within_1 rfl ?_
  refine g_lcmp fx dX11_within_2 ?_
  refine g_if_lt (tgt := 17) fx dX11_within_3 (by decide) (fun h3 => ?_) (fun h3 => ?_)
  · refine g_iconst fx dX11_within_17 (by unfold okI; omega) ?_
    exact g_zret fx rfl dX11_within_18 (by first | exact Or.inl rfl | exact Or.inr rfl | omega) (by decide) (by decide) (gw_le.rf _) ⟨by first | (exfalso; omega) | (rw [wth]; (repeat first | rw [if_pos (by omega)] | rw [if_neg (by omega)]) <;> rfl), rfl, rfl⟩
  · refine g_lload_n fx dX11_within_6 rfl ?_
    refine g_lload fx dX11_within_7 rfl ?_
    refine g_lcmp fx dX11_within_9 ?_
    refine g_if_gt (tgt := 17) fx dX11_within_10 (by decide) (fun h10 => ?_) (fun h10 => ?_)
    · refine g_iconst fx dX11_within_17 (by unfold okI; omega) ?_
      exact g_zret fx rfl dX11_within_18 (by first | exact Or.inl rfl | exact Or.inr rfl | omega) (by decide) (by decide) (gw_le.rf _) ⟨by first | (exfalso; omega) | (rw [wth]; (repeat first | rw [if_pos (by omega)] | rw [if_neg (by omega)]) <;> rfl), rfl, rfl⟩
    · refine g_iconst fx dX11_within_13 (by unfold okI; omega) ?_
      refine g_goto (tgt := 18) fx dX11_within_14 (by decide) ?_
      exact g_zret fx rfl dX11_within_18 (by first | exact Or.inl rfl | exact Or.inr rfl | omega) (by decide) (by decide) (gw_le.rf _) ⟨by first | (exfalso; omega) | (rw [wth]; (repeat first | rw [if_pos (by omega)] | rw [if_neg (by omega)]) <;> rfl), rfl, rfl⟩
set_option maxRecDepth 4000 in
theorem s_X11_isLetter (ad : Nat → Nat) (σ : Sg) (c : Int) : gw_Sp yX11_isLetter cX11_isLetter 1 (some .boolean) 1 0 0 [vI c] (gw_M0 ad) σ (gw_D (some (vI (isL c))) (gw_M0 ad) (σ)) gw_no := by
  refine gw_Sp.of [some (vI c)] (by decide +kernel) rfl (Nat.le_of_ble_eq_true rfl) ?_
  intro X G fx het hnm
  refine g_iload_n fx dX11_isLetter_0 rfl ?_
  refine g_bipush fx dX11_isLetter_1 (by decide) ?_
  refine g_icmp_lt (tgt := 16) fx dX11_isLetter_3 (by decide) (fun h3 => ?_) (fun h3 => ?_)
  · refine g_iconst fx dX11_isLetter_16 (by unfold okI; omega) ?_
    exact g_zret fx rfl dX11_isLetter_17 (by first | exact Or.inl rfl | exact Or.inr rfl | omega) (by decide) (by decide) (gw_le.rf _) ⟨by first | (exfalso; omega) | (rw [isL]; (repeat first | rw [if_pos (by omega)] | rw [if_neg (by omega)]) <;> rfl), rfl, rfl⟩
  · refine g_iload_n fx dX11_isLetter_6 rfl ?_
    refine g_bipush fx dX11_isLetter_7 (by decide) ?_
    refine g_icmp_gt (tgt := 16) fx dX11_isLetter_9 (by decide) (fun h9 => ?_) (fun h9 => ?_)
    · refine g_iconst fx dX11_isLetter_16 (by unfold okI; omega) ?_
      exact g_zret fx rfl dX11_isLetter_17 (by first | exact Or.inl rfl | exact Or.inr rfl | omega) (by decide) (by decide) (gw_le.rf _) ⟨by first | (exfalso; omega) | (rw [isL]; (repeat first | rw [if_pos (by omega)] | rw [if_neg (by omega)]) <;> rfl), rfl, rfl⟩
    · refine g_iconst fx dX11_isLetter_12 (by unfold okI; omega) ?_
      refine g_goto (tgt := 17) fx dX11_isLetter_13 (by decide) ?_
      exact g_zret fx rfl dX11_isLetter_17 (by first | exact Or.inl rfl | exact Or.inr rfl | omega) (by decide) (by decide) (gw_le.rf _) ⟨by first | (exfalso; omega) | (rw [isL]; (repeat first | rw [if_pos (by omega)] | rw [if_neg (by omega)]) <;> rfl), rfl, rfl⟩
set_option maxRecDepth 4000 in
theorem s_X11_isDigit (ad : Nat → Nat) (σ : Sg) (c : Int) : gw_Sp yX11_isDigit cX11_isDigit 1 (some .boolean) 1 0 0 [vI c] (gw_M0 ad) σ (gw_D (some (vI (isD c))) (gw_M0 ad) (σ)) gw_no := by
  refine gw_Sp.of [some (vI c)] (by decide +kernel) rfl (Nat.le_of_ble_eq_true rfl) ?_
  intro X G fx het hnm
  refine g_iload_n fx dX11_isDigit_0 rfl ?_
  refine g_bipush fx dX11_isDigit_1 (by decide) ?_
  refine g_icmp_lt (tgt := 16) fx dX11_isDigit_3 (by decide) (fun h3 => ?_) (fun h3 => ?_)
  · refine g_iconst fx dX11_isDigit_16 (by unfold okI; omega) ?_
    exact g_zret fx rfl dX11_isDigit_17 (by first | exact Or.inl rfl | exact Or.inr rfl | omega) (by decide) (by decide) (gw_le.rf _) ⟨by first | (exfalso; omega) | (rw [isD]; (repeat first | rw [if_pos (by omega)] | rw [if_neg (by omega)]) <;> rfl), rfl, rfl⟩
  · refine g_iload_n fx dX11_isDigit_6 rfl ?_
    refine g_bipush fx dX11_isDigit_7 (by decide) ?_
    refine g_icmp_gt (tgt := 16) fx dX11_isDigit_9 (by decide) (fun h9 => ?_) (fun h9 => ?_)
    · refine g_iconst fx dX11_isDigit_16 (by unfold okI; omega) ?_
      exact g_zret fx rfl dX11_isDigit_17 (by first | exact Or.inl rfl | exact Or.inr rfl | omega) (by decide) (by decide) (gw_le.rf _) ⟨by first | (exfalso; omega) | (rw [isD]; (repeat first | rw [if_pos (by omega)] | rw [if_neg (by omega)]) <;> rfl), rfl, rfl⟩
    · refine g_iconst fx dX11_isDigit_12 (by unfold okI; omega) ?_
      refine g_goto (tgt := 17) fx dX11_isDigit_13 (by decide) ?_
      exact g_zret fx rfl dX11_isDigit_17 (by first | exact Or.inl rfl | exact Or.inr rfl | omega) (by decide) (by decide) (gw_le.rf _) ⟨by first | (exfalso; omega) | (rw [isD]; (repeat first | rw [if_pos (by omega)] | rw [if_neg (by omega)]) <;> rfl), rfl, rfl⟩
set_option maxRecDepth 4000 in
theorem s_X11_see (ad : Nat → Nat) (σ : Sg)  (k : Int) (h0 : 0 ≤ k) (h8 : σ 223 8 ≤ 900) : gw_Sp yX11_see cX11_see 2 (some .int) 1 0 0 [vR (some 223), vI k] (gw_M0 ad) σ (gw_D (some (vI (nSee σ k))) (gw_M0 ad) (σ)) gw_no := by
  refine gw_Sp.of [some (vR (some 223)), some (vI k)] (by decide +kernel) rfl (Nat.le_of_ble_eq_true rfl) ?_
  intro X G fx het hnm
  refine g_iload_n fx dX11_see_0 rfl ?_
  refine g_aload_n fx dX11_see_1 rfl ?_
  refine g_geti fx dX11_see_2 fk_RX11_94 (by decide) o_223 ?_
  refine g_icmp_ge (tgt := 17) fx dX11_see_5 (by decide) (fun h5 => ?_) (fun h5 => ?_)
  · refine g_iconst fx dX11_see_17 (by unfold okI; omega) ?_
    exact g_iret fx rfl dX11_see_18 (by decide) (by decide) (gw_le.rf _) ⟨by first | (exfalso; omega) | (rw [nSee]; (repeat first | rw [if_pos (by omega)] | rw [if_neg (by omega)]) <;> rfl), rfl, rfl⟩
  · refine g_aload_n fx dX11_see_8 rfl ?_
    refine g_getr fx dX11_see_9 fk_RX11_26 o_223 rf_223_6 ?_
    refine g_iload_n fx dX11_see_12 rfl ?_
    refine g_iald fx dX11_see_13 o_229 (by omega) (by show k < ((900 : Nat) : Int); omega) ?_
    refine g_goto (tgt := 18) fx dX11_see_14 (by decide) ?_
    exact g_iret fx rfl dX11_see_18 (by decide) (by decide) (gw_le.rf _) ⟨by first | (exfalso; omega) | (rw [nSee]; (repeat first | rw [if_pos (by omega)] | rw [if_neg (by omega)]) <;> rfl), rfl, rfl⟩
set_option maxRecDepth 4000 in
theorem s_X11_blames (ad : Nat → Nat) (σ : Sg)  (k : Int) : gw_Sp yX11_blames cX11_blames 2 none 1 0 0 [vR (some 223), vI k] (gw_M0 ad) σ (gw_D none (gw_M0 ad) (nBl σ k)) gw_no := by
  refine gw_Sp.of [some (vR (some 223)), some (vI k)] (by decide +kernel) rfl (Nat.le_of_ble_eq_true rfl) ?_
  intro X G fx het hnm
  refine g_aload_n fx dX11_blames_0 rfl ?_
  refine g_geti fx dX11_blames_1 fk_RX11_120 (by decide) o_223 ?_
  refine g_if_eq (tgt := 8) fx dX11_blames_4 (by decide) (fun h4 => ?_) (fun h4 => ?_)
  · refine g_aload_n fx dX11_blames_8 rfl ?_
    refine g_aload_n fx dX11_blames_9 rfl ?_
    refine g_geti fx dX11_blames_10 fk_RX11_103 (by decide) o_223 ?_
    refine g_iconst fx dX11_blames_13 (by unfold okI; omega) ?_
    refine g_icmp_ne (tgt := 21) fx dX11_blames_14 (by decide) (fun h14 => ?_) (fun h14 => ?_)
    · refine g_iload_n fx dX11_blames_21 rfl ?_
      refine g_puti fx dX11_blames_22 fk_RX11_120 o_223 ?_
      refine g_aload_n fx dX11_blames_25 rfl ?_
      refine g_aload_n fx dX11_blames_26 rfl ?_
      refine g_geti fx dX11_blames_27 fk_RX11_100 (by decide) o_223 ?_
      refine g_puti fx dX11_blames_30 fk_RX11_123 o_223 ?_
      exact g_vret fx rfl dX11_blames_33 (by decide) (by decide) (gw_le.rf _) ⟨rfl, rfl, by first | (exfalso; omega) | (rw [nBl]; (repeat first | rw [if_pos (by omega)] | rw [if_neg (by omega)]) <;> rfl)⟩
    · refine g_iconst fx dX11_blames_17 (by unfold okI; omega) ?_
      refine g_goto (tgt := 22) fx dX11_blames_18 (by decide) ?_
      refine g_puti fx dX11_blames_22 fk_RX11_120 o_223 ?_
      refine g_aload_n fx dX11_blames_25 rfl ?_
      refine g_aload_n fx dX11_blames_26 rfl ?_
      refine g_geti fx dX11_blames_27 fk_RX11_100 (by decide) o_223 ?_
      refine g_puti fx dX11_blames_30 fk_RX11_123 o_223 ?_
      exact g_vret fx rfl dX11_blames_33 (by decide) (by decide) (gw_le.rf _) ⟨rfl, rfl, by first | (exfalso; omega) | (rw [nBl]; (repeat first | rw [if_pos (by omega)] | rw [if_neg (by omega)]) <;> rfl)⟩
  · exact g_vret fx rfl dX11_blames_7 (by decide) (by decide) (gw_le.rf _) ⟨rfl, rfl, by first | (exfalso; omega) | (rw [nBl]; (repeat first | rw [if_pos (by omega)] | rw [if_neg (by omega)]) <;> rfl)⟩
set_option maxRecDepth 4000 in
theorem s_X11_fault (ad : Nat → Nat) (σ : Sg)  (w : Int) : gw_Sp yX11_fault cX11_fault 2 (some .int) 1 0 0 [vR (some 223), vI w] (gw_M0 ad) σ (gw_D (some (vI (nFault (su σ 223 5 0) w))) (gw_M0 ad) (su σ 223 5 0)) gw_no := by
  refine gw_Sp.of [some (vR (some 223)), some (vI w)] (by decide +kernel) rfl (Nat.le_of_ble_eq_true rfl) ?_
  intro X G fx het hnm
  refine g_aload_n fx dX11_fault_0 rfl ?_
  refine g_iconst fx dX11_fault_1 (by unfold okI; omega) ?_
  refine g_puti fx dX11_fault_2 fk_RX11_88 o_223 ?_
  refine g_iload_n fx dX11_fault_5 rfl ?_
  refine g_if_ne (tgt := 16) fx dX11_fault_6 (by decide) (fun h6 => ?_) (fun h6 => ?_)
  · refine g_iload_n fx dX11_fault_16 rfl ?_
    refine g_iconst fx dX11_fault_17 (by unfold okI; omega) ?_
    refine g_icmp_ne (tgt := 28) fx dX11_fault_18 (by decide) (fun h18 => ?_) (fun h18 => ?_)
    · refine g_iconst fx dX11_fault_28 (by unfold okI; omega) ?_
      exact g_iret fx rfl dX11_fault_29 (by decide) (by decide) (gw_le.rf _) ⟨by first | (exfalso; omega) | (rw [nFault]; (repeat first | rw [if_pos (by omega)] | rw [if_neg (by omega)]) <;> rfl), rfl, rfl⟩
    · refine g_aload_n fx dX11_fault_21 rfl ?_
      refine g_geti fx dX11_fault_22 fk_RX11_29 (by decide) o_223 ?_
      refine g_goto (tgt := 29) fx dX11_fault_25 (by decide) ?_
      exact g_iret fx rfl dX11_fault_29 (by decide) (by decide) (gw_le.rf _) ⟨by first | (exfalso; omega) | (rw [nFault]; (repeat first | rw [if_pos (by omega)] | rw [if_neg (by omega)]) <;> rfl), rfl, rfl⟩
  · refine g_aload_n fx dX11_fault_9 rfl ?_
    refine g_geti fx dX11_fault_10 fk_RX11_188 (by decide) o_223 ?_
    refine g_goto (tgt := 29) fx dX11_fault_13 (by decide) ?_
    exact g_iret fx rfl dX11_fault_29 (by decide) (by decide) (gw_le.rf _) ⟨by first | (exfalso; omega) | (rw [nFault]; (repeat first | rw [if_pos (by omega)] | rw [if_neg (by omega)]) <;> rfl), rfl, rfl⟩
theorem nFe_7 (a b c d e : Int) (x : Sg) (h : 0 ≤ x 223 7 ∧ x 223 7 ≤ 900) : ∀ k, k ≤ 20 → (itr k (nFeS a b c d e) x) 223 7 = x 223 7 + (k : Nat) := by
  intro k
  induction k with
  | zero => intro _; simp [itr]
  | succ k ih =>
    intro hk
    have h1 := ih (by omega)
    rw [itr_s, nFeS, su_same, su_ne _ _ (Or.inl (by decide)), h1, wr_id (by unfold okI; omega)]
    omega
set_option maxRecDepth 4000 in
theorem s_X11_feed (ad : Nat → Nat) (σ : Sg)  (a : Int) (b : Int) (c : Int) (d : Int) (e : Int) (h7 : 0 ≤ σ 223 7 ∧ σ 223 7 ≤ 900) : gw_Sp yX11_feed cX11_feed 8 (some .int) 1 0 0 [vR (some 223), vI a, vI b, vI c, vI d, vI e] (gw_M0 ad) σ (gw_D (some (vI (nFeed σ a b c d e).1)) (gw_M0 ad) ((nFeed σ a b c d e).2)) gw_no := by
  refine gw_Sp.of [some (vR (some 223)), some (vI a), some (vI b), some (vI c), some (vI d), some (vI e), none, none] (by decide +kernel) rfl (Nat.le_of_ble_eq_true rfl) ?_
  intro X G fx het hnm
  have h70 : su σ 223 5 0 223 7 = σ 223 7 := su_ne _ _ (Or.inr (by decide))
  have hw : wr (su σ 223 5 0 223 7 + 20) = σ 223 7 + 20 := by rw [h70, wr_id (by unfold okI; omega)]
  refine g_aload_n fx dX11_feed_0 rfl ?_
  refine g_iconst fx dX11_feed_1 (by unfold okI; omega) ?_
  refine g_puti fx dX11_feed_2 fk_RX11_88 o_223 ?_
  refine g_aload_n fx dX11_feed_5 rfl ?_
  refine g_geti fx dX11_feed_6 fk_RX11_91 (by decide) o_223 ?_
  refine g_bipush fx dX11_feed_9 (by decide) ?_
  refine g_iadd fx dX11_feed_11 ?_
  refine g_sipush fx dX11_feed_12 (by decide) ?_
  refine g_icmp_le (tgt := 20) fx dX11_feed_15 (by decide) (fun h15 => ?_) (fun h15 => ?_)
  · refine g_iconst fx dX11_feed_20 (by unfold okI; omega) ?_
    refine g_istore fx dX11_feed_21 (by decide) rfl rfl ?_
    have loop23 : ∀ k : Nat, k ≤ 20 → gw_W X (yX11_feed.cls, cX11_feed, 8, (some .int), 1, 0, 0) G (gw_Z X G (gw_M0 ad) σ (gw_D (some (vI (nFeed σ a b c d e).1)) (gw_M0 ad) ((nFeed σ a b c d e).2)) gw_no 0 0) 0 0 (gw_M0 ad) (itr k (nFeS a b c d e) (su σ 223 5 0)) 23 [some (vR (some 223)), some (vI a), some (vI b), some (vI c), some (vI d), some (vI e), some (vI (k : Nat)), none] [] := by
      refine up_ind _ (20) (fun k hk ih => ?_)
      have hk7 := nFe_7 a b c d e (su σ 223 5 0) (by rw [h70]; exact h7) k (by omega)
      rw [h70] at hk7
      refine g_iload fx dX11_feed_23 rfl ?_
      refine g_bipush fx dX11_feed_25 (by decide) ?_
      refine g_icmp_ge (tgt := 120) fx dX11_feed_27 (by decide) (fun h27 => ?_) (fun h27 => ?_)
      · refine g_aload_n fx dX11_feed_120 rfl ?_
        refine g_geti fx dX11_feed_121 fk_RX11_91 (by decide) o_223 ?_
        exact g_iret fx rfl dX11_feed_124 (by decide) (by decide) (gw_le.rf _) ⟨by rw [nFeed, if_neg (by omega), show (20 : Nat) = k by omega], rfl, by rw [nFeed, if_neg (by omega), show (20 : Nat) = k by omega]⟩
      · refine g_iload fx dX11_feed_30 rfl ?_
        refine g_iconst fx dX11_feed_32 (by unfold okI; omega) ?_
        refine g_icmp_ge (tgt := 40) fx dX11_feed_33 (by decide) (fun h33 => ?_) (fun h33 => ?_)
        · refine g_iload fx dX11_feed_40 rfl ?_
          refine g_bipush fx dX11_feed_42 (by decide) ?_
          refine g_icmp_ge (tgt := 51) fx dX11_feed_44 (by decide) (fun h44 => ?_) (fun h44 => ?_)
          · refine g_iload fx dX11_feed_51 rfl ?_
            refine g_bipush fx dX11_feed_53 (by decide) ?_
            refine g_icmp_ge (tgt := 62) fx dX11_feed_55 (by decide) (fun h55 => ?_) (fun h55 => ?_)
            · refine g_iload fx dX11_feed_62 rfl ?_
              refine g_bipush fx dX11_feed_64 (by decide) ?_
              refine g_icmp_ge (tgt := 74) fx dX11_feed_66 (by decide) (fun h66 => ?_) (fun h66 => ?_)
              · refine g_iload fx dX11_feed_74 rfl ?_
                refine g_istore fx dX11_feed_76 (by decide) rfl rfl ?_
                refine gw_cg rfl (show _ = [some (vR (some 223)), some (vI a), some (vI b), some (vI c), some (vI d), some (vI e), some (vI (k : Nat)), some (vI (nFeW a b c d e k))] by rw [nFeW]; (repeat first | rw [if_pos (by omega)] | rw [if_neg (by omega)]) <;> rfl) ?_
                refine g_aload_n fx dX11_feed_78 rfl ?_
                refine g_getr fx dX11_feed_79 fk_RX11_26 o_223 rf_223_6 ?_
                refine g_aload_n fx dX11_feed_82 rfl ?_
                refine g_geti fx dX11_feed_83 fk_RX11_91 (by decide) o_223 ?_
                refine g_iload fx dX11_feed_86 rfl ?_
                refine g_bipush fx dX11_feed_88 (by decide) ?_
                refine g_bipush fx dX11_feed_90 (by decide) ?_
                refine g_iload fx dX11_feed_92 rfl ?_
                refine g_iconst fx dX11_feed_94 (by unfold okI; omega) ?_
                refine g_iand fx dX11_feed_95 ?_
                refine g_imul fx dX11_feed_96 ?_
                refine g_isub fx dX11_feed_97 ?_
                refine g_iushr fx dX11_feed_98 ?_
                refine g_sipush fx dX11_feed_99 (by decide) ?_
                refine g_iand fx dX11_feed_102 ?_
                refine g_iast fx dX11_feed_103 o_229 (by omega) (by show _ < ((900 : Nat) : Int); omega) ?_
                refine g_aload_n fx dX11_feed_104 rfl ?_
                refine g_dup fx dX11_feed_105 rfl ?_
                refine g_geti fx dX11_feed_106 fk_RX11_91 (by decide) o_223 ?_
                refine g_iconst fx dX11_feed_109 (by unfold okI; omega) ?_
                refine g_iadd fx dX11_feed_110 ?_
                refine g_puti fx dX11_feed_111 fk_RX11_91 o_223 ?_
                refine g_iinc1 fx dX11_feed_114 (by decide) rfl rfl (by unfold okI; omega) rfl ?_
                refine g_goto (tgt := 23) fx dX11_feed_117 (by decide) ?_
                refine g_kill 7 rfl ?_
                exact gw_cg (by rw [itr_s, nFeS]) (by rw [show ((k : Nat) : Int) + 1 = ((k + 1 : Nat) : Int) by omega]; rfl) (ih (by omega))
              · refine g_iload fx dX11_feed_69 rfl ?_
                refine g_goto (tgt := 76) fx dX11_feed_71 (by decide) ?_
                refine g_istore fx dX11_feed_76 (by decide) rfl rfl ?_
                refine gw_cg rfl (show _ = [some (vR (some 223)), some (vI a), some (vI b), some (vI c), some (vI d), some (vI e), some (vI (k : Nat)), some (vI (nFeW a b c d e k))] by rw [nFeW]; (repeat first | rw [if_pos (by omega)] | rw [if_neg (by omega)]) <;> rfl) ?_
                refine g_aload_n fx dX11_feed_78 rfl ?_
                refine g_getr fx dX11_feed_79 fk_RX11_26 o_223 rf_223_6 ?_
                refine g_aload_n fx dX11_feed_82 rfl ?_
                refine g_geti fx dX11_feed_83 fk_RX11_91 (by decide) o_223 ?_
                refine g_iload fx dX11_feed_86 rfl ?_
                refine g_bipush fx dX11_feed_88 (by decide) ?_
                refine g_bipush fx dX11_feed_90 (by decide) ?_
                refine g_iload fx dX11_feed_92 rfl ?_
                refine g_iconst fx dX11_feed_94 (by unfold okI; omega) ?_
                refine g_iand fx dX11_feed_95 ?_
                refine g_imul fx dX11_feed_96 ?_
                refine g_isub fx dX11_feed_97 ?_
                refine g_iushr fx dX11_feed_98 ?_
                refine g_sipush fx dX11_feed_99 (by decide) ?_
                refine g_iand fx dX11_feed_102 ?_
                refine g_iast fx dX11_feed_103 o_229 (by omega) (by show _ < ((900 : Nat) : Int); omega) ?_
                refine g_aload_n fx dX11_feed_104 rfl ?_
                refine g_dup fx dX11_feed_105 rfl ?_
                refine g_geti fx dX11_feed_106 fk_RX11_91 (by decide) o_223 ?_
                refine g_iconst fx dX11_feed_109 (by unfold okI; omega) ?_
                refine g_iadd fx dX11_feed_110 ?_
                refine g_puti fx dX11_feed_111 fk_RX11_91 o_223 ?_
                refine g_iinc1 fx dX11_feed_114 (by decide) rfl rfl (by unfold okI; omega) rfl ?_
                refine g_goto (tgt := 23) fx dX11_feed_117 (by decide) ?_
                refine g_kill 7 rfl ?_
                exact gw_cg (by rw [itr_s, nFeS]) (by rw [show ((k : Nat) : Int) + 1 = ((k + 1 : Nat) : Int) by omega]; rfl) (ih (by omega))
            · refine g_iload_n fx dX11_feed_58 rfl ?_
              refine g_goto (tgt := 76) fx dX11_feed_59 (by decide) ?_
              refine g_istore fx dX11_feed_76 (by decide) rfl rfl ?_
              refine gw_cg rfl (show _ = [some (vR (some 223)), some (vI a), some (vI b), some (vI c), some (vI d), some (vI e), some (vI (k : Nat)), some (vI (nFeW a b c d e k))] by rw [nFeW]; (repeat first | rw [if_pos (by omega)] | rw [if_neg (by omega)]) <;> rfl) ?_
              refine g_aload_n fx dX11_feed_78 rfl ?_
              refine g_getr fx dX11_feed_79 fk_RX11_26 o_223 rf_223_6 ?_
              refine g_aload_n fx dX11_feed_82 rfl ?_
              refine g_geti fx dX11_feed_83 fk_RX11_91 (by decide) o_223 ?_
              refine g_iload fx dX11_feed_86 rfl ?_
              refine g_bipush fx dX11_feed_88 (by decide) ?_
              refine g_bipush fx dX11_feed_90 (by decide) ?_
              refine g_iload fx dX11_feed_92 rfl ?_
              refine g_iconst fx dX11_feed_94 (by unfold okI; omega) ?_
              refine g_iand fx dX11_feed_95 ?_
              refine g_imul fx dX11_feed_96 ?_
              refine g_isub fx dX11_feed_97 ?_
              refine g_iushr fx dX11_feed_98 ?_
              refine g_sipush fx dX11_feed_99 (by decide) ?_
              refine g_iand fx dX11_feed_102 ?_
              refine g_iast fx dX11_feed_103 o_229 (by omega) (by show _ < ((900 : Nat) : Int); omega) ?_
              refine g_aload_n fx dX11_feed_104 rfl ?_
              refine g_dup fx dX11_feed_105 rfl ?_
              refine g_geti fx dX11_feed_106 fk_RX11_91 (by decide) o_223 ?_
              refine g_iconst fx dX11_feed_109 (by unfold okI; omega) ?_
              refine g_iadd fx dX11_feed_110 ?_
              refine g_puti fx dX11_feed_111 fk_RX11_91 o_223 ?_
              refine g_iinc1 fx dX11_feed_114 (by decide) rfl rfl (by unfold okI; omega) rfl ?_
              refine g_goto (tgt := 23) fx dX11_feed_117 (by decide) ?_
              refine g_kill 7 rfl ?_
              exact gw_cg (by rw [itr_s, nFeS]) (by rw [show ((k : Nat) : Int) + 1 = ((k + 1 : Nat) : Int) by omega]; rfl) (ih (by omega))
          · refine g_iload_n fx dX11_feed_47 rfl ?_
            refine g_goto (tgt := 76) fx dX11_feed_48 (by decide) ?_
            refine g_istore fx dX11_feed_76 (by decide) rfl rfl ?_
            refine gw_cg rfl (show _ = [some (vR (some 223)), some (vI a), some (vI b), some (vI c), some (vI d), some (vI e), some (vI (k : Nat)), some (vI (nFeW a b c d e k))] by rw [nFeW]; (repeat first | rw [if_pos (by omega)] | rw [if_neg (by omega)]) <;> rfl) ?_
            refine g_aload_n fx dX11_feed_78 rfl ?_
            refine g_getr fx dX11_feed_79 fk_RX11_26 o_223 rf_223_6 ?_
            refine g_aload_n fx dX11_feed_82 rfl ?_
            refine g_geti fx dX11_feed_83 fk_RX11_91 (by decide) o_223 ?_
            refine g_iload fx dX11_feed_86 rfl ?_
            refine g_bipush fx dX11_feed_88 (by decide) ?_
            refine g_bipush fx dX11_feed_90 (by decide) ?_
            refine g_iload fx dX11_feed_92 rfl ?_
            refine g_iconst fx dX11_feed_94 (by unfold okI; omega) ?_
            refine g_iand fx dX11_feed_95 ?_
            refine g_imul fx dX11_feed_96 ?_
            refine g_isub fx dX11_feed_97 ?_
            refine g_iushr fx dX11_feed_98 ?_
            refine g_sipush fx dX11_feed_99 (by decide) ?_
            refine g_iand fx dX11_feed_102 ?_
            refine g_iast fx dX11_feed_103 o_229 (by omega) (by show _ < ((900 : Nat) : Int); omega) ?_
            refine g_aload_n fx dX11_feed_104 rfl ?_
            refine g_dup fx dX11_feed_105 rfl ?_
            refine g_geti fx dX11_feed_106 fk_RX11_91 (by decide) o_223 ?_
            refine g_iconst fx dX11_feed_109 (by unfold okI; omega) ?_
            refine g_iadd fx dX11_feed_110 ?_
            refine g_puti fx dX11_feed_111 fk_RX11_91 o_223 ?_
            refine g_iinc1 fx dX11_feed_114 (by decide) rfl rfl (by unfold okI; omega) rfl ?_
            refine g_goto (tgt := 23) fx dX11_feed_117 (by decide) ?_
            refine g_kill 7 rfl ?_
            exact gw_cg (by rw [itr_s, nFeS]) (by rw [show ((k : Nat) : Int) + 1 = ((k + 1 : Nat) : Int) by omega]; rfl) (ih (by omega))
        · refine g_iload_n fx dX11_feed_36 rfl ?_
          refine g_goto (tgt := 76) fx dX11_feed_37 (by decide) ?_
          refine g_istore fx dX11_feed_76 (by decide) rfl rfl ?_
          refine gw_cg rfl (show _ = [some (vR (some 223)), some (vI a), some (vI b), some (vI c), some (vI d), some (vI e), some (vI (k : Nat)), some (vI (nFeW a b c d e k))] by rw [nFeW]; (repeat first | rw [if_pos (by omega)] | rw [if_neg (by omega)]) <;> rfl) ?_
          refine g_aload_n fx dX11_feed_78 rfl ?_
          refine g_getr fx dX11_feed_79 fk_RX11_26 o_223 rf_223_6 ?_
          refine g_aload_n fx dX11_feed_82 rfl ?_
          refine g_geti fx dX11_feed_83 fk_RX11_91 (by decide) o_223 ?_
          refine g_iload fx dX11_feed_86 rfl ?_
          refine g_bipush fx dX11_feed_88 (by decide) ?_
          refine g_bipush fx dX11_feed_90 (by decide) ?_
          refine g_iload fx dX11_feed_92 rfl ?_
          refine g_iconst fx dX11_feed_94 (by unfold okI; omega) ?_
          refine g_iand fx dX11_feed_95 ?_
          refine g_imul fx dX11_feed_96 ?_
          refine g_isub fx dX11_feed_97 ?_
          refine g_iushr fx dX11_feed_98 ?_
          refine g_sipush fx dX11_feed_99 (by decide) ?_
          refine g_iand fx dX11_feed_102 ?_
          refine g_iast fx dX11_feed_103 o_229 (by omega) (by show _ < ((900 : Nat) : Int); omega) ?_
          refine g_aload_n fx dX11_feed_104 rfl ?_
          refine g_dup fx dX11_feed_105 rfl ?_
          refine g_geti fx dX11_feed_106 fk_RX11_91 (by decide) o_223 ?_
          refine g_iconst fx dX11_feed_109 (by unfold okI; omega) ?_
          refine g_iadd fx dX11_feed_110 ?_
          refine g_puti fx dX11_feed_111 fk_RX11_91 o_223 ?_
          refine g_iinc1 fx dX11_feed_114 (by decide) rfl rfl (by unfold okI; omega) rfl ?_
          refine g_goto (tgt := 23) fx dX11_feed_117 (by decide) ?_
          refine g_kill 7 rfl ?_
          exact gw_cg (by rw [itr_s, nFeS]) (by rw [show ((k : Nat) : Int) + 1 = ((k + 1 : Nat) : Int) by omega]; rfl) (ih (by omega))
    exact loop23 0 (Nat.zero_le _)
  · refine g_iconst fx dX11_feed_18 (by unfold okI; omega) ?_
    exact g_iret fx rfl dX11_feed_19 (by decide) (by decide) (gw_le.rf _) ⟨by rw [nFeed, if_pos (by omega)], rfl, by rw [nFeed, if_pos (by omega)]⟩
