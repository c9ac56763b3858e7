theorem dX11_starts_0 : gw_dc cX11_starts 0 (.aload_n 0) 1 1 := ⟨by decide +kernel, rfl⟩
theorem dX11_starts_1 : gw_dc cX11_starts 1 (.iload_n 1) 1 2 := ⟨by decide +kernel, rfl⟩
theorem dX11_starts_2 : gw_dc cX11_starts 2 (.putfield 94) 3 5 := ⟨by decide +kernel, rfl⟩
theorem dX11_starts_5 : gw_dc cX11_starts 5 (.aload_n 0) 1 6 := ⟨by decide +kernel, rfl⟩
theorem dX11_starts_6 : gw_dc cX11_starts 6 (.iconst 0) 1 7 := ⟨by decide +kernel, rfl⟩
theorem dX11_starts_7 : gw_dc cX11_starts 7 (.putfield 91) 3 10 := ⟨by decide +kernel, rfl⟩
theorem dX11_starts_10 : gw_dc cX11_starts 10 (.aload_n 0) 1 11 := ⟨by decide +kernel, rfl⟩
theorem dX11_starts_11 : gw_dc cX11_starts 11 (.iconst 0) 1 12 := ⟨by decide +kernel, rfl⟩
theorem dX11_starts_12 : gw_dc cX11_starts 12 (.putfield 97) 3 15 := ⟨by decide +kernel, rfl⟩
theorem dX11_starts_15 : gw_dc cX11_starts 15 (.aload_n 0) 1 16 := ⟨by decide +kernel, rfl⟩
theorem dX11_starts_16 : gw_dc cX11_starts 16 (.iconst 0) 1 17 := ⟨by decide +kernel, rfl⟩
theorem dX11_starts_17 : gw_dc cX11_starts 17 (.putfield 120) 3 20 := ⟨by decide +kernel, rfl⟩
theorem dX11_starts_20 : gw_dc cX11_starts 20 (.aload_n 0) 1 21 := ⟨by decide +kernel, rfl⟩
theorem dX11_starts_21 : gw_dc cX11_starts 21 (.invokevirtual 140) 3 24 := ⟨by decide +kernel, rfl⟩
theorem dX11_starts_24 : decode cX11_starts 24 = .ok (.return_, 1) := by decide +kernel
theorem dX11_ended_0 : gw_dc cX11_ended 0 (.aload_n 0) 1 1 := ⟨by decide +kernel, rfl⟩
theorem dX11_ended_1 : gw_dc cX11_ended 1 (.aload_n 0) 1 2 := ⟨by decide +kernel, rfl⟩
theorem dX11_ended_2 : gw_dc cX11_ended 2 (.getfield 120) 3 5 := ⟨by decide +kernel, rfl⟩
theorem dX11_ended_5 : gw_dc cX11_ended 5 (.putfield 188) 3 8 := ⟨by decide +kernel, rfl⟩
theorem dX11_ended_8 : gw_dc cX11_ended 8 (.aload_n 0) 1 9 := ⟨by decide +kernel, rfl⟩
theorem dX11_ended_9 : gw_dc cX11_ended 9 (.aload_n 0) 1 10 := ⟨by decide +kernel, rfl⟩
theorem dX11_ended_10 : gw_dc cX11_ended 10 (.getfield 120) 3 13 := ⟨by decide +kernel, rfl⟩
theorem dX11_ended_13 : gw_dc cX11_ended 13 (.ifCond .ne 7) 3 16 := ⟨by decide +kernel, rfl⟩
theorem dX11_ended_20 : gw_dc cX11_ended 20 (.aload_n 0) 1 21 := ⟨by decide +kernel, rfl⟩
theorem dX11_ended_21 : gw_dc cX11_ended 21 (.getfield 123) 3 24 := ⟨by decide +kernel, rfl⟩
theorem dX11_ended_24 : gw_dc cX11_ended 24 (.putfield 29) 3 27 := ⟨by decide +kernel, rfl⟩
theorem dX11_ended_27 : gw_dc cX11_ended 27 (.aload_n 0) 1 28 := ⟨by decide +kernel, rfl⟩
theorem dX11_ended_28 : gw_dc cX11_ended 28 (.getfield 120) 3 31 := ⟨by decide +kernel, rfl⟩
theorem dX11_ended_31 : gw_dc cX11_ended 31 (.ifCond .ne 7) 3 34 := ⟨by decide +kernel, rfl⟩
theorem dX11_ended_38 : gw_dc cX11_ended 38 (.bipush (-10)) 2 40 := ⟨by decide +kernel, rfl⟩
theorem dX11_ended_40 : gw_dc cX11_ended 40 (.aload_n 0) 1 41 := ⟨by decide +kernel, rfl⟩
theorem dX11_ended_41 : gw_dc cX11_ended 41 (.getfield 120) 3 44 := ⟨by decide +kernel, rfl⟩
theorem dX11_ended_44 : gw_dc cX11_ended 44 (.isub) 1 45 := ⟨by decide +kernel, rfl⟩
theorem dX11_ended_45 : decode cX11_ended 45 = .ok (.ireturn, 1) := by decide +kernel
theorem dX11_ended_34 : gw_dc cX11_ended 34 (.iload_n 1) 1 35 := ⟨by decide +kernel, rfl⟩
theorem dX11_ended_35 : gw_dc cX11_ended 35 (.goto 10) 3 38 := ⟨by decide +kernel, rfl⟩
theorem dX11_ended_16 : gw_dc cX11_ended 16 (.iconst (-1)) 1 17 := ⟨by decide +kernel, rfl⟩
theorem dX11_ended_17 : gw_dc cX11_ended 17 (.goto 7) 3 20 := ⟨by decide +kernel, rfl⟩
theorem dX11_keyTold_0 : gw_dc cX11_keyTold 0 (.aload_n 0) 1 1 := ⟨by decide +kernel, rfl⟩
theorem dX11_keyTold_1 : gw_dc cX11_keyTold 1 (.ldc 211) 2 3 := ⟨by decide +kernel, rfl⟩
theorem dX11_keyTold_3 : gw_dc cX11_keyTold 3 (.invokevirtual 136) 3 6 := ⟨by decide +kernel, rfl⟩
theorem dX11_keyTold_6 : gw_dc cX11_keyTold 6 (.ifCond .eq 5) 3 9 := ⟨by decide +kernel, rfl⟩
theorem dX11_keyTold_11 : gw_dc cX11_keyTold 11 (.aload_n 0) 1 12 := ⟨by decide +kernel, rfl⟩
theorem dX11_keyTold_12 : gw_dc cX11_keyTold 12 (.ldc 213) 2 14 := ⟨by decide +kernel, rfl⟩
theorem dX11_keyTold_14 : gw_dc cX11_keyTold 14 (.invokevirtual 136) 3 17 := ⟨by decide +kernel, rfl⟩
theorem dX11_keyTold_17 : gw_dc cX11_keyTold 17 (.ifCond .eq 5) 3 20 := ⟨by decide +kernel, rfl⟩
theorem dX11_keyTold_22 : gw_dc cX11_keyTold 22 (.aload_n 0) 1 23 := ⟨by decide +kernel, rfl⟩
theorem dX11_keyTold_23 : gw_dc cX11_keyTold 23 (.ldc 215) 2 25 := ⟨by decide +kernel, rfl⟩
theorem dX11_keyTold_25 : gw_dc cX11_keyTold 25 (.invokevirtual 136) 3 28 := ⟨by decide +kernel, rfl⟩
theorem dX11_keyTold_28 : gw_dc cX11_keyTold 28 (.ifCond .eq 5) 3 31 := ⟨by decide +kernel, rfl⟩
theorem dX11_keyTold_33 : gw_dc cX11_keyTold 33 (.aload_n 0) 1 34 := ⟨by decide +kernel, rfl⟩
theorem dX11_keyTold_34 : gw_dc cX11_keyTold 34 (.ldc 217) 2 36 := ⟨by decide +kernel, rfl⟩
theorem dX11_keyTold_36 : gw_dc cX11_keyTold 36 (.invokevirtual 136) 3 39 := ⟨by decide +kernel, rfl⟩
theorem dX11_keyTold_39 : gw_dc cX11_keyTold 39 (.ifCond .eq 5) 3 42 := ⟨by decide +kernel, rfl⟩
theorem dX11_keyTold_44 : gw_dc cX11_keyTold 44 (.aload_n 0) 1 45 := ⟨by decide +kernel, rfl⟩
theorem dX11_keyTold_45 : gw_dc cX11_keyTold 45 (.ldc 219) 2 47 := ⟨by decide +kernel, rfl⟩
theorem dX11_keyTold_47 : gw_dc cX11_keyTold 47 (.invokevirtual 136) 3 50 := ⟨by decide +kernel, rfl⟩
theorem dX11_keyTold_50 : gw_dc cX11_keyTold 50 (.ifCond .eq 5) 3 53 := ⟨by decide +kernel, rfl⟩
theorem dX11_keyTold_55 : gw_dc cX11_keyTold 55 (.aload_n 0) 1 56 := ⟨by decide +kernel, rfl⟩
theorem dX11_keyTold_56 : gw_dc cX11_keyTold 56 (.ldc 221) 2 58 := ⟨by decide +kernel, rfl⟩
theorem dX11_keyTold_58 : gw_dc cX11_keyTold 58 (.invokevirtual 136) 3 61 := ⟨by decide +kernel, rfl⟩
theorem dX11_keyTold_61 : gw_dc cX11_keyTold 61 (.ifCond .eq 5) 3 64 := ⟨by decide +kernel, rfl⟩
theorem dX11_keyTold_66 : gw_dc cX11_keyTold 66 (.aload_n 0) 1 67 := ⟨by decide +kernel, rfl⟩
theorem dX11_keyTold_67 : gw_dc cX11_keyTold 67 (.ldc 223) 2 69 := ⟨by decide +kernel, rfl⟩
theorem dX11_keyTold_69 : gw_dc cX11_keyTold 69 (.invokevirtual 136) 3 72 := ⟨by decide +kernel, rfl⟩
theorem dX11_keyTold_72 : gw_dc cX11_keyTold 72 (.ifCond .eq 6) 3 75 := ⟨by decide +kernel, rfl⟩
theorem dX11_keyTold_78 : gw_dc cX11_keyTold 78 (.aload_n 0) 1 79 := ⟨by decide +kernel, rfl⟩
theorem dX11_keyTold_79 : gw_dc cX11_keyTold 79 (.ldc 225) 2 81 := ⟨by decide +kernel, rfl⟩
theorem dX11_keyTold_81 : gw_dc cX11_keyTold 81 (.invokevirtual 136) 3 84 := ⟨by decide +kernel, rfl⟩
theorem dX11_keyTold_84 : gw_dc cX11_keyTold 84 (.ifCond .eq 8) 3 87 := ⟨by decide +kernel, rfl⟩
theorem dX11_keyTold_92 : gw_dc cX11_keyTold 92 (.iconst (-1)) 1 93 := ⟨by decide +kernel, rfl⟩
theorem dX11_keyTold_93 : decode cX11_keyTold 93 = .ok (.ireturn, 1) := by decide +kernel
theorem dX11_keyTold_87 : gw_dc cX11_keyTold 87 (.bipush 7) 2 89 := ⟨by decide +kernel, rfl⟩
theorem dX11_keyTold_89 : gw_dc cX11_keyTold 89 (.goto 4) 3 92 := ⟨by decide +kernel, rfl⟩
theorem dX11_keyTold_75 : gw_dc cX11_keyTold 75 (.bipush 6) 2 77 := ⟨by decide +kernel, rfl⟩
theorem dX11_keyTold_77 : decode cX11_keyTold 77 = .ok (.ireturn, 1) := by decide +kernel
theorem dX11_keyTold_64 : gw_dc cX11_keyTold 64 (.iconst 5) 1 65 := ⟨by decide +kernel, rfl⟩
theorem dX11_keyTold_65 : decode cX11_keyTold 65 = .ok (.ireturn, 1) := by decide +kernel
theorem dX11_keyTold_53 : gw_dc cX11_keyTold 53 (.iconst 4) 1 54 := ⟨by decide +kernel, rfl⟩
theorem dX11_keyTold_54 : decode cX11_keyTold 54 = .ok (.ireturn, 1) := by decide +kernel
theorem dX11_keyTold_42 : gw_dc cX11_keyTold 42 (.iconst 3) 1 43 := ⟨by decide +kernel, rfl⟩
theorem dX11_keyTold_43 : decode cX11_keyTold 43 = .ok (.ireturn, 1) := by decide +kernel
theorem dX11_keyTold_31 : gw_dc cX11_keyTold 31 (.iconst 2) 1 32 := ⟨by decide +kernel, rfl⟩
theorem dX11_keyTold_32 : decode cX11_keyTold 32 = .ok (.ireturn, 1) := by decide +kernel
theorem dX11_keyTold_20 : gw_dc cX11_keyTold 20 (.iconst 1) 1 21 := ⟨by decide +kernel, rfl⟩
theorem dX11_keyTold_21 : decode cX11_keyTold 21 = .ok (.ireturn, 1) := by decide +kernel
theorem dX11_keyTold_9 : gw_dc cX11_keyTold 9 (.iconst 0) 1 10 := ⟨by decide +kernel, rfl⟩
theorem dX11_keyTold_10 : decode cX11_keyTold 10 = .ok (.ireturn, 1) := by decide +kernel
theorem dX11_readStone_0 : gw_dc cX11_readStone 0 (.aload_n 0) 1 1 := ⟨by decide +kernel, rfl⟩
theorem dX11_readStone_1 : gw_dc cX11_readStone 1 (.getfield 13) 3 4 := ⟨by decide +kernel, rfl⟩
theorem fk_RX11_13 : gw_fk RX11 13 11 1 42 1 true := ⟨_, _, _, ck_11, by decide, by decide, fun h => absurd h (by decide), fun h => absurd h (by decide), fun _ => Or.inr ⟨_, rfl⟩, rfl, Or.inl (gw_mem 1422 (by decide +kernel) rfl)⟩
theorem rf_223_1 {ad : Nat → Nat} : (gw_M0 ad).2.2 223 1 = some 225 := (by decide +kernel : gw_rh 223 1 = some 225)
theorem dX11_readStone_4 : gw_dc cX11_readStone 4 (.iconst 1) 1 5 := ⟨by decide +kernel, rfl⟩
theorem dX11_readStone_5 : gw_dc cX11_readStone 5 (.iaload) 1 6 := ⟨by decide +kernel, rfl⟩
theorem o_225 {ad : Nat → Nat} : isO (gw_M0 ad) 225 21 672 := (by decide +kernel : 225 < gw_N0 ∧ gw_sh 225 = (21, 672))
theorem dX11_readStone_6 : gw_dc cX11_readStone 6 (.iconst 3) 1 7 := ⟨by decide +kernel, rfl⟩
theorem dX11_readStone_7 : gw_dc cX11_readStone 7 (.if_icmp .ne 8) 3 10 := ⟨by decide +kernel, rfl⟩
theorem dX11_readStone_15 : gw_dc cX11_readStone 15 (.aload_n 0) 1 16 := ⟨by decide +kernel, rfl⟩
theorem dX11_readStone_16 : gw_dc cX11_readStone 16 (.getfield 120) 3 19 := ⟨by decide +kernel, rfl⟩
theorem dX11_readStone_19 : gw_dc cX11_readStone 19 (.ifCond .eq 4) 3 22 := ⟨by decide +kernel, rfl⟩
theorem dX11_readStone_23 : gw_dc cX11_readStone 23 (.aload_n 0) 1 24 := ⟨by decide +kernel, rfl⟩
theorem dX11_readStone_24 : gw_dc cX11_readStone 24 (.invokevirtual 140) 3 27 := ⟨by decide +kernel, rfl⟩
theorem dX11_readStone_27 : gw_dc cX11_readStone 27 (.aload_n 0) 1 28 := ⟨by decide +kernel, rfl⟩
theorem dX11_readStone_28 : gw_dc cX11_readStone 28 (.iconst 1) 1 29 := ⟨by decide +kernel, rfl⟩
theorem dX11_readStone_29 : gw_dc cX11_readStone 29 (.bipush 9) 2 31 := ⟨by decide +kernel, rfl⟩
theorem dX11_readStone_31 : gw_dc cX11_readStone 31 (.invokevirtual 154) 3 34 := ⟨by decide +kernel, rfl⟩
theorem dX11_readStone_34 : gw_dc cX11_readStone 34 (.istore_n 1) 1 35 := ⟨by decide +kernel, rfl⟩
theorem dX11_readStone_35 : gw_dc cX11_readStone 35 (.aload_n 0) 1 36 := ⟨by decide +kernel, rfl⟩
theorem dX11_readStone_36 : gw_dc cX11_readStone 36 (.getfield 120) 3 39 := ⟨by decide +kernel, rfl⟩
theorem dX11_readStone_39 : gw_dc cX11_readStone 39 (.ifCond .eq 4) 3 42 := ⟨by decide +kernel, rfl⟩
theorem dX11_readStone_43 : gw_dc cX11_readStone 43 (.aload_n 0) 1 44 := ⟨by decide +kernel, rfl⟩
theorem dX11_readStone_44 : gw_dc cX11_readStone 44 (.getfield 13) 3 47 := ⟨by decide +kernel, rfl⟩
theorem dX11_readStone_47 : gw_dc cX11_readStone 47 (.iconst 5) 1 48 := ⟨by decide +kernel, rfl⟩
theorem dX11_readStone_48 : gw_dc cX11_readStone 48 (.aload_n 0) 1 49 := ⟨by decide +kernel, rfl⟩
theorem dX11_readStone_49 : gw_dc cX11_readStone 49 (.getfield 13) 3 52 := ⟨by decide +kernel, rfl⟩
theorem dX11_readStone_52 : gw_dc cX11_readStone 52 (.iconst 1) 1 53 := ⟨by decide +kernel, rfl⟩
theorem dX11_readStone_53 : gw_dc cX11_readStone 53 (.iaload) 1 54 := ⟨by decide +kernel, rfl⟩
theorem dX11_readStone_54 : gw_dc cX11_readStone 54 (.iadd) 1 55 := ⟨by decide +kernel, rfl⟩
theorem dX11_readStone_55 : gw_dc cX11_readStone 55 (.iload_n 1) 1 56 := ⟨by decide +kernel, rfl⟩
theorem dX11_readStone_56 : gw_dc cX11_readStone 56 (.iastore) 1 57 := ⟨by decide +kernel, rfl⟩
theorem dX11_readStone_57 : gw_dc cX11_readStone 57 (.aload_n 0) 1 58 := ⟨by decide +kernel, rfl⟩
theorem dX11_readStone_58 : gw_dc cX11_readStone 58 (.getfield 13) 3 61 := ⟨by decide +kernel, rfl⟩
theorem dX11_readStone_61 : gw_dc cX11_readStone 61 (.iconst 1) 1 62 := ⟨by decide +kernel, rfl⟩
theorem dX11_readStone_62 : gw_dc cX11_readStone 62 (.dup2) 1 63 := ⟨by decide +kernel, rfl⟩
theorem dX11_readStone_63 : gw_dc cX11_readStone 63 (.iaload) 1 64 := ⟨by decide +kernel, rfl⟩
theorem dX11_readStone_64 : gw_dc cX11_readStone 64 (.iconst 1) 1 65 := ⟨by decide +kernel, rfl⟩
theorem dX11_readStone_65 : gw_dc cX11_readStone 65 (.iadd) 1 66 := ⟨by decide +kernel, rfl⟩
theorem dX11_readStone_66 : gw_dc cX11_readStone 66 (.iastore) 1 67 := ⟨by decide +kernel, rfl⟩
theorem dX11_readStone_67 : decode cX11_readStone 67 = .ok (.return_, 1) := by decide +kernel
theorem dX11_readStone_42 : decode cX11_readStone 42 = .ok (.return_, 1) := by decide +kernel
theorem dX11_readStone_22 : decode cX11_readStone 22 = .ok (.return_, 1) := by decide +kernel
theorem dX11_readStone_10 : gw_dc cX11_readStone 10 (.aload_n 0) 1 11 := ⟨by decide +kernel, rfl⟩
theorem dX11_readStone_11 : gw_dc cX11_readStone 11 (.iconst 4) 1 12 := ⟨by decide +kernel, rfl⟩
theorem dX11_readStone_12 : gw_dc cX11_readStone 12 (.invokevirtual 143) 3 15 := ⟨by decide +kernel, rfl⟩
theorem dX11_readKey_0 : gw_dc cX11_readKey 0 (.aload_n 0) 1 1 := ⟨by decide +kernel, rfl⟩
theorem dX11_readKey_1 : gw_dc cX11_readKey 1 (.invokevirtual 227) 3 4 := ⟨by decide +kernel, rfl⟩
theorem mv_RX11_227 : gw_mv RX11 227 yX11_keyTold := ⟨gw_mem 1655 (by decide +kernel) rfl, gw_mem 1657 (by decide +kernel) rfl, gw_mem 54 (by decide +kernel) rfl⟩
theorem my_X11_keyTold : gw_my yX11_keyTold cX11_keyTold 1 (some .int) 0 := ⟨gw_mem 1658 (by decide +kernel) rfl, gw_mem 106 (by decide +kernel) rfl, by decide +kernel, by decide⟩
theorem dX11_readKey_4 : gw_dc cX11_readKey 4 (.istore_n 1) 1 5 := ⟨by decide +kernel, rfl⟩
theorem dX11_readKey_5 : gw_dc cX11_readKey 5 (.iload_n 1) 1 6 := ⟨by decide +kernel, rfl⟩
theorem dX11_readKey_6 : gw_dc cX11_readKey 6 (.iconst (-1)) 1 7 := ⟨by decide +kernel, rfl⟩
theorem dX11_readKey_7 : gw_dc cX11_readKey 7 (.if_icmp .ne 8) 3 10 := ⟨by decide +kernel, rfl⟩
theorem dX11_readKey_15 : gw_dc cX11_readKey 15 (.aload_n 0) 1 16 := ⟨by decide +kernel, rfl⟩
theorem dX11_readKey_16 : gw_dc cX11_readKey 16 (.getfield 13) 3 19 := ⟨by decide +kernel, rfl⟩
theorem dX11_readKey_19 : gw_dc cX11_readKey 19 (.bipush 8) 2 21 := ⟨by decide +kernel, rfl⟩
theorem dX11_readKey_21 : gw_dc cX11_readKey 21 (.iaload) 1 22 := ⟨by decide +kernel, rfl⟩
theorem dX11_readKey_22 : gw_dc cX11_readKey 22 (.bipush 8) 2 24 := ⟨by decide +kernel, rfl⟩
theorem dX11_readKey_24 : gw_dc cX11_readKey 24 (.if_icmp .ne 8) 3 27 := ⟨by decide +kernel, rfl⟩
theorem dX11_readKey_32 : gw_dc cX11_readKey 32 (.aload_n 0) 1 33 := ⟨by decide +kernel, rfl⟩
theorem dX11_readKey_33 : gw_dc cX11_readKey 33 (.getfield 120) 3 36 := ⟨by decide +kernel, rfl⟩
theorem dX11_readKey_36 : gw_dc cX11_readKey 36 (.ifCond .eq 4) 3 39 := ⟨by decide +kernel, rfl⟩
theorem dX11_readKey_40 : gw_dc cX11_readKey 40 (.aload_n 0) 1 41 := ⟨by decide +kernel, rfl⟩
theorem dX11_readKey_41 : gw_dc cX11_readKey 41 (.getfield 13) 3 44 := ⟨by decide +kernel, rfl⟩
theorem dX11_readKey_44 : gw_dc cX11_readKey 44 (.bipush 9) 2 46 := ⟨by decide +kernel, rfl⟩
theorem dX11_readKey_46 : gw_dc cX11_readKey 46 (.aload_n 0) 1 47 := ⟨by decide +kernel, rfl⟩
theorem dX11_readKey_47 : gw_dc cX11_readKey 47 (.getfield 13) 3 50 := ⟨by decide +kernel, rfl⟩
theorem dX11_readKey_50 : gw_dc cX11_readKey 50 (.bipush 8) 2 52 := ⟨by decide +kernel, rfl⟩
theorem dX11_readKey_52 : gw_dc cX11_readKey 52 (.iaload) 1 53 := ⟨by decide +kernel, rfl⟩
theorem dX11_readKey_53 : gw_dc cX11_readKey 53 (.iadd) 1 54 := ⟨by decide +kernel, rfl⟩
theorem dX11_readKey_54 : gw_dc cX11_readKey 54 (.iload_n 1) 1 55 := ⟨by decide +kernel, rfl⟩
theorem dX11_readKey_55 : gw_dc cX11_readKey 55 (.iastore) 1 56 := ⟨by decide +kernel, rfl⟩
theorem dX11_readKey_56 : gw_dc cX11_readKey 56 (.aload_n 0) 1 57 := ⟨by decide +kernel, rfl⟩
theorem dX11_readKey_57 : gw_dc cX11_readKey 57 (.getfield 13) 3 60 := ⟨by decide +kernel, rfl⟩
theorem dX11_readKey_60 : gw_dc cX11_readKey 60 (.bipush 8) 2 62 := ⟨by decide +kernel, rfl⟩
theorem dX11_readKey_62 : gw_dc cX11_readKey 62 (.dup2) 1 63 := ⟨by decide +kernel, rfl⟩
theorem dX11_readKey_63 : gw_dc cX11_readKey 63 (.iaload) 1 64 := ⟨by decide +kernel, rfl⟩
theorem dX11_readKey_64 : gw_dc cX11_readKey 64 (.iconst 1) 1 65 := ⟨by decide +kernel, rfl⟩
theorem dX11_readKey_65 : gw_dc cX11_readKey 65 (.iadd) 1 66 := ⟨by decide +kernel, rfl⟩
theorem dX11_readKey_66 : gw_dc cX11_readKey 66 (.iastore) 1 67 := ⟨by decide +kernel, rfl⟩
theorem dX11_readKey_67 : gw_dc cX11_readKey 67 (.aload_n 0) 1 68 := ⟨by decide +kernel, rfl⟩
theorem dX11_readKey_68 : gw_dc cX11_readKey 68 (.invokevirtual 140) 3 71 := ⟨by decide +kernel, rfl⟩
theorem dX11_readKey_71 : decode cX11_readKey 71 = .ok (.return_, 1) := by decide +kernel
theorem dX11_readKey_39 : decode cX11_readKey 39 = .ok (.return_, 1) := by decide +kernel
theorem dX11_readKey_27 : gw_dc cX11_readKey 27 (.aload_n 0) 1 28 := ⟨by decide +kernel, rfl⟩
theorem dX11_readKey_28 : gw_dc cX11_readKey 28 (.iconst 4) 1 29 := ⟨by decide +kernel, rfl⟩
theorem dX11_readKey_29 : gw_dc cX11_readKey 29 (.invokevirtual 143) 3 32 := ⟨by decide +kernel, rfl⟩
theorem dX11_readKey_10 : gw_dc cX11_readKey 10 (.aload_n 0) 1 11 := ⟨by decide +kernel, rfl⟩
theorem dX11_readKey_11 : gw_dc cX11_readKey 11 (.iconst 2) 1 12 := ⟨by decide +kernel, rfl⟩
theorem dX11_readKey_12 : gw_dc cX11_readKey 12 (.invokevirtual 143) 3 15 := ⟨by decide +kernel, rfl⟩
/-! The model, 4: begin and end of a reading, stones, keys (225 fresh: 1 stones, 4 sacks, 8 keys) -/
theorem nRd_ne (σ : Sg) {a : Nat} (h : a ≠ 223) (j : Nat) : nRd σ a j = σ a j := by
  have e : ∀ t bg tk v, mk4 σ t bg tk v a j = σ a j := fun t bg tk v => if_neg h
  rw [nRd]; (repeat' split) <;> exact e _ _ _ _
theorem nNm1_ne (σ : Sg) (lo hi : Int) {a : Nat} (h : a ≠ 223) (j : Nat) : nNm1 σ lo hi a j = σ a j := by
  rw [nNm1]; (repeat' split) <;> first | exact nBl_ne _ _ (Or.inl h) | rfl
theorem nNm2_ne (σ : Sg) (lo hi : Int) {a : Nat} (h : a ≠ 223) (j : Nat) : nNm2 σ lo hi a j = σ a j := by
  rw [nNm2]; split
  · rw [nRd_ne _ h, nNm1_ne _ _ _ h]
  · rw [nNm1_ne _ _ _ h]
def nSt (σ : Sg) (n : Int) : Sg := nRd (su (su (su (su σ 223 8 n) 223 7 0) 223 9 0) 223 13 0)
def nEn1 (σ : Sg) : Sg := su σ 223 15 (σ 223 13)
def nEn (σ : Sg) : Sg := su (nEn1 σ) 223 16 (if nEn1 σ 223 13 = 0 then -1 else nEn1 σ 223 14)
def nEnV (σ : Sg) (a : Int) : Int := if nEn σ 223 13 = 0 then a else wr (-10 - nEn σ 223 13)
def nKey (σ : Sg) : Int := if nSp σ 12 ≠ 0 then 0 else if nSp σ 13 ≠ 0 then 1 else if nSp σ 14 ≠ 0 then 2 else if nSp σ 15 ≠ 0 then 3 else if nSp σ 16 ≠ 0 then 4 else if nSp σ 17 ≠ 0 then 5 else if nSp σ 18 ≠ 0 then 6 else if nSp σ 19 ≠ 0 then 7 else -1
def nStn1 (σ : Sg) : Sg := if σ 225 1 = 3 then nBl σ 4 else σ
theorem Rk_stn {σ : Sg} (h : Rk σ) : Rk (nStn1 σ) := by rw [nStn1]; split; exact Rk_bl h _; exact h
theorem nStn_ne (σ : Sg) {a : Nat} (h : a ≠ 223) (j : Nat) : nStn1 σ a j = σ a j := by rw [nStn1]; split; exact nBl_ne _ _ (Or.inl h); rfl
def nStn2 (σ : Sg) : Sg := nNm2 (nRd (nStn1 σ)) 1 9
def nStn3 (σ : Sg) : Sg := su (nStn2 σ) 225 (5 + nStn2 σ 225 1).toNat (nNum (nRd (nStn1 σ)) 1 9)
def nStn (σ : Sg) : Sg := if nStn1 σ 223 13 ≠ 0 then nStn1 σ else if nStn2 σ 223 13 ≠ 0 then nStn2 σ else su (nStn3 σ) 225 1 (wr (nStn3 σ 225 1 + 1))
def nRk1 (σ : Sg) : Sg := if nKey σ = -1 then nBl σ 2 else σ
def nRk2 (σ : Sg) : Sg := if nRk1 σ 225 8 = 8 then nBl (nRk1 σ) 4 else nRk1 σ
def nRk3 (σ : Sg) : Sg := su (nRk2 σ) 225 (9 + nRk2 σ 225 8).toNat (nKey σ)
def nRk4 (σ : Sg) : Sg := su (nRk3 σ) 225 8 (wr (nRk3 σ 225 8 + 1))
def nRk (σ : Sg) : Sg := if nRk2 σ 223 13 ≠ 0 then nRk2 σ else nRd (nRk4 σ)
theorem Rk_rk2 {σ : Sg} (h : Rk σ) : Rk (nRk2 σ) := by
  have h1 : Rk (nRk1 σ) := by rw [nRk1]; split; exact Rk_bl h _; exact h
  rw [nRk2]; split; exact Rk_bl h1 _; exact h1
theorem nRk_ne (σ : Sg) {a : Nat} (h : a ≠ 223) (j : Nat) : nRk2 σ a j = σ a j := by
  have h1 : nRk1 σ a j = σ a j := by rw [nRk1]; split; exact nBl_ne _ _ (Or.inl h); rfl
  rw [nRk2]; split
  · rw [nBl_ne _ _ (Or.inl h)]; exact h1
  · exact h1
theorem Rk_rk4 {σ : Sg} (h : Rk σ) : Rk (nRk4 σ) := Rk_su (Rk_su (Rk_rk2 h) _ (by decide)) _ (by decide)
set_option maxRecDepth 4000 in
theorem s_X11_starts (ad : Nat → Nat) (σ : Sg)  (n : Int) (hn : n ≤ 900) : gw_Sp yX11_starts cX11_starts 2 none 3 0 0 [vR (some 223), vI n] (gw_M0 ad) σ (gw_D none (gw_M0 ad) (nSt σ n)) gw_no := by
  refine gw_Sp.of [some (vR (some 223)), some (vI n)] (by decide +kernel) rfl (Nat.le_of_ble_eq_true rfl) ?_
  intro X G fx het hnm
  refine g_aload_n fx dX11_starts_0 rfl ?_
  refine g_iload_n fx dX11_starts_1 rfl ?_
  refine g_puti fx dX11_starts_2 fk_RX11_94 o_223 ?_
  refine g_aload_n fx dX11_starts_5 rfl ?_
  refine g_iconst fx dX11_starts_6 (by unfold okI; omega) ?_
  refine g_puti fx dX11_starts_7 fk_RX11_91 o_223 ?_
  refine g_aload_n fx dX11_starts_10 rfl ?_
  refine g_iconst fx dX11_starts_11 (by unfold okI; omega) ?_
  refine g_puti fx dX11_starts_12 fk_RX11_97 o_223 ?_
  refine g_aload_n fx dX11_starts_15 rfl ?_
  refine g_iconst fx dX11_starts_16 (by unfold okI; omega) ?_
  refine g_puti fx dX11_starts_17 fk_RX11_120 o_223 ?_
  refine g_aload_n fx dX11_starts_20 rfl ?_
  refine g_callVD0 fx dX11_starts_21 mv_RX11_140 my_X11_reads (s_X11_reads ad _ (by rw [su_ne _ _ (Or.inr (by decide)), su_same]; omega) (by rw [su_ne _ _ (Or.inr (by decide)), su_ne _ _ (Or.inr (by decide)), su_ne _ _ (Or.inr (by decide)), su_same]; exact hn)) o_223 rfl rfl rfl (Nat.le_of_ble_eq_true rfl) (by decide) (by decide) ?_
  exact g_vret fx rfl dX11_starts_24 (by decide) (by decide) (gw_le.rf _) ⟨rfl, rfl, rfl⟩
set_option maxRecDepth 4000 in
theorem s_X11_ended (ad : Nat → Nat) (σ : Sg)  (a : Int) : gw_Sp yX11_ended cX11_ended 2 (some .int) 1 0 0 [vR (some 223), vI a] (gw_M0 ad) σ (gw_D (some (vI (nEnV σ a))) (gw_M0 ad) (nEn σ)) gw_no := by
  refine gw_Sp.of [some (vR (some 223)), some (vI a)] (by decide +kernel) rfl (Nat.le_of_ble_eq_true rfl) ?_
  intro X G fx het hnm
  refine g_aload_n fx dX11_ended_0 rfl ?_
  refine g_aload_n fx dX11_ended_1 rfl ?_
  refine g_geti fx dX11_ended_2 fk_RX11_120 (by decide) o_223 ?_
  refine g_puti fx dX11_ended_5 fk_RX11_188 o_223 ?_
  refine gw_cg (σ' := nEn1 σ) rfl rfl ?_
  refine g_aload_n fx dX11_ended_8 rfl ?_
  refine g_aload_n fx dX11_ended_9 rfl ?_
  refine g_geti fx dX11_ended_10 fk_RX11_120 (by decide) o_223 ?_
  refine g_if_ne (tgt := 20) fx dX11_ended_13 (by decide) (fun h13 => ?_) (fun h13 => ?_)
  · refine g_aload_n fx dX11_ended_20 rfl ?_
    refine g_geti fx dX11_ended_21 fk_RX11_123 (by decide) o_223 ?_
    refine g_puti fx dX11_ended_24 fk_RX11_29 o_223 ?_
    refine gw_cg (σ' := nEn σ) (by rw [nEn]; (repeat first | rw [if_pos (by omega)] | rw [if_neg (by omega)]) <;> rfl) rfl ?_
    refine g_aload_n fx dX11_ended_27 rfl ?_
    refine g_geti fx dX11_ended_28 fk_RX11_120 (by decide) o_223 ?_
    refine g_if_ne (tgt := 38) fx dX11_ended_31 (by decide) (fun h31 => ?_) (fun h31 => ?_)
    · refine g_bipush fx dX11_ended_38 (by decide) ?_
      refine g_aload_n fx dX11_ended_40 rfl ?_
      refine g_geti fx dX11_ended_41 fk_RX11_120 (by decide) o_223 ?_
      refine g_isub fx dX11_ended_44 ?_
      exact g_iret fx rfl dX11_ended_45 (by decide) (by decide) (gw_le.rf _) ⟨by rw [nEnV]; (repeat first | rw [if_pos (by omega)] | rw [if_neg (by omega)]) <;> rfl, rfl, rfl⟩
    · refine g_iload_n fx dX11_ended_34 rfl ?_
      refine g_goto (tgt := 45) fx dX11_ended_35 (by decide) ?_
      exact g_iret fx rfl dX11_ended_45 (by decide) (by decide) (gw_le.rf _) ⟨by rw [nEnV]; (repeat first | rw [if_pos (by omega)] | rw [if_neg (by omega)]) <;> rfl, rfl, rfl⟩
  · refine g_iconst fx dX11_ended_16 (by unfold okI; omega) ?_
    refine g_goto (tgt := 24) fx dX11_ended_17 (by decide) ?_
    refine g_puti fx dX11_ended_24 fk_RX11_29 o_223 ?_
    refine gw_cg (σ' := nEn σ) (by rw [nEn]; (repeat first | rw [if_pos (by omega)] | rw [if_neg (by omega)]) <;> rfl) rfl ?_
    refine g_aload_n fx dX11_ended_27 rfl ?_
    refine g_geti fx dX11_ended_28 fk_RX11_120 (by decide) o_223 ?_
    refine g_if_ne (tgt := 38) fx dX11_ended_31 (by decide) (fun h31 => ?_) (fun h31 => ?_)
    · refine g_bipush fx dX11_ended_38 (by decide) ?_
      refine g_aload_n fx dX11_ended_40 rfl ?_
      refine g_geti fx dX11_ended_41 fk_RX11_120 (by decide) o_223 ?_
      refine g_isub fx dX11_ended_44 ?_
      exact g_iret fx rfl dX11_ended_45 (by decide) (by decide) (gw_le.rf _) ⟨by rw [nEnV]; (repeat first | rw [if_pos (by omega)] | rw [if_neg (by omega)]) <;> rfl, rfl, rfl⟩
    · refine g_iload_n fx dX11_ended_34 rfl ?_
      refine g_goto (tgt := 45) fx dX11_ended_35 (by decide) ?_
      exact g_iret fx rfl dX11_ended_45 (by decide) (by decide) (gw_le.rf _) ⟨by rw [nEnV]; (repeat first | rw [if_pos (by omega)] | rw [if_neg (by omega)]) <;> rfl, rfl, rfl⟩
set_option maxRecDepth 4000 in
theorem s_X11_keyTold (ad : Nat → Nat) (σ : Sg)  (hR : Rk σ) : gw_Sp yX11_keyTold cX11_keyTold 1 (some .int) 6 0 0 [vR (some 223)] (gw_M0 ad) σ (gw_D (some (vI (nKey σ))) (gw_M0 ad) (σ)) gw_no := by
  refine gw_Sp.of [some (vR (some 223))] (by decide +kernel) rfl (Nat.le_of_ble_eq_true rfl) ?_
  intro X G fx het hnm
  refine g_aload_n fx dX11_keyTold_0 rfl ?_
  refine g_ldcS fx dX11_keyTold_1 (by decide +kernel : (RX11, 211, "light", 12) ∈ gw_strT) ?_
  refine g_callVD fx dX11_keyTold_3 mv_RX11_136 my_X11_isWord (s_X11_isWord ad _ 12 (by decide) hR) o_223 rfl rfl rfl (Nat.le_of_ble_eq_true rfl) (by decide) (by decide) ?_
  refine g_if_eq (tgt := 11) fx dX11_keyTold_6 (by decide) (fun h6 => ?_) (fun h6 => ?_)
  · refine g_aload_n fx dX11_keyTold_11 rfl ?_
    refine g_ldcS fx dX11_keyTold_12 (by decide +kernel : (RX11, 213, "heavy", 13) ∈ gw_strT) ?_
    refine g_callVD fx dX11_keyTold_14 mv_RX11_136 my_X11_isWord (s_X11_isWord ad _ 13 (by decide) hR) o_223 rfl rfl rfl (Nat.le_of_ble_eq_true rfl) (by decide) (by decide) ?_
    refine g_if_eq (tgt := 22) fx dX11_keyTold_17 (by decide) (fun h17 => ?_) (fun h17 => ?_)
    · refine g_aload_n fx dX11_keyTold_22 rfl ?_
      refine g_ldcS fx dX11_keyTold_23 (by decide +kernel : (RX11, 215, "early", 14) ∈ gw_strT) ?_
      refine g_callVD fx dX11_keyTold_25 mv_RX11_136 my_X11_isWord (s_X11_isWord ad _ 14 (by decide) hR) o_223 rfl rfl rfl (Nat.le_of_ble_eq_true rfl) (by decide) (by decide) ?_
      refine g_if_eq (tgt := 33) fx dX11_keyTold_28 (by decide) (fun h28 => ?_) (fun h28 => ?_)
      · refine g_aload_n fx dX11_keyTold_33 rfl ?_
        refine g_ldcS fx dX11_keyTold_34 (by decide +kernel : (RX11, 217, "late", 15) ∈ gw_strT) ?_
        refine g_callVD fx dX11_keyTold_36 mv_RX11_136 my_X11_isWord (s_X11_isWord ad _ 15 (by decide) hR) o_223 rfl rfl rfl (Nat.le_of_ble_eq_true rfl) (by decide) (by decide) ?_
        refine g_if_eq (tgt := 44) fx dX11_keyTold_39 (by decide) (fun h39 => ?_) (fun h39 => ?_)
        · refine g_aload_n fx dX11_keyTold_44 rfl ?_
          refine g_ldcS fx dX11_keyTold_45 (by decide +kernel : (RX11, 219, "dear", 16) ∈ gw_strT) ?_
          refine g_callVD fx dX11_keyTold_47 mv_RX11_136 my_X11_isWord (s_X11_isWord ad _ 16 (by decide) hR) o_223 rfl rfl rfl (Nat.le_of_ble_eq_true rfl) (by decide) (by decide) ?_
          refine g_if_eq (tgt := 55) fx dX11_keyTold_50 (by decide) (fun h50 => ?_) (fun h50 => ?_)
          · refine g_aload_n fx dX11_keyTold_55 rfl ?_
            refine g_ldcS fx dX11_keyTold_56 (by decide +kernel : (RX11, 221, "due", 17) ∈ gw_strT) ?_
            refine g_callVD fx dX11_keyTold_58 mv_RX11_136 my_X11_isWord (s_X11_isWord ad _ 17 (by decide) hR) o_223 rfl rfl rfl (Nat.le_of_ble_eq_true rfl) (by decide) (by decide) ?_
            refine g_if_eq (tgt := 66) fx dX11_keyTold_61 (by decide) (fun h61 => ?_) (fun h61 => ?_)
            · refine g_aload_n fx dX11_keyTold_66 rfl ?_
              refine g_ldcS fx dX11_keyTold_67 (by decide +kernel : (RX11, 223, "turn", 18) ∈ gw_strT) ?_
              refine g_callVD fx dX11_keyTold_69 mv_RX11_136 my_X11_isWord (s_X11_isWord ad _ 18 (by decide) hR) o_223 rfl rfl rfl (Nat.le_of_ble_eq_true rfl) (by decide) (by decide) ?_
              refine g_if_eq (tgt := 78) fx dX11_keyTold_72 (by decide) (fun h72 => ?_) (fun h72 => ?_)
              · refine g_aload_n fx dX11_keyTold_78 rfl ?_
                refine g_ldcS fx dX11_keyTold_79 (by decide +kernel : (RX11, 225, "same", 19) ∈ gw_strT) ?_
                refine g_callVD fx dX11_keyTold_81 mv_RX11_136 my_X11_isWord (s_X11_isWord ad _ 19 (by decide) hR) o_223 rfl rfl rfl (Nat.le_of_ble_eq_true rfl) (by decide) (by decide) ?_
                refine g_if_eq (tgt := 92) fx dX11_keyTold_84 (by decide) (fun h84 => ?_) (fun h84 => ?_)
                · refine g_iconst fx dX11_keyTold_92 (by unfold okI; omega) ?_
                  exact g_iret fx rfl dX11_keyTold_93 (by decide) (by decide) (gw_le.rf _) ⟨by first | (exfalso; omega) | (rw [nKey]; (repeat first | rw [if_pos (by omega)] | rw [if_neg (by omega)]) <;> rfl), rfl, rfl⟩
                · refine g_bipush fx dX11_keyTold_87 (by decide) ?_
                  refine g_goto (tgt := 93) fx dX11_keyTold_89 (by decide) ?_
                  exact g_iret fx rfl dX11_keyTold_93 (by decide) (by decide) (gw_le.rf _) ⟨by first | (exfalso; omega) | (rw [nKey]; (repeat first | rw [if_pos (by omega)] | rw [if_neg (by omega)]) <;> rfl), rfl, rfl⟩
              · refine g_bipush fx dX11_keyTold_75 (by decide) ?_
                exact g_iret fx rfl dX11_keyTold_77 (by decide) (by decide) (gw_le.rf _) ⟨by first | (exfalso; omega) | (rw [nKey]; (repeat first | rw [if_pos (by omega)] | rw [if_neg (by omega)]) <;> rfl), rfl, rfl⟩
            · refine g_iconst fx dX11_keyTold_64 (by unfold okI; omega) ?_
              exact g_iret fx rfl dX11_keyTold_65 (by decide) (by decide) (gw_le.rf _) ⟨by first | (exfalso; omega) | (rw [nKey]; (repeat first | rw [if_pos (by omega)] | rw [if_neg (by omega)]) <;> rfl), rfl, rfl⟩
          · refine g_iconst fx dX11_keyTold_53 (by unfold okI; omega) ?_
            exact g_iret fx rfl dX11_keyTold_54 (by decide) (by decide) (gw_le.rf _) ⟨by first | (exfalso; omega) | (rw [nKey]; (repeat first | rw [if_pos (by omega)] | rw [if_neg (by omega)]) <;> rfl), rfl, rfl⟩
        · refine g_iconst fx dX11_keyTold_42 (by unfold okI; omega) ?_
          exact g_iret fx rfl dX11_keyTold_43 (by decide) (by decide) (gw_le.rf _) ⟨by first | (exfalso; omega) | (rw [nKey]; (repeat first | rw [if_pos (by omega)] | rw [if_neg (by omega)]) <;> rfl), rfl, rfl⟩
      · refine g_iconst fx dX11_keyTold_31 (by unfold okI; omega) ?_
        exact g_iret fx rfl dX11_keyTold_32 (by decide) (by decide) (gw_le.rf _) ⟨by first | (exfalso; omega) | (rw [nKey]; (repeat first | rw [if_pos (by omega)] | rw [if_neg (by omega)]) <;> rfl), rfl, rfl⟩
    · refine g_iconst fx dX11_keyTold_20 (by unfold okI; omega) ?_
      exact g_iret fx rfl dX11_keyTold_21 (by decide) (by decide) (gw_le.rf _) ⟨by first | (exfalso; omega) | (rw [nKey]; (repeat first | rw [if_pos (by omega)] | rw [if_neg (by omega)]) <;> rfl), rfl, rfl⟩
  · refine g_iconst fx dX11_keyTold_9 (by unfold okI; omega) ?_
    exact g_iret fx rfl dX11_keyTold_10 (by decide) (by decide) (gw_le.rf _) ⟨by first | (exfalso; omega) | (rw [nKey]; (repeat first | rw [if_pos (by omega)] | rw [if_neg (by omega)]) <;> rfl), rfl, rfl⟩
set_option maxRecDepth 4000 in
theorem s_X11_readStone (ad : Nat → Nat) (σ : Sg)  (hR : Rk σ) (hF : 0 ≤ σ 225 1 ∧ σ 225 1 ≤ 3) : gw_Sp yX11_readStone cX11_readStone 2 none 4 0 0 [vR (some 223)] (gw_M0 ad) σ (gw_D none (gw_M0 ad) (nStn σ)) gw_no := by
  refine gw_Sp.of [some (vR (some 223)), none] (by decide +kernel) rfl (Nat.le_of_ble_eq_true rfl) ?_
  intro X G fx het hnm
  refine g_aload_n fx dX11_readStone_0 rfl ?_
  refine g_getr fx dX11_readStone_1 fk_RX11_13 o_223 rf_223_1 ?_
  refine g_iconst fx dX11_readStone_4 (by unfold okI; omega) ?_
  refine g_iald fx dX11_readStone_5 o_225 (by decide) (by decide) ?_
  rw [show Int.toNat 1 = 1 from rfl]
  refine g_iconst fx dX11_readStone_6 (by unfold okI; omega) ?_
  refine g_icmp_ne (tgt := 15) fx dX11_readStone_7 (by decide) (fun h7 => ?_) (fun h7 => ?_)
  · refine gw_cg (σ' := nStn1 σ) (by rw [nStn1]; (repeat first | rw [if_pos (by omega)] | rw [if_neg (by omega)]) <;> rfl) rfl ?_
    refine g_aload_n fx dX11_readStone_15 rfl ?_
    refine g_geti fx dX11_readStone_16 fk_RX11_120 (by decide) o_223 ?_
    refine g_if_eq (tgt := 23) fx dX11_readStone_19 (by decide) (fun h19 => ?_) (fun h19 => ?_)
    · refine g_aload_n fx dX11_readStone_23 rfl ?_
      refine g_callVD0 fx dX11_readStone_24 mv_RX11_140 my_X11_reads (s_X11_readsR ad _ (Rk_stn hR)) o_223 rfl rfl rfl (Nat.le_of_ble_eq_true rfl) (by decide) (by decide) ?_
      refine g_aload_n fx dX11_readStone_27 rfl ?_
      refine g_iconst fx dX11_readStone_28 (by unfold okI; omega) ?_
      refine g_bipush fx dX11_readStone_29 (by decide) ?_
      refine g_callVD fx dX11_readStone_31 mv_RX11_154 my_X11_number (s_X11_number ad _ _ _ (Rk_rd' (Rk_stn hR))) o_223 rfl rfl rfl (Nat.le_of_ble_eq_true rfl) (by decide) (by decide) ?_
      refine gw_cgt (σ' := nStn2 σ) rfl rfl ?_
      refine g_istore_n fx dX11_readStone_34 (by decide) rfl rfl ?_
      refine g_aload_n fx dX11_readStone_35 rfl ?_
      refine g_geti fx dX11_readStone_36 fk_RX11_120 (by decide) o_223 ?_
      refine g_if_eq (tgt := 43) fx dX11_readStone_39 (by decide) (fun h39 => ?_) (fun h39 => ?_)
      · refine g_aload_n fx dX11_readStone_43 rfl ?_
        refine g_getr fx dX11_readStone_44 fk_RX11_13 o_223 rf_223_1 ?_
        refine g_iconst fx dX11_readStone_47 (by unfold okI; omega) ?_
        refine g_aload_n fx dX11_readStone_48 rfl ?_
        refine g_getr fx dX11_readStone_49 fk_RX11_13 o_223 rf_223_1 ?_
        refine g_iconst fx dX11_readStone_52 (by unfold okI; omega) ?_
        refine g_iald fx dX11_readStone_53 o_225 (by decide) (by decide) ?_
        rw [show Int.toNat 1 = 1 from rfl]
        have hn1 : nStn2 σ 225 1 = σ 225 1 := by rw [nStn2, nNm2_ne _ _ _ (by decide), nRd_ne _ (by decide), nStn_ne _ (by decide)]
        refine g_iadd fx dX11_readStone_54 ?_
        refine gw_cgt rfl (wr_id (show okI (5 + nStn2 σ 225 1) by unfold okI; omega)) ?_
        refine g_iload_n fx dX11_readStone_55 rfl ?_
        refine g_iast fx dX11_readStone_56 o_225 (by omega) (by show _ < ((672 : Nat) : Int); omega) ?_
        refine gw_cg (σ' := nStn3 σ) rfl rfl ?_
        refine g_aload_n fx dX11_readStone_57 rfl ?_
        refine g_getr fx dX11_readStone_58 fk_RX11_13 o_223 rf_223_1 ?_
        refine g_iconst fx dX11_readStone_61 (by unfold okI; omega) ?_
        refine g_dup2 fx dX11_readStone_62 rfl rfl ?_
        refine g_iald fx dX11_readStone_63 o_225 (by decide) (by decide) ?_
        refine g_iconst fx dX11_readStone_64 (by unfold okI; omega) ?_
        refine g_iadd fx dX11_readStone_65 ?_
        refine g_iast fx dX11_readStone_66 o_225 (by decide) (by decide) ?_
        exact g_vret fx rfl dX11_readStone_67 (by decide) (by decide) (gw_le.rf _) ⟨rfl, rfl, by rw [nStn]; (repeat first | rw [if_pos (by omega)] | rw [if_neg (by omega)]) <;> rfl⟩
      · exact g_vret fx rfl dX11_readStone_42 (by decide) (by decide) (gw_le.rf _) ⟨rfl, rfl, by rw [nStn]; (repeat first | rw [if_pos (by omega)] | rw [if_neg (by omega)]) <;> rfl⟩
    · exact g_vret fx rfl dX11_readStone_22 (by decide) (by decide) (gw_le.rf _) ⟨rfl, rfl, by rw [nStn]; (repeat first | rw [if_pos (by omega)] | rw [if_neg (by omega)]) <;> rfl⟩
  · refine g_aload_n fx dX11_readStone_10 rfl ?_
    refine g_iconst fx dX11_readStone_11 (by unfold okI; omega) ?_
    refine g_callVD0 fx dX11_readStone_12 mv_RX11_143 my_X11_blames (s_X11_blames ad _ _) o_223 rfl rfl rfl (Nat.le_of_ble_eq_true rfl) (by decide) (by decide) ?_
    refine gw_cg (σ' := nStn1 σ) (by rw [nStn1]; (repeat first | rw [if_pos (by omega)] | rw [if_neg (by omega)]) <;> rfl) rfl ?_
    refine g_aload_n fx dX11_readStone_15 rfl ?_
    refine g_geti fx dX11_readStone_16 fk_RX11_120 (by decide) o_223 ?_
    refine g_if_eq (tgt := 23) fx dX11_readStone_19 (by decide) (fun h19 => ?_) (fun h19 => ?_)
    · refine g_aload_n fx dX11_readStone_23 rfl ?_
      refine g_callVD0 fx dX11_readStone_24 mv_RX11_140 my_X11_reads (s_X11_readsR ad _ (Rk_stn hR)) o_223 rfl rfl rfl (Nat.le_of_ble_eq_true rfl) (by decide) (by decide) ?_
      refine g_aload_n fx dX11_readStone_27 rfl ?_
      refine g_iconst fx dX11_readStone_28 (by unfold okI; omega) ?_
      refine g_bipush fx dX11_readStone_29 (by decide) ?_
      refine g_callVD fx dX11_readStone_31 mv_RX11_154 my_X11_number (s_X11_number ad _ _ _ (Rk_rd' (Rk_stn hR))) o_223 rfl rfl rfl (Nat.le_of_ble_eq_true rfl) (by decide) (by decide) ?_
      refine gw_cgt (σ' := nStn2 σ) rfl rfl ?_
      refine g_istore_n fx dX11_readStone_34 (by decide) rfl rfl ?_
      refine g_aload_n fx dX11_readStone_35 rfl ?_
      refine g_geti fx dX11_readStone_36 fk_RX11_120 (by decide) o_223 ?_
      refine g_if_eq (tgt := 43) fx dX11_readStone_39 (by decide) (fun h39 => ?_) (fun h39 => ?_)
      · refine g_aload_n fx dX11_readStone_43 rfl ?_
        refine g_getr fx dX11_readStone_44 fk_RX11_13 o_223 rf_223_1 ?_
        refine g_iconst fx dX11_readStone_47 (by unfold okI; omega) ?_
        refine g_aload_n fx dX11_readStone_48 rfl ?_
        refine g_getr fx dX11_readStone_49 fk_RX11_13 o_223 rf_223_1 ?_
        refine g_iconst fx dX11_readStone_52 (by unfold okI; omega) ?_
        refine g_iald fx dX11_readStone_53 o_225 (by decide) (by decide) ?_
        rw [show Int.toNat 1 = 1 from rfl]
        have hn1 : nStn2 σ 225 1 = σ 225 1 := by rw [nStn2, nNm2_ne _ _ _ (by decide), nRd_ne _ (by decide), nStn_ne _ (by decide)]
        refine g_iadd fx dX11_readStone_54 ?_
        refine gw_cgt rfl (wr_id (show okI (5 + nStn2 σ 225 1) by unfold okI; omega)) ?_
        refine g_iload_n fx dX11_readStone_55 rfl ?_
        refine g_iast fx dX11_readStone_56 o_225 (by omega) (by show _ < ((672 : Nat) : Int); omega) ?_
        refine gw_cg (σ' := nStn3 σ) rfl rfl ?_
        refine g_aload_n fx dX11_readStone_57 rfl ?_
        refine g_getr fx dX11_readStone_58 fk_RX11_13 o_223 rf_223_1 ?_
        refine g_iconst fx dX11_readStone_61 (by unfold okI; omega) ?_
        refine g_dup2 fx dX11_readStone_62 rfl rfl ?_
        refine g_iald fx dX11_readStone_63 o_225 (by decide) (by decide) ?_
        refine g_iconst fx dX11_readStone_64 (by unfold okI; omega) ?_
        refine g_iadd fx dX11_readStone_65 ?_
        refine g_iast fx dX11_readStone_66 o_225 (by decide) (by decide) ?_
        exact g_vret fx rfl dX11_readStone_67 (by decide) (by decide) (gw_le.rf _) ⟨rfl, rfl, by rw [nStn]; (repeat first | rw [if_pos (by omega)] | rw [if_neg (by omega)]) <;> rfl⟩
      · exact g_vret fx rfl dX11_readStone_42 (by decide) (by decide) (gw_le.rf _) ⟨rfl, rfl, by rw [nStn]; (repeat first | rw [if_pos (by omega)] | rw [if_neg (by omega)]) <;> rfl⟩
    · exact g_vret fx rfl dX11_readStone_22 (by decide) (by decide) (gw_le.rf _) ⟨rfl, rfl, by rw [nStn]; (repeat first | rw [if_pos (by omega)] | rw [if_neg (by omega)]) <;> rfl⟩
set_option maxRecDepth 4000 in
theorem s_X11_readKey (ad : Nat → Nat) (σ : Sg)  (hR : Rk σ) (hF : 0 ≤ σ 225 8 ∧ σ 225 8 ≤ 8) : gw_Sp yX11_readKey cX11_readKey 2 none 7 0 0 [vR (some 223)] (gw_M0 ad) σ (gw_D none (gw_M0 ad) (nRk σ)) gw_no := by
  refine gw_Sp.of [some (vR (some 223)), none] (by decide +kernel) rfl (Nat.le_of_ble_eq_true rfl) ?_
  intro X G fx het hnm
  refine g_aload_n fx dX11_readKey_0 rfl ?_
  refine g_callVD fx dX11_readKey_1 mv_RX11_227 my_X11_keyTold (s_X11_keyTold ad _ hR) o_223 rfl rfl rfl (Nat.le_of_ble_eq_true rfl) (by decide) (by decide) ?_
  refine g_istore_n fx dX11_readKey_4 (by decide) rfl rfl ?_
  refine g_iload_n fx dX11_readKey_5 rfl ?_
  refine g_iconst fx dX11_readKey_6 (by unfold okI; omega) ?_
  refine g_icmp_ne (tgt := 15) fx dX11_readKey_7 (by decide) (fun h7 => ?_) (fun h7 => ?_)
  · refine gw_cg (σ' := nRk1 σ) (by rw [nRk1]; (repeat first | rw [if_pos (by omega)] | rw [if_neg (by omega)]) <;> rfl) rfl ?_
    refine g_aload_n fx dX11_readKey_15 rfl ?_
    refine g_getr fx dX11_readKey_16 fk_RX11_13 o_223 rf_223_1 ?_
    refine g_bipush fx dX11_readKey_19 (by decide) ?_
    refine g_iald fx dX11_readKey_21 o_225 (by decide) (by decide) ?_
    rw [show Int.toNat 8 = 8 from rfl]
    refine g_bipush fx dX11_readKey_22 (by decide) ?_
    refine g_icmp_ne (tgt := 32) fx dX11_readKey_24 (by decide) (fun h24 => ?_) (fun h24 => ?_)
    · refine gw_cg (σ' := nRk2 σ) (by rw [nRk2]; (repeat first | rw [if_pos (by omega)] | rw [if_neg (by omega)]) <;> rfl) rfl ?_
      refine g_aload_n fx dX11_readKey_32 rfl ?_
      refine g_geti fx dX11_readKey_33 fk_RX11_120 (by decide) o_223 ?_
      refine g_if_eq (tgt := 40) fx dX11_readKey_36 (by decide) (fun h36 => ?_) (fun h36 => ?_)
      · refine g_aload_n fx dX11_readKey_40 rfl ?_
        refine g_getr fx dX11_readKey_41 fk_RX11_13 o_223 rf_223_1 ?_
        refine g_bipush fx dX11_readKey_44 (by decide) ?_
        refine g_aload_n fx dX11_readKey_46 rfl ?_
        refine g_getr fx dX11_readKey_47 fk_RX11_13 o_223 rf_223_1 ?_
        refine g_bipush fx dX11_readKey_50 (by decide) ?_
        refine g_iald fx dX11_readKey_52 o_225 (by decide) (by decide) ?_
        rw [show Int.toNat 8 = 8 from rfl]
        have hn1 : nRk2 σ 225 8 = σ 225 8 := nRk_ne σ (by decide) 8
        refine g_iadd fx dX11_readKey_53 ?_
        refine gw_cgt rfl (wr_id (show okI (9 + nRk2 σ 225 8) by unfold okI; omega)) ?_
        refine g_iload_n fx dX11_readKey_54 rfl ?_
        refine g_iast fx dX11_readKey_55 o_225 (by omega) (by show _ < ((672 : Nat) : Int); omega) ?_
        refine gw_cg (σ' := nRk3 σ) rfl rfl ?_
        refine g_aload_n fx dX11_readKey_56 rfl ?_
        refine g_getr fx dX11_readKey_57 fk_RX11_13 o_223 rf_223_1 ?_
        refine g_bipush fx dX11_readKey_60 (by decide) ?_
        refine g_dup2 fx dX11_readKey_62 rfl rfl ?_
        refine g_iald fx dX11_readKey_63 o_225 (by decide) (by decide) ?_
        refine g_iconst fx dX11_readKey_64 (by unfold okI; omega) ?_
        refine g_iadd fx dX11_readKey_65 ?_
        refine g_iast fx dX11_readKey_66 o_225 (by decide) (by decide) ?_
        refine gw_cg (σ' := nRk4 σ) rfl rfl ?_
        refine g_aload_n fx dX11_readKey_67 rfl ?_
        refine g_callVD0 fx dX11_readKey_68 mv_RX11_140 my_X11_reads (s_X11_readsR ad _ (Rk_rk4 hR)) o_223 rfl rfl rfl (Nat.le_of_ble_eq_true rfl) (by decide) (by decide) ?_
        exact g_vret fx rfl dX11_readKey_71 (by decide) (by decide) (gw_le.rf _) ⟨rfl, rfl, by rw [nRk]; (repeat first | rw [if_pos (by omega)] | rw [if_neg (by omega)]) <;> rfl⟩
      · exact g_vret fx rfl dX11_readKey_39 (by decide) (by decide) (gw_le.rf _) ⟨rfl, rfl, by rw [nRk]; (repeat first | rw [if_pos (by omega)] | rw [if_neg (by omega)]) <;> rfl⟩
    · refine g_aload_n fx dX11_readKey_27 rfl ?_
      refine g_iconst fx dX11_readKey_28 (by unfold okI; omega) ?_
      refine g_callVD0 fx dX11_readKey_29 mv_RX11_143 my_X11_blames (s_X11_blames ad _ _) o_223 rfl rfl rfl (Nat.le_of_ble_eq_true rfl) (by decide) (by decide) ?_
      refine gw_cg (σ' := nRk2 σ) (by rw [nRk2]; (repeat first | rw [if_pos (by omega)] | rw [if_neg (by omega)]) <;> rfl) rfl ?_
      refine g_aload_n fx dX11_readKey_32 rfl ?_
      refine g_geti fx dX11_readKey_33 fk_RX11_120 (by decide) o_223 ?_
      refine g_if_eq (tgt := 40) fx dX11_readKey_36 (by decide) (fun h36 => ?_) (fun h36 => ?_)
      · refine g_aload_n fx dX11_readKey_40 rfl ?_
        refine g_getr fx dX11_readKey_41 fk_RX11_13 o_223 rf_223_1 ?_
        refine g_bipush fx dX11_readKey_44 (by decide) ?_
        refine g_aload_n fx dX11_readKey_46 rfl ?_
        refine g_getr fx dX11_readKey_47 fk_RX11_13 o_223 rf_223_1 ?_
        refine g_bipush fx dX11_readKey_50 (by decide) ?_
        refine g_iald fx dX11_readKey_52 o_225 (by decide) (by decide) ?_
        rw [show Int.toNat 8 = 8 from rfl]
        have hn1 : nRk2 σ 225 8 = σ 225 8 := nRk_ne σ (by decide) 8
        refine g_iadd fx dX11_readKey_53 ?_
        refine gw_cgt rfl (wr_id (show okI (9 + nRk2 σ 225 8) by unfold okI; omega)) ?_
        refine g_iload_n fx dX11_readKey_54 rfl ?_
        refine g_iast fx dX11_readKey_55 o_225 (by omega) (by show _ < ((672 : Nat) : Int); omega) ?_
        refine gw_cg (σ' := nRk3 σ) rfl rfl ?_
        refine g_aload_n fx dX11_readKey_56 rfl ?_
        refine g_getr fx dX11_readKey_57 fk_RX11_13 o_223 rf_223_1 ?_
        refine g_bipush fx dX11_readKey_60 (by decide) ?_
        refine g_dup2 fx dX11_readKey_62 rfl rfl ?_
        refine g_iald fx dX11_readKey_63 o_225 (by decide) (by decide) ?_
        refine g_iconst fx dX11_readKey_64 (by unfold okI; omega) ?_
        refine g_iadd fx dX11_readKey_65 ?_
        refine g_iast fx dX11_readKey_66 o_225 (by decide) (by decide) ?_
        refine gw_cg (σ' := nRk4 σ) rfl rfl ?_
        refine g_aload_n fx dX11_readKey_67 rfl ?_
        refine g_callVD0 fx dX11_readKey_68 mv_RX11_140 my_X11_reads (s_X11_readsR ad _ (Rk_rk4 hR)) o_223 rfl rfl rfl (Nat.le_of_ble_eq_true rfl) (by decide) (by decide) ?_
        exact g_vret fx rfl dX11_readKey_71 (by decide) (by decide) (gw_le.rf _) ⟨rfl, rfl, by rw [nRk]; (repeat first | rw [if_pos (by omega)] | rw [if_neg (by omega)]) <;> rfl⟩
      · exact g_vret fx rfl dX11_readKey_39 (by decide) (by decide) (gw_le.rf _) ⟨rfl, rfl, by rw [nRk]; (repeat first | rw [if_pos (by omega)] | rw [if_neg (by omega)]) <;> rfl⟩
  · refine g_aload_n fx dX11_readKey_10 rfl ?_
    refine g_iconst fx dX11_readKey_11 (by unfold okI; omega) ?_
    refine g_callVD0 fx dX11_readKey_12 mv_RX11_143 my_X11_blames (s_X11_blames ad _ _) o_223 rfl rfl rfl (Nat.le_of_ble_eq_true rfl) (by decide) (by decide) ?_
    refine gw_cg (σ' := nRk1 σ) (by rw [nRk1]; (repeat first | rw [if_pos (by omega)] | rw [if_neg (by omega)]) <;> rfl) rfl ?_
    refine g_aload_n fx dX11_readKey_15 rfl ?_
    refine g_getr fx dX11_readKey_16 fk_RX11_13 o_223 rf_223_1 ?_
    refine g_bipush fx dX11_readKey_19 (by decide) ?_
    refine g_iald fx dX11_readKey_21 o_225 (by decide) (by decide) ?_
    rw [show Int.toNat 8 = 8 from rfl]
    refine g_bipush fx dX11_readKey_22 (by decide) ?_
    refine g_icmp_ne (tgt := 32) fx dX11_readKey_24 (by decide) (fun h24 => ?_) (fun h24 => ?_)
    · refine gw_cg (σ' := nRk2 σ) (by rw [nRk2]; (repeat first | rw [if_pos (by omega)] | rw [if_neg (by omega)]) <;> rfl) rfl ?_
      refine g_aload_n fx dX11_readKey_32 rfl ?_
      refine g_geti fx dX11_readKey_33 fk_RX11_120 (by decide) o_223 ?_
      refine g_if_eq (tgt := 40) fx dX11_readKey_36 (by decide) (fun h36 => ?_) (fun h36 => ?_)
      · refine g_aload_n fx dX11_readKey_40 rfl ?_
        refine g_getr fx dX11_readKey_41 fk_RX11_13 o_223 rf_223_1 ?_
        refine g_bipush fx dX11_readKey_44 (by decide) ?_
        refine g_aload_n fx dX11_readKey_46 rfl ?_
        refine g_getr fx dX11_readKey_47 fk_RX11_13 o_223 rf_223_1 ?_
        refine g_bipush fx dX11_readKey_50 (by decide) ?_
        refine g_iald fx dX11_readKey_52 o_225 (by decide) (by decide) ?_
        rw [show Int.toNat 8 = 8 from rfl]
        have hn1 : nRk2 σ 225 8 = σ 225 8 := nRk_ne σ (by decide) 8
        refine g_iadd fx dX11_readKey_53 ?_
        refine gw_cgt rfl (wr_id (show okI (9 + nRk2 σ 225 8) by unfold okI; omega)) ?_
        refine g_iload_n fx dX11_readKey_54 rfl ?_
        refine g_iast fx dX11_readKey_55 o_225 (by omega) (by show _ < ((672 : Nat) : Int); omega) ?_
        refine gw_cg (σ' := nRk3 σ) rfl rfl ?_
        refine g_aload_n fx dX11_readKey_56 rfl ?_
        refine g_getr fx dX11_readKey_57 fk_RX11_13 o_223 rf_223_1 ?_
        refine g_bipush fx dX11_readKey_60 (by decide) ?_
        refine g_dup2 fx dX11_readKey_62 rfl rfl ?_
        refine g_iald fx dX11_readKey_63 o_225 (by decide) (by decide) ?_
        refine g_iconst fx dX11_readKey_64 (by unfold okI; omega) ?_
        refine g_iadd fx dX11_readKey_65 ?_
        refine g_iast fx dX11_readKey_66 o_225 (by decide) (by decide) ?_
        refine gw_cg (σ' := nRk4 σ) rfl rfl ?_
        refine g_aload_n fx dX11_readKey_67 rfl ?_
        refine g_callVD0 fx dX11_readKey_68 mv_RX11_140 my_X11_reads (s_X11_readsR ad _ (Rk_rk4 hR)) o_223 rfl rfl rfl (Nat.le_of_ble_eq_true rfl) (by decide) (by decide) ?_
        exact g_vret fx rfl dX11_readKey_71 (by decide) (by decide) (gw_le.rf _) ⟨rfl, rfl, by rw [nRk]; (repeat first | rw [if_pos (by omega)] | rw [if_neg (by omega)]) <;> rfl⟩
      · exact g_vret fx rfl dX11_readKey_39 (by decide) (by decide) (gw_le.rf _) ⟨rfl, rfl, by rw [nRk]; (repeat first | rw [if_pos (by omega)] | rw [if_neg (by omega)]) <;> rfl⟩
    · refine g_aload_n fx dX11_readKey_27 rfl ?_
      refine g_iconst fx dX11_readKey_28 (by unfold okI; omega) ?_
      refine g_callVD0 fx dX11_readKey_29 mv_RX11_143 my_X11_blames (s_X11_blames ad _ _) o_223 rfl rfl rfl (Nat.le_of_ble_eq_true rfl) (by decide) (by decide) ?_
      refine gw_cg (σ' := nRk2 σ) (by rw [nRk2]; (repeat first | rw [if_pos (by omega)] | rw [if_neg (by omega)]) <;> rfl) rfl ?_
      refine g_aload_n fx dX11_readKey_32 rfl ?_
      refine g_geti fx dX11_readKey_33 fk_RX11_120 (by decide) o_223 ?_
      refine g_if_eq (tgt := 40) fx dX11_readKey_36 (by decide) (fun h36 => ?_) (fun h36 => ?_)
      · refine g_aload_n fx dX11_readKey_40 rfl ?_
        refine g_getr fx dX11_readKey_41 fk_RX11_13 o_223 rf_223_1 ?_
        refine g_bipush fx dX11_readKey_44 (by decide) ?_
        refine g_aload_n fx dX11_readKey_46 rfl ?_
        refine g_getr fx dX11_readKey_47 fk_RX11_13 o_223 rf_223_1 ?_
        refine g_bipush fx dX11_readKey_50 (by decide) ?_
        refine g_iald fx dX11_readKey_52 o_225 (by decide) (by decide) ?_
        rw [show Int.toNat 8 = 8 from rfl]
        have hn1 : nRk2 σ 225 8 = σ 225 8 := nRk_ne σ (by decide) 8
        refine g_iadd fx dX11_readKey_53 ?_
        refine gw_cgt rfl (wr_id (show okI (9 + nRk2 σ 225 8) by unfold okI; omega)) ?_
        refine g_iload_n fx dX11_readKey_54 rfl ?_
        refine g_iast fx dX11_readKey_55 o_225 (by omega) (by show _ < ((672 : Nat) : Int); omega) ?_
        refine gw_cg (σ' := nRk3 σ) rfl rfl ?_
        refine g_aload_n fx dX11_readKey_56 rfl ?_
        refine g_getr fx dX11_readKey_57 fk_RX11_13 o_223 rf_223_1 ?_
        refine g_bipush fx dX11_readKey_60 (by decide) ?_
        refine g_dup2 fx dX11_readKey_62 rfl rfl ?_
        refine g_iald fx dX11_readKey_63 o_225 (by decide) (by decide) ?_
        refine g_iconst fx dX11_readKey_64 (by unfold okI; omega) ?_
        refine g_iadd fx dX11_readKey_65 ?_
        refine g_iast fx dX11_readKey_66 o_225 (by decide) (by decide) ?_
        refine gw_cg (σ' := nRk4 σ) rfl rfl ?_
        refine g_aload_n fx dX11_readKey_67 rfl ?_
        refine g_callVD0 fx dX11_readKey_68 mv_RX11_140 my_X11_reads (s_X11_readsR ad _ (Rk_rk4 hR)) o_223 rfl rfl rfl (Nat.le_of_ble_eq_true rfl) (by decide) (by decide) ?_
        exact g_vret fx rfl dX11_readKey_71 (by decide) (by decide) (gw_le.rf _) ⟨rfl, rfl, by rw [nRk]; (repeat first | rw [if_pos (by omega)] | rw [if_neg (by omega)]) <;> rfl⟩
      · exact g_vret fx rfl dX11_readKey_39 (by decide) (by decide) (gw_le.rf _) ⟨rfl, rfl, by rw [nRk]; (repeat first | rw [if_pos (by omega)] | rw [if_neg (by omega)]) <;> rfl⟩
