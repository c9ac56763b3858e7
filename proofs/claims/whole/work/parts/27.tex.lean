theorem dX8_keyHere_0 : gw_dc cX8_keyHere 0 (.aload_n 0) 1 1 := ⟨by decide +kernel, rfl⟩
theorem dX8_keyHere_1 : gw_dc cX8_keyHere 1 (.getfield 9) 3 4 := ⟨by decide +kernel, rfl⟩
theorem fk_RX8_9 : gw_fk RX8 9 8 0 2 1 true := ⟨_, _, _, ck_8, by decide, by decide, fun h => absurd h (by decide), fun h => absurd h (by decide), fun _ => Or.inl ⟨_, rfl⟩, rfl, Or.inl (gw_mem 390 (by decide +kernel) rfl)⟩
theorem rf_73_0 {ad : Nat → Nat} : (gw_M0 ad).2.2 73 0 = some 3 := (by decide +kernel : gw_rh 73 0 = some 3)
theorem o_73 {ad : Nat → Nat} : isO (gw_M0 ad) 73 8 2 := (by decide +kernel : 73 < gw_N0 ∧ gw_sh 73 = (8, 2))
theorem dX8_keyHere_4 : gw_dc cX8_keyHere 4 (.ldc 140) 2 6 := ⟨by decide +kernel, rfl⟩
theorem dX8_keyHere_6 : gw_dc cX8_keyHere 6 (.invokevirtual 56) 3 9 := ⟨by decide +kernel, rfl⟩
theorem mv_RX8_56 : gw_mv RX8 56 yX3_spells := ⟨gw_mem 855 (by decide +kernel) rfl, gw_mem 856 (by decide +kernel) rfl, gw_mem 857 (by decide +kernel) rfl⟩
theorem dX8_keyHere_9 : gw_dc cX8_keyHere 9 (.ifCond .eq 5) 3 12 := ⟨by decide +kernel, rfl⟩
theorem dX8_keyHere_14 : gw_dc cX8_keyHere 14 (.aload_n 0) 1 15 := ⟨by decide +kernel, rfl⟩
theorem dX8_keyHere_15 : gw_dc cX8_keyHere 15 (.getfield 9) 3 18 := ⟨by decide +kernel, rfl⟩
theorem dX8_keyHere_18 : gw_dc cX8_keyHere 18 (.ldc 142) 2 20 := ⟨by decide +kernel, rfl⟩
theorem dX8_keyHere_20 : gw_dc cX8_keyHere 20 (.invokevirtual 56) 3 23 := ⟨by decide +kernel, rfl⟩
theorem dX8_keyHere_23 : gw_dc cX8_keyHere 23 (.ifCond .eq 5) 3 26 := ⟨by decide +kernel, rfl⟩
theorem dX8_keyHere_28 : gw_dc cX8_keyHere 28 (.aload_n 0) 1 29 := ⟨by decide +kernel, rfl⟩
theorem dX8_keyHere_29 : gw_dc cX8_keyHere 29 (.getfield 9) 3 32 := ⟨by decide +kernel, rfl⟩
theorem dX8_keyHere_32 : gw_dc cX8_keyHere 32 (.ldc 144) 2 34 := ⟨by decide +kernel, rfl⟩
theorem dX8_keyHere_34 : gw_dc cX8_keyHere 34 (.invokevirtual 56) 3 37 := ⟨by decide +kernel, rfl⟩
theorem dX8_keyHere_37 : gw_dc cX8_keyHere 37 (.ifCond .eq 5) 3 40 := ⟨by decide +kernel, rfl⟩
theorem dX8_keyHere_42 : gw_dc cX8_keyHere 42 (.aload_n 0) 1 43 := ⟨by decide +kernel, rfl⟩
theorem dX8_keyHere_43 : gw_dc cX8_keyHere 43 (.getfield 9) 3 46 := ⟨by decide +kernel, rfl⟩
theorem dX8_keyHere_46 : gw_dc cX8_keyHere 46 (.ldc 146) 2 48 := ⟨by decide +kernel, rfl⟩
theorem dX8_keyHere_48 : gw_dc cX8_keyHere 48 (.invokevirtual 56) 3 51 := ⟨by decide +kernel, rfl⟩
theorem dX8_keyHere_51 : gw_dc cX8_keyHere 51 (.ifCond .eq 5) 3 54 := ⟨by decide +kernel, rfl⟩
theorem dX8_keyHere_56 : gw_dc cX8_keyHere 56 (.aload_n 0) 1 57 := ⟨by decide +kernel, rfl⟩
theorem dX8_keyHere_57 : gw_dc cX8_keyHere 57 (.getfield 9) 3 60 := ⟨by decide +kernel, rfl⟩
theorem dX8_keyHere_60 : gw_dc cX8_keyHere 60 (.ldc 148) 2 62 := ⟨by decide +kernel, rfl⟩
theorem dX8_keyHere_62 : gw_dc cX8_keyHere 62 (.invokevirtual 56) 3 65 := ⟨by decide +kernel, rfl⟩
theorem dX8_keyHere_65 : gw_dc cX8_keyHere 65 (.ifCond .eq 5) 3 68 := ⟨by decide +kernel, rfl⟩
theorem dX8_keyHere_70 : gw_dc cX8_keyHere 70 (.aload_n 0) 1 71 := ⟨by decide +kernel, rfl⟩
theorem dX8_keyHere_71 : gw_dc cX8_keyHere 71 (.getfield 9) 3 74 := ⟨by decide +kernel, rfl⟩
theorem dX8_keyHere_74 : gw_dc cX8_keyHere 74 (.ldc 150) 2 76 := ⟨by decide +kernel, rfl⟩
theorem dX8_keyHere_76 : gw_dc cX8_keyHere 76 (.invokevirtual 56) 3 79 := ⟨by decide +kernel, rfl⟩
theorem dX8_keyHere_79 : gw_dc cX8_keyHere 79 (.ifCond .eq 5) 3 82 := ⟨by decide +kernel, rfl⟩
theorem dX8_keyHere_84 : gw_dc cX8_keyHere 84 (.aload_n 0) 1 85 := ⟨by decide +kernel, rfl⟩
theorem dX8_keyHere_85 : gw_dc cX8_keyHere 85 (.getfield 9) 3 88 := ⟨by decide +kernel, rfl⟩
theorem dX8_keyHere_88 : gw_dc cX8_keyHere 88 (.ldc 152) 2 90 := ⟨by decide +kernel, rfl⟩
theorem dX8_keyHere_90 : gw_dc cX8_keyHere 90 (.invokevirtual 56) 3 93 := ⟨by decide +kernel, rfl⟩
theorem dX8_keyHere_93 : gw_dc cX8_keyHere 93 (.ifCond .eq 6) 3 96 := ⟨by decide +kernel, rfl⟩
theorem dX8_keyHere_99 : gw_dc cX8_keyHere 99 (.aload_n 0) 1 100 := ⟨by decide +kernel, rfl⟩
theorem dX8_keyHere_100 : gw_dc cX8_keyHere 100 (.getfield 9) 3 103 := ⟨by decide +kernel, rfl⟩
theorem dX8_keyHere_103 : gw_dc cX8_keyHere 103 (.ldc 154) 2 105 := ⟨by decide +kernel, rfl⟩
theorem dX8_keyHere_105 : gw_dc cX8_keyHere 105 (.invokevirtual 56) 3 108 := ⟨by decide +kernel, rfl⟩
theorem dX8_keyHere_108 : gw_dc cX8_keyHere 108 (.ifCond .eq 8) 3 111 := ⟨by decide +kernel, rfl⟩
theorem dX8_keyHere_116 : gw_dc cX8_keyHere 116 (.iconst (-1)) 1 117 := ⟨by decide +kernel, rfl⟩
theorem dX8_keyHere_117 : decode cX8_keyHere 117 = .ok (.ireturn, 1) := by decide +kernel
theorem dX8_keyHere_111 : gw_dc cX8_keyHere 111 (.bipush 7) 2 113 := ⟨by decide +kernel, rfl⟩
theorem dX8_keyHere_113 : gw_dc cX8_keyHere 113 (.goto 4) 3 116 := ⟨by decide +kernel, rfl⟩
theorem dX8_keyHere_96 : gw_dc cX8_keyHere 96 (.bipush 6) 2 98 := ⟨by decide +kernel, rfl⟩
theorem dX8_keyHere_98 : decode cX8_keyHere 98 = .ok (.ireturn, 1) := by decide +kernel
theorem dX8_keyHere_82 : gw_dc cX8_keyHere 82 (.iconst 5) 1 83 := ⟨by decide +kernel, rfl⟩
theorem dX8_keyHere_83 : decode cX8_keyHere 83 = .ok (.ireturn, 1) := by decide +kernel
theorem dX8_keyHere_68 : gw_dc cX8_keyHere 68 (.iconst 4) 1 69 := ⟨by decide +kernel, rfl⟩
theorem dX8_keyHere_69 : decode cX8_keyHere 69 = .ok (.ireturn, 1) := by decide +kernel
theorem dX8_keyHere_54 : gw_dc cX8_keyHere 54 (.iconst 3) 1 55 := ⟨by decide +kernel, rfl⟩
theorem dX8_keyHere_55 : decode cX8_keyHere 55 = .ok (.ireturn, 1) := by decide +kernel
theorem dX8_keyHere_40 : gw_dc cX8_keyHere 40 (.iconst 2) 1 41 := ⟨by decide +kernel, rfl⟩
theorem dX8_keyHere_41 : decode cX8_keyHere 41 = .ok (.ireturn, 1) := by decide +kernel
theorem dX8_keyHere_26 : gw_dc cX8_keyHere 26 (.iconst 1) 1 27 := ⟨by decide +kernel, rfl⟩
theorem dX8_keyHere_27 : decode cX8_keyHere 27 = .ok (.ireturn, 1) := by decide +kernel
theorem dX8_keyHere_12 : gw_dc cX8_keyHere 12 (.iconst 0) 1 13 := ⟨by decide +kernel, rfl⟩
theorem dX8_keyHere_13 : decode cX8_keyHere 13 = .ok (.ireturn, 1) := by decide +kernel
theorem dX8_readKey_0 : gw_dc cX8_readKey 0 (.aload_n 0) 1 1 := ⟨by decide +kernel, rfl⟩
theorem dX8_readKey_1 : gw_dc cX8_readKey 1 (.invokevirtual 130) 3 4 := ⟨by decide +kernel, rfl⟩
theorem mv_RX8_130 : gw_mv RX8 130 yX8_keyHere := ⟨gw_mem 980 (by decide +kernel) rfl, gw_mem 982 (by decide +kernel) rfl, gw_mem 17 (by decide +kernel) rfl⟩
theorem my_X8_keyHere : gw_my yX8_keyHere cX8_keyHere 1 (some .int) 0 := ⟨gw_mem 983 (by decide +kernel) rfl, gw_mem 102 (by decide +kernel) rfl, by decide +kernel, by decide⟩
theorem dX8_readKey_4 : gw_dc cX8_readKey 4 (.istore_n 1) 1 5 := ⟨by decide +kernel, rfl⟩
theorem dX8_readKey_5 : gw_dc cX8_readKey 5 (.iload_n 1) 1 6 := ⟨by decide +kernel, rfl⟩
theorem dX8_readKey_6 : gw_dc cX8_readKey 6 (.iconst (-1)) 1 7 := ⟨by decide +kernel, rfl⟩
theorem dX8_readKey_7 : gw_dc cX8_readKey 7 (.if_icmp .ne 14) 3 10 := ⟨by decide +kernel, rfl⟩
theorem dX8_readKey_21 : gw_dc cX8_readKey 21 (.aload_n 0) 1 22 := ⟨by decide +kernel, rfl⟩
theorem dX8_readKey_22 : gw_dc cX8_readKey 22 (.getfield 15) 3 25 := ⟨by decide +kernel, rfl⟩
theorem fk_RX8_15 : gw_fk RX8 15 8 1 2 1 true := ⟨_, _, _, ck_8, by decide, by decide, fun h => absurd h (by decide), fun h => absurd h (by decide), fun _ => Or.inl ⟨_, rfl⟩, rfl, Or.inl (gw_mem 391 (by decide +kernel) rfl)⟩
theorem rf_73_1 {ad : Nat → Nat} : (gw_M0 ad).2.2 73 1 = some 51 := (by decide +kernel : gw_rh 73 1 = some 51)
theorem in_51 : 51 ∈ gw_mills := by decide +kernel
theorem dX8_readKey_25 : gw_dc cX8_readKey 25 (.getfield 44) 3 28 := ⟨by decide +kernel, rfl⟩
theorem fk_RX8_44 : gw_fk RX8 44 1 0 16 1 true := ⟨_, _, _, ck_1, by decide, by decide, fun h => absurd h (by decide), fun h => absurd h (by decide), fun _ => Or.inl ⟨_, rfl⟩, rfl, Or.inr ⟨"LightestSack", gw_memN 230 (by decide +kernel) rfl⟩⟩
theorem rf_51_0 {ad : Nat → Nat} : (gw_M0 ad).2.2 51 0 = some 52 := (by decide +kernel : gw_rh 51 0 = some 52)
theorem in_52 : 52 ∈ gw_laws := by decide +kernel
theorem dX8_readKey_28 : gw_dc cX8_readKey 28 (.getfield 134) 3 31 := ⟨by decide +kernel, rfl⟩
theorem fk_RX8_134 : gw_fk RX8 134 0 1 3 0 false := ⟨_, _, _, ck_0, by decide, by decide, fun _ => rfl, fun h => absurd h (by decide), fun h => absurd h (by decide), rfl, Or.inr ⟨"LightestSack", gw_memN 214 (by decide +kernel) rfl⟩⟩
theorem dX8_readKey_31 : gw_dc cX8_readKey 31 (.bipush 8) 2 33 := ⟨by decide +kernel, rfl⟩
theorem dX8_readKey_33 : gw_dc cX8_readKey 33 (.if_icmp .lt 14) 3 36 := ⟨by decide +kernel, rfl⟩
theorem dX8_readKey_47 : gw_dc cX8_readKey 47 (.aload_n 0) 1 48 := ⟨by decide +kernel, rfl⟩
theorem dX8_readKey_48 : gw_dc cX8_readKey 48 (.getfield 15) 3 51 := ⟨by decide +kernel, rfl⟩
theorem dX8_readKey_51 : gw_dc cX8_readKey 51 (.getfield 44) 3 54 := ⟨by decide +kernel, rfl⟩
theorem dX8_readKey_54 : gw_dc cX8_readKey 54 (.iload_n 1) 1 55 := ⟨by decide +kernel, rfl⟩
theorem dX8_readKey_55 : gw_dc cX8_readKey 55 (.invokevirtual 137) 3 58 := ⟨by decide +kernel, rfl⟩
theorem mv_RX8_137 : gw_mv RX8 137 yX0_add := ⟨gw_mem 992 (by decide +kernel) rfl, gw_mem 203 (by decide +kernel) rfl, gw_mem 204 (by decide +kernel) rfl⟩
theorem dX8_readKey_58 : gw_dc cX8_readKey 58 (.aload_n 0) 1 59 := ⟨by decide +kernel, rfl⟩
theorem dX8_readKey_59 : gw_dc cX8_readKey 59 (.getfield 9) 3 62 := ⟨by decide +kernel, rfl⟩
theorem dX8_readKey_62 : gw_dc cX8_readKey 62 (.invokevirtual 92) 3 65 := ⟨by decide +kernel, rfl⟩
theorem mv_RX8_92 : gw_mv RX8 92 yX3_advance := ⟨gw_mem 915 (by decide +kernel) rfl, gw_mem 833 (by decide +kernel) rfl, gw_mem 834 (by decide +kernel) rfl⟩
theorem dX8_readKey_65 : decode cX8_readKey 65 = .ok (.return_, 1) := by decide +kernel
theorem dX8_readKey_36 : gw_dc cX8_readKey 36 (.aload_n 0) 1 37 := ⟨by decide +kernel, rfl⟩
theorem dX8_readKey_37 : gw_dc cX8_readKey 37 (.getfield 9) 3 40 := ⟨by decide +kernel, rfl⟩
theorem dX8_readKey_40 : gw_dc cX8_readKey 40 (.iconst 4) 1 41 := ⟨by decide +kernel, rfl⟩
theorem dX8_readKey_41 : gw_dc cX8_readKey 41 (.invokevirtual 83) 3 44 := ⟨by decide +kernel, rfl⟩
theorem mv_RX8_83 : gw_mv RX8 83 yX3_fail := ⟨gw_mem 911 (by decide +kernel) rfl, gw_mem 912 (by decide +kernel) rfl, gw_mem 913 (by decide +kernel) rfl⟩
theorem dX8_readKey_44 : gw_dc cX8_readKey 44 (.goto 21) 3 47 := ⟨by decide +kernel, rfl⟩
theorem dX8_readKey_10 : gw_dc cX8_readKey 10 (.aload_n 0) 1 11 := ⟨by decide +kernel, rfl⟩
theorem dX8_readKey_11 : gw_dc cX8_readKey 11 (.getfield 9) 3 14 := ⟨by decide +kernel, rfl⟩
theorem dX8_readKey_14 : gw_dc cX8_readKey 14 (.iconst 2) 1 15 := ⟨by decide +kernel, rfl⟩
theorem dX8_readKey_15 : gw_dc cX8_readKey 15 (.invokevirtual 83) 3 18 := ⟨by decide +kernel, rfl⟩
theorem dX8_readKey_18 : gw_dc cX8_readKey 18 (.goto 47) 3 21 := ⟨by decide +kernel, rfl⟩
theorem dX8_readStone_0 : gw_dc cX8_readStone 0 (.aload_n 0) 1 1 := ⟨by decide +kernel, rfl⟩
theorem dX8_readStone_1 : gw_dc cX8_readStone 1 (.getfield 15) 3 4 := ⟨by decide +kernel, rfl⟩
theorem dX8_readStone_4 : gw_dc cX8_readStone 4 (.getfield 89) 3 7 := ⟨by decide +kernel, rfl⟩
theorem fk_RX8_89 : gw_fk RX8 89 1 2 16 0 false := ⟨_, _, _, ck_1, by decide, by decide, fun _ => rfl, fun h => absurd h (by decide), fun h => absurd h (by decide), rfl, Or.inr ⟨"LightestSack", gw_memN 237 (by decide +kernel) rfl⟩⟩
theorem dX8_readStone_7 : gw_dc cX8_readStone 7 (.iconst 3) 1 8 := ⟨by decide +kernel, rfl⟩
theorem dX8_readStone_8 : gw_dc cX8_readStone 8 (.if_icmp .lt 12) 3 11 := ⟨by decide +kernel, rfl⟩
theorem dX8_readStone_20 : gw_dc cX8_readStone 20 (.aload_n 0) 1 21 := ⟨by decide +kernel, rfl⟩
theorem dX8_readStone_21 : gw_dc cX8_readStone 21 (.getfield 9) 3 24 := ⟨by decide +kernel, rfl⟩
theorem dX8_readStone_24 : gw_dc cX8_readStone 24 (.invokevirtual 92) 3 27 := ⟨by decide +kernel, rfl⟩
theorem dX8_readStone_27 : gw_dc cX8_readStone 27 (.aload_n 0) 1 28 := ⟨by decide +kernel, rfl⟩
theorem dX8_readStone_28 : gw_dc cX8_readStone 28 (.getfield 15) 3 31 := ⟨by decide +kernel, rfl⟩
theorem dX8_readStone_31 : gw_dc cX8_readStone 31 (.aload_n 0) 1 32 := ⟨by decide +kernel, rfl⟩
theorem dX8_readStone_32 : gw_dc cX8_readStone 32 (.getfield 9) 3 35 := ⟨by decide +kernel, rfl⟩
theorem dX8_readStone_35 : gw_dc cX8_readStone 35 (.iconst 1) 1 36 := ⟨by decide +kernel, rfl⟩
theorem dX8_readStone_36 : gw_dc cX8_readStone 36 (.bipush 9) 2 38 := ⟨by decide +kernel, rfl⟩
theorem dX8_readStone_38 : gw_dc cX8_readStone 38 (.invokevirtual 68) 3 41 := ⟨by decide +kernel, rfl⟩
theorem mv_RX8_68 : gw_mv RX8 68 yX3_number := ⟨gw_mem 916 (by decide +kernel) rfl, gw_mem 917 (by decide +kernel) rfl, gw_mem 918 (by decide +kernel) rfl⟩
theorem my_X3_number : gw_my yX3_number cX3_number 4 (some .int) 2 := ⟨gw_mem 919 (by decide +kernel) rfl, gw_mem 97 (by decide +kernel) rfl, by decide +kernel, by decide⟩
theorem dX8_readStone_41 : gw_dc cX8_readStone 41 (.invokevirtual 95) 3 44 := ⟨by decide +kernel, rfl⟩
theorem mv_RX8_95 : gw_mv RX8 95 yX1_addStone := ⟨gw_mem 921 (by decide +kernel) rfl, gw_mem 501 (by decide +kernel) rfl, gw_mem 502 (by decide +kernel) rfl⟩
theorem dX8_readStone_44 : decode cX8_readStone 44 = .ok (.return_, 1) := by decide +kernel
theorem dX8_readStone_11 : gw_dc cX8_readStone 11 (.aload_n 0) 1 12 := ⟨by decide +kernel, rfl⟩
theorem dX8_readStone_12 : gw_dc cX8_readStone 12 (.getfield 9) 3 15 := ⟨by decide +kernel, rfl⟩
theorem dX8_readStone_15 : gw_dc cX8_readStone 15 (.iconst 4) 1 16 := ⟨by decide +kernel, rfl⟩
theorem dX8_readStone_16 : gw_dc cX8_readStone 16 (.invokevirtual 83) 3 19 := ⟨by decide +kernel, rfl⟩
theorem dX8_readStone_19 : decode cX8_readStone 19 = .ok (.return_, 1) := by decide +kernel
theorem dX8_readSack_0 : gw_dc cX8_readSack 0 (.aload_n 0) 1 1 := ⟨by decide +kernel, rfl⟩
theorem dX8_readSack_1 : gw_dc cX8_readSack 1 (.getfield 15) 3 4 := ⟨by decide +kernel, rfl⟩
theorem dX8_readSack_4 : gw_dc cX8_readSack 4 (.getfield 98) 3 7 := ⟨by decide +kernel, rfl⟩
theorem fk_RX8_98 : gw_fk RX8 98 1 5 16 0 false := ⟨_, _, _, ck_1, by decide, by decide, fun _ => rfl, fun h => absurd h (by decide), fun h => absurd h (by decide), rfl, Or.inr ⟨"LightestSack", gw_memN 252 (by decide +kernel) rfl⟩⟩
theorem dX8_readSack_7 : gw_dc cX8_readSack 7 (.bipush 24) 2 9 := ⟨by decide +kernel, rfl⟩
theorem dX8_readSack_9 : gw_dc cX8_readSack 9 (.if_icmp .lt 12) 3 12 := ⟨by decide +kernel, rfl⟩
theorem dX8_readSack_21 : gw_dc cX8_readSack 21 (.aload_n 0) 1 22 := ⟨by decide +kernel, rfl⟩
theorem dX8_readSack_22 : gw_dc cX8_readSack 22 (.getfield 9) 3 25 := ⟨by decide +kernel, rfl⟩
theorem dX8_readSack_25 : gw_dc cX8_readSack 25 (.invokevirtual 92) 3 28 := ⟨by decide +kernel, rfl⟩
theorem dX8_readSack_28 : gw_dc cX8_readSack 28 (.aload_n 0) 1 29 := ⟨by decide +kernel, rfl⟩
theorem dX8_readSack_29 : gw_dc cX8_readSack 29 (.getfield 9) 3 32 := ⟨by decide +kernel, rfl⟩
theorem dX8_readSack_32 : gw_dc cX8_readSack 32 (.iconst 1) 1 33 := ⟨by decide +kernel, rfl⟩
theorem dX8_readSack_33 : gw_dc cX8_readSack 33 (.bipush 99) 2 35 := ⟨by decide +kernel, rfl⟩
theorem dX8_readSack_35 : gw_dc cX8_readSack 35 (.invokevirtual 68) 3 38 := ⟨by decide +kernel, rfl⟩
theorem dX8_readSack_38 : gw_dc cX8_readSack 38 (.istore_n 1) 1 39 := ⟨by decide +kernel, rfl⟩
theorem dX8_readSack_39 : gw_dc cX8_readSack 39 (.aload_n 0) 1 40 := ⟨by decide +kernel, rfl⟩
theorem dX8_readSack_40 : gw_dc cX8_readSack 40 (.getfield 9) 3 43 := ⟨by decide +kernel, rfl⟩
theorem dX8_readSack_43 : gw_dc cX8_readSack 43 (.ldc 101) 2 45 := ⟨by decide +kernel, rfl⟩
theorem dX8_readSack_45 : gw_dc cX8_readSack 45 (.invokevirtual 103) 3 48 := ⟨by decide +kernel, rfl⟩
theorem mv_RX8_103 : gw_mv RX8 103 yX3_expect := ⟨gw_mem 935 (by decide +kernel) rfl, gw_mem 936 (by decide +kernel) rfl, gw_mem 937 (by decide +kernel) rfl⟩
theorem my_X3_expect : gw_my yX3_expect cX3_expect 2 none 1 := ⟨gw_mem 938 (by decide +kernel) rfl, gw_mem 97 (by decide +kernel) rfl, by decide +kernel, by decide⟩
theorem dX8_readSack_48 : gw_dc cX8_readSack 48 (.aload_n 0) 1 49 := ⟨by decide +kernel, rfl⟩
theorem dX8_readSack_49 : gw_dc cX8_readSack 49 (.getfield 9) 3 52 := ⟨by decide +kernel, rfl⟩
theorem dX8_readSack_52 : gw_dc cX8_readSack 52 (.iconst 0) 1 53 := ⟨by decide +kernel, rfl⟩
theorem dX8_readSack_53 : gw_dc cX8_readSack 53 (.bipush 7) 2 55 := ⟨by decide +kernel, rfl⟩
theorem dX8_readSack_55 : gw_dc cX8_readSack 55 (.invokevirtual 68) 3 58 := ⟨by decide +kernel, rfl⟩
theorem dX8_readSack_58 : gw_dc cX8_readSack 58 (.istore_n 2) 1 59 := ⟨by decide +kernel, rfl⟩
theorem dX8_readSack_59 : gw_dc cX8_readSack 59 (.aload_n 0) 1 60 := ⟨by decide +kernel, rfl⟩
theorem dX8_readSack_60 : gw_dc cX8_readSack 60 (.getfield 9) 3 63 := ⟨by decide +kernel, rfl⟩
theorem dX8_readSack_63 : gw_dc cX8_readSack 63 (.ldc 107) 2 65 := ⟨by decide +kernel, rfl⟩
theorem dX8_readSack_65 : gw_dc cX8_readSack 65 (.invokevirtual 103) 3 68 := ⟨by decide +kernel, rfl⟩
theorem dX8_readSack_68 : gw_dc cX8_readSack 68 (.aload_n 0) 1 69 := ⟨by decide +kernel, rfl⟩
theorem dX8_readSack_69 : gw_dc cX8_readSack 69 (.getfield 9) 3 72 := ⟨by decide +kernel, rfl⟩
theorem dX8_readSack_72 : gw_dc cX8_readSack 72 (.iconst 0) 1 73 := ⟨by decide +kernel, rfl⟩
theorem dX8_readSack_73 : gw_dc cX8_readSack 73 (.sipush 600) 3 76 := ⟨by decide +kernel, rfl⟩
theorem dX8_readSack_76 : gw_dc cX8_readSack 76 (.invokevirtual 68) 3 79 := ⟨by decide +kernel, rfl⟩
theorem dX8_readSack_79 : gw_dc cX8_readSack 79 (.istore_n 3) 1 80 := ⟨by decide +kernel, rfl⟩
theorem dX8_readSack_80 : gw_dc cX8_readSack 80 (.aload_n 0) 1 81 := ⟨by decide +kernel, rfl⟩
theorem dX8_readSack_81 : gw_dc cX8_readSack 81 (.getfield 9) 3 84 := ⟨by decide +kernel, rfl⟩
theorem dX8_readSack_84 : gw_dc cX8_readSack 84 (.ldc 109) 2 86 := ⟨by decide +kernel, rfl⟩
theorem dX8_readSack_86 : gw_dc cX8_readSack 86 (.invokevirtual 65) 3 89 := ⟨by decide +kernel, rfl⟩
theorem mv_RX8_65 : gw_mv RX8 65 yX3_takes := ⟨gw_mem 923 (by decide +kernel) rfl, gw_mem 924 (by decide +kernel) rfl, gw_mem 925 (by decide +kernel) rfl⟩
theorem my_X3_takes : gw_my yX3_takes cX3_takes 3 (some .boolean) 1 := ⟨gw_mem 926 (by decide +kernel) rfl, gw_mem 97 (by decide +kernel) rfl, by decide +kernel, by decide⟩
theorem dX8_readSack_89 : gw_dc cX8_readSack 89 (.ifCond .eq 15) 3 92 := ⟨by decide +kernel, rfl⟩
theorem dX8_readSack_104 : gw_dc cX8_readSack 104 (.iconst 0) 1 105 := ⟨by decide +kernel, rfl⟩
theorem dX8_readSack_105 : gw_dc cX8_readSack 105 (.istore 4) 2 107 := ⟨by decide +kernel, rfl⟩
theorem dX8_readSack_107 : gw_dc cX8_readSack 107 (.aload_n 0) 1 108 := ⟨by decide +kernel, rfl⟩
theorem dX8_readSack_108 : gw_dc cX8_readSack 108 (.getfield 9) 3 111 := ⟨by decide +kernel, rfl⟩
theorem dX8_readSack_111 : gw_dc cX8_readSack 111 (.ldc 111) 2 113 := ⟨by decide +kernel, rfl⟩
theorem dX8_readSack_113 : gw_dc cX8_readSack 113 (.invokevirtual 65) 3 116 := ⟨by decide +kernel, rfl⟩
theorem dX8_readSack_116 : gw_dc cX8_readSack 116 (.ifCond .eq 16) 3 119 := ⟨by decide +kernel, rfl⟩
theorem dX8_readSack_132 : gw_dc cX8_readSack 132 (.iconst 1) 1 133 := ⟨by decide +kernel, rfl⟩
theorem dX8_readSack_133 : gw_dc cX8_readSack 133 (.istore 5) 2 135 := ⟨by decide +kernel, rfl⟩
theorem dX8_readSack_135 : gw_dc cX8_readSack 135 (.aload_n 0) 1 136 := ⟨by decide +kernel, rfl⟩
theorem dX8_readSack_136 : gw_dc cX8_readSack 136 (.getfield 9) 3 139 := ⟨by decide +kernel, rfl⟩
theorem dX8_readSack_139 : gw_dc cX8_readSack 139 (.ldc 113) 2 141 := ⟨by decide +kernel, rfl⟩
theorem dX8_readSack_141 : gw_dc cX8_readSack 141 (.invokevirtual 65) 3 144 := ⟨by decide +kernel, rfl⟩
theorem dX8_readSack_144 : gw_dc cX8_readSack 144 (.ifCond .eq 17) 3 147 := ⟨by decide +kernel, rfl⟩
theorem dX8_readSack_161 : gw_dc cX8_readSack 161 (.iconst (-1)) 1 162 := ⟨by decide +kernel, rfl⟩
theorem dX8_readSack_162 : gw_dc cX8_readSack 162 (.istore 6) 2 164 := ⟨by decide +kernel, rfl⟩
theorem dX8_readSack_164 : gw_dc cX8_readSack 164 (.aload_n 0) 1 165 := ⟨by decide +kernel, rfl⟩
theorem dX8_readSack_165 : gw_dc cX8_readSack 165 (.getfield 15) 3 168 := ⟨by decide +kernel, rfl⟩
theorem dX8_readSack_168 : gw_dc cX8_readSack 168 (.iload_n 1) 1 169 := ⟨by decide +kernel, rfl⟩
theorem dX8_readSack_169 : gw_dc cX8_readSack 169 (.iload_n 2) 1 170 := ⟨by decide +kernel, rfl⟩
theorem dX8_readSack_170 : gw_dc cX8_readSack 170 (.iload_n 3) 1 171 := ⟨by decide +kernel, rfl⟩
theorem dX8_readSack_171 : gw_dc cX8_readSack 171 (.iload 4) 2 173 := ⟨by decide +kernel, rfl⟩
theorem dX8_readSack_173 : gw_dc cX8_readSack 173 (.iload 5) 2 175 := ⟨by decide +kernel, rfl⟩
theorem dX8_readSack_175 : gw_dc cX8_readSack 175 (.iload 6) 2 177 := ⟨by decide +kernel, rfl⟩
theorem dX8_readSack_177 : gw_dc cX8_readSack 177 (.invokevirtual 115) 3 180 := ⟨by decide +kernel, rfl⟩
theorem mv_RX8_115 : gw_mv RX8 115 yX1_addSack := ⟨gw_mem 943 (by decide +kernel) rfl, gw_mem 944 (by decide +kernel) rfl, gw_mem 945 (by decide +kernel) rfl⟩
theorem dX8_readSack_180 : decode cX8_readSack 180 = .ok (.return_, 1) := by decide +kernel
theorem dX8_readSack_147 : gw_dc cX8_readSack 147 (.aload_n 0) 1 148 := ⟨by decide +kernel, rfl⟩
theorem dX8_readSack_148 : gw_dc cX8_readSack 148 (.getfield 9) 3 151 := ⟨by decide +kernel, rfl⟩
theorem dX8_readSack_151 : gw_dc cX8_readSack 151 (.iconst 0) 1 152 := ⟨by decide +kernel, rfl⟩
theorem dX8_readSack_152 : gw_dc cX8_readSack 152 (.sipush 999) 3 155 := ⟨by decide +kernel, rfl⟩
theorem dX8_readSack_155 : gw_dc cX8_readSack 155 (.invokevirtual 68) 3 158 := ⟨by decide +kernel, rfl⟩
theorem dX8_readSack_158 : gw_dc cX8_readSack 158 (.goto 4) 3 161 := ⟨by decide +kernel, rfl⟩
theorem dX8_readSack_119 : gw_dc cX8_readSack 119 (.aload_n 0) 1 120 := ⟨by decide +kernel, rfl⟩
theorem dX8_readSack_120 : gw_dc cX8_readSack 120 (.getfield 9) 3 123 := ⟨by decide +kernel, rfl⟩
theorem dX8_readSack_123 : gw_dc cX8_readSack 123 (.iconst 1) 1 124 := ⟨by decide +kernel, rfl⟩
theorem dX8_readSack_124 : gw_dc cX8_readSack 124 (.bipush 9) 2 126 := ⟨by decide +kernel, rfl⟩
theorem dX8_readSack_126 : gw_dc cX8_readSack 126 (.invokevirtual 68) 3 129 := ⟨by decide +kernel, rfl⟩
theorem dX8_readSack_129 : gw_dc cX8_readSack 129 (.goto 4) 3 132 := ⟨by decide +kernel, rfl⟩
theorem dX8_readSack_92 : gw_dc cX8_readSack 92 (.aload_n 0) 1 93 := ⟨by decide +kernel, rfl⟩
theorem dX8_readSack_93 : gw_dc cX8_readSack 93 (.getfield 9) 3 96 := ⟨by decide +kernel, rfl⟩
theorem dX8_readSack_96 : gw_dc cX8_readSack 96 (.iconst 0) 1 97 := ⟨by decide +kernel, rfl⟩
theorem dX8_readSack_97 : gw_dc cX8_readSack 97 (.iconst 3) 1 98 := ⟨by decide +kernel, rfl⟩
theorem dX8_readSack_98 : gw_dc cX8_readSack 98 (.invokevirtual 68) 3 101 := ⟨by decide +kernel, rfl⟩
theorem dX8_readSack_101 : gw_dc cX8_readSack 101 (.goto 4) 3 104 := ⟨by decide +kernel, rfl⟩
theorem dX8_readSack_12 : gw_dc cX8_readSack 12 (.aload_n 0) 1 13 := ⟨by decide +kernel, rfl⟩
theorem dX8_readSack_13 : gw_dc cX8_readSack 13 (.getfield 9) 3 16 := ⟨by decide +kernel, rfl⟩
theorem dX8_readSack_16 : gw_dc cX8_readSack 16 (.iconst 4) 1 17 := ⟨by decide +kernel, rfl⟩
theorem dX8_readSack_17 : gw_dc cX8_readSack 17 (.invokevirtual 83) 3 20 := ⟨by decide +kernel, rfl⟩
theorem dX8_readSack_20 : decode cX8_readSack 20 = .ok (.return_, 1) := by decide +kernel
theorem dX8_readLine_0 : gw_dc cX8_readLine 0 (.aload_n 0) 1 1 := ⟨by decide +kernel, rfl⟩
theorem dX8_readLine_1 : gw_dc cX8_readLine 1 (.getfield 9) 3 4 := ⟨by decide +kernel, rfl⟩
theorem dX8_readLine_4 : gw_dc cX8_readLine 4 (.ldc 54) 2 6 := ⟨by decide +kernel, rfl⟩
theorem dX8_readLine_6 : gw_dc cX8_readLine 6 (.invokevirtual 56) 3 9 := ⟨by decide +kernel, rfl⟩
theorem dX8_readLine_9 : gw_dc cX8_readLine 9 (.ifCond .eq 10) 3 12 := ⟨by decide +kernel, rfl⟩
theorem dX8_readLine_19 : gw_dc cX8_readLine 19 (.aload_n 0) 1 20 := ⟨by decide +kernel, rfl⟩
theorem dX8_readLine_20 : gw_dc cX8_readLine 20 (.getfield 9) 3 23 := ⟨by decide +kernel, rfl⟩
theorem dX8_readLine_23 : gw_dc cX8_readLine 23 (.ldc 63) 2 25 := ⟨by decide +kernel, rfl⟩
theorem dX8_readLine_25 : gw_dc cX8_readLine 25 (.invokevirtual 65) 3 28 := ⟨by decide +kernel, rfl⟩
theorem dX8_readLine_28 : gw_dc cX8_readLine 28 (.ifCond .eq 23) 3 31 := ⟨by decide +kernel, rfl⟩
theorem dX8_readLine_51 : gw_dc cX8_readLine 51 (.aload_n 0) 1 52 := ⟨by decide +kernel, rfl⟩
theorem dX8_readLine_52 : gw_dc cX8_readLine 52 (.getfield 9) 3 55 := ⟨by decide +kernel, rfl⟩
theorem dX8_readLine_55 : gw_dc cX8_readLine 55 (.ldc 74) 2 57 := ⟨by decide +kernel, rfl⟩
theorem dX8_readLine_57 : gw_dc cX8_readLine 57 (.invokevirtual 65) 3 60 := ⟨by decide +kernel, rfl⟩
theorem dX8_readLine_60 : gw_dc cX8_readLine 60 (.ifCond .eq 23) 3 63 := ⟨by decide +kernel, rfl⟩
theorem dX8_readLine_83 : gw_dc cX8_readLine 83 (.aload_n 0) 1 84 := ⟨by decide +kernel, rfl⟩
theorem dX8_readLine_84 : gw_dc cX8_readLine 84 (.getfield 9) 3 87 := ⟨by decide +kernel, rfl⟩
theorem dX8_readLine_87 : gw_dc cX8_readLine 87 (.ldc 78) 2 89 := ⟨by decide +kernel, rfl⟩
theorem dX8_readLine_89 : gw_dc cX8_readLine 89 (.invokevirtual 56) 3 92 := ⟨by decide +kernel, rfl⟩
theorem dX8_readLine_92 : gw_dc cX8_readLine 92 (.ifCond .eq 10) 3 95 := ⟨by decide +kernel, rfl⟩
theorem dX8_readLine_102 : gw_dc cX8_readLine 102 (.aload_n 0) 1 103 := ⟨by decide +kernel, rfl⟩
theorem dX8_readLine_103 : gw_dc cX8_readLine 103 (.getfield 9) 3 106 := ⟨by decide +kernel, rfl⟩
theorem dX8_readLine_106 : gw_dc cX8_readLine 106 (.iconst 2) 1 107 := ⟨by decide +kernel, rfl⟩
theorem dX8_readLine_107 : gw_dc cX8_readLine 107 (.invokevirtual 83) 3 110 := ⟨by decide +kernel, rfl⟩
theorem dX8_readLine_110 : gw_dc cX8_readLine 110 (.aload_n 0) 1 111 := ⟨by decide +kernel, rfl⟩
theorem dX8_readLine_111 : gw_dc cX8_readLine 111 (.getfield 9) 3 114 := ⟨by decide +kernel, rfl⟩
theorem dX8_readLine_114 : gw_dc cX8_readLine 114 (.invokevirtual 86) 3 117 := ⟨by decide +kernel, rfl⟩
theorem mv_RX8_86 : gw_mv RX8 86 yX3_endLine := ⟨gw_mem 947 (by decide +kernel) rfl, gw_mem 948 (by decide +kernel) rfl, gw_mem 949 (by decide +kernel) rfl⟩
theorem my_X3_endLine : gw_my yX3_endLine cX3_endLine 1 none 0 := ⟨gw_mem 950 (by decide +kernel) rfl, gw_mem 97 (by decide +kernel) rfl, by decide +kernel, by decide⟩
theorem dX8_readLine_117 : decode cX8_readLine 117 = .ok (.return_, 1) := by decide +kernel
theorem dX8_readLine_95 : gw_dc cX8_readLine 95 (.aload_n 0) 1 96 := ⟨by decide +kernel, rfl⟩
theorem dX8_readLine_96 : gw_dc cX8_readLine 96 (.invokevirtual 80) 3 99 := ⟨by decide +kernel, rfl⟩
theorem mv_RX8_80 : gw_mv RX8 80 yX8_readSack := ⟨gw_mem 930 (by decide +kernel) rfl, gw_mem 932 (by decide +kernel) rfl, gw_mem 13 (by decide +kernel) rfl⟩
theorem my_X8_readSack : gw_my yX8_readSack cX8_readSack 7 none 0 := ⟨gw_mem 933 (by decide +kernel) rfl, gw_mem 102 (by decide +kernel) rfl, by decide +kernel, by decide⟩
theorem dX8_readLine_99 : gw_dc cX8_readLine 99 (.goto 11) 3 102 := ⟨by decide +kernel, rfl⟩
theorem dX8_readLine_63 : gw_dc cX8_readLine 63 (.aload_n 0) 1 64 := ⟨by decide +kernel, rfl⟩
theorem dX8_readLine_64 : gw_dc cX8_readLine 64 (.getfield 15) 3 67 := ⟨by decide +kernel, rfl⟩
theorem dX8_readLine_67 : gw_dc cX8_readLine 67 (.aload_n 0) 1 68 := ⟨by decide +kernel, rfl⟩
theorem dX8_readLine_68 : gw_dc cX8_readLine 68 (.getfield 9) 3 71 := ⟨by decide +kernel, rfl⟩
theorem dX8_readLine_71 : gw_dc cX8_readLine 71 (.iconst 0) 1 72 := ⟨by decide +kernel, rfl⟩
theorem dX8_readLine_72 : gw_dc cX8_readLine 72 (.bipush 99) 2 74 := ⟨by decide +kernel, rfl⟩
theorem dX8_readLine_74 : gw_dc cX8_readLine 74 (.invokevirtual 68) 3 77 := ⟨by decide +kernel, rfl⟩
theorem dX8_readLine_77 : gw_dc cX8_readLine 77 (.putfield 76) 3 80 := ⟨by decide +kernel, rfl⟩
theorem fk_RX8_76 : gw_fk RX8 76 1 4 16 0 false := ⟨_, _, _, ck_1, by decide, by decide, fun _ => rfl, fun h => absurd h (by decide), fun h => absurd h (by decide), rfl, Or.inr ⟨"LightestSack", gw_memN 247 (by decide +kernel) rfl⟩⟩
theorem dX8_readLine_80 : gw_dc cX8_readLine 80 (.goto 30) 3 83 := ⟨by decide +kernel, rfl⟩
theorem dX8_readLine_31 : gw_dc cX8_readLine 31 (.aload_n 0) 1 32 := ⟨by decide +kernel, rfl⟩
theorem dX8_readLine_32 : gw_dc cX8_readLine 32 (.getfield 15) 3 35 := ⟨by decide +kernel, rfl⟩
theorem dX8_readLine_35 : gw_dc cX8_readLine 35 (.aload_n 0) 1 36 := ⟨by decide +kernel, rfl⟩
theorem dX8_readLine_36 : gw_dc cX8_readLine 36 (.getfield 9) 3 39 := ⟨by decide +kernel, rfl⟩
theorem dX8_readLine_39 : gw_dc cX8_readLine 39 (.iconst 0) 1 40 := ⟨by decide +kernel, rfl⟩
theorem dX8_readLine_40 : gw_dc cX8_readLine 40 (.bipush 60) 2 42 := ⟨by decide +kernel, rfl⟩
theorem dX8_readLine_42 : gw_dc cX8_readLine 42 (.invokevirtual 68) 3 45 := ⟨by decide +kernel, rfl⟩
theorem dX8_readLine_45 : gw_dc cX8_readLine 45 (.putfield 72) 3 48 := ⟨by decide +kernel, rfl⟩
theorem fk_RX8_72 : gw_fk RX8 72 1 3 16 0 false := ⟨_, _, _, ck_1, by decide, by decide, fun _ => rfl, fun h => absurd h (by decide), fun h => absurd h (by decide), rfl, Or.inr ⟨"LightestSack", gw_memN 241 (by decide +kernel) rfl⟩⟩
theorem dX8_readLine_48 : gw_dc cX8_readLine 48 (.goto 62) 3 51 := ⟨by decide +kernel, rfl⟩
theorem dX8_readLine_12 : gw_dc cX8_readLine 12 (.aload_n 0) 1 13 := ⟨by decide +kernel, rfl⟩
theorem dX8_readLine_13 : gw_dc cX8_readLine 13 (.invokevirtual 60) 3 16 := ⟨by decide +kernel, rfl⟩
theorem mv_RX8_60 : gw_mv RX8 60 yX8_readStone := ⟨gw_mem 907 (by decide +kernel) rfl, gw_mem 909 (by decide +kernel) rfl, gw_mem 12 (by decide +kernel) rfl⟩
theorem my_X8_readStone : gw_my yX8_readStone cX8_readStone 1 none 0 := ⟨gw_mem 910 (by decide +kernel) rfl, gw_mem 102 (by decide +kernel) rfl, by decide +kernel, by decide⟩
theorem dX8_readLine_16 : gw_dc cX8_readLine 16 (.goto 94) 3 19 := ⟨by decide +kernel, rfl⟩
theorem dX8_readRule_0 : gw_dc cX8_readRule 0 (.aload_n 0) 1 1 := ⟨by decide +kernel, rfl⟩
theorem dX8_readRule_1 : gw_dc cX8_readRule 1 (.getfield 9) 3 4 := ⟨by decide +kernel, rfl⟩
theorem dX8_readRule_4 : gw_dc cX8_readRule 4 (.ldc 119) 2 6 := ⟨by decide +kernel, rfl⟩
theorem dX8_readRule_6 : gw_dc cX8_readRule 6 (.invokevirtual 65) 3 9 := ⟨by decide +kernel, rfl⟩
theorem dX8_readRule_9 : gw_dc cX8_readRule 9 (.ifCond .eq 51) 3 12 := ⟨by decide +kernel, rfl⟩
theorem dX8_readRule_60 : gw_dc cX8_readRule 60 (.aload_n 0) 1 61 := ⟨by decide +kernel, rfl⟩
theorem dX8_readRule_61 : gw_dc cX8_readRule 61 (.getfield 9) 3 64 := ⟨by decide +kernel, rfl⟩
theorem dX8_readRule_64 : gw_dc cX8_readRule 64 (.ldc 126) 2 66 := ⟨by decide +kernel, rfl⟩
theorem dX8_readRule_66 : gw_dc cX8_readRule 66 (.invokevirtual 65) 3 69 := ⟨by decide +kernel, rfl⟩
theorem dX8_readRule_69 : gw_dc cX8_readRule 69 (.ifCond .eq 26) 3 72 := ⟨by decide +kernel, rfl⟩
theorem dX8_readRule_95 : gw_dc cX8_readRule 95 (.aload_n 0) 1 96 := ⟨by decide +kernel, rfl⟩
theorem dX8_readRule_96 : gw_dc cX8_readRule 96 (.getfield 9) 3 99 := ⟨by decide +kernel, rfl⟩
theorem dX8_readRule_99 : gw_dc cX8_readRule 99 (.iconst 2) 1 100 := ⟨by decide +kernel, rfl⟩
theorem dX8_readRule_100 : gw_dc cX8_readRule 100 (.invokevirtual 83) 3 103 := ⟨by decide +kernel, rfl⟩
theorem dX8_readRule_103 : gw_dc cX8_readRule 103 (.aload_n 0) 1 104 := ⟨by decide +kernel, rfl⟩
theorem dX8_readRule_104 : gw_dc cX8_readRule 104 (.getfield 9) 3 107 := ⟨by decide +kernel, rfl⟩
theorem dX8_readRule_107 : gw_dc cX8_readRule 107 (.invokevirtual 86) 3 110 := ⟨by decide +kernel, rfl⟩
theorem dX8_readRule_110 : decode cX8_readRule 110 = .ok (.return_, 1) := by decide +kernel
theorem dX8_readRule_72 : gw_dc cX8_readRule 72 (.aload_n 0) 1 73 := ⟨by decide +kernel, rfl⟩
theorem dX8_readRule_73 : gw_dc cX8_readRule 73 (.getfield 15) 3 76 := ⟨by decide +kernel, rfl⟩
theorem dX8_readRule_76 : gw_dc cX8_readRule 76 (.getfield 44) 3 79 := ⟨by decide +kernel, rfl⟩
theorem dX8_readRule_79 : gw_dc cX8_readRule 79 (.aload_n 0) 1 80 := ⟨by decide +kernel, rfl⟩
theorem dX8_readRule_80 : gw_dc cX8_readRule 80 (.getfield 9) 3 83 := ⟨by decide +kernel, rfl⟩
theorem dX8_readRule_83 : gw_dc cX8_readRule 83 (.iconst 0) 1 84 := ⟨by decide +kernel, rfl⟩
theorem dX8_readRule_84 : gw_dc cX8_readRule 84 (.bipush 99) 2 86 := ⟨by decide +kernel, rfl⟩
theorem dX8_readRule_86 : gw_dc cX8_readRule 86 (.invokevirtual 68) 3 89 := ⟨by decide +kernel, rfl⟩
theorem dX8_readRule_89 : gw_dc cX8_readRule 89 (.putfield 128) 3 92 := ⟨by decide +kernel, rfl⟩
theorem fk_RX8_128 : gw_fk RX8 128 0 2 3 0 false := ⟨_, _, _, ck_0, by decide, by decide, fun _ => rfl, fun h => absurd h (by decide), fun h => absurd h (by decide), rfl, Or.inr ⟨"LightestSack", gw_memN 217 (by decide +kernel) rfl⟩⟩
theorem dX8_readRule_92 : gw_dc cX8_readRule 92 (.goto 11) 3 95 := ⟨by decide +kernel, rfl⟩
theorem dX8_readRule_12 : gw_dc cX8_readRule 12 (.aload_n 0) 1 13 := ⟨by decide +kernel, rfl⟩
theorem dX8_readRule_13 : gw_dc cX8_readRule 13 (.invokevirtual 121) 3 16 := ⟨by decide +kernel, rfl⟩
theorem mv_RX8_121 : gw_mv RX8 121 yX8_readKey := ⟨gw_mem 976 (by decide +kernel) rfl, gw_mem 978 (by decide +kernel) rfl, gw_mem 16 (by decide +kernel) rfl⟩
theorem my_X8_readKey : gw_my yX8_readKey cX8_readKey 2 none 0 := ⟨gw_mem 979 (by decide +kernel) rfl, gw_mem 102 (by decide +kernel) rfl, by decide +kernel, by decide⟩
theorem dX8_readRule_16 : gw_dc cX8_readRule 16 (.iconst 0) 1 17 := ⟨by decide +kernel, rfl⟩
theorem dX8_readRule_17 : gw_dc cX8_readRule 17 (.istore_n 1) 1 18 := ⟨by decide +kernel, rfl⟩
theorem dX8_readRule_18 : gw_dc cX8_readRule 18 (.iload_n 1) 1 19 := ⟨by decide +kernel, rfl⟩
theorem dX8_readRule_19 : gw_dc cX8_readRule 19 (.sipush 900) 3 22 := ⟨by decide +kernel, rfl⟩
theorem dX8_readRule_22 : gw_dc cX8_readRule 22 (.if_icmp .ge 35) 3 25 := ⟨by decide +kernel, rfl⟩
theorem dX8_readRule_57 : gw_dc cX8_readRule 57 (.goto 46) 3 60 := ⟨by decide +kernel, rfl⟩
theorem dX8_readRule_25 : gw_dc cX8_readRule 25 (.aload_n 0) 1 26 := ⟨by decide +kernel, rfl⟩
theorem dX8_readRule_26 : gw_dc cX8_readRule 26 (.getfield 9) 3 29 := ⟨by decide +kernel, rfl⟩
theorem dX8_readRule_29 : gw_dc cX8_readRule 29 (.invokevirtual 30) 3 32 := ⟨by decide +kernel, rfl⟩
theorem mv_RX8_30 : gw_mv RX8 30 yX3_goesOn := ⟨gw_mem 846 (by decide +kernel) rfl, gw_mem 847 (by decide +kernel) rfl, gw_mem 848 (by decide +kernel) rfl⟩
theorem my_X3_goesOn : gw_my yX3_goesOn cX3_goesOn 1 (some .boolean) 0 := ⟨gw_mem 849 (by decide +kernel) rfl, gw_mem 97 (by decide +kernel) rfl, by decide +kernel, by decide⟩
theorem dX8_readRule_32 : gw_dc cX8_readRule 32 (.ifCond .eq 25) 3 35 := ⟨by decide +kernel, rfl⟩
theorem dX8_readRule_35 : gw_dc cX8_readRule 35 (.aload_n 0) 1 36 := ⟨by decide +kernel, rfl⟩
theorem dX8_readRule_36 : gw_dc cX8_readRule 36 (.getfield 9) 3 39 := ⟨by decide +kernel, rfl⟩
theorem dX8_readRule_39 : gw_dc cX8_readRule 39 (.ldc 124) 2 41 := ⟨by decide +kernel, rfl⟩
theorem dX8_readRule_41 : gw_dc cX8_readRule 41 (.invokevirtual 65) 3 44 := ⟨by decide +kernel, rfl⟩
theorem dX8_readRule_44 : gw_dc cX8_readRule 44 (.ifCond .eq 13) 3 47 := ⟨by decide +kernel, rfl⟩
theorem dX8_readRule_47 : gw_dc cX8_readRule 47 (.aload_n 0) 1 48 := ⟨by decide +kernel, rfl⟩
theorem dX8_readRule_48 : gw_dc cX8_readRule 48 (.invokevirtual 121) 3 51 := ⟨by decide +kernel, rfl⟩
theorem dX8_readRule_51 : gw_dc cX8_readRule 51 (.iinc 1 1) 3 54 := ⟨by decide +kernel, rfl⟩
theorem dX8_readRule_54 : gw_dc cX8_readRule 54 (.goto (-36)) 3 57 := ⟨by decide +kernel, rfl⟩
theorem dX8_readMill_0 : gw_dc cX8_readMill 0 (.aload_n 0) 1 1 := ⟨by decide +kernel, rfl⟩
theorem dX8_readMill_1 : gw_dc cX8_readMill 1 (.getfield 15) 3 4 := ⟨by decide +kernel, rfl⟩
theorem dX8_readMill_4 : gw_dc cX8_readMill 4 (.invokevirtual 19) 3 7 := ⟨by decide +kernel, rfl⟩
theorem mv_RX8_19 : gw_mv RX8 19 yX1_clear := ⟨gw_mem 824 (by decide +kernel) rfl, gw_mem 825 (by decide +kernel) rfl, gw_mem 826 (by decide +kernel) rfl⟩
theorem my_X1_clear : gw_my yX1_clear cX1_clear 1 none 0 := ⟨gw_mem 827 (by decide +kernel) rfl, gw_mem 98 (by decide +kernel) rfl, by decide +kernel, by decide⟩
theorem dX8_readMill_7 : gw_dc cX8_readMill 7 (.aload_n 0) 1 8 := ⟨by decide +kernel, rfl⟩
theorem dX8_readMill_8 : gw_dc cX8_readMill 8 (.getfield 9) 3 11 := ⟨by decide +kernel, rfl⟩
theorem dX8_readMill_11 : gw_dc cX8_readMill 11 (.iload_n 1) 1 12 := ⟨by decide +kernel, rfl⟩
theorem dX8_readMill_12 : gw_dc cX8_readMill 12 (.invokevirtual 24) 3 15 := ⟨by decide +kernel, rfl⟩
theorem mv_RX8_24 : gw_mv RX8 24 yX3_open := ⟨gw_mem 828 (by decide +kernel) rfl, gw_mem 829 (by decide +kernel) rfl, gw_mem 830 (by decide +kernel) rfl⟩
theorem my_X3_open : gw_my yX3_open cX3_open 2 none 1 := ⟨gw_mem 831 (by decide +kernel) rfl, gw_mem 97 (by decide +kernel) rfl, by decide +kernel, by decide⟩
theorem dX8_readMill_15 : gw_dc cX8_readMill 15 (.iconst 0) 1 16 := ⟨by decide +kernel, rfl⟩
theorem dX8_readMill_16 : gw_dc cX8_readMill 16 (.istore_n 2) 1 17 := ⟨by decide +kernel, rfl⟩
theorem dX8_readMill_17 : gw_dc cX8_readMill 17 (.iload_n 2) 1 18 := ⟨by decide +kernel, rfl⟩
theorem dX8_readMill_18 : gw_dc cX8_readMill 18 (.sipush 900) 3 21 := ⟨by decide +kernel, rfl⟩
theorem dX8_readMill_21 : gw_dc cX8_readMill 21 (.if_icmp .ge 36) 3 24 := ⟨by decide +kernel, rfl⟩
theorem dX8_readMill_57 : gw_dc cX8_readMill 57 (.aload_n 0) 1 58 := ⟨by decide +kernel, rfl⟩
theorem dX8_readMill_58 : gw_dc cX8_readMill 58 (.getfield 15) 3 61 := ⟨by decide +kernel, rfl⟩
theorem dX8_readMill_61 : gw_dc cX8_readMill 61 (.invokevirtual 41) 3 64 := ⟨by decide +kernel, rfl⟩
theorem mv_RX8_41 : gw_mv RX8 41 yX1_standAtLeastOneStone := ⟨gw_mem 951 (by decide +kernel) rfl, gw_mem 497 (by decide +kernel) rfl, gw_mem 498 (by decide +kernel) rfl⟩
theorem my_X1_standAtLeastOneStone : gw_my yX1_standAtLeastOneStone cX1_standAtLeastOneStone 1 none 0 := ⟨gw_mem 499 (by decide +kernel) rfl, gw_mem 98 (by decide +kernel) rfl, by decide +kernel, by decide⟩
theorem dX8_readMill_64 : decode cX8_readMill 64 = .ok (.return_, 1) := by decide +kernel
theorem dX8_readMill_24 : gw_dc cX8_readMill 24 (.aload_n 0) 1 25 := ⟨by decide +kernel, rfl⟩
theorem dX8_readMill_25 : gw_dc cX8_readMill 25 (.getfield 9) 3 28 := ⟨by decide +kernel, rfl⟩
theorem dX8_readMill_28 : gw_dc cX8_readMill 28 (.invokevirtual 30) 3 31 := ⟨by decide +kernel, rfl⟩
theorem dX8_readMill_31 : gw_dc cX8_readMill 31 (.ifCond .eq 26) 3 34 := ⟨by decide +kernel, rfl⟩
theorem dX8_readMill_34 : gw_dc cX8_readMill 34 (.aload_n 0) 1 35 := ⟨by decide +kernel, rfl⟩
theorem dX8_readMill_35 : gw_dc cX8_readMill 35 (.invokevirtual 34) 3 38 := ⟨by decide +kernel, rfl⟩
theorem mv_RX8_34 : gw_mv RX8 34 yX8_readLine := ⟨gw_mem 850 (by decide +kernel) rfl, gw_mem 852 (by decide +kernel) rfl, gw_mem 11 (by decide +kernel) rfl⟩
theorem my_X8_readLine : gw_my yX8_readLine cX8_readLine 1 none 0 := ⟨gw_mem 853 (by decide +kernel) rfl, gw_mem 102 (by decide +kernel) rfl, by decide +kernel, by decide⟩
theorem dX8_readMill_38 : gw_dc cX8_readMill 38 (.aload_n 0) 1 39 := ⟨by decide +kernel, rfl⟩
theorem dX8_readMill_39 : gw_dc cX8_readMill 39 (.getfield 15) 3 42 := ⟨by decide +kernel, rfl⟩
theorem dX8_readMill_42 : gw_dc cX8_readMill 42 (.dup) 1 43 := ⟨by decide +kernel, rfl⟩
theorem dX8_readMill_43 : gw_dc cX8_readMill 43 (.getfield 37) 3 46 := ⟨by decide +kernel, rfl⟩
theorem fk_RX8_37 : gw_fk RX8 37 1 1 16 0 false := ⟨_, _, _, ck_1, by decide, by decide, fun _ => rfl, fun h => absurd h (by decide), fun h => absurd h (by decide), rfl, Or.inr ⟨"LightestSack", gw_memN 234 (by decide +kernel) rfl⟩⟩
theorem dX8_readMill_46 : gw_dc cX8_readMill 46 (.iconst 1) 1 47 := ⟨by decide +kernel, rfl⟩
theorem dX8_readMill_47 : gw_dc cX8_readMill 47 (.iadd) 1 48 := ⟨by decide +kernel, rfl⟩
theorem dX8_readMill_48 : gw_dc cX8_readMill 48 (.putfield 37) 3 51 := ⟨by decide +kernel, rfl⟩
theorem dX8_readMill_51 : gw_dc cX8_readMill 51 (.iinc 2 1) 3 54 := ⟨by decide +kernel, rfl⟩
theorem dX8_readMill_54 : gw_dc cX8_readMill 54 (.goto (-37)) 3 57 := ⟨by decide +kernel, rfl⟩
theorem dX8_readLaw_0 : gw_dc cX8_readLaw 0 (.aload_n 0) 1 1 := ⟨by decide +kernel, rfl⟩
theorem dX8_readLaw_1 : gw_dc cX8_readLaw 1 (.getfield 15) 3 4 := ⟨by decide +kernel, rfl⟩
theorem dX8_readLaw_4 : gw_dc cX8_readLaw 4 (.getfield 44) 3 7 := ⟨by decide +kernel, rfl⟩
theorem dX8_readLaw_7 : gw_dc cX8_readLaw 7 (.invokevirtual 48) 3 10 := ⟨by decide +kernel, rfl⟩
theorem mv_RX8_48 : gw_mv RX8 48 yX0_clear := ⟨gw_mem 967 (by decide +kernel) rfl, gw_mem 968 (by decide +kernel) rfl, gw_mem 969 (by decide +kernel) rfl⟩
theorem my_X0_clear : gw_my yX0_clear cX0_clear 1 none 0 := ⟨gw_mem 970 (by decide +kernel) rfl, gw_mem 99 (by decide +kernel) rfl, by decide +kernel, by decide⟩
theorem dX8_readLaw_10 : gw_dc cX8_readLaw 10 (.aload_n 0) 1 11 := ⟨by decide +kernel, rfl⟩
theorem dX8_readLaw_11 : gw_dc cX8_readLaw 11 (.getfield 9) 3 14 := ⟨by decide +kernel, rfl⟩
theorem dX8_readLaw_14 : gw_dc cX8_readLaw 14 (.iload_n 1) 1 15 := ⟨by decide +kernel, rfl⟩
theorem dX8_readLaw_15 : gw_dc cX8_readLaw 15 (.invokevirtual 24) 3 18 := ⟨by decide +kernel, rfl⟩
theorem dX8_readLaw_18 : gw_dc cX8_readLaw 18 (.iconst 0) 1 19 := ⟨by decide +kernel, rfl⟩
theorem dX8_readLaw_19 : gw_dc cX8_readLaw 19 (.istore_n 2) 1 20 := ⟨by decide +kernel, rfl⟩
theorem dX8_readLaw_20 : gw_dc cX8_readLaw 20 (.iload_n 2) 1 21 := ⟨by decide +kernel, rfl⟩
theorem dX8_readLaw_21 : gw_dc cX8_readLaw 21 (.sipush 900) 3 24 := ⟨by decide +kernel, rfl⟩
theorem dX8_readLaw_24 : gw_dc cX8_readLaw 24 (.if_icmp .ge 23) 3 27 := ⟨by decide +kernel, rfl⟩
theorem dX8_readLaw_47 : decode cX8_readLaw 47 = .ok (.return_, 1) := by decide +kernel
theorem dX8_readLaw_27 : gw_dc cX8_readLaw 27 (.aload_n 0) 1 28 := ⟨by decide +kernel, rfl⟩
theorem dX8_readLaw_28 : gw_dc cX8_readLaw 28 (.getfield 9) 3 31 := ⟨by decide +kernel, rfl⟩
theorem dX8_readLaw_31 : gw_dc cX8_readLaw 31 (.invokevirtual 30) 3 34 := ⟨by decide +kernel, rfl⟩
theorem dX8_readLaw_34 : gw_dc cX8_readLaw 34 (.ifCond .eq 13) 3 37 := ⟨by decide +kernel, rfl⟩
theorem dX8_readLaw_37 : gw_dc cX8_readLaw 37 (.aload_n 0) 1 38 := ⟨by decide +kernel, rfl⟩
theorem dX8_readLaw_38 : gw_dc cX8_readLaw 38 (.invokevirtual 51) 3 41 := ⟨by decide +kernel, rfl⟩
theorem mv_RX8_51 : gw_mv RX8 51 yX8_readRule := ⟨gw_mem 971 (by decide +kernel) rfl, gw_mem 973 (by decide +kernel) rfl, gw_mem 15 (by decide +kernel) rfl⟩
theorem my_X8_readRule : gw_my yX8_readRule cX8_readRule 2 none 0 := ⟨gw_mem 974 (by decide +kernel) rfl, gw_mem 102 (by decide +kernel) rfl, by decide +kernel, by decide⟩
theorem dX8_readLaw_41 : gw_dc cX8_readLaw 41 (.iinc 2 1) 3 44 := ⟨by decide +kernel, rfl⟩
theorem dX8_readLaw_44 : gw_dc cX8_readLaw 44 (.goto (-24)) 3 47 := ⟨by decide +kernel, rfl⟩
/-! Texts (73: reader 3, mill 51, its law 52) -/
theorem gw_cgt {X : Cx} {F : Fr} {G : Gl} {Z : State → Prop} {kc ks : Nat} {M : Mem} {σ σ' : Sg} {pc : Nat} {ls : List (Option AV)} {st : List AV} {v v' : Int} (e : σ = σ') (ev : v = v') (k : gw_W X F G Z kc ks M σ' pc ls (vI v' :: st)) : gw_W X F G Z kc ks M σ pc ls (vI v :: st) := by rw [e, ev]; exact k
def kHere (σ : Sg) : Int := if rSp σ 12 ≠ 0 then 0 else if rSp σ 13 ≠ 0 then 1 else if rSp σ 14 ≠ 0 then 2 else if rSp σ 15 ≠ 0 then 3 else if rSp σ 16 ≠ 0 then 4 else if rSp σ 17 ≠ 0 then 5 else if rSp σ 18 ≠ 0 then 6 else if rSp σ 19 ≠ 0 then 7 else -1
def tKey (σ : Sg) : Sg := if kHere σ = -1 then rFail σ 2 else if 8 ≤ σ 52 1 then rFail σ 4 else advF (lAdd σ 52 (kHere σ))
def tStone (σ : Sg) : Sg := if 3 ≤ σ 51 2 then rFail σ 4 else mStone (rNum (advF σ) 1 9).2 51 (rNum (advF σ) 1 9).1
def rOpt (σ : Sg) (j : Nat) (lo hi df : Int) : Int × Sg := if rSp σ j = 0 then (df, rTak σ j) else rNum (rTak σ j) lo hi
def sk1 (σ : Sg) : Int × Sg := rNum (advF σ) 1 99
def sk2 (σ : Sg) : Int × Sg := rNum (rExp (sk1 σ).2 4) 0 7
def sk3 (σ : Sg) : Int × Sg := rNum (rExp (sk2 σ).2 5) 0 600
def sk4 (σ : Sg) : Int × Sg := rOpt (sk3 σ).2 6 0 3 0
def sk5 (σ : Sg) : Int × Sg := rOpt (sk4 σ).2 7 1 9 1
def sk6 (σ : Sg) : Int × Sg := rOpt (sk5 σ).2 8 0 999 (-1)
def tSack (σ : Sg) : Sg := if 24 ≤ σ 51 5 then rFail σ 4 else mSack (sk6 σ).2 51 (sk1 σ).1 (sk2 σ).1 (sk3 σ).1 (sk4 σ).1 (sk5 σ).1 (sk6 σ).1
def tLine (σ : Sg) : Sg := rEnd (
  if rSp σ 0 ≠ 0 then tStone σ
  else if rSp σ 1 ≠ 0 then su (rNum (rTak σ 1) 0 60).2 51 3 (rNum (rTak σ 1) 0 60).1
  else if rSp (rTak σ 1) 2 ≠ 0 then su (rNum (rTak (rTak σ 1) 2) 0 99).2 51 4 (rNum (rTak (rTak σ 1) 2) 0 99).1
  else if rSp (rTak (rTak σ 1) 2) 3 ≠ 0 then tSack (rTak (rTak σ 1) 2)
  else rFail (rTak (rTak σ 1) 2) 2)
def tMillS (x : Sg) : Sg := su (tLine x) 51 1 (wr (tLine x 51 1 + 1))
def tMillL : Nat → Sg → Sg
  | 0, x => x
  | n + 1, x => if rGo x = 0 then x else tMillL n (tMillS x)
def tMill (σ : Sg) (n : Int) : Sg := mStand (tMillL 900 (rOpen (mClear σ 51) n)) 51
def tThen : Nat → Sg → Sg
  | 0, x => x
  | n + 1, x => if rGo x = 0 then x else if rSp x 10 = 0 then rTak x 10 else tThen n (tKey (rTak x 10))
def tRule (σ : Sg) : Sg := rEnd (
  if rSp σ 9 ≠ 0 then tThen 900 (tKey (rTak σ 9))
  else if rSp (rTak σ 9) 11 ≠ 0 then su (rNum (rTak (rTak σ 9) 11) 0 99).2 52 2 (rNum (rTak (rTak σ 9) 11) 0 99).1
  else rFail (rTak (rTak σ 9) 11) 2)
def tLawL : Nat → Sg → Sg
  | 0, x => x
  | n + 1, x => if rGo x = 0 then x else tLawL n (tRule x)
def tLaw (σ : Sg) (n : Int) : Sg := tLawL 900 (rOpen (su (su σ 52 1 0) 52 2 0) n)
theorem tMillL_a {x : Sg} (h : rGo x = 0) (n : Nat) : tMillL n x = x := by cases n; rfl; rw [tMillL, if_pos h]
theorem tMillL_b {x : Sg} (h : rGo x ≠ 0) {n : Nat} (hn : 0 < n) : tMillL n x = tMillL (n - 1) (tMillS x) := by
  obtain ⟨k, rfl⟩ : ∃ k, n = k + 1 := ⟨n - 1, by omega⟩
  rw [tMillL, if_neg h]; rfl
theorem tLawL_a {x : Sg} (h : rGo x = 0) (n : Nat) : tLawL n x = x := by cases n; rfl; rw [tLawL, if_pos h]
theorem tLawL_b {x : Sg} (h : rGo x ≠ 0) {n : Nat} (hn : 0 < n) : tLawL n x = tLawL (n - 1) (tRule x) := by
  obtain ⟨k, rfl⟩ : ∃ k, n = k + 1 := ⟨n - 1, by omega⟩
  rw [tLawL, if_neg h]; rfl
theorem tThen_a {x : Sg} (h : rGo x = 0) (n : Nat) : tThen n x = x := by cases n; rfl; rw [tThen, if_pos h]
theorem tThen_b {x : Sg} (h : rGo x ≠ 0) (h2 : rSp x 10 = 0) {n : Nat} (hn : 0 < n) : tThen n x = rTak x 10 := by
  obtain ⟨k, rfl⟩ : ∃ k, n = k + 1 := ⟨n - 1, by omega⟩
  rw [tThen, if_neg h, if_pos h2]
theorem tThen_c {x : Sg} (h : rGo x ≠ 0) (h2 : rSp x 10 ≠ 0) {n : Nat} (hn : 0 < n) : tThen n x = tThen (n - 1) (tKey (rTak x 10)) := by
  obtain ⟨k, rfl⟩ : ∃ k, n = k + 1 := ⟨n - 1, by omega⟩
  rw [tThen, if_neg h, if_neg h2]; rfl
set_option maxRecDepth 4000 in
theorem s_X8_keyHere (ad : Nat → Nat) (σ : Sg)  : gw_Sp yX8_keyHere cX8_keyHere 1 (some .int) 6 0 0 [vR (some 73)] (gw_M0 ad) σ (gw_D (some (vI (kHere σ))) (gw_M0 ad) (σ)) gw_no := by
  refine gw_Sp.of [some (vR (some 73))] (by decide +kernel) rfl (Nat.le_of_ble_eq_true rfl) ?_
  intro X G fx het hnm
  refine g_aload_n fx dX8_keyHere_0 rfl ?_
  refine g_getr fx dX8_keyHere_1 fk_RX8_9 o_73 rf_73_0 ?_
  refine g_ldcS fx dX8_keyHere_4 (by decide +kernel : (RX8, 140, "light", 12) ∈ gw_strT) ?_
  refine g_callVD fx dX8_keyHere_6 mv_RX8_56 my_X3_spells (s_X3_spells ad _ 12 (by decide)) o_3 rfl rfl rfl (Nat.le_of_ble_eq_true rfl) (by decide) (by decide) ?_
  refine g_if_eq (tgt := 14) fx dX8_keyHere_9 (by decide) (fun h9 => ?_) (fun h9 => ?_)
  · refine g_aload_n fx dX8_keyHere_14 rfl ?_
    refine g_getr fx dX8_keyHere_15 fk_RX8_9 o_73 rf_73_0 ?_
    refine g_ldcS fx dX8_keyHere_18 (by decide +kernel : (RX8, 142, "heavy", 13) ∈ gw_strT) ?_
    refine g_callVD fx dX8_keyHere_20 mv_RX8_56 my_X3_spells (s_X3_spells ad _ 13 (by decide)) o_3 rfl rfl rfl (Nat.le_of_ble_eq_true rfl) (by decide) (by decide) ?_
    refine g_if_eq (tgt := 28) fx dX8_keyHere_23 (by decide) (fun h23 => ?_) (fun h23 => ?_)
    · refine g_aload_n fx dX8_keyHere_28 rfl ?_
      refine g_getr fx dX8_keyHere_29 fk_RX8_9 o_73 rf_73_0 ?_
      refine g_ldcS fx dX8_keyHere_32 (by decide +kernel : (RX8, 144, "early", 14) ∈ gw_strT) ?_
      refine g_callVD fx dX8_keyHere_34 mv_RX8_56 my_X3_spells (s_X3_spells ad _ 14 (by decide)) o_3 rfl rfl rfl (Nat.le_of_ble_eq_true rfl) (by decide) (by decide) ?_
      refine g_if_eq (tgt := 42) fx dX8_keyHere_37 (by decide) (fun h37 => ?_) (fun h37 => ?_)
      · refine g_aload_n fx dX8_keyHere_42 rfl ?_
        refine g_getr fx dX8_keyHere_43 fk_RX8_9 o_73 rf_73_0 ?_
        refine g_ldcS fx dX8_keyHere_46 (by decide +kernel : (RX8, 146, "late", 15) ∈ gw_strT) ?_
        refine g_callVD fx dX8_keyHere_48 mv_RX8_56 my_X3_spells (s_X3_spells ad _ 15 (by decide)) o_3 rfl rfl rfl (Nat.le_of_ble_eq_true rfl) (by decide) (by decide) ?_
        refine g_if_eq (tgt := 56) fx dX8_keyHere_51 (by decide) (fun h51 => ?_) (fun h51 => ?_)
        · refine g_aload_n fx dX8_keyHere_56 rfl ?_
          refine g_getr fx dX8_keyHere_57 fk_RX8_9 o_73 rf_73_0 ?_
          refine g_ldcS fx dX8_keyHere_60 (by decide +kernel : (RX8, 148, "dear", 16) ∈ gw_strT) ?_
          refine g_callVD fx dX8_keyHere_62 mv_RX8_56 my_X3_spells (s_X3_spells ad _ 16 (by decide)) o_3 rfl rfl rfl (Nat.le_of_ble_eq_true rfl) (by decide) (by decide) ?_
          refine g_if_eq (tgt := 70) fx dX8_keyHere_65 (by decide) (fun h65 => ?_) (fun h65 => ?_)
          · refine g_aload_n fx dX8_keyHere_70 rfl ?_
            refine g_getr fx dX8_keyHere_71 fk_RX8_9 o_73 rf_73_0 ?_
            refine g_ldcS fx dX8_keyHere_74 (by decide +kernel : (RX8, 150, "due", 17) ∈ gw_strT) ?_
            refine g_callVD fx dX8_keyHere_76 mv_RX8_56 my_X3_spells (s_X3_spells ad _ 17 (by decide)) o_3 rfl rfl rfl (Nat.le_of_ble_eq_true rfl) (by decide) (by decide) ?_
            refine g_if_eq (tgt := 84) fx dX8_keyHere_79 (by decide) (fun h79 => ?_) (fun h79 => ?_)
            · refine g_aload_n fx dX8_keyHere_84 rfl ?_
              refine g_getr fx dX8_keyHere_85 fk_RX8_9 o_73 rf_73_0 ?_
              refine g_ldcS fx dX8_keyHere_88 (by decide +kernel : (RX8, 152, "turn", 18) ∈ gw_strT) ?_
              refine g_callVD fx dX8_keyHere_90 mv_RX8_56 my_X3_spells (s_X3_spells ad _ 18 (by decide)) o_3 rfl rfl rfl (Nat.le_of_ble_eq_true rfl) (by decide) (by decide) ?_
              refine g_if_eq (tgt := 99) fx dX8_keyHere_93 (by decide) (fun h93 => ?_) (fun h93 => ?_)
              · refine g_aload_n fx dX8_keyHere_99 rfl ?_
                refine g_getr fx dX8_keyHere_100 fk_RX8_9 o_73 rf_73_0 ?_
                refine g_ldcS fx dX8_keyHere_103 (by decide +kernel : (RX8, 154, "same", 19) ∈ gw_strT) ?_
                refine g_callVD fx dX8_keyHere_105 mv_RX8_56 my_X3_spells (s_X3_spells ad _ 19 (by decide)) o_3 rfl rfl rfl (Nat.le_of_ble_eq_true rfl) (by decide) (by decide) ?_
                refine g_if_eq (tgt := 116) fx dX8_keyHere_108 (by decide) (fun h108 => ?_) (fun h108 => ?_)
                · refine g_iconst fx dX8_keyHere_116 (by unfold okI; omega) ?_
                  exact g_iret fx rfl dX8_keyHere_117 (by decide) (by decide) (gw_le.rf _) ⟨by rw [kHere]; (repeat first | rw [if_pos (by omega)] | rw [if_neg (by omega)]) <;> rfl, rfl, rfl⟩
                · refine g_bipush fx dX8_keyHere_111 (by decide) ?_
                  refine g_goto (tgt := 117) fx dX8_keyHere_113 (by decide) ?_
                  exact g_iret fx rfl dX8_keyHere_117 (by decide) (by decide) (gw_le.rf _) ⟨by rw [kHere]; (repeat first | rw [if_pos (by omega)] | rw [if_neg (by omega)]) <;> rfl, rfl, rfl⟩
              · refine g_bipush fx dX8_keyHere_96 (by decide) ?_
                exact g_iret fx rfl dX8_keyHere_98 (by decide) (by decide) (gw_le.rf _) ⟨by rw [kHere]; (repeat first | rw [if_pos (by omega)] | rw [if_neg (by omega)]) <;> rfl, rfl, rfl⟩
            · refine g_iconst fx dX8_keyHere_82 (by unfold okI; omega) ?_
              exact g_iret fx rfl dX8_keyHere_83 (by decide) (by decide) (gw_le.rf _) ⟨by rw [kHere]; (repeat first | rw [if_pos (by omega)] | rw [if_neg (by omega)]) <;> rfl, rfl, rfl⟩
          · refine g_iconst fx dX8_keyHere_68 (by unfold okI; omega) ?_
            exact g_iret fx rfl dX8_keyHere_69 (by decide) (by decide) (gw_le.rf _) ⟨by rw [kHere]; (repeat first | rw [if_pos (by omega)] | rw [if_neg (by omega)]) <;> rfl, rfl, rfl⟩
        · refine g_iconst fx dX8_keyHere_54 (by unfold okI; omega) ?_
          exact g_iret fx rfl dX8_keyHere_55 (by decide) (by decide) (gw_le.rf _) ⟨by rw [kHere]; (repeat first | rw [if_pos (by omega)] | rw [if_neg (by omega)]) <;> rfl, rfl, rfl⟩
      · refine g_iconst fx dX8_keyHere_40 (by unfold okI; omega) ?_
        exact g_iret fx rfl dX8_keyHere_41 (by decide) (by decide) (gw_le.rf _) ⟨by rw [kHere]; (repeat first | rw [if_pos (by omega)] | rw [if_neg (by omega)]) <;> rfl, rfl, rfl⟩
    · refine g_iconst fx dX8_keyHere_26 (by unfold okI; omega) ?_
      exact g_iret fx rfl dX8_keyHere_27 (by decide) (by decide) (gw_le.rf _) ⟨by rw [kHere]; (repeat first | rw [if_pos (by omega)] | rw [if_neg (by omega)]) <;> rfl, rfl, rfl⟩
  · refine g_iconst fx dX8_keyHere_12 (by unfold okI; omega) ?_
    exact g_iret fx rfl dX8_keyHere_13 (by decide) (by decide) (gw_le.rf _) ⟨by rw [kHere]; (repeat first | rw [if_pos (by omega)] | rw [if_neg (by omega)]) <;> rfl, rfl, rfl⟩
set_option maxRecDepth 4000 in
theorem s_X8_readKey (ad : Nat → Nat) (σ : Sg)  : gw_Sp yX8_readKey cX8_readKey 2 none 7 0 0 [vR (some 73)] (gw_M0 ad) σ (gw_D none (gw_M0 ad) (tKey σ)) gw_no := by
  refine gw_Sp.of [some (vR (some 73)), none] (by decide +kernel) rfl (Nat.le_of_ble_eq_true rfl) ?_
  intro X G fx het hnm
  refine g_aload_n fx dX8_readKey_0 rfl ?_
  refine g_callVD fx dX8_readKey_1 mv_RX8_130 my_X8_keyHere (s_X8_keyHere ad _ ) o_73 rfl rfl rfl (Nat.le_of_ble_eq_true rfl) (by decide) (by decide) ?_
  refine g_istore_n fx dX8_readKey_4 (by decide) rfl rfl ?_
  refine g_iload_n fx dX8_readKey_5 rfl ?_
  refine g_iconst fx dX8_readKey_6 (by unfold okI; omega) ?_
  refine g_icmp_ne (tgt := 21) fx dX8_readKey_7 (by decide) (fun h7 => ?_) (fun h7 => ?_)
  · refine g_aload_n fx dX8_readKey_21 rfl ?_
    refine g_getr fx dX8_readKey_22 fk_RX8_15 o_73 rf_73_1 ?_
    refine g_getr fx dX8_readKey_25 fk_RX8_44 (mill_O in_51) rf_51_0 ?_
    refine g_geti fx dX8_readKey_28 fk_RX8_134 (by decide) (law_O in_52) ?_
    refine g_bipush fx dX8_readKey_31 (by decide) ?_
    refine g_icmp_lt (tgt := 47) fx dX8_readKey_33 (by decide) (fun h33 => ?_) (fun h33 => ?_)
    · refine g_aload_n fx dX8_readKey_47 rfl ?_
      refine g_getr fx dX8_readKey_48 fk_RX8_15 o_73 rf_73_1 ?_
      refine g_getr fx dX8_readKey_51 fk_RX8_44 (mill_O in_51) rf_51_0 ?_
      refine g_iload_n fx dX8_readKey_54 rfl ?_
      refine g_callVD0 fx dX8_readKey_55 mv_RX8_137 my_X0_add (s_X0_add ad _ in_52 _) (law_O in_52) rfl rfl rfl (Nat.le_of_ble_eq_true rfl) (by decide) (by decide) ?_
      refine g_aload_n fx dX8_readKey_58 rfl ?_
      refine g_getr fx dX8_readKey_59 fk_RX8_9 o_73 rf_73_0 ?_
      refine g_callVD0 fx dX8_readKey_62 mv_RX8_92 my_X3_advance (s_X3_advance ad _ ) o_3 rfl rfl rfl (Nat.le_of_ble_eq_true rfl) (by decide) (by decide) ?_
      exact g_vret fx rfl dX8_readKey_65 (by decide) (by decide) (gw_le.rf _) ⟨rfl, rfl, by rw [tKey]; (repeat first | rw [if_pos (by omega)] | rw [if_neg (by omega)]) <;> rfl⟩
    · refine g_aload_n fx dX8_readKey_36 rfl ?_
      refine g_getr fx dX8_readKey_37 fk_RX8_9 o_73 rf_73_0 ?_
      refine g_iconst fx dX8_readKey_40 (by unfold okI; omega) ?_
      refine g_callVD0 fx dX8_readKey_41 mv_RX8_83 my_X3_fail (s_X3_fail ad _ _) o_3 rfl rfl rfl (Nat.le_of_ble_eq_true rfl) (by decide) (by decide) ?_
      refine g_goto (tgt := 65) fx dX8_readKey_44 (by decide) ?_
      exact g_vret fx rfl dX8_readKey_65 (by decide) (by decide) (gw_le.rf _) ⟨rfl, rfl, by rw [tKey]; (repeat first | rw [if_pos (by omega)] | rw [if_neg (by omega)]) <;> rfl⟩
  · refine g_aload_n fx dX8_readKey_10 rfl ?_
    refine g_getr fx dX8_readKey_11 fk_RX8_9 o_73 rf_73_0 ?_
    refine g_iconst fx dX8_readKey_14 (by unfold okI; omega) ?_
    refine g_callVD0 fx dX8_readKey_15 mv_RX8_83 my_X3_fail (s_X3_fail ad _ _) o_3 rfl rfl rfl (Nat.le_of_ble_eq_true rfl) (by decide) (by decide) ?_
    refine g_goto (tgt := 65) fx dX8_readKey_18 (by decide) ?_
    exact g_vret fx rfl dX8_readKey_65 (by decide) (by decide) (gw_le.rf _) ⟨rfl, rfl, by rw [tKey]; (repeat first | rw [if_pos (by omega)] | rw [if_neg (by omega)]) <;> rfl⟩
set_option maxRecDepth 4000 in
theorem s_X8_readStone (ad : Nat → Nat) (σ : Sg)  : gw_Sp yX8_readStone cX8_readStone 1 none 4 0 0 [vR (some 73)] (gw_M0 ad) σ (gw_D none (gw_M0 ad) (tStone σ)) gw_no := by
  refine gw_Sp.of [some (vR (some 73))] (by decide +kernel) rfl (Nat.le_of_ble_eq_true rfl) ?_
  intro X G fx het hnm
  refine g_aload_n fx dX8_readStone_0 rfl ?_
  refine g_getr fx dX8_readStone_1 fk_RX8_15 o_73 rf_73_1 ?_
  refine g_geti fx dX8_readStone_4 fk_RX8_89 (by decide) (mill_O in_51) ?_
  refine g_iconst fx dX8_readStone_7 (by unfold okI; omega) ?_
  refine g_icmp_lt (tgt := 20) fx dX8_readStone_8 (by decide) (fun h8 => ?_) (fun h8 => ?_)
  · refine g_aload_n fx dX8_readStone_20 rfl ?_
    refine g_getr fx dX8_readStone_21 fk_RX8_9 o_73 rf_73_0 ?_
    refine g_callVD0 fx dX8_readStone_24 mv_RX8_92 my_X3_advance (s_X3_advance ad _ ) o_3 rfl rfl rfl (Nat.le_of_ble_eq_true rfl) (by decide) (by decide) ?_
    refine g_aload_n fx dX8_readStone_27 rfl ?_
    refine g_getr fx dX8_readStone_28 fk_RX8_15 o_73 rf_73_1 ?_
    refine g_aload_n fx dX8_readStone_31 rfl ?_
    refine g_getr fx dX8_readStone_32 fk_RX8_9 o_73 rf_73_0 ?_
    refine g_iconst fx dX8_readStone_35 (by unfold okI; omega) ?_
    refine g_bipush fx dX8_readStone_36 (by decide) ?_
    refine g_callVD fx dX8_readStone_38 mv_RX8_68 my_X3_number (s_X3_number ad _ _ _) o_3 rfl rfl rfl (Nat.le_of_ble_eq_true rfl) (by decide) (by decide) ?_
    refine g_callVD0 fx dX8_readStone_41 mv_RX8_95 my_X1_addStone (s_X1_addStone ad _ in_51 _) (mill_O in_51) rfl rfl rfl (Nat.le_of_ble_eq_true rfl) (by decide) (by decide) ?_
    exact g_vret fx rfl dX8_readStone_44 (by decide) (by decide) (gw_le.rf _) ⟨rfl, rfl, by rw [tStone]; (repeat first | rw [if_pos (by omega)] | rw [if_neg (by omega)]) <;> rfl⟩
  · refine g_aload_n fx dX8_readStone_11 rfl ?_
    refine g_getr fx dX8_readStone_12 fk_RX8_9 o_73 rf_73_0 ?_
    refine g_iconst fx dX8_readStone_15 (by unfold okI; omega) ?_
    refine g_callVD0 fx dX8_readStone_16 mv_RX8_83 my_X3_fail (s_X3_fail ad _ _) o_3 rfl rfl rfl (Nat.le_of_ble_eq_true rfl) (by decide) (by decide) ?_
    exact g_vret fx rfl dX8_readStone_19 (by decide) (by decide) (gw_le.rf _) ⟨rfl, rfl, by rw [tStone]; (repeat first | rw [if_pos (by omega)] | rw [if_neg (by omega)]) <;> rfl⟩
set_option maxRecDepth 4000 in
theorem s_X8_readSack (ad : Nat → Nat) (σ : Sg)  : gw_Sp yX8_readSack cX8_readSack 7 none 7 0 0 [vR (some 73)] (gw_M0 ad) σ (gw_D none (gw_M0 ad) (tSack σ)) gw_no := by
  refine gw_Sp.of [some (vR (some 73)), none, none, none, none, none, none] (by decide +kernel) rfl (Nat.le_of_ble_eq_true rfl) ?_
  intro X G fx het hnm
  refine g_aload_n fx dX8_readSack_0 rfl ?_
  refine g_getr fx dX8_readSack_1 fk_RX8_15 o_73 rf_73_1 ?_
  refine g_geti fx dX8_readSack_4 fk_RX8_98 (by decide) (mill_O in_51) ?_
  refine g_bipush fx dX8_readSack_7 (by decide) ?_
  refine g_icmp_lt (tgt := 21) fx dX8_readSack_9 (by decide) (fun h9 => ?_) (fun h9 => ?_)
  · refine g_aload_n fx dX8_readSack_21 rfl ?_
    refine g_getr fx dX8_readSack_22 fk_RX8_9 o_73 rf_73_0 ?_
    refine g_callVD0 fx dX8_readSack_25 mv_RX8_92 my_X3_advance (s_X3_advance ad _ ) o_3 rfl rfl rfl (Nat.le_of_ble_eq_true rfl) (by decide) (by decide) ?_
    refine g_aload_n fx dX8_readSack_28 rfl ?_
    refine g_getr fx dX8_readSack_29 fk_RX8_9 o_73 rf_73_0 ?_
    refine g_iconst fx dX8_readSack_32 (by unfold okI; omega) ?_
    refine g_bipush fx dX8_readSack_33 (by decide) ?_
    refine g_callVD fx dX8_readSack_35 mv_RX8_68 my_X3_number (s_X3_number ad _ _ _) o_3 rfl rfl rfl (Nat.le_of_ble_eq_true rfl) (by decide) (by decide) ?_
    refine gw_cgt (σ' := (sk1 σ).2) (v' := (sk1 σ).1) rfl rfl ?_
    refine g_istore_n fx dX8_readSack_38 (by decide) rfl rfl ?_
    refine g_aload_n fx dX8_readSack_39 rfl ?_
    refine g_getr fx dX8_readSack_40 fk_RX8_9 o_73 rf_73_0 ?_
    refine g_ldcS fx dX8_readSack_43 (by decide +kernel : (RX8, 101, "of", 4) ∈ gw_strT) ?_
    refine g_callVD0 fx dX8_readSack_45 mv_RX8_103 my_X3_expect (s_X3_expect ad _ 4 (by decide)) o_3 rfl rfl rfl (Nat.le_of_ble_eq_true rfl) (by decide) (by decide) ?_
    refine g_aload_n fx dX8_readSack_48 rfl ?_
    refine g_getr fx dX8_readSack_49 fk_RX8_9 o_73 rf_73_0 ?_
    refine g_iconst fx dX8_readSack_52 (by unfold okI; omega) ?_
    refine g_bipush fx dX8_readSack_53 (by decide) ?_
    refine g_callVD fx dX8_readSack_55 mv_RX8_68 my_X3_number (s_X3_number ad _ _ _) o_3 rfl rfl rfl (Nat.le_of_ble_eq_true rfl) (by decide) (by decide) ?_
    refine gw_cgt (σ' := (sk2 σ).2) (v' := (sk2 σ).1) rfl rfl ?_
    refine g_istore_n fx dX8_readSack_58 (by decide) rfl rfl ?_
    refine g_aload_n fx dX8_readSack_59 rfl ?_
    refine g_getr fx dX8_readSack_60 fk_RX8_9 o_73 rf_73_0 ?_
    refine g_ldcS fx dX8_readSack_63 (by decide +kernel : (RX8, 107, "at", 5) ∈ gw_strT) ?_
    refine g_callVD0 fx dX8_readSack_65 mv_RX8_103 my_X3_expect (s_X3_expect ad _ 5 (by decide)) o_3 rfl rfl rfl (Nat.le_of_ble_eq_true rfl) (by decide) (by decide) ?_
    refine g_aload_n fx dX8_readSack_68 rfl ?_
    refine g_getr fx dX8_readSack_69 fk_RX8_9 o_73 rf_73_0 ?_
    refine g_iconst fx dX8_readSack_72 (by unfold okI; omega) ?_
    refine g_sipush fx dX8_readSack_73 (by decide) ?_
    refine g_callVD fx dX8_readSack_76 mv_RX8_68 my_X3_number (s_X3_number ad _ _ _) o_3 rfl rfl rfl (Nat.le_of_ble_eq_true rfl) (by decide) (by decide) ?_
    refine gw_cgt (σ' := (sk3 σ).2) (v' := (sk3 σ).1) rfl rfl ?_
    refine g_istore_n fx dX8_readSack_79 (by decide) rfl rfl ?_
    refine g_aload_n fx dX8_readSack_80 rfl ?_
    refine g_getr fx dX8_readSack_81 fk_RX8_9 o_73 rf_73_0 ?_
    refine g_ldcS fx dX8_readSack_84 (by decide +kernel : (RX8, 109, "sort", 6) ∈ gw_strT) ?_
    refine g_callVD fx dX8_readSack_86 mv_RX8_65 my_X3_takes (s_X3_takes ad _ 6 (by decide)) o_3 rfl rfl rfl (Nat.le_of_ble_eq_true rfl) (by decide) (by decide) ?_
    refine g_if_eq (tgt := 104) fx dX8_readSack_89 (by decide) (fun h89 => ?_) (fun h89 => ?_)
    · refine g_iconst fx dX8_readSack_104 (by unfold okI; omega) ?_
      refine gw_cgt (σ' := (sk4 σ).2) (v' := (sk4 σ).1) (by rw [sk4, rOpt]; first | rw [if_pos (by assumption)] | rw [if_neg (by assumption)]; try rfl) (by rw [sk4, rOpt]; first | rw [if_pos (by assumption)] | rw [if_neg (by assumption)]; try rfl) ?_
      refine g_istore fx dX8_readSack_105 (by decide) rfl rfl ?_
      refine g_aload_n fx dX8_readSack_107 rfl ?_
      refine g_getr fx dX8_readSack_108 fk_RX8_9 o_73 rf_73_0 ?_
      refine g_ldcS fx dX8_readSack_111 (by decide +kernel : (RX8, 111, "worth", 7) ∈ gw_strT) ?_
      refine g_callVD fx dX8_readSack_113 mv_RX8_65 my_X3_takes (s_X3_takes ad _ 7 (by decide)) o_3 rfl rfl rfl (Nat.le_of_ble_eq_true rfl) (by decide) (by decide) ?_
      refine g_if_eq (tgt := 132) fx dX8_readSack_116 (by decide) (fun h116 => ?_) (fun h116 => ?_)
      · refine g_iconst fx dX8_readSack_132 (by unfold okI; omega) ?_
        refine gw_cgt (σ' := (sk5 σ).2) (v' := (sk5 σ).1) (by rw [sk5, rOpt]; first | rw [if_pos (by assumption)] | rw [if_neg (by assumption)]; try rfl) (by rw [sk5, rOpt]; first | rw [if_pos (by assumption)] | rw [if_neg (by assumption)]; try rfl) ?_
        refine g_istore fx dX8_readSack_133 (by decide) rfl rfl ?_
        refine g_aload_n fx dX8_readSack_135 rfl ?_
        refine g_getr fx dX8_readSack_136 fk_RX8_9 o_73 rf_73_0 ?_
        refine g_ldcS fx dX8_readSack_139 (by decide +kernel : (RX8, 113, "home", 8) ∈ gw_strT) ?_
        refine g_callVD fx dX8_readSack_141 mv_RX8_65 my_X3_takes (s_X3_takes ad _ 8 (by decide)) o_3 rfl rfl rfl (Nat.le_of_ble_eq_true rfl) (by decide) (by decide) ?_
        refine g_if_eq (tgt := 161) fx dX8_readSack_144 (by decide) (fun h144 => ?_) (fun h144 => ?_)
        · refine g_iconst fx dX8_readSack_161 (by unfold okI; omega) ?_
          refine gw_cgt (σ' := (sk6 σ).2) (v' := (sk6 σ).1) (by rw [sk6, rOpt]; first | rw [if_pos (by assumption)] | rw [if_neg (by assumption)]; try rfl) (by rw [sk6, rOpt]; first | rw [if_pos (by assumption)] | rw [if_neg (by assumption)]; try rfl) ?_
          refine g_istore fx dX8_readSack_162 (by decide) rfl rfl ?_
          refine g_aload_n fx dX8_readSack_164 rfl ?_
          refine g_getr fx dX8_readSack_165 fk_RX8_15 o_73 rf_73_1 ?_
          refine g_iload_n fx dX8_readSack_168 rfl ?_
          refine g_iload_n fx dX8_readSack_169 rfl ?_
          refine g_iload_n fx dX8_readSack_170 rfl ?_
          refine g_iload fx dX8_readSack_171 rfl ?_
          refine g_iload fx dX8_readSack_173 rfl ?_
          refine g_iload fx dX8_readSack_175 rfl ?_
          refine g_callVD0 fx dX8_readSack_177 mv_RX8_115 my_X1_addSack (s_X1_addSack ad _ in_51 _ _ _ _ _ _) (mill_O in_51) rfl rfl rfl (Nat.le_of_ble_eq_true rfl) (by decide) (by decide) ?_
          exact g_vret fx rfl dX8_readSack_180 (by decide) (by decide) (gw_le.rf _) ⟨rfl, rfl, by rw [tSack]; (repeat first | rw [if_pos (by omega)] | rw [if_neg (by omega)]) <;> rfl⟩
        · refine g_aload_n fx dX8_readSack_147 rfl ?_
          refine g_getr fx dX8_readSack_148 fk_RX8_9 o_73 rf_73_0 ?_
          refine g_iconst fx dX8_readSack_151 (by unfold okI; omega) ?_
          refine g_sipush fx dX8_readSack_152 (by decide) ?_
          refine g_callVD fx dX8_readSack_155 mv_RX8_68 my_X3_number (s_X3_number ad _ _ _) o_3 rfl rfl rfl (Nat.le_of_ble_eq_true rfl) (by decide) (by decide) ?_
          refine g_goto (tgt := 162) fx dX8_readSack_158 (by decide) ?_
          refine gw_cgt (σ' := (sk6 σ).2) (v' := (sk6 σ).1) (by rw [sk6, rOpt]; first | rw [if_pos (by assumption)] | rw [if_neg (by assumption)]; try rfl) (by rw [sk6, rOpt]; first | rw [if_pos (by assumption)] | rw [if_neg (by assumption)]; try rfl) ?_
          refine g_istore fx dX8_readSack_162 (by decide) rfl rfl ?_
          refine g_aload_n fx dX8_readSack_164 rfl ?_
          refine g_getr fx dX8_readSack_165 fk_RX8_15 o_73 rf_73_1 ?_
          refine g_iload_n fx dX8_readSack_168 rfl ?_
          refine g_iload_n fx dX8_readSack_169 rfl ?_
          refine g_iload_n fx dX8_readSack_170 rfl ?_
          refine g_iload fx dX8_readSack_171 rfl ?_
          refine g_iload fx dX8_readSack_173 rfl ?_
          refine g_iload fx dX8_readSack_175 rfl ?_
          refine g_callVD0 fx dX8_readSack_177 mv_RX8_115 my_X1_addSack (s_X1_addSack ad _ in_51 _ _ _ _ _ _) (mill_O in_51) rfl rfl rfl (Nat.le_of_ble_eq_true rfl) (by decide) (by decide) ?_
          exact g_vret fx rfl dX8_readSack_180 (by decide) (by decide) (gw_le.rf _) ⟨rfl, rfl, by rw [tSack]; (repeat first | rw [if_pos (by omega)] | rw [if_neg (by omega)]) <;> rfl⟩
      · refine g_aload_n fx dX8_readSack_119 rfl ?_
        refine g_getr fx dX8_readSack_120 fk_RX8_9 o_73 rf_73_0 ?_
        refine g_iconst fx dX8_readSack_123 (by unfold okI; omega) ?_
        refine g_bipush fx dX8_readSack_124 (by decide) ?_
        refine g_callVD fx dX8_readSack_126 mv_RX8_68 my_X3_number (s_X3_number ad _ _ _) o_3 rfl rfl rfl (Nat.le_of_ble_eq_true rfl) (by decide) (by decide) ?_
        refine g_goto (tgt := 133) fx dX8_readSack_129 (by decide) ?_
        refine gw_cgt (σ' := (sk5 σ).2) (v' := (sk5 σ).1) (by rw [sk5, rOpt]; first | rw [if_pos (by assumption)] | rw [if_neg (by assumption)]; try rfl) (by rw [sk5, rOpt]; first | rw [if_pos (by assumption)] | rw [if_neg (by assumption)]; try rfl) ?_
        refine g_istore fx dX8_readSack_133 (by decide) rfl rfl ?_
        refine g_aload_n fx dX8_readSack_135 rfl ?_
        refine g_getr fx dX8_readSack_136 fk_RX8_9 o_73 rf_73_0 ?_
        refine g_ldcS fx dX8_readSack_139 (by decide +kernel : (RX8, 113, "home", 8) ∈ gw_strT) ?_
        refine g_callVD fx dX8_readSack_141 mv_RX8_65 my_X3_takes (s_X3_takes ad _ 8 (by decide)) o_3 rfl rfl rfl (Nat.le_of_ble_eq_true rfl) (by decide) (by decide) ?_
        refine g_if_eq (tgt := 161) fx dX8_readSack_144 (by decide) (fun h144 => ?_) (fun h144 => ?_)
        · refine g_iconst fx dX8_readSack_161 (by unfold okI; omega) ?_
          refine gw_cgt (σ' := (sk6 σ).2) (v' := (sk6 σ).1) (by rw [sk6, rOpt]; first | rw [if_pos (by assumption)] | rw [if_neg (by assumption)]; try rfl) (by rw [sk6, rOpt]; first | rw [if_pos (by assumption)] | rw [if_neg (by assumption)]; try rfl) ?_
          refine g_istore fx dX8_readSack_162 (by decide) rfl rfl ?_
          refine g_aload_n fx dX8_readSack_164 rfl ?_
          refine g_getr fx dX8_readSack_165 fk_RX8_15 o_73 rf_73_1 ?_
          refine g_iload_n fx dX8_readSack_168 rfl ?_
          refine g_iload_n fx dX8_readSack_169 rfl ?_
          refine g_iload_n fx dX8_readSack_170 rfl ?_
          refine g_iload fx dX8_readSack_171 rfl ?_
          refine g_iload fx dX8_readSack_173 rfl ?_
          refine g_iload fx dX8_readSack_175 rfl ?_
          refine g_callVD0 fx dX8_readSack_177 mv_RX8_115 my_X1_addSack (s_X1_addSack ad _ in_51 _ _ _ _ _ _) (mill_O in_51) rfl rfl rfl (Nat.le_of_ble_eq_true rfl) (by decide) (by decide) ?_
          exact g_vret fx rfl dX8_readSack_180 (by decide) (by decide) (gw_le.rf _) ⟨rfl, rfl, by rw [tSack]; (repeat first | rw [if_pos (by omega)] | rw [if_neg (by omega)]) <;> rfl⟩
        · refine g_aload_n fx dX8_readSack_147 rfl ?_
          refine g_getr fx dX8_readSack_148 fk_RX8_9 o_73 rf_73_0 ?_
          refine g_iconst fx dX8_readSack_151 (by unfold okI; omega) ?_
          refine g_sipush fx dX8_readSack_152 (by decide) ?_
          refine g_callVD fx dX8_readSack_155 mv_RX8_68 my_X3_number (s_X3_number ad _ _ _) o_3 rfl rfl rfl (Nat.le_of_ble_eq_true rfl) (by decide) (by decide) ?_
          refine g_goto (tgt := 162) fx dX8_readSack_158 (by decide) ?_
          refine gw_cgt (σ' := (sk6 σ).2) (v' := (sk6 σ).1) (by rw [sk6, rOpt]; first | rw [if_pos (by assumption)] | rw [if_neg (by assumption)]; try rfl) (by rw [sk6, rOpt]; first | rw [if_pos (by assumption)] | rw [if_neg (by assumption)]; try rfl) ?_
          refine g_istore fx dX8_readSack_162 (by decide) rfl rfl ?_
          refine g_aload_n fx dX8_readSack_164 rfl ?_
          refine g_getr fx dX8_readSack_165 fk_RX8_15 o_73 rf_73_1 ?_
          refine g_iload_n fx dX8_readSack_168 rfl ?_
          refine g_iload_n fx dX8_readSack_169 rfl ?_
          refine g_iload_n fx dX8_readSack_170 rfl ?_
          refine g_iload fx dX8_readSack_171 rfl ?_
          refine g_iload fx dX8_readSack_173 rfl ?_
          refine g_iload fx dX8_readSack_175 rfl ?_
          refine g_callVD0 fx dX8_readSack_177 mv_RX8_115 my_X1_addSack (s_X1_addSack ad _ in_51 _ _ _ _ _ _) (mill_O in_51) rfl rfl rfl (Nat.le_of_ble_eq_true rfl) (by decide) (by decide) ?_
          exact g_vret fx rfl dX8_readSack_180 (by decide) (by decide) (gw_le.rf _) ⟨rfl, rfl, by rw [tSack]; (repeat first | rw [if_pos (by omega)] | rw [if_neg (by omega)]) <;> rfl⟩
    · refine g_aload_n fx dX8_readSack_92 rfl ?_
      refine g_getr fx dX8_readSack_93 fk_RX8_9 o_73 rf_73_0 ?_
      refine g_iconst fx dX8_readSack_96 (by unfold okI; omega) ?_
      refine g_iconst fx dX8_readSack_97 (by unfold okI; omega) ?_
      refine g_callVD fx dX8_readSack_98 mv_RX8_68 my_X3_number (s_X3_number ad _ _ _) o_3 rfl rfl rfl (Nat.le_of_ble_eq_true rfl) (by decide) (by decide) ?_
      refine g_goto (tgt := 105) fx dX8_readSack_101 (by decide) ?_
      refine gw_cgt (σ' := (sk4 σ).2) (v' := (sk4 σ).1) (by rw [sk4, rOpt]; first | rw [if_pos (by assumption)] | rw [if_neg (by assumption)]; try rfl) (by rw [sk4, rOpt]; first | rw [if_pos (by assumption)] | rw [if_neg (by assumption)]; try rfl) ?_
      refine g_istore fx dX8_readSack_105 (by decide) rfl rfl ?_
      refine g_aload_n fx dX8_readSack_107 rfl ?_
      refine g_getr fx dX8_readSack_108 fk_RX8_9 o_73 rf_73_0 ?_
      refine g_ldcS fx dX8_readSack_111 (by decide +kernel : (RX8, 111, "worth", 7) ∈ gw_strT) ?_
      refine g_callVD fx dX8_readSack_113 mv_RX8_65 my_X3_takes (s_X3_takes ad _ 7 (by decide)) o_3 rfl rfl rfl (Nat.le_of_ble_eq_true rfl) (by decide) (by decide) ?_
      refine g_if_eq (tgt := 132) fx dX8_readSack_116 (by decide) (fun h116 => ?_) (fun h116 => ?_)
      · refine g_iconst fx dX8_readSack_132 (by unfold okI; omega) ?_
        refine gw_cgt (σ' := (sk5 σ).2) (v' := (sk5 σ).1) (by rw [sk5, rOpt]; first | rw [if_pos (by assumption)] | rw [if_neg (by assumption)]; try rfl) (by rw [sk5, rOpt]; first | rw [if_pos (by assumption)] | rw [if_neg (by assumption)]; try rfl) ?_
        refine g_istore fx dX8_readSack_133 (by decide) rfl rfl ?_
        refine g_aload_n fx dX8_readSack_135 rfl ?_
        refine g_getr fx dX8_readSack_136 fk_RX8_9 o_73 rf_73_0 ?_
        refine g_ldcS fx dX8_readSack_139 (by decide +kernel : (RX8, 113, "home", 8) ∈ gw_strT) ?_
        refine g_callVD fx dX8_readSack_141 mv_RX8_65 my_X3_takes (s_X3_takes ad _ 8 (by decide)) o_3 rfl rfl rfl (Nat.le_of_ble_eq_true rfl) (by decide) (by decide) ?_
        refine g_if_eq (tgt := 161) fx dX8_readSack_144 (by decide) (fun h144 => ?_) (fun h144 => ?_)
        · refine g_iconst fx dX8_readSack_161 (by unfold okI; omega) ?_
          refine gw_cgt (σ' := (sk6 σ).2) (v' := (sk6 σ).1) (by rw [sk6, rOpt]; first | rw [if_pos (by assumption)] | rw [if_neg (by assumption)]; try rfl) (by rw [sk6, rOpt]; first | rw [if_pos (by assumption)] | rw [if_neg (by assumption)]; try rfl) ?_
          refine g_istore fx dX8_readSack_162 (by decide) rfl rfl ?_
          refine g_aload_n fx dX8_readSack_164 rfl ?_
          refine g_getr fx dX8_readSack_165 fk_RX8_15 o_73 rf_73_1 ?_
          refine g_iload_n fx dX8_readSack_168 rfl ?_
          refine g_iload_n fx dX8_readSack_169 rfl ?_
          refine g_iload_n fx dX8_readSack_170 rfl ?_
          refine g_iload fx dX8_readSack_171 rfl ?_
          refine g_iload fx dX8_readSack_173 rfl ?_
          refine g_iload fx dX8_readSack_175 rfl ?_
          refine g_callVD0 fx dX8_readSack_177 mv_RX8_115 my_X1_addSack (s_X1_addSack ad _ in_51 _ _ _ _ _ _) (mill_O in_51) rfl rfl rfl (Nat.le_of_ble_eq_true rfl) (by decide) (by decide) ?_
          exact g_vret fx rfl dX8_readSack_180 (by decide) (by decide) (gw_le.rf _) ⟨rfl, rfl, by rw [tSack]; (repeat first | rw [if_pos (by omega)] | rw [if_neg (by omega)]) <;> rfl⟩
        · refine g_aload_n fx dX8_readSack_147 rfl ?_
          refine g_getr fx dX8_readSack_148 fk_RX8_9 o_73 rf_73_0 ?_
          refine g_iconst fx dX8_readSack_151 (by unfold okI; omega) ?_
          refine g_sipush fx dX8_readSack_152 (by decide) ?_
          refine g_callVD fx dX8_readSack_155 mv_RX8_68 my_X3_number (s_X3_number ad _ _ _) o_3 rfl rfl rfl (Nat.le_of_ble_eq_true rfl) (by decide) (by decide) ?_
          refine g_goto (tgt := 162) fx dX8_readSack_158 (by decide) ?_
          refine gw_cgt (σ' := (sk6 σ).2) (v' := (sk6 σ).1) (by rw [sk6, rOpt]; first | rw [if_pos (by assumption)] | rw [if_neg (by assumption)]; try rfl) (by rw [sk6, rOpt]; first | rw [if_pos (by assumption)] | rw [if_neg (by assumption)]; try rfl) ?_
          refine g_istore fx dX8_readSack_162 (by decide) rfl rfl ?_
          refine g_aload_n fx dX8_readSack_164 rfl ?_
          refine g_getr fx dX8_readSack_165 fk_RX8_15 o_73 rf_73_1 ?_
          refine g_iload_n fx dX8_readSack_168 rfl ?_
          refine g_iload_n fx dX8_readSack_169 rfl ?_
          refine g_iload_n fx dX8_readSack_170 rfl ?_
          refine g_iload fx dX8_readSack_171 rfl ?_
          refine g_iload fx dX8_readSack_173 rfl ?_
          refine g_iload fx dX8_readSack_175 rfl ?_
          refine g_callVD0 fx dX8_readSack_177 mv_RX8_115 my_X1_addSack (s_X1_addSack ad _ in_51 _ _ _ _ _ _) (mill_O in_51) rfl rfl rfl (Nat.le_of_ble_eq_true rfl) (by decide) (by decide) ?_
          exact g_vret fx rfl dX8_readSack_180 (by decide) (by decide) (gw_le.rf _) ⟨rfl, rfl, by rw [tSack]; (repeat first | rw [if_pos (by omega)] | rw [if_neg (by omega)]) <;> rfl⟩
      · refine g_aload_n fx dX8_readSack_119 rfl ?_
        refine g_getr fx dX8_readSack_120 fk_RX8_9 o_73 rf_73_0 ?_
        refine g_iconst fx dX8_readSack_123 (by unfold okI; omega) ?_
        refine g_bipush fx dX8_readSack_124 (by decide) ?_
        refine g_callVD fx dX8_readSack_126 mv_RX8_68 my_X3_number (s_X3_number ad _ _ _) o_3 rfl rfl rfl (Nat.le_of_ble_eq_true rfl) (by decide) (by decide) ?_
        refine g_goto (tgt := 133) fx dX8_readSack_129 (by decide) ?_
        refine gw_cgt (σ' := (sk5 σ).2) (v' := (sk5 σ).1) (by rw [sk5, rOpt]; first | rw [if_pos (by assumption)] | rw [if_neg (by assumption)]; try rfl) (by rw [sk5, rOpt]; first | rw [if_pos (by assumption)] | rw [if_neg (by assumption)]; try rfl) ?_
        refine g_istore fx dX8_readSack_133 (by decide) rfl rfl ?_
        refine g_aload_n fx dX8_readSack_135 rfl ?_
        refine g_getr fx dX8_readSack_136 fk_RX8_9 o_73 rf_73_0 ?_
        refine g_ldcS fx dX8_readSack_139 (by decide +kernel : (RX8, 113, "home", 8) ∈ gw_strT) ?_
        refine g_callVD fx dX8_readSack_141 mv_RX8_65 my_X3_takes (s_X3_takes ad _ 8 (by decide)) o_3 rfl rfl rfl (Nat.le_of_ble_eq_true rfl) (by decide) (by decide) ?_
        refine g_if_eq (tgt := 161) fx dX8_readSack_144 (by decide) (fun h144 => ?_) (fun h144 => ?_)
        · refine g_iconst fx dX8_readSack_161 (by unfold okI; omega) ?_
          refine gw_cgt (σ' := (sk6 σ).2) (v' := (sk6 σ).1) (by rw [sk6, rOpt]; first | rw [if_pos (by assumption)] | rw [if_neg (by assumption)]; try rfl) (by rw [sk6, rOpt]; first | rw [if_pos (by assumption)] | rw [if_neg (by assumption)]; try rfl) ?_
          refine g_istore fx dX8_readSack_162 (by decide) rfl rfl ?_
          refine g_aload_n fx dX8_readSack_164 rfl ?_
          refine g_getr fx dX8_readSack_165 fk_RX8_15 o_73 rf_73_1 ?_
          refine g_iload_n fx dX8_readSack_168 rfl ?_
          refine g_iload_n fx dX8_readSack_169 rfl ?_
          refine g_iload_n fx dX8_readSack_170 rfl ?_
          refine g_iload fx dX8_readSack_171 rfl ?_
          refine g_iload fx dX8_readSack_173 rfl ?_
          refine g_iload fx dX8_readSack_175 rfl ?_
          refine g_callVD0 fx dX8_readSack_177 mv_RX8_115 my_X1_addSack (s_X1_addSack ad _ in_51 _ _ _ _ _ _) (mill_O in_51) rfl rfl rfl (Nat.le_of_ble_eq_true rfl) (by decide) (by decide) ?_
          exact g_vret fx rfl dX8_readSack_180 (by decide) (by decide) (gw_le.rf _) ⟨rfl, rfl, by rw [tSack]; (repeat first | rw [if_pos (by omega)] | rw [if_neg (by omega)]) <;> rfl⟩
        · refine g_aload_n fx dX8_readSack_147 rfl ?_
          refine g_getr fx dX8_readSack_148 fk_RX8_9 o_73 rf_73_0 ?_
          refine g_iconst fx dX8_readSack_151 (by unfold okI; omega) ?_
          refine g_sipush fx dX8_readSack_152 (by decide) ?_
          refine g_callVD fx dX8_readSack_155 mv_RX8_68 my_X3_number (s_X3_number ad _ _ _) o_3 rfl rfl rfl (Nat.le_of_ble_eq_true rfl) (by decide) (by decide) ?_
          refine g_goto (tgt := 162) fx dX8_readSack_158 (by decide) ?_
          refine gw_cgt (σ' := (sk6 σ).2) (v' := (sk6 σ).1) (by rw [sk6, rOpt]; first | rw [if_pos (by assumption)] | rw [if_neg (by assumption)]; try rfl) (by rw [sk6, rOpt]; first | rw [if_pos (by assumption)] | rw [if_neg (by assumption)]; try rfl) ?_
          refine g_istore fx dX8_readSack_162 (by decide) rfl rfl ?_
          refine g_aload_n fx dX8_readSack_164 rfl ?_
          refine g_getr fx dX8_readSack_165 fk_RX8_15 o_73 rf_73_1 ?_
          refine g_iload_n fx dX8_readSack_168 rfl ?_
          refine g_iload_n fx dX8_readSack_169 rfl ?_
          refine g_iload_n fx dX8_readSack_170 rfl ?_
          refine g_iload fx dX8_readSack_171 rfl ?_
          refine g_iload fx dX8_readSack_173 rfl ?_
          refine g_iload fx dX8_readSack_175 rfl ?_
          refine g_callVD0 fx dX8_readSack_177 mv_RX8_115 my_X1_addSack (s_X1_addSack ad _ in_51 _ _ _ _ _ _) (mill_O in_51) rfl rfl rfl (Nat.le_of_ble_eq_true rfl) (by decide) (by decide) ?_
          exact g_vret fx rfl dX8_readSack_180 (by decide) (by decide) (gw_le.rf _) ⟨rfl, rfl, by rw [tSack]; (repeat first | rw [if_pos (by omega)] | rw [if_neg (by omega)]) <;> rfl⟩
  · refine g_aload_n fx dX8_readSack_12 rfl ?_
    refine g_getr fx dX8_readSack_13 fk_RX8_9 o_73 rf_73_0 ?_
    refine g_iconst fx dX8_readSack_16 (by unfold okI; omega) ?_
    refine g_callVD0 fx dX8_readSack_17 mv_RX8_83 my_X3_fail (s_X3_fail ad _ _) o_3 rfl rfl rfl (Nat.le_of_ble_eq_true rfl) (by decide) (by decide) ?_
    exact g_vret fx rfl dX8_readSack_20 (by decide) (by decide) (gw_le.rf _) ⟨rfl, rfl, by rw [tSack]; (repeat first | rw [if_pos (by omega)] | rw [if_neg (by omega)]) <;> rfl⟩
set_option maxRecDepth 4000 in
theorem s_X8_readLine (ad : Nat → Nat) (σ : Sg)  : gw_Sp yX8_readLine cX8_readLine 1 none 8 0 0 [vR (some 73)] (gw_M0 ad) σ (gw_D none (gw_M0 ad) (tLine σ)) gw_no := by
  refine gw_Sp.of [some (vR (some 73))] (by decide +kernel) rfl (Nat.le_of_ble_eq_true rfl) ?_
  intro X G fx het hnm
  refine g_aload_n fx dX8_readLine_0 rfl ?_
  refine g_getr fx dX8_readLine_1 fk_RX8_9 o_73 rf_73_0 ?_
  refine g_ldcS fx dX8_readLine_4 (by decide +kernel : (RX8, 54, "stone", 0) ∈ gw_strT) ?_
  refine g_callVD fx dX8_readLine_6 mv_RX8_56 my_X3_spells (s_X3_spells ad _ 0 (by decide)) o_3 rfl rfl rfl (Nat.le_of_ble_eq_true rfl) (by decide) (by decide) ?_
  refine g_if_eq (tgt := 19) fx dX8_readLine_9 (by decide) (fun h9 => ?_) (fun h9 => ?_)
  · refine g_aload_n fx dX8_readLine_19 rfl ?_
    refine g_getr fx dX8_readLine_20 fk_RX8_9 o_73 rf_73_0 ?_
    refine g_ldcS fx dX8_readLine_23 (by decide +kernel : (RX8, 63, "clean", 1) ∈ gw_strT) ?_
    refine g_callVD fx dX8_readLine_25 mv_RX8_65 my_X3_takes (s_X3_takes ad _ 1 (by decide)) o_3 rfl rfl rfl (Nat.le_of_ble_eq_true rfl) (by decide) (by decide) ?_
    refine g_if_eq (tgt := 51) fx dX8_readLine_28 (by decide) (fun h28 => ?_) (fun h28 => ?_)
    · refine g_aload_n fx dX8_readLine_51 rfl ?_
      refine g_getr fx dX8_readLine_52 fk_RX8_9 o_73 rf_73_0 ?_
      refine g_ldcS fx dX8_readLine_55 (by decide +kernel : (RX8, 74, "fee", 2) ∈ gw_strT) ?_
      refine g_callVD fx dX8_readLine_57 mv_RX8_65 my_X3_takes (s_X3_takes ad _ 2 (by decide)) o_3 rfl rfl rfl (Nat.le_of_ble_eq_true rfl) (by decide) (by decide) ?_
      refine g_if_eq (tgt := 83) fx dX8_readLine_60 (by decide) (fun h60 => ?_) (fun h60 => ?_)
      · refine g_aload_n fx dX8_readLine_83 rfl ?_
        refine g_getr fx dX8_readLine_84 fk_RX8_9 o_73 rf_73_0 ?_
        refine g_ldcS fx dX8_readLine_87 (by decide +kernel : (RX8, 78, "sack", 3) ∈ gw_strT) ?_
        refine g_callVD fx dX8_readLine_89 mv_RX8_56 my_X3_spells (s_X3_spells ad _ 3 (by decide)) o_3 rfl rfl rfl (Nat.le_of_ble_eq_true rfl) (by decide) (by decide) ?_
        refine g_if_eq (tgt := 102) fx dX8_readLine_92 (by decide) (fun h92 => ?_) (fun h92 => ?_)
        · refine g_aload_n fx dX8_readLine_102 rfl ?_
          refine g_getr fx dX8_readLine_103 fk_RX8_9 o_73 rf_73_0 ?_
          refine g_iconst fx dX8_readLine_106 (by unfold okI; omega) ?_
          refine g_callVD0 fx dX8_readLine_107 mv_RX8_83 my_X3_fail (s_X3_fail ad _ _) o_3 rfl rfl rfl (Nat.le_of_ble_eq_true rfl) (by decide) (by decide) ?_
          refine g_aload_n fx dX8_readLine_110 rfl ?_
          refine g_getr fx dX8_readLine_111 fk_RX8_9 o_73 rf_73_0 ?_
          refine g_callVD0 fx dX8_readLine_114 mv_RX8_86 my_X3_endLine (s_X3_endLine ad _ ) o_3 rfl rfl rfl (Nat.le_of_ble_eq_true rfl) (by decide) (by decide) ?_
          exact g_vret fx rfl dX8_readLine_117 (by decide) (by decide) (gw_le.rf _) ⟨rfl, rfl, by rw [tLine]; (repeat first | rw [if_pos (by omega)] | rw [if_neg (by omega)]) <;> rfl⟩
        · refine g_aload_n fx dX8_readLine_95 rfl ?_
          refine g_callVD0 fx dX8_readLine_96 mv_RX8_80 my_X8_readSack (s_X8_readSack ad _ ) o_73 rfl rfl rfl (Nat.le_of_ble_eq_true rfl) (by decide) (by decide) ?_
          refine g_goto (tgt := 110) fx dX8_readLine_99 (by decide) ?_
          refine g_aload_n fx dX8_readLine_110 rfl ?_
          refine g_getr fx dX8_readLine_111 fk_RX8_9 o_73 rf_73_0 ?_
          refine g_callVD0 fx dX8_readLine_114 mv_RX8_86 my_X3_endLine (s_X3_endLine ad _ ) o_3 rfl rfl rfl (Nat.le_of_ble_eq_true rfl) (by decide) (by decide) ?_
          exact g_vret fx rfl dX8_readLine_117 (by decide) (by decide) (gw_le.rf _) ⟨rfl, rfl, by rw [tLine]; (repeat first | rw [if_pos (by omega)] | rw [if_neg (by omega)]) <;> rfl⟩
      · refine g_aload_n fx dX8_readLine_63 rfl ?_
        refine g_getr fx dX8_readLine_64 fk_RX8_15 o_73 rf_73_1 ?_
        refine g_aload_n fx dX8_readLine_67 rfl ?_
        refine g_getr fx dX8_readLine_68 fk_RX8_9 o_73 rf_73_0 ?_
        refine g_iconst fx dX8_readLine_71 (by unfold okI; omega) ?_
        refine g_bipush fx dX8_readLine_72 (by decide) ?_
        refine g_callVD fx dX8_readLine_74 mv_RX8_68 my_X3_number (s_X3_number ad _ _ _) o_3 rfl rfl rfl (Nat.le_of_ble_eq_true rfl) (by decide) (by decide) ?_
        refine g_puti fx dX8_readLine_77 fk_RX8_76 (mill_O in_51) ?_
        refine g_goto (tgt := 110) fx dX8_readLine_80 (by decide) ?_
        refine g_aload_n fx dX8_readLine_110 rfl ?_
        refine g_getr fx dX8_readLine_111 fk_RX8_9 o_73 rf_73_0 ?_
        refine g_callVD0 fx dX8_readLine_114 mv_RX8_86 my_X3_endLine (s_X3_endLine ad _ ) o_3 rfl rfl rfl (Nat.le_of_ble_eq_true rfl) (by decide) (by decide) ?_
        exact g_vret fx rfl dX8_readLine_117 (by decide) (by decide) (gw_le.rf _) ⟨rfl, rfl, by rw [tLine]; (repeat first | rw [if_pos (by omega)] | rw [if_neg (by omega)]) <;> rfl⟩
    · refine g_aload_n fx dX8_readLine_31 rfl ?_
      refine g_getr fx dX8_readLine_32 fk_RX8_15 o_73 rf_73_1 ?_
      refine g_aload_n fx dX8_readLine_35 rfl ?_
      refine g_getr fx dX8_readLine_36 fk_RX8_9 o_73 rf_73_0 ?_
      refine g_iconst fx dX8_readLine_39 (by unfold okI; omega) ?_
      refine g_bipush fx dX8_readLine_40 (by decide) ?_
      refine g_callVD fx dX8_readLine_42 mv_RX8_68 my_X3_number (s_X3_number ad _ _ _) o_3 rfl rfl rfl (Nat.le_of_ble_eq_true rfl) (by decide) (by decide) ?_
      refine g_puti fx dX8_readLine_45 fk_RX8_72 (mill_O in_51) ?_
      refine g_goto (tgt := 110) fx dX8_readLine_48 (by decide) ?_
      refine g_aload_n fx dX8_readLine_110 rfl ?_
      refine g_getr fx dX8_readLine_111 fk_RX8_9 o_73 rf_73_0 ?_
      refine g_callVD0 fx dX8_readLine_114 mv_RX8_86 my_X3_endLine (s_X3_endLine ad _ ) o_3 rfl rfl rfl (Nat.le_of_ble_eq_true rfl) (by decide) (by decide) ?_
      exact g_vret fx rfl dX8_readLine_117 (by decide) (by decide) (gw_le.rf _) ⟨rfl, rfl, by rw [tLine]; (repeat first | rw [if_pos (by omega)] | rw [if_neg (by omega)]) <;> rfl⟩
  · refine g_aload_n fx dX8_readLine_12 rfl ?_
    refine g_callVD0 fx dX8_readLine_13 mv_RX8_60 my_X8_readStone (s_X8_readStone ad _ ) o_73 rfl rfl rfl (Nat.le_of_ble_eq_true rfl) (by decide) (by decide) ?_
    refine g_goto (tgt := 110) fx dX8_readLine_16 (by decide) ?_
    refine g_aload_n fx dX8_readLine_110 rfl ?_
    refine g_getr fx dX8_readLine_111 fk_RX8_9 o_73 rf_73_0 ?_
    refine g_callVD0 fx dX8_readLine_114 mv_RX8_86 my_X3_endLine (s_X3_endLine ad _ ) o_3 rfl rfl rfl (Nat.le_of_ble_eq_true rfl) (by decide) (by decide) ?_
    exact g_vret fx rfl dX8_readLine_117 (by decide) (by decide) (gw_le.rf _) ⟨rfl, rfl, by rw [tLine]; (repeat first | rw [if_pos (by omega)] | rw [if_neg (by omega)]) <;> rfl⟩
set_option maxRecDepth 4000 in
theorem s_X8_readRule (ad : Nat → Nat) (σ : Sg)  : gw_Sp yX8_readRule cX8_readRule 2 none 8 0 0 [vR (some 73)] (gw_M0 ad) σ (gw_D none (gw_M0 ad) (tRule σ)) gw_no := by
  refine gw_Sp.of [some (vR (some 73)), none] (by decide +kernel) rfl (Nat.le_of_ble_eq_true rfl) ?_
  intro X G fx het hnm
  refine g_aload_n fx dX8_readRule_0 rfl ?_
  refine g_getr fx dX8_readRule_1 fk_RX8_9 o_73 rf_73_0 ?_
  refine g_ldcS fx dX8_readRule_4 (by decide +kernel : (RX8, 119, "by", 9) ∈ gw_strT) ?_
  refine g_callVD fx dX8_readRule_6 mv_RX8_65 my_X3_takes (s_X3_takes ad _ 9 (by decide)) o_3 rfl rfl rfl (Nat.le_of_ble_eq_true rfl) (by decide) (by decide) ?_
  refine g_if_eq (tgt := 60) fx dX8_readRule_9 (by decide) (fun h9 => ?_) (fun h9 => ?_)
  · refine g_aload_n fx dX8_readRule_60 rfl ?_
    refine g_getr fx dX8_readRule_61 fk_RX8_9 o_73 rf_73_0 ?_
    refine g_ldcS fx dX8_readRule_64 (by decide +kernel : (RX8, 126, "small", 11) ∈ gw_strT) ?_
    refine g_callVD fx dX8_readRule_66 mv_RX8_65 my_X3_takes (s_X3_takes ad _ 11 (by decide)) o_3 rfl rfl rfl (Nat.le_of_ble_eq_true rfl) (by decide) (by decide) ?_
    refine g_if_eq (tgt := 95) fx dX8_readRule_69 (by decide) (fun h69 => ?_) (fun h69 => ?_)
    · refine g_aload_n fx dX8_readRule_95 rfl ?_
      refine g_getr fx dX8_readRule_96 fk_RX8_9 o_73 rf_73_0 ?_
      refine g_iconst fx dX8_readRule_99 (by unfold okI; omega) ?_
      refine g_callVD0 fx dX8_readRule_100 mv_RX8_83 my_X3_fail (s_X3_fail ad _ _) o_3 rfl rfl rfl (Nat.le_of_ble_eq_true rfl) (by decide) (by decide) ?_
      refine g_aload_n fx dX8_readRule_103 rfl ?_
      refine g_getr fx dX8_readRule_104 fk_RX8_9 o_73 rf_73_0 ?_
      refine g_callVD0 fx dX8_readRule_107 mv_RX8_86 my_X3_endLine (s_X3_endLine ad _ ) o_3 rfl rfl rfl (Nat.le_of_ble_eq_true rfl) (by decide) (by decide) ?_
      exact g_vret fx rfl dX8_readRule_110 (by decide) (by decide) (gw_le.rf _) ⟨rfl, rfl, by first | (rw [tRule]; (repeat first | rw [if_pos (by omega)] | rw [if_neg (by omega)]) <;> rfl) | (rw [tRule, if_pos (by assumption), he]; first | (rw [show 900 - i = 0 by omega]; rfl) | (rw [tThen_a h32]) | (rw [tThen_b h32 h44 (by omega)]))⟩
    · refine g_aload_n fx dX8_readRule_72 rfl ?_
      refine g_getr fx dX8_readRule_73 fk_RX8_15 o_73 rf_73_1 ?_
      refine g_getr fx dX8_readRule_76 fk_RX8_44 (mill_O in_51) rf_51_0 ?_
      refine g_aload_n fx dX8_readRule_79 rfl ?_
      refine g_getr fx dX8_readRule_80 fk_RX8_9 o_73 rf_73_0 ?_
      refine g_iconst fx dX8_readRule_83 (by unfold okI; omega) ?_
      refine g_bipush fx dX8_readRule_84 (by decide) ?_
      refine g_callVD fx dX8_readRule_86 mv_RX8_68 my_X3_number (s_X3_number ad _ _ _) o_3 rfl rfl rfl (Nat.le_of_ble_eq_true rfl) (by decide) (by decide) ?_
      refine g_puti fx dX8_readRule_89 fk_RX8_128 (law_O in_52) ?_
      refine g_goto (tgt := 103) fx dX8_readRule_92 (by decide) ?_
      refine g_aload_n fx dX8_readRule_103 rfl ?_
      refine g_getr fx dX8_readRule_104 fk_RX8_9 o_73 rf_73_0 ?_
      refine g_callVD0 fx dX8_readRule_107 mv_RX8_86 my_X3_endLine (s_X3_endLine ad _ ) o_3 rfl rfl rfl (Nat.le_of_ble_eq_true rfl) (by decide) (by decide) ?_
      exact g_vret fx rfl dX8_readRule_110 (by decide) (by decide) (gw_le.rf _) ⟨rfl, rfl, by first | (rw [tRule]; (repeat first | rw [if_pos (by omega)] | rw [if_neg (by omega)]) <;> rfl) | (rw [tRule, if_pos (by assumption), he]; first | (rw [show 900 - i = 0 by omega]; rfl) | (rw [tThen_a h32]) | (rw [tThen_b h32 h44 (by omega)]))⟩
  · refine g_aload_n fx dX8_readRule_12 rfl ?_
    refine g_callVD0 fx dX8_readRule_13 mv_RX8_121 my_X8_readKey (s_X8_readKey ad _ ) o_73 rfl rfl rfl (Nat.le_of_ble_eq_true rfl) (by decide) (by decide) ?_
    refine g_iconst fx dX8_readRule_16 (by unfold okI; omega) ?_
    refine g_istore_n fx dX8_readRule_17 (by decide) rfl rfl ?_
    have loop18 : ∀ i : Nat, i ≤ 900 → ∀ x : Sg, tThen 900 (tKey (rTak σ 9)) = tThen (900 - i) x → gw_W X (yX8_readRule.cls, cX8_readRule, 2, none, 8, 0, 0) G (gw_Z X G (gw_M0 ad) σ (gw_D none (gw_M0 ad) (tRule σ)) gw_no 0 0) 0 0 (gw_M0 ad) (x) 18 [some (vR (some 73)), some (vI (i : Nat))] [] := by
      refine up_ind _ 900 (fun i hi ih => ?_)
      intro x he
      refine g_iload_n fx dX8_readRule_18 rfl ?_
      refine g_sipush fx dX8_readRule_19 (by decide) ?_
      refine g_icmp_ge (tgt := 57) fx dX8_readRule_22 (by decide) (fun h22 => ?_) (fun h22 => ?_)
      · refine g_goto (tgt := 103) fx dX8_readRule_57 (by decide) ?_
        refine g_aload_n fx dX8_readRule_103 rfl ?_
        refine g_getr fx dX8_readRule_104 fk_RX8_9 o_73 rf_73_0 ?_
        refine g_callVD0 fx dX8_readRule_107 mv_RX8_86 my_X3_endLine (s_X3_endLine ad _ ) o_3 rfl rfl rfl (Nat.le_of_ble_eq_true rfl) (by decide) (by decide) ?_
        exact g_vret fx rfl dX8_readRule_110 (by decide) (by decide) (gw_le.rf _) ⟨rfl, rfl, by first | (rw [tRule]; (repeat first | rw [if_pos (by omega)] | rw [if_neg (by omega)]) <;> rfl) | (rw [tRule, if_pos (by assumption), he]; first | (rw [show 900 - i = 0 by omega]; rfl) | (rw [tThen_a h32]) | (rw [tThen_b h32 h44 (by omega)]))⟩
      · refine g_aload_n fx dX8_readRule_25 rfl ?_
        refine g_getr fx dX8_readRule_26 fk_RX8_9 o_73 rf_73_0 ?_
        refine g_callVD fx dX8_readRule_29 mv_RX8_30 my_X3_goesOn (s_X3_goesOn ad _ ) o_3 rfl rfl rfl (Nat.le_of_ble_eq_true rfl) (by decide) (by decide) ?_
        refine g_if_eq (tgt := 57) fx dX8_readRule_32 (by decide) (fun h32 => ?_) (fun h32 => ?_)
        · refine g_goto (tgt := 103) fx dX8_readRule_57 (by decide) ?_
          refine g_aload_n fx dX8_readRule_103 rfl ?_
          refine g_getr fx dX8_readRule_104 fk_RX8_9 o_73 rf_73_0 ?_
          refine g_callVD0 fx dX8_readRule_107 mv_RX8_86 my_X3_endLine (s_X3_endLine ad _ ) o_3 rfl rfl rfl (Nat.le_of_ble_eq_true rfl) (by decide) (by decide) ?_
          exact g_vret fx rfl dX8_readRule_110 (by decide) (by decide) (gw_le.rf _) ⟨rfl, rfl, by first | (rw [tRule]; (repeat first | rw [if_pos (by omega)] | rw [if_neg (by omega)]) <;> rfl) | (rw [tRule, if_pos (by assumption), he]; first | (rw [show 900 - i = 0 by omega]; rfl) | (rw [tThen_a h32]) | (rw [tThen_b h32 h44 (by omega)]))⟩
        · refine g_aload_n fx dX8_readRule_35 rfl ?_
          refine g_getr fx dX8_readRule_36 fk_RX8_9 o_73 rf_73_0 ?_
          refine g_ldcS fx dX8_readRule_39 (by decide +kernel : (RX8, 124, "then", 10) ∈ gw_strT) ?_
          refine g_callVD fx dX8_readRule_41 mv_RX8_65 my_X3_takes (s_X3_takes ad _ 10 (by decide)) o_3 rfl rfl rfl (Nat.le_of_ble_eq_true rfl) (by decide) (by decide) ?_
          refine g_if_eq (tgt := 57) fx dX8_readRule_44 (by decide) (fun h44 => ?_) (fun h44 => ?_)
          · refine g_goto (tgt := 103) fx dX8_readRule_57 (by decide) ?_
            refine g_aload_n fx dX8_readRule_103 rfl ?_
            refine g_getr fx dX8_readRule_104 fk_RX8_9 o_73 rf_73_0 ?_
            refine g_callVD0 fx dX8_readRule_107 mv_RX8_86 my_X3_endLine (s_X3_endLine ad _ ) o_3 rfl rfl rfl (Nat.le_of_ble_eq_true rfl) (by decide) (by decide) ?_
            exact g_vret fx rfl dX8_readRule_110 (by decide) (by decide) (gw_le.rf _) ⟨rfl, rfl, by first | (rw [tRule]; (repeat first | rw [if_pos (by omega)] | rw [if_neg (by omega)]) <;> rfl) | (rw [tRule, if_pos (by assumption), he]; first | (rw [show 900 - i = 0 by omega]; rfl) | (rw [tThen_a h32]) | (rw [tThen_b h32 h44 (by omega)]))⟩
          · refine g_aload_n fx dX8_readRule_47 rfl ?_
            refine g_callVD0 fx dX8_readRule_48 mv_RX8_121 my_X8_readKey (s_X8_readKey ad _ ) o_73 rfl rfl rfl (Nat.le_of_ble_eq_true rfl) (by decide) (by decide) ?_
            refine g_iinc1 fx dX8_readRule_51 (by decide) rfl rfl (by unfold okI; omega) rfl ?_
            refine g_goto (tgt := 18) fx dX8_readRule_54 (by decide) ?_
            exact gw_cg rfl (by rw [show ((i : Nat) : Int) + 1 = ((i + 1 : Nat) : Int) by omega]; rfl) (ih (by omega) _ (by rw [he, tThen_c h32 h44 (by omega), show 900 - i - 1 = 900 - (i + 1) by omega]))
    exact loop18 0 (Nat.zero_le _) _ rfl
set_option maxRecDepth 4000 in
theorem s_X8_readMill (ad : Nat → Nat) (σ : Sg)  (n : Int) : gw_Sp yX8_readMill cX8_readMill 3 none 9 0 0 [vR (some 73), vI n] (gw_M0 ad) σ (gw_D none (gw_M0 ad) (tMill σ n)) gw_no := by
  refine gw_Sp.of [some (vR (some 73)), some (vI n), none] (by decide +kernel) rfl (Nat.le_of_ble_eq_true rfl) ?_
  intro X G fx het hnm
  refine g_aload_n fx dX8_readMill_0 rfl ?_
  refine g_getr fx dX8_readMill_1 fk_RX8_15 o_73 rf_73_1 ?_
  refine g_callVD0 fx dX8_readMill_4 mv_RX8_19 my_X1_clear (s_X1_clear ad _ in_51) (mill_O in_51) rfl rfl rfl (Nat.le_of_ble_eq_true rfl) (by decide) (by decide) ?_
  refine g_aload_n fx dX8_readMill_7 rfl ?_
  refine g_getr fx dX8_readMill_8 fk_RX8_9 o_73 rf_73_0 ?_
  refine g_iload_n fx dX8_readMill_11 rfl ?_
  refine g_callVD0 fx dX8_readMill_12 mv_RX8_24 my_X3_open (s_X3_open ad _ _) o_3 rfl rfl rfl (Nat.le_of_ble_eq_true rfl) (by decide) (by decide) ?_
  refine g_iconst fx dX8_readMill_15 (by unfold okI; omega) ?_
  refine g_istore_n fx dX8_readMill_16 (by decide) rfl rfl ?_
  have loop17 : ∀ i : Nat, i ≤ 900 → ∀ x : Sg, tMillL 900 (rOpen (mClear σ 51) n) = tMillL (900 - i) x → gw_W X (yX8_readMill.cls, cX8_readMill, 3, none, 9, 0, 0) G (gw_Z X G (gw_M0 ad) σ (gw_D none (gw_M0 ad) (tMill σ n)) gw_no 0 0) 0 0 (gw_M0 ad) (x) 17 [some (vR (some 73)), some (vI n), some (vI (i : Nat))] [] := by
    refine up_ind _ 900 (fun i hi ih => ?_)
    intro x he
    refine g_iload_n fx dX8_readMill_17 rfl ?_
    refine g_sipush fx dX8_readMill_18 (by decide) ?_
    refine g_icmp_ge (tgt := 57) fx dX8_readMill_21 (by decide) (fun h21 => ?_) (fun h21 => ?_)
    · refine g_aload_n fx dX8_readMill_57 rfl ?_
      refine g_getr fx dX8_readMill_58 fk_RX8_15 o_73 rf_73_1 ?_
      refine g_callVD0 fx dX8_readMill_61 mv_RX8_41 my_X1_standAtLeastOneStone (s_X1_standAtLeastOneStone ad _ in_51) (mill_O in_51) rfl rfl rfl (Nat.le_of_ble_eq_true rfl) (by decide) (by decide) ?_
      exact g_vret fx rfl dX8_readMill_64 (by decide) (by decide) (gw_le.rf _) ⟨rfl, rfl, by rw [tMill, he]; first | (rw [show 900 - i = 0 by omega]; rfl) | (rw [tMillL_a h31])⟩
    · refine g_aload_n fx dX8_readMill_24 rfl ?_
      refine g_getr fx dX8_readMill_25 fk_RX8_9 o_73 rf_73_0 ?_
      refine g_callVD fx dX8_readMill_28 mv_RX8_30 my_X3_goesOn (s_X3_goesOn ad _ ) o_3 rfl rfl rfl (Nat.le_of_ble_eq_true rfl) (by decide) (by decide) ?_
      refine g_if_eq (tgt := 57) fx dX8_readMill_31 (by decide) (fun h31 => ?_) (fun h31 => ?_)
      · refine g_aload_n fx dX8_readMill_57 rfl ?_
        refine g_getr fx dX8_readMill_58 fk_RX8_15 o_73 rf_73_1 ?_
        refine g_callVD0 fx dX8_readMill_61 mv_RX8_41 my_X1_standAtLeastOneStone (s_X1_standAtLeastOneStone ad _ in_51) (mill_O in_51) rfl rfl rfl (Nat.le_of_ble_eq_true rfl) (by decide) (by decide) ?_
        exact g_vret fx rfl dX8_readMill_64 (by decide) (by decide) (gw_le.rf _) ⟨rfl, rfl, by rw [tMill, he]; first | (rw [show 900 - i = 0 by omega]; rfl) | (rw [tMillL_a h31])⟩
      · refine g_aload_n fx dX8_readMill_34 rfl ?_
        refine g_callVD0 fx dX8_readMill_35 mv_RX8_34 my_X8_readLine (s_X8_readLine ad _ ) o_73 rfl rfl rfl (Nat.le_of_ble_eq_true rfl) (by decide) (by decide) ?_
        refine g_aload_n fx dX8_readMill_38 rfl ?_
        refine g_getr fx dX8_readMill_39 fk_RX8_15 o_73 rf_73_1 ?_
        refine g_dup fx dX8_readMill_42 rfl ?_
        refine g_geti fx dX8_readMill_43 fk_RX8_37 (by decide) (mill_O in_51) ?_
        refine g_iconst fx dX8_readMill_46 (by unfold okI; omega) ?_
        refine g_iadd fx dX8_readMill_47 ?_
        refine g_puti fx dX8_readMill_48 fk_RX8_37 (mill_O in_51) ?_
        refine g_iinc1 fx dX8_readMill_51 (by decide) rfl rfl (by unfold okI; omega) rfl ?_
        refine g_goto (tgt := 17) fx dX8_readMill_54 (by decide) ?_
        exact gw_cg rfl (by rw [show ((i : Nat) : Int) + 1 = ((i + 1 : Nat) : Int) by omega]; rfl) (ih (by omega) _ (by rw [he, tMillL_b h31 (by omega), show 900 - i - 1 = 900 - (i + 1) by omega]; rfl))
  exact loop17 0 (Nat.zero_le _) _ rfl
set_option maxRecDepth 4000 in
theorem s_X8_readLaw (ad : Nat → Nat) (σ : Sg)  (n : Int) : gw_Sp yX8_readLaw cX8_readLaw 3 none 9 0 0 [vR (some 73), vI n] (gw_M0 ad) σ (gw_D none (gw_M0 ad) (tLaw σ n)) gw_no := by
  refine gw_Sp.of [some (vR (some 73)), some (vI n), none] (by decide +kernel) rfl (Nat.le_of_ble_eq_true rfl) ?_
  intro X G fx het hnm
  refine g_aload_n fx dX8_readLaw_0 rfl ?_
  refine g_getr fx dX8_readLaw_1 fk_RX8_15 o_73 rf_73_1 ?_
  refine g_getr fx dX8_readLaw_4 fk_RX8_44 (mill_O in_51) rf_51_0 ?_
  refine g_callVD0 fx dX8_readLaw_7 mv_RX8_48 my_X0_clear (s_X0_clear ad _ in_52) (law_O in_52) rfl rfl rfl (Nat.le_of_ble_eq_true rfl) (by decide) (by decide) ?_
  refine g_aload_n fx dX8_readLaw_10 rfl ?_
  refine g_getr fx dX8_readLaw_11 fk_RX8_9 o_73 rf_73_0 ?_
  refine g_iload_n fx dX8_readLaw_14 rfl ?_
  refine g_callVD0 fx dX8_readLaw_15 mv_RX8_24 my_X3_open (s_X3_open ad _ _) o_3 rfl rfl rfl (Nat.le_of_ble_eq_true rfl) (by decide) (by decide) ?_
  refine g_iconst fx dX8_readLaw_18 (by unfold okI; omega) ?_
  refine g_istore_n fx dX8_readLaw_19 (by decide) rfl rfl ?_
  have loop20 : ∀ i : Nat, i ≤ 900 → ∀ x : Sg, tLawL 900 (rOpen (su (su σ 52 1 0) 52 2 0) n) = tLawL (900 - i) x → gw_W X (yX8_readLaw.cls, cX8_readLaw, 3, none, 9, 0, 0) G (gw_Z X G (gw_M0 ad) σ (gw_D none (gw_M0 ad) (tLaw σ n)) gw_no 0 0) 0 0 (gw_M0 ad) (x) 20 [some (vR (some 73)), some (vI n), some (vI (i : Nat))] [] := by
    refine up_ind _ 900 (fun i hi ih => ?_)
    intro x he
    refine g_iload_n fx dX8_readLaw_20 rfl ?_
    refine g_sipush fx dX8_readLaw_21 (by decide) ?_
    refine g_icmp_ge (tgt := 47) fx dX8_readLaw_24 (by decide) (fun h24 => ?_) (fun h24 => ?_)
    · exact g_vret fx rfl dX8_readLaw_47 (by decide) (by decide) (gw_le.rf _) ⟨rfl, rfl, by rw [tLaw, he]; first | (rw [show 900 - i = 0 by omega]; rfl) | (rw [tLawL_a h34])⟩
    · refine g_aload_n fx dX8_readLaw_27 rfl ?_
      refine g_getr fx dX8_readLaw_28 fk_RX8_9 o_73 rf_73_0 ?_
      refine g_callVD fx dX8_readLaw_31 mv_RX8_30 my_X3_goesOn (s_X3_goesOn ad _ ) o_3 rfl rfl rfl (Nat.le_of_ble_eq_true rfl) (by decide) (by decide) ?_
      refine g_if_eq (tgt := 47) fx dX8_readLaw_34 (by decide) (fun h34 => ?_) (fun h34 => ?_)
      · exact g_vret fx rfl dX8_readLaw_47 (by decide) (by decide) (gw_le.rf _) ⟨rfl, rfl, by rw [tLaw, he]; first | (rw [show 900 - i = 0 by omega]; rfl) | (rw [tLawL_a h34])⟩
      · refine g_aload_n fx dX8_readLaw_37 rfl ?_
        refine g_callVD0 fx dX8_readLaw_38 mv_RX8_51 my_X8_readRule (s_X8_readRule ad _ ) o_73 rfl rfl rfl (Nat.le_of_ble_eq_true rfl) (by decide) (by decide) ?_
        refine g_iinc1 fx dX8_readLaw_41 (by decide) rfl rfl (by unfold okI; omega) rfl ?_
        refine g_goto (tgt := 20) fx dX8_readLaw_44 (by decide) ?_
        exact gw_cg rfl (by rw [show ((i : Nat) : Int) + 1 = ((i + 1 : Nat) : Int) by omega]; rfl) (ih (by omega) _ (by rw [he, tLawL_b h34 (by omega), show 900 - i - 1 = 900 - (i + 1) by omega]))
  exact loop20 0 (Nat.zero_le _) _ rfl
