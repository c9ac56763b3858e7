theorem dX10_costOfTold_0 : gw_dc cX10_costOfTold 0 (.aload_n 0) 1 1 := ⟨by decide +kernel, rfl⟩
theorem dX10_costOfTold_1 : gw_dc cX10_costOfTold 1 (.getfield 37) 3 4 := ⟨by decide +kernel, rfl⟩
theorem dX10_costOfTold_4 : gw_dc cX10_costOfTold 4 (.aload_n 0) 1 5 := ⟨by decide +kernel, rfl⟩
theorem dX10_costOfTold_5 : gw_dc cX10_costOfTold 5 (.getfield 80) 3 8 := ⟨by decide +kernel, rfl⟩
theorem fk_RX10_80 : gw_fk RX10 80 10 10 14 1 true := ⟨_, _, _, ck_10, by decide, by decide, fun h => absurd h (by decide), fun h => absurd h (by decide), fun _ => Or.inl ⟨_, rfl⟩, rfl, Or.inl (gw_mem 515 (by decide +kernel) rfl)⟩
theorem rf_0_10 {ad : Nat → Nat} : (gw_M0 ad).2.2 0 10 = some 143 := (by decide +kernel : gw_rh 0 10 = some 143)
theorem in_143 : (143, 60) ∈ gw_rows := by decide +kernel
theorem dX10_costOfTold_8 : gw_dc cX10_costOfTold 8 (.invokevirtual 328) 3 11 := ⟨by decide +kernel, rfl⟩
theorem mv_RX10_328 : gw_mv RX10 328 yX5_follow := ⟨gw_mem 1180 (by decide +kernel) rfl, gw_mem 1181 (by decide +kernel) rfl, gw_mem 1182 (by decide +kernel) rfl⟩
theorem my_X5_follow : gw_my yX5_follow cX5_follow 4 none 1 := ⟨gw_mem 1183 (by decide +kernel) rfl, gw_mem 101 (by decide +kernel) rfl, by decide +kernel, by decide⟩
theorem dX10_costOfTold_11 : gw_dc cX10_costOfTold 11 (.aload_n 0) 1 12 := ⟨by decide +kernel, rfl⟩
theorem dX10_costOfTold_12 : gw_dc cX10_costOfTold 12 (.getfield 37) 3 15 := ⟨by decide +kernel, rfl⟩
theorem dX10_costOfTold_15 : gw_dc cX10_costOfTold 15 (.invokevirtual 263) 3 18 := ⟨by decide +kernel, rfl⟩
theorem dX10_costOfTold_18 : decode cX10_costOfTold 18 = .ok (.ireturn, 1) := by decide +kernel
theorem dX10_partsSack_0 : gw_dc cX10_partsSack 0 (.aload_n 0) 1 1 := ⟨by decide +kernel, rfl⟩
theorem dX10_partsSack_1 : gw_dc cX10_partsSack 1 (.getfield 28) 3 4 := ⟨by decide +kernel, rfl⟩
theorem dX10_partsSack_4 : gw_dc cX10_partsSack 4 (.getfield 152) 3 7 := ⟨by decide +kernel, rfl⟩
theorem dX10_partsSack_7 : gw_dc cX10_partsSack 7 (.iload_n 2) 1 8 := ⟨by decide +kernel, rfl⟩
theorem dX10_partsSack_8 : gw_dc cX10_partsSack 8 (.invokevirtual 155) 3 11 := ⟨by decide +kernel, rfl⟩
theorem dX10_partsSack_11 : gw_dc cX10_partsSack 11 (.istore_n 3) 1 12 := ⟨by decide +kernel, rfl⟩
theorem dX10_partsSack_12 : gw_dc cX10_partsSack 12 (.aload_n 1) 1 13 := ⟨by decide +kernel, rfl⟩
theorem dX10_partsSack_13 : gw_dc cX10_partsSack 13 (.getfield 215) 3 16 := ⟨by decide +kernel, rfl⟩
theorem dX10_partsSack_16 : gw_dc cX10_partsSack 16 (.iconst 1) 1 17 := ⟨by decide +kernel, rfl⟩
theorem dX10_partsSack_17 : gw_dc cX10_partsSack 17 (.if_icmp .lt 16) 3 20 := ⟨by decide +kernel, rfl⟩
theorem dX10_partsSack_33 : gw_dc cX10_partsSack 33 (.iconst 0) 1 34 := ⟨by decide +kernel, rfl⟩
theorem dX10_partsSack_34 : gw_dc cX10_partsSack 34 (.istore 4) 2 36 := ⟨by decide +kernel, rfl⟩
theorem dX10_partsSack_36 : gw_dc cX10_partsSack 36 (.iconst 0) 1 37 := ⟨by decide +kernel, rfl⟩
theorem dX10_partsSack_37 : gw_dc cX10_partsSack 37 (.istore 5) 2 39 := ⟨by decide +kernel, rfl⟩
theorem dX10_partsSack_39 : gw_dc cX10_partsSack 39 (.iload 5) 2 41 := ⟨by decide +kernel, rfl⟩
theorem dX10_partsSack_41 : gw_dc cX10_partsSack 41 (.aload_n 1) 1 42 := ⟨by decide +kernel, rfl⟩
theorem dX10_partsSack_42 : gw_dc cX10_partsSack 42 (.getfield 215) 3 45 := ⟨by decide +kernel, rfl⟩
theorem dX10_partsSack_45 : gw_dc cX10_partsSack 45 (.if_icmp .ge 59) 3 48 := ⟨by decide +kernel, rfl⟩
theorem dX10_partsSack_104 : gw_dc cX10_partsSack 104 (.iload 4) 2 106 := ⟨by decide +kernel, rfl⟩
theorem dX10_partsSack_106 : gw_dc cX10_partsSack 106 (.ifCond .eq 29) 3 109 := ⟨by decide +kernel, rfl⟩
theorem dX10_partsSack_135 : gw_dc cX10_partsSack 135 (.iconst 0) 1 136 := ⟨by decide +kernel, rfl⟩
theorem dX10_partsSack_136 : decode cX10_partsSack 136 = .ok (.ireturn, 1) := by decide +kernel
theorem dX10_partsSack_109 : gw_dc cX10_partsSack 109 (.iload_n 3) 1 110 := ⟨by decide +kernel, rfl⟩
theorem dX10_partsSack_110 : gw_dc cX10_partsSack 110 (.ifCond .ne 25) 3 113 := ⟨by decide +kernel, rfl⟩
theorem dX10_partsSack_113 : gw_dc cX10_partsSack 113 (.aload_n 0) 1 114 := ⟨by decide +kernel, rfl⟩
theorem dX10_partsSack_114 : gw_dc cX10_partsSack 114 (.getfield 28) 3 117 := ⟨by decide +kernel, rfl⟩
theorem dX10_partsSack_117 : gw_dc cX10_partsSack 117 (.iload_n 2) 1 118 := ⟨by decide +kernel, rfl⟩
theorem dX10_partsSack_118 : gw_dc cX10_partsSack 118 (.invokevirtual 230) 3 121 := ⟨by decide +kernel, rfl⟩
theorem mv_RX10_230 : gw_mv RX10 230 yX1_piecesBeside := ⟨gw_mem 1083 (by decide +kernel) rfl, gw_mem 1084 (by decide +kernel) rfl, gw_mem 1085 (by decide +kernel) rfl⟩
theorem dX10_partsSack_121 : gw_dc cX10_partsSack 121 (.aload_n 1) 1 122 := ⟨by decide +kernel, rfl⟩
theorem dX10_partsSack_122 : gw_dc cX10_partsSack 122 (.getfield 215) 3 125 := ⟨by decide +kernel, rfl⟩
theorem dX10_partsSack_125 : gw_dc cX10_partsSack 125 (.iadd) 1 126 := ⟨by decide +kernel, rfl⟩
theorem dX10_partsSack_126 : gw_dc cX10_partsSack 126 (.bipush 60) 2 128 := ⟨by decide +kernel, rfl⟩
theorem dX10_partsSack_128 : gw_dc cX10_partsSack 128 (.if_icmp .gt 7) 3 131 := ⟨by decide +kernel, rfl⟩
theorem dX10_partsSack_131 : gw_dc cX10_partsSack 131 (.iconst 1) 1 132 := ⟨by decide +kernel, rfl⟩
theorem dX10_partsSack_132 : gw_dc cX10_partsSack 132 (.goto 4) 3 135 := ⟨by decide +kernel, rfl⟩
theorem dX10_partsSack_48 : gw_dc cX10_partsSack 48 (.iload 4) 2 50 := ⟨by decide +kernel, rfl⟩
theorem dX10_partsSack_50 : gw_dc cX10_partsSack 50 (.ifCond .eq 54) 3 53 := ⟨by decide +kernel, rfl⟩
theorem dX10_partsSack_53 : gw_dc cX10_partsSack 53 (.aload_n 1) 1 54 := ⟨by decide +kernel, rfl⟩
theorem dX10_partsSack_54 : gw_dc cX10_partsSack 54 (.iload 5) 2 56 := ⟨by decide +kernel, rfl⟩
theorem dX10_partsSack_56 : gw_dc cX10_partsSack 56 (.invokevirtual 216) 3 59 := ⟨by decide +kernel, rfl⟩
theorem mv_RX10_216 : gw_mv RX10 216 yX9_at := ⟨gw_mem 1078 (by decide +kernel) rfl, gw_mem 1079 (by decide +kernel) rfl, gw_mem 1080 (by decide +kernel) rfl⟩
theorem my_X9_at : gw_my yX9_at cX9_at 2 (some .long) 1 := ⟨gw_mem 1081 (by decide +kernel) rfl, gw_mem 105 (by decide +kernel) rfl, by decide +kernel, by decide⟩
theorem dX10_partsSack_59 : gw_dc cX10_partsSack 59 (.lstore 6) 2 61 := ⟨by decide +kernel, rfl⟩
theorem dX10_partsSack_61 : gw_dc cX10_partsSack 61 (.lload 6) 2 63 := ⟨by decide +kernel, rfl⟩
theorem dX10_partsSack_63 : gw_dc cX10_partsSack 63 (.lconst 1) 1 64 := ⟨by decide +kernel, rfl⟩
theorem dX10_partsSack_64 : gw_dc cX10_partsSack 64 (.lcmp) 1 65 := ⟨by decide +kernel, rfl⟩
theorem dX10_partsSack_65 : gw_dc cX10_partsSack 65 (.ifCond .lt 15) 3 68 := ⟨by decide +kernel, rfl⟩
theorem dX10_partsSack_80 : gw_dc cX10_partsSack 80 (.iconst 0) 1 81 := ⟨by decide +kernel, rfl⟩
theorem dX10_partsSack_81 : gw_dc cX10_partsSack 81 (.istore 4) 2 83 := ⟨by decide +kernel, rfl⟩
theorem dX10_partsSack_83 : gw_dc cX10_partsSack 83 (.iload 4) 2 85 := ⟨by decide +kernel, rfl⟩
theorem dX10_partsSack_85 : gw_dc cX10_partsSack 85 (.ifCond .eq 11) 3 88 := ⟨by decide +kernel, rfl⟩
theorem dX10_partsSack_96 : gw_dc cX10_partsSack 96 (.iload_n 3) 1 97 := ⟨by decide +kernel, rfl⟩
theorem dX10_partsSack_97 : gw_dc cX10_partsSack 97 (.istore_n 3) 1 98 := ⟨by decide +kernel, rfl⟩
theorem dX10_partsSack_98 : gw_dc cX10_partsSack 98 (.iinc 5 1) 3 101 := ⟨by decide +kernel, rfl⟩
theorem dX10_partsSack_101 : gw_dc cX10_partsSack 101 (.goto (-62)) 3 104 := ⟨by decide +kernel, rfl⟩
theorem dX10_partsSack_88 : gw_dc cX10_partsSack 88 (.iload_n 3) 1 89 := ⟨by decide +kernel, rfl⟩
theorem dX10_partsSack_89 : gw_dc cX10_partsSack 89 (.lload 6) 2 91 := ⟨by decide +kernel, rfl⟩
theorem dX10_partsSack_91 : gw_dc cX10_partsSack 91 (.l2i) 1 92 := ⟨by decide +kernel, rfl⟩
theorem dX10_partsSack_92 : gw_dc cX10_partsSack 92 (.isub) 1 93 := ⟨by decide +kernel, rfl⟩
theorem dX10_partsSack_93 : gw_dc cX10_partsSack 93 (.goto 4) 3 96 := ⟨by decide +kernel, rfl⟩
theorem dX10_partsSack_68 : gw_dc cX10_partsSack 68 (.lload 6) 2 70 := ⟨by decide +kernel, rfl⟩
theorem dX10_partsSack_70 : gw_dc cX10_partsSack 70 (.iload_n 3) 1 71 := ⟨by decide +kernel, rfl⟩
theorem dX10_partsSack_71 : gw_dc cX10_partsSack 71 (.i2l) 1 72 := ⟨by decide +kernel, rfl⟩
theorem dX10_partsSack_72 : gw_dc cX10_partsSack 72 (.lcmp) 1 73 := ⟨by decide +kernel, rfl⟩
theorem dX10_partsSack_73 : gw_dc cX10_partsSack 73 (.ifCond .gt 7) 3 76 := ⟨by decide +kernel, rfl⟩
theorem dX10_partsSack_76 : gw_dc cX10_partsSack 76 (.iconst 1) 1 77 := ⟨by decide +kernel, rfl⟩
theorem dX10_partsSack_77 : gw_dc cX10_partsSack 77 (.goto 4) 3 80 := ⟨by decide +kernel, rfl⟩
theorem dX10_partsSack_20 : gw_dc cX10_partsSack 20 (.aload_n 1) 1 21 := ⟨by decide +kernel, rfl⟩
theorem dX10_partsSack_21 : gw_dc cX10_partsSack 21 (.getfield 215) 3 24 := ⟨by decide +kernel, rfl⟩
theorem dX10_partsSack_24 : gw_dc cX10_partsSack 24 (.bipush 8) 2 26 := ⟨by decide +kernel, rfl⟩
theorem dX10_partsSack_26 : gw_dc cX10_partsSack 26 (.if_icmp .gt 7) 3 29 := ⟨by decide +kernel, rfl⟩
theorem dX10_partsSack_29 : gw_dc cX10_partsSack 29 (.iconst 1) 1 30 := ⟨by decide +kernel, rfl⟩
theorem dX10_partsSack_30 : gw_dc cX10_partsSack 30 (.goto 4) 3 33 := ⟨by decide +kernel, rfl⟩
theorem dX10_part_0 : gw_dc cX10_part 0 (.aload_n 0) 1 1 := ⟨by decide +kernel, rfl⟩
theorem dX10_part_1 : gw_dc cX10_part 1 (.iload_n 1) 1 2 := ⟨by decide +kernel, rfl⟩
theorem dX10_part_2 : gw_dc cX10_part 2 (.invokevirtual 149) 3 5 := ⟨by decide +kernel, rfl⟩
theorem dX10_part_5 : gw_dc cX10_part 5 (.aload_n 0) 1 6 := ⟨by decide +kernel, rfl⟩
theorem dX10_part_6 : gw_dc cX10_part 6 (.iload_n 2) 1 7 := ⟨by decide +kernel, rfl⟩
theorem dX10_part_7 : gw_dc cX10_part 7 (.invokevirtual 205) 3 10 := ⟨by decide +kernel, rfl⟩
theorem mv_RX10_205 : gw_mv RX10 205 yX10_needFullTray := ⟨gw_mem 1049 (by decide +kernel) rfl, gw_mem 1051 (by decide +kernel) rfl, gw_mem 21 (by decide +kernel) rfl⟩
theorem my_X10_needFullTray : gw_my yX10_needFullTray cX10_needFullTray 3 (some (.object "LightestSack$Tray")) 1 := ⟨gw_mem 1052 (by decide +kernel) rfl, gw_mem 95 (by decide +kernel) rfl, by decide +kernel, by decide⟩
theorem dX10_part_10 : gw_dc cX10_part 10 (.astore_n 3) 1 11 := ⟨by decide +kernel, rfl⟩
theorem dX10_part_11 : gw_dc cX10_part 11 (.aload_n 0) 1 12 := ⟨by decide +kernel, rfl⟩
theorem dX10_part_12 : gw_dc cX10_part 12 (.aload_n 3) 1 13 := ⟨by decide +kernel, rfl⟩
theorem dX10_part_13 : gw_dc cX10_part 13 (.iload_n 1) 1 14 := ⟨by decide +kernel, rfl⟩
theorem dX10_part_14 : gw_dc cX10_part 14 (.invokevirtual 209) 3 17 := ⟨by decide +kernel, rfl⟩
theorem mv_RX10_209 : gw_mv RX10 209 yX10_partsSack := ⟨gw_mem 1074 (by decide +kernel) rfl, gw_mem 1076 (by decide +kernel) rfl, gw_mem 23 (by decide +kernel) rfl⟩
theorem my_X10_partsSack : gw_my yX10_partsSack cX10_partsSack 8 (some .boolean) 2 := ⟨gw_mem 1077 (by decide +kernel) rfl, gw_mem 95 (by decide +kernel) rfl, by decide +kernel, by decide⟩
theorem dX10_part_17 : gw_dc cX10_part 17 (.ifCond .ne 13) 3 20 := ⟨by decide +kernel, rfl⟩
theorem dX10_part_30 : gw_dc cX10_part 30 (.iconst 0) 1 31 := ⟨by decide +kernel, rfl⟩
theorem dX10_part_31 : gw_dc cX10_part 31 (.istore 4) 2 33 := ⟨by decide +kernel, rfl⟩
theorem dX10_part_33 : gw_dc cX10_part 33 (.iload 4) 2 35 := ⟨by decide +kernel, rfl⟩
theorem dX10_part_35 : gw_dc cX10_part 35 (.aload_n 3) 1 36 := ⟨by decide +kernel, rfl⟩
theorem dX10_part_36 : gw_dc cX10_part 36 (.getfield 215) 3 39 := ⟨by decide +kernel, rfl⟩
theorem dX10_part_39 : gw_dc cX10_part 39 (.if_icmp .ge 25) 3 42 := ⟨by decide +kernel, rfl⟩
theorem dX10_part_64 : gw_dc cX10_part 64 (.aload_n 0) 1 65 := ⟨by decide +kernel, rfl⟩
theorem dX10_part_65 : gw_dc cX10_part 65 (.getfield 28) 3 68 := ⟨by decide +kernel, rfl⟩
theorem dX10_part_68 : gw_dc cX10_part 68 (.iload_n 1) 1 69 := ⟨by decide +kernel, rfl⟩
theorem dX10_part_69 : gw_dc cX10_part 69 (.aload_n 0) 1 70 := ⟨by decide +kernel, rfl⟩
theorem dX10_part_70 : gw_dc cX10_part 70 (.getfield 80) 3 73 := ⟨by decide +kernel, rfl⟩
theorem dX10_part_73 : gw_dc cX10_part 73 (.aload_n 3) 1 74 := ⟨by decide +kernel, rfl⟩
theorem dX10_part_74 : gw_dc cX10_part 74 (.getfield 215) 3 77 := ⟨by decide +kernel, rfl⟩
theorem dX10_part_77 : gw_dc cX10_part 77 (.invokevirtual 222) 3 80 := ⟨by decide +kernel, rfl⟩
theorem mv_RX10_222 : gw_mv RX10 222 yX1_setWay := ⟨gw_mem 1090 (by decide +kernel) rfl, gw_mem 1091 (by decide +kernel) rfl, gw_mem 1092 (by decide +kernel) rfl⟩
theorem dX10_part_80 : gw_dc cX10_part 80 (.aload_n 0) 1 81 := ⟨by decide +kernel, rfl⟩
theorem dX10_part_81 : gw_dc cX10_part 81 (.getfield 28) 3 84 := ⟨by decide +kernel, rfl⟩
theorem dX10_part_84 : gw_dc cX10_part 84 (.invokevirtual 226) 3 87 := ⟨by decide +kernel, rfl⟩
theorem dX10_part_87 : decode cX10_part 87 = .ok (.ireturn, 1) := by decide +kernel
theorem dX10_part_42 : gw_dc cX10_part 42 (.aload_n 0) 1 43 := ⟨by decide +kernel, rfl⟩
theorem dX10_part_43 : gw_dc cX10_part 43 (.getfield 80) 3 46 := ⟨by decide +kernel, rfl⟩
theorem dX10_part_46 : gw_dc cX10_part 46 (.iload 4) 2 48 := ⟨by decide +kernel, rfl⟩
theorem dX10_part_48 : gw_dc cX10_part 48 (.aload_n 3) 1 49 := ⟨by decide +kernel, rfl⟩
theorem dX10_part_49 : gw_dc cX10_part 49 (.iload 4) 2 51 := ⟨by decide +kernel, rfl⟩
theorem dX10_part_51 : gw_dc cX10_part 51 (.invokevirtual 216) 3 54 := ⟨by decide +kernel, rfl⟩
theorem dX10_part_54 : gw_dc cX10_part 54 (.l2i) 1 55 := ⟨by decide +kernel, rfl⟩
theorem dX10_part_55 : gw_dc cX10_part 55 (.invokevirtual 219) 3 58 := ⟨by decide +kernel, rfl⟩
theorem mv_RX10_219 : gw_mv RX10 219 yX4_put := ⟨gw_mem 1089 (by decide +kernel) rfl, gw_mem 207 (by decide +kernel) rfl, gw_mem 208 (by decide +kernel) rfl⟩
theorem dX10_part_58 : gw_dc cX10_part 58 (.iinc 4 1) 3 61 := ⟨by decide +kernel, rfl⟩
theorem dX10_part_61 : gw_dc cX10_part 61 (.goto (-28)) 3 64 := ⟨by decide +kernel, rfl⟩
theorem eX10_part_20 : decode cX10_part 20 = .ok (.new 142, 3) := by decide +kernel
theorem eX10_part_23 : decode cX10_part 23 = .ok (.dup, 1) := by decide +kernel
theorem eX10_part_24 : decode cX10_part 24 = .ok (.ldc 213, 2) := by decide +kernel
theorem eX10_part_26 : decode cX10_part 26 = .ok (.invokespecial 146, 3) := by decide +kernel
theorem eX10_part_29 : decode cX10_part 29 = .ok (.athrow, 1) := by decide +kernel
theorem dX10_tellsAnOrder_0 : gw_dc cX10_tellsAnOrder 0 (.aload_n 0) 1 1 := ⟨by decide +kernel, rfl⟩
theorem dX10_tellsAnOrder_1 : gw_dc cX10_tellsAnOrder 1 (.getfield 28) 3 4 := ⟨by decide +kernel, rfl⟩
theorem dX10_tellsAnOrder_4 : gw_dc cX10_tellsAnOrder 4 (.invokevirtual 226) 3 7 := ⟨by decide +kernel, rfl⟩
theorem dX10_tellsAnOrder_7 : gw_dc cX10_tellsAnOrder 7 (.istore_n 2) 1 8 := ⟨by decide +kernel, rfl⟩
theorem dX10_tellsAnOrder_8 : gw_dc cX10_tellsAnOrder 8 (.aload_n 1) 1 9 := ⟨by decide +kernel, rfl⟩
theorem dX10_tellsAnOrder_9 : gw_dc cX10_tellsAnOrder 9 (.getfield 215) 3 12 := ⟨by decide +kernel, rfl⟩
theorem dX10_tellsAnOrder_12 : gw_dc cX10_tellsAnOrder 12 (.iload_n 2) 1 13 := ⟨by decide +kernel, rfl⟩
theorem dX10_tellsAnOrder_13 : gw_dc cX10_tellsAnOrder 13 (.if_icmp .ne 7) 3 16 := ⟨by decide +kernel, rfl⟩
theorem dX10_tellsAnOrder_20 : gw_dc cX10_tellsAnOrder 20 (.iconst 0) 1 21 := ⟨by decide +kernel, rfl⟩
theorem dX10_tellsAnOrder_21 : gw_dc cX10_tellsAnOrder 21 (.istore_n 3) 1 22 := ⟨by decide +kernel, rfl⟩
theorem dX10_tellsAnOrder_22 : gw_dc cX10_tellsAnOrder 22 (.aload_n 0) 1 23 := ⟨by decide +kernel, rfl⟩
theorem dX10_tellsAnOrder_23 : gw_dc cX10_tellsAnOrder 23 (.getfield 84) 3 26 := ⟨by decide +kernel, rfl⟩
theorem fk_RX10_84 : gw_fk RX10 84 10 11 14 1 true := ⟨_, _, _, ck_10, by decide, by decide, fun h => absurd h (by decide), fun h => absurd h (by decide), fun _ => Or.inl ⟨_, rfl⟩, rfl, Or.inl (gw_mem 516 (by decide +kernel) rfl)⟩
theorem rf_0_11 {ad : Nat → Nat} : (gw_M0 ad).2.2 0 11 = some 145 := (by decide +kernel : gw_rh 0 11 = some 145)
theorem in_145 : (145, 60) ∈ gw_rows := by decide +kernel
theorem dX10_tellsAnOrder_26 : gw_dc cX10_tellsAnOrder 26 (.iconst 0) 1 27 := ⟨by decide +kernel, rfl⟩
theorem dX10_tellsAnOrder_27 : gw_dc cX10_tellsAnOrder 27 (.invokevirtual 332) 3 30 := ⟨by decide +kernel, rfl⟩
theorem mv_RX10_332 : gw_mv RX10 332 yX4_fill := ⟨gw_mem 1175 (by decide +kernel) rfl, gw_mem 599 (by decide +kernel) rfl, gw_mem 600 (by decide +kernel) rfl⟩
theorem dX10_tellsAnOrder_30 : gw_dc cX10_tellsAnOrder 30 (.iconst 0) 1 31 := ⟨by decide +kernel, rfl⟩
theorem dX10_tellsAnOrder_31 : gw_dc cX10_tellsAnOrder 31 (.istore 4) 2 33 := ⟨by decide +kernel, rfl⟩
theorem dX10_tellsAnOrder_33 : gw_dc cX10_tellsAnOrder 33 (.iload 4) 2 35 := ⟨by decide +kernel, rfl⟩
theorem dX10_tellsAnOrder_35 : gw_dc cX10_tellsAnOrder 35 (.iload_n 2) 1 36 := ⟨by decide +kernel, rfl⟩
theorem dX10_tellsAnOrder_36 : gw_dc cX10_tellsAnOrder 36 (.if_icmp .ge 90) 3 39 := ⟨by decide +kernel, rfl⟩
theorem dX10_tellsAnOrder_126 : gw_dc cX10_tellsAnOrder 126 (.iload_n 3) 1 127 := ⟨by decide +kernel, rfl⟩
theorem dX10_tellsAnOrder_127 : decode cX10_tellsAnOrder 127 = .ok (.ireturn, 1) := by decide +kernel
theorem dX10_tellsAnOrder_39 : gw_dc cX10_tellsAnOrder 39 (.iload_n 3) 1 40 := ⟨by decide +kernel, rfl⟩
theorem dX10_tellsAnOrder_40 : gw_dc cX10_tellsAnOrder 40 (.ifCond .eq 86) 3 43 := ⟨by decide +kernel, rfl⟩
theorem dX10_tellsAnOrder_43 : gw_dc cX10_tellsAnOrder 43 (.aload_n 1) 1 44 := ⟨by decide +kernel, rfl⟩
theorem dX10_tellsAnOrder_44 : gw_dc cX10_tellsAnOrder 44 (.iload 4) 2 46 := ⟨by decide +kernel, rfl⟩
theorem dX10_tellsAnOrder_46 : gw_dc cX10_tellsAnOrder 46 (.invokevirtual 216) 3 49 := ⟨by decide +kernel, rfl⟩
theorem dX10_tellsAnOrder_49 : gw_dc cX10_tellsAnOrder 49 (.lstore 5) 2 51 := ⟨by decide +kernel, rfl⟩
theorem dX10_tellsAnOrder_51 : gw_dc cX10_tellsAnOrder 51 (.lload 5) 2 53 := ⟨by decide +kernel, rfl⟩
theorem dX10_tellsAnOrder_53 : gw_dc cX10_tellsAnOrder 53 (.lconst 0) 1 54 := ⟨by decide +kernel, rfl⟩
theorem dX10_tellsAnOrder_54 : gw_dc cX10_tellsAnOrder 54 (.lcmp) 1 55 := ⟨by decide +kernel, rfl⟩
theorem dX10_tellsAnOrder_55 : gw_dc cX10_tellsAnOrder 55 (.ifCond .lt 17) 3 58 := ⟨by decide +kernel, rfl⟩
theorem dX10_tellsAnOrder_72 : gw_dc cX10_tellsAnOrder 72 (.iconst (-1)) 1 73 := ⟨by decide +kernel, rfl⟩
theorem dX10_tellsAnOrder_73 : gw_dc cX10_tellsAnOrder 73 (.istore 7) 2 75 := ⟨by decide +kernel, rfl⟩
theorem dX10_tellsAnOrder_75 : gw_dc cX10_tellsAnOrder 75 (.iload 7) 2 77 := ⟨by decide +kernel, rfl⟩
theorem dX10_tellsAnOrder_77 : gw_dc cX10_tellsAnOrder 77 (.iconst (-1)) 1 78 := ⟨by decide +kernel, rfl⟩
theorem dX10_tellsAnOrder_78 : gw_dc cX10_tellsAnOrder 78 (.if_icmp .eq 19) 3 81 := ⟨by decide +kernel, rfl⟩
theorem dX10_tellsAnOrder_97 : gw_dc cX10_tellsAnOrder 97 (.iconst 0) 1 98 := ⟨by decide +kernel, rfl⟩
theorem dX10_tellsAnOrder_98 : gw_dc cX10_tellsAnOrder 98 (.istore_n 3) 1 99 := ⟨by decide +kernel, rfl⟩
theorem dX10_tellsAnOrder_99 : gw_dc cX10_tellsAnOrder 99 (.aload_n 0) 1 100 := ⟨by decide +kernel, rfl⟩
theorem dX10_tellsAnOrder_100 : gw_dc cX10_tellsAnOrder 100 (.getfield 84) 3 103 := ⟨by decide +kernel, rfl⟩
theorem dX10_tellsAnOrder_103 : gw_dc cX10_tellsAnOrder 103 (.iload 7) 2 105 := ⟨by decide +kernel, rfl⟩
theorem dX10_tellsAnOrder_105 : gw_dc cX10_tellsAnOrder 105 (.iconst 1) 1 106 := ⟨by decide +kernel, rfl⟩
theorem dX10_tellsAnOrder_106 : gw_dc cX10_tellsAnOrder 106 (.invokevirtual 219) 3 109 := ⟨by decide +kernel, rfl⟩
theorem dX10_tellsAnOrder_109 : gw_dc cX10_tellsAnOrder 109 (.aload_n 0) 1 110 := ⟨by decide +kernel, rfl⟩
theorem dX10_tellsAnOrder_110 : gw_dc cX10_tellsAnOrder 110 (.getfield 80) 3 113 := ⟨by decide +kernel, rfl⟩
theorem dX10_tellsAnOrder_113 : gw_dc cX10_tellsAnOrder 113 (.iload 4) 2 115 := ⟨by decide +kernel, rfl⟩
theorem dX10_tellsAnOrder_115 : gw_dc cX10_tellsAnOrder 115 (.iload 7) 2 117 := ⟨by decide +kernel, rfl⟩
theorem dX10_tellsAnOrder_117 : gw_dc cX10_tellsAnOrder 117 (.invokevirtual 219) 3 120 := ⟨by decide +kernel, rfl⟩
theorem dX10_tellsAnOrder_120 : gw_dc cX10_tellsAnOrder 120 (.iinc 4 1) 3 123 := ⟨by decide +kernel, rfl⟩
theorem dX10_tellsAnOrder_123 : gw_dc cX10_tellsAnOrder 123 (.goto (-90)) 3 126 := ⟨by decide +kernel, rfl⟩
theorem dX10_tellsAnOrder_81 : gw_dc cX10_tellsAnOrder 81 (.aload_n 0) 1 82 := ⟨by decide +kernel, rfl⟩
theorem dX10_tellsAnOrder_82 : gw_dc cX10_tellsAnOrder 82 (.getfield 84) 3 85 := ⟨by decide +kernel, rfl⟩
theorem dX10_tellsAnOrder_85 : gw_dc cX10_tellsAnOrder 85 (.iload 7) 2 87 := ⟨by decide +kernel, rfl⟩
theorem dX10_tellsAnOrder_87 : gw_dc cX10_tellsAnOrder 87 (.invokevirtual 155) 3 90 := ⟨by decide +kernel, rfl⟩
theorem dX10_tellsAnOrder_90 : gw_dc cX10_tellsAnOrder 90 (.ifCond .ne 7) 3 93 := ⟨by decide +kernel, rfl⟩
theorem dX10_tellsAnOrder_93 : gw_dc cX10_tellsAnOrder 93 (.iconst 1) 1 94 := ⟨by decide +kernel, rfl⟩
theorem dX10_tellsAnOrder_94 : gw_dc cX10_tellsAnOrder 94 (.goto 4) 3 97 := ⟨by decide +kernel, rfl⟩
theorem dX10_tellsAnOrder_58 : gw_dc cX10_tellsAnOrder 58 (.lload 5) 2 60 := ⟨by decide +kernel, rfl⟩
theorem dX10_tellsAnOrder_60 : gw_dc cX10_tellsAnOrder 60 (.iload_n 2) 1 61 := ⟨by decide +kernel, rfl⟩
theorem dX10_tellsAnOrder_61 : gw_dc cX10_tellsAnOrder 61 (.i2l) 1 62 := ⟨by decide +kernel, rfl⟩
theorem dX10_tellsAnOrder_62 : gw_dc cX10_tellsAnOrder 62 (.lcmp) 1 63 := ⟨by decide +kernel, rfl⟩
theorem dX10_tellsAnOrder_63 : gw_dc cX10_tellsAnOrder 63 (.ifCond .ge 9) 3 66 := ⟨by decide +kernel, rfl⟩
theorem dX10_tellsAnOrder_66 : gw_dc cX10_tellsAnOrder 66 (.lload 5) 2 68 := ⟨by decide +kernel, rfl⟩
theorem dX10_tellsAnOrder_68 : gw_dc cX10_tellsAnOrder 68 (.l2i) 1 69 := ⟨by decide +kernel, rfl⟩
theorem dX10_tellsAnOrder_69 : gw_dc cX10_tellsAnOrder 69 (.goto 4) 3 72 := ⟨by decide +kernel, rfl⟩
theorem dX10_tellsAnOrder_16 : gw_dc cX10_tellsAnOrder 16 (.iconst 1) 1 17 := ⟨by decide +kernel, rfl⟩
theorem dX10_tellsAnOrder_17 : gw_dc cX10_tellsAnOrder 17 (.goto 4) 3 20 := ⟨by decide +kernel, rfl⟩
theorem dX10_cost_0 : gw_dc cX10_cost 0 (.aload_n 0) 1 1 := ⟨by decide +kernel, rfl⟩
theorem dX10_cost_1 : gw_dc cX10_cost 1 (.aload_n 0) 1 2 := ⟨by decide +kernel, rfl⟩
theorem dX10_cost_2 : gw_dc cX10_cost 2 (.iload_n 1) 1 3 := ⟨by decide +kernel, rfl⟩
theorem dX10_cost_3 : gw_dc cX10_cost 3 (.invokevirtual 205) 3 6 := ⟨by decide +kernel, rfl⟩
theorem dX10_cost_6 : gw_dc cX10_cost 6 (.invokevirtual 304) 3 9 := ⟨by decide +kernel, rfl⟩
theorem mv_RX10_304 : gw_mv RX10 304 yX10_tellsAnOrder := ⟨gw_mem 1171 (by decide +kernel) rfl, gw_mem 1173 (by decide +kernel) rfl, gw_mem 25 (by decide +kernel) rfl⟩
theorem my_X10_tellsAnOrder : gw_my yX10_tellsAnOrder cX10_tellsAnOrder 8 (some .boolean) 1 := ⟨gw_mem 1174 (by decide +kernel) rfl, gw_mem 95 (by decide +kernel) rfl, by decide +kernel, by decide⟩
theorem dX10_cost_9 : gw_dc cX10_cost 9 (.ifCond .eq 10) 3 12 := ⟨by decide +kernel, rfl⟩
theorem dX10_cost_19 : gw_dc cX10_cost 19 (.iconst (-1)) 1 20 := ⟨by decide +kernel, rfl⟩
theorem dX10_cost_20 : decode cX10_cost 20 = .ok (.ireturn, 1) := by decide +kernel
theorem dX10_cost_12 : gw_dc cX10_cost 12 (.aload_n 0) 1 13 := ⟨by decide +kernel, rfl⟩
theorem dX10_cost_13 : gw_dc cX10_cost 13 (.invokevirtual 308) 3 16 := ⟨by decide +kernel, rfl⟩
theorem mv_RX10_308 : gw_mv RX10 308 yX10_costOfTold := ⟨gw_mem 1176 (by decide +kernel) rfl, gw_mem 1178 (by decide +kernel) rfl, gw_mem 26 (by decide +kernel) rfl⟩
theorem my_X10_costOfTold : gw_my yX10_costOfTold cX10_costOfTold 1 (some .int) 0 := ⟨gw_mem 1179 (by decide +kernel) rfl, gw_mem 95 (by decide +kernel) rfl, by decide +kernel, by decide⟩
theorem dX10_cost_16 : gw_dc cX10_cost 16 (.goto 4) 3 19 := ⟨by decide +kernel, rfl⟩
theorem dX10_swap_0 : gw_dc cX10_swap 0 (.aload_n 0) 1 1 := ⟨by decide +kernel, rfl⟩
theorem dX10_swap_1 : gw_dc cX10_swap 1 (.iload_n 1) 1 2 := ⟨by decide +kernel, rfl⟩
theorem dX10_swap_2 : gw_dc cX10_swap 2 (.invokevirtual 205) 3 5 := ⟨by decide +kernel, rfl⟩
theorem dX10_swap_5 : gw_dc cX10_swap 5 (.astore_n 3) 1 6 := ⟨by decide +kernel, rfl⟩
theorem dX10_swap_6 : gw_dc cX10_swap 6 (.iload_n 2) 1 7 := ⟨by decide +kernel, rfl⟩
theorem dX10_swap_7 : gw_dc cX10_swap 7 (.ifCond .lt 13) 3 10 := ⟨by decide +kernel, rfl⟩
theorem eX10_swap_20 : decode cX10_swap 20 = .ok (.new 311, 3) := by decide +kernel
theorem eX10_swap_23 : decode cX10_swap 23 = .ok (.dup, 1) := by decide +kernel
theorem eX10_swap_24 : decode cX10_swap 24 = .ok (.ldc_w 313, 3) := by decide +kernel
theorem eX10_swap_27 : decode cX10_swap 27 = .ok (.invokespecial 315, 3) := by decide +kernel
theorem eX10_swap_30 : decode cX10_swap 30 = .ok (.athrow, 1) := by decide +kernel
set_option maxRecDepth 20000 in
theorem th_RX10_311_315 : gw_th RX10 311 315 "java/lang/IndexOutOfBoundsException" := ⟨by decide +kernel, gw_mem 1192 (by decide +kernel) rfl, gw_mem 118 (by decide +kernel) rfl, by decide +kernel, by decide +kernel⟩
theorem dX10_swap_10 : gw_dc cX10_swap 10 (.iload_n 2) 1 11 := ⟨by decide +kernel, rfl⟩
theorem dX10_swap_11 : gw_dc cX10_swap 11 (.aload_n 3) 1 12 := ⟨by decide +kernel, rfl⟩
theorem dX10_swap_12 : gw_dc cX10_swap 12 (.getfield 215) 3 15 := ⟨by decide +kernel, rfl⟩
theorem dX10_swap_15 : gw_dc cX10_swap 15 (.iconst 1) 1 16 := ⟨by decide +kernel, rfl⟩
theorem dX10_swap_16 : gw_dc cX10_swap 16 (.isub) 1 17 := ⟨by decide +kernel, rfl⟩
theorem dX10_swap_17 : gw_dc cX10_swap 17 (.if_icmp .lt 14) 3 20 := ⟨by decide +kernel, rfl⟩
theorem dX10_swap_31 : gw_dc cX10_swap 31 (.aload_n 0) 1 32 := ⟨by decide +kernel, rfl⟩
theorem dX10_swap_32 : gw_dc cX10_swap 32 (.aload_n 3) 1 33 := ⟨by decide +kernel, rfl⟩
theorem dX10_swap_33 : gw_dc cX10_swap 33 (.invokevirtual 304) 3 36 := ⟨by decide +kernel, rfl⟩
theorem dX10_swap_36 : gw_dc cX10_swap 36 (.ifCond .ne 5) 3 39 := ⟨by decide +kernel, rfl⟩
theorem dX10_swap_41 : gw_dc cX10_swap 41 (.aload_n 0) 1 42 := ⟨by decide +kernel, rfl⟩
theorem dX10_swap_42 : gw_dc cX10_swap 42 (.invokevirtual 308) 3 45 := ⟨by decide +kernel, rfl⟩
theorem dX10_swap_45 : gw_dc cX10_swap 45 (.istore 4) 2 47 := ⟨by decide +kernel, rfl⟩
theorem dX10_swap_47 : gw_dc cX10_swap 47 (.aload_n 0) 1 48 := ⟨by decide +kernel, rfl⟩
theorem dX10_swap_48 : gw_dc cX10_swap 48 (.getfield 80) 3 51 := ⟨by decide +kernel, rfl⟩
theorem dX10_swap_51 : gw_dc cX10_swap 51 (.iload_n 2) 1 52 := ⟨by decide +kernel, rfl⟩
theorem dX10_swap_52 : gw_dc cX10_swap 52 (.invokevirtual 155) 3 55 := ⟨by decide +kernel, rfl⟩
theorem dX10_swap_55 : gw_dc cX10_swap 55 (.istore 5) 2 57 := ⟨by decide +kernel, rfl⟩
theorem dX10_swap_57 : gw_dc cX10_swap 57 (.aload_n 0) 1 58 := ⟨by decide +kernel, rfl⟩
theorem dX10_swap_58 : gw_dc cX10_swap 58 (.getfield 80) 3 61 := ⟨by decide +kernel, rfl⟩
theorem dX10_swap_61 : gw_dc cX10_swap 61 (.iload_n 2) 1 62 := ⟨by decide +kernel, rfl⟩
theorem dX10_swap_62 : gw_dc cX10_swap 62 (.aload_n 0) 1 63 := ⟨by decide +kernel, rfl⟩
theorem dX10_swap_63 : gw_dc cX10_swap 63 (.getfield 80) 3 66 := ⟨by decide +kernel, rfl⟩
theorem dX10_swap_66 : gw_dc cX10_swap 66 (.iload_n 2) 1 67 := ⟨by decide +kernel, rfl⟩
theorem dX10_swap_67 : gw_dc cX10_swap 67 (.iconst 1) 1 68 := ⟨by decide +kernel, rfl⟩
theorem dX10_swap_68 : gw_dc cX10_swap 68 (.iadd) 1 69 := ⟨by decide +kernel, rfl⟩
theorem dX10_swap_69 : gw_dc cX10_swap 69 (.invokevirtual 155) 3 72 := ⟨by decide +kernel, rfl⟩
theorem dX10_swap_72 : gw_dc cX10_swap 72 (.invokevirtual 219) 3 75 := ⟨by decide +kernel, rfl⟩
theorem dX10_swap_75 : gw_dc cX10_swap 75 (.aload_n 0) 1 76 := ⟨by decide +kernel, rfl⟩
theorem dX10_swap_76 : gw_dc cX10_swap 76 (.getfield 80) 3 79 := ⟨by decide +kernel, rfl⟩
theorem dX10_swap_79 : gw_dc cX10_swap 79 (.iload_n 2) 1 80 := ⟨by decide +kernel, rfl⟩
theorem dX10_swap_80 : gw_dc cX10_swap 80 (.iconst 1) 1 81 := ⟨by decide +kernel, rfl⟩
theorem dX10_swap_81 : gw_dc cX10_swap 81 (.iadd) 1 82 := ⟨by decide +kernel, rfl⟩
theorem dX10_swap_82 : gw_dc cX10_swap 82 (.iload 5) 2 84 := ⟨by decide +kernel, rfl⟩
theorem dX10_swap_84 : gw_dc cX10_swap 84 (.invokevirtual 219) 3 87 := ⟨by decide +kernel, rfl⟩
theorem dX10_swap_87 : gw_dc cX10_swap 87 (.aload_n 0) 1 88 := ⟨by decide +kernel, rfl⟩
theorem dX10_swap_88 : gw_dc cX10_swap 88 (.invokevirtual 308) 3 91 := ⟨by decide +kernel, rfl⟩
theorem dX10_swap_91 : gw_dc cX10_swap 91 (.iload 4) 2 93 := ⟨by decide +kernel, rfl⟩
theorem dX10_swap_93 : gw_dc cX10_swap 93 (.isub) 1 94 := ⟨by decide +kernel, rfl⟩
theorem dX10_swap_94 : decode cX10_swap 94 = .ok (.ireturn, 1) := by decide +kernel
theorem dX10_swap_39 : gw_dc cX10_swap 39 (.iconst 0) 1 40 := ⟨by decide +kernel, rfl⟩
theorem dX10_swap_40 : decode cX10_swap 40 = .ok (.ireturn, 1) := by decide +kernel
theorem dX10_best_0 : gw_dc cX10_best 0 (.aload_n 0) 1 1 := ⟨by decide +kernel, rfl⟩
theorem dX10_best_1 : gw_dc cX10_best 1 (.getfield 28) 3 4 := ⟨by decide +kernel, rfl⟩
theorem dX10_best_4 : gw_dc cX10_best 4 (.invokevirtual 226) 3 7 := ⟨by decide +kernel, rfl⟩
theorem dX10_best_7 : gw_dc cX10_best 7 (.bipush 8) 2 9 := ⟨by decide +kernel, rfl⟩
theorem dX10_best_9 : gw_dc cX10_best 9 (.if_icmp .le 6) 3 12 := ⟨by decide +kernel, rfl⟩
theorem dX10_best_15 : gw_dc cX10_best 15 (.aload_n 0) 1 16 := ⟨by decide +kernel, rfl⟩
theorem dX10_best_16 : gw_dc cX10_best 16 (.getfield 71) 3 19 := ⟨by decide +kernel, rfl⟩
theorem fk_RX10_71 : gw_fk RX10 71 10 9 14 1 true := ⟨_, _, _, ck_10, by decide, by decide, fun h => absurd h (by decide), fun h => absurd h (by decide), fun _ => Or.inl ⟨_, rfl⟩, rfl, Or.inl (gw_mem 514 (by decide +kernel) rfl)⟩
theorem rf_0_9 {ad : Nat → Nat} : (gw_M0 ad).2.2 0 9 = some 128 := (by decide +kernel : gw_rh 0 9 = some 128)
theorem dX10_best_19 : gw_dc cX10_best 19 (.invokevirtual 316) 3 22 := ⟨by decide +kernel, rfl⟩
theorem mv_RX10_316 : gw_mv RX10 316 yX6_seek := ⟨gw_mem 686 (by decide +kernel) rfl, gw_mem 687 (by decide +kernel) rfl, gw_mem 688 (by decide +kernel) rfl⟩
theorem my_X6_seek : gw_my yX6_seek cX6_seek 2 none 0 := ⟨gw_mem 689 (by decide +kernel) rfl, gw_mem 104 (by decide +kernel) rfl, by decide +kernel, by decide⟩
theorem dX10_best_22 : gw_dc cX10_best 22 (.iload_n 1) 1 23 := ⟨by decide +kernel, rfl⟩
theorem dX10_best_23 : gw_dc cX10_best 23 (.iconst (-1)) 1 24 := ⟨by decide +kernel, rfl⟩
theorem dX10_best_24 : gw_dc cX10_best 24 (.if_icmp .ne 11) 3 27 := ⟨by decide +kernel, rfl⟩
theorem dX10_best_35 : gw_dc cX10_best 35 (.iload_n 1) 1 36 := ⟨by decide +kernel, rfl⟩
theorem dX10_best_36 : gw_dc cX10_best 36 (.ifCond .lt 28) 3 39 := ⟨by decide +kernel, rfl⟩
theorem dX10_best_64 : gw_dc cX10_best 64 (.iconst (-1)) 1 65 := ⟨by decide +kernel, rfl⟩
theorem dX10_best_65 : decode cX10_best 65 = .ok (.ireturn, 1) := by decide +kernel
theorem dX10_best_39 : gw_dc cX10_best 39 (.iload_n 1) 1 40 := ⟨by decide +kernel, rfl⟩
theorem dX10_best_40 : gw_dc cX10_best 40 (.aload_n 0) 1 41 := ⟨by decide +kernel, rfl⟩
theorem dX10_best_41 : gw_dc cX10_best 41 (.getfield 28) 3 44 := ⟨by decide +kernel, rfl⟩
theorem dX10_best_44 : gw_dc cX10_best 44 (.invokevirtual 226) 3 47 := ⟨by decide +kernel, rfl⟩
theorem dX10_best_47 : gw_dc cX10_best 47 (.if_icmp .ge 17) 3 50 := ⟨by decide +kernel, rfl⟩
theorem dX10_best_50 : gw_dc cX10_best 50 (.aload_n 0) 1 51 := ⟨by decide +kernel, rfl⟩
theorem dX10_best_51 : gw_dc cX10_best 51 (.getfield 71) 3 54 := ⟨by decide +kernel, rfl⟩
theorem dX10_best_54 : gw_dc cX10_best 54 (.getfield 322) 3 57 := ⟨by decide +kernel, rfl⟩
theorem fk_RX10_322 : gw_fk RX10 322 6 8 10 1 true := ⟨_, _, _, ck_6, by decide, by decide, fun h => absurd h (by decide), fun h => absurd h (by decide), fun _ => Or.inl ⟨_, rfl⟩, rfl, Or.inr ⟨"LightestSack", gw_memN 450 (by decide +kernel) rfl⟩⟩
theorem dX10_best_57 : gw_dc cX10_best 57 (.iload_n 1) 1 58 := ⟨by decide +kernel, rfl⟩
theorem dX10_best_58 : gw_dc cX10_best 58 (.invokevirtual 155) 3 61 := ⟨by decide +kernel, rfl⟩
theorem dX10_best_61 : gw_dc cX10_best 61 (.goto 4) 3 64 := ⟨by decide +kernel, rfl⟩
theorem dX10_best_27 : gw_dc cX10_best 27 (.aload_n 0) 1 28 := ⟨by decide +kernel, rfl⟩
theorem dX10_best_28 : gw_dc cX10_best 28 (.getfield 71) 3 31 := ⟨by decide +kernel, rfl⟩
theorem dX10_best_31 : gw_dc cX10_best 31 (.getfield 319) 3 34 := ⟨by decide +kernel, rfl⟩
theorem fk_RX10_319 : gw_fk RX10 319 6 9 10 0 false := ⟨_, _, _, ck_6, by decide, by decide, fun _ => rfl, fun h => absurd h (by decide), fun h => absurd h (by decide), rfl, Or.inr ⟨"LightestSack", gw_memN 452 (by decide +kernel) rfl⟩⟩
theorem dX10_best_34 : decode cX10_best 34 = .ok (.ireturn, 1) := by decide +kernel
theorem dX10_best_12 : gw_dc cX10_best 12 (.bipush (-2)) 2 14 := ⟨by decide +kernel, rfl⟩
theorem dX10_best_14 : decode cX10_best 14 = .ok (.ireturn, 1) := by decide +kernel
theorem dX10_gap_0 : gw_dc cX10_gap 0 (.aload_n 0) 1 1 := ⟨by decide +kernel, rfl⟩
theorem dX10_gap_1 : gw_dc cX10_gap 1 (.getfield 28) 3 4 := ⟨by decide +kernel, rfl⟩
theorem dX10_gap_4 : gw_dc cX10_gap 4 (.getfield 325) 3 7 := ⟨by decide +kernel, rfl⟩
theorem dX10_gap_7 : gw_dc cX10_gap 7 (.iconst 1) 1 8 := ⟨by decide +kernel, rfl⟩
theorem dX10_gap_8 : gw_dc cX10_gap 8 (.if_icmp .le 5) 3 11 := ⟨by decide +kernel, rfl⟩
theorem dX10_gap_13 : gw_dc cX10_gap 13 (.aload_n 0) 1 14 := ⟨by decide +kernel, rfl⟩
theorem dX10_gap_14 : gw_dc cX10_gap 14 (.getfield 28) 3 17 := ⟨by decide +kernel, rfl⟩
theorem dX10_gap_17 : gw_dc cX10_gap 17 (.invokevirtual 226) 3 20 := ⟨by decide +kernel, rfl⟩
theorem dX10_gap_20 : gw_dc cX10_gap 20 (.bipush 8) 2 22 := ⟨by decide +kernel, rfl⟩
theorem dX10_gap_22 : gw_dc cX10_gap 22 (.if_icmp .le 6) 3 25 := ⟨by decide +kernel, rfl⟩
theorem dX10_gap_28 : gw_dc cX10_gap 28 (.aload_n 0) 1 29 := ⟨by decide +kernel, rfl⟩
theorem dX10_gap_29 : gw_dc cX10_gap 29 (.getfield 71) 3 32 := ⟨by decide +kernel, rfl⟩
theorem dX10_gap_32 : gw_dc cX10_gap 32 (.invokevirtual 316) 3 35 := ⟨by decide +kernel, rfl⟩
theorem dX10_gap_35 : gw_dc cX10_gap 35 (.aload_n 0) 1 36 := ⟨by decide +kernel, rfl⟩
theorem dX10_gap_36 : gw_dc cX10_gap 36 (.getfield 37) 3 39 := ⟨by decide +kernel, rfl⟩
theorem dX10_gap_39 : gw_dc cX10_gap 39 (.invokevirtual 189) 3 42 := ⟨by decide +kernel, rfl⟩
theorem dX10_gap_42 : gw_dc cX10_gap 42 (.aload_n 0) 1 43 := ⟨by decide +kernel, rfl⟩
theorem dX10_gap_43 : gw_dc cX10_gap 43 (.getfield 37) 3 46 := ⟨by decide +kernel, rfl⟩
theorem dX10_gap_46 : gw_dc cX10_gap 46 (.invokevirtual 263) 3 49 := ⟨by decide +kernel, rfl⟩
theorem dX10_gap_49 : gw_dc cX10_gap 49 (.aload_n 0) 1 50 := ⟨by decide +kernel, rfl⟩
theorem dX10_gap_50 : gw_dc cX10_gap 50 (.getfield 71) 3 53 := ⟨by decide +kernel, rfl⟩
theorem dX10_gap_53 : gw_dc cX10_gap 53 (.getfield 319) 3 56 := ⟨by decide +kernel, rfl⟩
theorem dX10_gap_56 : gw_dc cX10_gap 56 (.isub) 1 57 := ⟨by decide +kernel, rfl⟩
theorem dX10_gap_57 : decode cX10_gap 57 = .ok (.ireturn, 1) := by decide +kernel
theorem dX10_gap_25 : gw_dc cX10_gap 25 (.bipush (-2)) 2 27 := ⟨by decide +kernel, rfl⟩
theorem dX10_gap_27 : decode cX10_gap 27 = .ok (.ireturn, 1) := by decide +kernel
theorem dX10_gap_11 : gw_dc cX10_gap 11 (.iconst (-1)) 1 12 := ⟨by decide +kernel, rfl⟩
theorem dX10_gap_12 : decode cX10_gap 12 = .ok (.ireturn, 1) := by decide +kernel
theorem dX10_judge_0 : gw_dc cX10_judge 0 (.aload_n 0) 1 1 := ⟨by decide +kernel, rfl⟩
theorem dX10_judge_1 : gw_dc cX10_judge 1 (.iload_n 1) 1 2 := ⟨by decide +kernel, rfl⟩
theorem dX10_judge_2 : gw_dc cX10_judge 2 (.invokevirtual 205) 3 5 := ⟨by decide +kernel, rfl⟩
theorem dX10_judge_5 : gw_dc cX10_judge 5 (.astore_n 3) 1 6 := ⟨by decide +kernel, rfl⟩
theorem dX10_judge_6 : gw_dc cX10_judge 6 (.aload_n 0) 1 7 := ⟨by decide +kernel, rfl⟩
theorem dX10_judge_7 : gw_dc cX10_judge 7 (.iload_n 2) 1 8 := ⟨by decide +kernel, rfl⟩
theorem dX10_judge_8 : gw_dc cX10_judge 8 (.iconst 1) 1 9 := ⟨by decide +kernel, rfl⟩
theorem dX10_judge_9 : gw_dc cX10_judge 9 (.invokevirtual 185) 3 12 := ⟨by decide +kernel, rfl⟩
theorem dX10_judge_12 : gw_dc cX10_judge 12 (.aload_n 0) 1 13 := ⟨by decide +kernel, rfl⟩
theorem dX10_judge_13 : gw_dc cX10_judge 13 (.getfield 37) 3 16 := ⟨by decide +kernel, rfl⟩
theorem dX10_judge_16 : gw_dc cX10_judge 16 (.invokevirtual 189) 3 19 := ⟨by decide +kernel, rfl⟩
theorem dX10_judge_19 : gw_dc cX10_judge 19 (.iconst 0) 1 20 := ⟨by decide +kernel, rfl⟩
theorem dX10_judge_20 : gw_dc cX10_judge 20 (.istore 4) 2 22 := ⟨by decide +kernel, rfl⟩
theorem dX10_judge_22 : gw_dc cX10_judge 22 (.iload 4) 2 24 := ⟨by decide +kernel, rfl⟩
theorem dX10_judge_24 : gw_dc cX10_judge 24 (.aload_n 3) 1 25 := ⟨by decide +kernel, rfl⟩
theorem dX10_judge_25 : gw_dc cX10_judge 25 (.getfield 215) 3 28 := ⟨by decide +kernel, rfl⟩
theorem dX10_judge_28 : gw_dc cX10_judge 28 (.if_icmp .ge 44) 3 31 := ⟨by decide +kernel, rfl⟩
theorem dX10_judge_72 : gw_dc cX10_judge 72 (.iload 4) 2 74 := ⟨by decide +kernel, rfl⟩
theorem dX10_judge_74 : gw_dc cX10_judge 74 (.aload_n 3) 1 75 := ⟨by decide +kernel, rfl⟩
theorem dX10_judge_75 : gw_dc cX10_judge 75 (.getfield 215) 3 78 := ⟨by decide +kernel, rfl⟩
theorem dX10_judge_78 : gw_dc cX10_judge 78 (.if_icmp .ne 17) 3 81 := ⟨by decide +kernel, rfl⟩
theorem dX10_judge_95 : gw_dc cX10_judge 95 (.iload_n 2) 1 96 := ⟨by decide +kernel, rfl⟩
theorem dX10_judge_96 : gw_dc cX10_judge 96 (.ifCond .ne 8) 3 99 := ⟨by decide +kernel, rfl⟩
theorem dX10_judge_104 : gw_dc cX10_judge 104 (.aload_n 0) 1 105 := ⟨by decide +kernel, rfl⟩
theorem dX10_judge_105 : gw_dc cX10_judge 105 (.getfield 37) 3 108 := ⟨by decide +kernel, rfl⟩
theorem dX10_judge_108 : gw_dc cX10_judge 108 (.iload 4) 2 110 := ⟨by decide +kernel, rfl⟩
theorem dX10_judge_110 : gw_dc cX10_judge 110 (.invokevirtual 246) 3 113 := ⟨by decide +kernel, rfl⟩
theorem dX10_judge_113 : decode cX10_judge 113 = .ok (.ireturn, 1) := by decide +kernel
theorem dX10_judge_99 : gw_dc cX10_judge 99 (.iload 4) 2 101 := ⟨by decide +kernel, rfl⟩
theorem dX10_judge_101 : gw_dc cX10_judge 101 (.goto 12) 3 104 := ⟨by decide +kernel, rfl⟩
theorem dX10_judge_81 : gw_dc cX10_judge 81 (.iload 4) 2 83 := ⟨by decide +kernel, rfl⟩
theorem dX10_judge_83 : gw_dc cX10_judge 83 (.aload_n 0) 1 84 := ⟨by decide +kernel, rfl⟩
theorem dX10_judge_84 : gw_dc cX10_judge 84 (.getfield 37) 3 87 := ⟨by decide +kernel, rfl⟩
theorem dX10_judge_87 : gw_dc cX10_judge 87 (.getfield 299) 3 90 := ⟨by decide +kernel, rfl⟩
theorem fk_RX10_299 : gw_fk RX10 299 5 1 15 0 false := ⟨_, _, _, ck_5, by decide, by decide, fun _ => rfl, fun h => absurd h (by decide), fun h => absurd h (by decide), rfl, Or.inr ⟨"LightestSack", gw_memN 329 (by decide +kernel) rfl⟩⟩
theorem dX10_judge_90 : gw_dc cX10_judge 90 (.if_icmp .ne 5) 3 93 := ⟨by decide +kernel, rfl⟩
theorem dX10_judge_93 : gw_dc cX10_judge 93 (.iconst (-1)) 1 94 := ⟨by decide +kernel, rfl⟩
theorem dX10_judge_94 : decode cX10_judge 94 = .ok (.ireturn, 1) := by decide +kernel
theorem dX10_judge_31 : gw_dc cX10_judge 31 (.iload 4) 2 33 := ⟨by decide +kernel, rfl⟩
theorem dX10_judge_33 : gw_dc cX10_judge 33 (.aload_n 0) 1 34 := ⟨by decide +kernel, rfl⟩
theorem dX10_judge_34 : gw_dc cX10_judge 34 (.getfield 37) 3 37 := ⟨by decide +kernel, rfl⟩
theorem dX10_judge_37 : gw_dc cX10_judge 37 (.getfield 299) 3 40 := ⟨by decide +kernel, rfl⟩
theorem dX10_judge_40 : gw_dc cX10_judge 40 (.if_icmp .ge 32) 3 43 := ⟨by decide +kernel, rfl⟩
theorem dX10_judge_43 : gw_dc cX10_judge 43 (.aload_n 3) 1 44 := ⟨by decide +kernel, rfl⟩
theorem dX10_judge_44 : gw_dc cX10_judge 44 (.iload 4) 2 46 := ⟨by decide +kernel, rfl⟩
theorem dX10_judge_46 : gw_dc cX10_judge 46 (.invokevirtual 216) 3 49 := ⟨by decide +kernel, rfl⟩
theorem dX10_judge_49 : gw_dc cX10_judge 49 (.aload_n 0) 1 50 := ⟨by decide +kernel, rfl⟩
theorem dX10_judge_50 : gw_dc cX10_judge 50 (.getfield 37) 3 53 := ⟨by decide +kernel, rfl⟩
theorem dX10_judge_53 : gw_dc cX10_judge 53 (.getfield 301) 3 56 := ⟨by decide +kernel, rfl⟩
theorem fk_RX10_301 : gw_fk RX10 301 5 9 15 1 true := ⟨_, _, _, ck_5, by decide, by decide, fun h => absurd h (by decide), fun h => absurd h (by decide), fun _ => Or.inl ⟨_, rfl⟩, rfl, Or.inr ⟨"LightestSack", gw_memN 346 (by decide +kernel) rfl⟩⟩
theorem rf_26_9 {ad : Nat → Nat} : (gw_M0 ad).2.2 26 9 = some 39 := (by decide +kernel : gw_rh 26 9 = some 39)
theorem in_39 : (39, 60) ∈ gw_rows := by decide +kernel
theorem dX10_judge_56 : gw_dc cX10_judge 56 (.iload 4) 2 58 := ⟨by decide +kernel, rfl⟩
theorem dX10_judge_58 : gw_dc cX10_judge 58 (.invokevirtual 155) 3 61 := ⟨by decide +kernel, rfl⟩
theorem dX10_judge_61 : gw_dc cX10_judge 61 (.i2l) 1 62 := ⟨by decide +kernel, rfl⟩
theorem dX10_judge_62 : gw_dc cX10_judge 62 (.lcmp) 1 63 := ⟨by decide +kernel, rfl⟩
theorem dX10_judge_63 : gw_dc cX10_judge 63 (.ifCond .ne 9) 3 66 := ⟨by decide +kernel, rfl⟩
theorem dX10_judge_66 : gw_dc cX10_judge 66 (.iinc 4 1) 3 69 := ⟨by decide +kernel, rfl⟩
theorem dX10_judge_69 : gw_dc cX10_judge 69 (.goto (-47)) 3 72 := ⟨by decide +kernel, rfl⟩
theorem dX10_write_0 : gw_dc cX10_write 0 (.aload_n 0) 1 1 := ⟨by decide +kernel, rfl⟩
theorem dX10_write_1 : gw_dc cX10_write 1 (.iload_n 1) 1 2 := ⟨by decide +kernel, rfl⟩
theorem dX10_write_2 : gw_dc cX10_write 2 (.invokevirtual 205) 3 5 := ⟨by decide +kernel, rfl⟩
theorem dX10_write_5 : gw_dc cX10_write 5 (.astore 5) 2 7 := ⟨by decide +kernel, rfl⟩
theorem dX10_write_7 : gw_dc cX10_write 7 (.iload_n 2) 1 8 := ⟨by decide +kernel, rfl⟩
theorem dX10_write_8 : gw_dc cX10_write 8 (.ifCond .lt 12) 3 11 := ⟨by decide +kernel, rfl⟩
theorem eX10_write_20 : decode cX10_write 20 = .ok (.new 311, 3) := by decide +kernel
theorem eX10_write_23 : decode cX10_write 23 = .ok (.dup, 1) := by decide +kernel
theorem eX10_write_24 : decode cX10_write 24 = .ok (.ldc_w 418, 3) := by decide +kernel
theorem eX10_write_27 : decode cX10_write 27 = .ok (.invokespecial 315, 3) := by decide +kernel
theorem eX10_write_30 : decode cX10_write 30 = .ok (.athrow, 1) := by decide +kernel
theorem dX10_write_11 : gw_dc cX10_write 11 (.iload_n 2) 1 12 := ⟨by decide +kernel, rfl⟩
theorem dX10_write_12 : gw_dc cX10_write 12 (.aload 5) 2 14 := ⟨by decide +kernel, rfl⟩
theorem dX10_write_14 : gw_dc cX10_write 14 (.getfield 215) 3 17 := ⟨by decide +kernel, rfl⟩
theorem dX10_write_17 : gw_dc cX10_write 17 (.if_icmp .lt 14) 3 20 := ⟨by decide +kernel, rfl⟩
theorem dX10_write_31 : gw_dc cX10_write 31 (.aload 5) 2 33 := ⟨by decide +kernel, rfl⟩
theorem dX10_write_33 : gw_dc cX10_write 33 (.iload_n 2) 1 34 := ⟨by decide +kernel, rfl⟩
theorem dX10_write_34 : gw_dc cX10_write 34 (.lload_n 3) 1 35 := ⟨by decide +kernel, rfl⟩
theorem dX10_write_35 : gw_dc cX10_write 35 (.invokevirtual 420) 3 38 := ⟨by decide +kernel, rfl⟩
theorem mv_RX10_420 : gw_mv RX10 420 yX9_put := ⟨gw_mem 1379 (by decide +kernel) rfl, gw_mem 1380 (by decide +kernel) rfl, gw_mem 1381 (by decide +kernel) rfl⟩
theorem my_X9_put : gw_my yX9_put cX9_put 4 none 2 := ⟨gw_mem 1382 (by decide +kernel) rfl, gw_mem 105 (by decide +kernel) rfl, by decide +kernel, by decide⟩
theorem dX10_write_38 : gw_dc cX10_write 38 (.aload 5) 2 40 := ⟨by decide +kernel, rfl⟩
theorem dX10_write_40 : gw_dc cX10_write 40 (.iload_n 2) 1 41 := ⟨by decide +kernel, rfl⟩
theorem dX10_write_41 : gw_dc cX10_write 41 (.invokevirtual 216) 3 44 := ⟨by decide +kernel, rfl⟩
theorem dX10_write_44 : decode cX10_write 44 = .ok (.lreturn, 1) := by decide +kernel
theorem dX10_tray_0 : gw_dc cX10_tray 0 (.aload_n 0) 1 1 := ⟨by decide +kernel, rfl⟩
theorem dX10_tray_1 : gw_dc cX10_tray 1 (.iload_n 1) 1 2 := ⟨by decide +kernel, rfl⟩
theorem dX10_tray_2 : gw_dc cX10_tray 2 (.invokevirtual 410) 3 5 := ⟨by decide +kernel, rfl⟩
theorem dX10_tray_5 : gw_dc cX10_tray 5 (.astore 4) 2 7 := ⟨by decide +kernel, rfl⟩
theorem dX10_tray_7 : gw_dc cX10_tray 7 (.iload_n 2) 1 8 := ⟨by decide +kernel, rfl⟩
theorem dX10_tray_8 : gw_dc cX10_tray 8 (.ifCond .lt 18) 3 11 := ⟨by decide +kernel, rfl⟩
theorem eX10_tray_26 : decode cX10_tray 26 = .ok (.new 142, 3) := by decide +kernel
theorem eX10_tray_29 : decode cX10_tray 29 = .ok (.dup, 1) := by decide +kernel
theorem eX10_tray_30 : decode cX10_tray 30 = .ok (.ldc_w 413, 3) := by decide +kernel
theorem eX10_tray_33 : decode cX10_tray 33 = .ok (.invokespecial 146, 3) := by decide +kernel
theorem eX10_tray_36 : decode cX10_tray 36 = .ok (.athrow, 1) := by decide +kernel
theorem dX10_tray_11 : gw_dc cX10_tray 11 (.iload_n 2) 1 12 := ⟨by decide +kernel, rfl⟩
theorem dX10_tray_12 : gw_dc cX10_tray 12 (.iconst 3) 1 13 := ⟨by decide +kernel, rfl⟩
theorem dX10_tray_13 : gw_dc cX10_tray 13 (.if_icmp .gt 13) 3 16 := ⟨by decide +kernel, rfl⟩
theorem dX10_tray_16 : gw_dc cX10_tray 16 (.iload_n 3) 1 17 := ⟨by decide +kernel, rfl⟩
theorem dX10_tray_17 : gw_dc cX10_tray 17 (.ifCond .lt 9) 3 20 := ⟨by decide +kernel, rfl⟩
theorem dX10_tray_20 : gw_dc cX10_tray 20 (.iload_n 3) 1 21 := ⟨by decide +kernel, rfl⟩
theorem dX10_tray_21 : gw_dc cX10_tray 21 (.bipush 60) 2 23 := ⟨by decide +kernel, rfl⟩
theorem dX10_tray_23 : gw_dc cX10_tray 23 (.if_icmp .le 14) 3 26 := ⟨by decide +kernel, rfl⟩
theorem dX10_tray_37 : gw_dc cX10_tray 37 (.aload 4) 2 39 := ⟨by decide +kernel, rfl⟩
theorem dX10_tray_39 : gw_dc cX10_tray 39 (.iload_n 2) 1 40 := ⟨by decide +kernel, rfl⟩
theorem dX10_tray_40 : gw_dc cX10_tray 40 (.iload_n 3) 1 41 := ⟨by decide +kernel, rfl⟩
theorem dX10_tray_41 : gw_dc cX10_tray 41 (.invokevirtual 415) 3 44 := ⟨by decide +kernel, rfl⟩
theorem mv_RX10_415 : gw_mv RX10 415 yX9_clear := ⟨gw_mem 1367 (by decide +kernel) rfl, gw_mem 1368 (by decide +kernel) rfl, gw_mem 1369 (by decide +kernel) rfl⟩
theorem my_X9_clear : gw_my yX9_clear cX9_clear 4 none 2 := ⟨gw_mem 1370 (by decide +kernel) rfl, gw_mem 105 (by decide +kernel) rfl, by decide +kernel, by decide⟩
theorem dX10_tray_44 : decode cX10_tray 44 = .ok (.return_, 1) := by decide +kernel
theorem dX10_image_0 : gw_dc cX10_image 0 (.aload_n 0) 1 1 := ⟨by decide +kernel, rfl⟩
theorem dX10_image_1 : gw_dc cX10_image 1 (.iload_n 1) 1 2 := ⟨by decide +kernel, rfl⟩
theorem dX10_image_2 : gw_dc cX10_image 2 (.invokevirtual 426) 3 5 := ⟨by decide +kernel, rfl⟩
theorem mv_RX10_426 : gw_mv RX10 426 yX10_needImage := ⟨gw_mem 1402 (by decide +kernel) rfl, gw_mem 1404 (by decide +kernel) rfl, gw_mem 37 (by decide +kernel) rfl⟩
theorem my_X10_needImage : gw_my yX10_needImage cX10_needImage 3 (some (.object "LightestSack$Mill")) 1 := ⟨gw_mem 1405 (by decide +kernel) rfl, gw_mem 95 (by decide +kernel) rfl, by decide +kernel, by decide⟩
theorem dX10_image_5 : gw_dc cX10_image 5 (.astore_n 2) 1 6 := ⟨by decide +kernel, rfl⟩
theorem dX10_image_6 : gw_dc cX10_image 6 (.aload_n 2) 1 7 := ⟨by decide +kernel, rfl⟩
theorem dX10_image_7 : gw_dc cX10_image 7 (.aload_n 0) 1 8 := ⟨by decide +kernel, rfl⟩
theorem dX10_image_8 : gw_dc cX10_image 8 (.getfield 28) 3 11 := ⟨by decide +kernel, rfl⟩
theorem dX10_image_11 : gw_dc cX10_image 11 (.invokevirtual 111) 3 14 := ⟨by decide +kernel, rfl⟩
theorem dX10_image_14 : gw_dc cX10_image 14 (.aload_n 2) 1 15 := ⟨by decide +kernel, rfl⟩
theorem dX10_image_15 : gw_dc cX10_image 15 (.iconst 1) 1 16 := ⟨by decide +kernel, rfl⟩
theorem dX10_image_16 : gw_dc cX10_image 16 (.putfield 430) 3 19 := ⟨by decide +kernel, rfl⟩
theorem fk_RX10_430 : gw_fk RX10 430 1 6 16 2 false := ⟨_, _, _, ck_1, by decide, by decide, fun h => absurd h (by decide), fun _ => rfl, fun h => absurd h (by decide), rfl, Or.inr ⟨"LightestSack", gw_memN 254 (by decide +kernel) rfl⟩⟩
theorem dX10_image_19 : decode cX10_image 19 = .ok (.return_, 1) := by decide +kernel
theorem dX10_restore_0 : gw_dc cX10_restore 0 (.aload_n 0) 1 1 := ⟨by decide +kernel, rfl⟩
theorem dX10_restore_1 : gw_dc cX10_restore 1 (.iload_n 1) 1 2 := ⟨by decide +kernel, rfl⟩
theorem dX10_restore_2 : gw_dc cX10_restore 2 (.invokevirtual 426) 3 5 := ⟨by decide +kernel, rfl⟩
theorem dX10_restore_5 : gw_dc cX10_restore 5 (.astore_n 2) 1 6 := ⟨by decide +kernel, rfl⟩
theorem dX10_restore_6 : gw_dc cX10_restore 6 (.aload_n 2) 1 7 := ⟨by decide +kernel, rfl⟩
theorem dX10_restore_7 : gw_dc cX10_restore 7 (.getfield 430) 3 10 := ⟨by decide +kernel, rfl⟩
theorem dX10_restore_10 : gw_dc cX10_restore 10 (.ifCond .ne 14) 3 13 := ⟨by decide +kernel, rfl⟩
theorem dX10_restore_24 : gw_dc cX10_restore 24 (.aload_n 0) 1 25 := ⟨by decide +kernel, rfl⟩
theorem dX10_restore_25 : gw_dc cX10_restore 25 (.getfield 28) 3 28 := ⟨by decide +kernel, rfl⟩
theorem dX10_restore_28 : gw_dc cX10_restore 28 (.aload_n 2) 1 29 := ⟨by decide +kernel, rfl⟩
theorem dX10_restore_29 : gw_dc cX10_restore 29 (.invokevirtual 111) 3 32 := ⟨by decide +kernel, rfl⟩
theorem dX10_restore_32 : decode cX10_restore 32 = .ok (.return_, 1) := by decide +kernel
theorem eX10_restore_13 : decode cX10_restore 13 = .ok (.new 375, 3) := by decide +kernel
theorem eX10_restore_16 : decode cX10_restore 16 = .ok (.dup, 1) := by decide +kernel
theorem eX10_restore_17 : decode cX10_restore 17 = .ok (.ldc_w 434, 3) := by decide +kernel
theorem eX10_restore_20 : decode cX10_restore 20 = .ok (.invokespecial 379, 3) := by decide +kernel
theorem eX10_restore_23 : decode cX10_restore 23 = .ok (.athrow, 1) := by decide +kernel
theorem dX10_pour_0 : gw_dc cX10_pour 0 (.aload_n 0) 1 1 := ⟨by decide +kernel, rfl⟩
theorem dX10_pour_1 : gw_dc cX10_pour 1 (.iload_n 1) 1 2 := ⟨by decide +kernel, rfl⟩
theorem dX10_pour_2 : gw_dc cX10_pour 2 (.invokevirtual 205) 3 5 := ⟨by decide +kernel, rfl⟩
theorem dX10_pour_5 : gw_dc cX10_pour 5 (.astore_n 2) 1 6 := ⟨by decide +kernel, rfl⟩
theorem dX10_pour_6 : gw_dc cX10_pour 6 (.aload_n 0) 1 7 := ⟨by decide +kernel, rfl⟩
theorem dX10_pour_7 : gw_dc cX10_pour 7 (.getfield 37) 3 10 := ⟨by decide +kernel, rfl⟩
theorem dX10_pour_10 : gw_dc cX10_pour 10 (.invokevirtual 189) 3 13 := ⟨by decide +kernel, rfl⟩
theorem dX10_pour_13 : gw_dc cX10_pour 13 (.aload_n 2) 1 14 := ⟨by decide +kernel, rfl⟩
theorem dX10_pour_14 : gw_dc cX10_pour 14 (.getfield 215) 3 17 := ⟨by decide +kernel, rfl⟩
theorem dX10_pour_17 : gw_dc cX10_pour 17 (.aload_n 0) 1 18 := ⟨by decide +kernel, rfl⟩
theorem dX10_pour_18 : gw_dc cX10_pour 18 (.getfield 37) 3 21 := ⟨by decide +kernel, rfl⟩
theorem dX10_pour_21 : gw_dc cX10_pour 21 (.getfield 299) 3 24 := ⟨by decide +kernel, rfl⟩
theorem dX10_pour_24 : gw_dc cX10_pour 24 (.invokestatic 423) 3 27 := ⟨by decide +kernel, rfl⟩
theorem mm_RX10_423 : gw_mm RX10 423 Lib.Math.min.name Lib.Math.min.code := ⟨gw_mem 1394 (by decide +kernel) rfl, gw_mem 612 (by decide +kernel) rfl, gw_mem 116 (by decide +kernel) rfl, gw_mem 613 (by decide +kernel) rfl⟩
theorem dX10_pour_27 : gw_dc cX10_pour 27 (.istore_n 3) 1 28 := ⟨by decide +kernel, rfl⟩
theorem dX10_pour_28 : gw_dc cX10_pour 28 (.iconst 0) 1 29 := ⟨by decide +kernel, rfl⟩
theorem dX10_pour_29 : gw_dc cX10_pour 29 (.istore 4) 2 31 := ⟨by decide +kernel, rfl⟩
theorem dX10_pour_31 : gw_dc cX10_pour 31 (.iload 4) 2 33 := ⟨by decide +kernel, rfl⟩
theorem dX10_pour_33 : gw_dc cX10_pour 33 (.iload_n 3) 1 34 := ⟨by decide +kernel, rfl⟩
theorem dX10_pour_34 : gw_dc cX10_pour 34 (.if_icmp .ge 28) 3 37 := ⟨by decide +kernel, rfl⟩
theorem dX10_pour_62 : gw_dc cX10_pour 62 (.iload_n 3) 1 63 := ⟨by decide +kernel, rfl⟩
theorem dX10_pour_63 : decode cX10_pour 63 = .ok (.ireturn, 1) := by decide +kernel
theorem dX10_pour_37 : gw_dc cX10_pour 37 (.aload_n 2) 1 38 := ⟨by decide +kernel, rfl⟩
theorem dX10_pour_38 : gw_dc cX10_pour 38 (.iload 4) 2 40 := ⟨by decide +kernel, rfl⟩
theorem dX10_pour_40 : gw_dc cX10_pour 40 (.aload_n 0) 1 41 := ⟨by decide +kernel, rfl⟩
theorem dX10_pour_41 : gw_dc cX10_pour 41 (.getfield 37) 3 44 := ⟨by decide +kernel, rfl⟩
theorem dX10_pour_44 : gw_dc cX10_pour 44 (.getfield 301) 3 47 := ⟨by decide +kernel, rfl⟩
theorem dX10_pour_47 : gw_dc cX10_pour 47 (.iload 4) 2 49 := ⟨by decide +kernel, rfl⟩
theorem dX10_pour_49 : gw_dc cX10_pour 49 (.invokevirtual 155) 3 52 := ⟨by decide +kernel, rfl⟩
theorem dX10_pour_52 : gw_dc cX10_pour 52 (.i2l) 1 53 := ⟨by decide +kernel, rfl⟩
theorem dX10_pour_53 : gw_dc cX10_pour 53 (.invokevirtual 420) 3 56 := ⟨by decide +kernel, rfl⟩
theorem dX10_pour_56 : gw_dc cX10_pour 56 (.iinc 4 1) 3 59 := ⟨by decide +kernel, rfl⟩
theorem dX10_pour_59 : gw_dc cX10_pour 59 (.goto (-28)) 3 62 := ⟨by decide +kernel, rfl⟩
/-! LightestSack (0), 2: orders of trays, parts, judge, best, pour -/
theorem Opt_s {E : String} (b : Option String) : (some E).or b = some E := rfl
/-- one cell of a parting: what is left, whether it fits -/
def zPsS (σ : Sg) (c : Nat) (i : Nat) (x : Int × Int) : Int × Int :=
  if x.2 = 0 then x else if 1 ≤ yAt σ c i ∧ yAt σ c i ≤ x.1 then (wr (x.1 - wr (yAt σ c i)), 1) else (x.1, 0)
def zPs0 (σ : Sg) (t : Nat) (s : Int) : Int × Int := (rAt σ 11 60 s, if 1 ≤ σ t 2 ∧ σ t 2 ≤ 8 then 1 else 0)
def zPsL (σ : Sg) (t : Nat) (s : Int) : Int × Int := itr (σ t 2).toNat (zPsS σ (t + 1)) (zPs0 σ t s)
def zPs (σ : Sg) (t : Nat) (s : Int) : Int := if (zPsL σ t s).2 ≠ 0 ∧ (zPsL σ t s).1 = 0 ∧ wr (mBes σ 4 s + σ t 2) ≤ 60 then 1 else 0
theorem zPsS_0 (σ : Sg) (c : Nat) (x : Int × Int) (k : Nat) (h : (itr k (zPsS σ c) x).2 = 0) : ∀ m, itr (k + m) (zPsS σ c) x = itr k (zPsS σ c) x := by
  intro m
  induction m with
  | zero => rfl
  | succ m ih => rw [← Nat.add_assoc, itr_s, zPsS, ih, if_pos h]
def zToS (c : Nat) (i : Nat) (x : Sg) : Sg := rPut x 144 60 (i : Nat) (wr (yAt x c (i : Nat)))
def zTold (σ : Sg) (t : Nat) : Sg := itr (σ t 2).toNat (zToS (t + 1)) σ
theorem zTold_ne (c : Nat) (σ : Sg) {a : Nat} (ha : a ≠ 144) (j : Nat) : ∀ k, itr k (zToS c) σ a j = σ a j := by
  intro k
  induction k with
  | zero => rfl
  | succ k ih => rw [itr_s, zToS, rPut_ne ha]; exact ih
def zPart (σ : Sg) (s : Int) (t : Nat) : Sg := mWay (zTold σ t) 4 144 60 s (zTold σ t t 2)
def gPart (σ : Sg) (s i : Int) : Option String := (gSack σ s).or ((gFull σ i).or (if zPs σ (trT i) s = 0 then gIA else none))
/-- an ORDER of all: whether it is one so far, the world -/
def zOrP (σ : Sg) (c : Nat) (n : Int) (i : Nat) : Int := if 0 ≤ yAt σ c i ∧ yAt σ c i < n then wr (yAt σ c i) else -1
def zOrS (c : Nat) (n : Int) (i : Nat) (x : Int × Sg) : Int × Sg :=
  if x.1 = 0 then x else (if zOrP x.2 c n i ≠ -1 ∧ rAt x.2 146 60 (zOrP x.2 c n i) = 0 then 1 else 0, rPut (rPut x.2 146 60 (zOrP x.2 c n i) 1) 144 60 (i : Nat) (zOrP x.2 c n i))
def zOr0 (σ : Sg) (t : Nat) : Int × Sg := (if σ t 2 = mPcs σ 4 then 1 else 0, rFill σ 146 60 0)
def zOr (σ : Sg) (t : Nat) : Int × Sg := itr (mPcs σ 4).toNat (zOrS (t + 1) (mPcs σ 4)) (zOr0 σ t)
theorem zOrS_0 (c : Nat) (n : Int) (x : Int × Sg) (k : Nat) (h : (itr k (zOrS c n) x).1 = 0) : ∀ m, itr (k + m) (zOrS c n) x = itr k (zOrS c n) x := by
  intro m
  induction m with
  | zero => rfl
  | succ m ih => rw [← Nat.add_assoc, itr_s, zOrS, ih, if_pos h]
theorem zOr0_b (σ : Sg) (t : Nat) : (zOr0 σ t).1 = 0 ∨ (zOr0 σ t).1 = 1 := by unfold zOr0; dsimp only; split; exact Or.inr rfl; exact Or.inl rfl
theorem zOrS_b (c : Nat) (n : Int) (x : Int × Sg) (hx : x.1 = 0 ∨ x.1 = 1) : ∀ k, (itr k (zOrS c n) x).1 = 0 ∨ (itr k (zOrS c n) x).1 = 1 := by
  intro k
  induction k with
  | zero => exact hx
  | succ k ih => rw [itr_s, zOrS]; split; exact ih; dsimp only; split; exact Or.inr rfl; exact Or.inl rfl
def zTc (σ : Sg) : Sg := fl σ 26 4 144 60
def zCost (σ : Sg) (t : Nat) : Int × Sg := if (zOr σ t).1 = 0 then (-1, (zOr σ t).2) else (coF (zTc (zOr σ t).2) 26 4, zTc (zOr σ t).2)
def zSw1 (σ : Sg) (k : Int) : Sg := rPut (rPut σ 144 60 k (rAt σ 144 60 (wr (k + 1)))) 144 60 (wr (k + 1)) (rAt σ 144 60 k)
def zSwap (σ : Sg) (t : Nat) (k : Int) : Int × Sg := if (zOr σ t).1 = 0 then (0, (zOr σ t).2) else (wr (coF (zTc (zSw1 (zTc (zOr σ t).2) k)) 26 4 - coF (zTc (zOr σ t).2) 26 4), zTc (zSw1 (zTc (zOr σ t).2) k))
def gSwap (σ : Sg) (i k : Int) : Option String := (gFull σ i).or (if 0 ≤ k ∧ k < wr (σ (trT i) 2 - 1) then none else gIO)
def zBest (σ : Sg) (k : Int) : Int × Sg := if 8 < mPcs σ 4 then (-2, σ) else (if k = -1 then seek σ 128 9 else if 0 ≤ k ∧ k < mPcs (seek σ) 4 then rAt (seek σ) 142 8 k else -1, seek σ)
def zGap (σ : Sg) : Int × Sg := if 1 < σ 4 2 then (-1, σ) else if 8 < mPcs σ 4 then (-2, σ) else (wr (coF (go (seek σ) 26 4) 26 4 - go (seek σ) 26 4 128 9), go (seek σ) 26 4)
def zJuL (σ : Sg) (t : Nat) : Nat → Int → Int
  | 0, p => p
  | n + 1, p => if p < σ t 2 ∧ p < σ 26 1 ∧ yAt σ (t + 1) p = rAt σ 40 60 p then zJuL σ t n (p + 1) else p
theorem zJuL_z {σ : Sg} {t : Nat} {p : Int} (h : ¬ (p < σ t 2 ∧ p < σ 26 1 ∧ yAt σ (t + 1) p = rAt σ 40 60 p)) (n : Nat) : zJuL σ t n p = p := by cases n; rfl; rw [zJuL, if_neg h]
def zJuP (σ : Sg) (t : Nat) : Int := zJuL σ t (σ t 2).toNat 0
def zJu (σ : Sg) (t : Nat) (w : Int) : Int := if zJuP σ t = σ t 2 ∧ zJuP σ t = σ 26 1 then -1 else if w = 0 then zJuP σ t else uPB σ 26 (zJuP σ t)
def zPoS (t : Nat) (i : Nat) (x : Sg) : Sg := yPut x t (i : Nat) (rAt x 40 60 (i : Nat))
def zPour (σ : Sg) (t : Nat) : Sg := itr (min (σ t 2) (σ 26 1)).toNat (zPoS t) σ
def gWrite (σ : Sg) (i k : Int) : Option String := (gFull σ i).or (if 0 ≤ k ∧ k < σ (trT i) 2 then none else gIO)
def gRow (i s n : Int) : Option String := (gTray i).or (if (0 ≤ s ∧ s ≤ 3) ∧ (0 ≤ n ∧ n ≤ 60) then none else gIA)
def gRest (σ : Sg) (i : Int) : Option String := (gImg i).or (if σ (imT i) 6 = 0 then gIS else none)
set_option maxRecDepth 4000 in
theorem s_X10_costOfTold (ad : Nat → Nat) (σ : Sg)  : gw_Sp yX10_costOfTold cX10_costOfTold 1 (some .int) 5 0 0 [vR (some 0)] (gw_M0 ad) σ (gw_D (some (vI (coF (zTc σ) 26 4))) (gw_M0 ad) (zTc σ)) gw_no := by
  refine gw_Sp.of [some (vR (some 0))] (by decide +kernel) rfl (Nat.le_of_ble_eq_true rfl) ?_
  intro X G fx het hnm
  refine g_aload_n fx dX10_costOfTold_0 rfl ?_
  refine g_getr fx dX10_costOfTold_1 fk_RX10_37 o_0 rf_0_3 ?_
  refine g_aload_n fx dX10_costOfTold_4 rfl ?_
  refine g_getr fx dX10_costOfTold_5 fk_RX10_80 o_0 rf_0_10 ?_
  refine g_callVD0 fx dX10_costOfTold_8 mv_RX10_328 my_X5_follow (s_X5_follow ad _ in_26 in_143) (run_O in_26) rfl rfl rfl (Nat.le_of_ble_eq_true rfl) (by decide) (by decide) ?_
  refine g_aload_n fx dX10_costOfTold_11 rfl ?_
  refine g_getr fx dX10_costOfTold_12 fk_RX10_37 o_0 rf_0_3 ?_
  refine g_callVD fx dX10_costOfTold_15 mv_RX10_263 my_X5_costOfAll (s_X5_costOfAll ad _ in_26) (run_O in_26) rfl rfl rfl (Nat.le_of_ble_eq_true rfl) (by decide) (by decide) ?_
  exact g_iret fx rfl dX10_costOfTold_18 (by decide) (by decide) (gw_le.rf _) ⟨rfl, rfl, rfl⟩
set_option maxRecDepth 4000 in
theorem s_X10_partsSack (ad : Nat → Nat) (σ : Sg)  {t : Nat} (ht : t ∈ gw_trays) (s : Int) : gw_Sp yX10_partsSack cX10_partsSack 8 (some .boolean) 5 0 0 [vR (some 0), vR (some t), vI s] (gw_M0 ad) σ (gw_D (some (vI (zPs σ t s))) (gw_M0 ad) (σ)) gw_no := by
  refine gw_Sp.of [some (vR (some 0)), some (vR (some t)), some (vI s), none, none, none, none, none] (by decide +kernel) rfl (Nat.le_of_ble_eq_true rfl) ?_
  intro X G fx het hnm
  refine g_okS (fun hok => ?_)
  have hq2 := gw_okO 2 hok (tray_O ht) (by decide)
  unfold okI at hq2
  refine g_aload_n fx dX10_partsSack_0 rfl ?_
  refine g_getr fx dX10_partsSack_1 fk_RX10_28 o_0 rf_0_2 ?_
  refine g_getr fx dX10_partsSack_4 fk_RX10_152 (mill_O in_4) rf_4_8 ?_
  refine g_iload_n fx dX10_partsSack_7 rfl ?_
  refine g_callVD fx dX10_partsSack_8 mv_RX10_155 my_X4_at (s_X4_atC ad _ in_10 (show 10 + 1 = 11 from rfl) _) (row_O in_10) rfl rfl rfl (Nat.le_of_ble_eq_true rfl) (by decide) (by decide) ?_
  refine g_istore_n fx dX10_partsSack_11 (by decide) rfl rfl ?_
  refine g_aload_n fx dX10_partsSack_12 rfl ?_
  refine g_geti fx dX10_partsSack_13 fk_RX10_215 (by decide) (tray_O ht) ?_
  refine g_iconst fx dX10_partsSack_16 (by unfold okI; omega) ?_
  refine g_icmp_lt (tgt := 33) fx dX10_partsSack_17 (by decide) (fun h17 => ?_) (fun h17 => ?_)
  · refine g_iconst fx dX10_partsSack_33 (by unfold okI; omega) ?_
    refine g_istore fx dX10_partsSack_34 (by decide) rfl rfl ?_
    refine g_iconst fx dX10_partsSack_36 (by unfold okI; omega) ?_
    refine g_istore fx dX10_partsSack_37 (by decide) rfl rfl ?_
    have loop39 : ∀ i : Nat, i ≤ (σ t 2).toNat → gw_W X (yX10_partsSack.cls, cX10_partsSack, 8, (some .boolean), 5, 0, 0) G (gw_Z X G (gw_M0 ad) σ (gw_D (some (vI (zPs σ t s))) (gw_M0 ad) (σ)) gw_no 0 0) 0 0 (gw_M0 ad) (σ) 39 [some (vR (some 0)), some (vR (some t)), some (vI s), some (vI (itr i (zPsS σ (t + 1)) (zPs0 σ t s)).1), some (vI (itr i (zPsS σ (t + 1)) (zPs0 σ t s)).2), some (vI (i : Nat)), none, none] [] := by
      refine up_ind _ ((σ t 2).toNat) (fun i hi ih => ?_)
      have hj1 := @jc_ge (yAt σ (t + 1) (i : Nat)) 1
      have hj2 := @jc_gt (yAt σ (t + 1) (i : Nat)) (itr i (zPsS σ (t + 1)) (zPs0 σ t s)).1
      refine g_iload fx dX10_partsSack_39 rfl ?_
      refine g_aload_n fx dX10_partsSack_41 rfl ?_
      refine g_geti fx dX10_partsSack_42 fk_RX10_215 (by decide) (tray_O ht) ?_
      refine g_icmp_ge (tgt := 104) fx dX10_partsSack_45 (by decide) (fun h45 => ?_) (fun h45 => ?_)
      · have hend : zPsL σ t s = itr i (zPsS σ (t + 1)) (zPs0 σ t s) := by
          rw [zPsL]
          first
          | rw [show (σ t 2).toNat = i by omega]
          | (rw [show (σ t 2).toNat = i + ((σ t 2).toNat - i) by omega]; exact zPsS_0 _ _ _ _ (by assumption) _)
        refine g_iload fx dX10_partsSack_104 rfl ?_
        refine g_if_eq (tgt := 135) fx dX10_partsSack_106 (by decide) (fun h106 => ?_) (fun h106 => ?_)
        · refine g_iconst fx dX10_partsSack_135 (by unfold okI; omega) ?_
          exact g_zret fx rfl dX10_partsSack_136 (by first | exact Or.inl rfl | exact Or.inr rfl | omega) (by decide) (by decide) (gw_le.rf _) ⟨by first | (exfalso; omega) | (rw [zPs, hend]; (repeat first | rw [if_pos (by omega)] | rw [if_neg (by omega)]) <;> rfl), rfl, rfl⟩
        · refine g_iload_n fx dX10_partsSack_109 rfl ?_
          refine g_if_ne (tgt := 135) fx dX10_partsSack_110 (by decide) (fun h110 => ?_) (fun h110 => ?_)
          · refine g_iconst fx dX10_partsSack_135 (by unfold okI; omega) ?_
            exact g_zret fx rfl dX10_partsSack_136 (by first | exact Or.inl rfl | exact Or.inr rfl | omega) (by decide) (by decide) (gw_le.rf _) ⟨by first | (exfalso; omega) | (rw [zPs, hend]; (repeat first | rw [if_pos (by omega)] | rw [if_neg (by omega)]) <;> rfl), rfl, rfl⟩
          · refine g_aload_n fx dX10_partsSack_113 rfl ?_
            refine g_getr fx dX10_partsSack_114 fk_RX10_28 o_0 rf_0_2 ?_
            refine g_iload_n fx dX10_partsSack_117 rfl ?_
            refine g_callVD fx dX10_partsSack_118 mv_RX10_230 my_X1_piecesBeside (s_X1_piecesBeside ad _ in_4 _) (mill_O in_4) rfl rfl rfl (Nat.le_of_ble_eq_true rfl) (by decide) (by decide) ?_
            refine g_aload_n fx dX10_partsSack_121 rfl ?_
            refine g_geti fx dX10_partsSack_122 fk_RX10_215 (by decide) (tray_O ht) ?_
            refine g_iadd fx dX10_partsSack_125 ?_
            refine g_bipush fx dX10_partsSack_126 (by decide) ?_
            refine g_icmp_gt (tgt := 135) fx dX10_partsSack_128 (by decide) (fun h128 => ?_) (fun h128 => ?_)
            · refine g_iconst fx dX10_partsSack_135 (by unfold okI; omega) ?_
              exact g_zret fx rfl dX10_partsSack_136 (by first | exact Or.inl rfl | exact Or.inr rfl | omega) (by decide) (by decide) (gw_le.rf _) ⟨by first | (exfalso; omega) | (rw [zPs, hend]; (repeat first | rw [if_pos (by omega)] | rw [if_neg (by omega)]) <;> rfl), rfl, rfl⟩
            · refine g_iconst fx dX10_partsSack_131 (by unfold okI; omega) ?_
              refine g_goto (tgt := 136) fx dX10_partsSack_132 (by decide) ?_
              exact g_zret fx rfl dX10_partsSack_136 (by first | exact Or.inl rfl | exact Or.inr rfl | omega) (by decide) (by decide) (gw_le.rf _) ⟨by first | (exfalso; omega) | (rw [zPs, hend]; (repeat first | rw [if_pos (by omega)] | rw [if_neg (by omega)]) <;> rfl), rfl, rfl⟩
      · refine g_iload fx dX10_partsSack_48 rfl ?_
        refine g_if_eq (tgt := 104) fx dX10_partsSack_50 (by decide) (fun h50 => ?_) (fun h50 => ?_)
        · have hend : zPsL σ t s = itr i (zPsS σ (t + 1)) (zPs0 σ t s) := by
            rw [zPsL]
            first
            | rw [show (σ t 2).toNat = i by omega]
            | (rw [show (σ t 2).toNat = i + ((σ t 2).toNat - i) by omega]; exact zPsS_0 _ _ _ _ (by assumption) _)
          refine g_iload fx dX10_partsSack_104 rfl ?_
          refine g_if_eq (tgt := 135) fx dX10_partsSack_106 (by decide) (fun h106 => ?_) (fun h106 => ?_)
          · refine g_iconst fx dX10_partsSack_135 (by unfold okI; omega) ?_
            exact g_zret fx rfl dX10_partsSack_136 (by first | exact Or.inl rfl | exact Or.inr rfl | omega) (by decide) (by decide) (gw_le.rf _) ⟨by first | (exfalso; omega) | (rw [zPs, hend]; (repeat first | rw [if_pos (by omega)] | rw [if_neg (by omega)]) <;> rfl), rfl, rfl⟩
          · refine g_iload_n fx dX10_partsSack_109 rfl ?_
            refine g_if_ne (tgt := 135) fx dX10_partsSack_110 (by decide) (fun h110 => ?_) (fun h110 => ?_)
            · refine g_iconst fx dX10_partsSack_135 (by unfold okI; omega) ?_
              exact g_zret fx rfl dX10_partsSack_136 (by first | exact Or.inl rfl | exact Or.inr rfl | omega) (by decide) (by decide) (gw_le.rf _) ⟨by first | (exfalso; omega) | (rw [zPs, hend]; (repeat first | rw [if_pos (by omega)] | rw [if_neg (by omega)]) <;> rfl), rfl, rfl⟩
            · refine g_aload_n fx dX10_partsSack_113 rfl ?_
              refine g_getr fx dX10_partsSack_114 fk_RX10_28 o_0 rf_0_2 ?_
              refine g_iload_n fx dX10_partsSack_117 rfl ?_
              refine g_callVD fx dX10_partsSack_118 mv_RX10_230 my_X1_piecesBeside (s_X1_piecesBeside ad _ in_4 _) (mill_O in_4) rfl rfl rfl (Nat.le_of_ble_eq_true rfl) (by decide) (by decide) ?_
              refine g_aload_n fx dX10_partsSack_121 rfl ?_
              refine g_geti fx dX10_partsSack_122 fk_RX10_215 (by decide) (tray_O ht) ?_
              refine g_iadd fx dX10_partsSack_125 ?_
              refine g_bipush fx dX10_partsSack_126 (by decide) ?_
              refine g_icmp_gt (tgt := 135) fx dX10_partsSack_128 (by decide) (fun h128 => ?_) (fun h128 => ?_)
              · refine g_iconst fx dX10_partsSack_135 (by unfold okI; omega) ?_
                exact g_zret fx rfl dX10_partsSack_136 (by first | exact Or.inl rfl | exact Or.inr rfl | omega) (by decide) (by decide) (gw_le.rf _) ⟨by first | (exfalso; omega) | (rw [zPs, hend]; (repeat first | rw [if_pos (by omega)] | rw [if_neg (by omega)]) <;> rfl), rfl, rfl⟩
              · refine g_iconst fx dX10_partsSack_131 (by unfold okI; omega) ?_
                refine g_goto (tgt := 136) fx dX10_partsSack_132 (by decide) ?_
                exact g_zret fx rfl dX10_partsSack_136 (by first | exact Or.inl rfl | exact Or.inr rfl | omega) (by decide) (by decide) (gw_le.rf _) ⟨by first | (exfalso; omega) | (rw [zPs, hend]; (repeat first | rw [if_pos (by omega)] | rw [if_neg (by omega)]) <;> rfl), rfl, rfl⟩
        · refine g_aload_n fx dX10_partsSack_53 rfl ?_
          refine g_iload fx dX10_partsSack_54 rfl ?_
          refine g_callVD fx dX10_partsSack_56 mv_RX10_216 my_X9_at (s_X9_at ad _ ht _) (tray_O ht) rfl rfl rfl (Nat.le_of_ble_eq_true rfl) (by decide) (by decide) ?_
          refine g_lstore fx dX10_partsSack_59 (by decide) rfl rfl ?_
          refine g_lload fx dX10_partsSack_61 rfl ?_
          refine g_lconst1 fx dX10_partsSack_63 ?_
          refine g_lcmp fx dX10_partsSack_64 ?_
          refine g_if_lt (tgt := 80) fx dX10_partsSack_65 (by decide) (fun h65 => ?_) (fun h65 => ?_)
          · refine g_iconst fx dX10_partsSack_80 (by unfold okI; omega) ?_
            refine g_istore fx dX10_partsSack_81 (by decide) rfl rfl ?_
            refine g_iload fx dX10_partsSack_83 rfl ?_
            refine g_if_eq (tgt := 96) fx dX10_partsSack_85 (by decide) (fun h85 => ?_) (fun h85 => ?_)
            · refine g_iload_n fx dX10_partsSack_96 rfl ?_
              refine g_istore_n fx dX10_partsSack_97 (by decide) rfl rfl ?_
              refine g_iinc1 fx dX10_partsSack_98 (by decide) rfl rfl (by unfold okI; omega) rfl ?_
              refine g_goto (tgt := 39) fx dX10_partsSack_101 (by decide) ?_
              first
              | (exfalso; omega)
              | (refine g_kill 6 rfl ?_
                 exact gw_cg rfl (by rw [itr_s, zPsS, show ((i : Nat) : Int) + 1 = ((i + 1 : Nat) : Int) by omega]; (repeat first | rw [if_pos (by omega)] | rw [if_neg (by omega)]) <;> rfl) (ih (by omega)))
            · refine g_iload_n fx dX10_partsSack_88 rfl ?_
              refine g_lload fx dX10_partsSack_89 rfl ?_
              refine g_l2i fx dX10_partsSack_91 ?_
              refine g_isub fx dX10_partsSack_92 ?_
              refine g_goto (tgt := 97) fx dX10_partsSack_93 (by decide) ?_
              refine g_istore_n fx dX10_partsSack_97 (by decide) rfl rfl ?_
              refine g_iinc1 fx dX10_partsSack_98 (by decide) rfl rfl (by unfold okI; omega) rfl ?_
              refine g_goto (tgt := 39) fx dX10_partsSack_101 (by decide) ?_
              first
              | (exfalso; omega)
              | (refine g_kill 6 rfl ?_
                 exact gw_cg rfl (by rw [itr_s, zPsS, show ((i : Nat) : Int) + 1 = ((i + 1 : Nat) : Int) by omega]; (repeat first | rw [if_pos (by omega)] | rw [if_neg (by omega)]) <;> rfl) (ih (by omega)))
          · refine g_lload fx dX10_partsSack_68 rfl ?_
            refine g_iload_n fx dX10_partsSack_70 rfl ?_
            refine g_i2l fx dX10_partsSack_71 ?_
            refine g_lcmp fx dX10_partsSack_72 ?_
            refine g_if_gt (tgt := 80) fx dX10_partsSack_73 (by decide) (fun h73 => ?_) (fun h73 => ?_)
            · refine g_iconst fx dX10_partsSack_80 (by unfold okI; omega) ?_
              refine g_istore fx dX10_partsSack_81 (by decide) rfl rfl ?_
              refine g_iload fx dX10_partsSack_83 rfl ?_
              refine g_if_eq (tgt := 96) fx dX10_partsSack_85 (by decide) (fun h85 => ?_) (fun h85 => ?_)
              · refine g_iload_n fx dX10_partsSack_96 rfl ?_
                refine g_istore_n fx dX10_partsSack_97 (by decide) rfl rfl ?_
                refine g_iinc1 fx dX10_partsSack_98 (by decide) rfl rfl (by unfold okI; omega) rfl ?_
                refine g_goto (tgt := 39) fx dX10_partsSack_101 (by decide) ?_
                first
                | (exfalso; omega)
                | (refine g_kill 6 rfl ?_
                   exact gw_cg rfl (by rw [itr_s, zPsS, show ((i : Nat) : Int) + 1 = ((i + 1 : Nat) : Int) by omega]; (repeat first | rw [if_pos (by omega)] | rw [if_neg (by omega)]) <;> rfl) (ih (by omega)))
              · refine g_iload_n fx dX10_partsSack_88 rfl ?_
                refine g_lload fx dX10_partsSack_89 rfl ?_
                refine g_l2i fx dX10_partsSack_91 ?_
                refine g_isub fx dX10_partsSack_92 ?_
                refine g_goto (tgt := 97) fx dX10_partsSack_93 (by decide) ?_
                refine g_istore_n fx dX10_partsSack_97 (by decide) rfl rfl ?_
                refine g_iinc1 fx dX10_partsSack_98 (by decide) rfl rfl (by unfold okI; omega) rfl ?_
                refine g_goto (tgt := 39) fx dX10_partsSack_101 (by decide) ?_
                first
                | (exfalso; omega)
                | (refine g_kill 6 rfl ?_
                   exact gw_cg rfl (by rw [itr_s, zPsS, show ((i : Nat) : Int) + 1 = ((i + 1 : Nat) : Int) by omega]; (repeat first | rw [if_pos (by omega)] | rw [if_neg (by omega)]) <;> rfl) (ih (by omega)))
            · refine g_iconst fx dX10_partsSack_76 (by unfold okI; omega) ?_
              refine g_goto (tgt := 81) fx dX10_partsSack_77 (by decide) ?_
              refine g_istore fx dX10_partsSack_81 (by decide) rfl rfl ?_
              refine g_iload fx dX10_partsSack_83 rfl ?_
              refine g_if_eq (tgt := 96) fx dX10_partsSack_85 (by decide) (fun h85 => ?_) (fun h85 => ?_)
              · refine g_iload_n fx dX10_partsSack_96 rfl ?_
                refine g_istore_n fx dX10_partsSack_97 (by decide) rfl rfl ?_
                refine g_iinc1 fx dX10_partsSack_98 (by decide) rfl rfl (by unfold okI; omega) rfl ?_
                refine g_goto (tgt := 39) fx dX10_partsSack_101 (by decide) ?_
                first
                | (exfalso; omega)
                | (refine g_kill 6 rfl ?_
                   exact gw_cg rfl (by rw [itr_s, zPsS, show ((i : Nat) : Int) + 1 = ((i + 1 : Nat) : Int) by omega]; (repeat first | rw [if_pos (by omega)] | rw [if_neg (by omega)]) <;> rfl) (ih (by omega)))
              · refine g_iload_n fx dX10_partsSack_88 rfl ?_
                refine g_lload fx dX10_partsSack_89 rfl ?_
                refine g_l2i fx dX10_partsSack_91 ?_
                refine g_isub fx dX10_partsSack_92 ?_
                refine g_goto (tgt := 97) fx dX10_partsSack_93 (by decide) ?_
                refine g_istore_n fx dX10_partsSack_97 (by decide) rfl rfl ?_
                refine g_iinc1 fx dX10_partsSack_98 (by decide) rfl rfl (by unfold okI; omega) rfl ?_
                refine g_goto (tgt := 39) fx dX10_partsSack_101 (by decide) ?_
                first
                | (exfalso; omega)
                | (refine g_kill 6 rfl ?_
                   exact gw_cg rfl (by rw [itr_s, zPsS, show ((i : Nat) : Int) + 1 = ((i + 1 : Nat) : Int) by omega]; (repeat first | rw [if_pos (by omega)] | rw [if_neg (by omega)]) <;> rfl) (ih (by omega)))
    exact gw_cg rfl (by simp only [itr, zPs0]; (repeat first | rw [if_pos (by omega)] | rw [if_neg (by omega)]) <;> rfl) (loop39 0 (Nat.zero_le _))
  · refine g_aload_n fx dX10_partsSack_20 rfl ?_
    refine g_geti fx dX10_partsSack_21 fk_RX10_215 (by decide) (tray_O ht) ?_
    refine g_bipush fx dX10_partsSack_24 (by decide) ?_
    refine g_icmp_gt (tgt := 33) fx dX10_partsSack_26 (by decide) (fun h26 => ?_) (fun h26 => ?_)
    · refine g_iconst fx dX10_partsSack_33 (by unfold okI; omega) ?_
      refine g_istore fx dX10_partsSack_34 (by decide) rfl rfl ?_
      refine g_iconst fx dX10_partsSack_36 (by unfold okI; omega) ?_
      refine g_istore fx dX10_partsSack_37 (by decide) rfl rfl ?_
      have loop39 : ∀ i : Nat, i ≤ (σ t 2).toNat → gw_W X (yX10_partsSack.cls, cX10_partsSack, 8, (some .boolean), 5, 0, 0) G (gw_Z X G (gw_M0 ad) σ (gw_D (some (vI (zPs σ t s))) (gw_M0 ad) (σ)) gw_no 0 0) 0 0 (gw_M0 ad) (σ) 39 [some (vR (some 0)), some (vR (some t)), some (vI s), some (vI (itr i (zPsS σ (t + 1)) (zPs0 σ t s)).1), some (vI (itr i (zPsS σ (t + 1)) (zPs0 σ t s)).2), some (vI (i : Nat)), none, none] [] := by
        refine up_ind _ ((σ t 2).toNat) (fun i hi ih => ?_)
        have hj1 := @jc_ge (yAt σ (t + 1) (i : Nat)) 1
        have hj2 := @jc_gt (yAt σ (t + 1) (i : Nat)) (itr i (zPsS σ (t + 1)) (zPs0 σ t s)).1
        refine g_iload fx dX10_partsSack_39 rfl ?_
        refine g_aload_n fx dX10_partsSack_41 rfl ?_
        refine g_geti fx dX10_partsSack_42 fk_RX10_215 (by decide) (tray_O ht) ?_
        refine g_icmp_ge (tgt := 104) fx dX10_partsSack_45 (by decide) (fun h45 => ?_) (fun h45 => ?_)
        · have hend : zPsL σ t s = itr i (zPsS σ (t + 1)) (zPs0 σ t s) := by
            rw [zPsL]
            first
            | rw [show (σ t 2).toNat = i by omega]
            | (rw [show (σ t 2).toNat = i + ((σ t 2).toNat - i) by omega]; exact zPsS_0 _ _ _ _ (by assumption) _)
          refine g_iload fx dX10_partsSack_104 rfl ?_
          refine g_if_eq (tgt := 135) fx dX10_partsSack_106 (by decide) (fun h106 => ?_) (fun h106 => ?_)
          · refine g_iconst fx dX10_partsSack_135 (by unfold okI; omega) ?_
            exact g_zret fx rfl dX10_partsSack_136 (by first | exact Or.inl rfl | exact Or.inr rfl | omega) (by decide) (by decide) (gw_le.rf _) ⟨by first | (exfalso; omega) | (rw [zPs, hend]; (repeat first | rw [if_pos (by omega)] | rw [if_neg (by omega)]) <;> rfl), rfl, rfl⟩
          · refine g_iload_n fx dX10_partsSack_109 rfl ?_
            refine g_if_ne (tgt := 135) fx dX10_partsSack_110 (by decide) (fun h110 => ?_) (fun h110 => ?_)
            · refine g_iconst fx dX10_partsSack_135 (by unfold okI; omega) ?_
              exact g_zret fx rfl dX10_partsSack_136 (by first | exact Or.inl rfl | exact Or.inr rfl | omega) (by decide) (by decide) (gw_le.rf _) ⟨by first | (exfalso; omega) | (rw [zPs, hend]; (repeat first | rw [if_pos (by omega)] | rw [if_neg (by omega)]) <;> rfl), rfl, rfl⟩
            · refine g_aload_n fx dX10_partsSack_113 rfl ?_
              refine g_getr fx dX10_partsSack_114 fk_RX10_28 o_0 rf_0_2 ?_
              refine g_iload_n fx dX10_partsSack_117 rfl ?_
              refine g_callVD fx dX10_partsSack_118 mv_RX10_230 my_X1_piecesBeside (s_X1_piecesBeside ad _ in_4 _) (mill_O in_4) rfl rfl rfl (Nat.le_of_ble_eq_true rfl) (by decide) (by decide) ?_
              refine g_aload_n fx dX10_partsSack_121 rfl ?_
              refine g_geti fx dX10_partsSack_122 fk_RX10_215 (by decide) (tray_O ht) ?_
              refine g_iadd fx dX10_partsSack_125 ?_
              refine g_bipush fx dX10_partsSack_126 (by decide) ?_
              refine g_icmp_gt (tgt := 135) fx dX10_partsSack_128 (by decide) (fun h128 => ?_) (fun h128 => ?_)
              · refine g_iconst fx dX10_partsSack_135 (by unfold okI; omega) ?_
                exact g_zret fx rfl dX10_partsSack_136 (by first | exact Or.inl rfl | exact Or.inr rfl | omega) (by decide) (by decide) (gw_le.rf _) ⟨by first | (exfalso; omega) | (rw [zPs, hend]; (repeat first | rw [if_pos (by omega)] | rw [if_neg (by omega)]) <;> rfl), rfl, rfl⟩
              · refine g_iconst fx dX10_partsSack_131 (by unfold okI; omega) ?_
                refine g_goto (tgt := 136) fx dX10_partsSack_132 (by decide) ?_
                exact g_zret fx rfl dX10_partsSack_136 (by first | exact Or.inl rfl | exact Or.inr rfl | omega) (by decide) (by decide) (gw_le.rf _) ⟨by first | (exfalso; omega) | (rw [zPs, hend]; (repeat first | rw [if_pos (by omega)] | rw [if_neg (by omega)]) <;> rfl), rfl, rfl⟩
        · refine g_iload fx dX10_partsSack_48 rfl ?_
          refine g_if_eq (tgt := 104) fx dX10_partsSack_50 (by decide) (fun h50 => ?_) (fun h50 => ?_)
          · have hend : zPsL σ t s = itr i (zPsS σ (t + 1)) (zPs0 σ t s) := by
              rw [zPsL]
              first
              | rw [show (σ t 2).toNat = i by omega]
              | (rw [show (σ t 2).toNat = i + ((σ t 2).toNat - i) by omega]; exact zPsS_0 _ _ _ _ (by assumption) _)
            refine g_iload fx dX10_partsSack_104 rfl ?_
            refine g_if_eq (tgt := 135) fx dX10_partsSack_106 (by decide) (fun h106 => ?_) (fun h106 => ?_)
            · refine g_iconst fx dX10_partsSack_135 (by unfold okI; omega) ?_
              exact g_zret fx rfl dX10_partsSack_136 (by first | exact Or.inl rfl | exact Or.inr rfl | omega) (by decide) (by decide) (gw_le.rf _) ⟨by first | (exfalso; omega) | (rw [zPs, hend]; (repeat first | rw [if_pos (by omega)] | rw [if_neg (by omega)]) <;> rfl), rfl, rfl⟩
            · refine g_iload_n fx dX10_partsSack_109 rfl ?_
              refine g_if_ne (tgt := 135) fx dX10_partsSack_110 (by decide) (fun h110 => ?_) (fun h110 => ?_)
              · refine g_iconst fx dX10_partsSack_135 (by unfold okI; omega) ?_
                exact g_zret fx rfl dX10_partsSack_136 (by first | exact Or.inl rfl | exact Or.inr rfl | omega) (by decide) (by decide) (gw_le.rf _) ⟨by first | (exfalso; omega) | (rw [zPs, hend]; (repeat first | rw [if_pos (by omega)] | rw [if_neg (by omega)]) <;> rfl), rfl, rfl⟩
              · refine g_aload_n fx dX10_partsSack_113 rfl ?_
                refine g_getr fx dX10_partsSack_114 fk_RX10_28 o_0 rf_0_2 ?_
                refine g_iload_n fx dX10_partsSack_117 rfl ?_
                refine g_callVD fx dX10_partsSack_118 mv_RX10_230 my_X1_piecesBeside (s_X1_piecesBeside ad _ in_4 _) (mill_O in_4) rfl rfl rfl (Nat.le_of_ble_eq_true rfl) (by decide) (by decide) ?_
                refine g_aload_n fx dX10_partsSack_121 rfl ?_
                refine g_geti fx dX10_partsSack_122 fk_RX10_215 (by decide) (tray_O ht) ?_
                refine g_iadd fx dX10_partsSack_125 ?_
                refine g_bipush fx dX10_partsSack_126 (by decide) ?_
                refine g_icmp_gt (tgt := 135) fx dX10_partsSack_128 (by decide) (fun h128 => ?_) (fun h128 => ?_)
                · refine g_iconst fx dX10_partsSack_135 (by unfold okI; omega) ?_
                  exact g_zret fx rfl dX10_partsSack_136 (by first | exact Or.inl rfl | exact Or.inr rfl | omega) (by decide) (by decide) (gw_le.rf _) ⟨by first | (exfalso; omega) | (rw [zPs, hend]; (repeat first | rw [if_pos (by omega)] | rw [if_neg (by omega)]) <;> rfl), rfl, rfl⟩
                · refine g_iconst fx dX10_partsSack_131 (by unfold okI; omega) ?_
                  refine g_goto (tgt := 136) fx dX10_partsSack_132 (by decide) ?_
                  exact g_zret fx rfl dX10_partsSack_136 (by first | exact Or.inl rfl | exact Or.inr rfl | omega) (by decide) (by decide) (gw_le.rf _) ⟨by first | (exfalso; omega) | (rw [zPs, hend]; (repeat first | rw [if_pos (by omega)] | rw [if_neg (by omega)]) <;> rfl), rfl, rfl⟩
          · refine g_aload_n fx dX10_partsSack_53 rfl ?_
            refine g_iload fx dX10_partsSack_54 rfl ?_
            refine g_callVD fx dX10_partsSack_56 mv_RX10_216 my_X9_at (s_X9_at ad _ ht _) (tray_O ht) rfl rfl rfl (Nat.le_of_ble_eq_true rfl) (by decide) (by decide) ?_
            refine g_lstore fx dX10_partsSack_59 (by decide) rfl rfl ?_
            refine g_lload fx dX10_partsSack_61 rfl ?_
            refine g_lconst1 fx dX10_partsSack_63 ?_
            refine g_lcmp fx dX10_partsSack_64 ?_
            refine g_if_lt (tgt := 80) fx dX10_partsSack_65 (by decide) (fun h65 => ?_) (fun h65 => ?_)
            · refine g_iconst fx dX10_partsSack_80 (by unfold okI; omega) ?_
              refine g_istore fx dX10_partsSack_81 (by decide) rfl rfl ?_
              refine g_iload fx dX10_partsSack_83 rfl ?_
              refine g_if_eq (tgt := 96) fx dX10_partsSack_85 (by decide) (fun h85 => ?_) (fun h85 => ?_)
              · refine g_iload_n fx dX10_partsSack_96 rfl ?_
                refine g_istore_n fx dX10_partsSack_97 (by decide) rfl rfl ?_
                refine g_iinc1 fx dX10_partsSack_98 (by decide) rfl rfl (by unfold okI; omega) rfl ?_
                refine g_goto (tgt := 39) fx dX10_partsSack_101 (by decide) ?_
                first
                | (exfalso; omega)
                | (refine g_kill 6 rfl ?_
                   exact gw_cg rfl (by rw [itr_s, zPsS, show ((i : Nat) : Int) + 1 = ((i + 1 : Nat) : Int) by omega]; (repeat first | rw [if_pos (by omega)] | rw [if_neg (by omega)]) <;> rfl) (ih (by omega)))
              · refine g_iload_n fx dX10_partsSack_88 rfl ?_
                refine g_lload fx dX10_partsSack_89 rfl ?_
                refine g_l2i fx dX10_partsSack_91 ?_
                refine g_isub fx dX10_partsSack_92 ?_
                refine g_goto (tgt := 97) fx dX10_partsSack_93 (by decide) ?_
                refine g_istore_n fx dX10_partsSack_97 (by decide) rfl rfl ?_
                refine g_iinc1 fx dX10_partsSack_98 (by decide) rfl rfl (by unfold okI; omega) rfl ?_
                refine g_goto (tgt := 39) fx dX10_partsSack_101 (by decide) ?_
                first
                | (exfalso; omega)
                | (refine g_kill 6 rfl ?_
                   exact gw_cg rfl (by rw [itr_s, zPsS, show ((i : Nat) : Int) + 1 = ((i + 1 : Nat) : Int) by omega]; (repeat first | rw [if_pos (by omega)] | rw [if_neg (by omega)]) <;> rfl) (ih (by omega)))
            · refine g_lload fx dX10_partsSack_68 rfl ?_
              refine g_iload_n fx dX10_partsSack_70 rfl ?_
              refine g_i2l fx dX10_partsSack_71 ?_
              refine g_lcmp fx dX10_partsSack_72 ?_
              refine g_if_gt (tgt := 80) fx dX10_partsSack_73 (by decide) (fun h73 => ?_) (fun h73 => ?_)
              · refine g_iconst fx dX10_partsSack_80 (by unfold okI; omega) ?_
                refine g_istore fx dX10_partsSack_81 (by decide) rfl rfl ?_
                refine g_iload fx dX10_partsSack_83 rfl ?_
                refine g_if_eq (tgt := 96) fx dX10_partsSack_85 (by decide) (fun h85 => ?_) (fun h85 => ?_)
                · refine g_iload_n fx dX10_partsSack_96 rfl ?_
                  refine g_istore_n fx dX10_partsSack_97 (by decide) rfl rfl ?_
                  refine g_iinc1 fx dX10_partsSack_98 (by decide) rfl rfl (by unfold okI; omega) rfl ?_
                  refine g_goto (tgt := 39) fx dX10_partsSack_101 (by decide) ?_
                  first
                  | (exfalso; omega)
                  | (refine g_kill 6 rfl ?_
                     exact gw_cg rfl (by rw [itr_s, zPsS, show ((i : Nat) : Int) + 1 = ((i + 1 : Nat) : Int) by omega]; (repeat first | rw [if_pos (by omega)] | rw [if_neg (by omega)]) <;> rfl) (ih (by omega)))
                · refine g_iload_n fx dX10_partsSack_88 rfl ?_
                  refine g_lload fx dX10_partsSack_89 rfl ?_
                  refine g_l2i fx dX10_partsSack_91 ?_
                  refine g_isub fx dX10_partsSack_92 ?_
                  refine g_goto (tgt := 97) fx dX10_partsSack_93 (by decide) ?_
                  refine g_istore_n fx dX10_partsSack_97 (by decide) rfl rfl ?_
                  refine g_iinc1 fx dX10_partsSack_98 (by decide) rfl rfl (by unfold okI; omega) rfl ?_
                  refine g_goto (tgt := 39) fx dX10_partsSack_101 (by decide) ?_
                  first
                  | (exfalso; omega)
                  | (refine g_kill 6 rfl ?_
                     exact gw_cg rfl (by rw [itr_s, zPsS, show ((i : Nat) : Int) + 1 = ((i + 1 : Nat) : Int) by omega]; (repeat first | rw [if_pos (by omega)] | rw [if_neg (by omega)]) <;> rfl) (ih (by omega)))
              · refine g_iconst fx dX10_partsSack_76 (by unfold okI; omega) ?_
                refine g_goto (tgt := 81) fx dX10_partsSack_77 (by decide) ?_
                refine g_istore fx dX10_partsSack_81 (by decide) rfl rfl ?_
                refine g_iload fx dX10_partsSack_83 rfl ?_
                refine g_if_eq (tgt := 96) fx dX10_partsSack_85 (by decide) (fun h85 => ?_) (fun h85 => ?_)
                · refine g_iload_n fx dX10_partsSack_96 rfl ?_
                  refine g_istore_n fx dX10_partsSack_97 (by decide) rfl rfl ?_
                  refine g_iinc1 fx dX10_partsSack_98 (by decide) rfl rfl (by unfold okI; omega) rfl ?_
                  refine g_goto (tgt := 39) fx dX10_partsSack_101 (by decide) ?_
                  first
                  | (exfalso; omega)
                  | (refine g_kill 6 rfl ?_
                     exact gw_cg rfl (by rw [itr_s, zPsS, show ((i : Nat) : Int) + 1 = ((i + 1 : Nat) : Int) by omega]; (repeat first | rw [if_pos (by omega)] | rw [if_neg (by omega)]) <;> rfl) (ih (by omega)))
                · refine g_iload_n fx dX10_partsSack_88 rfl ?_
                  refine g_lload fx dX10_partsSack_89 rfl ?_
                  refine g_l2i fx dX10_partsSack_91 ?_
                  refine g_isub fx dX10_partsSack_92 ?_
                  refine g_goto (tgt := 97) fx dX10_partsSack_93 (by decide) ?_
                  refine g_istore_n fx dX10_partsSack_97 (by decide) rfl rfl ?_
                  refine g_iinc1 fx dX10_partsSack_98 (by decide) rfl rfl (by unfold okI; omega) rfl ?_
                  refine g_goto (tgt := 39) fx dX10_partsSack_101 (by decide) ?_
                  first
                  | (exfalso; omega)
                  | (refine g_kill 6 rfl ?_
                     exact gw_cg rfl (by rw [itr_s, zPsS, show ((i : Nat) : Int) + 1 = ((i + 1 : Nat) : Int) by omega]; (repeat first | rw [if_pos (by omega)] | rw [if_neg (by omega)]) <;> rfl) (ih (by omega)))
      exact gw_cg rfl (by simp only [itr, zPs0]; (repeat first | rw [if_pos (by omega)] | rw [if_neg (by omega)]) <;> rfl) (loop39 0 (Nat.zero_le _))
    · refine g_iconst fx dX10_partsSack_29 (by unfold okI; omega) ?_
      refine g_goto (tgt := 34) fx dX10_partsSack_30 (by decide) ?_
      refine g_istore fx dX10_partsSack_34 (by decide) rfl rfl ?_
      refine g_iconst fx dX10_partsSack_36 (by unfold okI; omega) ?_
      refine g_istore fx dX10_partsSack_37 (by decide) rfl rfl ?_
      have loop39 : ∀ i : Nat, i ≤ (σ t 2).toNat → gw_W X (yX10_partsSack.cls, cX10_partsSack, 8, (some .boolean), 5, 0, 0) G (gw_Z X G (gw_M0 ad) σ (gw_D (some (vI (zPs σ t s))) (gw_M0 ad) (σ)) gw_no 0 0) 0 0 (gw_M0 ad) (σ) 39 [some (vR (some 0)), some (vR (some t)), some (vI s), some (vI (itr i (zPsS σ (t + 1)) (zPs0 σ t s)).1), some (vI (itr i (zPsS σ (t + 1)) (zPs0 σ t s)).2), some (vI (i : Nat)), none, none] [] := by
        refine up_ind _ ((σ t 2).toNat) (fun i hi ih => ?_)
        have hj1 := @jc_ge (yAt σ (t + 1) (i : Nat)) 1
        have hj2 := @jc_gt (yAt σ (t + 1) (i : Nat)) (itr i (zPsS σ (t + 1)) (zPs0 σ t s)).1
        refine g_iload fx dX10_partsSack_39 rfl ?_
        refine g_aload_n fx dX10_partsSack_41 rfl ?_
        refine g_geti fx dX10_partsSack_42 fk_RX10_215 (by decide) (tray_O ht) ?_
        refine g_icmp_ge (tgt := 104) fx dX10_partsSack_45 (by decide) (fun h45 => ?_) (fun h45 => ?_)
        · have hend : zPsL σ t s = itr i (zPsS σ (t + 1)) (zPs0 σ t s) := by
            rw [zPsL]
            first
            | rw [show (σ t 2).toNat = i by omega]
            | (rw [show (σ t 2).toNat = i + ((σ t 2).toNat - i) by omega]; exact zPsS_0 _ _ _ _ (by assumption) _)
          refine g_iload fx dX10_partsSack_104 rfl ?_
          refine g_if_eq (tgt := 135) fx dX10_partsSack_106 (by decide) (fun h106 => ?_) (fun h106 => ?_)
          · refine g_iconst fx dX10_partsSack_135 (by unfold okI; omega) ?_
            exact g_zret fx rfl dX10_partsSack_136 (by first | exact Or.inl rfl | exact Or.inr rfl | omega) (by decide) (by decide) (gw_le.rf _) ⟨by first | (exfalso; omega) | (rw [zPs, hend]; (repeat first | rw [if_pos (by omega)] | rw [if_neg (by omega)]) <;> rfl), rfl, rfl⟩
          · refine g_iload_n fx dX10_partsSack_109 rfl ?_
            refine g_if_ne (tgt := 135) fx dX10_partsSack_110 (by decide) (fun h110 => ?_) (fun h110 => ?_)
            · refine g_iconst fx dX10_partsSack_135 (by unfold okI; omega) ?_
              exact g_zret fx rfl dX10_partsSack_136 (by first | exact Or.inl rfl | exact Or.inr rfl | omega) (by decide) (by decide) (gw_le.rf _) ⟨by first | (exfalso; omega) | (rw [zPs, hend]; (repeat first | rw [if_pos (by omega)] | rw [if_neg (by omega)]) <;> rfl), rfl, rfl⟩
            · refine g_aload_n fx dX10_partsSack_113 rfl ?_
              refine g_getr fx dX10_partsSack_114 fk_RX10_28 o_0 rf_0_2 ?_
              refine g_iload_n fx dX10_partsSack_117 rfl ?_
              refine g_callVD fx dX10_partsSack_118 mv_RX10_230 my_X1_piecesBeside (s_X1_piecesBeside ad _ in_4 _) (mill_O in_4) rfl rfl rfl (Nat.le_of_ble_eq_true rfl) (by decide) (by decide) ?_
              refine g_aload_n fx dX10_partsSack_121 rfl ?_
              refine g_geti fx dX10_partsSack_122 fk_RX10_215 (by decide) (tray_O ht) ?_
              refine g_iadd fx dX10_partsSack_125 ?_
              refine g_bipush fx dX10_partsSack_126 (by decide) ?_
              refine g_icmp_gt (tgt := 135) fx dX10_partsSack_128 (by decide) (fun h128 => ?_) (fun h128 => ?_)
              · refine g_iconst fx dX10_partsSack_135 (by unfold okI; omega) ?_
                exact g_zret fx rfl dX10_partsSack_136 (by first | exact Or.inl rfl | exact Or.inr rfl | omega) (by decide) (by decide) (gw_le.rf _) ⟨by first | (exfalso; omega) | (rw [zPs, hend]; (repeat first | rw [if_pos (by omega)] | rw [if_neg (by omega)]) <;> rfl), rfl, rfl⟩
              · refine g_iconst fx dX10_partsSack_131 (by unfold okI; omega) ?_
                refine g_goto (tgt := 136) fx dX10_partsSack_132 (by decide) ?_
                exact g_zret fx rfl dX10_partsSack_136 (by first | exact Or.inl rfl | exact Or.inr rfl | omega) (by decide) (by decide) (gw_le.rf _) ⟨by first | (exfalso; omega) | (rw [zPs, hend]; (repeat first | rw [if_pos (by omega)] | rw [if_neg (by omega)]) <;> rfl), rfl, rfl⟩
        · refine g_iload fx dX10_partsSack_48 rfl ?_
          refine g_if_eq (tgt := 104) fx dX10_partsSack_50 (by decide) (fun h50 => ?_) (fun h50 => ?_)
          · have hend : zPsL σ t s = itr i (zPsS σ (t + 1)) (zPs0 σ t s) := by
              rw [zPsL]
              first
              | rw [show (σ t 2).toNat = i by omega]
              | (rw [show (σ t 2).toNat = i + ((σ t 2).toNat - i) by omega]; exact zPsS_0 _ _ _ _ (by assumption) _)
            refine g_iload fx dX10_partsSack_104 rfl ?_
            refine g_if_eq (tgt := 135) fx dX10_partsSack_106 (by decide) (fun h106 => ?_) (fun h106 => ?_)
            · refine g_iconst fx dX10_partsSack_135 (by unfold okI; omega) ?_
              exact g_zret fx rfl dX10_partsSack_136 (by first | exact Or.inl rfl | exact Or.inr rfl | omega) (by decide) (by decide) (gw_le.rf _) ⟨by first | (exfalso; omega) | (rw [zPs, hend]; (repeat first | rw [if_pos (by omega)] | rw [if_neg (by omega)]) <;> rfl), rfl, rfl⟩
            · refine g_iload_n fx dX10_partsSack_109 rfl ?_
              refine g_if_ne (tgt := 135) fx dX10_partsSack_110 (by decide) (fun h110 => ?_) (fun h110 => ?_)
              · refine g_iconst fx dX10_partsSack_135 (by unfold okI; omega) ?_
                exact g_zret fx rfl dX10_partsSack_136 (by first | exact Or.inl rfl | exact Or.inr rfl | omega) (by decide) (by decide) (gw_le.rf _) ⟨by first | (exfalso; omega) | (rw [zPs, hend]; (repeat first | rw [if_pos (by omega)] | rw [if_neg (by omega)]) <;> rfl), rfl, rfl⟩
              · refine g_aload_n fx dX10_partsSack_113 rfl ?_
                refine g_getr fx dX10_partsSack_114 fk_RX10_28 o_0 rf_0_2 ?_
                refine g_iload_n fx dX10_partsSack_117 rfl ?_
                refine g_callVD fx dX10_partsSack_118 mv_RX10_230 my_X1_piecesBeside (s_X1_piecesBeside ad _ in_4 _) (mill_O in_4) rfl rfl rfl (Nat.le_of_ble_eq_true rfl) (by decide) (by decide) ?_
                refine g_aload_n fx dX10_partsSack_121 rfl ?_
                refine g_geti fx dX10_partsSack_122 fk_RX10_215 (by decide) (tray_O ht) ?_
                refine g_iadd fx dX10_partsSack_125 ?_
                refine g_bipush fx dX10_partsSack_126 (by decide) ?_
                refine g_icmp_gt (tgt := 135) fx dX10_partsSack_128 (by decide) (fun h128 => ?_) (fun h128 => ?_)
                · refine g_iconst fx dX10_partsSack_135 (by unfold okI; omega) ?_
                  exact g_zret fx rfl dX10_partsSack_136 (by first | exact Or.inl rfl | exact Or.inr rfl | omega) (by decide) (by decide) (gw_le.rf _) ⟨by first | (exfalso; omega) | (rw [zPs, hend]; (repeat first | rw [if_pos (by omega)] | rw [if_neg (by omega)]) <;> rfl), rfl, rfl⟩
                · refine g_iconst fx dX10_partsSack_131 (by unfold okI; omega) ?_
                  refine g_goto (tgt := 136) fx dX10_partsSack_132 (by decide) ?_
                  exact g_zret fx rfl dX10_partsSack_136 (by first | exact Or.inl rfl | exact Or.inr rfl | omega) (by decide) (by decide) (gw_le.rf _) ⟨by first | (exfalso; omega) | (rw [zPs, hend]; (repeat first | rw [if_pos (by omega)] | rw [if_neg (by omega)]) <;> rfl), rfl, rfl⟩
          · refine g_aload_n fx dX10_partsSack_53 rfl ?_
            refine g_iload fx dX10_partsSack_54 rfl ?_
            refine g_callVD fx dX10_partsSack_56 mv_RX10_216 my_X9_at (s_X9_at ad _ ht _) (tray_O ht) rfl rfl rfl (Nat.le_of_ble_eq_true rfl) (by decide) (by decide) ?_
            refine g_lstore fx dX10_partsSack_59 (by decide) rfl rfl ?_
            refine g_lload fx dX10_partsSack_61 rfl ?_
            refine g_lconst1 fx dX10_partsSack_63 ?_
            refine g_lcmp fx dX10_partsSack_64 ?_
            refine g_if_lt (tgt := 80) fx dX10_partsSack_65 (by decide) (fun h65 => ?_) (fun h65 => ?_)
            · refine g_iconst fx dX10_partsSack_80 (by unfold okI; omega) ?_
              refine g_istore fx dX10_partsSack_81 (by decide) rfl rfl ?_
              refine g_iload fx dX10_partsSack_83 rfl ?_
              refine g_if_eq (tgt := 96) fx dX10_partsSack_85 (by decide) (fun h85 => ?_) (fun h85 => ?_)
              · refine g_iload_n fx dX10_partsSack_96 rfl ?_
                refine g_istore_n fx dX10_partsSack_97 (by decide) rfl rfl ?_
                refine g_iinc1 fx dX10_partsSack_98 (by decide) rfl rfl (by unfold okI; omega) rfl ?_
                refine g_goto (tgt := 39) fx dX10_partsSack_101 (by decide) ?_
                first
                | (exfalso; omega)
                | (refine g_kill 6 rfl ?_
                   exact gw_cg rfl (by rw [itr_s, zPsS, show ((i : Nat) : Int) + 1 = ((i + 1 : Nat) : Int) by omega]; (repeat first | rw [if_pos (by omega)] | rw [if_neg (by omega)]) <;> rfl) (ih (by omega)))
              · refine g_iload_n fx dX10_partsSack_88 rfl ?_
                refine g_lload fx dX10_partsSack_89 rfl ?_
                refine g_l2i fx dX10_partsSack_91 ?_
                refine g_isub fx dX10_partsSack_92 ?_
                refine g_goto (tgt := 97) fx dX10_partsSack_93 (by decide) ?_
                refine g_istore_n fx dX10_partsSack_97 (by decide) rfl rfl ?_
                refine g_iinc1 fx dX10_partsSack_98 (by decide) rfl rfl (by unfold okI; omega) rfl ?_
                refine g_goto (tgt := 39) fx dX10_partsSack_101 (by decide) ?_
                first
                | (exfalso; omega)
                | (refine g_kill 6 rfl ?_
                   exact gw_cg rfl (by rw [itr_s, zPsS, show ((i : Nat) : Int) + 1 = ((i + 1 : Nat) : Int) by omega]; (repeat first | rw [if_pos (by omega)] | rw [if_neg (by omega)]) <;> rfl) (ih (by omega)))
            · refine g_lload fx dX10_partsSack_68 rfl ?_
              refine g_iload_n fx dX10_partsSack_70 rfl ?_
              refine g_i2l fx dX10_partsSack_71 ?_
              refine g_lcmp fx dX10_partsSack_72 ?_
              refine g_if_gt (tgt := 80) fx dX10_partsSack_73 (by decide) (fun h73 => ?_) (fun h73 => ?_)
              · refine g_iconst fx dX10_partsSack_80 (by unfold okI; omega) ?_
                refine g_istore fx dX10_partsSack_81 (by decide) rfl rfl ?_
                refine g_iload fx dX10_partsSack_83 rfl ?_
                refine g_if_eq (tgt := 96) fx dX10_partsSack_85 (by decide) (fun h85 => ?_) (fun h85 => ?_)
                · refine g_iload_n fx dX10_partsSack_96 rfl ?_
                  refine g_istore_n fx dX10_partsSack_97 (by decide) rfl rfl ?_
                  refine g_iinc1 fx dX10_partsSack_98 (by decide) rfl rfl (by unfold okI; omega) rfl ?_
                  refine g_goto (tgt := 39) fx dX10_partsSack_101 (by decide) ?_
                  first
                  | (exfalso; omega)
                  | (refine g_kill 6 rfl ?_
                     exact gw_cg rfl (by rw [itr_s, zPsS, show ((i : Nat) : Int) + 1 = ((i + 1 : Nat) : Int) by omega]; (repeat first | rw [if_pos (by omega)] | rw [if_neg (by omega)]) <;> rfl) (ih (by omega)))
                · refine g_iload_n fx dX10_partsSack_88 rfl ?_
                  refine g_lload fx dX10_partsSack_89 rfl ?_
                  refine g_l2i fx dX10_partsSack_91 ?_
                  refine g_isub fx dX10_partsSack_92 ?_
                  refine g_goto (tgt := 97) fx dX10_partsSack_93 (by decide) ?_
                  refine g_istore_n fx dX10_partsSack_97 (by decide) rfl rfl ?_
                  refine g_iinc1 fx dX10_partsSack_98 (by decide) rfl rfl (by unfold okI; omega) rfl ?_
                  refine g_goto (tgt := 39) fx dX10_partsSack_101 (by decide) ?_
                  first
                  | (exfalso; omega)
                  | (refine g_kill 6 rfl ?_
                     exact gw_cg rfl (by rw [itr_s, zPsS, show ((i : Nat) : Int) + 1 = ((i + 1 : Nat) : Int) by omega]; (repeat first | rw [if_pos (by omega)] | rw [if_neg (by omega)]) <;> rfl) (ih (by omega)))
              · refine g_iconst fx dX10_partsSack_76 (by unfold okI; omega) ?_
                refine g_goto (tgt := 81) fx dX10_partsSack_77 (by decide) ?_
                refine g_istore fx dX10_partsSack_81 (by decide) rfl rfl ?_
                refine g_iload fx dX10_partsSack_83 rfl ?_
                refine g_if_eq (tgt := 96) fx dX10_partsSack_85 (by decide) (fun h85 => ?_) (fun h85 => ?_)
                · refine g_iload_n fx dX10_partsSack_96 rfl ?_
                  refine g_istore_n fx dX10_partsSack_97 (by decide) rfl rfl ?_
                  refine g_iinc1 fx dX10_partsSack_98 (by decide) rfl rfl (by unfold okI; omega) rfl ?_
                  refine g_goto (tgt := 39) fx dX10_partsSack_101 (by decide) ?_
                  first
                  | (exfalso; omega)
                  | (refine g_kill 6 rfl ?_
                     exact gw_cg rfl (by rw [itr_s, zPsS, show ((i : Nat) : Int) + 1 = ((i + 1 : Nat) : Int) by omega]; (repeat first | rw [if_pos (by omega)] | rw [if_neg (by omega)]) <;> rfl) (ih (by omega)))
                · refine g_iload_n fx dX10_partsSack_88 rfl ?_
                  refine g_lload fx dX10_partsSack_89 rfl ?_
                  refine g_l2i fx dX10_partsSack_91 ?_
                  refine g_isub fx dX10_partsSack_92 ?_
                  refine g_goto (tgt := 97) fx dX10_partsSack_93 (by decide) ?_
                  refine g_istore_n fx dX10_partsSack_97 (by decide) rfl rfl ?_
                  refine g_iinc1 fx dX10_partsSack_98 (by decide) rfl rfl (by unfold okI; omega) rfl ?_
                  refine g_goto (tgt := 39) fx dX10_partsSack_101 (by decide) ?_
                  first
                  | (exfalso; omega)
                  | (refine g_kill 6 rfl ?_
                     exact gw_cg rfl (by rw [itr_s, zPsS, show ((i : Nat) : Int) + 1 = ((i + 1 : Nat) : Int) by omega]; (repeat first | rw [if_pos (by omega)] | rw [if_neg (by omega)]) <;> rfl) (ih (by omega)))
      exact gw_cg rfl (by simp only [itr, zPs0]; (repeat first | rw [if_pos (by omega)] | rw [if_neg (by omega)]) <;> rfl) (loop39 0 (Nat.zero_le _))
set_option maxRecDepth 4000 in
theorem s_X10_part (ad : Nat → Nat) (σ : Sg)  (s : Int) (i : Int) : gw_Sp yX10_part cX10_part 5 (some .int) 9 4 24 [vR (some 0), vI s, vI i] (gw_M0 ad) σ (gw_DG (gPart σ s i) (some (vI (mPcs (zPart σ s (trT i)) 4))) (gw_M0 ad) (zPart σ s (trT i))) (gw_isG (gPart σ s i)) := by
  refine gw_Sp.of [some (vR (some 0)), some (vI s), some (vI i), none, none] (by decide +kernel) rfl (Nat.le_of_ble_eq_true rfl) ?_
  intro X G fx het hnm
  refine g_aload_n fx dX10_part_0 rfl ?_
  refine g_iload_n fx dX10_part_1 rfl ?_
  refine g_callVG0 fx het dX10_part_2 mv_RX10_149 my_X10_needSack (s_X10_needSack ad _ _) o_0 rfl rfl rfl (Nat.le_of_ble_eq_true rfl) (by decide) (by decide) rfl rfl (fun E hE => (by show gPart σ s i = _; rw [gPart]; (repeat first | rw [or_n hg2] | rw [if_pos (by omega)] | rw [if_neg (by omega)] | rw [Option.none_or]); first | rfl | assumption | (refine or_s ?_; assumption) | (unfold gWhat; (repeat first | rw [if_pos (by omega)] | rw [if_neg (by omega)]) <;> rfl))) (fun hg2 => ?_)
  refine g_aload_n fx dX10_part_5 rfl ?_
  refine g_iload_n fx dX10_part_6 rfl ?_
  refine g_callVG fx het dX10_part_7 mv_RX10_205 my_X10_needFullTray (s_X10_needFullTray ad _ _) o_0 rfl rfl rfl (Nat.le_of_ble_eq_true rfl) (by decide) (by decide) rfl rfl (fun E hE => (by show gPart σ s i = _; rw [gPart]; (repeat first | rw [or_n hg2] | rw [or_n hg7] | rw [if_pos (by omega)] | rw [if_neg (by omega)] | rw [Option.none_or]); first | rfl | assumption | (refine or_s ?_; assumption) | (unfold gWhat; (repeat first | rw [if_pos (by omega)] | rw [if_neg (by omega)]) <;> rfl))) (fun hg7 => ?_)
  refine g_astore_n fx dX10_part_10 (by decide) rfl rfl ?_
  refine g_aload_n fx dX10_part_11 rfl ?_
  refine g_aload_n fx dX10_part_12 rfl ?_
  refine g_iload_n fx dX10_part_13 rfl ?_
  refine g_callVD fx dX10_part_14 mv_RX10_209 my_X10_partsSack (s_X10_partsSack ad _ (trF_in hg7) _) o_0 rfl rfl rfl (Nat.le_of_ble_eq_true rfl) (by decide) (by decide) ?_
  refine g_if_ne (tgt := 30) fx dX10_part_17 (by decide) (fun h17 => ?_) (fun h17 => ?_)
  · refine g_iconst fx dX10_part_30 (by unfold okI; omega) ?_
    refine g_istore fx dX10_part_31 (by decide) rfl rfl ?_
    have loop33 : ∀ k : Nat, k ≤ (σ (trT i) 2).toNat → gw_W X (yX10_part.cls, cX10_part, 5, (some .int), 9, 4, 24) G (gw_Z X G (gw_M0 ad) σ (gw_DG (gPart σ s i) (some (vI (mPcs (zPart σ s (trT i)) 4))) (gw_M0 ad) (zPart σ s (trT i))) (gw_isG (gPart σ s i)) 4 24) (0 + 1 + 2) (0 + 6 + 12) (gw_M0 ad) (itr k (zToS (trT i + 1)) σ) 33 [some (vR (some 0)), some (vI s), some (vI i), some (vR (some (trT i))), some (vI (k : Nat))] [] := by
      refine up_ind _ ((σ (trT i) 2).toNat) (fun k hk ih => ?_)
      have hne := zTold_ne (trT i + 1) σ (a := trT i) (by unfold trT; omega) 2 k
      refine g_okS (fun hok => ?_)
      have hq2 := gw_okO 2 hok (tray_O (trF_in hg7)) (by decide)
      unfold okI at hq2
      rw [hne] at hq2
      refine g_iload fx dX10_part_33 rfl ?_
      refine g_aload_n fx dX10_part_35 rfl ?_
      refine g_geti fx dX10_part_36 fk_RX10_215 (by decide) (tray_O (trF_in hg7)) ?_
      rw [hne]
      refine g_icmp_ge (tgt := 64) fx dX10_part_39 (by decide) (fun h39 => ?_) (fun h39 => ?_)
      · refine g_aload_n fx dX10_part_64 rfl ?_
        refine g_getr fx dX10_part_65 fk_RX10_28 o_0 rf_0_2 ?_
        refine g_iload_n fx dX10_part_68 rfl ?_
        refine g_aload_n fx dX10_part_69 rfl ?_
        refine g_getr fx dX10_part_70 fk_RX10_80 o_0 rf_0_10 ?_
        refine g_aload_n fx dX10_part_73 rfl ?_
        refine g_geti fx dX10_part_74 fk_RX10_215 (by decide) (tray_O (trF_in hg7)) ?_
        refine g_callVD0 fx dX10_part_77 mv_RX10_222 my_X1_setWay (s_X1_setWay ad _ in_4 in_143 _ _) (mill_O in_4) rfl rfl rfl (Nat.le_of_ble_eq_true rfl) (by decide) (by decide) ?_
        refine g_aload_n fx dX10_part_80 rfl ?_
        refine g_getr fx dX10_part_81 fk_RX10_28 o_0 rf_0_2 ?_
        refine g_callVD fx dX10_part_84 mv_RX10_226 my_X1_pieces (s_X1_pieces ad _ in_4) (mill_O in_4) rfl rfl rfl (Nat.le_of_ble_eq_true rfl) (by decide) (by decide) ?_
        exact g_iret fx rfl dX10_part_87 (by decide) (by decide) (gw_le.rf _) ⟨by rw [gPart, or_n hg2, or_n hg7, if_neg (by omega)], by rw [zPart, zTold, show (σ (trT i) 2).toNat = k by omega], rfl, by rw [zPart, zTold, show (σ (trT i) 2).toNat = k by omega]⟩
      · refine g_aload_n fx dX10_part_42 rfl ?_
        refine g_getr fx dX10_part_43 fk_RX10_80 o_0 rf_0_10 ?_
        refine g_iload fx dX10_part_46 rfl ?_
        refine g_aload_n fx dX10_part_48 rfl ?_
        refine g_iload fx dX10_part_49 rfl ?_
        refine g_callVD fx dX10_part_51 mv_RX10_216 my_X9_at (s_X9_at ad _ (trF_in hg7) _) (tray_O (trF_in hg7)) rfl rfl rfl (Nat.le_of_ble_eq_true rfl) (by decide) (by decide) ?_
        refine g_l2i fx dX10_part_54 ?_
        refine g_callVD0 fx dX10_part_55 mv_RX10_219 my_X4_put (s_X4_putC ad _ in_143 (show 143 + 1 = 144 from rfl) _ _) (row_O in_143) rfl rfl rfl (Nat.le_of_ble_eq_true rfl) (by decide) (by decide) ?_
        refine g_iinc1 fx dX10_part_58 (by decide) rfl rfl (by unfold okI; omega) rfl ?_
        refine g_goto (tgt := 33) fx dX10_part_61 (by decide) ?_
        exact gw_cg (by rw [itr_s, zToS]) (by rw [show ((k : Nat) : Int) + 1 = ((k + 1 : Nat) : Int) by omega]; rfl) (ih (by omega))
    exact loop33 0 (Nat.zero_le _)
  · exact g_throwS fx het th_RX10_142_146 (by decide +kernel : (RX10, 213, "no parting of the sack", 26) ∈ gw_strT) eX10_part_20 eX10_part_23 eX10_part_24 eX10_part_26 eX10_part_29 (by decide) rfl rfl (by decide) (by decide) (by decide) (by show gPart σ s i = _; rw [gPart, or_n hg2, or_n hg7, if_pos (by omega)]; rfl)
set_option maxRecDepth 4000 in
theorem s_X10_tellsAnOrder (ad : Nat → Nat) (σ : Sg)  {t : Nat} (ht : t ∈ gw_trays) : gw_Sp yX10_tellsAnOrder cX10_tellsAnOrder 8 (some .boolean) 4 0 0 [vR (some 0), vR (some t)] (gw_M0 ad) σ (gw_D (some (vI (zOr σ t).1)) (gw_M0 ad) ((zOr σ t).2)) gw_no := by
  refine gw_Sp.of [some (vR (some 0)), some (vR (some t)), none, none, none, none, none, none] (by decide +kernel) rfl (Nat.le_of_ble_eq_true rfl) ?_
  intro X G fx het hnm
  refine g_aload_n fx dX10_tellsAnOrder_0 rfl ?_
  refine g_getr fx dX10_tellsAnOrder_1 fk_RX10_28 o_0 rf_0_2 ?_
  refine g_callVD fx dX10_tellsAnOrder_4 mv_RX10_226 my_X1_pieces (s_X1_pieces ad _ in_4) (mill_O in_4) rfl rfl rfl (Nat.le_of_ble_eq_true rfl) (by decide) (by decide) ?_
  refine g_istore_n fx dX10_tellsAnOrder_7 (by decide) rfl rfl ?_
  refine g_aload_n fx dX10_tellsAnOrder_8 rfl ?_
  refine g_geti fx dX10_tellsAnOrder_9 fk_RX10_215 (by decide) (tray_O ht) ?_
  refine g_iload_n fx dX10_tellsAnOrder_12 rfl ?_
  refine g_icmp_ne (tgt := 20) fx dX10_tellsAnOrder_13 (by decide) (fun h13 => ?_) (fun h13 => ?_)
  · refine g_iconst fx dX10_tellsAnOrder_20 (by unfold okI; omega) ?_
    refine g_istore_n fx dX10_tellsAnOrder_21 (by decide) rfl rfl ?_
    refine g_aload_n fx dX10_tellsAnOrder_22 rfl ?_
    refine g_getr fx dX10_tellsAnOrder_23 fk_RX10_84 o_0 rf_0_11 ?_
    refine g_iconst fx dX10_tellsAnOrder_26 (by unfold okI; omega) ?_
    refine g_callVD0 fx dX10_tellsAnOrder_27 mv_RX10_332 my_X4_fill (s_X4_fillC ad _ in_145 (show 145 + 1 = 146 from rfl) _) (row_O in_145) rfl rfl rfl (Nat.le_of_ble_eq_true rfl) (by decide) (by decide) ?_
    refine g_iconst fx dX10_tellsAnOrder_30 (by unfold okI; omega) ?_
    refine g_istore fx dX10_tellsAnOrder_31 (by decide) rfl rfl ?_
    have loop33 : ∀ i : Nat, i ≤ (mPcs σ 4).toNat → gw_W X (yX10_tellsAnOrder.cls, cX10_tellsAnOrder, 8, (some .boolean), 4, 0, 0) G (gw_Z X G (gw_M0 ad) σ (gw_D (some (vI (zOr σ t).1)) (gw_M0 ad) ((zOr σ t).2)) gw_no 0 0) 0 0 (gw_M0 ad) ((itr i (zOrS (t + 1) (mPcs σ 4)) (zOr0 σ t)).2) 33 [some (vR (some 0)), some (vR (some t)), some (vI (mPcs σ 4)), some (vI (itr i (zOrS (t + 1) (mPcs σ 4)) (zOr0 σ t)).1), some (vI (i : Nat)), none, none, none] [] := by
      refine up_ind _ ((mPcs σ 4).toNat) (fun i hi ih => ?_)
      refine g_okL 2 rfl (fun hq3 => ?_)
      have hq4 : okI (mPcs σ 4) := hq3
      unfold okI at hq4
      have hj1 := @jc_ge (yAt (itr i (zOrS (t + 1) (mPcs σ 4)) (zOr0 σ t)).2 (t + 1) (i : Nat)) 0
      have hj2 := @jc_ge (yAt (itr i (zOrS (t + 1) (mPcs σ 4)) (zOr0 σ t)).2 (t + 1) (i : Nat)) (mPcs σ 4)
      refine g_iload fx dX10_tellsAnOrder_33 rfl ?_
      refine g_iload_n fx dX10_tellsAnOrder_35 rfl ?_
      refine g_icmp_ge (tgt := 126) fx dX10_tellsAnOrder_36 (by decide) (fun h36 => ?_) (fun h36 => ?_)
      · have hend : zOr σ t = (itr i (zOrS (t + 1) (mPcs σ 4)) (zOr0 σ t)) := by
          rw [zOr]
          first
          | rw [show (mPcs σ 4).toNat = i by omega]
          | (rw [show (mPcs σ 4).toNat = i + ((mPcs σ 4).toNat - i) by omega]; exact zOrS_0 _ _ _ _ (by assumption) _)
        refine g_iload_n fx dX10_tellsAnOrder_126 rfl ?_
        exact g_zret fx rfl dX10_tellsAnOrder_127 (zOrS_b _ _ _ (zOr0_b σ t) i) (by decide) (by decide) (gw_le.rf _) ⟨by rw [hend], rfl, by rw [hend]⟩
      · refine g_iload_n fx dX10_tellsAnOrder_39 rfl ?_
        refine g_if_eq (tgt := 126) fx dX10_tellsAnOrder_40 (by decide) (fun h40 => ?_) (fun h40 => ?_)
        · have hend : zOr σ t = (itr i (zOrS (t + 1) (mPcs σ 4)) (zOr0 σ t)) := by
            rw [zOr]
            first
            | rw [show (mPcs σ 4).toNat = i by omega]
            | (rw [show (mPcs σ 4).toNat = i + ((mPcs σ 4).toNat - i) by omega]; exact zOrS_0 _ _ _ _ (by assumption) _)
          refine g_iload_n fx dX10_tellsAnOrder_126 rfl ?_
          exact g_zret fx rfl dX10_tellsAnOrder_127 (zOrS_b _ _ _ (zOr0_b σ t) i) (by decide) (by decide) (gw_le.rf _) ⟨by rw [hend], rfl, by rw [hend]⟩
        · refine g_aload_n fx dX10_tellsAnOrder_43 rfl ?_
          refine g_iload fx dX10_tellsAnOrder_44 rfl ?_
          refine g_callVD fx dX10_tellsAnOrder_46 mv_RX10_216 my_X9_at (s_X9_at ad _ ht _) (tray_O ht) rfl rfl rfl (Nat.le_of_ble_eq_true rfl) (by decide) (by decide) ?_
          refine g_lstore fx dX10_tellsAnOrder_49 (by decide) rfl rfl ?_
          refine g_lload fx dX10_tellsAnOrder_51 rfl ?_
          refine g_lconst0 fx dX10_tellsAnOrder_53 ?_
          refine g_lcmp fx dX10_tellsAnOrder_54 ?_
          refine g_if_lt (tgt := 72) fx dX10_tellsAnOrder_55 (by decide) (fun h55 => ?_) (fun h55 => ?_)
          · refine g_iconst fx dX10_tellsAnOrder_72 (by unfold okI; omega) ?_
            refine gw_cgt (v' := zOrP (itr i (zOrS (t + 1) (mPcs σ 4)) (zOr0 σ t)).2 (t + 1) (mPcs σ 4) i) rfl (by rw [zOrP]; (repeat first | rw [if_pos (by omega)] | rw [if_neg (by omega)])) ?_
            refine g_istore fx dX10_tellsAnOrder_73 (by decide) rfl rfl ?_
            refine g_iload fx dX10_tellsAnOrder_75 rfl ?_
            refine g_iconst fx dX10_tellsAnOrder_77 (by unfold okI; omega) ?_
            refine g_icmp_eq (tgt := 97) fx dX10_tellsAnOrder_78 (by decide) (fun h78 => ?_) (fun h78 => ?_)
            · refine g_iconst fx dX10_tellsAnOrder_97 (by unfold okI; omega) ?_
              refine g_istore_n fx dX10_tellsAnOrder_98 (by decide) rfl rfl ?_
              refine g_aload_n fx dX10_tellsAnOrder_99 rfl ?_
              refine g_getr fx dX10_tellsAnOrder_100 fk_RX10_84 o_0 rf_0_11 ?_
              refine g_iload fx dX10_tellsAnOrder_103 rfl ?_
              refine g_iconst fx dX10_tellsAnOrder_105 (by unfold okI; omega) ?_
              refine g_callVD0 fx dX10_tellsAnOrder_106 mv_RX10_219 my_X4_put (s_X4_putC ad _ in_145 (show 145 + 1 = 146 from rfl) _ _) (row_O in_145) rfl rfl rfl (Nat.le_of_ble_eq_true rfl) (by decide) (by decide) ?_
              refine g_aload_n fx dX10_tellsAnOrder_109 rfl ?_
              refine g_getr fx dX10_tellsAnOrder_110 fk_RX10_80 o_0 rf_0_10 ?_
              refine g_iload fx dX10_tellsAnOrder_113 rfl ?_
              refine g_iload fx dX10_tellsAnOrder_115 rfl ?_
              refine g_callVD0 fx dX10_tellsAnOrder_117 mv_RX10_219 my_X4_put (s_X4_putC ad _ in_143 (show 143 + 1 = 144 from rfl) _ _) (row_O in_143) rfl rfl rfl (Nat.le_of_ble_eq_true rfl) (by decide) (by decide) ?_
              refine g_iinc1 fx dX10_tellsAnOrder_120 (by decide) rfl rfl (by unfold okI; omega) rfl ?_
              refine g_goto (tgt := 33) fx dX10_tellsAnOrder_123 (by decide) ?_
              refine g_kill 5 rfl (g_kill 7 rfl ?_)
              first
              | (exfalso; omega)
              | exact gw_cg (by rw [itr_s, zOrS, if_neg (by omega)]) (by rw [itr_s, zOrS, if_neg (by omega), show ((i : Nat) : Int) + 1 = ((i + 1 : Nat) : Int) by omega]; (repeat first | rw [if_pos (by omega)] | rw [if_neg (by omega)]) <;> rfl) (ih (by omega))
            · refine g_aload_n fx dX10_tellsAnOrder_81 rfl ?_
              refine g_getr fx dX10_tellsAnOrder_82 fk_RX10_84 o_0 rf_0_11 ?_
              refine g_iload fx dX10_tellsAnOrder_85 rfl ?_
              refine g_callVD fx dX10_tellsAnOrder_87 mv_RX10_155 my_X4_at (s_X4_atC ad _ in_145 (show 145 + 1 = 146 from rfl) _) (row_O in_145) rfl rfl rfl (Nat.le_of_ble_eq_true rfl) (by decide) (by decide) ?_
              refine g_if_ne (tgt := 97) fx dX10_tellsAnOrder_90 (by decide) (fun h90 => ?_) (fun h90 => ?_)
              · refine g_iconst fx dX10_tellsAnOrder_97 (by unfold okI; omega) ?_
                refine g_istore_n fx dX10_tellsAnOrder_98 (by decide) rfl rfl ?_
                refine g_aload_n fx dX10_tellsAnOrder_99 rfl ?_
                refine g_getr fx dX10_tellsAnOrder_100 fk_RX10_84 o_0 rf_0_11 ?_
                refine g_iload fx dX10_tellsAnOrder_103 rfl ?_
                refine g_iconst fx dX10_tellsAnOrder_105 (by unfold okI; omega) ?_
                refine g_callVD0 fx dX10_tellsAnOrder_106 mv_RX10_219 my_X4_put (s_X4_putC ad _ in_145 (show 145 + 1 = 146 from rfl) _ _) (row_O in_145) rfl rfl rfl (Nat.le_of_ble_eq_true rfl) (by decide) (by decide) ?_
                refine g_aload_n fx dX10_tellsAnOrder_109 rfl ?_
                refine g_getr fx dX10_tellsAnOrder_110 fk_RX10_80 o_0 rf_0_10 ?_
                refine g_iload fx dX10_tellsAnOrder_113 rfl ?_
                refine g_iload fx dX10_tellsAnOrder_115 rfl ?_
                refine g_callVD0 fx dX10_tellsAnOrder_117 mv_RX10_219 my_X4_put (s_X4_putC ad _ in_143 (show 143 + 1 = 144 from rfl) _ _) (row_O in_143) rfl rfl rfl (Nat.le_of_ble_eq_true rfl) (by decide) (by decide) ?_
                refine g_iinc1 fx dX10_tellsAnOrder_120 (by decide) rfl rfl (by unfold okI; omega) rfl ?_
                refine g_goto (tgt := 33) fx dX10_tellsAnOrder_123 (by decide) ?_
                refine g_kill 5 rfl (g_kill 7 rfl ?_)
                first
                | (exfalso; omega)
                | exact gw_cg (by rw [itr_s, zOrS, if_neg (by omega)]) (by rw [itr_s, zOrS, if_neg (by omega), show ((i : Nat) : Int) + 1 = ((i + 1 : Nat) : Int) by omega]; (repeat first | rw [if_pos (by omega)] | rw [if_neg (by omega)]) <;> rfl) (ih (by omega))
              · refine g_iconst fx dX10_tellsAnOrder_93 (by unfold okI; omega) ?_
                refine g_goto (tgt := 98) fx dX10_tellsAnOrder_94 (by decide) ?_
                refine g_istore_n fx dX10_tellsAnOrder_98 (by decide) rfl rfl ?_
                refine g_aload_n fx dX10_tellsAnOrder_99 rfl ?_
                refine g_getr fx dX10_tellsAnOrder_100 fk_RX10_84 o_0 rf_0_11 ?_
                refine g_iload fx dX10_tellsAnOrder_103 rfl ?_
                refine g_iconst fx dX10_tellsAnOrder_105 (by unfold okI; omega) ?_
                refine g_callVD0 fx dX10_tellsAnOrder_106 mv_RX10_219 my_X4_put (s_X4_putC ad _ in_145 (show 145 + 1 = 146 from rfl) _ _) (row_O in_145) rfl rfl rfl (Nat.le_of_ble_eq_true rfl) (by decide) (by decide) ?_
                refine g_aload_n fx dX10_tellsAnOrder_109 rfl ?_
                refine g_getr fx dX10_tellsAnOrder_110 fk_RX10_80 o_0 rf_0_10 ?_
                refine g_iload fx dX10_tellsAnOrder_113 rfl ?_
                refine g_iload fx dX10_tellsAnOrder_115 rfl ?_
                refine g_callVD0 fx dX10_tellsAnOrder_117 mv_RX10_219 my_X4_put (s_X4_putC ad _ in_143 (show 143 + 1 = 144 from rfl) _ _) (row_O in_143) rfl rfl rfl (Nat.le_of_ble_eq_true rfl) (by decide) (by decide) ?_
                refine g_iinc1 fx dX10_tellsAnOrder_120 (by decide) rfl rfl (by unfold okI; omega) rfl ?_
                refine g_goto (tgt := 33) fx dX10_tellsAnOrder_123 (by decide) ?_
                refine g_kill 5 rfl (g_kill 7 rfl ?_)
                first
                | (exfalso; omega)
                | exact gw_cg (by rw [itr_s, zOrS, if_neg (by omega)]) (by rw [itr_s, zOrS, if_neg (by omega), show ((i : Nat) : Int) + 1 = ((i + 1 : Nat) : Int) by omega]; (repeat first | rw [if_pos (by omega)] | rw [if_neg (by omega)]) <;> rfl) (ih (by omega))
          · refine g_lload fx dX10_tellsAnOrder_58 rfl ?_
            refine g_iload_n fx dX10_tellsAnOrder_60 rfl ?_
            refine g_i2l fx dX10_tellsAnOrder_61 ?_
            refine g_lcmp fx dX10_tellsAnOrder_62 ?_
            refine g_if_ge (tgt := 72) fx dX10_tellsAnOrder_63 (by decide) (fun h63 => ?_) (fun h63 => ?_)
            · refine g_iconst fx dX10_tellsAnOrder_72 (by unfold okI; omega) ?_
              refine gw_cgt (v' := zOrP (itr i (zOrS (t + 1) (mPcs σ 4)) (zOr0 σ t)).2 (t + 1) (mPcs σ 4) i) rfl (by rw [zOrP]; (repeat first | rw [if_pos (by omega)] | rw [if_neg (by omega)])) ?_
              refine g_istore fx dX10_tellsAnOrder_73 (by decide) rfl rfl ?_
              refine g_iload fx dX10_tellsAnOrder_75 rfl ?_
              refine g_iconst fx dX10_tellsAnOrder_77 (by unfold okI; omega) ?_
              refine g_icmp_eq (tgt := 97) fx dX10_tellsAnOrder_78 (by decide) (fun h78 => ?_) (fun h78 => ?_)
              · refine g_iconst fx dX10_tellsAnOrder_97 (by unfold okI; omega) ?_
                refine g_istore_n fx dX10_tellsAnOrder_98 (by decide) rfl rfl ?_
                refine g_aload_n fx dX10_tellsAnOrder_99 rfl ?_
                refine g_getr fx dX10_tellsAnOrder_100 fk_RX10_84 o_0 rf_0_11 ?_
                refine g_iload fx dX10_tellsAnOrder_103 rfl ?_
                refine g_iconst fx dX10_tellsAnOrder_105 (by unfold okI; omega) ?_
                refine g_callVD0 fx dX10_tellsAnOrder_106 mv_RX10_219 my_X4_put (s_X4_putC ad _ in_145 (show 145 + 1 = 146 from rfl) _ _) (row_O in_145) rfl rfl rfl (Nat.le_of_ble_eq_true rfl) (by decide) (by decide) ?_
                refine g_aload_n fx dX10_tellsAnOrder_109 rfl ?_
                refine g_getr fx dX10_tellsAnOrder_110 fk_RX10_80 o_0 rf_0_10 ?_
                refine g_iload fx dX10_tellsAnOrder_113 rfl ?_
                refine g_iload fx dX10_tellsAnOrder_115 rfl ?_
                refine g_callVD0 fx dX10_tellsAnOrder_117 mv_RX10_219 my_X4_put (s_X4_putC ad _ in_143 (show 143 + 1 = 144 from rfl) _ _) (row_O in_143) rfl rfl rfl (Nat.le_of_ble_eq_true rfl) (by decide) (by decide) ?_
                refine g_iinc1 fx dX10_tellsAnOrder_120 (by decide) rfl rfl (by unfold okI; omega) rfl ?_
                refine g_goto (tgt := 33) fx dX10_tellsAnOrder_123 (by decide) ?_
                refine g_kill 5 rfl (g_kill 7 rfl ?_)
                first
                | (exfalso; omega)
                | exact gw_cg (by rw [itr_s, zOrS, if_neg (by omega)]) (by rw [itr_s, zOrS, if_neg (by omega), show ((i : Nat) : Int) + 1 = ((i + 1 : Nat) : Int) by omega]; (repeat first | rw [if_pos (by omega)] | rw [if_neg (by omega)]) <;> rfl) (ih (by omega))
              · refine g_aload_n fx dX10_tellsAnOrder_81 rfl ?_
                refine g_getr fx dX10_tellsAnOrder_82 fk_RX10_84 o_0 rf_0_11 ?_
                refine g_iload fx dX10_tellsAnOrder_85 rfl ?_
                refine g_callVD fx dX10_tellsAnOrder_87 mv_RX10_155 my_X4_at (s_X4_atC ad _ in_145 (show 145 + 1 = 146 from rfl) _) (row_O in_145) rfl rfl rfl (Nat.le_of_ble_eq_true rfl) (by decide) (by decide) ?_
                refine g_if_ne (tgt := 97) fx dX10_tellsAnOrder_90 (by decide) (fun h90 => ?_) (fun h90 => ?_)
                · refine g_iconst fx dX10_tellsAnOrder_97 (by unfold okI; omega) ?_
                  refine g_istore_n fx dX10_tellsAnOrder_98 (by decide) rfl rfl ?_
                  refine g_aload_n fx dX10_tellsAnOrder_99 rfl ?_
                  refine g_getr fx dX10_tellsAnOrder_100 fk_RX10_84 o_0 rf_0_11 ?_
                  refine g_iload fx dX10_tellsAnOrder_103 rfl ?_
                  refine g_iconst fx dX10_tellsAnOrder_105 (by unfold okI; omega) ?_
                  refine g_callVD0 fx dX10_tellsAnOrder_106 mv_RX10_219 my_X4_put (s_X4_putC ad _ in_145 (show 145 + 1 = 146 from rfl) _ _) (row_O in_145) rfl rfl rfl (Nat.le_of_ble_eq_true rfl) (by decide) (by decide) ?_
                  refine g_aload_n fx dX10_tellsAnOrder_109 rfl ?_
                  refine g_getr fx dX10_tellsAnOrder_110 fk_RX10_80 o_0 rf_0_10 ?_
                  refine g_iload fx dX10_tellsAnOrder_113 rfl ?_
                  refine g_iload fx dX10_tellsAnOrder_115 rfl ?_
                  refine g_callVD0 fx dX10_tellsAnOrder_117 mv_RX10_219 my_X4_put (s_X4_putC ad _ in_143 (show 143 + 1 = 144 from rfl) _ _) (row_O in_143) rfl rfl rfl (Nat.le_of_ble_eq_true rfl) (by decide) (by decide) ?_
                  refine g_iinc1 fx dX10_tellsAnOrder_120 (by decide) rfl rfl (by unfold okI; omega) rfl ?_
                  refine g_goto (tgt := 33) fx dX10_tellsAnOrder_123 (by decide) ?_
                  refine g_kill 5 rfl (g_kill 7 rfl ?_)
                  first
                  | (exfalso; omega)
                  | exact gw_cg (by rw [itr_s, zOrS, if_neg (by omega)]) (by rw [itr_s, zOrS, if_neg (by omega), show ((i : Nat) : Int) + 1 = ((i + 1 : Nat) : Int) by omega]; (repeat first | rw [if_pos (by omega)] | rw [if_neg (by omega)]) <;> rfl) (ih (by omega))
                · refine g_iconst fx dX10_tellsAnOrder_93 (by unfold okI; omega) ?_
                  refine g_goto (tgt := 98) fx dX10_tellsAnOrder_94 (by decide) ?_
                  refine g_istore_n fx dX10_tellsAnOrder_98 (by decide) rfl rfl ?_
                  refine g_aload_n fx dX10_tellsAnOrder_99 rfl ?_
                  refine g_getr fx dX10_tellsAnOrder_100 fk_RX10_84 o_0 rf_0_11 ?_
                  refine g_iload fx dX10_tellsAnOrder_103 rfl ?_
                  refine g_iconst fx dX10_tellsAnOrder_105 (by unfold okI; omega) ?_
                  refine g_callVD0 fx dX10_tellsAnOrder_106 mv_RX10_219 my_X4_put (s_X4_putC ad _ in_145 (show 145 + 1 = 146 from rfl) _ _) (row_O in_145) rfl rfl rfl (Nat.le_of_ble_eq_true rfl) (by decide) (by decide) ?_
                  refine g_aload_n fx dX10_tellsAnOrder_109 rfl ?_
                  refine g_getr fx dX10_tellsAnOrder_110 fk_RX10_80 o_0 rf_0_10 ?_
                  refine g_iload fx dX10_tellsAnOrder_113 rfl ?_
                  refine g_iload fx dX10_tellsAnOrder_115 rfl ?_
                  refine g_callVD0 fx dX10_tellsAnOrder_117 mv_RX10_219 my_X4_put (s_X4_putC ad _ in_143 (show 143 + 1 = 144 from rfl) _ _) (row_O in_143) rfl rfl rfl (Nat.le_of_ble_eq_true rfl) (by decide) (by decide) ?_
                  refine g_iinc1 fx dX10_tellsAnOrder_120 (by decide) rfl rfl (by unfold okI; omega) rfl ?_
                  refine g_goto (tgt := 33) fx dX10_tellsAnOrder_123 (by decide) ?_
                  refine g_kill 5 rfl (g_kill 7 rfl ?_)
                  first
                  | (exfalso; omega)
                  | exact gw_cg (by rw [itr_s, zOrS, if_neg (by omega)]) (by rw [itr_s, zOrS, if_neg (by omega), show ((i : Nat) : Int) + 1 = ((i + 1 : Nat) : Int) by omega]; (repeat first | rw [if_pos (by omega)] | rw [if_neg (by omega)]) <;> rfl) (ih (by omega))
            · refine g_lload fx dX10_tellsAnOrder_66 rfl ?_
              refine g_l2i fx dX10_tellsAnOrder_68 ?_
              refine g_goto (tgt := 73) fx dX10_tellsAnOrder_69 (by decide) ?_
              refine gw_cgt (v' := zOrP (itr i (zOrS (t + 1) (mPcs σ 4)) (zOr0 σ t)).2 (t + 1) (mPcs σ 4) i) rfl (by rw [zOrP]; (repeat first | rw [if_pos (by omega)] | rw [if_neg (by omega)])) ?_
              refine g_istore fx dX10_tellsAnOrder_73 (by decide) rfl rfl ?_
              refine g_iload fx dX10_tellsAnOrder_75 rfl ?_
              refine g_iconst fx dX10_tellsAnOrder_77 (by unfold okI; omega) ?_
              refine g_icmp_eq (tgt := 97) fx dX10_tellsAnOrder_78 (by decide) (fun h78 => ?_) (fun h78 => ?_)
              · refine g_iconst fx dX10_tellsAnOrder_97 (by unfold okI; omega) ?_
                refine g_istore_n fx dX10_tellsAnOrder_98 (by decide) rfl rfl ?_
                refine g_aload_n fx dX10_tellsAnOrder_99 rfl ?_
                refine g_getr fx dX10_tellsAnOrder_100 fk_RX10_84 o_0 rf_0_11 ?_
                refine g_iload fx dX10_tellsAnOrder_103 rfl ?_
                refine g_iconst fx dX10_tellsAnOrder_105 (by unfold okI; omega) ?_
                refine g_callVD0 fx dX10_tellsAnOrder_106 mv_RX10_219 my_X4_put (s_X4_putC ad _ in_145 (show 145 + 1 = 146 from rfl) _ _) (row_O in_145) rfl rfl rfl (Nat.le_of_ble_eq_true rfl) (by decide) (by decide) ?_
                refine g_aload_n fx dX10_tellsAnOrder_109 rfl ?_
                refine g_getr fx dX10_tellsAnOrder_110 fk_RX10_80 o_0 rf_0_10 ?_
                refine g_iload fx dX10_tellsAnOrder_113 rfl ?_
                refine g_iload fx dX10_tellsAnOrder_115 rfl ?_
                refine g_callVD0 fx dX10_tellsAnOrder_117 mv_RX10_219 my_X4_put (s_X4_putC ad _ in_143 (show 143 + 1 = 144 from rfl) _ _) (row_O in_143) rfl rfl rfl (Nat.le_of_ble_eq_true rfl) (by decide) (by decide) ?_
                refine g_iinc1 fx dX10_tellsAnOrder_120 (by decide) rfl rfl (by unfold okI; omega) rfl ?_
                refine g_goto (tgt := 33) fx dX10_tellsAnOrder_123 (by decide) ?_
                refine g_kill 5 rfl (g_kill 7 rfl ?_)
                first
                | (exfalso; omega)
                | exact gw_cg (by rw [itr_s, zOrS, if_neg (by omega)]) (by rw [itr_s, zOrS, if_neg (by omega), show ((i : Nat) : Int) + 1 = ((i + 1 : Nat) : Int) by omega]; (repeat first | rw [if_pos (by omega)] | rw [if_neg (by omega)]) <;> rfl) (ih (by omega))
              · refine g_aload_n fx dX10_tellsAnOrder_81 rfl ?_
                refine g_getr fx dX10_tellsAnOrder_82 fk_RX10_84 o_0 rf_0_11 ?_
                refine g_iload fx dX10_tellsAnOrder_85 rfl ?_
                refine g_callVD fx dX10_tellsAnOrder_87 mv_RX10_155 my_X4_at (s_X4_atC ad _ in_145 (show 145 + 1 = 146 from rfl) _) (row_O in_145) rfl rfl rfl (Nat.le_of_ble_eq_true rfl) (by decide) (by decide) ?_
                refine g_if_ne (tgt := 97) fx dX10_tellsAnOrder_90 (by decide) (fun h90 => ?_) (fun h90 => ?_)
                · refine g_iconst fx dX10_tellsAnOrder_97 (by unfold okI; omega) ?_
                  refine g_istore_n fx dX10_tellsAnOrder_98 (by decide) rfl rfl ?_
                  refine g_aload_n fx dX10_tellsAnOrder_99 rfl ?_
                  refine g_getr fx dX10_tellsAnOrder_100 fk_RX10_84 o_0 rf_0_11 ?_
                  refine g_iload fx dX10_tellsAnOrder_103 rfl ?_
                  refine g_iconst fx dX10_tellsAnOrder_105 (by unfold okI; omega) ?_
                  refine g_callVD0 fx dX10_tellsAnOrder_106 mv_RX10_219 my_X4_put (s_X4_putC ad _ in_145 (show 145 + 1 = 146 from rfl) _ _) (row_O in_145) rfl rfl rfl (Nat.le_of_ble_eq_true rfl) (by decide) (by decide) ?_
                  refine g_aload_n fx dX10_tellsAnOrder_109 rfl ?_
                  refine g_getr fx dX10_tellsAnOrder_110 fk_RX10_80 o_0 rf_0_10 ?_
                  refine g_iload fx dX10_tellsAnOrder_113 rfl ?_
                  refine g_iload fx dX10_tellsAnOrder_115 rfl ?_
                  refine g_callVD0 fx dX10_tellsAnOrder_117 mv_RX10_219 my_X4_put (s_X4_putC ad _ in_143 (show 143 + 1 = 144 from rfl) _ _) (row_O in_143) rfl rfl rfl (Nat.le_of_ble_eq_true rfl) (by decide) (by decide) ?_
                  refine g_iinc1 fx dX10_tellsAnOrder_120 (by decide) rfl rfl (by unfold okI; omega) rfl ?_
                  refine g_goto (tgt := 33) fx dX10_tellsAnOrder_123 (by decide) ?_
                  refine g_kill 5 rfl (g_kill 7 rfl ?_)
                  first
                  | (exfalso; omega)
                  | exact gw_cg (by rw [itr_s, zOrS, if_neg (by omega)]) (by rw [itr_s, zOrS, if_neg (by omega), show ((i : Nat) : Int) + 1 = ((i + 1 : Nat) : Int) by omega]; (repeat first | rw [if_pos (by omega)] | rw [if_neg (by omega)]) <;> rfl) (ih (by omega))
                · refine g_iconst fx dX10_tellsAnOrder_93 (by unfold okI; omega) ?_
                  refine g_goto (tgt := 98) fx dX10_tellsAnOrder_94 (by decide) ?_
                  refine g_istore_n fx dX10_tellsAnOrder_98 (by decide) rfl rfl ?_
                  refine g_aload_n fx dX10_tellsAnOrder_99 rfl ?_
                  refine g_getr fx dX10_tellsAnOrder_100 fk_RX10_84 o_0 rf_0_11 ?_
                  refine g_iload fx dX10_tellsAnOrder_103 rfl ?_
                  refine g_iconst fx dX10_tellsAnOrder_105 (by unfold okI; omega) ?_
                  refine g_callVD0 fx dX10_tellsAnOrder_106 mv_RX10_219 my_X4_put (s_X4_putC ad _ in_145 (show 145 + 1 = 146 from rfl) _ _) (row_O in_145) rfl rfl rfl (Nat.le_of_ble_eq_true rfl) (by decide) (by decide) ?_
                  refine g_aload_n fx dX10_tellsAnOrder_109 rfl ?_
                  refine g_getr fx dX10_tellsAnOrder_110 fk_RX10_80 o_0 rf_0_10 ?_
                  refine g_iload fx dX10_tellsAnOrder_113 rfl ?_
                  refine g_iload fx dX10_tellsAnOrder_115 rfl ?_
                  refine g_callVD0 fx dX10_tellsAnOrder_117 mv_RX10_219 my_X4_put (s_X4_putC ad _ in_143 (show 143 + 1 = 144 from rfl) _ _) (row_O in_143) rfl rfl rfl (Nat.le_of_ble_eq_true rfl) (by decide) (by decide) ?_
                  refine g_iinc1 fx dX10_tellsAnOrder_120 (by decide) rfl rfl (by unfold okI; omega) rfl ?_
                  refine g_goto (tgt := 33) fx dX10_tellsAnOrder_123 (by decide) ?_
                  refine g_kill 5 rfl (g_kill 7 rfl ?_)
                  first
                  | (exfalso; omega)
                  | exact gw_cg (by rw [itr_s, zOrS, if_neg (by omega)]) (by rw [itr_s, zOrS, if_neg (by omega), show ((i : Nat) : Int) + 1 = ((i + 1 : Nat) : Int) by omega]; (repeat first | rw [if_pos (by omega)] | rw [if_neg (by omega)]) <;> rfl) (ih (by omega))
    exact gw_cg rfl (by simp only [itr, zOr0]; (repeat first | rw [if_pos (by omega)] | rw [if_neg (by omega)]) <;> rfl) (loop33 0 (Nat.zero_le _))
  · refine g_iconst fx dX10_tellsAnOrder_16 (by unfold okI; omega) ?_
    refine g_goto (tgt := 21) fx dX10_tellsAnOrder_17 (by decide) ?_
    refine g_istore_n fx dX10_tellsAnOrder_21 (by decide) rfl rfl ?_
    refine g_aload_n fx dX10_tellsAnOrder_22 rfl ?_
    refine g_getr fx dX10_tellsAnOrder_23 fk_RX10_84 o_0 rf_0_11 ?_
    refine g_iconst fx dX10_tellsAnOrder_26 (by unfold okI; omega) ?_
    refine g_callVD0 fx dX10_tellsAnOrder_27 mv_RX10_332 my_X4_fill (s_X4_fillC ad _ in_145 (show 145 + 1 = 146 from rfl) _) (row_O in_145) rfl rfl rfl (Nat.le_of_ble_eq_true rfl) (by decide) (by decide) ?_
    refine g_iconst fx dX10_tellsAnOrder_30 (by unfold okI; omega) ?_
    refine g_istore fx dX10_tellsAnOrder_31 (by decide) rfl rfl ?_
    have loop33 : ∀ i : Nat, i ≤ (mPcs σ 4).toNat → gw_W X (yX10_tellsAnOrder.cls, cX10_tellsAnOrder, 8, (some .boolean), 4, 0, 0) G (gw_Z X G (gw_M0 ad) σ (gw_D (some (vI (zOr σ t).1)) (gw_M0 ad) ((zOr σ t).2)) gw_no 0 0) 0 0 (gw_M0 ad) ((itr i (zOrS (t + 1) (mPcs σ 4)) (zOr0 σ t)).2) 33 [some (vR (some 0)), some (vR (some t)), some (vI (mPcs σ 4)), some (vI (itr i (zOrS (t + 1) (mPcs σ 4)) (zOr0 σ t)).1), some (vI (i : Nat)), none, none, none] [] := by
      refine up_ind _ ((mPcs σ 4).toNat) (fun i hi ih => ?_)
      refine g_okL 2 rfl (fun hq3 => ?_)
      have hq4 : okI (mPcs σ 4) := hq3
      unfold okI at hq4
      have hj1 := @jc_ge (yAt (itr i (zOrS (t + 1) (mPcs σ 4)) (zOr0 σ t)).2 (t + 1) (i : Nat)) 0
      have hj2 := @jc_ge (yAt (itr i (zOrS (t + 1) (mPcs σ 4)) (zOr0 σ t)).2 (t + 1) (i : Nat)) (mPcs σ 4)
      refine g_iload fx dX10_tellsAnOrder_33 rfl ?_
      refine g_iload_n fx dX10_tellsAnOrder_35 rfl ?_
      refine g_icmp_ge (tgt := 126) fx dX10_tellsAnOrder_36 (by decide) (fun h36 => ?_) (fun h36 => ?_)
      · have hend : zOr σ t = (itr i (zOrS (t + 1) (mPcs σ 4)) (zOr0 σ t)) := by
          rw [zOr]
          first
          | rw [show (mPcs σ 4).toNat = i by omega]
          | (rw [show (mPcs σ 4).toNat = i + ((mPcs σ 4).toNat - i) by omega]; exact zOrS_0 _ _ _ _ (by assumption) _)
        refine g_iload_n fx dX10_tellsAnOrder_126 rfl ?_
        exact g_zret fx rfl dX10_tellsAnOrder_127 (zOrS_b _ _ _ (zOr0_b σ t) i) (by decide) (by decide) (gw_le.rf _) ⟨by rw [hend], rfl, by rw [hend]⟩
      · refine g_iload_n fx dX10_tellsAnOrder_39 rfl ?_
        refine g_if_eq (tgt := 126) fx dX10_tellsAnOrder_40 (by decide) (fun h40 => ?_) (fun h40 => ?_)
        · have hend : zOr σ t = (itr i (zOrS (t + 1) (mPcs σ 4)) (zOr0 σ t)) := by
            rw [zOr]
            first
            | rw [show (mPcs σ 4).toNat = i by omega]
            | (rw [show (mPcs σ 4).toNat = i + ((mPcs σ 4).toNat - i) by omega]; exact zOrS_0 _ _ _ _ (by assumption) _)
          refine g_iload_n fx dX10_tellsAnOrder_126 rfl ?_
          exact g_zret fx rfl dX10_tellsAnOrder_127 (zOrS_b _ _ _ (zOr0_b σ t) i) (by decide) (by decide) (gw_le.rf _) ⟨by rw [hend], rfl, by rw [hend]⟩
        · refine g_aload_n fx dX10_tellsAnOrder_43 rfl ?_
          refine g_iload fx dX10_tellsAnOrder_44 rfl ?_
          refine g_callVD fx dX10_tellsAnOrder_46 mv_RX10_216 my_X9_at (s_X9_at ad _ ht _) (tray_O ht) rfl rfl rfl (Nat.le_of_ble_eq_true rfl) (by decide) (by decide) ?_
          refine g_lstore fx dX10_tellsAnOrder_49 (by decide) rfl rfl ?_
          refine g_lload fx dX10_tellsAnOrder_51 rfl ?_
          refine g_lconst0 fx dX10_tellsAnOrder_53 ?_
          refine g_lcmp fx dX10_tellsAnOrder_54 ?_
          refine g_if_lt (tgt := 72) fx dX10_tellsAnOrder_55 (by decide) (fun h55 => ?_) (fun h55 => ?_)
          · refine g_iconst fx dX10_tellsAnOrder_72 (by unfold okI; omega) ?_
            refine gw_cgt (v' := zOrP (itr i (zOrS (t + 1) (mPcs σ 4)) (zOr0 σ t)).2 (t + 1) (mPcs σ 4) i) rfl (by rw [zOrP]; (repeat first | rw [if_pos (by omega)] | rw [if_neg (by omega)])) ?_
            refine g_istore fx dX10_tellsAnOrder_73 (by decide) rfl rfl ?_
            refine g_iload fx dX10_tellsAnOrder_75 rfl ?_
            refine g_iconst fx dX10_tellsAnOrder_77 (by unfold okI; omega) ?_
            refine g_icmp_eq (tgt := 97) fx dX10_tellsAnOrder_78 (by decide) (fun h78 => ?_) (fun h78 => ?_)
            · refine g_iconst fx dX10_tellsAnOrder_97 (by unfold okI; omega) ?_
              refine g_istore_n fx dX10_tellsAnOrder_98 (by decide) rfl rfl ?_
              refine g_aload_n fx dX10_tellsAnOrder_99 rfl ?_
              refine g_getr fx dX10_tellsAnOrder_100 fk_RX10_84 o_0 rf_0_11 ?_
              refine g_iload fx dX10_tellsAnOrder_103 rfl ?_
              refine g_iconst fx dX10_tellsAnOrder_105 (by unfold okI; omega) ?_
              refine g_callVD0 fx dX10_tellsAnOrder_106 mv_RX10_219 my_X4_put (s_X4_putC ad _ in_145 (show 145 + 1 = 146 from rfl) _ _) (row_O in_145) rfl rfl rfl (Nat.le_of_ble_eq_true rfl) (by decide) (by decide) ?_
              refine g_aload_n fx dX10_tellsAnOrder_109 rfl ?_
              refine g_getr fx dX10_tellsAnOrder_110 fk_RX10_80 o_0 rf_0_10 ?_
              refine g_iload fx dX10_tellsAnOrder_113 rfl ?_
              refine g_iload fx dX10_tellsAnOrder_115 rfl ?_
              refine g_callVD0 fx dX10_tellsAnOrder_117 mv_RX10_219 my_X4_put (s_X4_putC ad _ in_143 (show 143 + 1 = 144 from rfl) _ _) (row_O in_143) rfl rfl rfl (Nat.le_of_ble_eq_true rfl) (by decide) (by decide) ?_
              refine g_iinc1 fx dX10_tellsAnOrder_120 (by decide) rfl rfl (by unfold okI; omega) rfl ?_
              refine g_goto (tgt := 33) fx dX10_tellsAnOrder_123 (by decide) ?_
              refine g_kill 5 rfl (g_kill 7 rfl ?_)
              first
              | (exfalso; omega)
              | exact gw_cg (by rw [itr_s, zOrS, if_neg (by omega)]) (by rw [itr_s, zOrS, if_neg (by omega), show ((i : Nat) : Int) + 1 = ((i + 1 : Nat) : Int) by omega]; (repeat first | rw [if_pos (by omega)] | rw [if_neg (by omega)]) <;> rfl) (ih (by omega))
            · refine g_aload_n fx dX10_tellsAnOrder_81 rfl ?_
              refine g_getr fx dX10_tellsAnOrder_82 fk_RX10_84 o_0 rf_0_11 ?_
              refine g_iload fx dX10_tellsAnOrder_85 rfl ?_
              refine g_callVD fx dX10_tellsAnOrder_87 mv_RX10_155 my_X4_at (s_X4_atC ad _ in_145 (show 145 + 1 = 146 from rfl) _) (row_O in_145) rfl rfl rfl (Nat.le_of_ble_eq_true rfl) (by decide) (by decide) ?_
              refine g_if_ne (tgt := 97) fx dX10_tellsAnOrder_90 (by decide) (fun h90 => ?_) (fun h90 => ?_)
              · refine g_iconst fx dX10_tellsAnOrder_97 (by unfold okI; omega) ?_
                refine g_istore_n fx dX10_tellsAnOrder_98 (by decide) rfl rfl ?_
                refine g_aload_n fx dX10_tellsAnOrder_99 rfl ?_
                refine g_getr fx dX10_tellsAnOrder_100 fk_RX10_84 o_0 rf_0_11 ?_
                refine g_iload fx dX10_tellsAnOrder_103 rfl ?_
                refine g_iconst fx dX10_tellsAnOrder_105 (by unfold okI; omega) ?_
                refine g_callVD0 fx dX10_tellsAnOrder_106 mv_RX10_219 my_X4_put (s_X4_putC ad _ in_145 (show 145 + 1 = 146 from rfl) _ _) (row_O in_145) rfl rfl rfl (Nat.le_of_ble_eq_true rfl) (by decide) (by decide) ?_
                refine g_aload_n fx dX10_tellsAnOrder_109 rfl ?_
                refine g_getr fx dX10_tellsAnOrder_110 fk_RX10_80 o_0 rf_0_10 ?_
                refine g_iload fx dX10_tellsAnOrder_113 rfl ?_
                refine g_iload fx dX10_tellsAnOrder_115 rfl ?_
                refine g_callVD0 fx dX10_tellsAnOrder_117 mv_RX10_219 my_X4_put (s_X4_putC ad _ in_143 (show 143 + 1 = 144 from rfl) _ _) (row_O in_143) rfl rfl rfl (Nat.le_of_ble_eq_true rfl) (by decide) (by decide) ?_
                refine g_iinc1 fx dX10_tellsAnOrder_120 (by decide) rfl rfl (by unfold okI; omega) rfl ?_
                refine g_goto (tgt := 33) fx dX10_tellsAnOrder_123 (by decide) ?_
                refine g_kill 5 rfl (g_kill 7 rfl ?_)
                first
                | (exfalso; omega)
                | exact gw_cg (by rw [itr_s, zOrS, if_neg (by omega)]) (by rw [itr_s, zOrS, if_neg (by omega), show ((i : Nat) : Int) + 1 = ((i + 1 : Nat) : Int) by omega]; (repeat first | rw [if_pos (by omega)] | rw [if_neg (by omega)]) <;> rfl) (ih (by omega))
              · refine g_iconst fx dX10_tellsAnOrder_93 (by unfold okI; omega) ?_
                refine g_goto (tgt := 98) fx dX10_tellsAnOrder_94 (by decide) ?_
                refine g_istore_n fx dX10_tellsAnOrder_98 (by decide) rfl rfl ?_
                refine g_aload_n fx dX10_tellsAnOrder_99 rfl ?_
                refine g_getr fx dX10_tellsAnOrder_100 fk_RX10_84 o_0 rf_0_11 ?_
                refine g_iload fx dX10_tellsAnOrder_103 rfl ?_
                refine g_iconst fx dX10_tellsAnOrder_105 (by unfold okI; omega) ?_
                refine g_callVD0 fx dX10_tellsAnOrder_106 mv_RX10_219 my_X4_put (s_X4_putC ad _ in_145 (show 145 + 1 = 146 from rfl) _ _) (row_O in_145) rfl rfl rfl (Nat.le_of_ble_eq_true rfl) (by decide) (by decide) ?_
                refine g_aload_n fx dX10_tellsAnOrder_109 rfl ?_
                refine g_getr fx dX10_tellsAnOrder_110 fk_RX10_80 o_0 rf_0_10 ?_
                refine g_iload fx dX10_tellsAnOrder_113 rfl ?_
                refine g_iload fx dX10_tellsAnOrder_115 rfl ?_
                refine g_callVD0 fx dX10_tellsAnOrder_117 mv_RX10_219 my_X4_put (s_X4_putC ad _ in_143 (show 143 + 1 = 144 from rfl) _ _) (row_O in_143) rfl rfl rfl (Nat.le_of_ble_eq_true rfl) (by decide) (by decide) ?_
                refine g_iinc1 fx dX10_tellsAnOrder_120 (by decide) rfl rfl (by unfold okI; omega) rfl ?_
                refine g_goto (tgt := 33) fx dX10_tellsAnOrder_123 (by decide) ?_
                refine g_kill 5 rfl (g_kill 7 rfl ?_)
                first
                | (exfalso; omega)
                | exact gw_cg (by rw [itr_s, zOrS, if_neg (by omega)]) (by rw [itr_s, zOrS, if_neg (by omega), show ((i : Nat) : Int) + 1 = ((i + 1 : Nat) : Int) by omega]; (repeat first | rw [if_pos (by omega)] | rw [if_neg (by omega)]) <;> rfl) (ih (by omega))
          · refine g_lload fx dX10_tellsAnOrder_58 rfl ?_
            refine g_iload_n fx dX10_tellsAnOrder_60 rfl ?_
            refine g_i2l fx dX10_tellsAnOrder_61 ?_
            refine g_lcmp fx dX10_tellsAnOrder_62 ?_
            refine g_if_ge (tgt := 72) fx dX10_tellsAnOrder_63 (by decide) (fun h63 => ?_) (fun h63 => ?_)
            · refine g_iconst fx dX10_tellsAnOrder_72 (by unfold okI; omega) ?_
              refine gw_cgt (v' := zOrP (itr i (zOrS (t + 1) (mPcs σ 4)) (zOr0 σ t)).2 (t + 1) (mPcs σ 4) i) rfl (by rw [zOrP]; (repeat first | rw [if_pos (by omega)] | rw [if_neg (by omega)])) ?_
              refine g_istore fx dX10_tellsAnOrder_73 (by decide) rfl rfl ?_
              refine g_iload fx dX10_tellsAnOrder_75 rfl ?_
              refine g_iconst fx dX10_tellsAnOrder_77 (by unfold okI; omega) ?_
              refine g_icmp_eq (tgt := 97) fx dX10_tellsAnOrder_78 (by decide) (fun h78 => ?_) (fun h78 => ?_)
              · refine g_iconst fx dX10_tellsAnOrder_97 (by unfold okI; omega) ?_
                refine g_istore_n fx dX10_tellsAnOrder_98 (by decide) rfl rfl ?_
                refine g_aload_n fx dX10_tellsAnOrder_99 rfl ?_
                refine g_getr fx dX10_tellsAnOrder_100 fk_RX10_84 o_0 rf_0_11 ?_
                refine g_iload fx dX10_tellsAnOrder_103 rfl ?_
                refine g_iconst fx dX10_tellsAnOrder_105 (by unfold okI; omega) ?_
                refine g_callVD0 fx dX10_tellsAnOrder_106 mv_RX10_219 my_X4_put (s_X4_putC ad _ in_145 (show 145 + 1 = 146 from rfl) _ _) (row_O in_145) rfl rfl rfl (Nat.le_of_ble_eq_true rfl) (by decide) (by decide) ?_
                refine g_aload_n fx dX10_tellsAnOrder_109 rfl ?_
                refine g_getr fx dX10_tellsAnOrder_110 fk_RX10_80 o_0 rf_0_10 ?_
                refine g_iload fx dX10_tellsAnOrder_113 rfl ?_
                refine g_iload fx dX10_tellsAnOrder_115 rfl ?_
                refine g_callVD0 fx dX10_tellsAnOrder_117 mv_RX10_219 my_X4_put (s_X4_putC ad _ in_143 (show 143 + 1 = 144 from rfl) _ _) (row_O in_143) rfl rfl rfl (Nat.le_of_ble_eq_true rfl) (by decide) (by decide) ?_
                refine g_iinc1 fx dX10_tellsAnOrder_120 (by decide) rfl rfl (by unfold okI; omega) rfl ?_
                refine g_goto (tgt := 33) fx dX10_tellsAnOrder_123 (by decide) ?_
                refine g_kill 5 rfl (g_kill 7 rfl ?_)
                first
                | (exfalso; omega)
                | exact gw_cg (by rw [itr_s, zOrS, if_neg (by omega)]) (by rw [itr_s, zOrS, if_neg (by omega), show ((i : Nat) : Int) + 1 = ((i + 1 : Nat) : Int) by omega]; (repeat first | rw [if_pos (by omega)] | rw [if_neg (by omega)]) <;> rfl) (ih (by omega))
              · refine g_aload_n fx dX10_tellsAnOrder_81 rfl ?_
                refine g_getr fx dX10_tellsAnOrder_82 fk_RX10_84 o_0 rf_0_11 ?_
                refine g_iload fx dX10_tellsAnOrder_85 rfl ?_
                refine g_callVD fx dX10_tellsAnOrder_87 mv_RX10_155 my_X4_at (s_X4_atC ad _ in_145 (show 145 + 1 = 146 from rfl) _) (row_O in_145) rfl rfl rfl (Nat.le_of_ble_eq_true rfl) (by decide) (by decide) ?_
                refine g_if_ne (tgt := 97) fx dX10_tellsAnOrder_90 (by decide) (fun h90 => ?_) (fun h90 => ?_)
                · refine g_iconst fx dX10_tellsAnOrder_97 (by unfold okI; omega) ?_
                  refine g_istore_n fx dX10_tellsAnOrder_98 (by decide) rfl rfl ?_
                  refine g_aload_n fx dX10_tellsAnOrder_99 rfl ?_
                  refine g_getr fx dX10_tellsAnOrder_100 fk_RX10_84 o_0 rf_0_11 ?_
                  refine g_iload fx dX10_tellsAnOrder_103 rfl ?_
                  refine g_iconst fx dX10_tellsAnOrder_105 (by unfold okI; omega) ?_
                  refine g_callVD0 fx dX10_tellsAnOrder_106 mv_RX10_219 my_X4_put (s_X4_putC ad _ in_145 (show 145 + 1 = 146 from rfl) _ _) (row_O in_145) rfl rfl rfl (Nat.le_of_ble_eq_true rfl) (by decide) (by decide) ?_
                  refine g_aload_n fx dX10_tellsAnOrder_109 rfl ?_
                  refine g_getr fx dX10_tellsAnOrder_110 fk_RX10_80 o_0 rf_0_10 ?_
                  refine g_iload fx dX10_tellsAnOrder_113 rfl ?_
                  refine g_iload fx dX10_tellsAnOrder_115 rfl ?_
                  refine g_callVD0 fx dX10_tellsAnOrder_117 mv_RX10_219 my_X4_put (s_X4_putC ad _ in_143 (show 143 + 1 = 144 from rfl) _ _) (row_O in_143) rfl rfl rfl (Nat.le_of_ble_eq_true rfl) (by decide) (by decide) ?_
                  refine g_iinc1 fx dX10_tellsAnOrder_120 (by decide) rfl rfl (by unfold okI; omega) rfl ?_
                  refine g_goto (tgt := 33) fx dX10_tellsAnOrder_123 (by decide) ?_
                  refine g_kill 5 rfl (g_kill 7 rfl ?_)
                  first
                  | (exfalso; omega)
                  | exact gw_cg (by rw [itr_s, zOrS, if_neg (by omega)]) (by rw [itr_s, zOrS, if_neg (by omega), show ((i : Nat) : Int) + 1 = ((i + 1 : Nat) : Int) by omega]; (repeat first | rw [if_pos (by omega)] | rw [if_neg (by omega)]) <;> rfl) (ih (by omega))
                · refine g_iconst fx dX10_tellsAnOrder_93 (by unfold okI; omega) ?_
                  refine g_goto (tgt := 98) fx dX10_tellsAnOrder_94 (by decide) ?_
                  refine g_istore_n fx dX10_tellsAnOrder_98 (by decide) rfl rfl ?_
                  refine g_aload_n fx dX10_tellsAnOrder_99 rfl ?_
                  refine g_getr fx dX10_tellsAnOrder_100 fk_RX10_84 o_0 rf_0_11 ?_
                  refine g_iload fx dX10_tellsAnOrder_103 rfl ?_
                  refine g_iconst fx dX10_tellsAnOrder_105 (by unfold okI; omega) ?_
                  refine g_callVD0 fx dX10_tellsAnOrder_106 mv_RX10_219 my_X4_put (s_X4_putC ad _ in_145 (show 145 + 1 = 146 from rfl) _ _) (row_O in_145) rfl rfl rfl (Nat.le_of_ble_eq_true rfl) (by decide) (by decide) ?_
                  refine g_aload_n fx dX10_tellsAnOrder_109 rfl ?_
                  refine g_getr fx dX10_tellsAnOrder_110 fk_RX10_80 o_0 rf_0_10 ?_
                  refine g_iload fx dX10_tellsAnOrder_113 rfl ?_
                  refine g_iload fx dX10_tellsAnOrder_115 rfl ?_
                  refine g_callVD0 fx dX10_tellsAnOrder_117 mv_RX10_219 my_X4_put (s_X4_putC ad _ in_143 (show 143 + 1 = 144 from rfl) _ _) (row_O in_143) rfl rfl rfl (Nat.le_of_ble_eq_true rfl) (by decide) (by decide) ?_
                  refine g_iinc1 fx dX10_tellsAnOrder_120 (by decide) rfl rfl (by unfold okI; omega) rfl ?_
                  refine g_goto (tgt := 33) fx dX10_tellsAnOrder_123 (by decide) ?_
                  refine g_kill 5 rfl (g_kill 7 rfl ?_)
                  first
                  | (exfalso; omega)
                  | exact gw_cg (by rw [itr_s, zOrS, if_neg (by omega)]) (by rw [itr_s, zOrS, if_neg (by omega), show ((i : Nat) : Int) + 1 = ((i + 1 : Nat) : Int) by omega]; (repeat first | rw [if_pos (by omega)] | rw [if_neg (by omega)]) <;> rfl) (ih (by omega))
            · refine g_lload fx dX10_tellsAnOrder_66 rfl ?_
              refine g_l2i fx dX10_tellsAnOrder_68 ?_
              refine g_goto (tgt := 73) fx dX10_tellsAnOrder_69 (by decide) ?_
              refine gw_cgt (v' := zOrP (itr i (zOrS (t + 1) (mPcs σ 4)) (zOr0 σ t)).2 (t + 1) (mPcs σ 4) i) rfl (by rw [zOrP]; (repeat first | rw [if_pos (by omega)] | rw [if_neg (by omega)])) ?_
              refine g_istore fx dX10_tellsAnOrder_73 (by decide) rfl rfl ?_
              refine g_iload fx dX10_tellsAnOrder_75 rfl ?_
              refine g_iconst fx dX10_tellsAnOrder_77 (by unfold okI; omega) ?_
              refine g_icmp_eq (tgt := 97) fx dX10_tellsAnOrder_78 (by decide) (fun h78 => ?_) (fun h78 => ?_)
              · refine g_iconst fx dX10_tellsAnOrder_97 (by unfold okI; omega) ?_
                refine g_istore_n fx dX10_tellsAnOrder_98 (by decide) rfl rfl ?_
                refine g_aload_n fx dX10_tellsAnOrder_99 rfl ?_
                refine g_getr fx dX10_tellsAnOrder_100 fk_RX10_84 o_0 rf_0_11 ?_
                refine g_iload fx dX10_tellsAnOrder_103 rfl ?_
                refine g_iconst fx dX10_tellsAnOrder_105 (by unfold okI; omega) ?_
                refine g_callVD0 fx dX10_tellsAnOrder_106 mv_RX10_219 my_X4_put (s_X4_putC ad _ in_145 (show 145 + 1 = 146 from rfl) _ _) (row_O in_145) rfl rfl rfl (Nat.le_of_ble_eq_true rfl) (by decide) (by decide) ?_
                refine g_aload_n fx dX10_tellsAnOrder_109 rfl ?_
                refine g_getr fx dX10_tellsAnOrder_110 fk_RX10_80 o_0 rf_0_10 ?_
                refine g_iload fx dX10_tellsAnOrder_113 rfl ?_
                refine g_iload fx dX10_tellsAnOrder_115 rfl ?_
                refine g_callVD0 fx dX10_tellsAnOrder_117 mv_RX10_219 my_X4_put (s_X4_putC ad _ in_143 (show 143 + 1 = 144 from rfl) _ _) (row_O in_143) rfl rfl rfl (Nat.le_of_ble_eq_true rfl) (by decide) (by decide) ?_
                refine g_iinc1 fx dX10_tellsAnOrder_120 (by decide) rfl rfl (by unfold okI; omega) rfl ?_
                refine g_goto (tgt := 33) fx dX10_tellsAnOrder_123 (by decide) ?_
                refine g_kill 5 rfl (g_kill 7 rfl ?_)
                first
                | (exfalso; omega)
                | exact gw_cg (by rw [itr_s, zOrS, if_neg (by omega)]) (by rw [itr_s, zOrS, if_neg (by omega), show ((i : Nat) : Int) + 1 = ((i + 1 : Nat) : Int) by omega]; (repeat first | rw [if_pos (by omega)] | rw [if_neg (by omega)]) <;> rfl) (ih (by omega))
              · refine g_aload_n fx dX10_tellsAnOrder_81 rfl ?_
                refine g_getr fx dX10_tellsAnOrder_82 fk_RX10_84 o_0 rf_0_11 ?_
                refine g_iload fx dX10_tellsAnOrder_85 rfl ?_
                refine g_callVD fx dX10_tellsAnOrder_87 mv_RX10_155 my_X4_at (s_X4_atC ad _ in_145 (show 145 + 1 = 146 from rfl) _) (row_O in_145) rfl rfl rfl (Nat.le_of_ble_eq_true rfl) (by decide) (by decide) ?_
                refine g_if_ne (tgt := 97) fx dX10_tellsAnOrder_90 (by decide) (fun h90 => ?_) (fun h90 => ?_)
                · refine g_iconst fx dX10_tellsAnOrder_97 (by unfold okI; omega) ?_
                  refine g_istore_n fx dX10_tellsAnOrder_98 (by decide) rfl rfl ?_
                  refine g_aload_n fx dX10_tellsAnOrder_99 rfl ?_
                  refine g_getr fx dX10_tellsAnOrder_100 fk_RX10_84 o_0 rf_0_11 ?_
                  refine g_iload fx dX10_tellsAnOrder_103 rfl ?_
                  refine g_iconst fx dX10_tellsAnOrder_105 (by unfold okI; omega) ?_
                  refine g_callVD0 fx dX10_tellsAnOrder_106 mv_RX10_219 my_X4_put (s_X4_putC ad _ in_145 (show 145 + 1 = 146 from rfl) _ _) (row_O in_145) rfl rfl rfl (Nat.le_of_ble_eq_true rfl) (by decide) (by decide) ?_
                  refine g_aload_n fx dX10_tellsAnOrder_109 rfl ?_
                  refine g_getr fx dX10_tellsAnOrder_110 fk_RX10_80 o_0 rf_0_10 ?_
                  refine g_iload fx dX10_tellsAnOrder_113 rfl ?_
                  refine g_iload fx dX10_tellsAnOrder_115 rfl ?_
                  refine g_callVD0 fx dX10_tellsAnOrder_117 mv_RX10_219 my_X4_put (s_X4_putC ad _ in_143 (show 143 + 1 = 144 from rfl) _ _) (row_O in_143) rfl rfl rfl (Nat.le_of_ble_eq_true rfl) (by decide) (by decide) ?_
                  refine g_iinc1 fx dX10_tellsAnOrder_120 (by decide) rfl rfl (by unfold okI; omega) rfl ?_
                  refine g_goto (tgt := 33) fx dX10_tellsAnOrder_123 (by decide) ?_
                  refine g_kill 5 rfl (g_kill 7 rfl ?_)
                  first
                  | (exfalso; omega)
                  | exact gw_cg (by rw [itr_s, zOrS, if_neg (by omega)]) (by rw [itr_s, zOrS, if_neg (by omega), show ((i : Nat) : Int) + 1 = ((i + 1 : Nat) : Int) by omega]; (repeat first | rw [if_pos (by omega)] | rw [if_neg (by omega)]) <;> rfl) (ih (by omega))
                · refine g_iconst fx dX10_tellsAnOrder_93 (by unfold okI; omega) ?_
                  refine g_goto (tgt := 98) fx dX10_tellsAnOrder_94 (by decide) ?_
                  refine g_istore_n fx dX10_tellsAnOrder_98 (by decide) rfl rfl ?_
                  refine g_aload_n fx dX10_tellsAnOrder_99 rfl ?_
                  refine g_getr fx dX10_tellsAnOrder_100 fk_RX10_84 o_0 rf_0_11 ?_
                  refine g_iload fx dX10_tellsAnOrder_103 rfl ?_
                  refine g_iconst fx dX10_tellsAnOrder_105 (by unfold okI; omega) ?_
                  refine g_callVD0 fx dX10_tellsAnOrder_106 mv_RX10_219 my_X4_put (s_X4_putC ad _ in_145 (show 145 + 1 = 146 from rfl) _ _) (row_O in_145) rfl rfl rfl (Nat.le_of_ble_eq_true rfl) (by decide) (by decide) ?_
                  refine g_aload_n fx dX10_tellsAnOrder_109 rfl ?_
                  refine g_getr fx dX10_tellsAnOrder_110 fk_RX10_80 o_0 rf_0_10 ?_
                  refine g_iload fx dX10_tellsAnOrder_113 rfl ?_
                  refine g_iload fx dX10_tellsAnOrder_115 rfl ?_
                  refine g_callVD0 fx dX10_tellsAnOrder_117 mv_RX10_219 my_X4_put (s_X4_putC ad _ in_143 (show 143 + 1 = 144 from rfl) _ _) (row_O in_143) rfl rfl rfl (Nat.le_of_ble_eq_true rfl) (by decide) (by decide) ?_
                  refine g_iinc1 fx dX10_tellsAnOrder_120 (by decide) rfl rfl (by unfold okI; omega) rfl ?_
                  refine g_goto (tgt := 33) fx dX10_tellsAnOrder_123 (by decide) ?_
                  refine g_kill 5 rfl (g_kill 7 rfl ?_)
                  first
                  | (exfalso; omega)
                  | exact gw_cg (by rw [itr_s, zOrS, if_neg (by omega)]) (by rw [itr_s, zOrS, if_neg (by omega), show ((i : Nat) : Int) + 1 = ((i + 1 : Nat) : Int) by omega]; (repeat first | rw [if_pos (by omega)] | rw [if_neg (by omega)]) <;> rfl) (ih (by omega))
    exact gw_cg rfl (by simp only [itr, zOr0]; (repeat first | rw [if_pos (by omega)] | rw [if_neg (by omega)]) <;> rfl) (loop33 0 (Nat.zero_le _))
set_option maxRecDepth 4000 in
theorem s_X10_cost (ad : Nat → Nat) (σ : Sg)  (i : Int) : gw_Sp yX10_cost cX10_cost 2 (some .int) 9 2 12 [vR (some 0), vI i] (gw_M0 ad) σ (gw_DG (gFull σ i) (some (vI (zCost σ (trT i)).1)) (gw_M0 ad) ((zCost σ (trT i)).2)) (gw_isG (gFull σ i)) := by
  refine gw_Sp.of [some (vR (some 0)), some (vI i)] (by decide +kernel) rfl (Nat.le_of_ble_eq_true rfl) ?_
  intro X G fx het hnm
  refine g_aload_n fx dX10_cost_0 rfl ?_
  refine g_aload_n fx dX10_cost_1 rfl ?_
  refine g_iload_n fx dX10_cost_2 rfl ?_
  refine g_callVG fx het dX10_cost_3 mv_RX10_205 my_X10_needFullTray (s_X10_needFullTray ad _ _) o_0 rfl rfl rfl (Nat.le_of_ble_eq_true rfl) (by decide) (by decide) rfl rfl (fun E hE => (by (repeat first | rw [or_n hg3] | rw [if_pos (by omega)] | rw [if_neg (by omega)] | rw [Option.none_or]); first | rfl | assumption | (refine or_s ?_; assumption) | (unfold gWhat; (repeat first | rw [if_pos (by omega)] | rw [if_neg (by omega)]) <;> rfl))) (fun hg3 => ?_)
  refine g_callVD fx dX10_cost_6 mv_RX10_304 my_X10_tellsAnOrder (s_X10_tellsAnOrder ad _ (trF_in hg3)) o_0 rfl rfl rfl (Nat.le_of_ble_eq_true rfl) (by decide) (by decide) ?_
  refine g_if_eq (tgt := 19) fx dX10_cost_9 (by decide) (fun h9 => ?_) (fun h9 => ?_)
  · refine g_iconst fx dX10_cost_19 (by unfold okI; omega) ?_
    exact g_iret fx rfl dX10_cost_20 (by decide) (by decide) (gw_le.rf _) ⟨(by (repeat first | rw [or_n hg3] | rw [if_pos (by omega)] | rw [if_neg (by omega)] | rw [Option.none_or]); first | rfl | assumption | (refine or_s ?_; assumption) | (unfold gWhat; (repeat first | rw [if_pos (by omega)] | rw [if_neg (by omega)]) <;> rfl)), by rw [zCost]; (repeat first | rw [if_pos (by omega)] | rw [if_neg (by omega)]) <;> rfl, rfl, by rw [zCost]; (repeat first | rw [if_pos (by omega)] | rw [if_neg (by omega)]) <;> rfl⟩
  · refine g_aload_n fx dX10_cost_12 rfl ?_
    refine g_callVD fx dX10_cost_13 mv_RX10_308 my_X10_costOfTold (s_X10_costOfTold ad _ ) o_0 rfl rfl rfl (Nat.le_of_ble_eq_true rfl) (by decide) (by decide) ?_
    refine g_goto (tgt := 20) fx dX10_cost_16 (by decide) ?_
    exact g_iret fx rfl dX10_cost_20 (by decide) (by decide) (gw_le.rf _) ⟨(by (repeat first | rw [or_n hg3] | rw [if_pos (by omega)] | rw [if_neg (by omega)] | rw [Option.none_or]); first | rfl | assumption | (refine or_s ?_; assumption) | (unfold gWhat; (repeat first | rw [if_pos (by omega)] | rw [if_neg (by omega)]) <;> rfl)), by rw [zCost]; (repeat first | rw [if_pos (by omega)] | rw [if_neg (by omega)]) <;> rfl, rfl, by rw [zCost]; (repeat first | rw [if_pos (by omega)] | rw [if_neg (by omega)]) <;> rfl⟩
set_option maxRecDepth 4000 in
theorem s_X10_swap (ad : Nat → Nat) (σ : Sg)  (i : Int) (k : Int) : gw_Sp yX10_swap cX10_swap 6 (some .int) 9 3 18 [vR (some 0), vI i, vI k] (gw_M0 ad) σ (gw_DG (gSwap σ i k) (some (vI (zSwap σ (trT i) k).1)) (gw_M0 ad) ((zSwap σ (trT i) k).2)) (gw_isG (gSwap σ i k)) := by
  refine gw_Sp.of [some (vR (some 0)), some (vI i), some (vI k), none, none, none] (by decide +kernel) rfl (Nat.le_of_ble_eq_true rfl) ?_
  intro X G fx het hnm
  refine g_aload_n fx dX10_swap_0 rfl ?_
  refine g_iload_n fx dX10_swap_1 rfl ?_
  refine g_callVG fx het dX10_swap_2 mv_RX10_205 my_X10_needFullTray (s_X10_needFullTray ad _ _) o_0 rfl rfl rfl (Nat.le_of_ble_eq_true rfl) (by decide) (by decide) rfl rfl (fun E hE => (by show gSwap σ i k = _; rw [gSwap]; (repeat first | rw [or_n hg2] | rw [if_pos (by omega)] | rw [if_neg (by omega)] | rw [Option.none_or]); first | rfl | assumption | (refine or_s ?_; assumption) | (unfold gWhat; (repeat first | rw [if_pos (by omega)] | rw [if_neg (by omega)]) <;> rfl))) (fun hg2 => ?_)
  refine g_astore_n fx dX10_swap_5 (by decide) rfl rfl ?_
  refine g_iload_n fx dX10_swap_6 rfl ?_
  refine g_if_lt (tgt := 20) fx dX10_swap_7 (by decide) (fun h7 => ?_) (fun h7 => ?_)
  · exact g_throwSW fx het th_RX10_311_315 (by decide +kernel : (RX10, 313, "no such places", 29) ∈ gw_strT) eX10_swap_20 eX10_swap_23 eX10_swap_24 eX10_swap_27 eX10_swap_30 (by decide) rfl rfl (by decide) (by decide) (by decide) (by show gSwap σ i k = _; rw [gSwap, or_n hg2, if_neg (by omega)]; rfl)
  · refine g_iload_n fx dX10_swap_10 rfl ?_
    refine g_aload_n fx dX10_swap_11 rfl ?_
    refine g_geti fx dX10_swap_12 fk_RX10_215 (by decide) (tray_O (trF_in hg2)) ?_
    refine g_iconst fx dX10_swap_15 (by unfold okI; omega) ?_
    refine g_isub fx dX10_swap_16 ?_
    refine g_icmp_lt (tgt := 31) fx dX10_swap_17 (by decide) (fun h17 => ?_) (fun h17 => ?_)
    · refine g_aload_n fx dX10_swap_31 rfl ?_
      refine g_aload_n fx dX10_swap_32 rfl ?_
      refine g_callVD fx dX10_swap_33 mv_RX10_304 my_X10_tellsAnOrder (s_X10_tellsAnOrder ad _ (trF_in hg2)) o_0 rfl rfl rfl (Nat.le_of_ble_eq_true rfl) (by decide) (by decide) ?_
      refine g_if_ne (tgt := 41) fx dX10_swap_36 (by decide) (fun h36 => ?_) (fun h36 => ?_)
      · refine g_aload_n fx dX10_swap_41 rfl ?_
        refine g_callVD fx dX10_swap_42 mv_RX10_308 my_X10_costOfTold (s_X10_costOfTold ad _ ) o_0 rfl rfl rfl (Nat.le_of_ble_eq_true rfl) (by decide) (by decide) ?_
        refine g_istore fx dX10_swap_45 (by decide) rfl rfl ?_
        refine g_aload_n fx dX10_swap_47 rfl ?_
        refine g_getr fx dX10_swap_48 fk_RX10_80 o_0 rf_0_10 ?_
        refine g_iload_n fx dX10_swap_51 rfl ?_
        refine g_callVD fx dX10_swap_52 mv_RX10_155 my_X4_at (s_X4_atC ad _ in_143 (show 143 + 1 = 144 from rfl) _) (row_O in_143) rfl rfl rfl (Nat.le_of_ble_eq_true rfl) (by decide) (by decide) ?_
        refine g_istore fx dX10_swap_55 (by decide) rfl rfl ?_
        refine g_aload_n fx dX10_swap_57 rfl ?_
        refine g_getr fx dX10_swap_58 fk_RX10_80 o_0 rf_0_10 ?_
        refine g_iload_n fx dX10_swap_61 rfl ?_
        refine g_aload_n fx dX10_swap_62 rfl ?_
        refine g_getr fx dX10_swap_63 fk_RX10_80 o_0 rf_0_10 ?_
        refine g_iload_n fx dX10_swap_66 rfl ?_
        refine g_iconst fx dX10_swap_67 (by unfold okI; omega) ?_
        refine g_iadd fx dX10_swap_68 ?_
        refine g_callVD fx dX10_swap_69 mv_RX10_155 my_X4_at (s_X4_atC ad _ in_143 (show 143 + 1 = 144 from rfl) _) (row_O in_143) rfl rfl rfl (Nat.le_of_ble_eq_true rfl) (by decide) (by decide) ?_
        refine g_callVD0 fx dX10_swap_72 mv_RX10_219 my_X4_put (s_X4_putC ad _ in_143 (show 143 + 1 = 144 from rfl) _ _) (row_O in_143) rfl rfl rfl (Nat.le_of_ble_eq_true rfl) (by decide) (by decide) ?_
        refine g_aload_n fx dX10_swap_75 rfl ?_
        refine g_getr fx dX10_swap_76 fk_RX10_80 o_0 rf_0_10 ?_
        refine g_iload_n fx dX10_swap_79 rfl ?_
        refine g_iconst fx dX10_swap_80 (by unfold okI; omega) ?_
        refine g_iadd fx dX10_swap_81 ?_
        refine g_iload fx dX10_swap_82 rfl ?_
        refine g_callVD0 fx dX10_swap_84 mv_RX10_219 my_X4_put (s_X4_putC ad _ in_143 (show 143 + 1 = 144 from rfl) _ _) (row_O in_143) rfl rfl rfl (Nat.le_of_ble_eq_true rfl) (by decide) (by decide) ?_
        refine g_aload_n fx dX10_swap_87 rfl ?_
        refine g_callVD fx dX10_swap_88 mv_RX10_308 my_X10_costOfTold (s_X10_costOfTold ad _ ) o_0 rfl rfl rfl (Nat.le_of_ble_eq_true rfl) (by decide) (by decide) ?_
        refine g_iload fx dX10_swap_91 rfl ?_
        refine g_isub fx dX10_swap_93 ?_
        exact g_iret fx rfl dX10_swap_94 (by decide) (by decide) (gw_le.rf _) ⟨by rw [gSwap, or_n hg2, if_pos (by omega)], by rw [zSwap]; (repeat first | rw [if_pos (by omega)] | rw [if_neg (by omega)]) <;> rfl, rfl, by rw [zSwap]; (repeat first | rw [if_pos (by omega)] | rw [if_neg (by omega)]) <;> rfl⟩
      · refine g_iconst fx dX10_swap_39 (by unfold okI; omega) ?_
        exact g_iret fx rfl dX10_swap_40 (by decide) (by decide) (gw_le.rf _) ⟨by rw [gSwap, or_n hg2, if_pos (by omega)], by rw [zSwap]; (repeat first | rw [if_pos (by omega)] | rw [if_neg (by omega)]) <;> rfl, rfl, by rw [zSwap]; (repeat first | rw [if_pos (by omega)] | rw [if_neg (by omega)]) <;> rfl⟩
    · exact g_throwSW fx het th_RX10_311_315 (by decide +kernel : (RX10, 313, "no such places", 29) ∈ gw_strT) eX10_swap_20 eX10_swap_23 eX10_swap_24 eX10_swap_27 eX10_swap_30 (by decide) rfl rfl (by decide) (by decide) (by decide) (by show gSwap σ i k = _; rw [gSwap, or_n hg2, if_neg (by omega)]; rfl)
set_option maxRecDepth 4000 in
theorem s_X10_best (ad : Nat → Nat) (σ : Sg)  (k : Int) : gw_Sp yX10_best cX10_best 2 (some .int) 14 0 0 [vR (some 0), vI k] (gw_M0 ad) σ (gw_D (some (vI (zBest σ k).1)) (gw_M0 ad) ((zBest σ k).2)) gw_no := by
  refine gw_Sp.of [some (vR (some 0)), some (vI k)] (by decide +kernel) rfl (Nat.le_of_ble_eq_true rfl) ?_
  intro X G fx het hnm
  refine g_aload_n fx dX10_best_0 rfl ?_
  refine g_getr fx dX10_best_1 fk_RX10_28 o_0 rf_0_2 ?_
  refine g_callVD fx dX10_best_4 mv_RX10_226 my_X1_pieces (s_X1_pieces ad _ in_4) (mill_O in_4) rfl rfl rfl (Nat.le_of_ble_eq_true rfl) (by decide) (by decide) ?_
  refine g_bipush fx dX10_best_7 (by decide) ?_
  refine g_icmp_le (tgt := 15) fx dX10_best_9 (by decide) (fun h9 => ?_) (fun h9 => ?_)
  · refine g_aload_n fx dX10_best_15 rfl ?_
    refine g_getr fx dX10_best_16 fk_RX10_71 o_0 rf_0_9 ?_
    refine g_callVD0 fx dX10_best_19 mv_RX10_316 my_X6_seek (s_X6_seek ad _ ) o_128 rfl rfl rfl (Nat.le_of_ble_eq_true rfl) (by decide) (by decide) ?_
    refine g_iload_n fx dX10_best_22 rfl ?_
    refine g_iconst fx dX10_best_23 (by unfold okI; omega) ?_
    refine g_icmp_ne (tgt := 35) fx dX10_best_24 (by decide) (fun h24 => ?_) (fun h24 => ?_)
    · refine g_iload_n fx dX10_best_35 rfl ?_
      refine g_if_lt (tgt := 64) fx dX10_best_36 (by decide) (fun h36 => ?_) (fun h36 => ?_)
      · refine g_iconst fx dX10_best_64 (by unfold okI; omega) ?_
        exact g_iret fx rfl dX10_best_65 (by decide) (by decide) (gw_le.rf _) ⟨by rw [zBest]; (repeat first | rw [if_pos (by omega)] | rw [if_neg (by omega)]) <;> rfl, rfl, by rw [zBest]; (repeat first | rw [if_pos (by omega)] | rw [if_neg (by omega)]) <;> rfl⟩
      · refine g_iload_n fx dX10_best_39 rfl ?_
        refine g_aload_n fx dX10_best_40 rfl ?_
        refine g_getr fx dX10_best_41 fk_RX10_28 o_0 rf_0_2 ?_
        refine g_callVD fx dX10_best_44 mv_RX10_226 my_X1_pieces (s_X1_pieces ad _ in_4) (mill_O in_4) rfl rfl rfl (Nat.le_of_ble_eq_true rfl) (by decide) (by decide) ?_
        refine g_icmp_ge (tgt := 64) fx dX10_best_47 (by decide) (fun h47 => ?_) (fun h47 => ?_)
        · refine g_iconst fx dX10_best_64 (by unfold okI; omega) ?_
          exact g_iret fx rfl dX10_best_65 (by decide) (by decide) (gw_le.rf _) ⟨by rw [zBest]; (repeat first | rw [if_pos (by omega)] | rw [if_neg (by omega)]) <;> rfl, rfl, by rw [zBest]; (repeat first | rw [if_pos (by omega)] | rw [if_neg (by omega)]) <;> rfl⟩
        · refine g_aload_n fx dX10_best_50 rfl ?_
          refine g_getr fx dX10_best_51 fk_RX10_71 o_0 rf_0_9 ?_
          refine g_getr fx dX10_best_54 fk_RX10_322 o_128 rf_128_8 ?_
          refine g_iload_n fx dX10_best_57 rfl ?_
          refine g_callVD fx dX10_best_58 mv_RX10_155 my_X4_at (s_X4_atC ad _ in_141 (show 141 + 1 = 142 from rfl) _) (row_O in_141) rfl rfl rfl (Nat.le_of_ble_eq_true rfl) (by decide) (by decide) ?_
          refine g_goto (tgt := 65) fx dX10_best_61 (by decide) ?_
          exact g_iret fx rfl dX10_best_65 (by decide) (by decide) (gw_le.rf _) ⟨by rw [zBest]; (repeat first | rw [if_pos (by omega)] | rw [if_neg (by omega)]) <;> rfl, rfl, by rw [zBest]; (repeat first | rw [if_pos (by omega)] | rw [if_neg (by omega)]) <;> rfl⟩
    · refine g_aload_n fx dX10_best_27 rfl ?_
      refine g_getr fx dX10_best_28 fk_RX10_71 o_0 rf_0_9 ?_
      refine g_geti fx dX10_best_31 fk_RX10_319 (by decide) o_128 ?_
      exact g_iret fx rfl dX10_best_34 (by decide) (by decide) (gw_le.rf _) ⟨by rw [zBest]; (repeat first | rw [if_pos (by omega)] | rw [if_neg (by omega)]) <;> rfl, rfl, by rw [zBest]; (repeat first | rw [if_pos (by omega)] | rw [if_neg (by omega)]) <;> rfl⟩
  · refine g_bipush fx dX10_best_12 (by decide) ?_
    exact g_iret fx rfl dX10_best_14 (by decide) (by decide) (gw_le.rf _) ⟨by rw [zBest]; (repeat first | rw [if_pos (by omega)] | rw [if_neg (by omega)]) <;> rfl, rfl, by rw [zBest]; (repeat first | rw [if_pos (by omega)] | rw [if_neg (by omega)]) <;> rfl⟩
set_option maxRecDepth 4000 in
theorem s_X10_gap (ad : Nat → Nat) (σ : Sg)  : gw_Sp yX10_gap cX10_gap 1 (some .int) 14 0 0 [vR (some 0)] (gw_M0 ad) σ (gw_D (some (vI (zGap σ).1)) (gw_M0 ad) ((zGap σ).2)) gw_no := by
  refine gw_Sp.of [some (vR (some 0))] (by decide +kernel) rfl (Nat.le_of_ble_eq_true rfl) ?_
  intro X G fx het hnm
  refine g_aload_n fx dX10_gap_0 rfl ?_
  refine g_getr fx dX10_gap_1 fk_RX10_28 o_0 rf_0_2 ?_
  refine g_geti fx dX10_gap_4 fk_RX10_325 (by decide) (mill_O in_4) ?_
  refine g_iconst fx dX10_gap_7 (by unfold okI; omega) ?_
  refine g_icmp_le (tgt := 13) fx dX10_gap_8 (by decide) (fun h8 => ?_) (fun h8 => ?_)
  · refine g_aload_n fx dX10_gap_13 rfl ?_
    refine g_getr fx dX10_gap_14 fk_RX10_28 o_0 rf_0_2 ?_
    refine g_callVD fx dX10_gap_17 mv_RX10_226 my_X1_pieces (s_X1_pieces ad _ in_4) (mill_O in_4) rfl rfl rfl (Nat.le_of_ble_eq_true rfl) (by decide) (by decide) ?_
    refine g_bipush fx dX10_gap_20 (by decide) ?_
    refine g_icmp_le (tgt := 28) fx dX10_gap_22 (by decide) (fun h22 => ?_) (fun h22 => ?_)
    · refine g_aload_n fx dX10_gap_28 rfl ?_
      refine g_getr fx dX10_gap_29 fk_RX10_71 o_0 rf_0_9 ?_
      refine g_callVD0 fx dX10_gap_32 mv_RX10_316 my_X6_seek (s_X6_seek ad _ ) o_128 rfl rfl rfl (Nat.le_of_ble_eq_true rfl) (by decide) (by decide) ?_
      refine g_aload_n fx dX10_gap_35 rfl ?_
      refine g_getr fx dX10_gap_36 fk_RX10_37 o_0 rf_0_3 ?_
      refine g_callVD0 fx dX10_gap_39 mv_RX10_189 my_X5_go (s_X5_go ad _ in_26) (run_O in_26) rfl rfl rfl (Nat.le_of_ble_eq_true rfl) (by decide) (by decide) ?_
      refine g_aload_n fx dX10_gap_42 rfl ?_
      refine g_getr fx dX10_gap_43 fk_RX10_37 o_0 rf_0_3 ?_
      refine g_callVD fx dX10_gap_46 mv_RX10_263 my_X5_costOfAll (s_X5_costOfAll ad _ in_26) (run_O in_26) rfl rfl rfl (Nat.le_of_ble_eq_true rfl) (by decide) (by decide) ?_
      refine g_aload_n fx dX10_gap_49 rfl ?_
      refine g_getr fx dX10_gap_50 fk_RX10_71 o_0 rf_0_9 ?_
      refine g_geti fx dX10_gap_53 fk_RX10_319 (by decide) o_128 ?_
      refine g_isub fx dX10_gap_56 ?_
      exact g_iret fx rfl dX10_gap_57 (by decide) (by decide) (gw_le.rf _) ⟨by rw [zGap]; (repeat first | rw [if_pos (by omega)] | rw [if_neg (by omega)]) <;> rfl, rfl, by rw [zGap]; (repeat first | rw [if_pos (by omega)] | rw [if_neg (by omega)]) <;> rfl⟩
    · refine g_bipush fx dX10_gap_25 (by decide) ?_
      exact g_iret fx rfl dX10_gap_27 (by decide) (by decide) (gw_le.rf _) ⟨by rw [zGap]; (repeat first | rw [if_pos (by omega)] | rw [if_neg (by omega)]) <;> rfl, rfl, by rw [zGap]; (repeat first | rw [if_pos (by omega)] | rw [if_neg (by omega)]) <;> rfl⟩
  · refine g_iconst fx dX10_gap_11 (by unfold okI; omega) ?_
    exact g_iret fx rfl dX10_gap_12 (by decide) (by decide) (gw_le.rf _) ⟨by rw [zGap]; (repeat first | rw [if_pos (by omega)] | rw [if_neg (by omega)]) <;> rfl, rfl, by rw [zGap]; (repeat first | rw [if_pos (by omega)] | rw [if_neg (by omega)]) <;> rfl⟩
set_option maxRecDepth 4000 in
theorem s_X10_judge (ad : Nat → Nat) (σ : Sg)  (i : Int) (w : Int) : gw_Sp yX10_judge cX10_judge 5 (some .int) 9 3 18 [vR (some 0), vI i, vI w] (gw_M0 ad) σ (gw_DG ((gFull σ i).or (gWhat w 1)) (some (vI (zJu (go σ 26 4) (trT i) w))) (gw_M0 ad) (go σ 26 4)) (gw_isG ((gFull σ i).or (gWhat w 1))) := by
  refine gw_Sp.of [some (vR (some 0)), some (vI i), some (vI w), none, none] (by decide +kernel) rfl (Nat.le_of_ble_eq_true rfl) ?_
  intro X G fx het hnm
  refine g_aload_n fx dX10_judge_0 rfl ?_
  refine g_iload_n fx dX10_judge_1 rfl ?_
  refine g_callVG fx het dX10_judge_2 mv_RX10_205 my_X10_needFullTray (s_X10_needFullTray ad _ _) o_0 rfl rfl rfl (Nat.le_of_ble_eq_true rfl) (by decide) (by decide) rfl rfl (fun E hE => (by (repeat first | rw [or_n hg2] | rw [if_pos (by omega)] | rw [if_neg (by omega)] | rw [Option.none_or]); first | rfl | assumption | (refine or_s ?_; assumption) | (unfold gWhat; (repeat first | rw [if_pos (by omega)] | rw [if_neg (by omega)]) <;> rfl))) (fun hg2 => ?_)
  refine g_astore_n fx dX10_judge_5 (by decide) rfl rfl ?_
  refine g_aload_n fx dX10_judge_6 rfl ?_
  refine g_iload_n fx dX10_judge_7 rfl ?_
  refine g_iconst fx dX10_judge_8 (by unfold okI; omega) ?_
  refine g_callVG0 fx het dX10_judge_9 mv_RX10_185 my_X10_needWhat (s_X10_needWhat ad _ _ _) o_0 rfl rfl rfl (Nat.le_of_ble_eq_true rfl) (by decide) (by decide) rfl rfl (fun E hE => (by (repeat first | rw [or_n hg2] | rw [or_n hg9] | rw [if_pos (by omega)] | rw [if_neg (by omega)] | rw [Option.none_or]); first | rfl | assumption | (refine or_s ?_; assumption) | (unfold gWhat; (repeat first | rw [if_pos (by omega)] | rw [if_neg (by omega)]) <;> rfl))) (fun hg9 => ?_)
  refine g_aload_n fx dX10_judge_12 rfl ?_
  refine g_getr fx dX10_judge_13 fk_RX10_37 o_0 rf_0_3 ?_
  refine g_callVD0 fx dX10_judge_16 mv_RX10_189 my_X5_go (s_X5_go ad _ in_26) (run_O in_26) rfl rfl rfl (Nat.le_of_ble_eq_true rfl) (by decide) (by decide) ?_
  generalize hs1 : go σ 26 4 = σ1
  refine g_okS (fun hok => ?_)
  have hq2 := gw_okO 2 hok (tray_O (trF_in hg2)) (by decide)
  unfold okI at hq2
  refine g_iconst fx dX10_judge_19 (by unfold okI; omega) ?_
  refine g_istore fx dX10_judge_20 (by decide) rfl rfl ?_
  have loop22 : ∀ k : Nat, k ≤ (σ1 (trT i) 2).toNat → zJuP σ1 (trT i) = zJuL σ1 (trT i) ((σ1 (trT i) 2).toNat - k) (k : Nat) → gw_W X (yX10_judge.cls, cX10_judge, 5, (some .int), 9, 3, 18) G (gw_Z X G (gw_M0 ad) σ (gw_DG ((gFull σ i).or (gWhat w 1)) (some (vI (zJu σ1 (trT i) w))) (gw_M0 ad) σ1) (gw_isG ((gFull σ i).or (gWhat w 1))) 3 18) (0 + 2 + 1) (0 + 12 + 6) (gw_M0 ad) (σ1) 22 [some (vR (some 0)), some (vI i), some (vI w), some (vR (some (trT i))), some (vI (k : Nat))] [] := by
    refine up_ind _ _ (fun k hk ih => ?_)
    intro he
    have hj := @jc_eq (yAt σ1 (trT i + 1) (k : Nat)) (rAt σ1 40 60 (k : Nat))
    refine g_iload fx dX10_judge_22 rfl ?_
    refine g_aload_n fx dX10_judge_24 rfl ?_
    refine g_geti fx dX10_judge_25 fk_RX10_215 (by decide) (tray_O (trF_in hg2)) ?_
    refine g_icmp_ge (tgt := 72) fx dX10_judge_28 (by decide) (fun h28 => ?_) (fun h28 => ?_)
    · refine g_iload fx dX10_judge_72 rfl ?_
      refine g_aload_n fx dX10_judge_74 rfl ?_
      refine g_geti fx dX10_judge_75 fk_RX10_215 (by decide) (tray_O (trF_in hg2)) ?_
      refine g_icmp_ne (tgt := 95) fx dX10_judge_78 (by decide) (fun h78 => ?_) (fun h78 => ?_)
      · refine g_iload_n fx dX10_judge_95 rfl ?_
        refine g_if_ne (tgt := 104) fx dX10_judge_96 (by decide) (fun h96 => ?_) (fun h96 => ?_)
        · refine g_aload_n fx dX10_judge_104 rfl ?_
          refine g_getr fx dX10_judge_105 fk_RX10_37 o_0 rf_0_3 ?_
          refine g_iload fx dX10_judge_108 rfl ?_
          refine g_callVD fx dX10_judge_110 mv_RX10_246 my_X5_pieceBegun (s_X5_pieceBegun ad _ in_26 _) (run_O in_26) rfl rfl rfl (Nat.le_of_ble_eq_true rfl) (by decide) (by decide) ?_
          exact g_iret fx rfl dX10_judge_113 (by decide) (by decide) (gw_le.rf _) ⟨(by (repeat first | rw [or_n hg2] | rw [or_n hg9] | rw [if_pos (by omega)] | rw [if_neg (by omega)] | rw [Option.none_or]); first | rfl | assumption | (refine or_s ?_; assumption) | (unfold gWhat; (repeat first | rw [if_pos (by omega)] | rw [if_neg (by omega)]) <;> rfl)), by first | (exfalso; omega) | (rw [zJu, he, zJuL_z (by omega)]; (repeat first | rw [if_pos (by omega)] | rw [if_neg (by omega)]) <;> rfl), rfl, rfl⟩
        · refine g_iload fx dX10_judge_99 rfl ?_
          refine g_goto (tgt := 113) fx dX10_judge_101 (by decide) ?_
          exact g_iret fx rfl dX10_judge_113 (by decide) (by decide) (gw_le.rf _) ⟨(by (repeat first | rw [or_n hg2] | rw [or_n hg9] | rw [if_pos (by omega)] | rw [if_neg (by omega)] | rw [Option.none_or]); first | rfl | assumption | (refine or_s ?_; assumption) | (unfold gWhat; (repeat first | rw [if_pos (by omega)] | rw [if_neg (by omega)]) <;> rfl)), by first | (exfalso; omega) | (rw [zJu, he, zJuL_z (by omega)]; (repeat first | rw [if_pos (by omega)] | rw [if_neg (by omega)]) <;> rfl), rfl, rfl⟩
      · refine g_iload fx dX10_judge_81 rfl ?_
        refine g_aload_n fx dX10_judge_83 rfl ?_
        refine g_getr fx dX10_judge_84 fk_RX10_37 o_0 rf_0_3 ?_
        refine g_geti fx dX10_judge_87 fk_RX10_299 (by decide) (run_O in_26) ?_
        refine g_icmp_ne (tgt := 95) fx dX10_judge_90 (by decide) (fun h90 => ?_) (fun h90 => ?_)
        · refine g_iload_n fx dX10_judge_95 rfl ?_
          refine g_if_ne (tgt := 104) fx dX10_judge_96 (by decide) (fun h96 => ?_) (fun h96 => ?_)
          · refine g_aload_n fx dX10_judge_104 rfl ?_
            refine g_getr fx dX10_judge_105 fk_RX10_37 o_0 rf_0_3 ?_
            refine g_iload fx dX10_judge_108 rfl ?_
            refine g_callVD fx dX10_judge_110 mv_RX10_246 my_X5_pieceBegun (s_X5_pieceBegun ad _ in_26 _) (run_O in_26) rfl rfl rfl (Nat.le_of_ble_eq_true rfl) (by decide) (by decide) ?_
            exact g_iret fx rfl dX10_judge_113 (by decide) (by decide) (gw_le.rf _) ⟨(by (repeat first | rw [or_n hg2] | rw [or_n hg9] | rw [if_pos (by omega)] | rw [if_neg (by omega)] | rw [Option.none_or]); first | rfl | assumption | (refine or_s ?_; assumption) | (unfold gWhat; (repeat first | rw [if_pos (by omega)] | rw [if_neg (by omega)]) <;> rfl)), by first | (exfalso; omega) | (rw [zJu, he, zJuL_z (by omega)]; (repeat first | rw [if_pos (by omega)] | rw [if_neg (by omega)]) <;> rfl), rfl, rfl⟩
          · refine g_iload fx dX10_judge_99 rfl ?_
            refine g_goto (tgt := 113) fx dX10_judge_101 (by decide) ?_
            exact g_iret fx rfl dX10_judge_113 (by decide) (by decide) (gw_le.rf _) ⟨(by (repeat first | rw [or_n hg2] | rw [or_n hg9] | rw [if_pos (by omega)] | rw [if_neg (by omega)] | rw [Option.none_or]); first | rfl | assumption | (refine or_s ?_; assumption) | (unfold gWhat; (repeat first | rw [if_pos (by omega)] | rw [if_neg (by omega)]) <;> rfl)), by first | (exfalso; omega) | (rw [zJu, he, zJuL_z (by omega)]; (repeat first | rw [if_pos (by omega)] | rw [if_neg (by omega)]) <;> rfl), rfl, rfl⟩
        · refine g_iconst fx dX10_judge_93 (by unfold okI; omega) ?_
          exact g_iret fx rfl dX10_judge_94 (by decide) (by decide) (gw_le.rf _) ⟨(by (repeat first | rw [or_n hg2] | rw [or_n hg9] | rw [if_pos (by omega)] | rw [if_neg (by omega)] | rw [Option.none_or]); first | rfl | assumption | (refine or_s ?_; assumption) | (unfold gWhat; (repeat first | rw [if_pos (by omega)] | rw [if_neg (by omega)]) <;> rfl)), by first | (exfalso; omega) | (rw [zJu, he, zJuL_z (by omega)]; (repeat first | rw [if_pos (by omega)] | rw [if_neg (by omega)]) <;> rfl), rfl, rfl⟩
    · refine g_iload fx dX10_judge_31 rfl ?_
      refine g_aload_n fx dX10_judge_33 rfl ?_
      refine g_getr fx dX10_judge_34 fk_RX10_37 o_0 rf_0_3 ?_
      refine g_geti fx dX10_judge_37 fk_RX10_299 (by decide) (run_O in_26) ?_
      refine g_icmp_ge (tgt := 72) fx dX10_judge_40 (by decide) (fun h40 => ?_) (fun h40 => ?_)
      · refine g_iload fx dX10_judge_72 rfl ?_
        refine g_aload_n fx dX10_judge_74 rfl ?_
        refine g_geti fx dX10_judge_75 fk_RX10_215 (by decide) (tray_O (trF_in hg2)) ?_
        refine g_icmp_ne (tgt := 95) fx dX10_judge_78 (by decide) (fun h78 => ?_) (fun h78 => ?_)
        · refine g_iload_n fx dX10_judge_95 rfl ?_
          refine g_if_ne (tgt := 104) fx dX10_judge_96 (by decide) (fun h96 => ?_) (fun h96 => ?_)
          · refine g_aload_n fx dX10_judge_104 rfl ?_
            refine g_getr fx dX10_judge_105 fk_RX10_37 o_0 rf_0_3 ?_
            refine g_iload fx dX10_judge_108 rfl ?_
            refine g_callVD fx dX10_judge_110 mv_RX10_246 my_X5_pieceBegun (s_X5_pieceBegun ad _ in_26 _) (run_O in_26) rfl rfl rfl (Nat.le_of_ble_eq_true rfl) (by decide) (by decide) ?_
            exact g_iret fx rfl dX10_judge_113 (by decide) (by decide) (gw_le.rf _) ⟨(by (repeat first | rw [or_n hg2] | rw [or_n hg9] | rw [if_pos (by omega)] | rw [if_neg (by omega)] | rw [Option.none_or]); first | rfl | assumption | (refine or_s ?_; assumption) | (unfold gWhat; (repeat first | rw [if_pos (by omega)] | rw [if_neg (by omega)]) <;> rfl)), by first | (exfalso; omega) | (rw [zJu, he, zJuL_z (by omega)]; (repeat first | rw [if_pos (by omega)] | rw [if_neg (by omega)]) <;> rfl), rfl, rfl⟩
          · refine g_iload fx dX10_judge_99 rfl ?_
            refine g_goto (tgt := 113) fx dX10_judge_101 (by decide) ?_
            exact g_iret fx rfl dX10_judge_113 (by decide) (by decide) (gw_le.rf _) ⟨(by (repeat first | rw [or_n hg2] | rw [or_n hg9] | rw [if_pos (by omega)] | rw [if_neg (by omega)] | rw [Option.none_or]); first | rfl | assumption | (refine or_s ?_; assumption) | (unfold gWhat; (repeat first | rw [if_pos (by omega)] | rw [if_neg (by omega)]) <;> rfl)), by first | (exfalso; omega) | (rw [zJu, he, zJuL_z (by omega)]; (repeat first | rw [if_pos (by omega)] | rw [if_neg (by omega)]) <;> rfl), rfl, rfl⟩
        · refine g_iload fx dX10_judge_81 rfl ?_
          refine g_aload_n fx dX10_judge_83 rfl ?_
          refine g_getr fx dX10_judge_84 fk_RX10_37 o_0 rf_0_3 ?_
          refine g_geti fx dX10_judge_87 fk_RX10_299 (by decide) (run_O in_26) ?_
          refine g_icmp_ne (tgt := 95) fx dX10_judge_90 (by decide) (fun h90 => ?_) (fun h90 => ?_)
          · refine g_iload_n fx dX10_judge_95 rfl ?_
            refine g_if_ne (tgt := 104) fx dX10_judge_96 (by decide) (fun h96 => ?_) (fun h96 => ?_)
            · refine g_aload_n fx dX10_judge_104 rfl ?_
              refine g_getr fx dX10_judge_105 fk_RX10_37 o_0 rf_0_3 ?_
              refine g_iload fx dX10_judge_108 rfl ?_
              refine g_callVD fx dX10_judge_110 mv_RX10_246 my_X5_pieceBegun (s_X5_pieceBegun ad _ in_26 _) (run_O in_26) rfl rfl rfl (Nat.le_of_ble_eq_true rfl) (by decide) (by decide) ?_
              exact g_iret fx rfl dX10_judge_113 (by decide) (by decide) (gw_le.rf _) ⟨(by (repeat first | rw [or_n hg2] | rw [or_n hg9] | rw [if_pos (by omega)] | rw [if_neg (by omega)] | rw [Option.none_or]); first | rfl | assumption | (refine or_s ?_; assumption) | (unfold gWhat; (repeat first | rw [if_pos (by omega)] | rw [if_neg (by omega)]) <;> rfl)), by first | (exfalso; omega) | (rw [zJu, he, zJuL_z (by omega)]; (repeat first | rw [if_pos (by omega)] | rw [if_neg (by omega)]) <;> rfl), rfl, rfl⟩
            · refine g_iload fx dX10_judge_99 rfl ?_
              refine g_goto (tgt := 113) fx dX10_judge_101 (by decide) ?_
              exact g_iret fx rfl dX10_judge_113 (by decide) (by decide) (gw_le.rf _) ⟨(by (repeat first | rw [or_n hg2] | rw [or_n hg9] | rw [if_pos (by omega)] | rw [if_neg (by omega)] | rw [Option.none_or]); first | rfl | assumption | (refine or_s ?_; assumption) | (unfold gWhat; (repeat first | rw [if_pos (by omega)] | rw [if_neg (by omega)]) <;> rfl)), by first | (exfalso; omega) | (rw [zJu, he, zJuL_z (by omega)]; (repeat first | rw [if_pos (by omega)] | rw [if_neg (by omega)]) <;> rfl), rfl, rfl⟩
          · refine g_iconst fx dX10_judge_93 (by unfold okI; omega) ?_
            exact g_iret fx rfl dX10_judge_94 (by decide) (by decide) (gw_le.rf _) ⟨(by (repeat first | rw [or_n hg2] | rw [or_n hg9] | rw [if_pos (by omega)] | rw [if_neg (by omega)] | rw [Option.none_or]); first | rfl | assumption | (refine or_s ?_; assumption) | (unfold gWhat; (repeat first | rw [if_pos (by omega)] | rw [if_neg (by omega)]) <;> rfl)), by first | (exfalso; omega) | (rw [zJu, he, zJuL_z (by omega)]; (repeat first | rw [if_pos (by omega)] | rw [if_neg (by omega)]) <;> rfl), rfl, rfl⟩
      · refine g_aload_n fx dX10_judge_43 rfl ?_
        refine g_iload fx dX10_judge_44 rfl ?_
        refine g_callVD fx dX10_judge_46 mv_RX10_216 my_X9_at (s_X9_at ad _ (trF_in hg2) _) (tray_O (trF_in hg2)) rfl rfl rfl (Nat.le_of_ble_eq_true rfl) (by decide) (by decide) ?_
        refine g_aload_n fx dX10_judge_49 rfl ?_
        refine g_getr fx dX10_judge_50 fk_RX10_37 o_0 rf_0_3 ?_
        refine g_getr fx dX10_judge_53 fk_RX10_301 (run_O in_26) rf_26_9 ?_
        refine g_iload fx dX10_judge_56 rfl ?_
        refine g_callVD fx dX10_judge_58 mv_RX10_155 my_X4_at (s_X4_atC ad _ in_39 (show 39 + 1 = 40 from rfl) _) (row_O in_39) rfl rfl rfl (Nat.le_of_ble_eq_true rfl) (by decide) (by decide) ?_
        refine g_i2l fx dX10_judge_61 ?_
        refine g_lcmp fx dX10_judge_62 ?_
        refine g_if_ne (tgt := 72) fx dX10_judge_63 (by decide) (fun h63 => ?_) (fun h63 => ?_)
        · refine g_iload fx dX10_judge_72 rfl ?_
          refine g_aload_n fx dX10_judge_74 rfl ?_
          refine g_geti fx dX10_judge_75 fk_RX10_215 (by decide) (tray_O (trF_in hg2)) ?_
          refine g_icmp_ne (tgt := 95) fx dX10_judge_78 (by decide) (fun h78 => ?_) (fun h78 => ?_)
          · refine g_iload_n fx dX10_judge_95 rfl ?_
            refine g_if_ne (tgt := 104) fx dX10_judge_96 (by decide) (fun h96 => ?_) (fun h96 => ?_)
            · refine g_aload_n fx dX10_judge_104 rfl ?_
              refine g_getr fx dX10_judge_105 fk_RX10_37 o_0 rf_0_3 ?_
              refine g_iload fx dX10_judge_108 rfl ?_
              refine g_callVD fx dX10_judge_110 mv_RX10_246 my_X5_pieceBegun (s_X5_pieceBegun ad _ in_26 _) (run_O in_26) rfl rfl rfl (Nat.le_of_ble_eq_true rfl) (by decide) (by decide) ?_
              exact g_iret fx rfl dX10_judge_113 (by decide) (by decide) (gw_le.rf _) ⟨(by (repeat first | rw [or_n hg2] | rw [or_n hg9] | rw [if_pos (by omega)] | rw [if_neg (by omega)] | rw [Option.none_or]); first | rfl | assumption | (refine or_s ?_; assumption) | (unfold gWhat; (repeat first | rw [if_pos (by omega)] | rw [if_neg (by omega)]) <;> rfl)), by first | (exfalso; omega) | (rw [zJu, he, zJuL_z (by omega)]; (repeat first | rw [if_pos (by omega)] | rw [if_neg (by omega)]) <;> rfl), rfl, rfl⟩
            · refine g_iload fx dX10_judge_99 rfl ?_
              refine g_goto (tgt := 113) fx dX10_judge_101 (by decide) ?_
              exact g_iret fx rfl dX10_judge_113 (by decide) (by decide) (gw_le.rf _) ⟨(by (repeat first | rw [or_n hg2] | rw [or_n hg9] | rw [if_pos (by omega)] | rw [if_neg (by omega)] | rw [Option.none_or]); first | rfl | assumption | (refine or_s ?_; assumption) | (unfold gWhat; (repeat first | rw [if_pos (by omega)] | rw [if_neg (by omega)]) <;> rfl)), by first | (exfalso; omega) | (rw [zJu, he, zJuL_z (by omega)]; (repeat first | rw [if_pos (by omega)] | rw [if_neg (by omega)]) <;> rfl), rfl, rfl⟩
          · refine g_iload fx dX10_judge_81 rfl ?_
            refine g_aload_n fx dX10_judge_83 rfl ?_
            refine g_getr fx dX10_judge_84 fk_RX10_37 o_0 rf_0_3 ?_
            refine g_geti fx dX10_judge_87 fk_RX10_299 (by decide) (run_O in_26) ?_
            refine g_icmp_ne (tgt := 95) fx dX10_judge_90 (by decide) (fun h90 => ?_) (fun h90 => ?_)
            · refine g_iload_n fx dX10_judge_95 rfl ?_
              refine g_if_ne (tgt := 104) fx dX10_judge_96 (by decide) (fun h96 => ?_) (fun h96 => ?_)
              · refine g_aload_n fx dX10_judge_104 rfl ?_
                refine g_getr fx dX10_judge_105 fk_RX10_37 o_0 rf_0_3 ?_
                refine g_iload fx dX10_judge_108 rfl ?_
                refine g_callVD fx dX10_judge_110 mv_RX10_246 my_X5_pieceBegun (s_X5_pieceBegun ad _ in_26 _) (run_O in_26) rfl rfl rfl (Nat.le_of_ble_eq_true rfl) (by decide) (by decide) ?_
                exact g_iret fx rfl dX10_judge_113 (by decide) (by decide) (gw_le.rf _) ⟨(by (repeat first | rw [or_n hg2] | rw [or_n hg9] | rw [if_pos (by omega)] | rw [if_neg (by omega)] | rw [Option.none_or]); first | rfl | assumption | (refine or_s ?_; assumption) | (unfold gWhat; (repeat first | rw [if_pos (by omega)] | rw [if_neg (by omega)]) <;> rfl)), by first | (exfalso; omega) | (rw [zJu, he, zJuL_z (by omega)]; (repeat first | rw [if_pos (by omega)] | rw [if_neg (by omega)]) <;> rfl), rfl, rfl⟩
              · refine g_iload fx dX10_judge_99 rfl ?_
                refine g_goto (tgt := 113) fx dX10_judge_101 (by decide) ?_
                exact g_iret fx rfl dX10_judge_113 (by decide) (by decide) (gw_le.rf _) ⟨(by (repeat first | rw [or_n hg2] | rw [or_n hg9] | rw [if_pos (by omega)] | rw [if_neg (by omega)] | rw [Option.none_or]); first | rfl | assumption | (refine or_s ?_; assumption) | (unfold gWhat; (repeat first | rw [if_pos (by omega)] | rw [if_neg (by omega)]) <;> rfl)), by first | (exfalso; omega) | (rw [zJu, he, zJuL_z (by omega)]; (repeat first | rw [if_pos (by omega)] | rw [if_neg (by omega)]) <;> rfl), rfl, rfl⟩
            · refine g_iconst fx dX10_judge_93 (by unfold okI; omega) ?_
              exact g_iret fx rfl dX10_judge_94 (by decide) (by decide) (gw_le.rf _) ⟨(by (repeat first | rw [or_n hg2] | rw [or_n hg9] | rw [if_pos (by omega)] | rw [if_neg (by omega)] | rw [Option.none_or]); first | rfl | assumption | (refine or_s ?_; assumption) | (unfold gWhat; (repeat first | rw [if_pos (by omega)] | rw [if_neg (by omega)]) <;> rfl)), by first | (exfalso; omega) | (rw [zJu, he, zJuL_z (by omega)]; (repeat first | rw [if_pos (by omega)] | rw [if_neg (by omega)]) <;> rfl), rfl, rfl⟩
        · refine g_iinc1 fx dX10_judge_66 (by decide) rfl rfl (by unfold okI; omega) rfl ?_
          refine g_goto (tgt := 22) fx dX10_judge_69 (by decide) ?_
          exact gw_cg rfl (by rw [show ((k : Nat) : Int) + 1 = ((k + 1 : Nat) : Int) by omega]; rfl) (ih (by omega) (by rw [he, show (σ1 (trT i) 2).toNat - k = (σ1 (trT i) 2).toNat - (k + 1) + 1 by omega, zJuL, if_pos (by omega), show ((k : Nat) : Int) + 1 = ((k + 1 : Nat) : Int) by omega]))
  exact loop22 0 (Nat.zero_le _) rfl
set_option maxRecDepth 4000 in
theorem s_X10_write (ad : Nat → Nat) (σ : Sg)  (i : Int) (k : Int) (v : Int) : gw_Sp yX10_write cX10_write 6 (some .long) 9 3 18 [vR (some 0), vI i, vI k, vJ v] (gw_M0 ad) σ (gw_DG (gWrite σ i k) (some (vJ (yAt (yPut σ (trT i) k v) (trT i + 1) k))) (gw_M0 ad) (yPut σ (trT i) k v)) (gw_isG (gWrite σ i k)) := by
  refine gw_Sp.of [some (vR (some 0)), some (vI i), some (vI k), some (vJ v), none, none] (by decide +kernel) rfl (Nat.le_of_ble_eq_true rfl) ?_
  intro X G fx het hnm
  refine g_aload_n fx dX10_write_0 rfl ?_
  refine g_iload_n fx dX10_write_1 rfl ?_
  refine g_callVG fx het dX10_write_2 mv_RX10_205 my_X10_needFullTray (s_X10_needFullTray ad _ _) o_0 rfl rfl rfl (Nat.le_of_ble_eq_true rfl) (by decide) (by decide) rfl rfl (fun E hE => (by show gWrite σ i k = _; rw [gWrite]; (repeat first | rw [or_n hg2] | rw [if_pos (by omega)] | rw [if_neg (by omega)] | rw [Option.none_or]); first | rfl | assumption | (refine or_s ?_; assumption) | (unfold gWhat; (repeat first | rw [if_pos (by omega)] | rw [if_neg (by omega)]) <;> rfl))) (fun hg2 => ?_)
  refine g_astore fx dX10_write_5 (by decide) rfl rfl ?_
  refine g_iload_n fx dX10_write_7 rfl ?_
  refine g_if_lt (tgt := 20) fx dX10_write_8 (by decide) (fun h8 => ?_) (fun h8 => ?_)
  · exact g_throwSW fx het th_RX10_311_315 (by decide +kernel : (RX10, 418, "no such place", 37) ∈ gw_strT) eX10_write_20 eX10_write_23 eX10_write_24 eX10_write_27 eX10_write_30 (by decide) rfl rfl (by decide) (by decide) (by decide) (by show gWrite σ i k = _; rw [gWrite, or_n hg2, if_neg (by omega)]; rfl)
  · refine g_iload_n fx dX10_write_11 rfl ?_
    refine g_aload fx dX10_write_12 rfl ?_
    refine g_geti fx dX10_write_14 fk_RX10_215 (by decide) (tray_O (trF_in hg2)) ?_
    refine g_icmp_lt (tgt := 31) fx dX10_write_17 (by decide) (fun h17 => ?_) (fun h17 => ?_)
    · refine g_aload fx dX10_write_31 rfl ?_
      refine g_iload_n fx dX10_write_33 rfl ?_
      refine g_lload_n fx dX10_write_34 rfl ?_
      refine g_callVD0 fx dX10_write_35 mv_RX10_420 my_X9_put (s_X9_put ad _ (trF_in hg2) _ _) (tray_O (trF_in hg2)) rfl rfl rfl (Nat.le_of_ble_eq_true rfl) (by decide) (by decide) ?_
      refine g_aload fx dX10_write_38 rfl ?_
      refine g_iload_n fx dX10_write_40 rfl ?_
      refine g_callVD fx dX10_write_41 mv_RX10_216 my_X9_at (s_X9_at ad _ (trF_in hg2) _) (tray_O (trF_in hg2)) rfl rfl rfl (Nat.le_of_ble_eq_true rfl) (by decide) (by decide) ?_
      exact g_lret fx rfl dX10_write_44 (by decide) (by decide) (gw_le.rf _) ⟨by rw [gWrite, or_n hg2, if_pos (by omega)], rfl, rfl, rfl⟩
    · exact g_throwSW fx het th_RX10_311_315 (by decide +kernel : (RX10, 418, "no such place", 37) ∈ gw_strT) eX10_write_20 eX10_write_23 eX10_write_24 eX10_write_27 eX10_write_30 (by decide) rfl rfl (by decide) (by decide) (by decide) (by show gWrite σ i k = _; rw [gWrite, or_n hg2, if_neg (by omega)]; rfl)
set_option maxRecDepth 4000 in
theorem s_X10_tray (ad : Nat → Nat) (σ : Sg)  (i : Int) (s : Int) (n : Int) : gw_Sp yX10_tray cX10_tray 5 none 8 2 12 [vR (some 0), vI i, vI s, vI n] (gw_M0 ad) σ (gw_DG (gRow i s n) none (gw_M0 ad) (yFill (su (su σ (trT i) 1 s) (trT i) 2 n) (trT i + 1) 60)) (gw_isG (gRow i s n)) := by
  refine gw_Sp.of [some (vR (some 0)), some (vI i), some (vI s), some (vI n), none] (by decide +kernel) rfl (Nat.le_of_ble_eq_true rfl) ?_
  intro X G fx het hnm
  refine g_aload_n fx dX10_tray_0 rfl ?_
  refine g_iload_n fx dX10_tray_1 rfl ?_
  refine g_callVG fx het dX10_tray_2 mv_RX10_410 my_X10_needTray (s_X10_needTray ad _ _) o_0 rfl rfl rfl (Nat.le_of_ble_eq_true rfl) (by decide) (by decide) rfl rfl (fun E hE => (by show gRow i s n = _; rw [gRow]; (repeat first | rw [or_n hg2] | rw [if_pos (by omega)] | rw [if_neg (by omega)] | rw [Option.none_or]); first | rfl | assumption | (refine or_s ?_; assumption) | (unfold gWhat; (repeat first | rw [if_pos (by omega)] | rw [if_neg (by omega)]) <;> rfl))) (fun hg2 => ?_)
  refine g_astore fx dX10_tray_5 (by decide) rfl rfl ?_
  refine g_iload_n fx dX10_tray_7 rfl ?_
  refine g_if_lt (tgt := 26) fx dX10_tray_8 (by decide) (fun h8 => ?_) (fun h8 => ?_)
  · exact g_throwSW fx het th_RX10_142_146 (by decide +kernel : (RX10, 413, "no such row", 36) ∈ gw_strT) eX10_tray_26 eX10_tray_29 eX10_tray_30 eX10_tray_33 eX10_tray_36 (by decide) rfl rfl (by decide) (by decide) (by decide) (by show gRow i s n = _; rw [gRow, or_n hg2, if_neg (by omega)]; rfl)
  · refine g_iload_n fx dX10_tray_11 rfl ?_
    refine g_iconst fx dX10_tray_12 (by unfold okI; omega) ?_
    refine g_icmp_gt (tgt := 26) fx dX10_tray_13 (by decide) (fun h13 => ?_) (fun h13 => ?_)
    · exact g_throwSW fx het th_RX10_142_146 (by decide +kernel : (RX10, 413, "no such row", 36) ∈ gw_strT) eX10_tray_26 eX10_tray_29 eX10_tray_30 eX10_tray_33 eX10_tray_36 (by decide) rfl rfl (by decide) (by decide) (by decide) (by show gRow i s n = _; rw [gRow, or_n hg2, if_neg (by omega)]; rfl)
    · refine g_iload_n fx dX10_tray_16 rfl ?_
      refine g_if_lt (tgt := 26) fx dX10_tray_17 (by decide) (fun h17 => ?_) (fun h17 => ?_)
      · exact g_throwSW fx het th_RX10_142_146 (by decide +kernel : (RX10, 413, "no such row", 36) ∈ gw_strT) eX10_tray_26 eX10_tray_29 eX10_tray_30 eX10_tray_33 eX10_tray_36 (by decide) rfl rfl (by decide) (by decide) (by decide) (by show gRow i s n = _; rw [gRow, or_n hg2, if_neg (by omega)]; rfl)
      · refine g_iload_n fx dX10_tray_20 rfl ?_
        refine g_bipush fx dX10_tray_21 (by decide) ?_
        refine g_icmp_le (tgt := 37) fx dX10_tray_23 (by decide) (fun h23 => ?_) (fun h23 => ?_)
        · refine g_aload fx dX10_tray_37 rfl ?_
          refine g_iload_n fx dX10_tray_39 rfl ?_
          refine g_iload_n fx dX10_tray_40 rfl ?_
          refine g_callVD0 fx dX10_tray_41 mv_RX10_415 my_X9_clear (s_X9_clear ad _ (trT_in hg2) _ _) (tray_O (trT_in hg2)) rfl rfl rfl (Nat.le_of_ble_eq_true rfl) (by decide) (by decide) ?_
          exact g_vret fx rfl dX10_tray_44 (by decide) (by decide) (gw_le.rf _) ⟨by rw [gRow, or_n hg2, if_pos (by omega)], rfl, rfl, rfl⟩
        · exact g_throwSW fx het th_RX10_142_146 (by decide +kernel : (RX10, 413, "no such row", 36) ∈ gw_strT) eX10_tray_26 eX10_tray_29 eX10_tray_30 eX10_tray_33 eX10_tray_36 (by decide) rfl rfl (by decide) (by decide) (by decide) (by show gRow i s n = _; rw [gRow, or_n hg2, if_neg (by omega)]; rfl)
set_option maxRecDepth 4000 in
theorem s_X10_image (ad : Nat → Nat) (σ : Sg)  (i : Int) : gw_Sp yX10_image cX10_image 3 none 8 1 6 [vR (some 0), vI i] (gw_M0 ad) σ (gw_DG (gImg i) none (gw_M0 ad) (su (mCopy σ (imT i) 4) (imT i) 6 1)) (gw_isG (gImg i)) := by
  refine gw_Sp.of [some (vR (some 0)), some (vI i), none] (by decide +kernel) rfl (Nat.le_of_ble_eq_true rfl) ?_
  intro X G fx het hnm
  refine g_aload_n fx dX10_image_0 rfl ?_
  refine g_iload_n fx dX10_image_1 rfl ?_
  refine g_callVG fx het dX10_image_2 mv_RX10_426 my_X10_needImage (s_X10_needImage ad _ _) o_0 rfl rfl rfl (Nat.le_of_ble_eq_true rfl) (by decide) (by decide) rfl rfl (fun E hE => (by (repeat first | rw [or_n hg2] | rw [if_pos (by omega)] | rw [if_neg (by omega)] | rw [Option.none_or]); first | rfl | assumption | (refine or_s ?_; assumption) | (unfold gWhat; (repeat first | rw [if_pos (by omega)] | rw [if_neg (by omega)]) <;> rfl))) (fun hg2 => ?_)
  refine g_astore_n fx dX10_image_5 (by decide) rfl rfl ?_
  refine g_aload_n fx dX10_image_6 rfl ?_
  refine g_aload_n fx dX10_image_7 rfl ?_
  refine g_getr fx dX10_image_8 fk_RX10_28 o_0 rf_0_2 ?_
  refine g_callVD0 fx dX10_image_11 mv_RX10_111 my_X1_copyOf (s_X1_copyOf ad _ (imT_in hg2) in_4 (imT_ne hg2)) (mill_O (imT_in hg2)) rfl rfl rfl (Nat.le_of_ble_eq_true rfl) (by decide) (by decide) ?_
  refine g_aload_n fx dX10_image_14 rfl ?_
  refine g_iconst fx dX10_image_15 (by unfold okI; omega) ?_
  refine g_putz fx dX10_image_16 fk_RX10_430 (by omega) (mill_O (imT_in hg2)) ?_
  exact g_vret fx rfl dX10_image_19 (by decide) (by decide) (gw_le.rf _) ⟨(by (repeat first | rw [or_n hg2] | rw [if_pos (by omega)] | rw [if_neg (by omega)] | rw [Option.none_or]); first | rfl | assumption | (refine or_s ?_; assumption) | (unfold gWhat; (repeat first | rw [if_pos (by omega)] | rw [if_neg (by omega)]) <;> rfl)), rfl, rfl, rfl⟩
set_option maxRecDepth 4000 in
theorem s_X10_restore (ad : Nat → Nat) (σ : Sg)  (i : Int) : gw_Sp yX10_restore cX10_restore 3 none 8 2 12 [vR (some 0), vI i] (gw_M0 ad) σ (gw_DG (gRest σ i) none (gw_M0 ad) (mCopy σ 4 (imT i))) (gw_isG (gRest σ i)) := by
  refine gw_Sp.of [some (vR (some 0)), some (vI i), none] (by decide +kernel) rfl (Nat.le_of_ble_eq_true rfl) ?_
  intro X G fx het hnm
  refine g_aload_n fx dX10_restore_0 rfl ?_
  refine g_iload_n fx dX10_restore_1 rfl ?_
  refine g_callVG fx het dX10_restore_2 mv_RX10_426 my_X10_needImage (s_X10_needImage ad _ _) o_0 rfl rfl rfl (Nat.le_of_ble_eq_true rfl) (by decide) (by decide) rfl rfl (fun E hE => (by show gRest σ i = _; rw [gRest]; (repeat first | rw [or_n hg2] | rw [if_pos (by omega)] | rw [if_neg (by omega)] | rw [Option.none_or]); first | rfl | assumption | (refine or_s ?_; assumption) | (unfold gWhat; (repeat first | rw [if_pos (by omega)] | rw [if_neg (by omega)]) <;> rfl))) (fun hg2 => ?_)
  refine g_astore_n fx dX10_restore_5 (by decide) rfl rfl ?_
  refine g_aload_n fx dX10_restore_6 rfl ?_
  refine g_geti fx dX10_restore_7 fk_RX10_430 (by decide) (mill_O (imT_in hg2)) ?_
  refine g_if_ne (tgt := 24) fx dX10_restore_10 (by decide) (fun h10 => ?_) (fun h10 => ?_)
  · refine g_aload_n fx dX10_restore_24 rfl ?_
    refine g_getr fx dX10_restore_25 fk_RX10_28 o_0 rf_0_2 ?_
    refine g_aload_n fx dX10_restore_28 rfl ?_
    refine g_callVD0 fx dX10_restore_29 mv_RX10_111 my_X1_copyOf (s_X1_copyOf ad _ in_4 (imT_in hg2) (imT_ne hg2).symm) (mill_O in_4) rfl rfl rfl (Nat.le_of_ble_eq_true rfl) (by decide) (by decide) ?_
    exact g_vret fx rfl dX10_restore_32 (by decide) (by decide) (gw_le.rf _) ⟨by rw [gRest, or_n hg2, if_neg (by omega)], rfl, rfl, rfl⟩
  · exact g_throwSW fx het th_RX10_375_379 (by decide +kernel : (RX10, 434, "no image was made", 39) ∈ gw_strT) eX10_restore_13 eX10_restore_16 eX10_restore_17 eX10_restore_20 eX10_restore_23 (by decide) rfl rfl (by decide) (by decide) (by decide) (by show gRest σ i = _; rw [gRest, or_n hg2, if_pos (by omega)]; rfl)
set_option maxRecDepth 4000 in
theorem s_X10_pour (ad : Nat → Nat) (σ : Sg)  (i : Int) : gw_Sp yX10_pour cX10_pour 5 (some .int) 9 2 12 [vR (some 0), vI i] (gw_M0 ad) σ (gw_DG (gFull σ i) (some (vI (min (go σ 26 4 (trT i) 2) (go σ 26 4 26 1)))) (gw_M0 ad) (zPour (go σ 26 4) (trT i))) (gw_isG (gFull σ i)) := by
  refine gw_Sp.of [some (vR (some 0)), some (vI i), none, none, none] (by decide +kernel) rfl (Nat.le_of_ble_eq_true rfl) ?_
  intro X G fx het hnm
  refine g_aload_n fx dX10_pour_0 rfl ?_
  refine g_iload_n fx dX10_pour_1 rfl ?_
  refine g_callVG fx het dX10_pour_2 mv_RX10_205 my_X10_needFullTray (s_X10_needFullTray ad _ _) o_0 rfl rfl rfl (Nat.le_of_ble_eq_true rfl) (by decide) (by decide) rfl rfl (fun E hE => (by (repeat first | rw [or_n hg2] | rw [if_pos (by omega)] | rw [if_neg (by omega)] | rw [Option.none_or]); first | rfl | assumption | (refine or_s ?_; assumption) | (unfold gWhat; (repeat first | rw [if_pos (by omega)] | rw [if_neg (by omega)]) <;> rfl))) (fun hg2 => ?_)
  refine g_astore_n fx dX10_pour_5 (by decide) rfl rfl ?_
  refine g_aload_n fx dX10_pour_6 rfl ?_
  refine g_getr fx dX10_pour_7 fk_RX10_37 o_0 rf_0_3 ?_
  refine g_callVD0 fx dX10_pour_10 mv_RX10_189 my_X5_go (s_X5_go ad _ in_26) (run_O in_26) rfl rfl rfl (Nat.le_of_ble_eq_true rfl) (by decide) (by decide) ?_
  refine g_aload_n fx dX10_pour_13 rfl ?_
  refine g_geti fx dX10_pour_14 fk_RX10_215 (by decide) (tray_O (trF_in hg2)) ?_
  refine g_aload_n fx dX10_pour_17 rfl ?_
  refine g_getr fx dX10_pour_18 fk_RX10_37 o_0 rf_0_3 ?_
  refine g_geti fx dX10_pour_21 fk_RX10_299 (by decide) (run_O in_26) ?_
  refine g_min fx dX10_pour_24 mm_RX10_423 (by decide) (by decide) (by decide) (Nat.le_of_ble_eq_true rfl) ?_
  refine g_istore_n fx dX10_pour_27 (by decide) rfl rfl ?_
  refine g_iconst fx dX10_pour_28 (by unfold okI; omega) ?_
  refine g_istore fx dX10_pour_29 (by decide) rfl rfl ?_
  have loop31 : ∀ k : Nat, k ≤ (min (go σ 26 4 (trT i) 2) (go σ 26 4 26 1)).toNat → gw_W X (yX10_pour.cls, cX10_pour, 5, (some .int), 9, 2, 12) G (gw_Z X G (gw_M0 ad) σ (gw_DG (gFull σ i) (some (vI (min (go σ 26 4 (trT i) 2) (go σ 26 4 26 1)))) (gw_M0 ad) (zPour (go σ 26 4) (trT i))) (gw_isG (gFull σ i)) 2 12) (0 + 2) (0 + 12) (gw_M0 ad) (itr k (zPoS (trT i)) (go σ 26 4)) 31 [some (vR (some 0)), some (vI i), some (vR (some (trT i))), some (vI (min (go σ 26 4 (trT i) 2) (go σ 26 4 26 1))), some (vI (k : Nat))] [] := by
    refine up_ind _ ((min (go σ 26 4 (trT i) 2) (go σ 26 4 26 1)).toNat) (fun k hk ih => ?_)
    refine g_okL 3 rfl (fun hq3 => ?_)
    have hq4 : okI (min (go σ 26 4 (trT i) 2) (go σ 26 4 26 1)) := hq3
    unfold okI at hq4
    refine g_iload fx dX10_pour_31 rfl ?_
    refine g_iload_n fx dX10_pour_33 rfl ?_
    refine g_icmp_ge (tgt := 62) fx dX10_pour_34 (by decide) (fun h34 => ?_) (fun h34 => ?_)
    · refine g_iload_n fx dX10_pour_62 rfl ?_
      exact g_iret fx rfl dX10_pour_63 (by decide) (by decide) (gw_le.rf _) ⟨(by (repeat first | rw [or_n hg2] | rw [if_pos (by omega)] | rw [if_neg (by omega)] | rw [Option.none_or]); first | rfl | assumption | (refine or_s ?_; assumption) | (unfold gWhat; (repeat first | rw [if_pos (by omega)] | rw [if_neg (by omega)]) <;> rfl)), rfl, rfl, by rw [zPour, show (min (go σ 26 4 (trT i) 2) (go σ 26 4 26 1)).toNat = k by omega]⟩
    · refine g_aload_n fx dX10_pour_37 rfl ?_
      refine g_iload fx dX10_pour_38 rfl ?_
      refine g_aload_n fx dX10_pour_40 rfl ?_
      refine g_getr fx dX10_pour_41 fk_RX10_37 o_0 rf_0_3 ?_
      refine g_getr fx dX10_pour_44 fk_RX10_301 (run_O in_26) rf_26_9 ?_
      refine g_iload fx dX10_pour_47 rfl ?_
      refine g_callVD fx dX10_pour_49 mv_RX10_155 my_X4_at (s_X4_atC ad _ in_39 (show 39 + 1 = 40 from rfl) _) (row_O in_39) rfl rfl rfl (Nat.le_of_ble_eq_true rfl) (by decide) (by decide) ?_
      refine g_i2l fx dX10_pour_52 ?_
      refine g_callVD0 fx dX10_pour_53 mv_RX10_420 my_X9_put (s_X9_put ad _ (trF_in hg2) _ _) (tray_O (trF_in hg2)) rfl rfl rfl (Nat.le_of_ble_eq_true rfl) (by decide) (by decide) ?_
      refine g_iinc1 fx dX10_pour_56 (by decide) rfl rfl (by unfold okI; omega) rfl ?_
      refine g_goto (tgt := 31) fx dX10_pour_59 (by decide) ?_
      exact gw_cg (by rw [itr_s, zPoS]) (by rw [show ((k : Nat) : Int) + 1 = ((k + 1 : Nat) : Int) by omega]; rfl) (ih (by omega))
  exact loop31 0 (Nat.zero_le _)
