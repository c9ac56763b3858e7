theorem dX11_parts_128 : gw_dc cX11_parts 128 (.iconst 0) 1 129 := ⟨by decide +kernel, rfl⟩
theorem dX11_parts_129 : gw_dc cX11_parts 129 (.istore 6) 2 131 := ⟨by decide +kernel, rfl⟩
theorem dX11_parts_131 : gw_dc cX11_parts 131 (.iload 6) 2 133 := ⟨by decide +kernel, rfl⟩
theorem dX11_parts_133 : gw_dc cX11_parts 133 (.iload_n 2) 1 134 := ⟨by decide +kernel, rfl⟩
theorem dX11_parts_134 : gw_dc cX11_parts 134 (.if_icmp .ge 29) 3 137 := ⟨by decide +kernel, rfl⟩
theorem dX11_parts_163 : gw_dc cX11_parts 163 (.aload_n 0) 1 164 := ⟨by decide +kernel, rfl⟩
theorem dX11_parts_164 : gw_dc cX11_parts 164 (.iload_n 1) 1 165 := ⟨by decide +kernel, rfl⟩
theorem dX11_parts_165 : gw_dc cX11_parts 165 (.bipush 6) 2 167 := ⟨by decide +kernel, rfl⟩
theorem dX11_parts_167 : gw_dc cX11_parts 167 (.iload_n 2) 1 168 := ⟨by decide +kernel, rfl⟩
theorem dX11_parts_168 : gw_dc cX11_parts 168 (.invokevirtual 252) 3 171 := ⟨by decide +kernel, rfl⟩
theorem mv_RX11_252 : gw_mv RX11 252 yX11_sets := ⟨gw_mem 1703 (by decide +kernel) rfl, gw_mem 1705 (by decide +kernel) rfl, gw_mem 59 (by decide +kernel) rfl⟩
theorem my_X11_sets : gw_my yX11_sets cX11_sets 4 none 3 := ⟨gw_mem 1706 (by decide +kernel) rfl, gw_mem 106 (by decide +kernel) rfl, by decide +kernel, by decide⟩
theorem dX11_parts_171 : gw_dc cX11_parts 171 (.aload_n 0) 1 172 := ⟨by decide +kernel, rfl⟩
theorem dX11_parts_172 : gw_dc cX11_parts 172 (.getfield 9) 3 175 := ⟨by decide +kernel, rfl⟩
theorem dX11_parts_175 : gw_dc cX11_parts 175 (.sipush 668) 3 178 := ⟨by decide +kernel, rfl⟩
theorem dX11_parts_178 : gw_dc cX11_parts 178 (.iload 5) 2 180 := ⟨by decide +kernel, rfl⟩
theorem dX11_parts_180 : gw_dc cX11_parts 180 (.iload_n 2) 1 181 := ⟨by decide +kernel, rfl⟩
theorem dX11_parts_181 : gw_dc cX11_parts 181 (.iadd) 1 182 := ⟨by decide +kernel, rfl⟩
theorem dX11_parts_182 : gw_dc cX11_parts 182 (.iload 4) 2 184 := ⟨by decide +kernel, rfl⟩
theorem dX11_parts_184 : gw_dc cX11_parts 184 (.isub) 1 185 := ⟨by decide +kernel, rfl⟩
theorem dX11_parts_185 : gw_dc cX11_parts 185 (.iastore) 1 186 := ⟨by decide +kernel, rfl⟩
theorem dX11_parts_186 : decode cX11_parts 186 = .ok (.return_, 1) := by decide +kernel
theorem dX11_parts_137 : gw_dc cX11_parts 137 (.aload_n 0) 1 138 := ⟨by decide +kernel, rfl⟩
theorem dX11_parts_138 : gw_dc cX11_parts 138 (.getfield 9) 3 141 := ⟨by decide +kernel, rfl⟩
theorem dX11_parts_141 : gw_dc cX11_parts 141 (.sipush 608) 3 144 := ⟨by decide +kernel, rfl⟩
theorem dX11_parts_144 : gw_dc cX11_parts 144 (.iload_n 3) 1 145 := ⟨by decide +kernel, rfl⟩
theorem dX11_parts_145 : gw_dc cX11_parts 145 (.iadd) 1 146 := ⟨by decide +kernel, rfl⟩
theorem dX11_parts_146 : gw_dc cX11_parts 146 (.iload 6) 2 148 := ⟨by decide +kernel, rfl⟩
theorem dX11_parts_148 : gw_dc cX11_parts 148 (.iadd) 1 149 := ⟨by decide +kernel, rfl⟩
theorem dX11_parts_149 : gw_dc cX11_parts 149 (.aload_n 0) 1 150 := ⟨by decide +kernel, rfl⟩
theorem dX11_parts_150 : gw_dc cX11_parts 150 (.getfield 33) 3 153 := ⟨by decide +kernel, rfl⟩
theorem fk_RX11_33 : gw_fk RX11 33 11 17 42 1 true := ⟨_, _, _, ck_11, by decide, by decide, fun h => absurd h (by decide), fun h => absurd h (by decide), fun _ => Or.inr ⟨_, rfl⟩, rfl, Or.inl (gw_mem 1438 (by decide +kernel) rfl)⟩
theorem rf_223_17 {ad : Nat → Nat} : (gw_M0 ad).2.2 223 17 = some 230 := (by decide +kernel : gw_rh 223 17 = some 230)
theorem dX11_parts_153 : gw_dc cX11_parts 153 (.iload 6) 2 155 := ⟨by decide +kernel, rfl⟩
theorem dX11_parts_155 : gw_dc cX11_parts 155 (.iaload) 1 156 := ⟨by decide +kernel, rfl⟩
theorem o_230 {ad : Nat → Nat} : isO (gw_M0 ad) 230 21 8 := (by decide +kernel : 230 < gw_N0 ∧ gw_sh 230 = (21, 8))
theorem dX11_parts_156 : gw_dc cX11_parts 156 (.iastore) 1 157 := ⟨by decide +kernel, rfl⟩
theorem dX11_parts_157 : gw_dc cX11_parts 157 (.iinc 6 1) 3 160 := ⟨by decide +kernel, rfl⟩
theorem dX11_parts_160 : gw_dc cX11_parts 160 (.goto (-29)) 3 163 := ⟨by decide +kernel, rfl⟩
theorem dX11_parts_0 : gw_dc cX11_parts 0 (.aload_n 0) 1 1 := ⟨by decide +kernel, rfl⟩
theorem dX11_parts_1 : gw_dc cX11_parts 1 (.iload_n 1) 1 2 := ⟨by decide +kernel, rfl⟩
theorem dX11_parts_2 : gw_dc cX11_parts 2 (.invokevirtual 249) 3 5 := ⟨by decide +kernel, rfl⟩
theorem dX11_parts_5 : gw_dc cX11_parts 5 (.istore_n 3) 1 6 := ⟨by decide +kernel, rfl⟩
theorem dX11_parts_6 : gw_dc cX11_parts 6 (.aload_n 0) 1 7 := ⟨by decide +kernel, rfl⟩
theorem dX11_parts_7 : gw_dc cX11_parts 7 (.iload_n 1) 1 8 := ⟨by decide +kernel, rfl⟩
theorem dX11_parts_8 : gw_dc cX11_parts 8 (.bipush 6) 2 10 := ⟨by decide +kernel, rfl⟩
theorem dX11_parts_10 : gw_dc cX11_parts 10 (.invokevirtual 242) 3 13 := ⟨by decide +kernel, rfl⟩
theorem dX11_parts_13 : gw_dc cX11_parts 13 (.istore 4) 2 15 := ⟨by decide +kernel, rfl⟩
theorem dX11_parts_15 : gw_dc cX11_parts 15 (.aload_n 0) 1 16 := ⟨by decide +kernel, rfl⟩
theorem dX11_parts_16 : gw_dc cX11_parts 16 (.getfield 9) 3 19 := ⟨by decide +kernel, rfl⟩
theorem dX11_parts_19 : gw_dc cX11_parts 19 (.sipush 668) 3 22 := ⟨by decide +kernel, rfl⟩
theorem dX11_parts_22 : gw_dc cX11_parts 22 (.iaload) 1 23 := ⟨by decide +kernel, rfl⟩
theorem dX11_parts_23 : gw_dc cX11_parts 23 (.istore 5) 2 25 := ⟨by decide +kernel, rfl⟩
theorem dX11_parts_25 : gw_dc cX11_parts 25 (.iload_n 2) 1 26 := ⟨by decide +kernel, rfl⟩
theorem dX11_parts_26 : gw_dc cX11_parts 26 (.iload 4) 2 28 := ⟨by decide +kernel, rfl⟩
theorem dX11_parts_28 : gw_dc cX11_parts 28 (.if_icmp .le 54) 3 31 := ⟨by decide +kernel, rfl⟩
theorem dX11_parts_82 : gw_dc cX11_parts 82 (.iload_n 3) 1 83 := ⟨by decide +kernel, rfl⟩
theorem dX11_parts_83 : gw_dc cX11_parts 83 (.iload 4) 2 85 := ⟨by decide +kernel, rfl⟩
theorem dX11_parts_85 : gw_dc cX11_parts 85 (.iadd) 1 86 := ⟨by decide +kernel, rfl⟩
theorem dX11_parts_86 : gw_dc cX11_parts 86 (.istore 6) 2 88 := ⟨by decide +kernel, rfl⟩
theorem dX11_parts_88 : gw_dc cX11_parts 88 (.iload 6) 2 90 := ⟨by decide +kernel, rfl⟩
theorem dX11_parts_90 : gw_dc cX11_parts 90 (.iload 5) 2 92 := ⟨by decide +kernel, rfl⟩
theorem dX11_parts_92 : gw_dc cX11_parts 92 (.if_icmp .ge 36) 3 95 := ⟨by decide +kernel, rfl⟩
theorem dX11_parts_95 : gw_dc cX11_parts 95 (.aload_n 0) 1 96 := ⟨by decide +kernel, rfl⟩
theorem dX11_parts_96 : gw_dc cX11_parts 96 (.getfield 9) 3 99 := ⟨by decide +kernel, rfl⟩
theorem dX11_parts_99 : gw_dc cX11_parts 99 (.sipush 608) 3 102 := ⟨by decide +kernel, rfl⟩
theorem dX11_parts_102 : gw_dc cX11_parts 102 (.iload 6) 2 104 := ⟨by decide +kernel, rfl⟩
theorem dX11_parts_104 : gw_dc cX11_parts 104 (.iadd) 1 105 := ⟨by decide +kernel, rfl⟩
theorem dX11_parts_105 : gw_dc cX11_parts 105 (.iload_n 2) 1 106 := ⟨by decide +kernel, rfl⟩
theorem dX11_parts_106 : gw_dc cX11_parts 106 (.iadd) 1 107 := ⟨by decide +kernel, rfl⟩
theorem dX11_parts_107 : gw_dc cX11_parts 107 (.iload 4) 2 109 := ⟨by decide +kernel, rfl⟩
theorem dX11_parts_109 : gw_dc cX11_parts 109 (.isub) 1 110 := ⟨by decide +kernel, rfl⟩
theorem dX11_parts_110 : gw_dc cX11_parts 110 (.aload_n 0) 1 111 := ⟨by decide +kernel, rfl⟩
theorem dX11_parts_111 : gw_dc cX11_parts 111 (.getfield 9) 3 114 := ⟨by decide +kernel, rfl⟩
theorem dX11_parts_114 : gw_dc cX11_parts 114 (.sipush 608) 3 117 := ⟨by decide +kernel, rfl⟩
theorem dX11_parts_117 : gw_dc cX11_parts 117 (.iload 6) 2 119 := ⟨by decide +kernel, rfl⟩
theorem dX11_parts_119 : gw_dc cX11_parts 119 (.iadd) 1 120 := ⟨by decide +kernel, rfl⟩
theorem dX11_parts_120 : gw_dc cX11_parts 120 (.iaload) 1 121 := ⟨by decide +kernel, rfl⟩
theorem dX11_parts_121 : gw_dc cX11_parts 121 (.iastore) 1 122 := ⟨by decide +kernel, rfl⟩
theorem dX11_parts_122 : gw_dc cX11_parts 122 (.iinc 6 1) 3 125 := ⟨by decide +kernel, rfl⟩
theorem dX11_parts_125 : gw_dc cX11_parts 125 (.goto (-37)) 3 128 := ⟨by decide +kernel, rfl⟩
theorem dX11_parts_31 : gw_dc cX11_parts 31 (.iload 5) 2 33 := ⟨by decide +kernel, rfl⟩
theorem dX11_parts_33 : gw_dc cX11_parts 33 (.iconst 1) 1 34 := ⟨by decide +kernel, rfl⟩
theorem dX11_parts_34 : gw_dc cX11_parts 34 (.isub) 1 35 := ⟨by decide +kernel, rfl⟩
theorem dX11_parts_35 : gw_dc cX11_parts 35 (.istore 6) 2 37 := ⟨by decide +kernel, rfl⟩
theorem dX11_parts_37 : gw_dc cX11_parts 37 (.iload 6) 2 39 := ⟨by decide +kernel, rfl⟩
theorem dX11_parts_39 : gw_dc cX11_parts 39 (.iload_n 3) 1 40 := ⟨by decide +kernel, rfl⟩
theorem dX11_parts_40 : gw_dc cX11_parts 40 (.iload 4) 2 42 := ⟨by decide +kernel, rfl⟩
theorem dX11_parts_42 : gw_dc cX11_parts 42 (.iadd) 1 43 := ⟨by decide +kernel, rfl⟩
theorem dX11_parts_43 : gw_dc cX11_parts 43 (.if_icmp .lt 36) 3 46 := ⟨by decide +kernel, rfl⟩
theorem dX11_parts_79 : gw_dc cX11_parts 79 (.goto 49) 3 82 := ⟨by decide +kernel, rfl⟩
theorem dX11_parts_46 : gw_dc cX11_parts 46 (.aload_n 0) 1 47 := ⟨by decide +kernel, rfl⟩
theorem dX11_parts_47 : gw_dc cX11_parts 47 (.getfield 9) 3 50 := ⟨by decide +kernel, rfl⟩
theorem dX11_parts_50 : gw_dc cX11_parts 50 (.sipush 608) 3 53 := ⟨by decide +kernel, rfl⟩
theorem dX11_parts_53 : gw_dc cX11_parts 53 (.iload 6) 2 55 := ⟨by decide +kernel, rfl⟩
theorem dX11_parts_55 : gw_dc cX11_parts 55 (.iadd) 1 56 := ⟨by decide +kernel, rfl⟩
theorem dX11_parts_56 : gw_dc cX11_parts 56 (.iload_n 2) 1 57 := ⟨by decide +kernel, rfl⟩
theorem dX11_parts_57 : gw_dc cX11_parts 57 (.iadd) 1 58 := ⟨by decide +kernel, rfl⟩
theorem dX11_parts_58 : gw_dc cX11_parts 58 (.iload 4) 2 60 := ⟨by decide +kernel, rfl⟩
theorem dX11_parts_60 : gw_dc cX11_parts 60 (.isub) 1 61 := ⟨by decide +kernel, rfl⟩
theorem dX11_parts_61 : gw_dc cX11_parts 61 (.aload_n 0) 1 62 := ⟨by decide +kernel, rfl⟩
theorem dX11_parts_62 : gw_dc cX11_parts 62 (.getfield 9) 3 65 := ⟨by decide +kernel, rfl⟩
theorem dX11_parts_65 : gw_dc cX11_parts 65 (.sipush 608) 3 68 := ⟨by decide +kernel, rfl⟩
theorem dX11_parts_68 : gw_dc cX11_parts 68 (.iload 6) 2 70 := ⟨by decide +kernel, rfl⟩
theorem dX11_parts_70 : gw_dc cX11_parts 70 (.iadd) 1 71 := ⟨by decide +kernel, rfl⟩
theorem dX11_parts_71 : gw_dc cX11_parts 71 (.iaload) 1 72 := ⟨by decide +kernel, rfl⟩
theorem dX11_parts_72 : gw_dc cX11_parts 72 (.iastore) 1 73 := ⟨by decide +kernel, rfl⟩
theorem dX11_parts_73 : gw_dc cX11_parts 73 (.iinc 6 (-1)) 3 76 := ⟨by decide +kernel, rfl⟩
theorem dX11_parts_76 : gw_dc cX11_parts 76 (.goto (-39)) 3 79 := ⟨by decide +kernel, rfl⟩
theorem dX11_wholly_0 : gw_dc cX11_wholly 0 (.aload_n 0) 1 1 := ⟨by decide +kernel, rfl⟩
theorem dX11_wholly_1 : gw_dc cX11_wholly 1 (.getfield 33) 3 4 := ⟨by decide +kernel, rfl⟩
theorem dX11_wholly_4 : gw_dc cX11_wholly 4 (.iconst 0) 1 5 := ⟨by decide +kernel, rfl⟩
theorem dX11_wholly_5 : gw_dc cX11_wholly 5 (.aload_n 0) 1 6 := ⟨by decide +kernel, rfl⟩
theorem dX11_wholly_6 : gw_dc cX11_wholly 6 (.iload_n 1) 1 7 := ⟨by decide +kernel, rfl⟩
theorem dX11_wholly_7 : gw_dc cX11_wholly 7 (.iconst 0) 1 8 := ⟨by decide +kernel, rfl⟩
theorem dX11_wholly_8 : gw_dc cX11_wholly 8 (.invokevirtual 242) 3 11 := ⟨by decide +kernel, rfl⟩
theorem dX11_wholly_11 : gw_dc cX11_wholly 11 (.iastore) 1 12 := ⟨by decide +kernel, rfl⟩
theorem dX11_wholly_12 : gw_dc cX11_wholly 12 (.aload_n 0) 1 13 := ⟨by decide +kernel, rfl⟩
theorem dX11_wholly_13 : gw_dc cX11_wholly 13 (.iload_n 1) 1 14 := ⟨by decide +kernel, rfl⟩
theorem dX11_wholly_14 : gw_dc cX11_wholly 14 (.iconst 1) 1 15 := ⟨by decide +kernel, rfl⟩
theorem dX11_wholly_15 : gw_dc cX11_wholly 15 (.invokevirtual 261) 3 18 := ⟨by decide +kernel, rfl⟩
theorem mv_RX11_261 : gw_mv RX11 261 yX11_parts := ⟨gw_mem 1699 (by decide +kernel) rfl, gw_mem 1701 (by decide +kernel) rfl, gw_mem 58 (by decide +kernel) rfl⟩
theorem my_X11_parts : gw_my yX11_parts cX11_parts 7 none 2 := ⟨gw_mem 1702 (by decide +kernel) rfl, gw_mem 106 (by decide +kernel) rfl, by decide +kernel, by decide⟩
theorem dX11_wholly_18 : decode cX11_wholly 18 = .ok (.return_, 1) := by decide +kernel
theorem dX11_whole_0 : gw_dc cX11_whole 0 (.aload_n 0) 1 1 := ⟨by decide +kernel, rfl⟩
theorem dX11_whole_1 : gw_dc cX11_whole 1 (.iconst 0) 1 2 := ⟨by decide +kernel, rfl⟩
theorem dX11_whole_2 : gw_dc cX11_whole 2 (.putfield 88) 3 5 := ⟨by decide +kernel, rfl⟩
theorem dX11_whole_5 : gw_dc cX11_whole 5 (.iconst 0) 1 6 := ⟨by decide +kernel, rfl⟩
theorem dX11_whole_6 : gw_dc cX11_whole 6 (.istore_n 1) 1 7 := ⟨by decide +kernel, rfl⟩
theorem dX11_whole_7 : gw_dc cX11_whole 7 (.iconst 0) 1 8 := ⟨by decide +kernel, rfl⟩
theorem dX11_whole_8 : gw_dc cX11_whole 8 (.istore_n 2) 1 9 := ⟨by decide +kernel, rfl⟩
theorem dX11_whole_9 : gw_dc cX11_whole 9 (.iload_n 2) 1 10 := ⟨by decide +kernel, rfl⟩
theorem dX11_whole_10 : gw_dc cX11_whole 10 (.aload_n 0) 1 11 := ⟨by decide +kernel, rfl⟩
theorem dX11_whole_11 : gw_dc cX11_whole 11 (.getfield 9) 3 14 := ⟨by decide +kernel, rfl⟩
theorem dX11_whole_14 : gw_dc cX11_whole 14 (.iconst 4) 1 15 := ⟨by decide +kernel, rfl⟩
theorem dX11_whole_15 : gw_dc cX11_whole 15 (.iaload) 1 16 := ⟨by decide +kernel, rfl⟩
theorem dX11_whole_16 : gw_dc cX11_whole 16 (.if_icmp .ge 33) 3 19 := ⟨by decide +kernel, rfl⟩
theorem dX11_whole_49 : gw_dc cX11_whole 49 (.iload_n 1) 1 50 := ⟨by decide +kernel, rfl⟩
theorem dX11_whole_50 : decode cX11_whole 50 = .ok (.ireturn, 1) := by decide +kernel
theorem dX11_whole_19 : gw_dc cX11_whole 19 (.iload_n 1) 1 20 := ⟨by decide +kernel, rfl⟩
theorem dX11_whole_20 : gw_dc cX11_whole 20 (.aload_n 0) 1 21 := ⟨by decide +kernel, rfl⟩
theorem dX11_whole_21 : gw_dc cX11_whole 21 (.iload_n 2) 1 22 := ⟨by decide +kernel, rfl⟩
theorem dX11_whole_22 : gw_dc cX11_whole 22 (.bipush 6) 2 24 := ⟨by decide +kernel, rfl⟩
theorem dX11_whole_24 : gw_dc cX11_whole 24 (.invokevirtual 242) 3 27 := ⟨by decide +kernel, rfl⟩
theorem dX11_whole_27 : gw_dc cX11_whole 27 (.iconst 1) 1 28 := ⟨by decide +kernel, rfl⟩
theorem dX11_whole_28 : gw_dc cX11_whole 28 (.if_icmp .le 7) 3 31 := ⟨by decide +kernel, rfl⟩
theorem dX11_whole_35 : gw_dc cX11_whole 35 (.iconst 0) 1 36 := ⟨by decide +kernel, rfl⟩
theorem dX11_whole_36 : gw_dc cX11_whole 36 (.iadd) 1 37 := ⟨by decide +kernel, rfl⟩
theorem dX11_whole_37 : gw_dc cX11_whole 37 (.istore_n 1) 1 38 := ⟨by decide +kernel, rfl⟩
theorem dX11_whole_38 : gw_dc cX11_whole 38 (.aload_n 0) 1 39 := ⟨by decide +kernel, rfl⟩
theorem dX11_whole_39 : gw_dc cX11_whole 39 (.iload_n 2) 1 40 := ⟨by decide +kernel, rfl⟩
theorem dX11_whole_40 : gw_dc cX11_whole 40 (.invokevirtual 265) 3 43 := ⟨by decide +kernel, rfl⟩
theorem mv_RX11_265 : gw_mv RX11 265 yX11_wholly := ⟨gw_mem 1711 (by decide +kernel) rfl, gw_mem 1713 (by decide +kernel) rfl, gw_mem 60 (by decide +kernel) rfl⟩
theorem my_X11_wholly : gw_my yX11_wholly cX11_wholly 2 none 1 := ⟨gw_mem 1714 (by decide +kernel) rfl, gw_mem 106 (by decide +kernel) rfl, by decide +kernel, by decide⟩
theorem dX11_whole_43 : gw_dc cX11_whole 43 (.iinc 2 1) 3 46 := ⟨by decide +kernel, rfl⟩
theorem dX11_whole_46 : gw_dc cX11_whole 46 (.goto (-37)) 3 49 := ⟨by decide +kernel, rfl⟩
theorem dX11_whole_31 : gw_dc cX11_whole 31 (.iconst 1) 1 32 := ⟨by decide +kernel, rfl⟩
theorem dX11_whole_32 : gw_dc cX11_whole 32 (.goto 4) 3 35 := ⟨by decide +kernel, rfl⟩
theorem dX11_part_94 : gw_dc cX11_part 94 (.istore 4) 2 96 := ⟨by decide +kernel, rfl⟩
theorem dX11_part_96 : gw_dc cX11_part 96 (.lconst 0) 1 97 := ⟨by decide +kernel, rfl⟩
theorem dX11_part_97 : gw_dc cX11_part 97 (.lstore 5) 2 99 := ⟨by decide +kernel, rfl⟩
theorem dX11_part_99 : gw_dc cX11_part 99 (.iconst 0) 1 100 := ⟨by decide +kernel, rfl⟩
theorem dX11_part_100 : gw_dc cX11_part 100 (.istore 7) 2 102 := ⟨by decide +kernel, rfl⟩
theorem dX11_part_102 : gw_dc cX11_part 102 (.iload 7) 2 104 := ⟨by decide +kernel, rfl⟩
theorem dX11_part_104 : gw_dc cX11_part 104 (.iload_n 3) 1 105 := ⟨by decide +kernel, rfl⟩
theorem dX11_part_105 : gw_dc cX11_part 105 (.if_icmp .ge 68) 3 108 := ⟨by decide +kernel, rfl⟩
theorem dX11_part_173 : gw_dc cX11_part 173 (.iload 4) 2 175 := ⟨by decide +kernel, rfl⟩
theorem dX11_part_175 : gw_dc cX11_part 175 (.ifCond .eq 16) 3 178 := ⟨by decide +kernel, rfl⟩
theorem dX11_part_191 : gw_dc cX11_part 191 (.aload_n 0) 1 192 := ⟨by decide +kernel, rfl⟩
theorem dX11_part_192 : gw_dc cX11_part 192 (.iconst 3) 1 193 := ⟨by decide +kernel, rfl⟩
theorem dX11_part_193 : gw_dc cX11_part 193 (.invokevirtual 191) 3 196 := ⟨by decide +kernel, rfl⟩
theorem dX11_part_196 : decode cX11_part 196 = .ok (.ireturn, 1) := by decide +kernel
theorem dX11_part_178 : gw_dc cX11_part 178 (.lload 5) 2 180 := ⟨by decide +kernel, rfl⟩
theorem dX11_part_180 : gw_dc cX11_part 180 (.aload_n 0) 1 181 := ⟨by decide +kernel, rfl⟩
theorem dX11_part_181 : gw_dc cX11_part 181 (.iload_n 1) 1 182 := ⟨by decide +kernel, rfl⟩
theorem dX11_part_182 : gw_dc cX11_part 182 (.iconst 0) 1 183 := ⟨by decide +kernel, rfl⟩
theorem dX11_part_183 : gw_dc cX11_part 183 (.invokevirtual 242) 3 186 := ⟨by decide +kernel, rfl⟩
theorem dX11_part_186 : gw_dc cX11_part 186 (.i2l) 1 187 := ⟨by decide +kernel, rfl⟩
theorem dX11_part_187 : gw_dc cX11_part 187 (.lcmp) 1 188 := ⟨by decide +kernel, rfl⟩
theorem dX11_part_188 : gw_dc cX11_part 188 (.ifCond .eq 9) 3 191 := ⟨by decide +kernel, rfl⟩
theorem dX11_part_197 : gw_dc cX11_part 197 (.aload_n 0) 1 198 := ⟨by decide +kernel, rfl⟩
theorem dX11_part_198 : gw_dc cX11_part 198 (.iload_n 1) 1 199 := ⟨by decide +kernel, rfl⟩
theorem dX11_part_199 : gw_dc cX11_part 199 (.iload_n 3) 1 200 := ⟨by decide +kernel, rfl⟩
theorem dX11_part_200 : gw_dc cX11_part 200 (.invokevirtual 261) 3 203 := ⟨by decide +kernel, rfl⟩
theorem dX11_part_203 : gw_dc cX11_part 203 (.aload_n 0) 1 204 := ⟨by decide +kernel, rfl⟩
theorem dX11_part_204 : gw_dc cX11_part 204 (.getfield 9) 3 207 := ⟨by decide +kernel, rfl⟩
theorem dX11_part_207 : gw_dc cX11_part 207 (.sipush 668) 3 210 := ⟨by decide +kernel, rfl⟩
theorem dX11_part_210 : gw_dc cX11_part 210 (.iaload) 1 211 := ⟨by decide +kernel, rfl⟩
theorem dX11_part_211 : decode cX11_part 211 = .ok (.ireturn, 1) := by decide +kernel
theorem dX11_part_108 : gw_dc cX11_part 108 (.iload 4) 2 110 := ⟨by decide +kernel, rfl⟩
theorem dX11_part_110 : gw_dc cX11_part 110 (.ifCond .eq 63) 3 113 := ⟨by decide +kernel, rfl⟩
theorem dX11_part_113 : gw_dc cX11_part 113 (.aload_n 0) 1 114 := ⟨by decide +kernel, rfl⟩
theorem dX11_part_114 : gw_dc cX11_part 114 (.getfield 84) 3 117 := ⟨by decide +kernel, rfl⟩
theorem dX11_part_117 : gw_dc cX11_part 117 (.bipush 60) 2 119 := ⟨by decide +kernel, rfl⟩
theorem dX11_part_119 : gw_dc cX11_part 119 (.iload_n 2) 1 120 := ⟨by decide +kernel, rfl⟩
theorem dX11_part_120 : gw_dc cX11_part 120 (.imul) 1 121 := ⟨by decide +kernel, rfl⟩
theorem dX11_part_121 : gw_dc cX11_part 121 (.iload 7) 2 123 := ⟨by decide +kernel, rfl⟩
theorem dX11_part_123 : gw_dc cX11_part 123 (.iadd) 1 124 := ⟨by decide +kernel, rfl⟩
theorem dX11_part_124 : gw_dc cX11_part 124 (.laload) 1 125 := ⟨by decide +kernel, rfl⟩
theorem dX11_part_125 : gw_dc cX11_part 125 (.lconst 1) 1 126 := ⟨by decide +kernel, rfl⟩
theorem dX11_part_126 : gw_dc cX11_part 126 (.ldc2_w 259) 3 129 := ⟨by decide +kernel, rfl⟩
theorem dX11_part_129 : gw_dc cX11_part 129 (.invokestatic 147) 3 132 := ⟨by decide +kernel, rfl⟩
theorem dX11_part_132 : gw_dc cX11_part 132 (.istore 4) 2 134 := ⟨by decide +kernel, rfl⟩
theorem dX11_part_134 : gw_dc cX11_part 134 (.aload_n 0) 1 135 := ⟨by decide +kernel, rfl⟩
theorem dX11_part_135 : gw_dc cX11_part 135 (.getfield 33) 3 138 := ⟨by decide +kernel, rfl⟩
theorem dX11_part_138 : gw_dc cX11_part 138 (.iload 7) 2 140 := ⟨by decide +kernel, rfl⟩
theorem dX11_part_140 : gw_dc cX11_part 140 (.aload_n 0) 1 141 := ⟨by decide +kernel, rfl⟩
theorem dX11_part_141 : gw_dc cX11_part 141 (.getfield 84) 3 144 := ⟨by decide +kernel, rfl⟩
theorem dX11_part_144 : gw_dc cX11_part 144 (.bipush 60) 2 146 := ⟨by decide +kernel, rfl⟩
theorem dX11_part_146 : gw_dc cX11_part 146 (.iload_n 2) 1 147 := ⟨by decide +kernel, rfl⟩
theorem dX11_part_147 : gw_dc cX11_part 147 (.imul) 1 148 := ⟨by decide +kernel, rfl⟩
theorem dX11_part_148 : gw_dc cX11_part 148 (.iload 7) 2 150 := ⟨by decide +kernel, rfl⟩
theorem dX11_part_150 : gw_dc cX11_part 150 (.iadd) 1 151 := ⟨by decide +kernel, rfl⟩
theorem dX11_part_151 : gw_dc cX11_part 151 (.laload) 1 152 := ⟨by decide +kernel, rfl⟩
theorem dX11_part_152 : gw_dc cX11_part 152 (.l2i) 1 153 := ⟨by decide +kernel, rfl⟩
theorem dX11_part_153 : gw_dc cX11_part 153 (.iastore) 1 154 := ⟨by decide +kernel, rfl⟩
theorem dX11_part_154 : gw_dc cX11_part 154 (.lload 5) 2 156 := ⟨by decide +kernel, rfl⟩
theorem dX11_part_156 : gw_dc cX11_part 156 (.aload_n 0) 1 157 := ⟨by decide +kernel, rfl⟩
theorem dX11_part_157 : gw_dc cX11_part 157 (.getfield 33) 3 160 := ⟨by decide +kernel, rfl⟩
theorem dX11_part_160 : gw_dc cX11_part 160 (.iload 7) 2 162 := ⟨by decide +kernel, rfl⟩
theorem dX11_part_162 : gw_dc cX11_part 162 (.iaload) 1 163 := ⟨by decide +kernel, rfl⟩
theorem dX11_part_163 : gw_dc cX11_part 163 (.i2l) 1 164 := ⟨by decide +kernel, rfl⟩
theorem dX11_part_164 : gw_dc cX11_part 164 (.ladd) 1 165 := ⟨by decide +kernel, rfl⟩
theorem dX11_part_165 : gw_dc cX11_part 165 (.lstore 5) 2 167 := ⟨by decide +kernel, rfl⟩
theorem dX11_part_167 : gw_dc cX11_part 167 (.iinc 7 1) 3 170 := ⟨by decide +kernel, rfl⟩
theorem dX11_part_170 : gw_dc cX11_part 170 (.goto (-68)) 3 173 := ⟨by decide +kernel, rfl⟩
theorem dX11_part_35 : gw_dc cX11_part 35 (.putfield 88) 3 38 := ⟨by decide +kernel, rfl⟩
theorem dX11_part_38 : gw_dc cX11_part 38 (.aload_n 0) 1 39 := ⟨by decide +kernel, rfl⟩
theorem dX11_part_39 : gw_dc cX11_part 39 (.getfield 88) 3 42 := ⟨by decide +kernel, rfl⟩
theorem dX11_part_42 : gw_dc cX11_part 42 (.ifCond .le 5) 3 45 := ⟨by decide +kernel, rfl⟩
theorem dX11_part_47 : gw_dc cX11_part 47 (.aload_n 0) 1 48 := ⟨by decide +kernel, rfl⟩
theorem dX11_part_48 : gw_dc cX11_part 48 (.getfield 81) 3 51 := ⟨by decide +kernel, rfl⟩
theorem dX11_part_51 : gw_dc cX11_part 51 (.iload_n 2) 1 52 := ⟨by decide +kernel, rfl⟩
theorem dX11_part_52 : gw_dc cX11_part 52 (.iaload) 1 53 := ⟨by decide +kernel, rfl⟩
theorem dX11_part_53 : gw_dc cX11_part 53 (.istore_n 3) 1 54 := ⟨by decide +kernel, rfl⟩
theorem dX11_part_54 : gw_dc cX11_part 54 (.iload_n 3) 1 55 := ⟨by decide +kernel, rfl⟩
theorem dX11_part_55 : gw_dc cX11_part 55 (.i2l) 1 56 := ⟨by decide +kernel, rfl⟩
theorem dX11_part_56 : gw_dc cX11_part 56 (.lconst 1) 1 57 := ⟨by decide +kernel, rfl⟩
theorem dX11_part_57 : gw_dc cX11_part 57 (.ldc2_w 197) 3 60 := ⟨by decide +kernel, rfl⟩
theorem dX11_part_60 : gw_dc cX11_part 60 (.invokestatic 147) 3 63 := ⟨by decide +kernel, rfl⟩
theorem dX11_part_63 : gw_dc cX11_part 63 (.ifCond .eq 30) 3 66 := ⟨by decide +kernel, rfl⟩
theorem dX11_part_93 : gw_dc cX11_part 93 (.iconst 0) 1 94 := ⟨by decide +kernel, rfl⟩
theorem dX11_part_66 : gw_dc cX11_part 66 (.aload_n 0) 1 67 := ⟨by decide +kernel, rfl⟩
theorem dX11_part_67 : gw_dc cX11_part 67 (.getfield 9) 3 70 := ⟨by decide +kernel, rfl⟩
theorem dX11_part_70 : gw_dc cX11_part 70 (.sipush 668) 3 73 := ⟨by decide +kernel, rfl⟩
theorem dX11_part_73 : gw_dc cX11_part 73 (.iaload) 1 74 := ⟨by decide +kernel, rfl⟩
theorem dX11_part_74 : gw_dc cX11_part 74 (.aload_n 0) 1 75 := ⟨by decide +kernel, rfl⟩
theorem dX11_part_75 : gw_dc cX11_part 75 (.iload_n 1) 1 76 := ⟨by decide +kernel, rfl⟩
theorem dX11_part_76 : gw_dc cX11_part 76 (.bipush 6) 2 78 := ⟨by decide +kernel, rfl⟩
theorem dX11_part_78 : gw_dc cX11_part 78 (.invokevirtual 242) 3 81 := ⟨by decide +kernel, rfl⟩
theorem dX11_part_81 : gw_dc cX11_part 81 (.isub) 1 82 := ⟨by decide +kernel, rfl⟩
theorem dX11_part_82 : gw_dc cX11_part 82 (.iload_n 3) 1 83 := ⟨by decide +kernel, rfl⟩
theorem dX11_part_83 : gw_dc cX11_part 83 (.iadd) 1 84 := ⟨by decide +kernel, rfl⟩
theorem dX11_part_84 : gw_dc cX11_part 84 (.bipush 60) 2 86 := ⟨by decide +kernel, rfl⟩
theorem dX11_part_86 : gw_dc cX11_part 86 (.if_icmp .gt 7) 3 89 := ⟨by decide +kernel, rfl⟩
theorem dX11_part_89 : gw_dc cX11_part 89 (.iconst 1) 1 90 := ⟨by decide +kernel, rfl⟩
theorem dX11_part_90 : gw_dc cX11_part 90 (.goto 4) 3 93 := ⟨by decide +kernel, rfl⟩
theorem dX11_part_45 : gw_dc cX11_part 45 (.iconst 0) 1 46 := ⟨by decide +kernel, rfl⟩
theorem dX11_part_46 : decode cX11_part 46 = .ok (.ireturn, 1) := by decide +kernel
theorem dX11_part_0 : gw_dc cX11_part 0 (.aload_n 0) 1 1 := ⟨by decide +kernel, rfl⟩
theorem dX11_part_1 : gw_dc cX11_part 1 (.aload_n 0) 1 2 := ⟨by decide +kernel, rfl⟩
theorem dX11_part_2 : gw_dc cX11_part 2 (.iload_n 1) 1 3 := ⟨by decide +kernel, rfl⟩
theorem dX11_part_3 : gw_dc cX11_part 3 (.invokevirtual 244) 3 6 := ⟨by decide +kernel, rfl⟩
theorem dX11_part_6 : gw_dc cX11_part 6 (.ifCond .eq 10) 3 9 := ⟨by decide +kernel, rfl⟩
theorem dX11_part_16 : gw_dc cX11_part 16 (.iconst 1) 1 17 := ⟨by decide +kernel, rfl⟩
theorem dX11_part_17 : gw_dc cX11_part 17 (.goto 18) 3 20 := ⟨by decide +kernel, rfl⟩
theorem dX11_part_9 : gw_dc cX11_part 9 (.iload_n 2) 1 10 := ⟨by decide +kernel, rfl⟩
theorem dX11_part_10 : gw_dc cX11_part 10 (.invokestatic 256) 3 13 := ⟨by decide +kernel, rfl⟩
theorem dX11_part_13 : gw_dc cX11_part 13 (.ifCond .ne 7) 3 16 := ⟨by decide +kernel, rfl⟩
theorem dX11_part_20 : gw_dc cX11_part 20 (.aload_n 0) 1 21 := ⟨by decide +kernel, rfl⟩
theorem dX11_part_21 : gw_dc cX11_part 21 (.getfield 78) 3 24 := ⟨by decide +kernel, rfl⟩
theorem dX11_part_24 : gw_dc cX11_part 24 (.iload_n 2) 1 25 := ⟨by decide +kernel, rfl⟩
theorem dX11_part_25 : gw_dc cX11_part 25 (.iaload) 1 26 := ⟨by decide +kernel, rfl⟩
theorem dX11_part_26 : gw_dc cX11_part 26 (.iconst (-1)) 1 27 := ⟨by decide +kernel, rfl⟩
theorem dX11_part_27 : gw_dc cX11_part 27 (.if_icmp .ne 7) 3 30 := ⟨by decide +kernel, rfl⟩
theorem dX11_part_34 : gw_dc cX11_part 34 (.iconst 0) 1 35 := ⟨by decide +kernel, rfl⟩
theorem dX11_part_30 : gw_dc cX11_part 30 (.iconst 2) 1 31 := ⟨by decide +kernel, rfl⟩
theorem dX11_part_31 : gw_dc cX11_part 31 (.goto 4) 3 34 := ⟨by decide +kernel, rfl⟩
/-! The model, 17: sacks parted, walked -/
set_option maxRecDepth 4000 in
theorem s_X11_parts (ad : Nat → Nat) (σ : Sg)  (s : Int) (many : Int) (hT : TW (σ 224)) (hs : 0 ≤ s ∧ s < σ 224 4) (hm : 1 ≤ many ∧ many ≤ 8) (hp : σ 224 668 - nOf σ s 6 + many ≤ 60) : gw_Sp yX11_parts cX11_parts 7 none 3 0 0 [vR (some 223), vI s, vI many] (gw_M0 ad) σ (gw_D none (gw_M0 ad) (nPts σ s many)) gw_no := by
  refine gw_Sp.of [some (vR (some 223)), some (vI s), some (vI many), none, none, none, none] (by decide +kernel) rfl (Nat.le_of_ble_eq_true rfl) ?_
  intro X G fx het hnm
  obtain ⟨e1, e2, h2, h3⟩ := pt_rg hT hs.1 hs.2
  have hP := hT.p60
  have hS := hT.sacks
  have j128 : gw_W X (yX11_parts.cls, cX11_parts, 7, none, 3, 0, 0) G (gw_Z X G (gw_M0 ad) σ (gw_D none (gw_M0 ad) (nPts σ s many)) gw_no 0 0) 0 0 (gw_M0 ad) ((pt1 σ s many)) 128 [some (vR (some 223)), some (vI s), some (vI many), some (vI (nFo σ s)), some (vI (nOf σ s 6)), some (vI (σ 224 668)), none] [] := by
    refine g_iconst fx dX11_parts_128 (by unfold okI; omega) ?_
    refine g_istore fx dX11_parts_129 (by decide) rfl rfl ?_
    have loop131 : ∀ i : Nat, i ≤ many.toNat → gw_W X (yX11_parts.cls, cX11_parts, 7, none, 3, 0, 0) G (gw_Z X G (gw_M0 ad) σ (gw_D none (gw_M0 ad) (nPts σ s many)) gw_no 0 0) 0 0 (gw_M0 ad) ((itr i (ptL (nFo σ s)) (pt1 σ s many))) 131 [some (vR (some 223)), some (vI s), some (vI many), some (vI (nFo σ s)), some (vI (nOf σ s 6)), some (vI (σ 224 668)), some (vI (i : Nat))] [] := by
      refine up_ind _ (many.toNat) (fun i hi ih => ?_)
      refine g_iload fx dX11_parts_131 rfl ?_
      refine g_iload_n fx dX11_parts_133 rfl ?_
      refine g_icmp_ge (tgt := 163) fx dX11_parts_134 (by decide) (fun h134 => ?_) (fun h134 => ?_)
      · have e2 : itr i (ptL (nFo σ s)) (pt1 σ s many) = pt2 σ s many := by rw [pt2, show many.toNat = i by omega]
        refine gw_cg e2 rfl ?_
        refine g_aload_n fx dX11_parts_163 rfl ?_
        refine g_iload_n fx dX11_parts_164 rfl ?_
        refine g_bipush fx dX11_parts_165 (by decide) ?_
        refine g_iload_n fx dX11_parts_167 rfl ?_
        refine g_callVD0 fx dX11_parts_168 mv_RX11_252 my_X11_sets (s_X11_sets ad _ _ _ _ (by omega)) o_223 rfl rfl rfl (Nat.le_of_ble_eq_true rfl) (by decide) (by decide) ?_
        refine gw_cg (σ' := pt3 σ s many) rfl rfl ?_
        refine g_aload_n fx dX11_parts_171 rfl ?_
        refine g_getr fx dX11_parts_172 fk_RX11_9 o_223 rf_223_0 ?_
        refine g_sipush fx dX11_parts_175 (by decide) ?_
        refine g_iload fx dX11_parts_178 rfl ?_
        refine g_iload_n fx dX11_parts_180 rfl ?_
        refine g_iadd1 fx dX11_parts_181 (by unfold okI; omega) ?_
        refine g_iload fx dX11_parts_182 rfl ?_
        refine g_isub1 fx dX11_parts_184 (by unfold okI; omega) ?_
        refine g_iast fx dX11_parts_185 o_224 (by decide) (by decide) ?_
        rw [show Int.toNat 668 = 668 from rfl]
        exact g_vret fx rfl dX11_parts_186 (by decide) (by decide) (gw_le.rf _) ⟨rfl, rfl, rfl⟩
      · refine g_aload_n fx dX11_parts_137 rfl ?_
        refine g_getr fx dX11_parts_138 fk_RX11_9 o_223 rf_223_0 ?_
        refine g_sipush fx dX11_parts_141 (by decide) ?_
        refine g_iload_n fx dX11_parts_144 rfl ?_
        refine g_iadd1 fx dX11_parts_145 (by unfold okI; omega) ?_
        refine g_iload fx dX11_parts_146 rfl ?_
        refine g_iadd1 fx dX11_parts_148 (by unfold okI; omega) ?_
        refine g_aload_n fx dX11_parts_149 rfl ?_
        refine g_getr fx dX11_parts_150 fk_RX11_33 o_223 rf_223_17 ?_
        refine g_iload fx dX11_parts_153 rfl ?_
        refine g_iald fx dX11_parts_155 o_230 (by omega) (by show _ < ((8 : Nat) : Int); omega) ?_
        rw [show ((i : Nat) : Int).toNat = i from rfl]
        refine g_iast fx dX11_parts_156 o_224 (by omega) (by show _ < ((672 : Nat) : Int); omega) ?_
        refine g_iinc1 fx dX11_parts_157 (by decide) rfl rfl (by unfold okI; omega) rfl ?_
        refine g_goto (tgt := 131) fx dX11_parts_160 (by decide) ?_
        exact gw_cg (by rw [itr_s, ptL]) (by rw [show ((i : Nat) : Int) + 1 = ((i + 1 : Nat) : Int) by omega] <;> rfl) (ih (by omega))
    exact loop131 0 (Nat.zero_le _)
  refine g_aload_n fx dX11_parts_0 rfl ?_
  refine g_iload_n fx dX11_parts_1 rfl ?_
  refine g_callVD fx dX11_parts_2 mv_RX11_249 my_X11_firstOf (s_X11_firstOf ad _ _ (by omega)) o_223 rfl rfl rfl (Nat.le_of_ble_eq_true rfl) (by decide) (by decide) ?_
  refine g_istore_n fx dX11_parts_5 (by decide) rfl rfl ?_
  refine g_aload_n fx dX11_parts_6 rfl ?_
  refine g_iload_n fx dX11_parts_7 rfl ?_
  refine g_bipush fx dX11_parts_8 (by decide) ?_
  refine g_callVD fx dX11_parts_10 mv_RX11_242 my_X11_of (s_X11_of ad _ _ _ (by omega)) o_223 rfl rfl rfl (Nat.le_of_ble_eq_true rfl) (by decide) (by decide) ?_
  refine g_istore fx dX11_parts_13 (by decide) rfl rfl ?_
  refine g_aload_n fx dX11_parts_15 rfl ?_
  refine g_getr fx dX11_parts_16 fk_RX11_9 o_223 rf_223_0 ?_
  refine g_sipush fx dX11_parts_19 (by decide) ?_
  refine g_iald fx dX11_parts_22 o_224 (by decide) (by decide) ?_
  rw [show Int.toNat 668 = 668 from rfl]
  refine g_istore fx dX11_parts_23 (by decide) rfl rfl ?_
  refine g_iload_n fx dX11_parts_25 rfl ?_
  refine g_iload fx dX11_parts_26 rfl ?_
  refine g_icmp_le (tgt := 82) fx dX11_parts_28 (by decide) (fun h28 => ?_) (fun h28 => ?_)
  · refine g_iload_n fx dX11_parts_82 rfl ?_
    refine g_iload fx dX11_parts_83 rfl ?_
    refine g_iadd1 fx dX11_parts_85 (by unfold okI; omega) ?_
    refine g_istore fx dX11_parts_86 (by decide) rfl rfl ?_
    have loop88 : ∀ i : Nat, i ≤ (σ 224 668 - (nFo σ s + nOf σ s 6)).toNat → gw_W X (yX11_parts.cls, cX11_parts, 7, none, 3, 0, 0) G (gw_Z X G (gw_M0 ad) σ (gw_D none (gw_M0 ad) (nPts σ s many)) gw_no 0 0) 0 0 (gw_M0 ad) ((itr i (ptD (nFo σ s + nOf σ s 6) many (nOf σ s 6)) σ)) 88 [some (vR (some 223)), some (vI s), some (vI many), some (vI (nFo σ s)), some (vI (nOf σ s 6)), some (vI (σ 224 668)), some (vI (nFo σ s + nOf σ s 6 + ((i : Nat) : Int)))] [] := by
      refine up_ind _ ((σ 224 668 - (nFo σ s + nOf σ s 6)).toNat) (fun i hi ih => ?_)
      refine g_iload fx dX11_parts_88 rfl ?_
      refine g_iload fx dX11_parts_90 rfl ?_
      refine g_icmp_ge (tgt := 128) fx dX11_parts_92 (by decide) (fun h92 => ?_) (fun h92 => ?_)
      · refine g_kill 6 rfl ?_
        exact gw_cg (by rw [pt1]; first | rw [if_pos (by omega), show (σ 224 668 - (nFo σ s + nOf σ s 6)).toNat = i by omega] | rw [if_neg (by omega), show (σ 224 668 - (nFo σ s + nOf σ s 6)).toNat = i by omega]) rfl j128
      · refine g_aload_n fx dX11_parts_95 rfl ?_
        refine g_getr fx dX11_parts_96 fk_RX11_9 o_223 rf_223_0 ?_
        refine g_sipush fx dX11_parts_99 (by decide) ?_
        refine g_iload fx dX11_parts_102 rfl ?_
        refine g_iadd1 fx dX11_parts_104 (by unfold okI; omega) ?_
        refine g_iload_n fx dX11_parts_105 rfl ?_
        refine g_iadd1 fx dX11_parts_106 (by unfold okI; omega) ?_
        refine g_iload fx dX11_parts_107 rfl ?_
        refine g_isub1 fx dX11_parts_109 (by unfold okI; omega) ?_
        refine g_aload_n fx dX11_parts_110 rfl ?_
        refine g_getr fx dX11_parts_111 fk_RX11_9 o_223 rf_223_0 ?_
        refine g_sipush fx dX11_parts_114 (by decide) ?_
        refine g_iload fx dX11_parts_117 rfl ?_
        refine g_iadd1 fx dX11_parts_119 (by unfold okI; omega) ?_
        refine g_iald fx dX11_parts_120 o_224 (by omega) (by show _ < ((672 : Nat) : Int); omega) ?_
        refine g_iast fx dX11_parts_121 o_224 (by omega) (by show _ < ((672 : Nat) : Int); omega) ?_
        refine g_iinc1 fx dX11_parts_122 (by decide) rfl rfl (by unfold okI; omega) rfl ?_
        refine g_goto (tgt := 88) fx dX11_parts_125 (by decide) ?_
        exact gw_cg (by rw [itr_s, ptD]) (by rw [show nFo σ s + nOf σ s 6 + ((i : Nat) : Int) + 1 = nFo σ s + nOf σ s 6 + ((i + 1 : Nat) : Int) by omega] <;> rfl) (ih (by omega))
    exact gw_cg rfl (by rw [show nFo σ s + nOf σ s 6 + ((0 : Nat) : Int) = nFo σ s + nOf σ s 6 by omega] <;> rfl) (loop88 0 (Nat.zero_le _))
  · refine g_iload fx dX11_parts_31 rfl ?_
    refine g_iconst fx dX11_parts_33 (by unfold okI; omega) ?_
    refine g_isub1 fx dX11_parts_34 (by unfold okI; omega) ?_
    refine g_istore fx dX11_parts_35 (by decide) rfl rfl ?_
    have loop37 : ∀ i : Nat, i ≤ (σ 224 668 - (nFo σ s + nOf σ s 6)).toNat → gw_W X (yX11_parts.cls, cX11_parts, 7, none, 3, 0, 0) G (gw_Z X G (gw_M0 ad) σ (gw_D none (gw_M0 ad) (nPts σ s many)) gw_no 0 0) 0 0 (gw_M0 ad) ((itr i (ptU (σ 224 668) many (nOf σ s 6)) σ)) 37 [some (vR (some 223)), some (vI s), some (vI many), some (vI (nFo σ s)), some (vI (nOf σ s 6)), some (vI (σ 224 668)), some (vI (σ 224 668 - 1 - ((i : Nat) : Int)))] [] := by
      refine up_ind _ ((σ 224 668 - (nFo σ s + nOf σ s 6)).toNat) (fun i hi ih => ?_)
      refine g_iload fx dX11_parts_37 rfl ?_
      refine g_iload_n fx dX11_parts_39 rfl ?_
      refine g_iload fx dX11_parts_40 rfl ?_
      refine g_iadd1 fx dX11_parts_42 (by unfold okI; omega) ?_
      refine g_icmp_lt (tgt := 79) fx dX11_parts_43 (by decide) (fun h43 => ?_) (fun h43 => ?_)
      · refine g_goto (tgt := 128) fx dX11_parts_79 (by decide) ?_
        refine g_kill 6 rfl ?_
        exact gw_cg (by rw [pt1]; first | rw [if_pos (by omega), show (σ 224 668 - (nFo σ s + nOf σ s 6)).toNat = i by omega] | rw [if_neg (by omega), show (σ 224 668 - (nFo σ s + nOf σ s 6)).toNat = i by omega]) rfl j128
      · refine g_aload_n fx dX11_parts_46 rfl ?_
        refine g_getr fx dX11_parts_47 fk_RX11_9 o_223 rf_223_0 ?_
        refine g_sipush fx dX11_parts_50 (by decide) ?_
        refine g_iload fx dX11_parts_53 rfl ?_
        refine g_iadd1 fx dX11_parts_55 (by unfold okI; omega) ?_
        refine g_iload_n fx dX11_parts_56 rfl ?_
        refine g_iadd1 fx dX11_parts_57 (by unfold okI; omega) ?_
        refine g_iload fx dX11_parts_58 rfl ?_
        refine g_isub1 fx dX11_parts_60 (by unfold okI; omega) ?_
        refine g_aload_n fx dX11_parts_61 rfl ?_
        refine g_getr fx dX11_parts_62 fk_RX11_9 o_223 rf_223_0 ?_
        refine g_sipush fx dX11_parts_65 (by decide) ?_
        refine g_iload fx dX11_parts_68 rfl ?_
        refine g_iadd1 fx dX11_parts_70 (by unfold okI; omega) ?_
        refine g_iald fx dX11_parts_71 o_224 (by omega) (by show _ < ((672 : Nat) : Int); omega) ?_
        refine g_iast fx dX11_parts_72 o_224 (by omega) (by show _ < ((672 : Nat) : Int); omega) ?_
        refine g_iinc1 fx dX11_parts_73 (by decide) rfl rfl (by unfold okI; omega) rfl ?_
        refine g_goto (tgt := 37) fx dX11_parts_76 (by decide) ?_
        exact gw_cg (by rw [itr_s, ptU]) (by rw [show σ 224 668 - 1 - ((i : Nat) : Int) + (-1) = σ 224 668 - 1 - ((i + 1 : Nat) : Int) by omega] <;> rfl) (ih (by omega))
    exact gw_cg rfl (by rw [show σ 224 668 - 1 - ((0 : Nat) : Int) = σ 224 668 - 1 by omega] <;> rfl) (loop37 0 (Nat.zero_le _))
set_option maxRecDepth 4000 in
theorem s_X11_wholly (ad : Nat → Nat) (σ : Sg)  (s : Int) (hT : TW (σ 224)) (hs : 0 ≤ s ∧ s < σ 224 4) : gw_Sp yX11_wholly cX11_wholly 2 none 4 0 0 [vR (some 223), vI s] (gw_M0 ad) σ (gw_D none (gw_M0 ad) (nWy σ s)) gw_no := by
  refine gw_Sp.of [some (vR (some 223)), some (vI s)] (by decide +kernel) rfl (Nat.le_of_ble_eq_true rfl) ?_
  intro X G fx het hnm
  have hS := hT.sacks
  refine g_aload_n fx dX11_wholly_0 rfl ?_
  refine g_getr fx dX11_wholly_1 fk_RX11_33 o_223 rf_223_17 ?_
  refine g_iconst fx dX11_wholly_4 (by unfold okI; omega) ?_
  refine g_aload_n fx dX11_wholly_5 rfl ?_
  refine g_iload_n fx dX11_wholly_6 rfl ?_
  refine g_iconst fx dX11_wholly_7 (by unfold okI; omega) ?_
  refine g_callVD fx dX11_wholly_8 mv_RX11_242 my_X11_of (s_X11_of ad _ _ _ (by omega)) o_223 rfl rfl rfl (Nat.le_of_ble_eq_true rfl) (by decide) (by decide) ?_
  refine g_iast fx dX11_wholly_11 o_230 (by decide) (by decide) ?_
  rw [show Int.toNat 0 = 0 from rfl]
  refine gw_cg (σ' := wyA σ s) rfl rfl ?_
  refine g_aload_n fx dX11_wholly_12 rfl ?_
  refine g_iload_n fx dX11_wholly_13 rfl ?_
  refine g_iconst fx dX11_wholly_14 (by unfold okI; omega) ?_
  refine g_callVD0 fx dX11_wholly_15 mv_RX11_261 my_X11_parts (s_X11_parts ad _ _ _ (show TW (wyA σ s 224) from hT) hs (by omega) (wy_p hT hs.1 hs.2)) o_223 rfl rfl rfl (Nat.le_of_ble_eq_true rfl) (by decide) (by decide) ?_
  exact g_vret fx rfl dX11_wholly_18 (by decide) (by decide) (gw_le.rf _) ⟨rfl, rfl, rfl⟩
set_option maxRecDepth 4000 in
theorem s_X11_whole (ad : Nat → Nat) (σ : Sg)  (hT : TW (σ 224)) : gw_Sp yX11_whole cX11_whole 3 (some .int) 5 0 0 [vR (some 223)] (gw_M0 ad) σ (gw_D (some (vI (nWh σ).1)) (gw_M0 ad) ((nWh σ).2)) gw_no := by
  refine gw_Sp.of [some (vR (some 223)), none, none] (by decide +kernel) rfl (Nat.le_of_ble_eq_true rfl) ?_
  intro X G fx het hnm
  have hS := hT.sacks
  refine g_aload_n fx dX11_whole_0 rfl ?_
  refine g_iconst fx dX11_whole_1 (by unfold okI; omega) ?_
  refine g_puti fx dX11_whole_2 fk_RX11_88 o_223 ?_
  refine gw_cg (σ' := nT0 σ) rfl rfl ?_
  refine g_iconst fx dX11_whole_5 (by unfold okI; omega) ?_
  refine g_istore_n fx dX11_whole_6 (by decide) rfl rfl ?_
  refine g_iconst fx dX11_whole_7 (by unfold okI; omega) ?_
  refine g_istore_n fx dX11_whole_8 (by decide) rfl rfl ?_
  have loop9 : ∀ k : Nat, k ≤ (σ 224 4).toNat → gw_W X (yX11_whole.cls, cX11_whole, 3, (some .int), 5, 0, 0) G (gw_Z X G (gw_M0 ad) σ (gw_D (some (vI (nWh σ).1)) (gw_M0 ad) ((nWh σ).2)) gw_no 0 0) 0 0 (gw_M0 ad) ((nWhL (nT0 σ) k).2) 9 [some (vR (some 223)), some (vI (nWhL (nT0 σ) k).1), some (vI (k : Nat))] [] := by
    refine up_ind _ ((σ 224 4).toNat) (fun k hk ih => ?_)
    obtain ⟨hTk, hk4⟩ := TW_wh (σ := nT0 σ) hT k (by show _ ≤ σ 224 4; omega)
    change (nWhL (nT0 σ) k).2 224 4 = σ 224 4 at hk4
    refine g_iload_n fx dX11_whole_9 rfl ?_
    refine g_aload_n fx dX11_whole_10 rfl ?_
    refine g_getr fx dX11_whole_11 fk_RX11_9 o_223 rf_223_0 ?_
    refine g_iconst fx dX11_whole_14 (by unfold okI; omega) ?_
    refine g_iald fx dX11_whole_15 o_224 (by decide) (by decide) ?_
    rw [show Int.toNat 4 = 4 from rfl]
    refine g_icmp_ge (tgt := 49) fx dX11_whole_16 (by decide) (fun h16 => ?_) (fun h16 => ?_)
    · refine g_iload_n fx dX11_whole_49 rfl ?_
      exact g_iret fx rfl dX11_whole_50 (by decide) (by decide) (gw_le.rf _) ⟨by rw [nWh, show (σ 224 4).toNat = k by omega], rfl, by rw [nWh, show (σ 224 4).toNat = k by omega]⟩
    · refine g_iload_n fx dX11_whole_19 rfl ?_
      refine g_aload_n fx dX11_whole_20 rfl ?_
      refine g_iload_n fx dX11_whole_21 rfl ?_
      refine g_bipush fx dX11_whole_22 (by decide) ?_
      refine g_callVD fx dX11_whole_24 mv_RX11_242 my_X11_of (s_X11_of ad _ _ _ (by omega)) o_223 rfl rfl rfl (Nat.le_of_ble_eq_true rfl) (by decide) (by decide) ?_
      refine g_iconst fx dX11_whole_27 (by unfold okI; omega) ?_
      refine g_icmp_le (tgt := 35) fx dX11_whole_28 (by decide) (fun h28 => ?_) (fun h28 => ?_)
      · refine g_iconst fx dX11_whole_35 (by unfold okI; omega) ?_
        refine g_iadd fx dX11_whole_36 ?_
        refine g_istore_n fx dX11_whole_37 (by decide) rfl rfl ?_
        refine g_aload_n fx dX11_whole_38 rfl ?_
        refine g_iload_n fx dX11_whole_39 rfl ?_
        refine g_callVD0 fx dX11_whole_40 mv_RX11_265 my_X11_wholly (s_X11_wholly ad _ _ hTk (by omega)) o_223 rfl rfl rfl (Nat.le_of_ble_eq_true rfl) (by decide) (by decide) ?_
        refine g_iinc1 fx dX11_whole_43 (by decide) rfl rfl (by unfold okI; omega) rfl ?_
        refine g_goto (tgt := 9) fx dX11_whole_46 (by decide) ?_
        exact gw_cg rfl (by show _ = _; rw [show nWhL (nT0 σ) (k + 1) = nWhS k (nWhL (nT0 σ) k) from rfl, nWhS, show ((k : Nat) : Int) + 1 = ((k + 1 : Nat) : Int) by omega]; (repeat first | rw [if_pos (by omega)] | rw [if_neg (by omega)]) <;> rfl) (ih (by omega))
      · refine g_iconst fx dX11_whole_31 (by unfold okI; omega) ?_
        refine g_goto (tgt := 36) fx dX11_whole_32 (by decide) ?_
        refine g_iadd fx dX11_whole_36 ?_
        refine g_istore_n fx dX11_whole_37 (by decide) rfl rfl ?_
        refine g_aload_n fx dX11_whole_38 rfl ?_
        refine g_iload_n fx dX11_whole_39 rfl ?_
        refine g_callVD0 fx dX11_whole_40 mv_RX11_265 my_X11_wholly (s_X11_wholly ad _ _ hTk (by omega)) o_223 rfl rfl rfl (Nat.le_of_ble_eq_true rfl) (by decide) (by decide) ?_
        refine g_iinc1 fx dX11_whole_43 (by decide) rfl rfl (by unfold okI; omega) rfl ?_
        refine g_goto (tgt := 9) fx dX11_whole_46 (by decide) ?_
        exact gw_cg rfl (by show _ = _; rw [show nWhL (nT0 σ) (k + 1) = nWhS k (nWhL (nT0 σ) k) from rfl, nWhS, show ((k : Nat) : Int) + 1 = ((k + 1 : Nat) : Int) by omega]; (repeat first | rw [if_pos (by omega)] | rw [if_neg (by omega)]) <;> rfl) (ih (by omega))
  exact loop9 0 (Nat.zero_le _)
set_option maxRecDepth 4000 in
theorem s_X11_part (ad : Nat → Nat) (σ : Sg)  (s : Int) (t : Int) (hT : TW (σ 224)) (hTr : TrW σ) : gw_Sp yX11_part cX11_part 8 (some .int) 4 0 0 [vR (some 223), vI s, vI t] (gw_M0 ad) σ (gw_D (some (vI (nPr σ s t).1)) (gw_M0 ad) ((nPr σ s t).2)) gw_no := by
  refine gw_Sp.of [some (vR (some 223)), some (vI s), some (vI t), none, none, none, none, none] (by decide +kernel) rfl (Nat.le_of_ble_eq_true rfl) ?_
  intro X G fx het hnm
  have hS := hT.sacks
  have hP := hT.p60
  have j94 : (0 ≤ s ∧ s < σ 224 4) → (0 ≤ t ∧ t ≤ 3) → ptV σ s t ≤ 0 → gw_W X (yX11_part.cls, cX11_part, 8, (some .int), 4, 0, 0) G (gw_Z X G (gw_M0 ad) σ (gw_D (some (vI (nPr σ s t).1)) (gw_M0 ad) ((nPr σ s t).2)) gw_no 0 0) 0 0 (gw_M0 ad) ((nThr σ (ptV σ s t))) 94 [some (vR (some 223)), some (vI s), some (vI t), some (vI ((nThr σ (ptV σ s t)) 246 t.toNat)), none, none, none, none] [vI (gd0 (nThr σ (ptV σ s t)) s t)] := by
    intro hs h hv0
    have ht := hTr.at h.1 h.2
    change (-1 ≤ (nThr σ (ptV σ s t)) 245 t.toNat ∧ (nThr σ (ptV σ s t)) 245 t.toNat ≤ 3) ∧ 0 ≤ (nThr σ (ptV σ s t)) 246 t.toNat ∧ (nThr σ (ptV σ s t)) 246 t.toNat ≤ 60 at ht
    refine g_istore fx dX11_part_94 (by decide) rfl rfl ?_
    refine g_lconst0 fx dX11_part_96 ?_
    refine g_lstore fx dX11_part_97 (by decide) rfl rfl ?_
    refine g_iconst fx dX11_part_99 (by unfold okI; omega) ?_
    refine g_istore fx dX11_part_100 (by decide) rfl rfl ?_
    have loop102 : ∀ k : Nat, k ≤ ((nThr σ (ptV σ s t)) 246 t.toNat).toNat → gw_W X (yX11_part.cls, cX11_part, 8, (some .int), 4, 0, 0) G (gw_Z X G (gw_M0 ad) σ (gw_D (some (vI (nPr σ s t).1)) (gw_M0 ad) ((nPr σ s t).2)) gw_no 0 0) 0 0 (gw_M0 ad) ((gdL (nThr σ (ptV σ s t)) s t k).2.2) 102 [some (vR (some 223)), some (vI s), some (vI t), some (vI ((nThr σ (ptV σ s t)) 246 t.toNat)), some (vI (gdL (nThr σ (ptV σ s t)) s t k).1), some (vJ (gdL (nThr σ (ptV σ s t)) s t k).2.1), none, some (vI (k : Nat))] [] := by
      refine up_ind _ _ (fun k hk ih => ?_)
      have e246 : (gdL (nThr σ (ptV σ s t)) s t k).2.2 246 = (nThr σ (ptV σ s t)) 246 := gdL_ne (nThr σ (ptV σ s t)) s t k (by decide)
      refine g_iload fx dX11_part_102 rfl ?_
      refine g_iload_n fx dX11_part_104 rfl ?_
      refine g_icmp_ge (tgt := 173) fx dX11_part_105 (by decide) (fun h105 => ?_) (fun h105 => ?_)
      · have hL : (gdL (nThr σ (ptV σ s t)) s t k) = (gd (nThr σ (ptV σ s t)) s t) := by
          rw [gd]
          first
          | rw [show ((nThr σ (ptV σ s t)) 246 t.toNat).toNat = k by omega]
          | (rw [show ((nThr σ (ptV σ s t)) 246 t.toNat).toNat = k + (((nThr σ (ptV σ s t)) 246 t.toNat).toNat - k) by omega]; exact (gdL_z (nThr σ (ptV σ s t)) s t k (by assumption) _).symm)
        refine g_kill 7 rfl ?_
        rw [hL]
        have e224 : (gd (nThr σ (ptV σ s t)) s t).2.2 224 = (nThr σ (ptV σ s t)) 224 := gdL_ne (nThr σ (ptV σ s t)) s t _ (by decide)
        have hTg : TW ((gd (nThr σ (ptV σ s t)) s t).2.2 224) := by rw [e224]; exact hT
        refine g_iload fx dX11_part_173 rfl ?_
        refine g_if_eq (tgt := 191) fx dX11_part_175 (by decide) (fun h175 => ?_) (fun h175 => ?_)
        · refine g_aload_n fx dX11_part_191 rfl ?_
          refine g_iconst fx dX11_part_192 (by unfold okI; omega) ?_
          refine g_callVD fx dX11_part_193 mv_RX11_191 my_X11_fails (s_X11_fails ad _ _) o_223 rfl rfl rfl (Nat.le_of_ble_eq_true rfl) (by decide) (by decide) ?_
          exact g_iret fx rfl dX11_part_196 (by decide) (by decide) (gw_le.rf _) ⟨by rw [nPr, if_neg (by omega), nPrA, if_pos (by first | exact Or.inl h175 | exact Or.inr (fun e => h188 (jc_eq.mpr e)))], rfl, by rw [nPr, if_neg (by omega), nPrA, if_pos (by first | exact Or.inl h175 | exact Or.inr (fun e => h188 (jc_eq.mpr e)))]⟩
        · refine g_lload fx dX11_part_178 rfl ?_
          refine g_aload_n fx dX11_part_180 rfl ?_
          refine g_iload_n fx dX11_part_181 rfl ?_
          refine g_iconst fx dX11_part_182 (by unfold okI; omega) ?_
          refine g_callVD fx dX11_part_183 mv_RX11_242 my_X11_of (s_X11_of ad _ _ _ (by omega)) o_223 rfl rfl rfl (Nat.le_of_ble_eq_true rfl) (by decide) (by decide) ?_
          refine g_i2l fx dX11_part_186 ?_
          refine g_lcmp fx dX11_part_187 ?_
          refine g_if_eq (tgt := 197) fx dX11_part_188 (by decide) (fun h188 => ?_) (fun h188 => ?_)
          · have hg2 := gdL_1 (σ := (nThr σ (ptV σ s t))) hT hs.1 hs.2 ht.2 _ (show (gdL (nThr σ (ptV σ s t)) s t ((nThr σ (ptV σ s t)) 246 t.toNat).toNat).1 ≠ 0 from h175)
            refine g_aload_n fx dX11_part_197 rfl ?_
            refine g_iload_n fx dX11_part_198 rfl ?_
            refine g_iload_n fx dX11_part_199 rfl ?_
            refine g_callVD0 fx dX11_part_200 mv_RX11_261 my_X11_parts (s_X11_parts ad _ _ _ hTg ⟨hs.1, by rw [e224]; exact hs.2⟩ hg2.1 (by rw [nOf_of e224, e224]; exact hg2.2.1)) o_223 rfl rfl rfl (Nat.le_of_ble_eq_true rfl) (by decide) (by decide) ?_
            refine g_aload_n fx dX11_part_203 rfl ?_
            refine g_getr fx dX11_part_204 fk_RX11_9 o_223 rf_223_0 ?_
            refine g_sipush fx dX11_part_207 (by decide) ?_
            refine g_iald fx dX11_part_210 o_224 (by decide) (by decide) ?_
            rw [show Int.toNat 668 = 668 from rfl]
            exact g_iret fx rfl dX11_part_211 (by decide) (by decide) (gw_le.rf _) ⟨by rw [nPr, if_neg (by omega), nPrA, if_neg (by intro q; rcases q with q | q; exact h175 q; exact q (jc_eq.mp h188))], rfl, by rw [nPr, if_neg (by omega), nPrA, if_neg (by intro q; rcases q with q | q; exact h175 q; exact q (jc_eq.mp h188))]⟩
          · refine g_aload_n fx dX11_part_191 rfl ?_
            refine g_iconst fx dX11_part_192 (by unfold okI; omega) ?_
            refine g_callVD fx dX11_part_193 mv_RX11_191 my_X11_fails (s_X11_fails ad _ _) o_223 rfl rfl rfl (Nat.le_of_ble_eq_true rfl) (by decide) (by decide) ?_
            exact g_iret fx rfl dX11_part_196 (by decide) (by decide) (gw_le.rf _) ⟨by rw [nPr, if_neg (by omega), nPrA, if_pos (by first | exact Or.inl h175 | exact Or.inr (fun e => h188 (jc_eq.mpr e)))], rfl, by rw [nPr, if_neg (by omega), nPrA, if_pos (by first | exact Or.inl h175 | exact Or.inr (fun e => h188 (jc_eq.mpr e)))]⟩
      · refine g_iload fx dX11_part_108 rfl ?_
        refine g_if_eq (tgt := 173) fx dX11_part_110 (by decide) (fun h110 => ?_) (fun h110 => ?_)
        · have hL : (gdL (nThr σ (ptV σ s t)) s t k) = (gd (nThr σ (ptV σ s t)) s t) := by
            rw [gd]
            first
            | rw [show ((nThr σ (ptV σ s t)) 246 t.toNat).toNat = k by omega]
            | (rw [show ((nThr σ (ptV σ s t)) 246 t.toNat).toNat = k + (((nThr σ (ptV σ s t)) 246 t.toNat).toNat - k) by omega]; exact (gdL_z (nThr σ (ptV σ s t)) s t k (by assumption) _).symm)
          refine g_kill 7 rfl ?_
          rw [hL]
          have e224 : (gd (nThr σ (ptV σ s t)) s t).2.2 224 = (nThr σ (ptV σ s t)) 224 := gdL_ne (nThr σ (ptV σ s t)) s t _ (by decide)
          have hTg : TW ((gd (nThr σ (ptV σ s t)) s t).2.2 224) := by rw [e224]; exact hT
          refine g_iload fx dX11_part_173 rfl ?_
          refine g_if_eq (tgt := 191) fx dX11_part_175 (by decide) (fun h175 => ?_) (fun h175 => ?_)
          · refine g_aload_n fx dX11_part_191 rfl ?_
            refine g_iconst fx dX11_part_192 (by unfold okI; omega) ?_
            refine g_callVD fx dX11_part_193 mv_RX11_191 my_X11_fails (s_X11_fails ad _ _) o_223 rfl rfl rfl (Nat.le_of_ble_eq_true rfl) (by decide) (by decide) ?_
            exact g_iret fx rfl dX11_part_196 (by decide) (by decide) (gw_le.rf _) ⟨by rw [nPr, if_neg (by omega), nPrA, if_pos (by first | exact Or.inl h175 | exact Or.inr (fun e => h188 (jc_eq.mpr e)))], rfl, by rw [nPr, if_neg (by omega), nPrA, if_pos (by first | exact Or.inl h175 | exact Or.inr (fun e => h188 (jc_eq.mpr e)))]⟩
          · refine g_lload fx dX11_part_178 rfl ?_
            refine g_aload_n fx dX11_part_180 rfl ?_
            refine g_iload_n fx dX11_part_181 rfl ?_
            refine g_iconst fx dX11_part_182 (by unfold okI; omega) ?_
            refine g_callVD fx dX11_part_183 mv_RX11_242 my_X11_of (s_X11_of ad _ _ _ (by omega)) o_223 rfl rfl rfl (Nat.le_of_ble_eq_true rfl) (by decide) (by decide) ?_
            refine g_i2l fx dX11_part_186 ?_
            refine g_lcmp fx dX11_part_187 ?_
            refine g_if_eq (tgt := 197) fx dX11_part_188 (by decide) (fun h188 => ?_) (fun h188 => ?_)
            · have hg2 := gdL_1 (σ := (nThr σ (ptV σ s t))) hT hs.1 hs.2 ht.2 _ (show (gdL (nThr σ (ptV σ s t)) s t ((nThr σ (ptV σ s t)) 246 t.toNat).toNat).1 ≠ 0 from h175)
              refine g_aload_n fx dX11_part_197 rfl ?_
              refine g_iload_n fx dX11_part_198 rfl ?_
              refine g_iload_n fx dX11_part_199 rfl ?_
              refine g_callVD0 fx dX11_part_200 mv_RX11_261 my_X11_parts (s_X11_parts ad _ _ _ hTg ⟨hs.1, by rw [e224]; exact hs.2⟩ hg2.1 (by rw [nOf_of e224, e224]; exact hg2.2.1)) o_223 rfl rfl rfl (Nat.le_of_ble_eq_true rfl) (by decide) (by decide) ?_
              refine g_aload_n fx dX11_part_203 rfl ?_
              refine g_getr fx dX11_part_204 fk_RX11_9 o_223 rf_223_0 ?_
              refine g_sipush fx dX11_part_207 (by decide) ?_
              refine g_iald fx dX11_part_210 o_224 (by decide) (by decide) ?_
              rw [show Int.toNat 668 = 668 from rfl]
              exact g_iret fx rfl dX11_part_211 (by decide) (by decide) (gw_le.rf _) ⟨by rw [nPr, if_neg (by omega), nPrA, if_neg (by intro q; rcases q with q | q; exact h175 q; exact q (jc_eq.mp h188))], rfl, by rw [nPr, if_neg (by omega), nPrA, if_neg (by intro q; rcases q with q | q; exact h175 q; exact q (jc_eq.mp h188))]⟩
            · refine g_aload_n fx dX11_part_191 rfl ?_
              refine g_iconst fx dX11_part_192 (by unfold okI; omega) ?_
              refine g_callVD fx dX11_part_193 mv_RX11_191 my_X11_fails (s_X11_fails ad _ _) o_223 rfl rfl rfl (Nat.le_of_ble_eq_true rfl) (by decide) (by decide) ?_
              exact g_iret fx rfl dX11_part_196 (by decide) (by decide) (gw_le.rf _) ⟨by rw [nPr, if_neg (by omega), nPrA, if_pos (by first | exact Or.inl h175 | exact Or.inr (fun e => h188 (jc_eq.mpr e)))], rfl, by rw [nPr, if_neg (by omega), nPrA, if_pos (by first | exact Or.inl h175 | exact Or.inr (fun e => h188 (jc_eq.mpr e)))]⟩
        · have hg1 := gdL_1 (σ := (nThr σ (ptV σ s t))) hT hs.1 hs.2 ht.2 k (by assumption)
          refine g_aload_n fx dX11_part_113 rfl ?_
          refine g_getr fx dX11_part_114 fk_RX11_84 o_223 rf_223_41 ?_
          refine g_bipush fx dX11_part_117 (by decide) ?_
          refine g_iload_n fx dX11_part_119 rfl ?_
          refine g_imul fx dX11_part_120 ?_
          refine g_iload fx dX11_part_121 rfl ?_
          refine g_iadd fx dX11_part_123 ?_
          refine gw_cgt rfl (ix60 h (by omega)) ?_
          refine g_lald fx dX11_part_124 o_247 (by omega) (by show _ < ((240 : Nat) : Int); omega) ?_
          refine g_lconst1 fx dX11_part_125 ?_
          refine g_ldcL fx dX11_part_126 kc_RX11_259 (by unfold okJ; omega) ?_
          refine g_callSD fx dX11_part_129 ms_RX11_147 my_X11_within (s_X11_within ad _ _ _ _) rfl rfl (Nat.le_of_ble_eq_true rfl) (by decide) (by decide) ?_
          refine g_istore fx dX11_part_132 (by decide) rfl rfl ?_
          refine g_aload_n fx dX11_part_134 rfl ?_
          refine g_getr fx dX11_part_135 fk_RX11_33 o_223 rf_223_17 ?_
          refine g_iload fx dX11_part_138 rfl ?_
          refine g_aload_n fx dX11_part_140 rfl ?_
          refine g_getr fx dX11_part_141 fk_RX11_84 o_223 rf_223_41 ?_
          refine g_bipush fx dX11_part_144 (by decide) ?_
          refine g_iload_n fx dX11_part_146 rfl ?_
          refine g_imul fx dX11_part_147 ?_
          refine g_iload fx dX11_part_148 rfl ?_
          refine g_iadd fx dX11_part_150 ?_
          refine gw_cgt rfl (ix60 h (by omega)) ?_
          refine g_lald fx dX11_part_151 o_247 (by omega) (by show _ < ((240 : Nat) : Int); omega) ?_
          refine g_l2i fx dX11_part_152 ?_
          refine g_iast fx dX11_part_153 o_230 (by omega) (by show _ < ((8 : Nat) : Int); omega) ?_
          rw [show ((k : Nat) : Int).toNat = k from rfl]
          refine g_lload fx dX11_part_154 rfl ?_
          refine g_aload_n fx dX11_part_156 rfl ?_
          refine g_getr fx dX11_part_157 fk_RX11_33 o_223 rf_223_17 ?_
          refine g_iload fx dX11_part_160 rfl ?_
          refine g_iald fx dX11_part_162 o_230 (by omega) (by show _ < ((8 : Nat) : Int); omega) ?_
          rw [show ((k : Nat) : Int).toNat = k from rfl]
          refine gw_cgt rfl (su_same _ _ _ _) ?_
          refine g_i2l fx dX11_part_163 ?_
          refine g_ladd fx dX11_part_164 ?_
          refine g_lstore fx dX11_part_165 (by decide) rfl rfl ?_
          refine g_iinc1 fx dX11_part_167 (by decide) rfl rfl (by unfold okI; omega) rfl ?_
          refine g_goto (tgt := 102) fx dX11_part_170 (by decide) ?_
          exact gw_cg (by rw [gdL_s, gdS, if_neg (by assumption)]) (by rw [gdL_s, gdS, if_neg (by assumption), show ((k : Nat) : Int) + 1 = ((k + 1 : Nat) : Int) by omega] <;> rfl) (ih (by omega))
    exact loop102 0 (Nat.zero_le _)
  have j35 : gw_W X (yX11_part.cls, cX11_part, 8, (some .int), 4, 0, 0) G (gw_Z X G (gw_M0 ad) σ (gw_D (some (vI (nPr σ s t).1)) (gw_M0 ad) ((nPr σ s t).2)) gw_no 0 0) 0 0 (gw_M0 ad) (σ) 35 [some (vR (some 223)), some (vI s), some (vI t), none, none, none, none, none] [vI (ptV σ s t), vR (some 223)] := by
    refine g_puti fx dX11_part_35 fk_RX11_88 o_223 ?_
    refine gw_cg (σ' := nThr σ (ptV σ s t)) rfl rfl ?_
    refine g_aload_n fx dX11_part_38 rfl ?_
    refine g_geti fx dX11_part_39 fk_RX11_88 (by decide) o_223 ?_
    refine gw_cgt rfl (show nThr σ (ptV σ s t) 223 5 = ptV σ s t from su_same _ _ _ _) ?_
    refine g_if_le (tgt := 47) fx dX11_part_42 (by decide) (fun h42 => ?_) (fun h42 => ?_)
    · obtain ⟨hs, h, _⟩ := ptV_0 hT h42
      have ht := hTr.at h.1 h.2
      change (-1 ≤ (nThr σ (ptV σ s t)) 245 t.toNat ∧ (nThr σ (ptV σ s t)) 245 t.toNat ≤ 3) ∧ 0 ≤ (nThr σ (ptV σ s t)) 246 t.toNat ∧ (nThr σ (ptV σ s t)) 246 t.toNat ≤ 60 at ht
      refine g_aload_n fx dX11_part_47 rfl ?_
      refine g_getr fx dX11_part_48 fk_RX11_81 o_223 rf_223_40 ?_
      refine g_iload_n fx dX11_part_51 rfl ?_
      refine g_iald fx dX11_part_52 o_246 (by omega) (by show _ < ((4 : Nat) : Int); omega) ?_
      refine g_istore_n fx dX11_part_53 (by decide) rfl rfl ?_
      refine g_iload_n fx dX11_part_54 rfl ?_
      refine g_i2l fx dX11_part_55 ?_
      refine g_lconst1 fx dX11_part_56 ?_
      refine g_ldcL fx dX11_part_57 kc_RX11_197 (by unfold okJ; omega) ?_
      refine g_callSD fx dX11_part_60 ms_RX11_147 my_X11_within (s_X11_within ad _ _ _ _) rfl rfl (Nat.le_of_ble_eq_true rfl) (by decide) (by decide) ?_
      refine g_if_eq (tgt := 93) fx dX11_part_63 (by decide) (fun h63 => ?_) (fun h63 => ?_)
      · refine g_iconst fx dX11_part_93 (by unfold okI; omega) ?_
        exact gw_cgt rfl (by rw [gd0]; (repeat first | rw [if_pos (by omega)] | rw [if_neg (by omega)]) <;> rfl) (j94 hs h h42)
      · refine g_aload_n fx dX11_part_66 rfl ?_
        refine g_getr fx dX11_part_67 fk_RX11_9 o_223 rf_223_0 ?_
        refine g_sipush fx dX11_part_70 (by decide) ?_
        refine g_iald fx dX11_part_73 o_224 (by decide) (by decide) ?_
        rw [show Int.toNat 668 = 668 from rfl]
        refine g_aload_n fx dX11_part_74 rfl ?_
        refine g_iload_n fx dX11_part_75 rfl ?_
        refine g_bipush fx dX11_part_76 (by decide) ?_
        refine g_callVD fx dX11_part_78 mv_RX11_242 my_X11_of (s_X11_of ad _ _ _ (by omega)) o_223 rfl rfl rfl (Nat.le_of_ble_eq_true rfl) (by decide) (by decide) ?_
        refine g_isub fx dX11_part_81 ?_
        refine g_iload_n fx dX11_part_82 rfl ?_
        refine g_iadd fx dX11_part_83 ?_
        refine g_bipush fx dX11_part_84 (by decide) ?_
        refine g_icmp_gt (tgt := 93) fx dX11_part_86 (by decide) (fun h86 => ?_) (fun h86 => ?_)
        · refine g_iconst fx dX11_part_93 (by unfold okI; omega) ?_
          exact gw_cgt rfl (by rw [gd0]; (repeat first | rw [if_pos (by omega)] | rw [if_neg (by omega)]) <;> rfl) (j94 hs h h42)
        · refine g_iconst fx dX11_part_89 (by unfold okI; omega) ?_
          refine g_goto (tgt := 94) fx dX11_part_90 (by decide) ?_
          exact gw_cgt rfl (by rw [gd0]; (repeat first | rw [if_pos (by omega)] | rw [if_neg (by omega)]) <;> rfl) (j94 hs h h42)
    · refine g_iconst fx dX11_part_45 (by unfold okI; omega) ?_
      exact g_iret fx rfl dX11_part_46 (by decide) (by decide) (gw_le.rf _) ⟨by rw [nPr, if_pos (by omega)], rfl, by rw [nPr, if_pos (by omega)]⟩
  refine g_aload_n fx dX11_part_0 rfl ?_
  refine g_aload_n fx dX11_part_1 rfl ?_
  refine g_iload_n fx dX11_part_2 rfl ?_
  refine g_callVD fx dX11_part_3 mv_RX11_244 my_X11_isSack (s_X11_isSack ad _ _) o_223 rfl rfl rfl (Nat.le_of_ble_eq_true rfl) (by decide) (by decide) ?_
  refine g_if_eq (tgt := 16) fx dX11_part_6 (by decide) (fun h6 => ?_) (fun h6 => ?_)
  · refine g_iconst fx dX11_part_16 (by unfold okI; omega) ?_
    refine g_goto (tgt := 35) fx dX11_part_17 (by decide) ?_
    exact gw_cgt rfl (by rw [ptV]; (repeat first | rw [if_pos (by omega)] | rw [if_neg (by omega)]) <;> rfl) j35
  · refine g_iload_n fx dX11_part_9 rfl ?_
    refine g_callSD fx dX11_part_10 ms_RX11_256 my_X11_isTray (s_X11_isTray ad _ _) rfl rfl (Nat.le_of_ble_eq_true rfl) (by decide) (by decide) ?_
    refine g_if_ne (tgt := 20) fx dX11_part_13 (by decide) (fun h13 => ?_) (fun h13 => ?_)
    · have h := wth_1 h13
      refine g_aload_n fx dX11_part_20 rfl ?_
      refine g_getr fx dX11_part_21 fk_RX11_78 o_223 rf_223_39 ?_
      refine g_iload_n fx dX11_part_24 rfl ?_
      refine g_iald fx dX11_part_25 o_245 (by omega) (by show _ < ((4 : Nat) : Int); omega) ?_
      refine g_iconst fx dX11_part_26 (by unfold okI; omega) ?_
      refine g_icmp_ne (tgt := 34) fx dX11_part_27 (by decide) (fun h27 => ?_) (fun h27 => ?_)
      · refine g_iconst fx dX11_part_34 (by unfold okI; omega) ?_
        exact gw_cgt rfl (by rw [ptV]; (repeat first | rw [if_pos (by omega)] | rw [if_neg (by omega)]) <;> rfl) j35
      · refine g_iconst fx dX11_part_30 (by unfold okI; omega) ?_
        refine g_goto (tgt := 35) fx dX11_part_31 (by decide) ?_
        exact gw_cgt rfl (by rw [ptV]; (repeat first | rw [if_pos (by omega)] | rw [if_neg (by omega)]) <;> rfl) j35
    · refine g_iconst fx dX11_part_16 (by unfold okI; omega) ?_
      refine g_goto (tgt := 35) fx dX11_part_17 (by decide) ?_
      exact gw_cgt rfl (by rw [ptV]; (repeat first | rw [if_pos (by omega)] | rw [if_neg (by omega)]) <;> rfl) j35
