theorem dX11_begins_44 : gw_dc cX11_begins 44 (.istore 5) 2 46 := ⟨by decide +kernel, rfl⟩
theorem dX11_begins_46 : gw_dc cX11_begins 46 (.aload_n 0) 1 47 := ⟨by decide +kernel, rfl⟩
theorem dX11_begins_47 : gw_dc cX11_begins 47 (.dup) 1 48 := ⟨by decide +kernel, rfl⟩
theorem dX11_begins_48 : gw_dc cX11_begins 48 (.getfield 289) 3 51 := ⟨by decide +kernel, rfl⟩
theorem dX11_begins_51 : gw_dc cX11_begins 51 (.iload 5) 2 53 := ⟨by decide +kernel, rfl⟩
theorem dX11_begins_53 : gw_dc cX11_begins 53 (.iadd) 1 54 := ⟨by decide +kernel, rfl⟩
theorem dX11_begins_54 : gw_dc cX11_begins 54 (.putfield 289) 3 57 := ⟨by decide +kernel, rfl⟩
theorem dX11_begins_57 : gw_dc cX11_begins 57 (.aload_n 0) 1 58 := ⟨by decide +kernel, rfl⟩
theorem dX11_begins_58 : gw_dc cX11_begins 58 (.getfield 54) 3 61 := ⟨by decide +kernel, rfl⟩
theorem dX11_begins_61 : gw_dc cX11_begins 61 (.iload_n 2) 1 62 := ⟨by decide +kernel, rfl⟩
theorem dX11_begins_62 : gw_dc cX11_begins 62 (.iload 4) 2 64 := ⟨by decide +kernel, rfl⟩
theorem dX11_begins_64 : gw_dc cX11_begins 64 (.iastore) 1 65 := ⟨by decide +kernel, rfl⟩
theorem dX11_begins_65 : gw_dc cX11_begins 65 (.aload_n 0) 1 66 := ⟨by decide +kernel, rfl⟩
theorem dX11_begins_66 : gw_dc cX11_begins 66 (.getfield 60) 3 69 := ⟨by decide +kernel, rfl⟩
theorem fk_RX11_60 : gw_fk RX11 60 11 26 42 1 true := ⟨_, _, _, ck_11, by decide, by decide, fun h => absurd h (by decide), fun h => absurd h (by decide), fun _ => Or.inr ⟨_, rfl⟩, rfl, Or.inl (gw_mem 1447 (by decide +kernel) rfl)⟩
theorem rf_223_26 {ad : Nat → Nat} : (gw_M0 ad).2.2 223 26 = some 239 := (by decide +kernel : gw_rh 223 26 = some 239)
theorem dX11_begins_69 : gw_dc cX11_begins 69 (.iload_n 1) 1 70 := ⟨by decide +kernel, rfl⟩
theorem dX11_begins_70 : gw_dc cX11_begins 70 (.iload_n 3) 1 71 := ⟨by decide +kernel, rfl⟩
theorem dX11_begins_71 : gw_dc cX11_begins 71 (.iastore) 1 72 := ⟨by decide +kernel, rfl⟩
theorem o_239 {ad : Nat → Nat} : isO (gw_M0 ad) 239 21 60 := (by decide +kernel : 239 < gw_N0 ∧ gw_sh 239 = (21, 60))
theorem dX11_begins_72 : gw_dc cX11_begins 72 (.aload_n 0) 1 73 := ⟨by decide +kernel, rfl⟩
theorem dX11_begins_73 : gw_dc cX11_begins 73 (.getfield 39) 3 76 := ⟨by decide +kernel, rfl⟩
theorem dX11_begins_76 : gw_dc cX11_begins 76 (.iload_n 1) 1 77 := ⟨by decide +kernel, rfl⟩
theorem dX11_begins_77 : gw_dc cX11_begins 77 (.iload_n 3) 1 78 := ⟨by decide +kernel, rfl⟩
theorem dX11_begins_78 : gw_dc cX11_begins 78 (.iload 5) 2 80 := ⟨by decide +kernel, rfl⟩
theorem dX11_begins_80 : gw_dc cX11_begins 80 (.iadd) 1 81 := ⟨by decide +kernel, rfl⟩
theorem dX11_begins_81 : gw_dc cX11_begins 81 (.iastore) 1 82 := ⟨by decide +kernel, rfl⟩
theorem dX11_begins_82 : gw_dc cX11_begins 82 (.aload_n 0) 1 83 := ⟨by decide +kernel, rfl⟩
theorem dX11_begins_83 : gw_dc cX11_begins 83 (.getfield 42) 3 86 := ⟨by decide +kernel, rfl⟩
theorem dX11_begins_86 : gw_dc cX11_begins 86 (.iload_n 1) 1 87 := ⟨by decide +kernel, rfl⟩
theorem dX11_begins_87 : gw_dc cX11_begins 87 (.aload_n 0) 1 88 := ⟨by decide +kernel, rfl⟩
theorem dX11_begins_88 : gw_dc cX11_begins 88 (.getfield 39) 3 91 := ⟨by decide +kernel, rfl⟩
theorem dX11_begins_91 : gw_dc cX11_begins 91 (.iload_n 1) 1 92 := ⟨by decide +kernel, rfl⟩
theorem dX11_begins_92 : gw_dc cX11_begins 92 (.iaload) 1 93 := ⟨by decide +kernel, rfl⟩
theorem dX11_begins_93 : gw_dc cX11_begins 93 (.aload_n 0) 1 94 := ⟨by decide +kernel, rfl⟩
theorem dX11_begins_94 : gw_dc cX11_begins 94 (.iload_n 2) 1 95 := ⟨by decide +kernel, rfl⟩
theorem dX11_begins_95 : gw_dc cX11_begins 95 (.invokevirtual 295) 3 98 := ⟨by decide +kernel, rfl⟩
theorem mv_RX11_295 : gw_mv RX11 295 yX11_pace := ⟨gw_mem 1770 (by decide +kernel) rfl, gw_mem 1772 (by decide +kernel) rfl, gw_mem 73 (by decide +kernel) rfl⟩
theorem my_X11_pace : gw_my yX11_pace cX11_pace 2 (some .int) 1 := ⟨gw_mem 1773 (by decide +kernel) rfl, gw_mem 106 (by decide +kernel) rfl, by decide +kernel, by decide⟩
theorem dX11_begins_98 : gw_dc cX11_begins 98 (.aload_n 0) 1 99 := ⟨by decide +kernel, rfl⟩
theorem dX11_begins_99 : gw_dc cX11_begins 99 (.iload_n 1) 1 100 := ⟨by decide +kernel, rfl⟩
theorem dX11_begins_100 : gw_dc cX11_begins 100 (.invokevirtual 273) 3 103 := ⟨by decide +kernel, rfl⟩
theorem dX11_begins_103 : gw_dc cX11_begins 103 (.imul) 1 104 := ⟨by decide +kernel, rfl⟩
theorem dX11_begins_104 : gw_dc cX11_begins 104 (.iadd) 1 105 := ⟨by decide +kernel, rfl⟩
theorem dX11_begins_105 : gw_dc cX11_begins 105 (.iastore) 1 106 := ⟨by decide +kernel, rfl⟩
theorem dX11_begins_106 : gw_dc cX11_begins 106 (.aload_n 0) 1 107 := ⟨by decide +kernel, rfl⟩
theorem dX11_begins_107 : gw_dc cX11_begins 107 (.getfield 45) 3 110 := ⟨by decide +kernel, rfl⟩
theorem fk_RX11_45 : gw_fk RX11 45 11 21 42 1 true := ⟨_, _, _, ck_11, by decide, by decide, fun h => absurd h (by decide), fun h => absurd h (by decide), fun _ => Or.inr ⟨_, rfl⟩, rfl, Or.inl (gw_mem 1442 (by decide +kernel) rfl)⟩
theorem rf_223_21 {ad : Nat → Nat} : (gw_M0 ad).2.2 223 21 = some 234 := (by decide +kernel : gw_rh 223 21 = some 234)
theorem dX11_begins_110 : gw_dc cX11_begins 110 (.iload_n 1) 1 111 := ⟨by decide +kernel, rfl⟩
theorem dX11_begins_111 : gw_dc cX11_begins 111 (.iload_n 2) 1 112 := ⟨by decide +kernel, rfl⟩
theorem dX11_begins_112 : gw_dc cX11_begins 112 (.iastore) 1 113 := ⟨by decide +kernel, rfl⟩
theorem o_234 {ad : Nat → Nat} : isO (gw_M0 ad) 234 21 60 := (by decide +kernel : 234 < gw_N0 ∧ gw_sh 234 = (21, 60))
theorem dX11_begins_113 : gw_dc cX11_begins 113 (.aload_n 0) 1 114 := ⟨by decide +kernel, rfl⟩
theorem dX11_begins_114 : gw_dc cX11_begins 114 (.getfield 51) 3 117 := ⟨by decide +kernel, rfl⟩
theorem dX11_begins_117 : gw_dc cX11_begins 117 (.iload_n 2) 1 118 := ⟨by decide +kernel, rfl⟩
theorem dX11_begins_118 : gw_dc cX11_begins 118 (.aload_n 0) 1 119 := ⟨by decide +kernel, rfl⟩
theorem dX11_begins_119 : gw_dc cX11_begins 119 (.getfield 42) 3 122 := ⟨by decide +kernel, rfl⟩
theorem dX11_begins_122 : gw_dc cX11_begins 122 (.iload_n 1) 1 123 := ⟨by decide +kernel, rfl⟩
theorem dX11_begins_123 : gw_dc cX11_begins 123 (.iaload) 1 124 := ⟨by decide +kernel, rfl⟩
theorem dX11_begins_124 : gw_dc cX11_begins 124 (.iastore) 1 125 := ⟨by decide +kernel, rfl⟩
theorem dX11_begins_125 : gw_dc cX11_begins 125 (.aload_n 0) 1 126 := ⟨by decide +kernel, rfl⟩
theorem dX11_begins_126 : gw_dc cX11_begins 126 (.getfield 57) 3 129 := ⟨by decide +kernel, rfl⟩
theorem dX11_begins_129 : gw_dc cX11_begins 129 (.aload_n 0) 1 130 := ⟨by decide +kernel, rfl⟩
theorem dX11_begins_130 : gw_dc cX11_begins 130 (.aload_n 0) 1 131 := ⟨by decide +kernel, rfl⟩
theorem dX11_begins_131 : gw_dc cX11_begins 131 (.getfield 36) 3 134 := ⟨by decide +kernel, rfl⟩
theorem dX11_begins_134 : gw_dc cX11_begins 134 (.iload_n 1) 1 135 := ⟨by decide +kernel, rfl⟩
theorem dX11_begins_135 : gw_dc cX11_begins 135 (.iaload) 1 136 := ⟨by decide +kernel, rfl⟩
theorem dX11_begins_136 : gw_dc cX11_begins 136 (.iconst 1) 1 137 := ⟨by decide +kernel, rfl⟩
theorem dX11_begins_137 : gw_dc cX11_begins 137 (.invokevirtual 242) 3 140 := ⟨by decide +kernel, rfl⟩
theorem dX11_begins_140 : gw_dc cX11_begins 140 (.dup2) 1 141 := ⟨by decide +kernel, rfl⟩
theorem dX11_begins_141 : gw_dc cX11_begins 141 (.iaload) 1 142 := ⟨by decide +kernel, rfl⟩
theorem dX11_begins_142 : gw_dc cX11_begins 142 (.iconst 1) 1 143 := ⟨by decide +kernel, rfl⟩
theorem dX11_begins_143 : gw_dc cX11_begins 143 (.iadd) 1 144 := ⟨by decide +kernel, rfl⟩
theorem dX11_begins_144 : gw_dc cX11_begins 144 (.iastore) 1 145 := ⟨by decide +kernel, rfl⟩
theorem dX11_begins_145 : gw_dc cX11_begins 145 (.aload_n 0) 1 146 := ⟨by decide +kernel, rfl⟩
theorem dX11_begins_146 : gw_dc cX11_begins 146 (.getfield 48) 3 149 := ⟨by decide +kernel, rfl⟩
theorem fk_RX11_48 : gw_fk RX11 48 11 22 42 1 true := ⟨_, _, _, ck_11, by decide, by decide, fun h => absurd h (by decide), fun h => absurd h (by decide), fun _ => Or.inr ⟨_, rfl⟩, rfl, Or.inl (gw_mem 1443 (by decide +kernel) rfl)⟩
theorem rf_223_22 {ad : Nat → Nat} : (gw_M0 ad).2.2 223 22 = some 235 := (by decide +kernel : gw_rh 223 22 = some 235)
theorem dX11_begins_149 : gw_dc cX11_begins 149 (.aload_n 0) 1 150 := ⟨by decide +kernel, rfl⟩
theorem dX11_begins_150 : gw_dc cX11_begins 150 (.getfield 286) 3 153 := ⟨by decide +kernel, rfl⟩
theorem dX11_begins_153 : gw_dc cX11_begins 153 (.iload_n 1) 1 154 := ⟨by decide +kernel, rfl⟩
theorem dX11_begins_154 : gw_dc cX11_begins 154 (.iastore) 1 155 := ⟨by decide +kernel, rfl⟩
theorem o_235 {ad : Nat → Nat} : isO (gw_M0 ad) 235 21 60 := (by decide +kernel : 235 < gw_N0 ∧ gw_sh 235 = (21, 60))
theorem dX11_begins_155 : gw_dc cX11_begins 155 (.aload_n 0) 1 156 := ⟨by decide +kernel, rfl⟩
theorem dX11_begins_156 : gw_dc cX11_begins 156 (.dup) 1 157 := ⟨by decide +kernel, rfl⟩
theorem dX11_begins_157 : gw_dc cX11_begins 157 (.getfield 286) 3 160 := ⟨by decide +kernel, rfl⟩
theorem dX11_begins_160 : gw_dc cX11_begins 160 (.iconst 1) 1 161 := ⟨by decide +kernel, rfl⟩
theorem dX11_begins_161 : gw_dc cX11_begins 161 (.iadd) 1 162 := ⟨by decide +kernel, rfl⟩
theorem dX11_begins_162 : gw_dc cX11_begins 162 (.putfield 286) 3 165 := ⟨by decide +kernel, rfl⟩
theorem dX11_begins_165 : decode cX11_begins 165 = .ok (.return_, 1) := by decide +kernel
theorem dX11_begins_0 : gw_dc cX11_begins 0 (.aload_n 0) 1 1 := ⟨by decide +kernel, rfl⟩
theorem dX11_begins_1 : gw_dc cX11_begins 1 (.aload_n 0) 1 2 := ⟨by decide +kernel, rfl⟩
theorem dX11_begins_2 : gw_dc cX11_begins 2 (.getfield 36) 3 5 := ⟨by decide +kernel, rfl⟩
theorem dX11_begins_5 : gw_dc cX11_begins 5 (.iload_n 1) 1 6 := ⟨by decide +kernel, rfl⟩
theorem dX11_begins_6 : gw_dc cX11_begins 6 (.iaload) 1 7 := ⟨by decide +kernel, rfl⟩
theorem dX11_begins_7 : gw_dc cX11_begins 7 (.iconst 3) 1 8 := ⟨by decide +kernel, rfl⟩
theorem dX11_begins_8 : gw_dc cX11_begins 8 (.invokevirtual 242) 3 11 := ⟨by decide +kernel, rfl⟩
theorem dX11_begins_11 : gw_dc cX11_begins 11 (.istore 4) 2 13 := ⟨by decide +kernel, rfl⟩
theorem dX11_begins_13 : gw_dc cX11_begins 13 (.aload_n 0) 1 14 := ⟨by decide +kernel, rfl⟩
theorem dX11_begins_14 : gw_dc cX11_begins 14 (.getfield 54) 3 17 := ⟨by decide +kernel, rfl⟩
theorem dX11_begins_17 : gw_dc cX11_begins 17 (.iload_n 2) 1 18 := ⟨by decide +kernel, rfl⟩
theorem dX11_begins_18 : gw_dc cX11_begins 18 (.iaload) 1 19 := ⟨by decide +kernel, rfl⟩
theorem dX11_begins_19 : gw_dc cX11_begins 19 (.iconst (-1)) 1 20 := ⟨by decide +kernel, rfl⟩
theorem dX11_begins_20 : gw_dc cX11_begins 20 (.if_icmp .eq 23) 3 23 := ⟨by decide +kernel, rfl⟩
theorem dX11_begins_43 : gw_dc cX11_begins 43 (.iconst 0) 1 44 := ⟨by decide +kernel, rfl⟩
theorem dX11_begins_23 : gw_dc cX11_begins 23 (.aload_n 0) 1 24 := ⟨by decide +kernel, rfl⟩
theorem dX11_begins_24 : gw_dc cX11_begins 24 (.getfield 54) 3 27 := ⟨by decide +kernel, rfl⟩
theorem dX11_begins_27 : gw_dc cX11_begins 27 (.iload_n 2) 1 28 := ⟨by decide +kernel, rfl⟩
theorem dX11_begins_28 : gw_dc cX11_begins 28 (.iaload) 1 29 := ⟨by decide +kernel, rfl⟩
theorem dX11_begins_29 : gw_dc cX11_begins 29 (.iload 4) 2 31 := ⟨by decide +kernel, rfl⟩
theorem dX11_begins_31 : gw_dc cX11_begins 31 (.if_icmp .eq 12) 3 34 := ⟨by decide +kernel, rfl⟩
theorem dX11_begins_34 : gw_dc cX11_begins 34 (.aload_n 0) 1 35 := ⟨by decide +kernel, rfl⟩
theorem dX11_begins_35 : gw_dc cX11_begins 35 (.getfield 9) 3 38 := ⟨by decide +kernel, rfl⟩
theorem dX11_begins_38 : gw_dc cX11_begins 38 (.iconst 2) 1 39 := ⟨by decide +kernel, rfl⟩
theorem dX11_begins_39 : gw_dc cX11_begins 39 (.iaload) 1 40 := ⟨by decide +kernel, rfl⟩
theorem dX11_begins_40 : gw_dc cX11_begins 40 (.goto 4) 3 43 := ⟨by decide +kernel, rfl⟩
theorem dX11_firstThere_0 : gw_dc cX11_firstThere 0 (.iconst (-1)) 1 1 := ⟨by decide +kernel, rfl⟩
theorem dX11_firstThere_1 : gw_dc cX11_firstThere 1 (.istore_n 3) 1 2 := ⟨by decide +kernel, rfl⟩
theorem dX11_firstThere_2 : gw_dc cX11_firstThere 2 (.iconst 0) 1 3 := ⟨by decide +kernel, rfl⟩
theorem dX11_firstThere_3 : gw_dc cX11_firstThere 3 (.istore 4) 2 5 := ⟨by decide +kernel, rfl⟩
theorem dX11_firstThere_5 : gw_dc cX11_firstThere 5 (.iload 4) 2 7 := ⟨by decide +kernel, rfl⟩
theorem dX11_firstThere_7 : gw_dc cX11_firstThere 7 (.aload_n 0) 1 8 := ⟨by decide +kernel, rfl⟩
theorem dX11_firstThere_8 : gw_dc cX11_firstThere 8 (.getfield 9) 3 11 := ⟨by decide +kernel, rfl⟩
theorem dX11_firstThere_11 : gw_dc cX11_firstThere 11 (.sipush 668) 3 14 := ⟨by decide +kernel, rfl⟩
theorem dX11_firstThere_14 : gw_dc cX11_firstThere 14 (.iaload) 1 15 := ⟨by decide +kernel, rfl⟩
theorem dX11_firstThere_15 : gw_dc cX11_firstThere 15 (.if_icmp .ge 63) 3 18 := ⟨by decide +kernel, rfl⟩
theorem dX11_firstThere_78 : gw_dc cX11_firstThere 78 (.iload_n 3) 1 79 := ⟨by decide +kernel, rfl⟩
theorem dX11_firstThere_79 : decode cX11_firstThere 79 = .ok (.ireturn, 1) := by decide +kernel
theorem dX11_firstThere_18 : gw_dc cX11_firstThere 18 (.aload_n 0) 1 19 := ⟨by decide +kernel, rfl⟩
theorem dX11_firstThere_19 : gw_dc cX11_firstThere 19 (.getfield 39) 3 22 := ⟨by decide +kernel, rfl⟩
theorem dX11_firstThere_22 : gw_dc cX11_firstThere 22 (.iload 4) 2 24 := ⟨by decide +kernel, rfl⟩
theorem dX11_firstThere_24 : gw_dc cX11_firstThere 24 (.iaload) 1 25 := ⟨by decide +kernel, rfl⟩
theorem dX11_firstThere_25 : gw_dc cX11_firstThere 25 (.iconst (-1)) 1 26 := ⟨by decide +kernel, rfl⟩
theorem dX11_firstThere_26 : gw_dc cX11_firstThere 26 (.if_icmp .ne 46) 3 29 := ⟨by decide +kernel, rfl⟩
theorem dX11_firstThere_72 : gw_dc cX11_firstThere 72 (.iinc 4 1) 3 75 := ⟨by decide +kernel, rfl⟩
theorem dX11_firstThere_75 : gw_dc cX11_firstThere 75 (.goto (-70)) 3 78 := ⟨by decide +kernel, rfl⟩
theorem dX11_firstThere_29 : gw_dc cX11_firstThere 29 (.aload_n 0) 1 30 := ⟨by decide +kernel, rfl⟩
theorem dX11_firstThere_30 : gw_dc cX11_firstThere 30 (.aload_n 0) 1 31 := ⟨by decide +kernel, rfl⟩
theorem dX11_firstThere_31 : gw_dc cX11_firstThere 31 (.getfield 36) 3 34 := ⟨by decide +kernel, rfl⟩
theorem dX11_firstThere_34 : gw_dc cX11_firstThere 34 (.iload 4) 2 36 := ⟨by decide +kernel, rfl⟩
theorem dX11_firstThere_36 : gw_dc cX11_firstThere 36 (.iaload) 1 37 := ⟨by decide +kernel, rfl⟩
theorem dX11_firstThere_37 : gw_dc cX11_firstThere 37 (.iconst 2) 1 38 := ⟨by decide +kernel, rfl⟩
theorem dX11_firstThere_38 : gw_dc cX11_firstThere 38 (.invokevirtual 242) 3 41 := ⟨by decide +kernel, rfl⟩
theorem dX11_firstThere_41 : gw_dc cX11_firstThere 41 (.iload_n 1) 1 42 := ⟨by decide +kernel, rfl⟩
theorem dX11_firstThere_42 : gw_dc cX11_firstThere 42 (.if_icmp .le 6) 3 45 := ⟨by decide +kernel, rfl⟩
theorem dX11_firstThere_48 : gw_dc cX11_firstThere 48 (.iload_n 3) 1 49 := ⟨by decide +kernel, rfl⟩
theorem dX11_firstThere_49 : gw_dc cX11_firstThere 49 (.iconst (-1)) 1 50 := ⟨by decide +kernel, rfl⟩
theorem dX11_firstThere_50 : gw_dc cX11_firstThere 50 (.if_icmp .eq 19) 3 53 := ⟨by decide +kernel, rfl⟩
theorem dX11_firstThere_69 : gw_dc cX11_firstThere 69 (.iload 4) 2 71 := ⟨by decide +kernel, rfl⟩
theorem dX11_firstThere_71 : gw_dc cX11_firstThere 71 (.istore_n 3) 1 72 := ⟨by decide +kernel, rfl⟩
theorem dX11_firstThere_53 : gw_dc cX11_firstThere 53 (.aload_n 0) 1 54 := ⟨by decide +kernel, rfl⟩
theorem dX11_firstThere_54 : gw_dc cX11_firstThere 54 (.iload 4) 2 56 := ⟨by decide +kernel, rfl⟩
theorem dX11_firstThere_56 : gw_dc cX11_firstThere 56 (.iload_n 3) 1 57 := ⟨by decide +kernel, rfl⟩
theorem dX11_firstThere_57 : gw_dc cX11_firstThere 57 (.aload_n 0) 1 58 := ⟨by decide +kernel, rfl⟩
theorem dX11_firstThere_58 : gw_dc cX11_firstThere 58 (.getfield 54) 3 61 := ⟨by decide +kernel, rfl⟩
theorem dX11_firstThere_61 : gw_dc cX11_firstThere 61 (.iload_n 2) 1 62 := ⟨by decide +kernel, rfl⟩
theorem dX11_firstThere_62 : gw_dc cX11_firstThere 62 (.iaload) 1 63 := ⟨by decide +kernel, rfl⟩
theorem dX11_firstThere_63 : gw_dc cX11_firstThere 63 (.invokevirtual 298) 3 66 := ⟨by decide +kernel, rfl⟩
theorem mv_RX11_298 : gw_mv RX11 298 yX11_isAhead := ⟨gw_mem 1745 (by decide +kernel) rfl, gw_mem 1747 (by decide +kernel) rfl, gw_mem 67 (by decide +kernel) rfl⟩
theorem my_X11_isAhead : gw_my yX11_isAhead cX11_isAhead 6 (some .boolean) 3 := ⟨gw_mem 1748 (by decide +kernel) rfl, gw_mem 106 (by decide +kernel) rfl, by decide +kernel, by decide⟩
theorem dX11_firstThere_66 : gw_dc cX11_firstThere 66 (.ifCond .eq 6) 3 69 := ⟨by decide +kernel, rfl⟩
theorem dX11_firstThere_45 : gw_dc cX11_firstThere 45 (.goto 27) 3 48 := ⟨by decide +kernel, rfl⟩
theorem dX11_runs_0 : gw_dc cX11_runs 0 (.aload_n 0) 1 1 := ⟨by decide +kernel, rfl⟩
theorem dX11_runs_1 : gw_dc cX11_runs 1 (.invokevirtual 302) 3 4 := ⟨by decide +kernel, rfl⟩
theorem mv_RX11_302 : gw_mv RX11 302 yX11_forgets := ⟨gw_mem 1728 (by decide +kernel) rfl, gw_mem 1730 (by decide +kernel) rfl, gw_mem 63 (by decide +kernel) rfl⟩
theorem my_X11_forgets : gw_my yX11_forgets cX11_forgets 2 none 0 := ⟨gw_mem 1731 (by decide +kernel) rfl, gw_mem 106 (by decide +kernel) rfl, by decide +kernel, by decide⟩
theorem dX11_runs_4 : gw_dc cX11_runs 4 (.iconst 0) 1 5 := ⟨by decide +kernel, rfl⟩
theorem dX11_runs_5 : gw_dc cX11_runs 5 (.istore_n 1) 1 6 := ⟨by decide +kernel, rfl⟩
theorem dX11_runs_6 : gw_dc cX11_runs 6 (.aload_n 0) 1 7 := ⟨by decide +kernel, rfl⟩
theorem dX11_runs_7 : gw_dc cX11_runs 7 (.getfield 286) 3 10 := ⟨by decide +kernel, rfl⟩
theorem dX11_runs_10 : gw_dc cX11_runs 10 (.aload_n 0) 1 11 := ⟨by decide +kernel, rfl⟩
theorem dX11_runs_11 : gw_dc cX11_runs 11 (.getfield 9) 3 14 := ⟨by decide +kernel, rfl⟩
theorem dX11_runs_14 : gw_dc cX11_runs 14 (.sipush 668) 3 17 := ⟨by decide +kernel, rfl⟩
theorem dX11_runs_17 : gw_dc cX11_runs 17 (.iaload) 1 18 := ⟨by decide +kernel, rfl⟩
theorem dX11_runs_18 : gw_dc cX11_runs 18 (.if_icmp .ge 137) 3 21 := ⟨by decide +kernel, rfl⟩
theorem dX11_runs_155 : decode cX11_runs 155 = .ok (.return_, 1) := by decide +kernel
theorem dX11_runs_21 : gw_dc cX11_runs 21 (.iconst 0) 1 22 := ⟨by decide +kernel, rfl⟩
theorem dX11_runs_22 : gw_dc cX11_runs 22 (.istore_n 2) 1 23 := ⟨by decide +kernel, rfl⟩
theorem dX11_runs_23 : gw_dc cX11_runs 23 (.iload_n 2) 1 24 := ⟨by decide +kernel, rfl⟩
theorem dX11_runs_24 : gw_dc cX11_runs 24 (.aload_n 0) 1 25 := ⟨by decide +kernel, rfl⟩
theorem dX11_runs_25 : gw_dc cX11_runs 25 (.invokevirtual 305) 3 28 := ⟨by decide +kernel, rfl⟩
theorem dX11_runs_28 : gw_dc cX11_runs 28 (.if_icmp .ge 42) 3 31 := ⟨by decide +kernel, rfl⟩
theorem dX11_runs_70 : gw_dc cX11_runs 70 (.ldc_w 276) 3 73 := ⟨by decide +kernel, rfl⟩
theorem dX11_runs_73 : gw_dc cX11_runs 73 (.istore_n 2) 1 74 := ⟨by decide +kernel, rfl⟩
theorem dX11_runs_74 : gw_dc cX11_runs 74 (.iconst 0) 1 75 := ⟨by decide +kernel, rfl⟩
theorem dX11_runs_75 : gw_dc cX11_runs 75 (.istore_n 3) 1 76 := ⟨by decide +kernel, rfl⟩
theorem dX11_runs_76 : gw_dc cX11_runs 76 (.iload_n 3) 1 77 := ⟨by decide +kernel, rfl⟩
theorem dX11_runs_77 : gw_dc cX11_runs 77 (.aload_n 0) 1 78 := ⟨by decide +kernel, rfl⟩
theorem dX11_runs_78 : gw_dc cX11_runs 78 (.invokevirtual 305) 3 81 := ⟨by decide +kernel, rfl⟩
theorem dX11_runs_81 : gw_dc cX11_runs 81 (.if_icmp .ge 30) 3 84 := ⟨by decide +kernel, rfl⟩
theorem dX11_runs_111 : gw_dc cX11_runs 111 (.iconst 0) 1 112 := ⟨by decide +kernel, rfl⟩
theorem dX11_runs_112 : gw_dc cX11_runs 112 (.istore_n 3) 1 113 := ⟨by decide +kernel, rfl⟩
theorem dX11_runs_113 : gw_dc cX11_runs 113 (.iload_n 3) 1 114 := ⟨by decide +kernel, rfl⟩
theorem dX11_runs_114 : gw_dc cX11_runs 114 (.aload_n 0) 1 115 := ⟨by decide +kernel, rfl⟩
theorem dX11_runs_115 : gw_dc cX11_runs 115 (.getfield 9) 3 118 := ⟨by decide +kernel, rfl⟩
theorem dX11_runs_118 : gw_dc cX11_runs 118 (.iconst 4) 1 119 := ⟨by decide +kernel, rfl⟩
theorem dX11_runs_119 : gw_dc cX11_runs 119 (.iaload) 1 120 := ⟨by decide +kernel, rfl⟩
theorem dX11_runs_120 : gw_dc cX11_runs 120 (.if_icmp .ge 30) 3 123 := ⟨by decide +kernel, rfl⟩
theorem dX11_runs_150 : gw_dc cX11_runs 150 (.iload_n 2) 1 151 := ⟨by decide +kernel, rfl⟩
theorem dX11_runs_151 : gw_dc cX11_runs 151 (.istore_n 1) 1 152 := ⟨by decide +kernel, rfl⟩
theorem dX11_runs_152 : gw_dc cX11_runs 152 (.goto (-146)) 3 155 := ⟨by decide +kernel, rfl⟩
theorem dX11_runs_123 : gw_dc cX11_runs 123 (.aload_n 0) 1 124 := ⟨by decide +kernel, rfl⟩
theorem dX11_runs_124 : gw_dc cX11_runs 124 (.iload_n 3) 1 125 := ⟨by decide +kernel, rfl⟩
theorem dX11_runs_125 : gw_dc cX11_runs 125 (.iconst 2) 1 126 := ⟨by decide +kernel, rfl⟩
theorem dX11_runs_126 : gw_dc cX11_runs 126 (.invokevirtual 242) 3 129 := ⟨by decide +kernel, rfl⟩
theorem dX11_runs_129 : gw_dc cX11_runs 129 (.iload_n 1) 1 130 := ⟨by decide +kernel, rfl⟩
theorem dX11_runs_130 : gw_dc cX11_runs 130 (.if_icmp .le 14) 3 133 := ⟨by decide +kernel, rfl⟩
theorem dX11_runs_144 : gw_dc cX11_runs 144 (.iinc 3 1) 3 147 := ⟨by decide +kernel, rfl⟩
theorem dX11_runs_147 : gw_dc cX11_runs 147 (.goto (-34)) 3 150 := ⟨by decide +kernel, rfl⟩
theorem dX11_runs_133 : gw_dc cX11_runs 133 (.iload_n 2) 1 134 := ⟨by decide +kernel, rfl⟩
theorem dX11_runs_134 : gw_dc cX11_runs 134 (.aload_n 0) 1 135 := ⟨by decide +kernel, rfl⟩
theorem dX11_runs_135 : gw_dc cX11_runs 135 (.iload_n 3) 1 136 := ⟨by decide +kernel, rfl⟩
theorem dX11_runs_136 : gw_dc cX11_runs 136 (.iconst 2) 1 137 := ⟨by decide +kernel, rfl⟩
theorem dX11_runs_137 : gw_dc cX11_runs 137 (.invokevirtual 242) 3 140 := ⟨by decide +kernel, rfl⟩
theorem dX11_runs_140 : gw_dc cX11_runs 140 (.invokestatic 314) 3 143 := ⟨by decide +kernel, rfl⟩
theorem mm_RX11_314 : gw_mm RX11 314 Lib.Math.min.name Lib.Math.min.code := ⟨gw_mem 1774 (by decide +kernel) rfl, gw_mem 612 (by decide +kernel) rfl, gw_mem 116 (by decide +kernel) rfl, gw_mem 613 (by decide +kernel) rfl⟩
theorem dX11_runs_143 : gw_dc cX11_runs 143 (.istore_n 2) 1 144 := ⟨by decide +kernel, rfl⟩
theorem dX11_runs_84 : gw_dc cX11_runs 84 (.aload_n 0) 1 85 := ⟨by decide +kernel, rfl⟩
theorem dX11_runs_85 : gw_dc cX11_runs 85 (.getfield 51) 3 88 := ⟨by decide +kernel, rfl⟩
theorem dX11_runs_88 : gw_dc cX11_runs 88 (.iload_n 3) 1 89 := ⟨by decide +kernel, rfl⟩
theorem dX11_runs_89 : gw_dc cX11_runs 89 (.iaload) 1 90 := ⟨by decide +kernel, rfl⟩
theorem dX11_runs_90 : gw_dc cX11_runs 90 (.iload_n 1) 1 91 := ⟨by decide +kernel, rfl⟩
theorem dX11_runs_91 : gw_dc cX11_runs 91 (.if_icmp .le 14) 3 94 := ⟨by decide +kernel, rfl⟩
theorem dX11_runs_105 : gw_dc cX11_runs 105 (.iinc 3 1) 3 108 := ⟨by decide +kernel, rfl⟩
theorem dX11_runs_108 : gw_dc cX11_runs 108 (.goto (-32)) 3 111 := ⟨by decide +kernel, rfl⟩
theorem dX11_runs_94 : gw_dc cX11_runs 94 (.iload_n 2) 1 95 := ⟨by decide +kernel, rfl⟩
theorem dX11_runs_95 : gw_dc cX11_runs 95 (.aload_n 0) 1 96 := ⟨by decide +kernel, rfl⟩
theorem dX11_runs_96 : gw_dc cX11_runs 96 (.getfield 51) 3 99 := ⟨by decide +kernel, rfl⟩
theorem dX11_runs_99 : gw_dc cX11_runs 99 (.iload_n 3) 1 100 := ⟨by decide +kernel, rfl⟩
theorem dX11_runs_100 : gw_dc cX11_runs 100 (.iaload) 1 101 := ⟨by decide +kernel, rfl⟩
theorem dX11_runs_101 : gw_dc cX11_runs 101 (.invokestatic 314) 3 104 := ⟨by decide +kernel, rfl⟩
theorem dX11_runs_104 : gw_dc cX11_runs 104 (.istore_n 2) 1 105 := ⟨by decide +kernel, rfl⟩
theorem dX11_runs_31 : gw_dc cX11_runs 31 (.aload_n 0) 1 32 := ⟨by decide +kernel, rfl⟩
theorem dX11_runs_32 : gw_dc cX11_runs 32 (.getfield 51) 3 35 := ⟨by decide +kernel, rfl⟩
theorem dX11_runs_35 : gw_dc cX11_runs 35 (.iload_n 2) 1 36 := ⟨by decide +kernel, rfl⟩
theorem dX11_runs_36 : gw_dc cX11_runs 36 (.iaload) 1 37 := ⟨by decide +kernel, rfl⟩
theorem dX11_runs_37 : gw_dc cX11_runs 37 (.iload_n 1) 1 38 := ⟨by decide +kernel, rfl⟩
theorem dX11_runs_38 : gw_dc cX11_runs 38 (.if_icmp .gt 12) 3 41 := ⟨by decide +kernel, rfl⟩
theorem dX11_runs_50 : gw_dc cX11_runs 50 (.iconst (-1)) 1 51 := ⟨by decide +kernel, rfl⟩
theorem dX11_runs_51 : gw_dc cX11_runs 51 (.istore_n 3) 1 52 := ⟨by decide +kernel, rfl⟩
theorem dX11_runs_52 : gw_dc cX11_runs 52 (.iload_n 3) 1 53 := ⟨by decide +kernel, rfl⟩
theorem dX11_runs_53 : gw_dc cX11_runs 53 (.iconst (-1)) 1 54 := ⟨by decide +kernel, rfl⟩
theorem dX11_runs_54 : gw_dc cX11_runs 54 (.if_icmp .eq 10) 3 57 := ⟨by decide +kernel, rfl⟩
theorem dX11_runs_64 : gw_dc cX11_runs 64 (.iinc 2 1) 3 67 := ⟨by decide +kernel, rfl⟩
theorem dX11_runs_67 : gw_dc cX11_runs 67 (.goto (-44)) 3 70 := ⟨by decide +kernel, rfl⟩
theorem dX11_runs_57 : gw_dc cX11_runs 57 (.aload_n 0) 1 58 := ⟨by decide +kernel, rfl⟩
theorem dX11_runs_58 : gw_dc cX11_runs 58 (.iload_n 3) 1 59 := ⟨by decide +kernel, rfl⟩
theorem dX11_runs_59 : gw_dc cX11_runs 59 (.iload_n 2) 1 60 := ⟨by decide +kernel, rfl⟩
theorem dX11_runs_60 : gw_dc cX11_runs 60 (.iload_n 1) 1 61 := ⟨by decide +kernel, rfl⟩
theorem dX11_runs_61 : gw_dc cX11_runs 61 (.invokevirtual 311) 3 64 := ⟨by decide +kernel, rfl⟩
theorem mv_RX11_311 : gw_mv RX11 311 yX11_begins := ⟨gw_mem 1766 (by decide +kernel) rfl, gw_mem 1768 (by decide +kernel) rfl, gw_mem 72 (by decide +kernel) rfl⟩
theorem my_X11_begins : gw_my yX11_begins cX11_begins 6 none 3 := ⟨gw_mem 1769 (by decide +kernel) rfl, gw_mem 106 (by decide +kernel) rfl, by decide +kernel, by decide⟩
theorem dX11_runs_41 : gw_dc cX11_runs 41 (.aload_n 0) 1 42 := ⟨by decide +kernel, rfl⟩
theorem dX11_runs_42 : gw_dc cX11_runs 42 (.iload_n 1) 1 43 := ⟨by decide +kernel, rfl⟩
theorem dX11_runs_43 : gw_dc cX11_runs 43 (.iload_n 2) 1 44 := ⟨by decide +kernel, rfl⟩
theorem dX11_runs_44 : gw_dc cX11_runs 44 (.invokevirtual 308) 3 47 := ⟨by decide +kernel, rfl⟩
theorem mv_RX11_308 : gw_mv RX11 308 yX11_firstThere := ⟨gw_mem 1741 (by decide +kernel) rfl, gw_mem 1743 (by decide +kernel) rfl, gw_mem 66 (by decide +kernel) rfl⟩
theorem my_X11_firstThere : gw_my yX11_firstThere cX11_firstThere 5 (some .int) 2 := ⟨gw_mem 1744 (by decide +kernel) rfl, gw_mem 106 (by decide +kernel) rfl, by decide +kernel, by decide⟩
theorem dX11_runs_47 : gw_dc cX11_runs 47 (.goto 4) 3 50 := ⟨by decide +kernel, rfl⟩
/-! The model, 11: the run -/
theorem ft_rg (σ : Sg) (mi st : Int) (n : Nat) : itr n (ftS σ mi st) (-1) = -1 ∨ (0 ≤ itr n (ftS σ mi st) (-1) ∧ itr n (ftS σ mi st) (-1) < n) := by
  have h := itr_inv (fun (k : Nat) (c : Int) => c = -1 ∨ (0 ≤ c ∧ c < (k : Nat))) n (ftS σ mi st) (-1) (Or.inl rfl) (by
    intro k y hk hy
    rw [ftS]
    split
    · omega
    · split
      · omega
      · omega)
  exact h
theorem nRuR_d (n : Nat) {σ : Sg} (mi : Int) (h : ¬ σ 223 27 < σ 224 668) : nRuR n σ mi = σ := by
  cases n with
  | zero => rfl
  | succ n => rw [nRuR, if_neg h]
set_option maxRecDepth 4000 in
theorem s_X11_begins (ad : Nat → Nat) (σ : Sg)  (p : Int) (st : Int) (mi : Int) (hR : RS σ) (hp : 0 ≤ p ∧ p < σ 224 668) (hst : 0 ≤ st ∧ st < 3) (hb : 0 ≤ σ 223 27 ∧ σ 223 27 < 60) : gw_Sp yX11_begins cX11_begins 6 none 2 0 0 [vR (some 223), vI p, vI st, vI mi] (gw_M0 ad) σ (gw_D none (gw_M0 ad) (nBg σ p st mi)) gw_no := by
  refine gw_Sp.of [some (vR (some 223)), some (vI p), some (vI st), some (vI mi), none, none] (by decide +kernel) rfl (Nat.le_of_ble_eq_true rfl) ?_
  intro X G fx het hnm
  have hT := hR.1
  have hS := hT.sacks
  have hP := hT.p60
  have hs := hR.so hp.1 hp.2
  have hs1 := hT.of hs.1 hs.2
  have j44 : gw_W X (yX11_begins.cls, cX11_begins, 6, none, 2, 0, 0) G (gw_Z X G (gw_M0 ad) σ (gw_D none (gw_M0 ad) (nBg σ p st mi)) gw_no 0 0) 0 0 (gw_M0 ad) (σ) 44 [some (vR (some 223)), some (vI p), some (vI st), some (vI mi), some (vI (nOf σ (σ 231 p.toNat) 3)), none] [vI (vbC σ p st)] := by
    refine g_istore fx dX11_begins_44 (by decide) rfl rfl ?_
    refine g_aload_n fx dX11_begins_46 rfl ?_
    refine g_dup fx dX11_begins_47 rfl ?_
    refine g_geti fx dX11_begins_48 fk_RX11_289 (by decide) o_223 ?_
    refine g_iload fx dX11_begins_51 rfl ?_
    refine g_iadd fx dX11_begins_53 ?_
    refine g_puti fx dX11_begins_54 fk_RX11_289 o_223 ?_
    refine gw_cg (σ' := vb1 σ p st) rfl rfl ?_
    refine g_aload_n fx dX11_begins_57 rfl ?_
    refine g_getr fx dX11_begins_58 fk_RX11_54 o_223 rf_223_24 ?_
    refine g_iload_n fx dX11_begins_61 rfl ?_
    refine g_iload fx dX11_begins_62 rfl ?_
    refine g_iast fx dX11_begins_64 o_237 (by omega) (by show _ < ((3 : Nat) : Int); omega) ?_
    refine gw_cg (σ' := vb2 σ p st) rfl rfl ?_
    refine g_aload_n fx dX11_begins_65 rfl ?_
    refine g_getr fx dX11_begins_66 fk_RX11_60 o_223 rf_223_26 ?_
    refine g_iload_n fx dX11_begins_69 rfl ?_
    refine g_iload_n fx dX11_begins_70 rfl ?_
    refine g_iast fx dX11_begins_71 o_239 (by omega) (by show _ < ((60 : Nat) : Int); omega) ?_
    refine gw_cg (σ' := vb3 σ p st mi) rfl rfl ?_
    refine g_aload_n fx dX11_begins_72 rfl ?_
    refine g_getr fx dX11_begins_73 fk_RX11_39 o_223 rf_223_19 ?_
    refine g_iload_n fx dX11_begins_76 rfl ?_
    refine g_iload_n fx dX11_begins_77 rfl ?_
    refine g_iload fx dX11_begins_78 rfl ?_
    refine g_iadd fx dX11_begins_80 ?_
    refine g_iast fx dX11_begins_81 o_232 (by omega) (by show _ < ((60 : Nat) : Int); omega) ?_
    refine gw_cg (σ' := vb4 σ p st mi) rfl rfl ?_
    refine g_aload_n fx dX11_begins_82 rfl ?_
    refine g_getr fx dX11_begins_83 fk_RX11_42 o_223 rf_223_20 ?_
    refine g_iload_n fx dX11_begins_86 rfl ?_
    refine g_aload_n fx dX11_begins_87 rfl ?_
    refine g_getr fx dX11_begins_88 fk_RX11_39 o_223 rf_223_19 ?_
    refine g_iload_n fx dX11_begins_91 rfl ?_
    refine g_iald fx dX11_begins_92 o_232 (by omega) (by show _ < ((60 : Nat) : Int); omega) ?_
    refine gw_cgt rfl (show vb4 σ p st mi 232 p.toNat = vbG σ p st mi from su_same _ _ _ _) ?_
    refine g_aload_n fx dX11_begins_93 rfl ?_
    refine g_iload_n fx dX11_begins_94 rfl ?_
    refine g_callVD fx dX11_begins_95 mv_RX11_295 my_X11_pace (s_X11_pace ad _ _ (by omega)) o_223 rfl rfl rfl (Nat.le_of_ble_eq_true rfl) (by decide) (by decide) ?_
    refine gw_cgt rfl (show nPa (vb4 σ p st mi) st = nPa σ st from rfl) ?_
    refine g_aload_n fx dX11_begins_98 rfl ?_
    refine g_iload_n fx dX11_begins_99 rfl ?_
    refine g_callVD fx dX11_begins_100 mv_RX11_273 my_X11_pounds (s_X11_pounds ad _ _ (by omega)) o_223 rfl rfl rfl (Nat.le_of_ble_eq_true rfl) (by decide) (by decide) ?_
    refine gw_cgt rfl (show nPo (vb4 σ p st mi) p = nPo σ p from rfl) ?_
    refine g_imul fx dX11_begins_103 ?_
    refine g_iadd fx dX11_begins_104 ?_
    refine g_iast fx dX11_begins_105 o_233 (by omega) (by show _ < ((60 : Nat) : Int); omega) ?_
    refine gw_cg (σ' := vb5 σ p st mi) rfl rfl ?_
    refine g_aload_n fx dX11_begins_106 rfl ?_
    refine g_getr fx dX11_begins_107 fk_RX11_45 o_223 rf_223_21 ?_
    refine g_iload_n fx dX11_begins_110 rfl ?_
    refine g_iload_n fx dX11_begins_111 rfl ?_
    refine g_iast fx dX11_begins_112 o_234 (by omega) (by show _ < ((60 : Nat) : Int); omega) ?_
    refine gw_cg (σ' := vb6 σ p st mi) rfl rfl ?_
    refine g_aload_n fx dX11_begins_113 rfl ?_
    refine g_getr fx dX11_begins_114 fk_RX11_51 o_223 rf_223_23 ?_
    refine g_iload_n fx dX11_begins_117 rfl ?_
    refine g_aload_n fx dX11_begins_118 rfl ?_
    refine g_getr fx dX11_begins_119 fk_RX11_42 o_223 rf_223_20 ?_
    refine g_iload_n fx dX11_begins_122 rfl ?_
    refine g_iald fx dX11_begins_123 o_233 (by omega) (by show _ < ((60 : Nat) : Int); omega) ?_
    refine gw_cgt rfl (show vb6 σ p st mi 233 p.toNat = vbD σ p st mi from (by rw [vb6, su_ne _ _ (Or.inl (by decide)), vb5, su_same])) ?_
    refine g_iast fx dX11_begins_124 o_236 (by omega) (by show _ < ((3 : Nat) : Int); omega) ?_
    refine gw_cg (σ' := vb7 σ p st mi) rfl rfl ?_
    refine g_aload_n fx dX11_begins_125 rfl ?_
    refine g_getr fx dX11_begins_126 fk_RX11_57 o_223 rf_223_25 ?_
    refine g_aload_n fx dX11_begins_129 rfl ?_
    refine g_aload_n fx dX11_begins_130 rfl ?_
    refine g_getr fx dX11_begins_131 fk_RX11_36 o_223 rf_223_18 ?_
    refine g_iload_n fx dX11_begins_134 rfl ?_
    refine g_iald fx dX11_begins_135 o_231 (by omega) (by show _ < ((60 : Nat) : Int); omega) ?_
    refine gw_cgt rfl (show vb7 σ p st mi 231 p.toNat = σ 231 p.toNat from rfl) ?_
    refine g_iconst fx dX11_begins_136 (by unfold okI; omega) ?_
    refine g_callVD fx dX11_begins_137 mv_RX11_242 my_X11_of (s_X11_of ad _ _ _ (by omega)) o_223 rfl rfl rfl (Nat.le_of_ble_eq_true rfl) (by decide) (by decide) ?_
    refine gw_cgt rfl (show nOf (vb7 σ p st mi) (σ 231 p.toNat) 1 = nOf σ (σ 231 p.toNat) 1 from rfl) ?_
    refine g_dup2 fx dX11_begins_140 rfl rfl ?_
    refine g_iald fx dX11_begins_141 o_238 (by omega) (by show _ < ((8 : Nat) : Int); omega) ?_
    refine gw_cgt rfl (show vb7 σ p st mi 238 (nOf σ (σ 231 p.toNat) 1).toNat = σ 238 (nOf σ (σ 231 p.toNat) 1).toNat from rfl) ?_
    refine g_iconst fx dX11_begins_142 (by unfold okI; omega) ?_
    refine g_iadd fx dX11_begins_143 ?_
    refine g_iast fx dX11_begins_144 o_238 (by omega) (by show _ < ((8 : Nat) : Int); omega) ?_
    refine gw_cg (σ' := vb8 σ p st mi) rfl rfl ?_
    refine g_aload_n fx dX11_begins_145 rfl ?_
    refine g_getr fx dX11_begins_146 fk_RX11_48 o_223 rf_223_22 ?_
    refine g_aload_n fx dX11_begins_149 rfl ?_
    refine g_geti fx dX11_begins_150 fk_RX11_286 (by decide) o_223 ?_
    refine gw_cgt rfl (show vb8 σ p st mi 223 27 = σ 223 27 from rfl) ?_
    refine g_iload_n fx dX11_begins_153 rfl ?_
    refine g_iast fx dX11_begins_154 o_235 (by omega) (by show _ < ((60 : Nat) : Int); omega) ?_
    refine gw_cg (σ' := vb9 σ p st mi) rfl rfl ?_
    refine g_aload_n fx dX11_begins_155 rfl ?_
    refine g_dup fx dX11_begins_156 rfl ?_
    refine g_geti fx dX11_begins_157 fk_RX11_286 (by decide) o_223 ?_
    refine gw_cgt rfl (show vb9 σ p st mi 223 27 = σ 223 27 from rfl) ?_
    refine g_iconst fx dX11_begins_160 (by unfold okI; omega) ?_
    refine g_iadd fx dX11_begins_161 ?_
    refine g_puti fx dX11_begins_162 fk_RX11_286 o_223 ?_
    exact g_vret fx rfl dX11_begins_165 (by decide) (by decide) (gw_le.rf _) ⟨rfl, rfl, rfl⟩
  refine g_aload_n fx dX11_begins_0 rfl ?_
  refine g_aload_n fx dX11_begins_1 rfl ?_
  refine g_getr fx dX11_begins_2 fk_RX11_36 o_223 rf_223_18 ?_
  refine g_iload_n fx dX11_begins_5 rfl ?_
  refine g_iald fx dX11_begins_6 o_231 (by omega) (by show _ < ((60 : Nat) : Int); omega) ?_
  refine g_iconst fx dX11_begins_7 (by unfold okI; omega) ?_
  refine g_callVD fx dX11_begins_8 mv_RX11_242 my_X11_of (s_X11_of ad _ _ _ (by omega)) o_223 rfl rfl rfl (Nat.le_of_ble_eq_true rfl) (by decide) (by decide) ?_
  refine g_istore fx dX11_begins_11 (by decide) rfl rfl ?_
  refine g_aload_n fx dX11_begins_13 rfl ?_
  refine g_getr fx dX11_begins_14 fk_RX11_54 o_223 rf_223_24 ?_
  refine g_iload_n fx dX11_begins_17 rfl ?_
  refine g_iald fx dX11_begins_18 o_237 (by omega) (by show _ < ((3 : Nat) : Int); omega) ?_
  refine g_iconst fx dX11_begins_19 (by unfold okI; omega) ?_
  refine g_icmp_eq (tgt := 43) fx dX11_begins_20 (by decide) (fun h20 => ?_) (fun h20 => ?_)
  · refine g_iconst fx dX11_begins_43 (by unfold okI; omega) ?_
    exact gw_cgt rfl (by rw [vbC]; (repeat first | rw [if_pos (by omega)] | rw [if_neg (by omega)]) <;> rfl) j44
  · refine g_aload_n fx dX11_begins_23 rfl ?_
    refine g_getr fx dX11_begins_24 fk_RX11_54 o_223 rf_223_24 ?_
    refine g_iload_n fx dX11_begins_27 rfl ?_
    refine g_iald fx dX11_begins_28 o_237 (by omega) (by show _ < ((3 : Nat) : Int); omega) ?_
    refine g_iload fx dX11_begins_29 rfl ?_
    refine g_icmp_eq (tgt := 43) fx dX11_begins_31 (by decide) (fun h31 => ?_) (fun h31 => ?_)
    · refine g_iconst fx dX11_begins_43 (by unfold okI; omega) ?_
      exact gw_cgt rfl (by rw [vbC]; (repeat first | rw [if_pos (by omega)] | rw [if_neg (by omega)]) <;> rfl) j44
    · refine g_aload_n fx dX11_begins_34 rfl ?_
      refine g_getr fx dX11_begins_35 fk_RX11_9 o_223 rf_223_0 ?_
      refine g_iconst fx dX11_begins_38 (by unfold okI; omega) ?_
      refine g_iald fx dX11_begins_39 o_224 (by decide) (by decide) ?_
      rw [show Int.toNat 2 = 2 from rfl]
      refine g_goto (tgt := 44) fx dX11_begins_40 (by decide) ?_
      exact gw_cgt rfl (by rw [vbC]; (repeat first | rw [if_pos (by omega)] | rw [if_neg (by omega)]) <;> rfl) j44
set_option maxRecDepth 4000 in
theorem s_X11_firstThere (ad : Nat → Nat) (σ : Sg)  (mi : Int) (st : Int) (hR : RS σ) (hst : 0 ≤ st ∧ st < 3) : gw_Sp yX11_firstThere cX11_firstThere 5 (some .int) 5 0 0 [vR (some 223), vI mi, vI st] (gw_M0 ad) σ (gw_D (some (vI (nFt σ mi st))) (gw_M0 ad) (σ)) gw_no := by
  refine gw_Sp.of [some (vR (some 223)), some (vI mi), some (vI st), none, none] (by decide +kernel) rfl (Nat.le_of_ble_eq_true rfl) ?_
  intro X G fx het hnm
  have hT := hR.1
  have hS := hT.sacks
  have hP := hT.p60
  refine g_iconst fx dX11_firstThere_0 (by unfold okI; omega) ?_
  refine g_istore_n fx dX11_firstThere_1 (by decide) rfl rfl ?_
  refine g_iconst fx dX11_firstThere_2 (by unfold okI; omega) ?_
  refine g_istore fx dX11_firstThere_3 (by decide) rfl rfl ?_
  have loop5 : ∀ i : Nat, i ≤ (σ 224 668).toNat → gw_W X (yX11_firstThere.cls, cX11_firstThere, 5, (some .int), 5, 0, 0) G (gw_Z X G (gw_M0 ad) σ (gw_D (some (vI (nFt σ mi st))) (gw_M0 ad) (σ)) gw_no 0 0) 0 0 (gw_M0 ad) (σ) 5 [some (vR (some 223)), some (vI mi), some (vI st), some (vI (itr i (ftS σ mi st) (-1))), some (vI (i : Nat))] [] := by
    refine up_ind _ ((σ 224 668).toNat) (fun i hi ih => ?_)
    have hc := ft_rg σ mi st i
    refine g_iload fx dX11_firstThere_5 rfl ?_
    refine g_aload_n fx dX11_firstThere_7 rfl ?_
    refine g_getr fx dX11_firstThere_8 fk_RX11_9 o_223 rf_223_0 ?_
    refine g_sipush fx dX11_firstThere_11 (by decide) ?_
    refine g_iald fx dX11_firstThere_14 o_224 (by decide) (by decide) ?_
    rw [show Int.toNat 668 = 668 from rfl]
    refine g_icmp_ge (tgt := 78) fx dX11_firstThere_15 (by decide) (fun h15 => ?_) (fun h15 => ?_)
    · refine g_iload_n fx dX11_firstThere_78 rfl ?_
      exact g_iret fx rfl dX11_firstThere_79 (by decide) (by decide) (gw_le.rf _) ⟨by rw [nFt, show (σ 224 668).toNat = i by omega], rfl, rfl⟩
    · have hsi := hR.2 i (by omega)
      refine g_aload_n fx dX11_firstThere_18 rfl ?_
      refine g_getr fx dX11_firstThere_19 fk_RX11_39 o_223 rf_223_19 ?_
      refine g_iload fx dX11_firstThere_22 rfl ?_
      refine g_iald fx dX11_firstThere_24 o_232 (by omega) (by show _ < ((60 : Nat) : Int); omega) ?_
      rw [show ((i : Nat) : Int).toNat = i from rfl]
      refine g_iconst fx dX11_firstThere_25 (by unfold okI; omega) ?_
      refine g_icmp_ne (tgt := 72) fx dX11_firstThere_26 (by decide) (fun h26 => ?_) (fun h26 => ?_)
      · refine g_iinc1 fx dX11_firstThere_72 (by decide) rfl rfl (by unfold okI; omega) rfl ?_
        refine g_goto (tgt := 5) fx dX11_firstThere_75 (by decide) ?_
        exact gw_cg rfl (by rw [itr_s, ftS, show ((i : Nat) : Int) + 1 = ((i + 1 : Nat) : Int) by omega]; (repeat first | rw [if_pos (by omega)] | rw [if_neg (by omega)]) <;> rfl) (ih (by omega))
      · refine g_aload_n fx dX11_firstThere_29 rfl ?_
        refine g_aload_n fx dX11_firstThere_30 rfl ?_
        refine g_getr fx dX11_firstThere_31 fk_RX11_36 o_223 rf_223_18 ?_
        refine g_iload fx dX11_firstThere_34 rfl ?_
        refine g_iald fx dX11_firstThere_36 o_231 (by omega) (by show _ < ((60 : Nat) : Int); omega) ?_
        rw [show ((i : Nat) : Int).toNat = i from rfl]
        refine g_iconst fx dX11_firstThere_37 (by unfold okI; omega) ?_
        refine g_callVD fx dX11_firstThere_38 mv_RX11_242 my_X11_of (s_X11_of ad _ _ _ (by omega)) o_223 rfl rfl rfl (Nat.le_of_ble_eq_true rfl) (by decide) (by decide) ?_
        refine g_iload_n fx dX11_firstThere_41 rfl ?_
        refine g_icmp_le (tgt := 48) fx dX11_firstThere_42 (by decide) (fun h42 => ?_) (fun h42 => ?_)
        · refine g_iload_n fx dX11_firstThere_48 rfl ?_
          refine g_iconst fx dX11_firstThere_49 (by unfold okI; omega) ?_
          refine g_icmp_eq (tgt := 69) fx dX11_firstThere_50 (by decide) (fun h50 => ?_) (fun h50 => ?_)
          · refine g_iload fx dX11_firstThere_69 rfl ?_
            refine g_istore_n fx dX11_firstThere_71 (by decide) rfl rfl ?_
            refine g_iinc1 fx dX11_firstThere_72 (by decide) rfl rfl (by unfold okI; omega) rfl ?_
            refine g_goto (tgt := 5) fx dX11_firstThere_75 (by decide) ?_
            exact gw_cg rfl (by rw [itr_s, ftS, show ((i : Nat) : Int) + 1 = ((i + 1 : Nat) : Int) by omega]; (repeat first | rw [if_pos (by omega)] | rw [if_neg (by omega)]) <;> rfl) (ih (by omega))
          · refine g_aload_n fx dX11_firstThere_53 rfl ?_
            refine g_iload fx dX11_firstThere_54 rfl ?_
            refine g_iload_n fx dX11_firstThere_56 rfl ?_
            refine g_aload_n fx dX11_firstThere_57 rfl ?_
            refine g_getr fx dX11_firstThere_58 fk_RX11_54 o_223 rf_223_24 ?_
            refine g_iload_n fx dX11_firstThere_61 rfl ?_
            refine g_iald fx dX11_firstThere_62 o_237 (by omega) (by show _ < ((3 : Nat) : Int); omega) ?_
            refine g_callVD fx dX11_firstThere_63 mv_RX11_298 my_X11_isAhead (s_X11_isAhead ad _ _ _ _ hR (by omega) (by omega)) o_223 rfl rfl rfl (Nat.le_of_ble_eq_true rfl) (by decide) (by decide) ?_
            refine g_if_eq (tgt := 72) fx dX11_firstThere_66 (by decide) (fun h66 => ?_) (fun h66 => ?_)
            · refine g_iinc1 fx dX11_firstThere_72 (by decide) rfl rfl (by unfold okI; omega) rfl ?_
              refine g_goto (tgt := 5) fx dX11_firstThere_75 (by decide) ?_
              exact gw_cg rfl (by rw [itr_s, ftS, show ((i : Nat) : Int) + 1 = ((i + 1 : Nat) : Int) by omega]; (repeat first | rw [if_pos (by omega)] | rw [if_neg (by omega)]) <;> rfl) (ih (by omega))
            · refine g_iload fx dX11_firstThere_69 rfl ?_
              refine g_istore_n fx dX11_firstThere_71 (by decide) rfl rfl ?_
              refine g_iinc1 fx dX11_firstThere_72 (by decide) rfl rfl (by unfold okI; omega) rfl ?_
              refine g_goto (tgt := 5) fx dX11_firstThere_75 (by decide) ?_
              exact gw_cg rfl (by rw [itr_s, ftS, show ((i : Nat) : Int) + 1 = ((i + 1 : Nat) : Int) by omega]; (repeat first | rw [if_pos (by omega)] | rw [if_neg (by omega)]) <;> rfl) (ih (by omega))
        · refine g_goto (tgt := 72) fx dX11_firstThere_45 (by decide) ?_
          refine g_iinc1 fx dX11_firstThere_72 (by decide) rfl rfl (by unfold okI; omega) rfl ?_
          refine g_goto (tgt := 5) fx dX11_firstThere_75 (by decide) ?_
          exact gw_cg rfl (by rw [itr_s, ftS, show ((i : Nat) : Int) + 1 = ((i + 1 : Nat) : Int) by omega]; (repeat first | rw [if_pos (by omega)] | rw [if_neg (by omega)]) <;> rfl) (ih (by omega))
  exact loop5 0 (Nat.zero_le _)
set_option maxRecDepth 4000 in
theorem s_X11_runs (ad : Nat → Nat) (σ : Sg)  (hT : TW (σ 224)) : gw_Sp yX11_runs cX11_runs 4 none 6 0 0 [vR (some 223)] (gw_M0 ad) σ (gw_D none (gw_M0 ad) (nRu σ)) gw_no := by
  refine gw_Sp.of [some (vR (some 223)), none, none, none] (by decide +kernel) rfl (Nat.le_of_ble_eq_true rfl) ?_
  intro X G fx het hnm
  refine g_aload_n fx dX11_runs_0 rfl ?_
  refine g_callVD0 fx dX11_runs_1 mv_RX11_302 my_X11_forgets (s_X11_forgets ad _ hT) o_223 rfl rfl rfl (Nat.le_of_ble_eq_true rfl) (by decide) (by decide) ?_
  refine g_iconst fx dX11_runs_4 (by unfold okI; omega) ?_
  refine g_istore_n fx dX11_runs_5 (by decide) rfl rfl ?_
  have loop6 : ∀ n : Nat, ∀ (x : Sg) (mi : Int), RI x → (x 223 27 < x 224 668 → RT x mi ∧ 58000 - mi < ((n : Nat) : Int)) → nRu σ = nRuR n x mi → gw_W X (yX11_runs.cls, cX11_runs, 4, none, 6, 0, 0) G (gw_Z X G (gw_M0 ad) σ (gw_D none (gw_M0 ad) (nRu σ)) gw_no 0 0) 0 0 (gw_M0 ad) (x) 6 [some (vR (some 223)), some (vI mi), none, none] [] := by
    refine dn_ind _ (fun n ih6 => ?_)
    intro x mi hI hT6 he
    have hS := hI.1.1.sacks
    have hst := hI.1.1.stones
    have hP := hI.1.1.p60
    have hbb := hI.b
    refine g_aload_n fx dX11_runs_6 rfl ?_
    refine g_geti fx dX11_runs_7 fk_RX11_286 (by decide) o_223 ?_
    refine g_aload_n fx dX11_runs_10 rfl ?_
    refine g_getr fx dX11_runs_11 fk_RX11_9 o_223 rf_223_0 ?_
    refine g_sipush fx dX11_runs_14 (by decide) ?_
    refine g_iald fx dX11_runs_17 o_224 (by decide) (by decide) ?_
    rw [show Int.toNat 668 = 668 from rfl]
    refine g_icmp_ge (tgt := 155) fx dX11_runs_18 (by decide) (fun h18 => ?_) (fun h18 => ?_)
    · exact g_vret fx rfl dX11_runs_155 (by decide) (by decide) (gw_le.rf _) ⟨rfl, rfl, by rw [he]; exact (nRuR_d n mi (by omega)).symm⟩
    · obtain ⟨hRT, hmn⟩ := hT6 (by omega)
      obtain ⟨m, rfl⟩ : ∃ m, n = m + 1 := ⟨n - 1, by have := hRT.1; omega⟩
      have ih6 := ih6 m rfl
      obtain ⟨s1, s2, s3, s4⟩ := run_step hI hRT
      rw [nRuR, if_pos (by omega)] at he
      refine g_iconst fx dX11_runs_21 (by unfold okI; omega) ?_
      refine g_istore_n fx dX11_runs_22 (by decide) rfl rfl ?_
      have loop23 : ∀ k : Nat, k ≤ (max 1 (x 224 1)).toNat → gw_W X (yX11_runs.cls, cX11_runs, 4, none, 6, 0, 0) G (gw_Z X G (gw_M0 ad) σ (gw_D none (gw_M0 ad) (nRu σ)) gw_no 0 0) 0 0 (gw_M0 ad) ((itr k (rnS mi) x)) 23 [some (vR (some 223)), some (vI mi), some (vI (k : Nat)), none] [] := by
        refine up_ind _ ((max 1 (x 224 1)).toNat) (fun k hk ih => ?_)
        obtain ⟨⟨i1, i2, i3, i4⟩, i5⟩ := nSl_inv hI hRT k hk
        refine g_iload_n fx dX11_runs_23 rfl ?_
        refine g_aload_n fx dX11_runs_24 rfl ?_
        refine g_callVD fx dX11_runs_25 mv_RX11_305 my_X11_stones (s_X11_stones ad _ ) o_223 rfl rfl rfl (Nat.le_of_ble_eq_true rfl) (by decide) (by decide) ?_
        refine gw_cgt rfl (show max 1 ((itr k (rnS mi) x) 224 1) = max 1 (x 224 1) by rw [i3]) ?_
        refine g_icmp_ge (tgt := 70) fx dX11_runs_28 (by decide) (fun h28 => ?_) (fun h28 => ?_)
        · have hk9 : (itr k (rnS mi) x) = nSl x mi := by rw [nSl, show (max 1 (x 224 1)).toNat = k by omega]
          refine gw_cg hk9 rfl ?_
          have hS2 := s1.1.1.sacks
          have hst2 := s1.1.1.stones
          refine g_ldcWI fx dX11_runs_70 kc_RX11_276 (by unfold okI; omega) ?_
          refine g_istore_n fx dX11_runs_73 (by decide) rfl rfl ?_
          refine g_iconst fx dX11_runs_74 (by unfold okI; omega) ?_
          refine g_istore_n fx dX11_runs_75 (by decide) rfl rfl ?_
          have loop76 : ∀ k : Nat, k ≤ (max 1 (nSl x mi 224 1)).toNat → gw_W X (yX11_runs.cls, cX11_runs, 4, none, 6, 0, 0) G (gw_Z X G (gw_M0 ad) σ (gw_D none (gw_M0 ad) (nRu σ)) gw_no 0 0) 0 0 (gw_M0 ad) ((nSl x mi)) 76 [some (vR (some 223)), some (vI mi), some (vI (itr k (nxA (nSl x mi) mi) 1000000)), some (vI (k : Nat))] [] := by
            refine up_ind _ ((max 1 (nSl x mi 224 1)).toNat) (fun k hk ih => ?_)
            refine g_iload_n fx dX11_runs_76 rfl ?_
            refine g_aload_n fx dX11_runs_77 rfl ?_
            refine g_callVD fx dX11_runs_78 mv_RX11_305 my_X11_stones (s_X11_stones ad _ ) o_223 rfl rfl rfl (Nat.le_of_ble_eq_true rfl) (by decide) (by decide) ?_
            refine g_icmp_ge (tgt := 111) fx dX11_runs_81 (by decide) (fun h81 => ?_) (fun h81 => ?_)
            · refine g_iconst fx dX11_runs_111 (by unfold okI; omega) ?_
              refine g_istore_n fx dX11_runs_112 (by decide) rfl rfl ?_
              have loop113 : ∀ s : Nat, s ≤ (nSl x mi 224 4).toNat → gw_W X (yX11_runs.cls, cX11_runs, 4, none, 6, 0, 0) G (gw_Z X G (gw_M0 ad) σ (gw_D none (gw_M0 ad) (nRu σ)) gw_no 0 0) 0 0 (gw_M0 ad) ((nSl x mi)) 113 [some (vR (some 223)), some (vI mi), some (vI (itr s (nxB (nSl x mi) mi) (nxC (nSl x mi) mi))), some (vI (s : Nat))] [] := by
                refine up_ind _ ((nSl x mi 224 4).toNat) (fun s hs ih => ?_)
                refine g_iload_n fx dX11_runs_113 rfl ?_
                refine g_aload_n fx dX11_runs_114 rfl ?_
                refine g_getr fx dX11_runs_115 fk_RX11_9 o_223 rf_223_0 ?_
                refine g_iconst fx dX11_runs_118 (by unfold okI; omega) ?_
                refine g_iald fx dX11_runs_119 o_224 (by decide) (by decide) ?_
                rw [show Int.toNat 4 = 4 from rfl]
                refine g_icmp_ge (tgt := 150) fx dX11_runs_120 (by decide) (fun h120 => ?_) (fun h120 => ?_)
                · refine g_iload_n fx dX11_runs_150 rfl ?_
                  refine g_istore_n fx dX11_runs_151 (by decide) rfl rfl ?_
                  refine g_goto (tgt := 6) fx dX11_runs_152 (by decide) ?_
                  refine g_kill 2 rfl (g_kill 3 rfl ?_)
                  have h9 : itr s (nxB (nSl x mi) mi) (nxC (nSl x mi) mi) = nNx (nSl x mi) mi := by rw [nNx, show (nSl x mi 224 4).toNat = s by omega]
                  exact gw_cg rfl (by rw [h9] <;> rfl) (ih6 (nSl x mi) (nNx (nSl x mi) mi) s1 (fun q2 => ⟨(s4 q2).2, by have := (s4 q2).1; omega⟩) he)
                · refine g_aload_n fx dX11_runs_123 rfl ?_
                  refine g_iload_n fx dX11_runs_124 rfl ?_
                  refine g_iconst fx dX11_runs_125 (by unfold okI; omega) ?_
                  refine g_callVD fx dX11_runs_126 mv_RX11_242 my_X11_of (s_X11_of ad _ _ _ (by omega)) o_223 rfl rfl rfl (Nat.le_of_ble_eq_true rfl) (by decide) (by decide) ?_
                  refine g_iload_n fx dX11_runs_129 rfl ?_
                  refine g_icmp_le (tgt := 144) fx dX11_runs_130 (by decide) (fun h130 => ?_) (fun h130 => ?_)
                  · refine g_iinc1 fx dX11_runs_144 (by decide) rfl rfl (by unfold okI; omega) rfl ?_
                    refine g_goto (tgt := 113) fx dX11_runs_147 (by decide) ?_
                    exact gw_cg rfl (by rw [itr_s, nxB, show ((s : Nat) : Int) + 1 = ((s + 1 : Nat) : Int) by omega]; (repeat first | rw [if_pos (by omega)] | rw [if_neg (by omega)]) <;> rfl) (ih (by omega))
                  · refine g_iload_n fx dX11_runs_133 rfl ?_
                    refine g_aload_n fx dX11_runs_134 rfl ?_
                    refine g_iload_n fx dX11_runs_135 rfl ?_
                    refine g_iconst fx dX11_runs_136 (by unfold okI; omega) ?_
                    refine g_callVD fx dX11_runs_137 mv_RX11_242 my_X11_of (s_X11_of ad _ _ _ (by omega)) o_223 rfl rfl rfl (Nat.le_of_ble_eq_true rfl) (by decide) (by decide) ?_
                    refine g_min fx dX11_runs_140 mm_RX11_314 (by decide) (by decide) (by decide) (Nat.le_of_ble_eq_true rfl) ?_
                    refine g_istore_n fx dX11_runs_143 (by decide) rfl rfl ?_
                    refine g_iinc1 fx dX11_runs_144 (by decide) rfl rfl (by unfold okI; omega) rfl ?_
                    refine g_goto (tgt := 113) fx dX11_runs_147 (by decide) ?_
                    exact gw_cg rfl (by rw [itr_s, nxB, show ((s : Nat) : Int) + 1 = ((s + 1 : Nat) : Int) by omega]; (repeat first | rw [if_pos (by omega)] | rw [if_neg (by omega)]) <;> rfl) (ih (by omega))
              exact gw_cg rfl (by rw [nxC, show (max 1 (nSl x mi 224 1)).toNat = k by omega]; rfl) (loop113 0 (Nat.zero_le _))
            · refine g_aload_n fx dX11_runs_84 rfl ?_
              refine g_getr fx dX11_runs_85 fk_RX11_51 o_223 rf_223_23 ?_
              refine g_iload_n fx dX11_runs_88 rfl ?_
              refine g_iald fx dX11_runs_89 o_236 (by omega) (by show _ < ((3 : Nat) : Int); omega) ?_
              rw [show ((k : Nat) : Int).toNat = k from rfl]
              refine g_iload_n fx dX11_runs_90 rfl ?_
              refine g_icmp_le (tgt := 105) fx dX11_runs_91 (by decide) (fun h91 => ?_) (fun h91 => ?_)
              · refine g_iinc1 fx dX11_runs_105 (by decide) rfl rfl (by unfold okI; omega) rfl ?_
                refine g_goto (tgt := 76) fx dX11_runs_108 (by decide) ?_
                exact gw_cg rfl (by rw [itr_s, nxA, show ((k : Nat) : Int) + 1 = ((k + 1 : Nat) : Int) by omega]; (repeat first | rw [if_pos (by omega)] | rw [if_neg (by omega)]) <;> rfl) (ih (by omega))
              · refine g_iload_n fx dX11_runs_94 rfl ?_
                refine g_aload_n fx dX11_runs_95 rfl ?_
                refine g_getr fx dX11_runs_96 fk_RX11_51 o_223 rf_223_23 ?_
                refine g_iload_n fx dX11_runs_99 rfl ?_
                refine g_iald fx dX11_runs_100 o_236 (by omega) (by show _ < ((3 : Nat) : Int); omega) ?_
                rw [show ((k : Nat) : Int).toNat = k from rfl]
                refine g_min fx dX11_runs_101 mm_RX11_314 (by decide) (by decide) (by decide) (Nat.le_of_ble_eq_true rfl) ?_
                refine g_istore_n fx dX11_runs_104 (by decide) rfl rfl ?_
                refine g_iinc1 fx dX11_runs_105 (by decide) rfl rfl (by unfold okI; omega) rfl ?_
                refine g_goto (tgt := 76) fx dX11_runs_108 (by decide) ?_
                exact gw_cg rfl (by rw [itr_s, nxA, show ((k : Nat) : Int) + 1 = ((k + 1 : Nat) : Int) by omega]; (repeat first | rw [if_pos (by omega)] | rw [if_neg (by omega)]) <;> rfl) (ih (by omega))
          exact loop76 0 (Nat.zero_le _)
        · refine g_aload_n fx dX11_runs_31 rfl ?_
          refine g_getr fx dX11_runs_32 fk_RX11_51 o_223 rf_223_23 ?_
          refine g_iload_n fx dX11_runs_35 rfl ?_
          refine g_iald fx dX11_runs_36 o_236 (by omega) (by show _ < ((3 : Nat) : Int); omega) ?_
          rw [show ((k : Nat) : Int).toNat = k from rfl]
          refine g_iload_n fx dX11_runs_37 rfl ?_
          refine g_icmp_gt (tgt := 50) fx dX11_runs_38 (by decide) (fun h38 => ?_) (fun h38 => ?_)
          · refine g_iconst fx dX11_runs_50 (by unfold okI; omega) ?_
            refine g_istore_n fx dX11_runs_51 (by decide) rfl rfl ?_
            refine g_iload_n fx dX11_runs_52 rfl ?_
            refine g_iconst fx dX11_runs_53 (by unfold okI; omega) ?_
            refine g_icmp_eq (tgt := 64) fx dX11_runs_54 (by decide) (fun h54 => ?_) (fun h54 => ?_)
            · refine g_iinc1 fx dX11_runs_64 (by decide) rfl rfl (by unfold okI; omega) rfl ?_
              refine g_goto (tgt := 23) fx dX11_runs_67 (by decide) ?_
              refine g_kill 3 rfl ?_
              first
              | (exfalso; omega)
              | exact gw_cg (by rw [itr_s, rnS]; (repeat first | rw [if_pos (by omega)] | rw [if_neg (by omega)]) <;> rfl) (by rw [show ((k : Nat) : Int) + 1 = ((k + 1 : Nat) : Int) by omega] <;> rfl) (ih (by omega))
            · have hf : 0 ≤ nFt (itr k (rnS mi) x) mi ((k : Nat) : Int) ∧ nFt (itr k (rnS mi) x) mi ((k : Nat) : Int) < (itr k (rnS mi) x) 224 668 ∧ (itr k (rnS mi) x) 232 (nFt (itr k (rnS mi) x) mi ((k : Nat) : Int)).toNat = -1 ∧ nOf (itr k (rnS mi) x) ((itr k (rnS mi) x) 231 (nFt (itr k (rnS mi) x) mi ((k : Nat) : Int)).toNat) 2 ≤ mi := by
                rcases nFt_rg (itr k (rnS mi) x) mi ((k : Nat) : Int) with q | q
                · exfalso; omega
                · exact q
              have hlt := i1.lt hf.1 hf.2.1 hf.2.2.1
              have hb2 := i1.b
              have hP2 := i1.1.1.p60
              refine g_aload_n fx dX11_runs_57 rfl ?_
              refine g_iload_n fx dX11_runs_58 rfl ?_
              refine g_iload_n fx dX11_runs_59 rfl ?_
              refine g_iload_n fx dX11_runs_60 rfl ?_
              refine g_callVD0 fx dX11_runs_61 mv_RX11_311 my_X11_begins (s_X11_begins ad _ _ _ _ i1.1 (by omega) (by omega) (by omega)) o_223 rfl rfl rfl (Nat.le_of_ble_eq_true rfl) (by decide) (by decide) ?_
              refine g_iinc1 fx dX11_runs_64 (by decide) rfl rfl (by unfold okI; omega) rfl ?_
              refine g_goto (tgt := 23) fx dX11_runs_67 (by decide) ?_
              refine g_kill 3 rfl ?_
              first
              | (exfalso; omega)
              | exact gw_cg (by rw [itr_s, rnS]; (repeat first | rw [if_pos (by omega)] | rw [if_neg (by omega)]) <;> rfl) (by rw [show ((k : Nat) : Int) + 1 = ((k + 1 : Nat) : Int) by omega] <;> rfl) (ih (by omega))
          · refine g_aload_n fx dX11_runs_41 rfl ?_
            refine g_iload_n fx dX11_runs_42 rfl ?_
            refine g_iload_n fx dX11_runs_43 rfl ?_
            refine g_callVD fx dX11_runs_44 mv_RX11_308 my_X11_firstThere (s_X11_firstThere ad _ _ _ i1.1 (by omega)) o_223 rfl rfl rfl (Nat.le_of_ble_eq_true rfl) (by decide) (by decide) ?_
            refine g_goto (tgt := 51) fx dX11_runs_47 (by decide) ?_
            refine g_istore_n fx dX11_runs_51 (by decide) rfl rfl ?_
            refine g_iload_n fx dX11_runs_52 rfl ?_
            refine g_iconst fx dX11_runs_53 (by unfold okI; omega) ?_
            refine g_icmp_eq (tgt := 64) fx dX11_runs_54 (by decide) (fun h54 => ?_) (fun h54 => ?_)
            · refine g_iinc1 fx dX11_runs_64 (by decide) rfl rfl (by unfold okI; omega) rfl ?_
              refine g_goto (tgt := 23) fx dX11_runs_67 (by decide) ?_
              refine g_kill 3 rfl ?_
              first
              | (exfalso; omega)
              | exact gw_cg (by rw [itr_s, rnS]; (repeat first | rw [if_pos (by omega)] | rw [if_neg (by omega)]) <;> rfl) (by rw [show ((k : Nat) : Int) + 1 = ((k + 1 : Nat) : Int) by omega] <;> rfl) (ih (by omega))
            · have hf : 0 ≤ nFt (itr k (rnS mi) x) mi ((k : Nat) : Int) ∧ nFt (itr k (rnS mi) x) mi ((k : Nat) : Int) < (itr k (rnS mi) x) 224 668 ∧ (itr k (rnS mi) x) 232 (nFt (itr k (rnS mi) x) mi ((k : Nat) : Int)).toNat = -1 ∧ nOf (itr k (rnS mi) x) ((itr k (rnS mi) x) 231 (nFt (itr k (rnS mi) x) mi ((k : Nat) : Int)).toNat) 2 ≤ mi := by
                rcases nFt_rg (itr k (rnS mi) x) mi ((k : Nat) : Int) with q | q
                · exfalso; omega
                · exact q
              have hlt := i1.lt hf.1 hf.2.1 hf.2.2.1
              have hb2 := i1.b
              have hP2 := i1.1.1.p60
              refine g_aload_n fx dX11_runs_57 rfl ?_
              refine g_iload_n fx dX11_runs_58 rfl ?_
              refine g_iload_n fx dX11_runs_59 rfl ?_
              refine g_iload_n fx dX11_runs_60 rfl ?_
              refine g_callVD0 fx dX11_runs_61 mv_RX11_311 my_X11_begins (s_X11_begins ad _ _ _ _ i1.1 (by omega) (by omega) (by omega)) o_223 rfl rfl rfl (Nat.le_of_ble_eq_true rfl) (by decide) (by decide) ?_
              refine g_iinc1 fx dX11_runs_64 (by decide) rfl rfl (by unfold okI; omega) rfl ?_
              refine g_goto (tgt := 23) fx dX11_runs_67 (by decide) ?_
              refine g_kill 3 rfl ?_
              first
              | (exfalso; omega)
              | exact gw_cg (by rw [itr_s, rnS]; (repeat first | rw [if_pos (by omega)] | rw [if_neg (by omega)]) <;> rfl) (by rw [show ((k : Nat) : Int) + 1 = ((k + 1 : Nat) : Int) by omega] <;> rfl) (ih (by omega))
      exact loop23 0 (Nat.zero_le _)
  exact loop6 nRuM (nFg σ) 0 (nFg_RI hT).1 (fun _ => ⟨(nFg_RI hT).2, by show (58000 : Int) - 0 < ((60000 : Nat) : Int); omega⟩) rfl
