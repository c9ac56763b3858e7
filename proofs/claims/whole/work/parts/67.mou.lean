theorem dX11_canSettle_0 : gw_dc cX11_canSettle 0 (.iconst 0) 1 1 := ⟨by decide +kernel, rfl⟩
theorem dX11_canSettle_1 : gw_dc cX11_canSettle 1 (.istore_n 1) 1 2 := ⟨by decide +kernel, rfl⟩
theorem dX11_canSettle_2 : gw_dc cX11_canSettle 2 (.iload_n 1) 1 3 := ⟨by decide +kernel, rfl⟩
theorem dX11_canSettle_3 : gw_dc cX11_canSettle 3 (.aload_n 0) 1 4 := ⟨by decide +kernel, rfl⟩
theorem dX11_canSettle_4 : gw_dc cX11_canSettle 4 (.getfield 9) 3 7 := ⟨by decide +kernel, rfl⟩
theorem dX11_canSettle_7 : gw_dc cX11_canSettle 7 (.iconst 4) 1 8 := ⟨by decide +kernel, rfl⟩
theorem dX11_canSettle_8 : gw_dc cX11_canSettle 8 (.iaload) 1 9 := ⟨by decide +kernel, rfl⟩
theorem dX11_canSettle_9 : gw_dc cX11_canSettle 9 (.if_icmp .ge 22) 3 12 := ⟨by decide +kernel, rfl⟩
theorem dX11_canSettle_31 : gw_dc cX11_canSettle 31 (.aload_n 0) 1 32 := ⟨by decide +kernel, rfl⟩
theorem dX11_canSettle_32 : gw_dc cX11_canSettle 32 (.getfield 9) 3 35 := ⟨by decide +kernel, rfl⟩
theorem dX11_canSettle_35 : gw_dc cX11_canSettle 35 (.iconst 4) 1 36 := ⟨by decide +kernel, rfl⟩
theorem dX11_canSettle_36 : gw_dc cX11_canSettle 36 (.iaload) 1 37 := ⟨by decide +kernel, rfl⟩
theorem dX11_canSettle_37 : gw_dc cX11_canSettle 37 (.bipush 12) 2 39 := ⟨by decide +kernel, rfl⟩
theorem dX11_canSettle_39 : gw_dc cX11_canSettle 39 (.if_icmp .gt 7) 3 42 := ⟨by decide +kernel, rfl⟩
theorem dX11_canSettle_46 : gw_dc cX11_canSettle 46 (.iconst 0) 1 47 := ⟨by decide +kernel, rfl⟩
theorem dX11_canSettle_47 : decode cX11_canSettle 47 = .ok (.ireturn, 1) := by decide +kernel
theorem dX11_canSettle_42 : gw_dc cX11_canSettle 42 (.iconst 1) 1 43 := ⟨by decide +kernel, rfl⟩
theorem dX11_canSettle_43 : gw_dc cX11_canSettle 43 (.goto 4) 3 46 := ⟨by decide +kernel, rfl⟩
theorem dX11_canSettle_12 : gw_dc cX11_canSettle 12 (.aload_n 0) 1 13 := ⟨by decide +kernel, rfl⟩
theorem dX11_canSettle_13 : gw_dc cX11_canSettle 13 (.iload_n 1) 1 14 := ⟨by decide +kernel, rfl⟩
theorem dX11_canSettle_14 : gw_dc cX11_canSettle 14 (.iconst 0) 1 15 := ⟨by decide +kernel, rfl⟩
theorem dX11_canSettle_15 : gw_dc cX11_canSettle 15 (.invokevirtual 242) 3 18 := ⟨by decide +kernel, rfl⟩
theorem dX11_canSettle_18 : gw_dc cX11_canSettle 18 (.bipush 30) 2 20 := ⟨by decide +kernel, rfl⟩
theorem dX11_canSettle_20 : gw_dc cX11_canSettle 20 (.if_icmp .le 5) 3 23 := ⟨by decide +kernel, rfl⟩
theorem dX11_canSettle_25 : gw_dc cX11_canSettle 25 (.iinc 1 1) 3 28 := ⟨by decide +kernel, rfl⟩
theorem dX11_canSettle_28 : gw_dc cX11_canSettle 28 (.goto (-26)) 3 31 := ⟨by decide +kernel, rfl⟩
theorem dX11_canSettle_23 : gw_dc cX11_canSettle 23 (.iconst 0) 1 24 := ⟨by decide +kernel, rfl⟩
theorem dX11_canSettle_24 : decode cX11_canSettle 24 = .ok (.ireturn, 1) := by decide +kernel
theorem dX11_settle_18 : gw_dc cX11_settle 18 (.putfield 88) 3 21 := ⟨by decide +kernel, rfl⟩
theorem dX11_settle_21 : gw_dc cX11_settle 21 (.aload_n 0) 1 22 := ⟨by decide +kernel, rfl⟩
theorem dX11_settle_22 : gw_dc cX11_settle 22 (.getfield 88) 3 25 := ⟨by decide +kernel, rfl⟩
theorem dX11_settle_25 : gw_dc cX11_settle 25 (.ifCond .le 5) 3 28 := ⟨by decide +kernel, rfl⟩
theorem dX11_settle_30 : gw_dc cX11_settle 30 (.aload_n 0) 1 31 := ⟨by decide +kernel, rfl⟩
theorem dX11_settle_31 : gw_dc cX11_settle 31 (.invokevirtual 387) 3 34 := ⟨by decide +kernel, rfl⟩
theorem mv_RX11_387 : gw_mv RX11 387 yX11_canSettle := ⟨gw_mem 1894 (by decide +kernel) rfl, gw_mem 1896 (by decide +kernel) rfl, gw_mem 88 (by decide +kernel) rfl⟩
theorem my_X11_canSettle : gw_my yX11_canSettle cX11_canSettle 2 (some .boolean) 0 := ⟨gw_mem 1897 (by decide +kernel) rfl, gw_mem 106 (by decide +kernel) rfl, by decide +kernel, by decide⟩
theorem dX11_settle_34 : gw_dc cX11_settle 34 (.ifCond .ne 6) 3 37 := ⟨by decide +kernel, rfl⟩
theorem dX11_settle_40 : gw_dc cX11_settle 40 (.aload_n 0) 1 41 := ⟨by decide +kernel, rfl⟩
theorem dX11_settle_41 : gw_dc cX11_settle 41 (.getfield 9) 3 44 := ⟨by decide +kernel, rfl⟩
theorem dX11_settle_44 : gw_dc cX11_settle 44 (.aload_n 0) 1 45 := ⟨by decide +kernel, rfl⟩
theorem dX11_settle_45 : gw_dc cX11_settle 45 (.getfield 75) 3 48 := ⟨by decide +kernel, rfl⟩
theorem fk_RX11_75 : gw_fk RX11 75 11 36 42 1 true := ⟨_, _, _, ck_11, by decide, by decide, fun h => absurd h (by decide), fun h => absurd h (by decide), fun _ => Or.inr ⟨_, rfl⟩, rfl, Or.inl (gw_mem 1457 (by decide +kernel) rfl)⟩
theorem rf_223_36 {ad : Nat → Nat} : (gw_M0 ad).2.2 223 36 = some 244 := (by decide +kernel : gw_rh 223 36 = some 244)
theorem dX11_settle_48 : gw_dc cX11_settle 48 (.invokestatic 204) 3 51 := ⟨by decide +kernel, rfl⟩
theorem dX11_settle_51 : gw_dc cX11_settle 51 (.iconst 1) 1 52 := ⟨by decide +kernel, rfl⟩
theorem dX11_settle_52 : gw_dc cX11_settle 52 (.istore_n 2) 1 53 := ⟨by decide +kernel, rfl⟩
theorem dX11_settle_53 : gw_dc cX11_settle 53 (.iload_n 2) 1 54 := ⟨by decide +kernel, rfl⟩
theorem dX11_settle_54 : gw_dc cX11_settle 54 (.bipush 10) 2 56 := ⟨by decide +kernel, rfl⟩
theorem dX11_settle_56 : gw_dc cX11_settle 56 (.if_icmp .gt 113) 3 59 := ⟨by decide +kernel, rfl⟩
theorem dX11_settle_169 : gw_dc cX11_settle 169 (.aload_n 0) 1 170 := ⟨by decide +kernel, rfl⟩
theorem dX11_settle_170 : gw_dc cX11_settle 170 (.getfield 75) 3 173 := ⟨by decide +kernel, rfl⟩
theorem dX11_settle_173 : gw_dc cX11_settle 173 (.aload_n 0) 1 174 := ⟨by decide +kernel, rfl⟩
theorem dX11_settle_174 : gw_dc cX11_settle 174 (.getfield 9) 3 177 := ⟨by decide +kernel, rfl⟩
theorem dX11_settle_177 : gw_dc cX11_settle 177 (.invokestatic 204) 3 180 := ⟨by decide +kernel, rfl⟩
theorem dX11_settle_180 : gw_dc cX11_settle 180 (.bipush (-2)) 2 182 := ⟨by decide +kernel, rfl⟩
theorem dX11_settle_182 : decode cX11_settle 182 = .ok (.ireturn, 1) := by decide +kernel
theorem dX11_settle_59 : gw_dc cX11_settle 59 (.iconst 0) 1 60 := ⟨by decide +kernel, rfl⟩
theorem dX11_settle_60 : gw_dc cX11_settle 60 (.istore_n 3) 1 61 := ⟨by decide +kernel, rfl⟩
theorem dX11_settle_61 : gw_dc cX11_settle 61 (.iconst 0) 1 62 := ⟨by decide +kernel, rfl⟩
theorem dX11_settle_62 : gw_dc cX11_settle 62 (.istore 4) 2 64 := ⟨by decide +kernel, rfl⟩
theorem dX11_settle_64 : gw_dc cX11_settle 64 (.iload 4) 2 66 := ⟨by decide +kernel, rfl⟩
theorem dX11_settle_66 : gw_dc cX11_settle 66 (.aload_n 0) 1 67 := ⟨by decide +kernel, rfl⟩
theorem dX11_settle_67 : gw_dc cX11_settle 67 (.getfield 9) 3 70 := ⟨by decide +kernel, rfl⟩
theorem dX11_settle_70 : gw_dc cX11_settle 70 (.iconst 4) 1 71 := ⟨by decide +kernel, rfl⟩
theorem dX11_settle_71 : gw_dc cX11_settle 71 (.iaload) 1 72 := ⟨by decide +kernel, rfl⟩
theorem dX11_settle_72 : gw_dc cX11_settle 72 (.if_icmp .ge 85) 3 75 := ⟨by decide +kernel, rfl⟩
theorem dX11_settle_157 : gw_dc cX11_settle 157 (.iload_n 3) 1 158 := ⟨by decide +kernel, rfl⟩
theorem dX11_settle_158 : gw_dc cX11_settle 158 (.ifCond .ne 5) 3 161 := ⟨by decide +kernel, rfl⟩
theorem dX11_settle_163 : gw_dc cX11_settle 163 (.iinc 2 1) 3 166 := ⟨by decide +kernel, rfl⟩
theorem dX11_settle_166 : gw_dc cX11_settle 166 (.goto (-113)) 3 169 := ⟨by decide +kernel, rfl⟩
theorem dX11_settle_161 : gw_dc cX11_settle 161 (.iload_n 2) 1 162 := ⟨by decide +kernel, rfl⟩
theorem dX11_settle_162 : decode cX11_settle 162 = .ok (.ireturn, 1) := by decide +kernel
theorem dX11_settle_75 : gw_dc cX11_settle 75 (.aload_n 0) 1 76 := ⟨by decide +kernel, rfl⟩
theorem dX11_settle_76 : gw_dc cX11_settle 76 (.iload 4) 2 78 := ⟨by decide +kernel, rfl⟩
theorem dX11_settle_78 : gw_dc cX11_settle 78 (.iload_n 1) 1 79 := ⟨by decide +kernel, rfl⟩
theorem dX11_settle_79 : gw_dc cX11_settle 79 (.invokevirtual 383) 3 82 := ⟨by decide +kernel, rfl⟩
theorem dX11_settle_82 : gw_dc cX11_settle 82 (.pop) 1 83 := ⟨by decide +kernel, rfl⟩
theorem dX11_settle_83 : gw_dc cX11_settle 83 (.aload_n 0) 1 84 := ⟨by decide +kernel, rfl⟩
theorem dX11_settle_84 : gw_dc cX11_settle 84 (.getfield 371) 3 87 := ⟨by decide +kernel, rfl⟩
theorem dX11_settle_87 : gw_dc cX11_settle 87 (.iconst (-1)) 1 88 := ⟨by decide +kernel, rfl⟩
theorem dX11_settle_88 : gw_dc cX11_settle 88 (.if_icmp .eq 63) 3 91 := ⟨by decide +kernel, rfl⟩
theorem dX11_settle_151 : gw_dc cX11_settle 151 (.iinc 4 1) 3 154 := ⟨by decide +kernel, rfl⟩
theorem dX11_settle_154 : gw_dc cX11_settle 154 (.goto (-90)) 3 157 := ⟨by decide +kernel, rfl⟩
theorem dX11_settle_91 : gw_dc cX11_settle 91 (.aload_n 0) 1 92 := ⟨by decide +kernel, rfl⟩
theorem dX11_settle_92 : gw_dc cX11_settle 92 (.getfield 374) 3 95 := ⟨by decide +kernel, rfl⟩
theorem dX11_settle_95 : gw_dc cX11_settle 95 (.aload_n 0) 1 96 := ⟨by decide +kernel, rfl⟩
theorem dX11_settle_96 : gw_dc cX11_settle 96 (.iload 4) 2 98 := ⟨by decide +kernel, rfl⟩
theorem dX11_settle_98 : gw_dc cX11_settle 98 (.invokevirtual 368) 3 101 := ⟨by decide +kernel, rfl⟩
theorem dX11_settle_101 : gw_dc cX11_settle 101 (.if_icmp .lt 6) 3 104 := ⟨by decide +kernel, rfl⟩
theorem dX11_settle_107 : gw_dc cX11_settle 107 (.iconst 0) 1 108 := ⟨by decide +kernel, rfl⟩
theorem dX11_settle_108 : gw_dc cX11_settle 108 (.istore 5) 2 110 := ⟨by decide +kernel, rfl⟩
theorem dX11_settle_110 : gw_dc cX11_settle 110 (.iload 5) 2 112 := ⟨by decide +kernel, rfl⟩
theorem dX11_settle_112 : gw_dc cX11_settle 112 (.aload_n 0) 1 113 := ⟨by decide +kernel, rfl⟩
theorem dX11_settle_113 : gw_dc cX11_settle 113 (.getfield 371) 3 116 := ⟨by decide +kernel, rfl⟩
theorem dX11_settle_116 : gw_dc cX11_settle 116 (.if_icmp .ge 23) 3 119 := ⟨by decide +kernel, rfl⟩
theorem dX11_settle_139 : gw_dc cX11_settle 139 (.aload_n 0) 1 140 := ⟨by decide +kernel, rfl⟩
theorem dX11_settle_140 : gw_dc cX11_settle 140 (.iload 4) 2 142 := ⟨by decide +kernel, rfl⟩
theorem dX11_settle_142 : gw_dc cX11_settle 142 (.aload_n 0) 1 143 := ⟨by decide +kernel, rfl⟩
theorem dX11_settle_143 : gw_dc cX11_settle 143 (.getfield 371) 3 146 := ⟨by decide +kernel, rfl⟩
theorem dX11_settle_146 : gw_dc cX11_settle 146 (.invokevirtual 261) 3 149 := ⟨by decide +kernel, rfl⟩
theorem dX11_settle_149 : gw_dc cX11_settle 149 (.iconst 1) 1 150 := ⟨by decide +kernel, rfl⟩
theorem dX11_settle_150 : gw_dc cX11_settle 150 (.istore_n 3) 1 151 := ⟨by decide +kernel, rfl⟩
theorem dX11_settle_119 : gw_dc cX11_settle 119 (.aload_n 0) 1 120 := ⟨by decide +kernel, rfl⟩
theorem dX11_settle_120 : gw_dc cX11_settle 120 (.getfield 33) 3 123 := ⟨by decide +kernel, rfl⟩
theorem dX11_settle_123 : gw_dc cX11_settle 123 (.iload 5) 2 125 := ⟨by decide +kernel, rfl⟩
theorem dX11_settle_125 : gw_dc cX11_settle 125 (.aload_n 0) 1 126 := ⟨by decide +kernel, rfl⟩
theorem dX11_settle_126 : gw_dc cX11_settle 126 (.getfield 72) 3 129 := ⟨by decide +kernel, rfl⟩
theorem dX11_settle_129 : gw_dc cX11_settle 129 (.iload 5) 2 131 := ⟨by decide +kernel, rfl⟩
theorem dX11_settle_131 : gw_dc cX11_settle 131 (.iaload) 1 132 := ⟨by decide +kernel, rfl⟩
theorem dX11_settle_132 : gw_dc cX11_settle 132 (.iastore) 1 133 := ⟨by decide +kernel, rfl⟩
theorem dX11_settle_133 : gw_dc cX11_settle 133 (.iinc 5 1) 3 136 := ⟨by decide +kernel, rfl⟩
theorem dX11_settle_136 : gw_dc cX11_settle 136 (.goto (-26)) 3 139 := ⟨by decide +kernel, rfl⟩
theorem dX11_settle_104 : gw_dc cX11_settle 104 (.goto 47) 3 107 := ⟨by decide +kernel, rfl⟩
theorem dX11_settle_37 : gw_dc cX11_settle 37 (.bipush (-2)) 2 39 := ⟨by decide +kernel, rfl⟩
theorem dX11_settle_39 : decode cX11_settle 39 = .ok (.ireturn, 1) := by decide +kernel
theorem dX11_settle_28 : gw_dc cX11_settle 28 (.iconst 0) 1 29 := ⟨by decide +kernel, rfl⟩
theorem dX11_settle_29 : decode cX11_settle 29 = .ok (.ireturn, 1) := by decide +kernel
theorem dX11_settle_0 : gw_dc cX11_settle 0 (.aload_n 0) 1 1 := ⟨by decide +kernel, rfl⟩
theorem dX11_settle_1 : gw_dc cX11_settle 1 (.iload_n 1) 1 2 := ⟨by decide +kernel, rfl⟩
theorem dX11_settle_2 : gw_dc cX11_settle 2 (.i2l) 1 3 := ⟨by decide +kernel, rfl⟩
theorem dX11_settle_3 : gw_dc cX11_settle 3 (.lconst 1) 1 4 := ⟨by decide +kernel, rfl⟩
theorem dX11_settle_4 : gw_dc cX11_settle 4 (.ldc2_w 338) 3 7 := ⟨by decide +kernel, rfl⟩
theorem dX11_settle_7 : gw_dc cX11_settle 7 (.invokestatic 147) 3 10 := ⟨by decide +kernel, rfl⟩
theorem dX11_settle_10 : gw_dc cX11_settle 10 (.ifCond .eq 7) 3 13 := ⟨by decide +kernel, rfl⟩
theorem dX11_settle_17 : gw_dc cX11_settle 17 (.iconst 1) 1 18 := ⟨by decide +kernel, rfl⟩
theorem dX11_settle_13 : gw_dc cX11_settle 13 (.iconst 0) 1 14 := ⟨by decide +kernel, rfl⟩
theorem dX11_settle_14 : gw_dc cX11_settle 14 (.goto 4) 3 17 := ⟨by decide +kernel, rfl⟩
theorem dX11_fees_0 : gw_dc cX11_fees 0 (.iload_n 2) 1 1 := ⟨by decide +kernel, rfl⟩
theorem dX11_fees_1 : gw_dc cX11_fees 1 (.ifCond .ne 97) 3 4 := ⟨by decide +kernel, rfl⟩
theorem dX11_fees_98 : gw_dc cX11_fees 98 (.iload_n 2) 1 99 := ⟨by decide +kernel, rfl⟩
theorem dX11_fees_99 : gw_dc cX11_fees 99 (.iload_n 3) 1 100 := ⟨by decide +kernel, rfl⟩
theorem dX11_fees_100 : gw_dc cX11_fees 100 (.invokestatic 314) 3 103 := ⟨by decide +kernel, rfl⟩
theorem dX11_fees_103 : gw_dc cX11_fees 103 (.istore 7) 2 105 := ⟨by decide +kernel, rfl⟩
theorem dX11_fees_105 : gw_dc cX11_fees 105 (.iload 7) 2 107 := ⟨by decide +kernel, rfl⟩
theorem dX11_fees_107 : gw_dc cX11_fees 107 (.ifCond .le 44) 3 110 := ⟨by decide +kernel, rfl⟩
theorem dX11_fees_151 : decode cX11_fees 151 = .ok (.return_, 1) := by decide +kernel
theorem dX11_fees_110 : gw_dc cX11_fees 110 (.iload 4) 2 112 := ⟨by decide +kernel, rfl⟩
theorem dX11_fees_112 : gw_dc cX11_fees 112 (.iload 5) 2 114 := ⟨by decide +kernel, rfl⟩
theorem dX11_fees_114 : gw_dc cX11_fees 114 (.if_icmp .ge 37) 3 117 := ⟨by decide +kernel, rfl⟩
theorem dX11_fees_4 : gw_dc cX11_fees 4 (.iload 4) 2 6 := ⟨by decide +kernel, rfl⟩
theorem dX11_fees_6 : gw_dc cX11_fees 6 (.iconst 1) 1 7 := ⟨by decide +kernel, rfl⟩
theorem dX11_fees_7 : gw_dc cX11_fees 7 (.if_icmp .ne 4) 3 10 := ⟨by decide +kernel, rfl⟩
theorem dX11_fees_11 : gw_dc cX11_fees 11 (.iconst 0) 1 12 := ⟨by decide +kernel, rfl⟩
theorem dX11_fees_12 : gw_dc cX11_fees 12 (.istore 7) 2 14 := ⟨by decide +kernel, rfl⟩
theorem dX11_fees_14 : gw_dc cX11_fees 14 (.iload 7) 2 16 := ⟨by decide +kernel, rfl⟩
theorem dX11_fees_16 : gw_dc cX11_fees 16 (.iload 4) 2 18 := ⟨by decide +kernel, rfl⟩
theorem dX11_fees_18 : gw_dc cX11_fees 18 (.if_icmp .ge 23) 3 21 := ⟨by decide +kernel, rfl⟩
theorem dX11_fees_41 : gw_dc cX11_fees 41 (.aload_n 0) 1 42 := ⟨by decide +kernel, rfl⟩
theorem dX11_fees_42 : gw_dc cX11_fees 42 (.iload_n 1) 1 43 := ⟨by decide +kernel, rfl⟩
theorem dX11_fees_43 : gw_dc cX11_fees 43 (.iload 4) 2 45 := ⟨by decide +kernel, rfl⟩
theorem dX11_fees_45 : gw_dc cX11_fees 45 (.invokevirtual 261) 3 48 := ⟨by decide +kernel, rfl⟩
theorem dX11_fees_48 : gw_dc cX11_fees 48 (.aload_n 0) 1 49 := ⟨by decide +kernel, rfl⟩
theorem dX11_fees_49 : gw_dc cX11_fees 49 (.invokevirtual 323) 3 52 := ⟨by decide +kernel, rfl⟩
theorem dX11_fees_52 : gw_dc cX11_fees 52 (.iload 6) 2 54 := ⟨by decide +kernel, rfl⟩
theorem dX11_fees_54 : gw_dc cX11_fees 54 (.aload_n 0) 1 55 := ⟨by decide +kernel, rfl⟩
theorem dX11_fees_55 : gw_dc cX11_fees 55 (.iload_n 1) 1 56 := ⟨by decide +kernel, rfl⟩
theorem dX11_fees_56 : gw_dc cX11_fees 56 (.iconst 4) 1 57 := ⟨by decide +kernel, rfl⟩
theorem dX11_fees_57 : gw_dc cX11_fees 57 (.invokevirtual 242) 3 60 := ⟨by decide +kernel, rfl⟩
theorem dX11_fees_60 : gw_dc cX11_fees 60 (.aload_n 0) 1 61 := ⟨by decide +kernel, rfl⟩
theorem dX11_fees_61 : gw_dc cX11_fees 61 (.iload_n 1) 1 62 := ⟨by decide +kernel, rfl⟩
theorem dX11_fees_62 : gw_dc cX11_fees 62 (.invokevirtual 320) 3 65 := ⟨by decide +kernel, rfl⟩
theorem dX11_fees_65 : gw_dc cX11_fees 65 (.imul) 1 66 := ⟨by decide +kernel, rfl⟩
theorem dX11_fees_66 : gw_dc cX11_fees 66 (.isub) 1 67 := ⟨by decide +kernel, rfl⟩
theorem dX11_fees_67 : gw_dc cX11_fees 67 (.istore 7) 2 69 := ⟨by decide +kernel, rfl⟩
theorem dX11_fees_69 : gw_dc cX11_fees 69 (.iload 7) 2 71 := ⟨by decide +kernel, rfl⟩
theorem dX11_fees_71 : gw_dc cX11_fees 71 (.ifCond .le 26) 3 74 := ⟨by decide +kernel, rfl⟩
theorem dX11_fees_97 : decode cX11_fees 97 = .ok (.return_, 1) := by decide +kernel
theorem dX11_fees_74 : gw_dc cX11_fees 74 (.aload_n 0) 1 75 := ⟨by decide +kernel, rfl⟩
theorem dX11_fees_75 : gw_dc cX11_fees 75 (.aload_n 0) 1 76 := ⟨by decide +kernel, rfl⟩
theorem dX11_fees_76 : gw_dc cX11_fees 76 (.getfield 391) 3 79 := ⟨by decide +kernel, rfl⟩
theorem fk_RX11_391 : gw_fk RX11 391 11 37 42 0 false := ⟨_, _, _, ck_11, by decide, by decide, fun _ => rfl, fun h => absurd h (by decide), fun h => absurd h (by decide), rfl, Or.inl (gw_mem 1458 (by decide +kernel) rfl)⟩
theorem dX11_fees_79 : gw_dc cX11_fees 79 (.iload 7) 2 81 := ⟨by decide +kernel, rfl⟩
theorem dX11_fees_81 : gw_dc cX11_fees 81 (.iload 4) 2 83 := ⟨by decide +kernel, rfl⟩
theorem dX11_fees_83 : gw_dc cX11_fees 83 (.iadd) 1 84 := ⟨by decide +kernel, rfl⟩
theorem dX11_fees_84 : gw_dc cX11_fees 84 (.iconst 2) 1 85 := ⟨by decide +kernel, rfl⟩
theorem dX11_fees_85 : gw_dc cX11_fees 85 (.isub) 1 86 := ⟨by decide +kernel, rfl⟩
theorem dX11_fees_86 : gw_dc cX11_fees 86 (.iload 4) 2 88 := ⟨by decide +kernel, rfl⟩
theorem dX11_fees_88 : gw_dc cX11_fees 88 (.iconst 1) 1 89 := ⟨by decide +kernel, rfl⟩
theorem dX11_fees_89 : gw_dc cX11_fees 89 (.isub) 1 90 := ⟨by decide +kernel, rfl⟩
theorem dX11_fees_90 : gw_dc cX11_fees 90 (.idiv) 1 91 := ⟨by decide +kernel, rfl⟩
theorem dX11_fees_91 : gw_dc cX11_fees 91 (.invokestatic 268) 3 94 := ⟨by decide +kernel, rfl⟩
theorem dX11_fees_94 : gw_dc cX11_fees 94 (.putfield 391) 3 97 := ⟨by decide +kernel, rfl⟩
theorem dX11_fees_21 : gw_dc cX11_fees 21 (.aload_n 0) 1 22 := ⟨by decide +kernel, rfl⟩
theorem dX11_fees_22 : gw_dc cX11_fees 22 (.getfield 33) 3 25 := ⟨by decide +kernel, rfl⟩
theorem dX11_fees_25 : gw_dc cX11_fees 25 (.iload 7) 2 27 := ⟨by decide +kernel, rfl⟩
theorem dX11_fees_27 : gw_dc cX11_fees 27 (.aload_n 0) 1 28 := ⟨by decide +kernel, rfl⟩
theorem dX11_fees_28 : gw_dc cX11_fees 28 (.getfield 69) 3 31 := ⟨by decide +kernel, rfl⟩
theorem dX11_fees_31 : gw_dc cX11_fees 31 (.iload 7) 2 33 := ⟨by decide +kernel, rfl⟩
theorem dX11_fees_33 : gw_dc cX11_fees 33 (.iaload) 1 34 := ⟨by decide +kernel, rfl⟩
theorem dX11_fees_34 : gw_dc cX11_fees 34 (.iastore) 1 35 := ⟨by decide +kernel, rfl⟩
theorem dX11_fees_35 : gw_dc cX11_fees 35 (.iinc 7 1) 3 38 := ⟨by decide +kernel, rfl⟩
theorem dX11_fees_38 : gw_dc cX11_fees 38 (.goto (-24)) 3 41 := ⟨by decide +kernel, rfl⟩
theorem dX11_fees_117 : gw_dc cX11_fees 117 (.aload_n 0) 1 118 := ⟨by decide +kernel, rfl⟩
theorem dX11_fees_118 : gw_dc cX11_fees 118 (.getfield 69) 3 121 := ⟨by decide +kernel, rfl⟩
theorem dX11_fees_121 : gw_dc cX11_fees 121 (.iload 4) 2 123 := ⟨by decide +kernel, rfl⟩
theorem dX11_fees_123 : gw_dc cX11_fees 123 (.iload 7) 2 125 := ⟨by decide +kernel, rfl⟩
theorem dX11_fees_125 : gw_dc cX11_fees 125 (.iastore) 1 126 := ⟨by decide +kernel, rfl⟩
theorem dX11_fees_126 : gw_dc cX11_fees 126 (.aload_n 0) 1 127 := ⟨by decide +kernel, rfl⟩
theorem dX11_fees_127 : gw_dc cX11_fees 127 (.iload_n 1) 1 128 := ⟨by decide +kernel, rfl⟩
theorem dX11_fees_128 : gw_dc cX11_fees 128 (.iload_n 2) 1 129 := ⟨by decide +kernel, rfl⟩
theorem dX11_fees_129 : gw_dc cX11_fees 129 (.iload 7) 2 131 := ⟨by decide +kernel, rfl⟩
theorem dX11_fees_131 : gw_dc cX11_fees 131 (.isub) 1 132 := ⟨by decide +kernel, rfl⟩
theorem dX11_fees_132 : gw_dc cX11_fees 132 (.iload 7) 2 134 := ⟨by decide +kernel, rfl⟩
theorem dX11_fees_134 : gw_dc cX11_fees 134 (.iload 4) 2 136 := ⟨by decide +kernel, rfl⟩
theorem dX11_fees_136 : gw_dc cX11_fees 136 (.iconst 1) 1 137 := ⟨by decide +kernel, rfl⟩
theorem dX11_fees_137 : gw_dc cX11_fees 137 (.iadd) 1 138 := ⟨by decide +kernel, rfl⟩
theorem dX11_fees_138 : gw_dc cX11_fees 138 (.iload 5) 2 140 := ⟨by decide +kernel, rfl⟩
theorem dX11_fees_140 : gw_dc cX11_fees 140 (.iload 6) 2 142 := ⟨by decide +kernel, rfl⟩
theorem dX11_fees_142 : gw_dc cX11_fees 142 (.invokevirtual 394) 3 145 := ⟨by decide +kernel, rfl⟩
theorem mv_RX11_394 : gw_mv RX11 394 yX11_fees := ⟨gw_mem 1903 (by decide +kernel) rfl, gw_mem 1905 (by decide +kernel) rfl, gw_mem 89 (by decide +kernel) rfl⟩
theorem my_X11_fees : gw_my yX11_fees cX11_fees 8 none 6 := ⟨gw_mem 1906 (by decide +kernel) rfl, gw_mem 106 (by decide +kernel) rfl, by decide +kernel, by decide⟩
theorem dX11_fees_145 : gw_dc cX11_fees 145 (.iinc 7 (-1)) 3 148 := ⟨by decide +kernel, rfl⟩
theorem dX11_fees_148 : gw_dc cX11_fees 148 (.goto (-43)) 3 151 := ⟨by decide +kernel, rfl⟩
theorem dX11_fees_10 : decode cX11_fees 10 = .ok (.return_, 1) := by decide +kernel
theorem dX11_fee_20 : gw_dc cX11_fee 20 (.putfield 88) 3 23 := ⟨by decide +kernel, rfl⟩
theorem dX11_fee_23 : gw_dc cX11_fee 23 (.aload_n 0) 1 24 := ⟨by decide +kernel, rfl⟩
theorem dX11_fee_24 : gw_dc cX11_fee 24 (.getfield 88) 3 27 := ⟨by decide +kernel, rfl⟩
theorem dX11_fee_27 : gw_dc cX11_fee 27 (.ifCond .le 5) 3 30 := ⟨by decide +kernel, rfl⟩
theorem dX11_fee_32 : gw_dc cX11_fee 32 (.aload_n 0) 1 33 := ⟨by decide +kernel, rfl⟩
theorem dX11_fee_33 : gw_dc cX11_fee 33 (.getfield 9) 3 36 := ⟨by decide +kernel, rfl⟩
theorem dX11_fee_36 : gw_dc cX11_fee 36 (.aload_n 0) 1 37 := ⟨by decide +kernel, rfl⟩
theorem dX11_fee_37 : gw_dc cX11_fee 37 (.getfield 75) 3 40 := ⟨by decide +kernel, rfl⟩
theorem dX11_fee_40 : gw_dc cX11_fee 40 (.invokestatic 204) 3 43 := ⟨by decide +kernel, rfl⟩
theorem dX11_fee_43 : gw_dc cX11_fee 43 (.iconst 0) 1 44 := ⟨by decide +kernel, rfl⟩
theorem dX11_fee_44 : gw_dc cX11_fee 44 (.istore_n 2) 1 45 := ⟨by decide +kernel, rfl⟩
theorem dX11_fee_45 : gw_dc cX11_fee 45 (.iload_n 2) 1 46 := ⟨by decide +kernel, rfl⟩
theorem dX11_fee_46 : gw_dc cX11_fee 46 (.aload_n 0) 1 47 := ⟨by decide +kernel, rfl⟩
theorem dX11_fee_47 : gw_dc cX11_fee 47 (.getfield 9) 3 50 := ⟨by decide +kernel, rfl⟩
theorem dX11_fee_50 : gw_dc cX11_fee 50 (.iconst 4) 1 51 := ⟨by decide +kernel, rfl⟩
theorem dX11_fee_51 : gw_dc cX11_fee 51 (.iaload) 1 52 := ⟨by decide +kernel, rfl⟩
theorem dX11_fee_52 : gw_dc cX11_fee 52 (.if_icmp .ge 14) 3 55 := ⟨by decide +kernel, rfl⟩
theorem dX11_fee_66 : gw_dc cX11_fee 66 (.aload_n 0) 1 67 := ⟨by decide +kernel, rfl⟩
theorem dX11_fee_67 : gw_dc cX11_fee 67 (.iconst 0) 1 68 := ⟨by decide +kernel, rfl⟩
theorem dX11_fee_68 : gw_dc cX11_fee 68 (.putfield 391) 3 71 := ⟨by decide +kernel, rfl⟩
theorem dX11_fee_71 : gw_dc cX11_fee 71 (.iconst 0) 1 72 := ⟨by decide +kernel, rfl⟩
theorem dX11_fee_72 : gw_dc cX11_fee 72 (.istore_n 2) 1 73 := ⟨by decide +kernel, rfl⟩
theorem dX11_fee_73 : gw_dc cX11_fee 73 (.iload_n 2) 1 74 := ⟨by decide +kernel, rfl⟩
theorem dX11_fee_74 : gw_dc cX11_fee 74 (.aload_n 0) 1 75 := ⟨by decide +kernel, rfl⟩
theorem dX11_fee_75 : gw_dc cX11_fee 75 (.getfield 9) 3 78 := ⟨by decide +kernel, rfl⟩
theorem dX11_fee_78 : gw_dc cX11_fee 78 (.iconst 4) 1 79 := ⟨by decide +kernel, rfl⟩
theorem dX11_fee_79 : gw_dc cX11_fee 79 (.iaload) 1 80 := ⟨by decide +kernel, rfl⟩
theorem dX11_fee_80 : gw_dc cX11_fee 80 (.if_icmp .ge 63) 3 83 := ⟨by decide +kernel, rfl⟩
theorem dX11_fee_143 : gw_dc cX11_fee 143 (.aload_n 0) 1 144 := ⟨by decide +kernel, rfl⟩
theorem dX11_fee_144 : gw_dc cX11_fee 144 (.getfield 75) 3 147 := ⟨by decide +kernel, rfl⟩
theorem dX11_fee_147 : gw_dc cX11_fee 147 (.aload_n 0) 1 148 := ⟨by decide +kernel, rfl⟩
theorem dX11_fee_148 : gw_dc cX11_fee 148 (.getfield 9) 3 151 := ⟨by decide +kernel, rfl⟩
theorem dX11_fee_151 : gw_dc cX11_fee 151 (.invokestatic 204) 3 154 := ⟨by decide +kernel, rfl⟩
theorem dX11_fee_154 : gw_dc cX11_fee 154 (.aload_n 0) 1 155 := ⟨by decide +kernel, rfl⟩
theorem dX11_fee_155 : gw_dc cX11_fee 155 (.getfield 391) 3 158 := ⟨by decide +kernel, rfl⟩
theorem dX11_fee_158 : decode cX11_fee 158 = .ok (.ireturn, 1) := by decide +kernel
theorem dX11_fee_83 : gw_dc cX11_fee 83 (.aload_n 0) 1 84 := ⟨by decide +kernel, rfl⟩
theorem dX11_fee_84 : gw_dc cX11_fee 84 (.iload_n 2) 1 85 := ⟨by decide +kernel, rfl⟩
theorem dX11_fee_85 : gw_dc cX11_fee 85 (.iconst 0) 1 86 := ⟨by decide +kernel, rfl⟩
theorem dX11_fee_86 : gw_dc cX11_fee 86 (.invokevirtual 242) 3 89 := ⟨by decide +kernel, rfl⟩
theorem dX11_fee_89 : gw_dc cX11_fee 89 (.bipush 30) 2 91 := ⟨by decide +kernel, rfl⟩
theorem dX11_fee_91 : gw_dc cX11_fee 91 (.if_icmp .le 6) 3 94 := ⟨by decide +kernel, rfl⟩
theorem dX11_fee_97 : gw_dc cX11_fee 97 (.aload_n 0) 1 98 := ⟨by decide +kernel, rfl⟩
theorem dX11_fee_98 : gw_dc cX11_fee 98 (.invokevirtual 323) 3 101 := ⟨by decide +kernel, rfl⟩
theorem dX11_fee_101 : gw_dc cX11_fee 101 (.aload_n 0) 1 102 := ⟨by decide +kernel, rfl⟩
theorem dX11_fee_102 : gw_dc cX11_fee 102 (.iload_n 2) 1 103 := ⟨by decide +kernel, rfl⟩
theorem dX11_fee_103 : gw_dc cX11_fee 103 (.aload_n 0) 1 104 := ⟨by decide +kernel, rfl⟩
theorem dX11_fee_104 : gw_dc cX11_fee 104 (.iload_n 2) 1 105 := ⟨by decide +kernel, rfl⟩
theorem dX11_fee_105 : gw_dc cX11_fee 105 (.iconst 0) 1 106 := ⟨by decide +kernel, rfl⟩
theorem dX11_fee_106 : gw_dc cX11_fee 106 (.invokevirtual 242) 3 109 := ⟨by decide +kernel, rfl⟩
theorem dX11_fee_109 : gw_dc cX11_fee 109 (.aload_n 0) 1 110 := ⟨by decide +kernel, rfl⟩
theorem dX11_fee_110 : gw_dc cX11_fee 110 (.iload_n 2) 1 111 := ⟨by decide +kernel, rfl⟩
theorem dX11_fee_111 : gw_dc cX11_fee 111 (.iconst 0) 1 112 := ⟨by decide +kernel, rfl⟩
theorem dX11_fee_112 : gw_dc cX11_fee 112 (.invokevirtual 242) 3 115 := ⟨by decide +kernel, rfl⟩
theorem dX11_fee_115 : gw_dc cX11_fee 115 (.iconst 0) 1 116 := ⟨by decide +kernel, rfl⟩
theorem dX11_fee_116 : gw_dc cX11_fee 116 (.iload_n 1) 1 117 := ⟨by decide +kernel, rfl⟩
theorem dX11_fee_117 : gw_dc cX11_fee 117 (.aload_n 0) 1 118 := ⟨by decide +kernel, rfl⟩
theorem dX11_fee_118 : gw_dc cX11_fee 118 (.iload_n 2) 1 119 := ⟨by decide +kernel, rfl⟩
theorem dX11_fee_119 : gw_dc cX11_fee 119 (.iconst 4) 1 120 := ⟨by decide +kernel, rfl⟩
theorem dX11_fee_120 : gw_dc cX11_fee 120 (.invokevirtual 242) 3 123 := ⟨by decide +kernel, rfl⟩
theorem dX11_fee_123 : gw_dc cX11_fee 123 (.aload_n 0) 1 124 := ⟨by decide +kernel, rfl⟩
theorem dX11_fee_124 : gw_dc cX11_fee 124 (.iload_n 2) 1 125 := ⟨by decide +kernel, rfl⟩
theorem dX11_fee_125 : gw_dc cX11_fee 125 (.invokevirtual 320) 3 128 := ⟨by decide +kernel, rfl⟩
theorem dX11_fee_128 : gw_dc cX11_fee 128 (.imul) 1 129 := ⟨by decide +kernel, rfl⟩
theorem dX11_fee_129 : gw_dc cX11_fee 129 (.invokevirtual 394) 3 132 := ⟨by decide +kernel, rfl⟩
theorem dX11_fee_132 : gw_dc cX11_fee 132 (.aload_n 0) 1 133 := ⟨by decide +kernel, rfl⟩
theorem dX11_fee_133 : gw_dc cX11_fee 133 (.iload_n 2) 1 134 := ⟨by decide +kernel, rfl⟩
theorem dX11_fee_134 : gw_dc cX11_fee 134 (.invokevirtual 265) 3 137 := ⟨by decide +kernel, rfl⟩
theorem dX11_fee_137 : gw_dc cX11_fee 137 (.iinc 2 1) 3 140 := ⟨by decide +kernel, rfl⟩
theorem dX11_fee_140 : gw_dc cX11_fee 140 (.goto (-67)) 3 143 := ⟨by decide +kernel, rfl⟩
theorem dX11_fee_94 : gw_dc cX11_fee 94 (.goto 43) 3 97 := ⟨by decide +kernel, rfl⟩
theorem dX11_fee_55 : gw_dc cX11_fee 55 (.aload_n 0) 1 56 := ⟨by decide +kernel, rfl⟩
theorem dX11_fee_56 : gw_dc cX11_fee 56 (.iload_n 2) 1 57 := ⟨by decide +kernel, rfl⟩
theorem dX11_fee_57 : gw_dc cX11_fee 57 (.invokevirtual 265) 3 60 := ⟨by decide +kernel, rfl⟩
theorem dX11_fee_60 : gw_dc cX11_fee 60 (.iinc 2 1) 3 63 := ⟨by decide +kernel, rfl⟩
theorem dX11_fee_63 : gw_dc cX11_fee 63 (.goto (-18)) 3 66 := ⟨by decide +kernel, rfl⟩
theorem dX11_fee_30 : gw_dc cX11_fee 30 (.iconst 0) 1 31 := ⟨by decide +kernel, rfl⟩
theorem dX11_fee_31 : decode cX11_fee 31 = .ok (.ireturn, 1) := by decide +kernel
theorem dX11_fee_0 : gw_dc cX11_fee 0 (.aload_n 0) 1 1 := ⟨by decide +kernel, rfl⟩
theorem dX11_fee_1 : gw_dc cX11_fee 1 (.iload_n 1) 1 2 := ⟨by decide +kernel, rfl⟩
theorem dX11_fee_2 : gw_dc cX11_fee 2 (.i2l) 1 3 := ⟨by decide +kernel, rfl⟩
theorem dX11_fee_3 : gw_dc cX11_fee 3 (.ldc2_w 398) 3 6 := ⟨by decide +kernel, rfl⟩
theorem dX11_fee_6 : gw_dc cX11_fee 6 (.ldc2_w 338) 3 9 := ⟨by decide +kernel, rfl⟩
theorem dX11_fee_9 : gw_dc cX11_fee 9 (.invokestatic 147) 3 12 := ⟨by decide +kernel, rfl⟩
theorem dX11_fee_12 : gw_dc cX11_fee 12 (.ifCond .eq 7) 3 15 := ⟨by decide +kernel, rfl⟩
theorem dX11_fee_19 : gw_dc cX11_fee 19 (.iconst 1) 1 20 := ⟨by decide +kernel, rfl⟩
theorem dX11_fee_15 : gw_dc cX11_fee 15 (.iconst 0) 1 16 := ⟨by decide +kernel, rfl⟩
theorem dX11_fee_16 : gw_dc cX11_fee 16 (.goto 4) 3 19 := ⟨by decide +kernel, rfl⟩
/-! The model, 20: settling, fees, walked -/
theorem sgR_s (n : Int) (x : Sg) (k : Nat) : sgR n x (k + 1) = sgS n k (sgR n x k) := rfl
theorem fnN_s (n : Int) (x : Sg) (k : Nat) : fnN n x (k + 1) = feN n k (fnN n x k) := rfl
theorem fwL_s (σ : Sg) (k : Nat) : fwL σ (k + 1) = nWy (fwL σ k) ((k : Nat) : Int) := rfl
theorem seV_0 {n : Int} (h : seV n ≤ 0) : 1 ≤ n ∧ n ≤ 3 := by
  unfold seV at h; split at h
  · omega
  · next q => exact wth_1 q
theorem feVt_0 {n : Int} (h : feVt n ≤ 0) : 2 ≤ n ∧ n ≤ 3 := by
  unfold feVt at h; split at h
  · omega
  · next q => exact wth_1 q
theorem TW_cp {x : Sg} (hT : TW (x 224)) {s d : Nat} (hsd : s ≠ d) (hd : 224 ≠ d) : TW (nCp x s d 224) := by rw [nCp_ne x hsd hd]; exact hT
set_option maxRecDepth 4000 in
theorem s_X11_canSettle (ad : Nat → Nat) (σ : Sg)  (hT : TW (σ 224)) : gw_Sp yX11_canSettle cX11_canSettle 2 (some .boolean) 2 0 0 [vR (some 223)] (gw_M0 ad) σ (gw_D (some (vI (nCs σ))) (gw_M0 ad) (σ)) gw_no := by
  refine gw_Sp.of [some (vR (some 223)), none] (by decide +kernel) rfl (Nat.le_of_ble_eq_true rfl) ?_
  intro X G fx het hnm
  have hS := hT.sacks
  refine g_iconst fx dX11_canSettle_0 (by unfold okI; omega) ?_
  refine g_istore_n fx dX11_canSettle_1 (by decide) rfl rfl ?_
  have loop2 : ∀ k : Nat, k ≤ (σ 224 4).toNat → itr k (csS σ) 1 = 1 → gw_W X (yX11_canSettle.cls, cX11_canSettle, 2, (some .boolean), 2, 0, 0) G (gw_Z X G (gw_M0 ad) σ (gw_D (some (vI (nCs σ))) (gw_M0 ad) (σ)) gw_no 0 0) 0 0 (gw_M0 ad) (σ) 2 [some (vR (some 223)), some (vI (k : Nat))] [] := by
    refine up_ind _ _ (fun k hk ih => ?_)
    intro he
    refine g_iload_n fx dX11_canSettle_2 rfl ?_
    refine g_aload_n fx dX11_canSettle_3 rfl ?_
    refine g_getr fx dX11_canSettle_4 fk_RX11_9 o_223 rf_223_0 ?_
    refine g_iconst fx dX11_canSettle_7 (by unfold okI; omega) ?_
    refine g_iald fx dX11_canSettle_8 o_224 (by decide) (by decide) ?_
    rw [show Int.toNat 4 = 4 from rfl]
    refine g_icmp_ge (tgt := 31) fx dX11_canSettle_9 (by decide) (fun h9 => ?_) (fun h9 => ?_)
    · refine g_aload_n fx dX11_canSettle_31 rfl ?_
      refine g_getr fx dX11_canSettle_32 fk_RX11_9 o_223 rf_223_0 ?_
      refine g_iconst fx dX11_canSettle_35 (by unfold okI; omega) ?_
      refine g_iald fx dX11_canSettle_36 o_224 (by decide) (by decide) ?_
      rw [show Int.toNat 4 = 4 from rfl]
      refine g_bipush fx dX11_canSettle_37 (by decide) ?_
      refine g_icmp_gt (tgt := 46) fx dX11_canSettle_39 (by decide) (fun h39 => ?_) (fun h39 => ?_)
      · refine g_iconst fx dX11_canSettle_46 (by unfold okI; omega) ?_
        exact g_zret fx rfl dX11_canSettle_47 (by first | exact Or.inl rfl | exact Or.inr rfl | omega) (by decide) (by decide) (gw_le.rf _) ⟨by rw [nCs, if_neg (by rw [csF, show (σ 224 4).toNat = k by omega, he]; decide)]; (repeat first | rw [if_pos (by omega)] | rw [if_neg (by omega)]) <;> rfl, rfl, rfl⟩
      · refine g_iconst fx dX11_canSettle_42 (by unfold okI; omega) ?_
        refine g_goto (tgt := 47) fx dX11_canSettle_43 (by decide) ?_
        exact g_zret fx rfl dX11_canSettle_47 (by first | exact Or.inl rfl | exact Or.inr rfl | omega) (by decide) (by decide) (gw_le.rf _) ⟨by rw [nCs, if_neg (by rw [csF, show (σ 224 4).toNat = k by omega, he]; decide)]; (repeat first | rw [if_pos (by omega)] | rw [if_neg (by omega)]) <;> rfl, rfl, rfl⟩
    · refine g_aload_n fx dX11_canSettle_12 rfl ?_
      refine g_iload_n fx dX11_canSettle_13 rfl ?_
      refine g_iconst fx dX11_canSettle_14 (by unfold okI; omega) ?_
      refine g_callVD fx dX11_canSettle_15 mv_RX11_242 my_X11_of (s_X11_of ad _ _ _ (by omega)) o_223 rfl rfl rfl (Nat.le_of_ble_eq_true rfl) (by decide) (by decide) ?_
      refine g_bipush fx dX11_canSettle_18 (by decide) ?_
      refine g_icmp_le (tgt := 25) fx dX11_canSettle_20 (by decide) (fun h20 => ?_) (fun h20 => ?_)
      · refine g_iinc1 fx dX11_canSettle_25 (by decide) rfl rfl (by unfold okI; omega) rfl ?_
        refine g_goto (tgt := 2) fx dX11_canSettle_28 (by decide) ?_
        exact gw_cg rfl (by rw [show ((k : Nat) : Int) + 1 = ((k + 1 : Nat) : Int) by omega] <;> rfl) (ih (by omega) (by rw [itr_s, csS, he, if_neg (by omega), if_neg (by omega)]))
      · refine g_iconst fx dX11_canSettle_23 (by unfold okI; omega) ?_
        exact g_zret fx rfl dX11_canSettle_24 (by first | exact Or.inl rfl | exact Or.inr rfl | omega) (by decide) (by decide) (gw_le.rf _) ⟨by rw [nCs, if_pos (by rw [csF, show (σ 224 4).toNat = k + 1 + ((σ 224 4).toNat - (k + 1)) by omega]; exact csS_z σ (k + 1) (by rw [itr_s, csS, he, if_neg (by omega), if_pos (by omega)]) _)], rfl, rfl⟩
  exact loop2 0 (Nat.zero_le _) rfl
set_option maxRecDepth 4000 in
theorem s_X11_settle (ad : Nat → Nat) (σ : Sg)  (n : Int) (hT : TW (σ 224)) : gw_Sp yX11_settle cX11_settle 6 (some .int) 17 0 0 [vR (some 223), vI n] (gw_M0 ad) σ (gw_D (some (vI (nStl σ n).1)) (gw_M0 ad) ((nStl σ n).2)) gw_no := by
  refine gw_Sp.of [some (vR (some 223)), some (vI n), none, none, none, none] (by decide +kernel) rfl (Nat.le_of_ble_eq_true rfl) ?_
  intro X G fx het hnm
  have j18 : gw_W X (yX11_settle.cls, cX11_settle, 6, (some .int), 17, 0, 0) G (gw_Z X G (gw_M0 ad) σ (gw_D (some (vI (nStl σ n).1)) (gw_M0 ad) ((nStl σ n).2)) gw_no 0 0) 0 0 (gw_M0 ad) (σ) 18 [some (vR (some 223)), some (vI n), none, none, none, none] [vI (seV n), vR (some 223)] := by
    refine g_puti fx dX11_settle_18 fk_RX11_88 o_223 ?_
    refine gw_cg (σ' := nThr σ (seV n)) rfl rfl ?_
    refine g_aload_n fx dX11_settle_21 rfl ?_
    refine g_geti fx dX11_settle_22 fk_RX11_88 (by decide) o_223 ?_
    refine gw_cgt rfl (show nThr σ (seV n) 223 5 = seV n from su_same _ _ _ _) ?_
    refine g_if_le (tgt := 30) fx dX11_settle_25 (by decide) (fun h25 => ?_) (fun h25 => ?_)
    · have hn := seV_0 h25
      refine g_aload_n fx dX11_settle_30 rfl ?_
      refine g_callVD fx dX11_settle_31 mv_RX11_387 my_X11_canSettle (s_X11_canSettle ad _ hT) o_223 rfl rfl rfl (Nat.le_of_ble_eq_true rfl) (by decide) (by decide) ?_
      refine g_if_ne (tgt := 40) fx dX11_settle_34 (by decide) (fun h34 => ?_) (fun h34 => ?_)
      · refine g_aload_n fx dX11_settle_40 rfl ?_
        refine g_getr fx dX11_settle_41 fk_RX11_9 o_223 rf_223_0 ?_
        refine g_aload_n fx dX11_settle_44 rfl ?_
        refine g_getr fx dX11_settle_45 fk_RX11_75 o_223 rf_223_36 ?_
        refine g_callSD0 fx dX11_settle_48 ms_RX11_204 my_X11_copies (s_X11_copies ad _ (by decide) (by decide)) rfl rfl (Nat.le_of_ble_eq_true rfl) (by decide) (by decide) ?_
        refine g_iconst fx dX11_settle_51 (by unfold okI; omega) ?_
        refine g_istore_n fx dX11_settle_52 (by decide) rfl rfl ?_
        have loop53 : ∀ r : Nat, r ≤ 10 → ∀ y : Sg, TW (y 224) → sgF n 10 0 (nCp (nThr σ (seV n)) 224 244) = sgF n (10 - r) r y → gw_W X (yX11_settle.cls, cX11_settle, 6, (some .int), 17, 0, 0) G (gw_Z X G (gw_M0 ad) σ (gw_D (some (vI (nStl σ n).1)) (gw_M0 ad) ((nStl σ n).2)) gw_no 0 0) 0 0 (gw_M0 ad) (y) 53 [some (vR (some 223)), some (vI n), some (vI ((r : Nat) + 1)), none, none, none] [] := by
          refine up_ind _ _ (fun r hr ihr => ?_)
          intro y hTy he
          refine g_iload_n fx dX11_settle_53 rfl ?_
          refine g_bipush fx dX11_settle_54 (by decide) ?_
          refine g_icmp_gt (tgt := 169) fx dX11_settle_56 (by decide) (fun h56 => ?_) (fun h56 => ?_)
          · refine g_aload_n fx dX11_settle_169 rfl ?_
            refine g_getr fx dX11_settle_170 fk_RX11_75 o_223 rf_223_36 ?_
            refine g_aload_n fx dX11_settle_173 rfl ?_
            refine g_getr fx dX11_settle_174 fk_RX11_9 o_223 rf_223_0 ?_
            refine g_callSD0 fx dX11_settle_177 ms_RX11_204 my_X11_copies (s_X11_copies ad _ (by decide) (by decide)) rfl rfl (Nat.le_of_ble_eq_true rfl) (by decide) (by decide) ?_
            refine g_bipush fx dX11_settle_180 (by decide) ?_
            exact g_iret fx rfl dX11_settle_182 (by decide) (by decide) (gw_le.rf _) ⟨by rw [nStl, if_neg (by omega), nStlA, if_neg h34, he, show 10 - r = 0 by omega, sgF], rfl, by rw [nStl, if_neg (by omega), nStlA, if_neg h34, he, show 10 - r = 0 by omega, sgF]⟩
          · refine g_iconst fx dX11_settle_59 (by unfold okI; omega) ?_
            refine g_istore_n fx dX11_settle_60 (by decide) rfl rfl ?_
            refine g_iconst fx dX11_settle_61 (by unfold okI; omega) ?_
            refine g_istore fx dX11_settle_62 (by decide) rfl rfl ?_
            have loop64 : ∀ k : Nat, k ≤ (y 224 4).toNat → gw_W X (yX11_settle.cls, cX11_settle, 6, (some .int), 17, 0, 0) G (gw_Z X G (gw_M0 ad) σ (gw_D (some (vI (nStl σ n).1)) (gw_M0 ad) ((nStl σ n).2)) gw_no 0 0) 0 0 (gw_M0 ad) ((sgR n y k).2) 64 [some (vR (some 223)), some (vI n), some (vI ((r : Nat) + 1)), some (vI (sgR n y k).1), some (vI (k : Nat)), none] [] := by
              refine up_ind _ ((y 224 4).toNat) (fun k hk ih64 => ?_)
              have hSy := hTy.sacks
              obtain ⟨t1, t4⟩ := sgR_kp (n := n) (by omega) hTy k (by omega)
              refine g_iload fx dX11_settle_64 rfl ?_
              refine g_aload_n fx dX11_settle_66 rfl ?_
              refine g_getr fx dX11_settle_67 fk_RX11_9 o_223 rf_223_0 ?_
              refine g_iconst fx dX11_settle_70 (by unfold okI; omega) ?_
              refine g_iald fx dX11_settle_71 o_224 (by decide) (by decide) ?_
              rw [show Int.toNat 4 = 4 from rfl]
              refine g_icmp_ge (tgt := 157) fx dX11_settle_72 (by decide) (fun h72 => ?_) (fun h72 => ?_)
              · have hR : (sgR n y k) = sgR n y (y 224 4).toNat := by rw [show (y 224 4).toNat = k by omega]
                refine g_iload_n fx dX11_settle_157 rfl ?_
                refine g_if_ne (tgt := 163) fx dX11_settle_158 (by decide) (fun h158 => ?_) (fun h158 => ?_)
                · refine g_iinc1 fx dX11_settle_163 (by decide) rfl rfl (by unfold okI; omega) rfl ?_
                  refine g_goto (tgt := 53) fx dX11_settle_166 (by decide) ?_
                  refine g_kill 3 rfl (g_kill 4 rfl ?_)
                  exact gw_cg rfl (by rw [show (((r : Nat) : Int) + 1) + 1 = ((r + 1 : Nat) : Int) + 1 by omega] <;> rfl) (ihr (by omega) _ t1 (by rw [he, show 10 - r = 10 - (r + 1) + 1 by omega, sgF, ← hR, if_neg (by omega)]))
                · refine g_iload_n fx dX11_settle_161 rfl ?_
                  exact g_iret fx rfl dX11_settle_162 (by decide) (by decide) (gw_le.rf _) ⟨by rw [nStl, if_neg (by omega), nStlA, if_neg h34, he, show 10 - r = 10 - (r + 1) + 1 by omega, sgF, ← hR, if_pos (by omega)], rfl, by rw [nStl, if_neg (by omega), nStlA, if_neg h34, he, show 10 - r = 10 - (r + 1) + 1 by omega, sgF, ← hR, if_pos (by omega)]⟩
              · refine g_aload_n fx dX11_settle_75 rfl ?_
                refine g_iload fx dX11_settle_76 rfl ?_
                refine g_iload_n fx dX11_settle_78 rfl ?_
                refine g_callVD fx dX11_settle_79 mv_RX11_383 my_X11_seeks (s_X11_seeks ad _ _ _ t1 (by omega) (by omega)) o_223 rfl rfl rfl (Nat.le_of_ble_eq_true rfl) (by decide) (by decide) ?_
                refine g_pop fx dX11_settle_82 rfl ?_
                refine gw_cg (σ' := (sgY n k (sgR n y k).2)) rfl rfl ?_
                have hTY : TW ((sgY n k (sgR n y k).2) 224) := TW_se t1 (by omega) (by omega)
                have e4Y : (sgY n k (sgR n y k).2) 224 4 = (sgR n y k).2 224 4 := nSe_6 t1 (s := ((k : Nat) : Int)) (n := n) (by omega) (by omega) 4 (by decide)
                refine g_aload_n fx dX11_settle_83 rfl ?_
                refine g_geti fx dX11_settle_84 fk_RX11_371 (by decide) o_223 ?_
                refine g_iconst fx dX11_settle_87 (by unfold okI; omega) ?_
                refine g_icmp_eq (tgt := 151) fx dX11_settle_88 (by decide) (fun h88 => ?_) (fun h88 => ?_)
                · refine g_iinc1 fx dX11_settle_151 (by decide) rfl rfl (by unfold okI; omega) rfl ?_
                  refine g_goto (tgt := 64) fx dX11_settle_154 (by decide) ?_
                  refine g_kill 5 rfl ?_
                  exact gw_cg (by rw [sgR_s, sgS]; (repeat first | rw [if_pos (by omega)] | rw [if_neg (by omega)]) <;> rfl) (by rw [sgR_s, sgS, show ((k : Nat) : Int) + 1 = ((k + 1 : Nat) : Int) by omega]; (repeat first | rw [if_pos (by omega)] | rw [if_neg (by omega)]) <;> rfl) (ih64 (by omega))
                · refine g_aload_n fx dX11_settle_91 rfl ?_
                  refine g_geti fx dX11_settle_92 fk_RX11_374 (by decide) o_223 ?_
                  refine g_aload_n fx dX11_settle_95 rfl ?_
                  refine g_iload fx dX11_settle_96 rfl ?_
                  refine g_callVD fx dX11_settle_98 mv_RX11_368 my_X11_priceOf (s_X11_priceOf ad _ _ hTY (by omega)) o_223 rfl rfl rfl (Nat.le_of_ble_eq_true rfl) (by decide) (by decide) ?_
                  refine g_icmp_lt (tgt := 107) fx dX11_settle_101 (by decide) (fun h101 => ?_) (fun h101 => ?_)
                  · obtain ⟨p1, p2, p3, p4, p5⟩ := sgP_pre (n := n) (by omega) (s := k) t1 (by omega) (by omega)
                    refine g_iconst fx dX11_settle_107 (by unfold okI; omega) ?_
                    refine g_istore fx dX11_settle_108 (by decide) rfl rfl ?_
                    have loop110 : ∀ i : Nat, i ≤ ((nRu (sgY n k (sgR n y k).2)) 223 34).toNat → gw_W X (yX11_settle.cls, cX11_settle, 6, (some .int), 17, 0, 0) G (gw_Z X G (gw_M0 ad) σ (gw_D (some (vI (nStl σ n).1)) (gw_M0 ad) ((nStl σ n).2)) gw_no 0 0) 0 0 (gw_M0 ad) ((itr i slS (nRu (sgY n k (sgR n y k).2)))) 110 [some (vR (some 223)), some (vI n), some (vI ((r : Nat) + 1)), some (vI (sgR n y k).1), some (vI (k : Nat)), some (vI (i : Nat))] [] := by
                      refine up_ind _ (((nRu (sgY n k (sgR n y k).2)) 223 34).toNat) (fun i hi ih => ?_)
                      have e34 : (itr i slS (nRu (sgY n k (sgR n y k).2))) 223 34 = (nRu (sgY n k (sgR n y k).2)) 223 34 := by rw [slS_ne _ _ (by decide)]
                      refine g_iload fx dX11_settle_110 rfl ?_
                      refine g_aload_n fx dX11_settle_112 rfl ?_
                      refine g_geti fx dX11_settle_113 fk_RX11_371 (by decide) o_223 ?_
                      refine g_icmp_ge (tgt := 139) fx dX11_settle_116 (by decide) (fun h116 => ?_) (fun h116 => ?_)
                      · refine gw_cg (show itr i slS (nRu (sgY n k (sgR n y k).2)) = sgL (nRu (sgY n k (sgR n y k).2)) by rw [sgL, show ((nRu (sgY n k (sgR n y k).2)) 223 34).toNat = i by omega]) rfl ?_
                        refine g_aload_n fx dX11_settle_139 rfl ?_
                        refine g_iload fx dX11_settle_140 rfl ?_
                        refine g_aload_n fx dX11_settle_142 rfl ?_
                        refine g_geti fx dX11_settle_143 fk_RX11_371 (by decide) o_223 ?_
                        refine gw_cgt rfl (show sgL (nRu (sgY n k (sgR n y k).2)) 223 34 = (nRu (sgY n k (sgR n y k).2)) 223 34 by rw [sgL, slS_ne _ _ (by decide)]) ?_
                        refine g_callVD0 fx dX11_settle_146 mv_RX11_261 my_X11_parts (s_X11_parts ad _ _ _ p1 (by omega) p3 p4) o_223 rfl rfl rfl (Nat.le_of_ble_eq_true rfl) (by decide) (by decide) ?_
                        refine g_iconst fx dX11_settle_149 (by unfold okI; omega) ?_
                        refine g_istore_n fx dX11_settle_150 (by decide) rfl rfl ?_
                        refine g_iinc1 fx dX11_settle_151 (by decide) rfl rfl (by unfold okI; omega) rfl ?_
                        refine g_goto (tgt := 64) fx dX11_settle_154 (by decide) ?_
                        refine g_kill 5 rfl ?_
                        exact gw_cg (by rw [sgR_s, sgS]; (repeat first | rw [if_pos (by omega)] | rw [if_neg (by omega)]) <;> rfl) (by rw [sgR_s, sgS, show ((k : Nat) : Int) + 1 = ((k + 1 : Nat) : Int) by omega]; (repeat first | rw [if_pos (by omega)] | rw [if_neg (by omega)]) <;> rfl) (ih64 (by omega))
                      · refine g_aload_n fx dX11_settle_119 rfl ?_
                        refine g_getr fx dX11_settle_120 fk_RX11_33 o_223 rf_223_17 ?_
                        refine g_iload fx dX11_settle_123 rfl ?_
                        refine g_aload_n fx dX11_settle_125 rfl ?_
                        refine g_getr fx dX11_settle_126 fk_RX11_72 o_223 rf_223_33 ?_
                        refine g_iload fx dX11_settle_129 rfl ?_
                        refine g_iald fx dX11_settle_131 o_243 (by omega) (by show _ < ((8 : Nat) : Int); omega) ?_
                        rw [show ((i : Nat) : Int).toNat = i from rfl]
                        refine g_iast fx dX11_settle_132 o_230 (by omega) (by show _ < ((8 : Nat) : Int); omega) ?_
                        refine g_iinc1 fx dX11_settle_133 (by decide) rfl rfl (by unfold okI; omega) rfl ?_
                        refine g_goto (tgt := 110) fx dX11_settle_136 (by decide) ?_
                        exact gw_cg (by rw [itr_s, slS] <;> rfl) (by rw [show ((i : Nat) : Int) + 1 = ((i + 1 : Nat) : Int) by omega] <;> rfl) (ih (by omega))
                    exact loop110 0 (Nat.zero_le _)
                  · refine g_goto (tgt := 151) fx dX11_settle_104 (by decide) ?_
                    refine g_iinc1 fx dX11_settle_151 (by decide) rfl rfl (by unfold okI; omega) rfl ?_
                    refine g_goto (tgt := 64) fx dX11_settle_154 (by decide) ?_
                    refine g_kill 5 rfl ?_
                    exact gw_cg (by rw [sgR_s, sgS]; (repeat first | rw [if_pos (by omega)] | rw [if_neg (by omega)]) <;> rfl) (by rw [sgR_s, sgS, show ((k : Nat) : Int) + 1 = ((k + 1 : Nat) : Int) by omega]; (repeat first | rw [if_pos (by omega)] | rw [if_neg (by omega)]) <;> rfl) (ih64 (by omega))
            exact loop64 0 (Nat.zero_le _)
        exact loop53 0 (Nat.zero_le _) _ (TW_cp (x := (nThr σ (seV n))) hT (by decide) (by decide)) rfl
      · refine g_bipush fx dX11_settle_37 (by decide) ?_
        exact g_iret fx rfl dX11_settle_39 (by decide) (by decide) (gw_le.rf _) ⟨by rw [nStl, if_neg (by omega), nStlA, if_pos h34], rfl, by rw [nStl, if_neg (by omega), nStlA, if_pos h34]⟩
    · refine g_iconst fx dX11_settle_28 (by unfold okI; omega) ?_
      exact g_iret fx rfl dX11_settle_29 (by decide) (by decide) (gw_le.rf _) ⟨by rw [nStl, if_pos (by omega)], rfl, by rw [nStl, if_pos (by omega)]⟩
  refine g_aload_n fx dX11_settle_0 rfl ?_
  refine g_iload_n fx dX11_settle_1 rfl ?_
  refine g_i2l fx dX11_settle_2 ?_
  refine g_lconst1 fx dX11_settle_3 ?_
  refine g_ldcL fx dX11_settle_4 kc_RX11_338 (by unfold okJ; omega) ?_
  refine g_callSD fx dX11_settle_7 ms_RX11_147 my_X11_within (s_X11_within ad _ _ _ _) rfl rfl (Nat.le_of_ble_eq_true rfl) (by decide) (by decide) ?_
  refine g_if_eq (tgt := 17) fx dX11_settle_10 (by decide) (fun h10 => ?_) (fun h10 => ?_)
  · refine g_iconst fx dX11_settle_17 (by unfold okI; omega) ?_
    exact gw_cgt rfl (by rw [seV]; (repeat first | rw [if_pos (by omega)] | rw [if_neg (by omega)]) <;> rfl) j18
  · refine g_iconst fx dX11_settle_13 (by unfold okI; omega) ?_
    refine g_goto (tgt := 18) fx dX11_settle_14 (by decide) ?_
    exact gw_cgt rfl (by rw [seV]; (repeat first | rw [if_pos (by omega)] | rw [if_neg (by omega)]) <;> rfl) j18
set_option maxRecDepth 4000 in
theorem s_X11_fees_3 (ad : Nat → Nat) (σ : Sg)  (s : Int) (left : Int) (most : Int) (dp : Int) (n : Int) (whole : Int) (hd9 : dp = ((3 : Nat) : Int)) (hT : TW (σ 224)) (hs : 0 ≤ s ∧ s < σ 224 4) (h0 : 0 ≤ left) (h9 : left ≤ 99) (hz : left = 0 → 1 ≤ 3) (ht : Tr9 σ 3) (hn : n ≤ 3) (hB : Bs σ s ≤ 50) : gw_Sp yX11_fees cX11_fees 8 none 7 0 0 [vR (some 223), vI s, vI left, vI most, vI dp, vI n, vI whole] (gw_M0 ad) σ (gw_D none (gw_M0 ad) (feF s n whole 1 left most 3 σ)) gw_no := by
  refine gw_Sp.of [some (vR (some 223)), some (vI s), some (vI left), some (vI most), some (vI dp), some (vI n), some (vI whole), none] (by decide +kernel) rfl (Nat.le_of_ble_eq_true rfl) ?_
  intro X G fx het hnm
  subst hd9
  have hS := hT.sacks
  refine g_iload_n fx dX11_fees_0 rfl ?_
  refine g_if_ne (tgt := 98) fx dX11_fees_1 (by decide) (fun h1 => ?_) (fun h1 => ?_)
  · refine g_iload_n fx dX11_fees_98 rfl ?_
    refine g_iload_n fx dX11_fees_99 rfl ?_
    refine g_min fx dX11_fees_100 mm_RX11_314 (by decide) (by decide) (by decide) (Nat.le_of_ble_eq_true rfl) ?_
    refine g_istore fx dX11_fees_103 (by decide) rfl rfl ?_
    have loop105 : ∀ i : Nat, i ≤ (min left most).toNat → (0 < i → ((3 : Nat) : Int) < n) → gw_W X (yX11_fees.cls, cX11_fees, 8, none, 7, 0, 0) G (gw_Z X G (gw_M0 ad) σ (gw_D none (gw_M0 ad) (feF s n whole 1 left most 3 σ)) gw_no 0 0) 0 0 (gw_M0 ad) ((itr i (feS (feF s n whole 0) left (min left most) 3) σ)) 105 [some (vR (some 223)), some (vI s), some (vI left), some (vI most), some (vI ((3 : Nat) : Int)), some (vI n), some (vI whole), some (vI (min left most - ((i : Nat) : Int)))] [] := by
      refine up_ind _ _ (fun i hi ih => ?_)
      intro hdi
      refine g_iload fx dX11_fees_105 rfl ?_
      refine g_if_le (tgt := 151) fx dX11_fees_107 (by decide) (fun h107 => ?_) (fun h107 => ?_)
      · exact g_vret fx rfl dX11_fees_151 (by decide) (by decide) (gw_le.rf _) ⟨rfl, rfl, by
            rw [feF, if_neg h1]
            by_cases q : ((3 : Nat) : Int) < n
            · rw [if_pos q, show (min left most).toNat = i by omega]
            · rw [if_neg q, show i = 0 by omega]; rfl⟩
      · refine g_iload fx dX11_fees_110 rfl ?_
        refine g_iload fx dX11_fees_112 rfl ?_
        refine g_icmp_ge (tgt := 151) fx dX11_fees_114 (by decide) (fun h114 => ?_) (fun h114 => ?_)
        · exact g_vret fx rfl dX11_fees_151 (by decide) (by decide) (gw_le.rf _) ⟨rfl, rfl, by
              rw [feF, if_neg h1]
              by_cases q : ((3 : Nat) : Int) < n
              · rw [if_pos q, show (min left most).toNat = i by omega]
              · rw [if_neg q, show i = 0 by omega]; rfl⟩
        · exfalso; omega
    exact gw_cg rfl (by rw [show min left most - ((0 : Nat) : Int) = min left most by omega] <;> rfl) (loop105 0 (Nat.zero_le _) (fun q => by omega))
  · refine g_iload fx dX11_fees_4 rfl ?_
    refine g_iconst fx dX11_fees_6 (by unfold okI; omega) ?_
    refine g_icmp_ne (tgt := 11) fx dX11_fees_7 (by decide) (fun h7 => ?_) (fun h7 => absurd h7 (by decide))
    refine g_iconst fx dX11_fees_11 (by unfold okI; omega) ?_
    refine g_istore fx dX11_fees_12 (by decide) rfl rfl ?_
    have loop14 : ∀ k : Nat, k ≤ 3 → gw_W X (yX11_fees.cls, cX11_fees, 8, none, 7, 0, 0) G (gw_Z X G (gw_M0 ad) σ (gw_D none (gw_M0 ad) (feF s n whole 1 left most 3 σ)) gw_no 0 0) 0 0 (gw_M0 ad) ((itr k jgS σ)) 14 [some (vR (some 223)), some (vI s), some (vI left), some (vI most), some (vI ((3 : Nat) : Int)), some (vI n), some (vI whole), some (vI (k : Nat))] [] := by
      refine up_ind _ (3) (fun k hk ih => ?_)
      refine g_iload fx dX11_fees_14 rfl ?_
      refine g_iload fx dX11_fees_16 rfl ?_
      refine g_icmp_ge (tgt := 41) fx dX11_fees_18 (by decide) (fun h18 => ?_) (fun h18 => ?_)
      · obtain rfl : k = 3 := by omega
        have e : itr 3 jgS σ 224 = σ 224 := jgS_ne 3 σ (by decide)
        obtain ⟨k1, k2, k3⟩ := jg1_kp hT hs.1 hs.2 (n := 3) (by decide) ht (by unfold Bs at hB; omega)
        obtain ⟨l1, l2, l3⟩ := jg2_kp hT hs.1 hs.2 (n := 3) (by decide) ht (by unfold Bs at hB; omega)
        have hP2 := l1.p60
        refine g_aload_n fx dX11_fees_41 rfl ?_
        refine g_iload_n fx dX11_fees_42 rfl ?_
        refine g_iload fx dX11_fees_43 rfl ?_
        refine g_callVD0 fx dX11_fees_45 mv_RX11_261 my_X11_parts (s_X11_parts ad _ _ _ (show TW (itr 3 jgS σ 224) by rw [e]; exact hT) (by rw [e]; exact hs) (by omega) (by rw [nOf_of e, e]; unfold Bs at hB; omega)) o_223 rfl rfl rfl (Nat.le_of_ble_eq_true rfl) (by decide) (by decide) ?_
        refine gw_cg (σ' := jg1 σ s 3) rfl rfl ?_
        refine g_aload_n fx dX11_fees_48 rfl ?_
        refine g_callVD0 fx dX11_fees_49 mv_RX11_323 my_X11_runs (s_X11_runs ad _ k1) o_223 rfl rfl rfl (Nat.le_of_ble_eq_true rfl) (by decide) (by decide) ?_
        refine gw_cg (σ' := (jg2 σ s 3)) rfl rfl ?_
        refine g_iload fx dX11_fees_52 rfl ?_
        refine g_aload_n fx dX11_fees_54 rfl ?_
        refine g_iload_n fx dX11_fees_55 rfl ?_
        refine g_iconst fx dX11_fees_56 (by unfold okI; omega) ?_
        refine g_callVD fx dX11_fees_57 mv_RX11_242 my_X11_of (s_X11_of ad _ _ _ (by omega)) o_223 rfl rfl rfl (Nat.le_of_ble_eq_true rfl) (by decide) (by decide) ?_
        refine g_aload_n fx dX11_fees_60 rfl ?_
        refine g_iload_n fx dX11_fees_61 rfl ?_
        refine g_callVD fx dX11_fees_62 mv_RX11_320 my_X11_waitOf (s_X11_waitOf ad _ _ (by omega) (by omega)) o_223 rfl rfl rfl (Nat.le_of_ble_eq_true rfl) (by decide) (by decide) ?_
        refine g_imul fx dX11_fees_65 ?_
        refine g_isub fx dX11_fees_66 ?_
        refine gw_cgt rfl (show _ = feG (jg2 σ s 3) s whole from rfl) ?_
        refine g_istore fx dX11_fees_67 (by decide) rfl rfl ?_
        refine g_iload fx dX11_fees_69 rfl ?_
        refine g_if_le (tgt := 97) fx dX11_fees_71 (by decide) (fun h71 => ?_) (fun h71 => ?_)
        · exact g_vret fx rfl dX11_fees_97 (by decide) (by decide) (gw_le.rf _) ⟨rfl, rfl, by first | rw [feF, if_pos h1, feL, if_neg (by decide), feU, if_pos (by omega)] | rw [feF, if_pos h1, feL, if_neg (by decide), feU, if_neg (by omega)]⟩
        · refine g_aload_n fx dX11_fees_74 rfl ?_
          refine g_aload_n fx dX11_fees_75 rfl ?_
          refine g_geti fx dX11_fees_76 fk_RX11_391 (by decide) o_223 ?_
          refine g_iload fx dX11_fees_79 rfl ?_
          refine g_iload fx dX11_fees_81 rfl ?_
          refine g_iadd fx dX11_fees_83 ?_
          refine g_iconst fx dX11_fees_84 (by unfold okI; omega) ?_
          refine g_isub fx dX11_fees_85 ?_
          refine g_iload fx dX11_fees_86 rfl ?_
          refine g_iconst fx dX11_fees_88 (by unfold okI; omega) ?_
          refine g_isub1 fx dX11_fees_89 (by unfold okI; omega) ?_
          refine g_idiv fx dX11_fees_90 (by omega) ?_
          refine g_max fx dX11_fees_91 mm_RX11_268 (by decide) (by decide) (by decide) (Nat.le_of_ble_eq_true rfl) ?_
          refine g_puti fx dX11_fees_94 fk_RX11_391 o_223 ?_
          exact g_vret fx rfl dX11_fees_97 (by decide) (by decide) (gw_le.rf _) ⟨rfl, rfl, by first | rw [feF, if_pos h1, feL, if_neg (by decide), feU, if_pos (by omega)] | rw [feF, if_pos h1, feL, if_neg (by decide), feU, if_neg (by omega)]⟩
      · refine g_aload_n fx dX11_fees_21 rfl ?_
        refine g_getr fx dX11_fees_22 fk_RX11_33 o_223 rf_223_17 ?_
        refine g_iload fx dX11_fees_25 rfl ?_
        refine g_aload_n fx dX11_fees_27 rfl ?_
        refine g_getr fx dX11_fees_28 fk_RX11_69 o_223 rf_223_32 ?_
        refine g_iload fx dX11_fees_31 rfl ?_
        refine g_iald fx dX11_fees_33 o_242 (by omega) (by show _ < ((8 : Nat) : Int); omega) ?_
        rw [show ((k : Nat) : Int).toNat = k from rfl]
        refine g_iast fx dX11_fees_34 o_230 (by omega) (by show _ < ((8 : Nat) : Int); omega) ?_
        refine g_iinc1 fx dX11_fees_35 (by decide) rfl rfl (by unfold okI; omega) rfl ?_
        refine g_goto (tgt := 14) fx dX11_fees_38 (by decide) ?_
        exact gw_cg (by rw [itr_s, jgS] <;> rfl) (by rw [show ((k : Nat) : Int) + 1 = ((k + 1 : Nat) : Int) by omega] <;> rfl) (ih (by omega))
    exact loop14 0 (Nat.zero_le _)
set_option maxRecDepth 4000 in
theorem s_X11_fees_2 (ad : Nat → Nat) (σ : Sg)  (s : Int) (left : Int) (most : Int) (dp : Int) (n : Int) (whole : Int) (hd9 : dp = ((2 : Nat) : Int)) (hT : TW (σ 224)) (hs : 0 ≤ s ∧ s < σ 224 4) (h0 : 0 ≤ left) (h9 : left ≤ 99) (hz : left = 0 → 1 ≤ 2) (ht : Tr9 σ 2) (hn : n ≤ 3) (hB : Bs σ s ≤ 50) : gw_Sp yX11_fees cX11_fees 8 none 8 0 0 [vR (some 223), vI s, vI left, vI most, vI dp, vI n, vI whole] (gw_M0 ad) σ (gw_D none (gw_M0 ad) (feF s n whole 2 left most 2 σ)) gw_no := by
  refine gw_Sp.of [some (vR (some 223)), some (vI s), some (vI left), some (vI most), some (vI dp), some (vI n), some (vI whole), none] (by decide +kernel) rfl (Nat.le_of_ble_eq_true rfl) ?_
  intro X G fx het hnm
  subst hd9
  have hS := hT.sacks
  refine g_iload_n fx dX11_fees_0 rfl ?_
  refine g_if_ne (tgt := 98) fx dX11_fees_1 (by decide) (fun h1 => ?_) (fun h1 => ?_)
  · refine g_iload_n fx dX11_fees_98 rfl ?_
    refine g_iload_n fx dX11_fees_99 rfl ?_
    refine g_min fx dX11_fees_100 mm_RX11_314 (by decide) (by decide) (by decide) (Nat.le_of_ble_eq_true rfl) ?_
    refine g_istore fx dX11_fees_103 (by decide) rfl rfl ?_
    have loop105 : ∀ i : Nat, i ≤ (min left most).toNat → (0 < i → ((2 : Nat) : Int) < n) → gw_W X (yX11_fees.cls, cX11_fees, 8, none, 8, 0, 0) G (gw_Z X G (gw_M0 ad) σ (gw_D none (gw_M0 ad) (feF s n whole 2 left most 2 σ)) gw_no 0 0) 0 0 (gw_M0 ad) ((itr i (feS (feF s n whole 1) left (min left most) 2) σ)) 105 [some (vR (some 223)), some (vI s), some (vI left), some (vI most), some (vI ((2 : Nat) : Int)), some (vI n), some (vI whole), some (vI (min left most - ((i : Nat) : Int)))] [] := by
      refine up_ind _ _ (fun i hi ih => ?_)
      intro hdi
      refine g_iload fx dX11_fees_105 rfl ?_
      refine g_if_le (tgt := 151) fx dX11_fees_107 (by decide) (fun h107 => ?_) (fun h107 => ?_)
      · exact g_vret fx rfl dX11_fees_151 (by decide) (by decide) (gw_le.rf _) ⟨rfl, rfl, by
            rw [feF, if_neg h1]
            by_cases q : ((2 : Nat) : Int) < n
            · rw [if_pos q, show (min left most).toNat = i by omega]
            · rw [if_neg q, show i = 0 by omega]; rfl⟩
      · refine g_iload fx dX11_fees_110 rfl ?_
        refine g_iload fx dX11_fees_112 rfl ?_
        refine g_icmp_ge (tgt := 151) fx dX11_fees_114 (by decide) (fun h114 => ?_) (fun h114 => ?_)
        · exact g_vret fx rfl dX11_fees_151 (by decide) (by decide) (gw_le.rf _) ⟨rfl, rfl, by
              rw [feF, if_neg h1]
              by_cases q : ((2 : Nat) : Int) < n
              · rw [if_pos q, show (min left most).toNat = i by omega]
              · rw [if_neg q, show i = 0 by omega]; rfl⟩
        · have hdn : ((2 : Nat) : Int) < n := by omega
          have hk1 := feI_kp s n whole 1 (feF_kp s n whole hn 1) (left := left) (most := most) (d := 2) hT hs h9 (by decide) ht hB i (by omega)
          refine g_aload_n fx dX11_fees_117 rfl ?_
          refine g_getr fx dX11_fees_118 fk_RX11_69 o_223 rf_223_32 ?_
          refine g_iload fx dX11_fees_121 rfl ?_
          refine g_iload fx dX11_fees_123 rfl ?_
          refine g_iast fx dX11_fees_125 o_242 (by omega) (by show _ < ((8 : Nat) : Int); omega) ?_
          rw [show ((2 : Nat) : Int).toNat = 2 from rfl]
          have ht2 : Tr9 (su (itr i (feS (feF s n whole 1) left (min left most) 2) σ) 242 2 (min left most - ((i : Nat) : Int))) 3 := by
            intro k hk
            by_cases e : k = 2
            · subst e; rw [su_same]; omega
            · rw [su_ne _ _ (Or.inr e), hk1.1.2.2 k (by omega)]; exact ht k (by omega)
          refine g_aload_n fx dX11_fees_126 rfl ?_
          refine g_iload_n fx dX11_fees_127 rfl ?_
          refine g_iload_n fx dX11_fees_128 rfl ?_
          refine g_iload fx dX11_fees_129 rfl ?_
          refine g_isub1 fx dX11_fees_131 (by unfold okI; omega) ?_
          refine g_iload fx dX11_fees_132 rfl ?_
          refine g_iload fx dX11_fees_134 rfl ?_
          refine g_iconst fx dX11_fees_136 (by unfold okI; omega) ?_
          refine g_iadd1 fx dX11_fees_137 (by unfold okI; omega) ?_
          refine g_iload fx dX11_fees_138 rfl ?_
          refine g_iload fx dX11_fees_140 rfl ?_
          refine g_callVD0 fx dX11_fees_142 mv_RX11_394 my_X11_fees (s_X11_fees_3 ad _ _ _ _ _ _ _ (by decide) (show TW ((itr i (feS (feF s n whole 1) left (min left most) 2) σ) 224) from hk1.1.1) (show 0 ≤ s ∧ s < (itr i (feS (feF s n whole 1) left (min left most) 2) σ) 224 4 by rw [hk1.1.2.1]; exact hs) (by omega) (by omega) (fun _ => by decide) ht2 hn (show Bs (itr i (feS (feF s n whole 1) left (min left most) 2) σ) s ≤ 50 by rw [hk1.2]; exact hB)) o_223 rfl rfl rfl (Nat.le_of_ble_eq_true rfl) (by decide) (by decide) ?_
          refine g_iinc1 fx dX11_fees_145 (by decide) rfl rfl (by unfold okI; omega) rfl ?_
          refine g_goto (tgt := 105) fx dX11_fees_148 (by decide) ?_
          exact gw_cg (by rw [itr_s, feS] <;> rfl) (by rw [show min left most - ((i : Nat) : Int) + (-1) = min left most - ((i + 1 : Nat) : Int) by omega] <;> rfl) (ih (by omega) (fun _ => hdn))
    exact gw_cg rfl (by rw [show min left most - ((0 : Nat) : Int) = min left most by omega] <;> rfl) (loop105 0 (Nat.zero_le _) (fun q => by omega))
  · refine g_iload fx dX11_fees_4 rfl ?_
    refine g_iconst fx dX11_fees_6 (by unfold okI; omega) ?_
    refine g_icmp_ne (tgt := 11) fx dX11_fees_7 (by decide) (fun h7 => ?_) (fun h7 => absurd h7 (by decide))
    refine g_iconst fx dX11_fees_11 (by unfold okI; omega) ?_
    refine g_istore fx dX11_fees_12 (by decide) rfl rfl ?_
    have loop14 : ∀ k : Nat, k ≤ 2 → gw_W X (yX11_fees.cls, cX11_fees, 8, none, 8, 0, 0) G (gw_Z X G (gw_M0 ad) σ (gw_D none (gw_M0 ad) (feF s n whole 2 left most 2 σ)) gw_no 0 0) 0 0 (gw_M0 ad) ((itr k jgS σ)) 14 [some (vR (some 223)), some (vI s), some (vI left), some (vI most), some (vI ((2 : Nat) : Int)), some (vI n), some (vI whole), some (vI (k : Nat))] [] := by
      refine up_ind _ (2) (fun k hk ih => ?_)
      refine g_iload fx dX11_fees_14 rfl ?_
      refine g_iload fx dX11_fees_16 rfl ?_
      refine g_icmp_ge (tgt := 41) fx dX11_fees_18 (by decide) (fun h18 => ?_) (fun h18 => ?_)
      · obtain rfl : k = 2 := by omega
        have e : itr 2 jgS σ 224 = σ 224 := jgS_ne 2 σ (by decide)
        obtain ⟨k1, k2, k3⟩ := jg1_kp hT hs.1 hs.2 (n := 2) (by decide) ht (by unfold Bs at hB; omega)
        obtain ⟨l1, l2, l3⟩ := jg2_kp hT hs.1 hs.2 (n := 2) (by decide) ht (by unfold Bs at hB; omega)
        have hP2 := l1.p60
        refine g_aload_n fx dX11_fees_41 rfl ?_
        refine g_iload_n fx dX11_fees_42 rfl ?_
        refine g_iload fx dX11_fees_43 rfl ?_
        refine g_callVD0 fx dX11_fees_45 mv_RX11_261 my_X11_parts (s_X11_parts ad _ _ _ (show TW (itr 2 jgS σ 224) by rw [e]; exact hT) (by rw [e]; exact hs) (by omega) (by rw [nOf_of e, e]; unfold Bs at hB; omega)) o_223 rfl rfl rfl (Nat.le_of_ble_eq_true rfl) (by decide) (by decide) ?_
        refine gw_cg (σ' := jg1 σ s 2) rfl rfl ?_
        refine g_aload_n fx dX11_fees_48 rfl ?_
        refine g_callVD0 fx dX11_fees_49 mv_RX11_323 my_X11_runs (s_X11_runs ad _ k1) o_223 rfl rfl rfl (Nat.le_of_ble_eq_true rfl) (by decide) (by decide) ?_
        refine gw_cg (σ' := (jg2 σ s 2)) rfl rfl ?_
        refine g_iload fx dX11_fees_52 rfl ?_
        refine g_aload_n fx dX11_fees_54 rfl ?_
        refine g_iload_n fx dX11_fees_55 rfl ?_
        refine g_iconst fx dX11_fees_56 (by unfold okI; omega) ?_
        refine g_callVD fx dX11_fees_57 mv_RX11_242 my_X11_of (s_X11_of ad _ _ _ (by omega)) o_223 rfl rfl rfl (Nat.le_of_ble_eq_true rfl) (by decide) (by decide) ?_
        refine g_aload_n fx dX11_fees_60 rfl ?_
        refine g_iload_n fx dX11_fees_61 rfl ?_
        refine g_callVD fx dX11_fees_62 mv_RX11_320 my_X11_waitOf (s_X11_waitOf ad _ _ (by omega) (by omega)) o_223 rfl rfl rfl (Nat.le_of_ble_eq_true rfl) (by decide) (by decide) ?_
        refine g_imul fx dX11_fees_65 ?_
        refine g_isub fx dX11_fees_66 ?_
        refine gw_cgt rfl (show _ = feG (jg2 σ s 2) s whole from rfl) ?_
        refine g_istore fx dX11_fees_67 (by decide) rfl rfl ?_
        refine g_iload fx dX11_fees_69 rfl ?_
        refine g_if_le (tgt := 97) fx dX11_fees_71 (by decide) (fun h71 => ?_) (fun h71 => ?_)
        · exact g_vret fx rfl dX11_fees_97 (by decide) (by decide) (gw_le.rf _) ⟨rfl, rfl, by first | rw [feF, if_pos h1, feL, if_neg (by decide), feU, if_pos (by omega)] | rw [feF, if_pos h1, feL, if_neg (by decide), feU, if_neg (by omega)]⟩
        · refine g_aload_n fx dX11_fees_74 rfl ?_
          refine g_aload_n fx dX11_fees_75 rfl ?_
          refine g_geti fx dX11_fees_76 fk_RX11_391 (by decide) o_223 ?_
          refine g_iload fx dX11_fees_79 rfl ?_
          refine g_iload fx dX11_fees_81 rfl ?_
          refine g_iadd fx dX11_fees_83 ?_
          refine g_iconst fx dX11_fees_84 (by unfold okI; omega) ?_
          refine g_isub fx dX11_fees_85 ?_
          refine g_iload fx dX11_fees_86 rfl ?_
          refine g_iconst fx dX11_fees_88 (by unfold okI; omega) ?_
          refine g_isub1 fx dX11_fees_89 (by unfold okI; omega) ?_
          refine g_idiv fx dX11_fees_90 (by omega) ?_
          refine g_max fx dX11_fees_91 mm_RX11_268 (by decide) (by decide) (by decide) (Nat.le_of_ble_eq_true rfl) ?_
          refine g_puti fx dX11_fees_94 fk_RX11_391 o_223 ?_
          exact g_vret fx rfl dX11_fees_97 (by decide) (by decide) (gw_le.rf _) ⟨rfl, rfl, by first | rw [feF, if_pos h1, feL, if_neg (by decide), feU, if_pos (by omega)] | rw [feF, if_pos h1, feL, if_neg (by decide), feU, if_neg (by omega)]⟩
      · refine g_aload_n fx dX11_fees_21 rfl ?_
        refine g_getr fx dX11_fees_22 fk_RX11_33 o_223 rf_223_17 ?_
        refine g_iload fx dX11_fees_25 rfl ?_
        refine g_aload_n fx dX11_fees_27 rfl ?_
        refine g_getr fx dX11_fees_28 fk_RX11_69 o_223 rf_223_32 ?_
        refine g_iload fx dX11_fees_31 rfl ?_
        refine g_iald fx dX11_fees_33 o_242 (by omega) (by show _ < ((8 : Nat) : Int); omega) ?_
        rw [show ((k : Nat) : Int).toNat = k from rfl]
        refine g_iast fx dX11_fees_34 o_230 (by omega) (by show _ < ((8 : Nat) : Int); omega) ?_
        refine g_iinc1 fx dX11_fees_35 (by decide) rfl rfl (by unfold okI; omega) rfl ?_
        refine g_goto (tgt := 14) fx dX11_fees_38 (by decide) ?_
        exact gw_cg (by rw [itr_s, jgS] <;> rfl) (by rw [show ((k : Nat) : Int) + 1 = ((k + 1 : Nat) : Int) by omega] <;> rfl) (ih (by omega))
    exact loop14 0 (Nat.zero_le _)
set_option maxRecDepth 4000 in
theorem s_X11_fees_1 (ad : Nat → Nat) (σ : Sg)  (s : Int) (left : Int) (most : Int) (dp : Int) (n : Int) (whole : Int) (hd9 : dp = ((1 : Nat) : Int)) (hT : TW (σ 224)) (hs : 0 ≤ s ∧ s < σ 224 4) (h0 : 0 ≤ left) (h9 : left ≤ 99) (hz : left = 0 → 1 ≤ 1) (ht : Tr9 σ 1) (hn : n ≤ 3) (hB : Bs σ s ≤ 50) : gw_Sp yX11_fees cX11_fees 8 none 9 0 0 [vR (some 223), vI s, vI left, vI most, vI dp, vI n, vI whole] (gw_M0 ad) σ (gw_D none (gw_M0 ad) (feF s n whole 3 left most 1 σ)) gw_no := by
  refine gw_Sp.of [some (vR (some 223)), some (vI s), some (vI left), some (vI most), some (vI dp), some (vI n), some (vI whole), none] (by decide +kernel) rfl (Nat.le_of_ble_eq_true rfl) ?_
  intro X G fx het hnm
  subst hd9
  have hS := hT.sacks
  refine g_iload_n fx dX11_fees_0 rfl ?_
  refine g_if_ne (tgt := 98) fx dX11_fees_1 (by decide) (fun h1 => ?_) (fun h1 => ?_)
  · refine g_iload_n fx dX11_fees_98 rfl ?_
    refine g_iload_n fx dX11_fees_99 rfl ?_
    refine g_min fx dX11_fees_100 mm_RX11_314 (by decide) (by decide) (by decide) (Nat.le_of_ble_eq_true rfl) ?_
    refine g_istore fx dX11_fees_103 (by decide) rfl rfl ?_
    have loop105 : ∀ i : Nat, i ≤ (min left most).toNat → (0 < i → ((1 : Nat) : Int) < n) → gw_W X (yX11_fees.cls, cX11_fees, 8, none, 9, 0, 0) G (gw_Z X G (gw_M0 ad) σ (gw_D none (gw_M0 ad) (feF s n whole 3 left most 1 σ)) gw_no 0 0) 0 0 (gw_M0 ad) ((itr i (feS (feF s n whole 2) left (min left most) 1) σ)) 105 [some (vR (some 223)), some (vI s), some (vI left), some (vI most), some (vI ((1 : Nat) : Int)), some (vI n), some (vI whole), some (vI (min left most - ((i : Nat) : Int)))] [] := by
      refine up_ind _ _ (fun i hi ih => ?_)
      intro hdi
      refine g_iload fx dX11_fees_105 rfl ?_
      refine g_if_le (tgt := 151) fx dX11_fees_107 (by decide) (fun h107 => ?_) (fun h107 => ?_)
      · exact g_vret fx rfl dX11_fees_151 (by decide) (by decide) (gw_le.rf _) ⟨rfl, rfl, by
            rw [feF, if_neg h1]
            by_cases q : ((1 : Nat) : Int) < n
            · rw [if_pos q, show (min left most).toNat = i by omega]
            · rw [if_neg q, show i = 0 by omega]; rfl⟩
      · refine g_iload fx dX11_fees_110 rfl ?_
        refine g_iload fx dX11_fees_112 rfl ?_
        refine g_icmp_ge (tgt := 151) fx dX11_fees_114 (by decide) (fun h114 => ?_) (fun h114 => ?_)
        · exact g_vret fx rfl dX11_fees_151 (by decide) (by decide) (gw_le.rf _) ⟨rfl, rfl, by
              rw [feF, if_neg h1]
              by_cases q : ((1 : Nat) : Int) < n
              · rw [if_pos q, show (min left most).toNat = i by omega]
              · rw [if_neg q, show i = 0 by omega]; rfl⟩
        · have hdn : ((1 : Nat) : Int) < n := by omega
          have hk1 := feI_kp s n whole 2 (feF_kp s n whole hn 2) (left := left) (most := most) (d := 1) hT hs h9 (by decide) ht hB i (by omega)
          refine g_aload_n fx dX11_fees_117 rfl ?_
          refine g_getr fx dX11_fees_118 fk_RX11_69 o_223 rf_223_32 ?_
          refine g_iload fx dX11_fees_121 rfl ?_
          refine g_iload fx dX11_fees_123 rfl ?_
          refine g_iast fx dX11_fees_125 o_242 (by omega) (by show _ < ((8 : Nat) : Int); omega) ?_
          rw [show ((1 : Nat) : Int).toNat = 1 from rfl]
          have ht2 : Tr9 (su (itr i (feS (feF s n whole 2) left (min left most) 1) σ) 242 1 (min left most - ((i : Nat) : Int))) 2 := by
            intro k hk
            by_cases e : k = 1
            · subst e; rw [su_same]; omega
            · rw [su_ne _ _ (Or.inr e), hk1.1.2.2 k (by omega)]; exact ht k (by omega)
          refine g_aload_n fx dX11_fees_126 rfl ?_
          refine g_iload_n fx dX11_fees_127 rfl ?_
          refine g_iload_n fx dX11_fees_128 rfl ?_
          refine g_iload fx dX11_fees_129 rfl ?_
          refine g_isub1 fx dX11_fees_131 (by unfold okI; omega) ?_
          refine g_iload fx dX11_fees_132 rfl ?_
          refine g_iload fx dX11_fees_134 rfl ?_
          refine g_iconst fx dX11_fees_136 (by unfold okI; omega) ?_
          refine g_iadd1 fx dX11_fees_137 (by unfold okI; omega) ?_
          refine g_iload fx dX11_fees_138 rfl ?_
          refine g_iload fx dX11_fees_140 rfl ?_
          refine g_callVD0 fx dX11_fees_142 mv_RX11_394 my_X11_fees (s_X11_fees_2 ad _ _ _ _ _ _ _ (by decide) (show TW ((itr i (feS (feF s n whole 2) left (min left most) 1) σ) 224) from hk1.1.1) (show 0 ≤ s ∧ s < (itr i (feS (feF s n whole 2) left (min left most) 1) σ) 224 4 by rw [hk1.1.2.1]; exact hs) (by omega) (by omega) (fun _ => by decide) ht2 hn (show Bs (itr i (feS (feF s n whole 2) left (min left most) 1) σ) s ≤ 50 by rw [hk1.2]; exact hB)) o_223 rfl rfl rfl (Nat.le_of_ble_eq_true rfl) (by decide) (by decide) ?_
          refine g_iinc1 fx dX11_fees_145 (by decide) rfl rfl (by unfold okI; omega) rfl ?_
          refine g_goto (tgt := 105) fx dX11_fees_148 (by decide) ?_
          exact gw_cg (by rw [itr_s, feS] <;> rfl) (by rw [show min left most - ((i : Nat) : Int) + (-1) = min left most - ((i + 1 : Nat) : Int) by omega] <;> rfl) (ih (by omega) (fun _ => hdn))
    exact gw_cg rfl (by rw [show min left most - ((0 : Nat) : Int) = min left most by omega] <;> rfl) (loop105 0 (Nat.zero_le _) (fun q => by omega))
  · refine g_iload fx dX11_fees_4 rfl ?_
    refine g_iconst fx dX11_fees_6 (by unfold okI; omega) ?_
    refine g_icmp_ne (tgt := 11) fx dX11_fees_7 (by decide) (fun h7 => absurd h7 (by decide)) (fun h7 => ?_)
    exact g_vret fx rfl dX11_fees_10 (by decide) (by decide) (gw_le.rf _) ⟨rfl, rfl, by rw [feF, if_pos h1, feL, if_pos rfl]⟩
set_option maxRecDepth 4000 in
theorem s_X11_fees_0 (ad : Nat → Nat) (σ : Sg)  (s : Int) (left : Int) (most : Int) (dp : Int) (n : Int) (whole : Int) (hd9 : dp = ((0 : Nat) : Int)) (hT : TW (σ 224)) (hs : 0 ≤ s ∧ s < σ 224 4) (h0 : 0 ≤ left) (h9 : left ≤ 99) (hz : left = 0 → 1 ≤ 0) (ht : Tr9 σ 0) (hn : n ≤ 3) (hB : Bs σ s ≤ 50) : gw_Sp yX11_fees cX11_fees 8 none 10 0 0 [vR (some 223), vI s, vI left, vI most, vI dp, vI n, vI whole] (gw_M0 ad) σ (gw_D none (gw_M0 ad) (feF s n whole 4 left most 0 σ)) gw_no := by
  refine gw_Sp.of [some (vR (some 223)), some (vI s), some (vI left), some (vI most), some (vI dp), some (vI n), some (vI whole), none] (by decide +kernel) rfl (Nat.le_of_ble_eq_true rfl) ?_
  intro X G fx het hnm
  subst hd9
  have hS := hT.sacks
  refine g_iload_n fx dX11_fees_0 rfl ?_
  refine g_if_ne (tgt := 98) fx dX11_fees_1 (by decide) (fun h1 => ?_) (fun h1 => absurd h1 (fun q => by have := hz q; omega))
  refine g_iload_n fx dX11_fees_98 rfl ?_
  refine g_iload_n fx dX11_fees_99 rfl ?_
  refine g_min fx dX11_fees_100 mm_RX11_314 (by decide) (by decide) (by decide) (Nat.le_of_ble_eq_true rfl) ?_
  refine g_istore fx dX11_fees_103 (by decide) rfl rfl ?_
  have loop105 : ∀ i : Nat, i ≤ (min left most).toNat → (0 < i → ((0 : Nat) : Int) < n) → gw_W X (yX11_fees.cls, cX11_fees, 8, none, 10, 0, 0) G (gw_Z X G (gw_M0 ad) σ (gw_D none (gw_M0 ad) (feF s n whole 4 left most 0 σ)) gw_no 0 0) 0 0 (gw_M0 ad) ((itr i (feS (feF s n whole 3) left (min left most) 0) σ)) 105 [some (vR (some 223)), some (vI s), some (vI left), some (vI most), some (vI ((0 : Nat) : Int)), some (vI n), some (vI whole), some (vI (min left most - ((i : Nat) : Int)))] [] := by
    refine up_ind _ _ (fun i hi ih => ?_)
    intro hdi
    refine g_iload fx dX11_fees_105 rfl ?_
    refine g_if_le (tgt := 151) fx dX11_fees_107 (by decide) (fun h107 => ?_) (fun h107 => ?_)
    · exact g_vret fx rfl dX11_fees_151 (by decide) (by decide) (gw_le.rf _) ⟨rfl, rfl, by
          rw [feF, if_neg h1]
          by_cases q : ((0 : Nat) : Int) < n
          · rw [if_pos q, show (min left most).toNat = i by omega]
          · rw [if_neg q, show i = 0 by omega]; rfl⟩
    · refine g_iload fx dX11_fees_110 rfl ?_
      refine g_iload fx dX11_fees_112 rfl ?_
      refine g_icmp_ge (tgt := 151) fx dX11_fees_114 (by decide) (fun h114 => ?_) (fun h114 => ?_)
      · exact g_vret fx rfl dX11_fees_151 (by decide) (by decide) (gw_le.rf _) ⟨rfl, rfl, by
            rw [feF, if_neg h1]
            by_cases q : ((0 : Nat) : Int) < n
            · rw [if_pos q, show (min left most).toNat = i by omega]
            · rw [if_neg q, show i = 0 by omega]; rfl⟩
      · have hdn : ((0 : Nat) : Int) < n := by omega
        have hk1 := feI_kp s n whole 3 (feF_kp s n whole hn 3) (left := left) (most := most) (d := 0) hT hs h9 (by decide) ht hB i (by omega)
        refine g_aload_n fx dX11_fees_117 rfl ?_
        refine g_getr fx dX11_fees_118 fk_RX11_69 o_223 rf_223_32 ?_
        refine g_iload fx dX11_fees_121 rfl ?_
        refine g_iload fx dX11_fees_123 rfl ?_
        refine g_iast fx dX11_fees_125 o_242 (by omega) (by show _ < ((8 : Nat) : Int); omega) ?_
        rw [show ((0 : Nat) : Int).toNat = 0 from rfl]
        have ht2 : Tr9 (su (itr i (feS (feF s n whole 3) left (min left most) 0) σ) 242 0 (min left most - ((i : Nat) : Int))) 1 := by
          intro k hk
          by_cases e : k = 0
          · subst e; rw [su_same]; omega
          · rw [su_ne _ _ (Or.inr e), hk1.1.2.2 k (by omega)]; exact ht k (by omega)
        refine g_aload_n fx dX11_fees_126 rfl ?_
        refine g_iload_n fx dX11_fees_127 rfl ?_
        refine g_iload_n fx dX11_fees_128 rfl ?_
        refine g_iload fx dX11_fees_129 rfl ?_
        refine g_isub1 fx dX11_fees_131 (by unfold okI; omega) ?_
        refine g_iload fx dX11_fees_132 rfl ?_
        refine g_iload fx dX11_fees_134 rfl ?_
        refine g_iconst fx dX11_fees_136 (by unfold okI; omega) ?_
        refine g_iadd1 fx dX11_fees_137 (by unfold okI; omega) ?_
        refine g_iload fx dX11_fees_138 rfl ?_
        refine g_iload fx dX11_fees_140 rfl ?_
        refine g_callVD0 fx dX11_fees_142 mv_RX11_394 my_X11_fees (s_X11_fees_1 ad _ _ _ _ _ _ _ (by decide) (show TW ((itr i (feS (feF s n whole 3) left (min left most) 0) σ) 224) from hk1.1.1) (show 0 ≤ s ∧ s < (itr i (feS (feF s n whole 3) left (min left most) 0) σ) 224 4 by rw [hk1.1.2.1]; exact hs) (by omega) (by omega) (fun _ => by decide) ht2 hn (show Bs (itr i (feS (feF s n whole 3) left (min left most) 0) σ) s ≤ 50 by rw [hk1.2]; exact hB)) o_223 rfl rfl rfl (Nat.le_of_ble_eq_true rfl) (by decide) (by decide) ?_
        refine g_iinc1 fx dX11_fees_145 (by decide) rfl rfl (by unfold okI; omega) rfl ?_
        refine g_goto (tgt := 105) fx dX11_fees_148 (by decide) ?_
        exact gw_cg (by rw [itr_s, feS] <;> rfl) (by rw [show min left most - ((i : Nat) : Int) + (-1) = min left most - ((i + 1 : Nat) : Int) by omega] <;> rfl) (ih (by omega) (fun _ => hdn))
  exact gw_cg rfl (by rw [show min left most - ((0 : Nat) : Int) = min left most by omega] <;> rfl) (loop105 0 (Nat.zero_le _) (fun q => by omega))
set_option maxRecDepth 4000 in
theorem s_X11_fee (ad : Nat → Nat) (σ : Sg)  (n : Int) (hT : TW (σ 224)) (h24 : σ 224 4 ≤ 24) : gw_Sp yX11_fee cX11_fee 3 (some .int) 11 0 0 [vR (some 223), vI n] (gw_M0 ad) σ (gw_D (some (vI (nFe σ n).1)) (gw_M0 ad) ((nFe σ n).2)) gw_no := by
  refine gw_Sp.of [some (vR (some 223)), some (vI n), none] (by decide +kernel) rfl (Nat.le_of_ble_eq_true rfl) ?_
  intro X G fx het hnm
  have hS := hT.sacks
  have hT1 : TW ((nCp (nThr σ (feVt n)) 224 244) 224) := TW_cp (x := (nThr σ (feVt n))) hT (by decide) (by decide)
  have e41 : (nCp (nThr σ (feVt n)) 224 244) 224 4 = σ 224 4 := by rw [nCp_ne _ (by decide) (by decide)]; rfl
  have hA0 : AW (nCp (nThr σ (feVt n)) 224 244) (nFe0 (nThr σ (feVt n))) := by
    have h := AW_wh hT1
    rw [← fwL_wh, e41] at h
    exact h
  have j20 : gw_W X (yX11_fee.cls, cX11_fee, 3, (some .int), 11, 0, 0) G (gw_Z X G (gw_M0 ad) σ (gw_D (some (vI (nFe σ n).1)) (gw_M0 ad) ((nFe σ n).2)) gw_no 0 0) 0 0 (gw_M0 ad) (σ) 20 [some (vR (some 223)), some (vI n), none] [vI (feVt n), vR (some 223)] := by
    refine g_puti fx dX11_fee_20 fk_RX11_88 o_223 ?_
    refine gw_cg (σ' := nThr σ (feVt n)) rfl rfl ?_
    refine g_aload_n fx dX11_fee_23 rfl ?_
    refine g_geti fx dX11_fee_24 fk_RX11_88 (by decide) o_223 ?_
    refine gw_cgt rfl (show nThr σ (feVt n) 223 5 = feVt n from su_same _ _ _ _) ?_
    refine g_if_le (tgt := 32) fx dX11_fee_27 (by decide) (fun h27 => ?_) (fun h27 => ?_)
    · have hn := feVt_0 h27
      refine g_aload_n fx dX11_fee_32 rfl ?_
      refine g_getr fx dX11_fee_33 fk_RX11_9 o_223 rf_223_0 ?_
      refine g_aload_n fx dX11_fee_36 rfl ?_
      refine g_getr fx dX11_fee_37 fk_RX11_75 o_223 rf_223_36 ?_
      refine g_callSD0 fx dX11_fee_40 ms_RX11_204 my_X11_copies (s_X11_copies ad _ (by decide) (by decide)) rfl rfl (Nat.le_of_ble_eq_true rfl) (by decide) (by decide) ?_
      refine g_iconst fx dX11_fee_43 (by unfold okI; omega) ?_
      refine g_istore_n fx dX11_fee_44 (by decide) rfl rfl ?_
      have loop45 : ∀ k : Nat, k ≤ (σ 224 4).toNat → gw_W X (yX11_fee.cls, cX11_fee, 3, (some .int), 11, 0, 0) G (gw_Z X G (gw_M0 ad) σ (gw_D (some (vI (nFe σ n).1)) (gw_M0 ad) ((nFe σ n).2)) gw_no 0 0) 0 0 (gw_M0 ad) ((fwL (nCp (nThr σ (feVt n)) 224 244) k)) 45 [some (vR (some 223)), some (vI n), some (vI (k : Nat))] [] := by
        refine up_ind _ ((σ 224 4).toNat) (fun k hk ih => ?_)
        have e4 : (fwL (nCp (nThr σ (feVt n)) 224 244) k) 224 4 = σ 224 4 := by rw [fwL_wh, (TW_wh hT1 k (by omega)).2]; exact e41
        refine g_iload_n fx dX11_fee_45 rfl ?_
        refine g_aload_n fx dX11_fee_46 rfl ?_
        refine g_getr fx dX11_fee_47 fk_RX11_9 o_223 rf_223_0 ?_
        refine g_iconst fx dX11_fee_50 (by unfold okI; omega) ?_
        refine g_iald fx dX11_fee_51 o_224 (by decide) (by decide) ?_
        rw [show Int.toNat 4 = 4 from rfl]
        refine g_icmp_ge (tgt := 66) fx dX11_fee_52 (by decide) (fun h52 => ?_) (fun h52 => ?_)
        · refine g_aload_n fx dX11_fee_66 rfl ?_
          refine g_iconst fx dX11_fee_67 (by unfold okI; omega) ?_
          refine g_puti fx dX11_fee_68 fk_RX11_391 o_223 ?_
          refine gw_cg (show su (fwL (nCp (nThr σ (feVt n)) 224 244) k) 223 37 0 = nFe0 (nThr σ (feVt n)) by rw [nFe0, show ((nThr σ (feVt n)) 224 4).toNat = k by rw [show (nThr σ (feVt n)) 224 4 = σ 224 4 from rfl]; omega]) rfl ?_
          refine g_iconst fx dX11_fee_71 (by unfold okI; omega) ?_
          refine g_istore_n fx dX11_fee_72 (by decide) rfl rfl ?_
          have loop73 : ∀ k : Nat, k ≤ (σ 224 4).toNat → gw_W X (yX11_fee.cls, cX11_fee, 3, (some .int), 11, 0, 0) G (gw_Z X G (gw_M0 ad) σ (gw_D (some (vI (nFe σ n).1)) (gw_M0 ad) ((nFe σ n).2)) gw_no 0 0) 0 0 (gw_M0 ad) ((fnN n (nFe0 (nThr σ (feVt n))) k)) 73 [some (vR (some 223)), some (vI n), some (vI (k : Nat))] [] := by
            refine up_ind _ ((σ 224 4).toNat) (fun k hk ih => ?_)
            obtain ⟨a1, a4, ap⟩ := fnN_kp hn.2 (σ := (nCp (nThr σ (feVt n)) 224 244)) (by omega) hA0 k (by omega)
            rw [e41] at a4
            refine g_iload_n fx dX11_fee_73 rfl ?_
            refine g_aload_n fx dX11_fee_74 rfl ?_
            refine g_getr fx dX11_fee_75 fk_RX11_9 o_223 rf_223_0 ?_
            refine g_iconst fx dX11_fee_78 (by unfold okI; omega) ?_
            refine g_iald fx dX11_fee_79 o_224 (by decide) (by decide) ?_
            rw [show Int.toNat 4 = 4 from rfl]
            refine g_icmp_ge (tgt := 143) fx dX11_fee_80 (by decide) (fun h80 => ?_) (fun h80 => ?_)
            · refine gw_cg (show (fnN n (nFe0 (nThr σ (feVt n))) k) = nFe1 (nThr σ (feVt n)) n by rw [nFe1, show ((nThr σ (feVt n)) 224 4).toNat = k by rw [show (nThr σ (feVt n)) 224 4 = σ 224 4 from rfl]; omega]) rfl ?_
              refine g_aload_n fx dX11_fee_143 rfl ?_
              refine g_getr fx dX11_fee_144 fk_RX11_75 o_223 rf_223_36 ?_
              refine g_aload_n fx dX11_fee_147 rfl ?_
              refine g_getr fx dX11_fee_148 fk_RX11_9 o_223 rf_223_0 ?_
              refine g_callSD0 fx dX11_fee_151 ms_RX11_204 my_X11_copies (s_X11_copies ad _ (by decide) (by decide)) rfl rfl (Nat.le_of_ble_eq_true rfl) (by decide) (by decide) ?_
              refine g_aload_n fx dX11_fee_154 rfl ?_
              refine g_geti fx dX11_fee_155 fk_RX11_391 (by decide) o_223 ?_
              exact g_iret fx rfl dX11_fee_158 (by decide) (by decide) (gw_le.rf _) ⟨by rw [nFe, if_neg (by omega), nFeA], rfl, by rw [nFe, if_neg (by omega), nFeA]⟩
            · refine g_aload_n fx dX11_fee_83 rfl ?_
              refine g_iload_n fx dX11_fee_84 rfl ?_
              refine g_iconst fx dX11_fee_85 (by unfold okI; omega) ?_
              refine g_callVD fx dX11_fee_86 mv_RX11_242 my_X11_of (s_X11_of ad _ _ _ (by omega)) o_223 rfl rfl rfl (Nat.le_of_ble_eq_true rfl) (by decide) (by decide) ?_
              refine g_bipush fx dX11_fee_89 (by decide) ?_
              refine g_icmp_le (tgt := 97) fx dX11_fee_91 (by decide) (fun h91 => ?_) (fun h91 => ?_)
              · refine g_aload_n fx dX11_fee_97 rfl ?_
                refine g_callVD0 fx dX11_fee_98 mv_RX11_323 my_X11_runs (s_X11_runs ad _ a1) o_223 rfl rfl rfl (Nat.le_of_ble_eq_true rfl) (by decide) (by decide) ?_
                have hTr := TW_ru a1
                have er := nRu_224 a1
                have hSr := hTr.sacks
                have hPr := hTr.p60
                have e4r : nRu (fnN n (nFe0 (nThr σ (feVt n))) k) 224 4 = (fnN n (nFe0 (nThr σ (feVt n))) k) 224 4 := by rw [er]
                have hhv := a1.of (s := ((k : Nat) : Int)) (by omega) (by omega)
                refine g_aload_n fx dX11_fee_101 rfl ?_
                refine g_iload_n fx dX11_fee_102 rfl ?_
                refine g_aload_n fx dX11_fee_103 rfl ?_
                refine g_iload_n fx dX11_fee_104 rfl ?_
                refine g_iconst fx dX11_fee_105 (by unfold okI; omega) ?_
                refine g_callVD fx dX11_fee_106 mv_RX11_242 my_X11_of (s_X11_of ad _ _ _ (by omega)) o_223 rfl rfl rfl (Nat.le_of_ble_eq_true rfl) (by decide) (by decide) ?_
                refine gw_cgt rfl (nOf_of er _ _) ?_
                refine g_aload_n fx dX11_fee_109 rfl ?_
                refine g_iload_n fx dX11_fee_110 rfl ?_
                refine g_iconst fx dX11_fee_111 (by unfold okI; omega) ?_
                refine g_callVD fx dX11_fee_112 mv_RX11_242 my_X11_of (s_X11_of ad _ _ _ (by omega)) o_223 rfl rfl rfl (Nat.le_of_ble_eq_true rfl) (by decide) (by decide) ?_
                refine gw_cgt rfl (nOf_of er _ _) ?_
                refine g_iconst fx dX11_fee_115 (by unfold okI; omega) ?_
                refine g_iload_n fx dX11_fee_116 rfl ?_
                refine g_aload_n fx dX11_fee_117 rfl ?_
                refine g_iload_n fx dX11_fee_118 rfl ?_
                refine g_iconst fx dX11_fee_119 (by unfold okI; omega) ?_
                refine g_callVD fx dX11_fee_120 mv_RX11_242 my_X11_of (s_X11_of ad _ _ _ (by omega)) o_223 rfl rfl rfl (Nat.le_of_ble_eq_true rfl) (by decide) (by decide) ?_
                refine g_aload_n fx dX11_fee_123 rfl ?_
                refine g_iload_n fx dX11_fee_124 rfl ?_
                refine g_callVD fx dX11_fee_125 mv_RX11_320 my_X11_waitOf (s_X11_waitOf ad _ _ (by omega) (by omega)) o_223 rfl rfl rfl (Nat.le_of_ble_eq_true rfl) (by decide) (by decide) ?_
                refine g_imul fx dX11_fee_128 ?_
                refine g_callVD0 fx dX11_fee_129 mv_RX11_394 my_X11_fees (s_X11_fees_0 ad _ _ _ _ _ _ _ (by decide) hTr (by omega) (by omega) (by omega) (fun q => by omega) (fun i hi => by omega) hn.2 (by rw [Bs_of er]; unfold Bs; omega)) o_223 rfl rfl rfl (Nat.le_of_ble_eq_true rfl) (by decide) (by decide) ?_
                have kk := feF_kp ((k : Nat) : Int) n (wr (nOf (nRu (fnN n (nFe0 (nThr σ (feVt n))) k)) ((k : Nat) : Int) 4 * nWa (nRu (fnN n (nFe0 (nThr σ (feVt n))) k)) ((k : Nat) : Int))) hn.2 4 (nOf (fnN n (nFe0 (nThr σ (feVt n))) k) ((k : Nat) : Int) 0) (nOf (fnN n (nFe0 (nThr σ (feVt n))) k) ((k : Nat) : Int) 0) 0 (nRu (fnN n (nFe0 (nThr σ (feVt n))) k)) hTr (by omega) (by omega) (by omega) (by omega) (by omega) (fun i hi => by omega) (by rw [Bs_of er]; unfold Bs; omega)
                refine g_aload_n fx dX11_fee_132 rfl ?_
                refine g_iload_n fx dX11_fee_133 rfl ?_
                refine g_callVD0 fx dX11_fee_134 mv_RX11_265 my_X11_wholly (s_X11_wholly ad _ _ kk.1.1 ⟨by omega, by rw [kk.1.2.1]; omega⟩) o_223 rfl rfl rfl (Nat.le_of_ble_eq_true rfl) (by decide) (by decide) ?_
                refine g_iinc1 fx dX11_fee_137 (by decide) rfl rfl (by unfold okI; omega) rfl ?_
                refine g_goto (tgt := 73) fx dX11_fee_140 (by decide) ?_
                exact gw_cg (by rw [fnN_s, feN]; (repeat first | rw [if_pos (by omega)] | rw [if_neg (by omega)]) <;> rfl) (by rw [show ((k : Nat) : Int) + 1 = ((k + 1 : Nat) : Int) by omega] <;> rfl) (ih (by omega))
              · refine g_goto (tgt := 137) fx dX11_fee_94 (by decide) ?_
                refine g_iinc1 fx dX11_fee_137 (by decide) rfl rfl (by unfold okI; omega) rfl ?_
                refine g_goto (tgt := 73) fx dX11_fee_140 (by decide) ?_
                exact gw_cg (by rw [fnN_s, feN]; (repeat first | rw [if_pos (by omega)] | rw [if_neg (by omega)]) <;> rfl) (by rw [show ((k : Nat) : Int) + 1 = ((k + 1 : Nat) : Int) by omega] <;> rfl) (ih (by omega))
          exact loop73 0 (Nat.zero_le _)
        · refine g_aload_n fx dX11_fee_55 rfl ?_
          refine g_iload_n fx dX11_fee_56 rfl ?_
          refine g_callVD0 fx dX11_fee_57 mv_RX11_265 my_X11_wholly (s_X11_wholly ad _ _ (show TW ((fwL (nCp (nThr σ (feVt n)) 224 244) k) 224) by rw [fwL_wh]; exact (TW_wh hT1 k (by omega)).1) (by omega)) o_223 rfl rfl rfl (Nat.le_of_ble_eq_true rfl) (by decide) (by decide) ?_
          refine g_iinc1 fx dX11_fee_60 (by decide) rfl rfl (by unfold okI; omega) rfl ?_
          refine g_goto (tgt := 45) fx dX11_fee_63 (by decide) ?_
          exact gw_cg (by rw [fwL_s]) (by rw [show ((k : Nat) : Int) + 1 = ((k + 1 : Nat) : Int) by omega] <;> rfl) (ih (by omega))
      exact loop45 0 (Nat.zero_le _)
    · refine g_iconst fx dX11_fee_30 (by unfold okI; omega) ?_
      exact g_iret fx rfl dX11_fee_31 (by decide) (by decide) (gw_le.rf _) ⟨by rw [nFe, if_pos (by omega)], rfl, by rw [nFe, if_pos (by omega)]⟩
  refine g_aload_n fx dX11_fee_0 rfl ?_
  refine g_iload_n fx dX11_fee_1 rfl ?_
  refine g_i2l fx dX11_fee_2 ?_
  refine g_ldcL fx dX11_fee_3 kc_RX11_398 (by unfold okJ; omega) ?_
  refine g_ldcL fx dX11_fee_6 kc_RX11_338 (by unfold okJ; omega) ?_
  refine g_callSD fx dX11_fee_9 ms_RX11_147 my_X11_within (s_X11_within ad _ _ _ _) rfl rfl (Nat.le_of_ble_eq_true rfl) (by decide) (by decide) ?_
  refine g_if_eq (tgt := 19) fx dX11_fee_12 (by decide) (fun h12 => ?_) (fun h12 => ?_)
  · refine g_iconst fx dX11_fee_19 (by unfold okI; omega) ?_
    exact gw_cgt rfl (by rw [feVt]; (repeat first | rw [if_pos (by omega)] | rw [if_neg (by omega)]) <;> rfl) j20
  · refine g_iconst fx dX11_fee_15 (by unfold okI; omega) ?_
    refine g_goto (tgt := 20) fx dX11_fee_16 (by decide) ?_
    exact gw_cgt rfl (by rw [feVt]; (repeat first | rw [if_pos (by omega)] | rw [if_neg (by omega)]) <;> rfl) j20
