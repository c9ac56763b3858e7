theorem dX11_judges_94 : gw_dc cX11_judges 94 (.aload_n 0) 1 95 := ⟨by decide +kernel, rfl⟩
theorem dX11_judges_95 : gw_dc cX11_judges 95 (.iload_n 3) 1 96 := ⟨by decide +kernel, rfl⟩
theorem dX11_judges_96 : gw_dc cX11_judges 96 (.putfield 374) 3 99 := ⟨by decide +kernel, rfl⟩
theorem fk_RX11_374 : gw_fk RX11 374 11 35 42 0 false := ⟨_, _, _, ck_11, by decide, by decide, fun _ => rfl, fun h => absurd h (by decide), fun h => absurd h (by decide), rfl, Or.inl (gw_mem 1456 (by decide +kernel) rfl)⟩
theorem dX11_judges_99 : gw_dc cX11_judges 99 (.aload_n 0) 1 100 := ⟨by decide +kernel, rfl⟩
theorem dX11_judges_100 : gw_dc cX11_judges 100 (.iload_n 2) 1 101 := ⟨by decide +kernel, rfl⟩
theorem dX11_judges_101 : gw_dc cX11_judges 101 (.putfield 371) 3 104 := ⟨by decide +kernel, rfl⟩
theorem fk_RX11_371 : gw_fk RX11 371 11 34 42 0 false := ⟨_, _, _, ck_11, by decide, by decide, fun _ => rfl, fun h => absurd h (by decide), fun h => absurd h (by decide), rfl, Or.inl (gw_mem 1455 (by decide +kernel) rfl)⟩
theorem dX11_judges_104 : gw_dc cX11_judges 104 (.iconst 0) 1 105 := ⟨by decide +kernel, rfl⟩
theorem dX11_judges_105 : gw_dc cX11_judges 105 (.istore 4) 2 107 := ⟨by decide +kernel, rfl⟩
theorem dX11_judges_107 : gw_dc cX11_judges 107 (.iload 4) 2 109 := ⟨by decide +kernel, rfl⟩
theorem dX11_judges_109 : gw_dc cX11_judges 109 (.iload_n 2) 1 110 := ⟨by decide +kernel, rfl⟩
theorem dX11_judges_110 : gw_dc cX11_judges 110 (.if_icmp .ge 23) 3 113 := ⟨by decide +kernel, rfl⟩
theorem dX11_judges_133 : decode cX11_judges 133 = .ok (.return_, 1) := by decide +kernel
theorem dX11_judges_113 : gw_dc cX11_judges 113 (.aload_n 0) 1 114 := ⟨by decide +kernel, rfl⟩
theorem dX11_judges_114 : gw_dc cX11_judges 114 (.getfield 72) 3 117 := ⟨by decide +kernel, rfl⟩
theorem fk_RX11_72 : gw_fk RX11 72 11 33 42 1 true := ⟨_, _, _, ck_11, by decide, by decide, fun h => absurd h (by decide), fun h => absurd h (by decide), fun _ => Or.inr ⟨_, rfl⟩, rfl, Or.inl (gw_mem 1454 (by decide +kernel) rfl)⟩
theorem rf_223_33 {ad : Nat → Nat} : (gw_M0 ad).2.2 223 33 = some 243 := (by decide +kernel : gw_rh 223 33 = some 243)
theorem dX11_judges_117 : gw_dc cX11_judges 117 (.iload 4) 2 119 := ⟨by decide +kernel, rfl⟩
theorem dX11_judges_119 : gw_dc cX11_judges 119 (.aload_n 0) 1 120 := ⟨by decide +kernel, rfl⟩
theorem dX11_judges_120 : gw_dc cX11_judges 120 (.getfield 69) 3 123 := ⟨by decide +kernel, rfl⟩
theorem fk_RX11_69 : gw_fk RX11 69 11 32 42 1 true := ⟨_, _, _, ck_11, by decide, by decide, fun h => absurd h (by decide), fun h => absurd h (by decide), fun _ => Or.inr ⟨_, rfl⟩, rfl, Or.inl (gw_mem 1453 (by decide +kernel) rfl)⟩
theorem rf_223_32 {ad : Nat → Nat} : (gw_M0 ad).2.2 223 32 = some 242 := (by decide +kernel : gw_rh 223 32 = some 242)
theorem dX11_judges_123 : gw_dc cX11_judges 123 (.iload 4) 2 125 := ⟨by decide +kernel, rfl⟩
theorem dX11_judges_125 : gw_dc cX11_judges 125 (.iaload) 1 126 := ⟨by decide +kernel, rfl⟩
theorem o_242 {ad : Nat → Nat} : isO (gw_M0 ad) 242 21 8 := (by decide +kernel : 242 < gw_N0 ∧ gw_sh 242 = (21, 8))
theorem dX11_judges_126 : gw_dc cX11_judges 126 (.iastore) 1 127 := ⟨by decide +kernel, rfl⟩
theorem o_243 {ad : Nat → Nat} : isO (gw_M0 ad) 243 21 8 := (by decide +kernel : 243 < gw_N0 ∧ gw_sh 243 = (21, 8))
theorem dX11_judges_127 : gw_dc cX11_judges 127 (.iinc 4 1) 3 130 := ⟨by decide +kernel, rfl⟩
theorem dX11_judges_130 : gw_dc cX11_judges 130 (.goto (-23)) 3 133 := ⟨by decide +kernel, rfl⟩
theorem dX11_judges_0 : gw_dc cX11_judges 0 (.aload_n 0) 1 1 := ⟨by decide +kernel, rfl⟩
theorem dX11_judges_1 : gw_dc cX11_judges 1 (.getfield 9) 3 4 := ⟨by decide +kernel, rfl⟩
theorem dX11_judges_4 : gw_dc cX11_judges 4 (.sipush 668) 3 7 := ⟨by decide +kernel, rfl⟩
theorem dX11_judges_7 : gw_dc cX11_judges 7 (.iaload) 1 8 := ⟨by decide +kernel, rfl⟩
theorem dX11_judges_8 : gw_dc cX11_judges 8 (.aload_n 0) 1 9 := ⟨by decide +kernel, rfl⟩
theorem dX11_judges_9 : gw_dc cX11_judges 9 (.iload_n 1) 1 10 := ⟨by decide +kernel, rfl⟩
theorem dX11_judges_10 : gw_dc cX11_judges 10 (.bipush 6) 2 12 := ⟨by decide +kernel, rfl⟩
theorem dX11_judges_12 : gw_dc cX11_judges 12 (.invokevirtual 242) 3 15 := ⟨by decide +kernel, rfl⟩
theorem dX11_judges_15 : gw_dc cX11_judges 15 (.isub) 1 16 := ⟨by decide +kernel, rfl⟩
theorem dX11_judges_16 : gw_dc cX11_judges 16 (.iload_n 2) 1 17 := ⟨by decide +kernel, rfl⟩
theorem dX11_judges_17 : gw_dc cX11_judges 17 (.iadd) 1 18 := ⟨by decide +kernel, rfl⟩
theorem dX11_judges_18 : gw_dc cX11_judges 18 (.bipush 60) 2 20 := ⟨by decide +kernel, rfl⟩
theorem dX11_judges_20 : gw_dc cX11_judges 20 (.if_icmp .le 4) 3 23 := ⟨by decide +kernel, rfl⟩
theorem dX11_judges_24 : gw_dc cX11_judges 24 (.iconst 0) 1 25 := ⟨by decide +kernel, rfl⟩
theorem dX11_judges_25 : gw_dc cX11_judges 25 (.istore_n 3) 1 26 := ⟨by decide +kernel, rfl⟩
theorem dX11_judges_26 : gw_dc cX11_judges 26 (.iload_n 3) 1 27 := ⟨by decide +kernel, rfl⟩
theorem dX11_judges_27 : gw_dc cX11_judges 27 (.iload_n 2) 1 28 := ⟨by decide +kernel, rfl⟩
theorem dX11_judges_28 : gw_dc cX11_judges 28 (.if_icmp .ge 21) 3 31 := ⟨by decide +kernel, rfl⟩
theorem dX11_judges_49 : gw_dc cX11_judges 49 (.aload_n 0) 1 50 := ⟨by decide +kernel, rfl⟩
theorem dX11_judges_50 : gw_dc cX11_judges 50 (.iload_n 1) 1 51 := ⟨by decide +kernel, rfl⟩
theorem dX11_judges_51 : gw_dc cX11_judges 51 (.iload_n 2) 1 52 := ⟨by decide +kernel, rfl⟩
theorem dX11_judges_52 : gw_dc cX11_judges 52 (.invokevirtual 261) 3 55 := ⟨by decide +kernel, rfl⟩
theorem dX11_judges_55 : gw_dc cX11_judges 55 (.aload_n 0) 1 56 := ⟨by decide +kernel, rfl⟩
theorem dX11_judges_56 : gw_dc cX11_judges 56 (.iload_n 1) 1 57 := ⟨by decide +kernel, rfl⟩
theorem dX11_judges_57 : gw_dc cX11_judges 57 (.invokevirtual 368) 3 60 := ⟨by decide +kernel, rfl⟩
theorem mv_RX11_368 : gw_mv RX11 368 yX11_priceOf := ⟨gw_mem 1886 (by decide +kernel) rfl, gw_mem 1888 (by decide +kernel) rfl, gw_mem 87 (by decide +kernel) rfl⟩
theorem my_X11_priceOf : gw_my yX11_priceOf cX11_priceOf 2 (some .int) 1 := ⟨gw_mem 1889 (by decide +kernel) rfl, gw_mem 106 (by decide +kernel) rfl, by decide +kernel, by decide⟩
theorem dX11_judges_60 : gw_dc cX11_judges 60 (.istore_n 3) 1 61 := ⟨by decide +kernel, rfl⟩
theorem dX11_judges_61 : gw_dc cX11_judges 61 (.aload_n 0) 1 62 := ⟨by decide +kernel, rfl⟩
theorem dX11_judges_62 : gw_dc cX11_judges 62 (.getfield 371) 3 65 := ⟨by decide +kernel, rfl⟩
theorem dX11_judges_65 : gw_dc cX11_judges 65 (.iconst (-1)) 1 66 := ⟨by decide +kernel, rfl⟩
theorem dX11_judges_66 : gw_dc cX11_judges 66 (.if_icmp .eq 28) 3 69 := ⟨by decide +kernel, rfl⟩
theorem dX11_judges_69 : gw_dc cX11_judges 69 (.iload_n 3) 1 70 := ⟨by decide +kernel, rfl⟩
theorem dX11_judges_70 : gw_dc cX11_judges 70 (.aload_n 0) 1 71 := ⟨by decide +kernel, rfl⟩
theorem dX11_judges_71 : gw_dc cX11_judges 71 (.getfield 374) 3 74 := ⟨by decide +kernel, rfl⟩
theorem dX11_judges_74 : gw_dc cX11_judges 74 (.if_icmp .gt 19) 3 77 := ⟨by decide +kernel, rfl⟩
theorem dX11_judges_93 : decode cX11_judges 93 = .ok (.return_, 1) := by decide +kernel
theorem dX11_judges_77 : gw_dc cX11_judges 77 (.iload_n 3) 1 78 := ⟨by decide +kernel, rfl⟩
theorem dX11_judges_78 : gw_dc cX11_judges 78 (.aload_n 0) 1 79 := ⟨by decide +kernel, rfl⟩
theorem dX11_judges_79 : gw_dc cX11_judges 79 (.getfield 374) 3 82 := ⟨by decide +kernel, rfl⟩
theorem dX11_judges_82 : gw_dc cX11_judges 82 (.if_icmp .ne 12) 3 85 := ⟨by decide +kernel, rfl⟩
theorem dX11_judges_85 : gw_dc cX11_judges 85 (.iload_n 2) 1 86 := ⟨by decide +kernel, rfl⟩
theorem dX11_judges_86 : gw_dc cX11_judges 86 (.aload_n 0) 1 87 := ⟨by decide +kernel, rfl⟩
theorem dX11_judges_87 : gw_dc cX11_judges 87 (.getfield 371) 3 90 := ⟨by decide +kernel, rfl⟩
theorem dX11_judges_90 : gw_dc cX11_judges 90 (.if_icmp .lt 4) 3 93 := ⟨by decide +kernel, rfl⟩
theorem dX11_judges_31 : gw_dc cX11_judges 31 (.aload_n 0) 1 32 := ⟨by decide +kernel, rfl⟩
theorem dX11_judges_32 : gw_dc cX11_judges 32 (.getfield 33) 3 35 := ⟨by decide +kernel, rfl⟩
theorem dX11_judges_35 : gw_dc cX11_judges 35 (.iload_n 3) 1 36 := ⟨by decide +kernel, rfl⟩
theorem dX11_judges_36 : gw_dc cX11_judges 36 (.aload_n 0) 1 37 := ⟨by decide +kernel, rfl⟩
theorem dX11_judges_37 : gw_dc cX11_judges 37 (.getfield 69) 3 40 := ⟨by decide +kernel, rfl⟩
theorem dX11_judges_40 : gw_dc cX11_judges 40 (.iload_n 3) 1 41 := ⟨by decide +kernel, rfl⟩
theorem dX11_judges_41 : gw_dc cX11_judges 41 (.iaload) 1 42 := ⟨by decide +kernel, rfl⟩
theorem dX11_judges_42 : gw_dc cX11_judges 42 (.iastore) 1 43 := ⟨by decide +kernel, rfl⟩
theorem dX11_judges_43 : gw_dc cX11_judges 43 (.iinc 3 1) 3 46 := ⟨by decide +kernel, rfl⟩
theorem dX11_judges_46 : gw_dc cX11_judges 46 (.goto (-20)) 3 49 := ⟨by decide +kernel, rfl⟩
theorem dX11_judges_23 : decode cX11_judges 23 = .ok (.return_, 1) := by decide +kernel
theorem dX11_tries_0 : gw_dc cX11_tries 0 (.iload_n 2) 1 1 := ⟨by decide +kernel, rfl⟩
theorem dX11_tries_1 : gw_dc cX11_tries 1 (.ifCond .ne 11) 3 4 := ⟨by decide +kernel, rfl⟩
theorem dX11_tries_12 : gw_dc cX11_tries 12 (.iload_n 2) 1 13 := ⟨by decide +kernel, rfl⟩
theorem dX11_tries_13 : gw_dc cX11_tries 13 (.iload_n 3) 1 14 := ⟨by decide +kernel, rfl⟩
theorem dX11_tries_14 : gw_dc cX11_tries 14 (.invokestatic 314) 3 17 := ⟨by decide +kernel, rfl⟩
theorem dX11_tries_17 : gw_dc cX11_tries 17 (.istore 6) 2 19 := ⟨by decide +kernel, rfl⟩
theorem dX11_tries_19 : gw_dc cX11_tries 19 (.iload 6) 2 21 := ⟨by decide +kernel, rfl⟩
theorem dX11_tries_21 : gw_dc cX11_tries 21 (.ifCond .le 42) 3 24 := ⟨by decide +kernel, rfl⟩
theorem dX11_tries_63 : decode cX11_tries 63 = .ok (.return_, 1) := by decide +kernel
theorem dX11_tries_24 : gw_dc cX11_tries 24 (.iload 4) 2 26 := ⟨by decide +kernel, rfl⟩
theorem dX11_tries_26 : gw_dc cX11_tries 26 (.iload 5) 2 28 := ⟨by decide +kernel, rfl⟩
theorem dX11_tries_28 : gw_dc cX11_tries 28 (.if_icmp .ge 35) 3 31 := ⟨by decide +kernel, rfl⟩
theorem dX11_tries_4 : gw_dc cX11_tries 4 (.aload_n 0) 1 5 := ⟨by decide +kernel, rfl⟩
theorem dX11_tries_5 : gw_dc cX11_tries 5 (.iload_n 1) 1 6 := ⟨by decide +kernel, rfl⟩
theorem dX11_tries_6 : gw_dc cX11_tries 6 (.iload 4) 2 8 := ⟨by decide +kernel, rfl⟩
theorem dX11_tries_8 : gw_dc cX11_tries 8 (.invokevirtual 361) 3 11 := ⟨by decide +kernel, rfl⟩
theorem mv_RX11_361 : gw_mv RX11 361 yX11_judges := ⟨gw_mem 1882 (by decide +kernel) rfl, gw_mem 1884 (by decide +kernel) rfl, gw_mem 86 (by decide +kernel) rfl⟩
theorem my_X11_judges : gw_my yX11_judges cX11_judges 5 none 2 := ⟨gw_mem 1885 (by decide +kernel) rfl, gw_mem 106 (by decide +kernel) rfl, by decide +kernel, by decide⟩
theorem dX11_tries_11 : decode cX11_tries 11 = .ok (.return_, 1) := by decide +kernel
theorem dX11_tries_31 : gw_dc cX11_tries 31 (.aload_n 0) 1 32 := ⟨by decide +kernel, rfl⟩
theorem dX11_tries_32 : gw_dc cX11_tries 32 (.getfield 69) 3 35 := ⟨by decide +kernel, rfl⟩
theorem dX11_tries_35 : gw_dc cX11_tries 35 (.iload 4) 2 37 := ⟨by decide +kernel, rfl⟩
theorem dX11_tries_37 : gw_dc cX11_tries 37 (.iload 6) 2 39 := ⟨by decide +kernel, rfl⟩
theorem dX11_tries_39 : gw_dc cX11_tries 39 (.iastore) 1 40 := ⟨by decide +kernel, rfl⟩
theorem dX11_tries_40 : gw_dc cX11_tries 40 (.aload_n 0) 1 41 := ⟨by decide +kernel, rfl⟩
theorem dX11_tries_41 : gw_dc cX11_tries 41 (.iload_n 1) 1 42 := ⟨by decide +kernel, rfl⟩
theorem dX11_tries_42 : gw_dc cX11_tries 42 (.iload_n 2) 1 43 := ⟨by decide +kernel, rfl⟩
theorem dX11_tries_43 : gw_dc cX11_tries 43 (.iload 6) 2 45 := ⟨by decide +kernel, rfl⟩
theorem dX11_tries_45 : gw_dc cX11_tries 45 (.isub) 1 46 := ⟨by decide +kernel, rfl⟩
theorem dX11_tries_46 : gw_dc cX11_tries 46 (.iload 6) 2 48 := ⟨by decide +kernel, rfl⟩
theorem dX11_tries_48 : gw_dc cX11_tries 48 (.iload 4) 2 50 := ⟨by decide +kernel, rfl⟩
theorem dX11_tries_50 : gw_dc cX11_tries 50 (.iconst 1) 1 51 := ⟨by decide +kernel, rfl⟩
theorem dX11_tries_51 : gw_dc cX11_tries 51 (.iadd) 1 52 := ⟨by decide +kernel, rfl⟩
theorem dX11_tries_52 : gw_dc cX11_tries 52 (.iload 5) 2 54 := ⟨by decide +kernel, rfl⟩
theorem dX11_tries_54 : gw_dc cX11_tries 54 (.invokevirtual 364) 3 57 := ⟨by decide +kernel, rfl⟩
theorem mv_RX11_364 : gw_mv RX11 364 yX11_tries := ⟨gw_mem 1878 (by decide +kernel) rfl, gw_mem 1880 (by decide +kernel) rfl, gw_mem 85 (by decide +kernel) rfl⟩
theorem my_X11_tries : gw_my yX11_tries cX11_tries 7 none 5 := ⟨gw_mem 1881 (by decide +kernel) rfl, gw_mem 106 (by decide +kernel) rfl, by decide +kernel, by decide⟩
theorem dX11_tries_57 : gw_dc cX11_tries 57 (.iinc 6 (-1)) 3 60 := ⟨by decide +kernel, rfl⟩
theorem dX11_tries_60 : gw_dc cX11_tries 60 (.goto (-41)) 3 63 := ⟨by decide +kernel, rfl⟩
theorem dX11_seeks_23 : gw_dc cX11_seeks 23 (.aload_n 0) 1 24 := ⟨by decide +kernel, rfl⟩
theorem dX11_seeks_24 : gw_dc cX11_seeks 24 (.getfield 9) 3 27 := ⟨by decide +kernel, rfl⟩
theorem dX11_seeks_27 : gw_dc cX11_seeks 27 (.aload_n 0) 1 28 := ⟨by decide +kernel, rfl⟩
theorem dX11_seeks_28 : gw_dc cX11_seeks 28 (.getfield 16) 3 31 := ⟨by decide +kernel, rfl⟩
theorem fk_RX11_16 : gw_fk RX11 16 11 2 42 1 true := ⟨_, _, _, ck_11, by decide, by decide, fun h => absurd h (by decide), fun h => absurd h (by decide), fun _ => Or.inr ⟨_, rfl⟩, rfl, Or.inl (gw_mem 1423 (by decide +kernel) rfl)⟩
theorem rf_223_2 {ad : Nat → Nat} : (gw_M0 ad).2.2 223 2 = some 226 := (by decide +kernel : gw_rh 223 2 = some 226)
theorem dX11_seeks_31 : gw_dc cX11_seeks 31 (.invokestatic 204) 3 34 := ⟨by decide +kernel, rfl⟩
theorem dX11_seeks_34 : gw_dc cX11_seeks 34 (.aload_n 0) 1 35 := ⟨by decide +kernel, rfl⟩
theorem dX11_seeks_35 : gw_dc cX11_seeks 35 (.iload_n 1) 1 36 := ⟨by decide +kernel, rfl⟩
theorem dX11_seeks_36 : gw_dc cX11_seeks 36 (.aload_n 0) 1 37 := ⟨by decide +kernel, rfl⟩
theorem dX11_seeks_37 : gw_dc cX11_seeks 37 (.iload_n 1) 1 38 := ⟨by decide +kernel, rfl⟩
theorem dX11_seeks_38 : gw_dc cX11_seeks 38 (.iconst 0) 1 39 := ⟨by decide +kernel, rfl⟩
theorem dX11_seeks_39 : gw_dc cX11_seeks 39 (.invokevirtual 242) 3 42 := ⟨by decide +kernel, rfl⟩
theorem dX11_seeks_42 : gw_dc cX11_seeks 42 (.aload_n 0) 1 43 := ⟨by decide +kernel, rfl⟩
theorem dX11_seeks_43 : gw_dc cX11_seeks 43 (.iload_n 1) 1 44 := ⟨by decide +kernel, rfl⟩
theorem dX11_seeks_44 : gw_dc cX11_seeks 44 (.iconst 0) 1 45 := ⟨by decide +kernel, rfl⟩
theorem dX11_seeks_45 : gw_dc cX11_seeks 45 (.invokevirtual 242) 3 48 := ⟨by decide +kernel, rfl⟩
theorem dX11_seeks_48 : gw_dc cX11_seeks 48 (.iconst 0) 1 49 := ⟨by decide +kernel, rfl⟩
theorem dX11_seeks_49 : gw_dc cX11_seeks 49 (.iload_n 2) 1 50 := ⟨by decide +kernel, rfl⟩
theorem dX11_seeks_50 : gw_dc cX11_seeks 50 (.invokevirtual 364) 3 53 := ⟨by decide +kernel, rfl⟩
theorem dX11_seeks_53 : gw_dc cX11_seeks 53 (.aload_n 0) 1 54 := ⟨by decide +kernel, rfl⟩
theorem dX11_seeks_54 : gw_dc cX11_seeks 54 (.getfield 16) 3 57 := ⟨by decide +kernel, rfl⟩
theorem dX11_seeks_57 : gw_dc cX11_seeks 57 (.aload_n 0) 1 58 := ⟨by decide +kernel, rfl⟩
theorem dX11_seeks_58 : gw_dc cX11_seeks 58 (.getfield 9) 3 61 := ⟨by decide +kernel, rfl⟩
theorem dX11_seeks_61 : gw_dc cX11_seeks 61 (.invokestatic 204) 3 64 := ⟨by decide +kernel, rfl⟩
theorem dX11_seeks_64 : gw_dc cX11_seeks 64 (.iconst 1) 1 65 := ⟨by decide +kernel, rfl⟩
theorem dX11_seeks_65 : decode cX11_seeks 65 = .ok (.ireturn, 1) := by decide +kernel
theorem dX11_seeks_0 : gw_dc cX11_seeks 0 (.aload_n 0) 1 1 := ⟨by decide +kernel, rfl⟩
theorem dX11_seeks_1 : gw_dc cX11_seeks 1 (.iconst (-1)) 1 2 := ⟨by decide +kernel, rfl⟩
theorem dX11_seeks_2 : gw_dc cX11_seeks 2 (.putfield 371) 3 5 := ⟨by decide +kernel, rfl⟩
theorem dX11_seeks_5 : gw_dc cX11_seeks 5 (.iload_n 2) 1 6 := ⟨by decide +kernel, rfl⟩
theorem dX11_seeks_6 : gw_dc cX11_seeks 6 (.iconst 1) 1 7 := ⟨by decide +kernel, rfl⟩
theorem dX11_seeks_7 : gw_dc cX11_seeks 7 (.if_icmp .le 16) 3 10 := ⟨by decide +kernel, rfl⟩
theorem dX11_seeks_10 : gw_dc cX11_seeks 10 (.aload_n 0) 1 11 := ⟨by decide +kernel, rfl⟩
theorem dX11_seeks_11 : gw_dc cX11_seeks 11 (.iload_n 1) 1 12 := ⟨by decide +kernel, rfl⟩
theorem dX11_seeks_12 : gw_dc cX11_seeks 12 (.iconst 0) 1 13 := ⟨by decide +kernel, rfl⟩
theorem dX11_seeks_13 : gw_dc cX11_seeks 13 (.invokevirtual 242) 3 16 := ⟨by decide +kernel, rfl⟩
theorem dX11_seeks_16 : gw_dc cX11_seeks 16 (.bipush 30) 2 18 := ⟨by decide +kernel, rfl⟩
theorem dX11_seeks_18 : gw_dc cX11_seeks 18 (.if_icmp .le 5) 3 21 := ⟨by decide +kernel, rfl⟩
theorem dX11_seeks_21 : gw_dc cX11_seeks 21 (.iconst 0) 1 22 := ⟨by decide +kernel, rfl⟩
theorem dX11_seeks_22 : decode cX11_seeks 22 = .ok (.ireturn, 1) := by decide +kernel
theorem dX11_parting_135 : decode cX11_parting 135 = .ok (.ireturn, 1) := by decide +kernel
theorem dX11_parting_54 : gw_dc cX11_parting 54 (.putfield 88) 3 57 := ⟨by decide +kernel, rfl⟩
theorem dX11_parting_57 : gw_dc cX11_parting 57 (.aload_n 0) 1 58 := ⟨by decide +kernel, rfl⟩
theorem dX11_parting_58 : gw_dc cX11_parting 58 (.getfield 88) 3 61 := ⟨by decide +kernel, rfl⟩
theorem dX11_parting_61 : gw_dc cX11_parting 61 (.ifCond .le 5) 3 64 := ⟨by decide +kernel, rfl⟩
theorem dX11_parting_66 : gw_dc cX11_parting 66 (.aload_n 0) 1 67 := ⟨by decide +kernel, rfl⟩
theorem dX11_parting_67 : gw_dc cX11_parting 67 (.iload_n 1) 1 68 := ⟨by decide +kernel, rfl⟩
theorem dX11_parting_68 : gw_dc cX11_parting 68 (.iload_n 2) 1 69 := ⟨by decide +kernel, rfl⟩
theorem dX11_parting_69 : gw_dc cX11_parting 69 (.invokevirtual 383) 3 72 := ⟨by decide +kernel, rfl⟩
theorem mv_RX11_383 : gw_mv RX11 383 yX11_seeks := ⟨gw_mem 1874 (by decide +kernel) rfl, gw_mem 1876 (by decide +kernel) rfl, gw_mem 84 (by decide +kernel) rfl⟩
theorem my_X11_seeks : gw_my yX11_seeks cX11_seeks 3 (some .boolean) 2 := ⟨gw_mem 1877 (by decide +kernel) rfl, gw_mem 106 (by decide +kernel) rfl, by decide +kernel, by decide⟩
theorem dX11_parting_72 : gw_dc cX11_parting 72 (.ifCond .ne 6) 3 75 := ⟨by decide +kernel, rfl⟩
theorem dX11_parting_78 : gw_dc cX11_parting 78 (.aload_n 0) 1 79 := ⟨by decide +kernel, rfl⟩
theorem dX11_parting_79 : gw_dc cX11_parting 79 (.getfield 371) 3 82 := ⟨by decide +kernel, rfl⟩
theorem dX11_parting_82 : gw_dc cX11_parting 82 (.iconst (-1)) 1 83 := ⟨by decide +kernel, rfl⟩
theorem dX11_parting_83 : gw_dc cX11_parting 83 (.if_icmp .ne 5) 3 86 := ⟨by decide +kernel, rfl⟩
theorem dX11_parting_88 : gw_dc cX11_parting 88 (.iload_n 3) 1 89 := ⟨by decide +kernel, rfl⟩
theorem dX11_parting_89 : gw_dc cX11_parting 89 (.ifCond .ne 10) 3 92 := ⟨by decide +kernel, rfl⟩
theorem dX11_parting_99 : gw_dc cX11_parting 99 (.iload_n 3) 1 100 := ⟨by decide +kernel, rfl⟩
theorem dX11_parting_100 : gw_dc cX11_parting 100 (.iconst 1) 1 101 := ⟨by decide +kernel, rfl⟩
theorem dX11_parting_101 : gw_dc cX11_parting 101 (.if_icmp .ne 10) 3 104 := ⟨by decide +kernel, rfl⟩
theorem dX11_parting_111 : gw_dc cX11_parting 111 (.iload_n 3) 1 112 := ⟨by decide +kernel, rfl⟩
theorem dX11_parting_112 : gw_dc cX11_parting 112 (.bipush 10) 2 114 := ⟨by decide +kernel, rfl⟩
theorem dX11_parting_114 : gw_dc cX11_parting 114 (.isub) 1 115 := ⟨by decide +kernel, rfl⟩
theorem dX11_parting_115 : gw_dc cX11_parting 115 (.aload_n 0) 1 116 := ⟨by decide +kernel, rfl⟩
theorem dX11_parting_116 : gw_dc cX11_parting 116 (.getfield 371) 3 119 := ⟨by decide +kernel, rfl⟩
theorem dX11_parting_119 : gw_dc cX11_parting 119 (.if_icmp .ge 15) 3 122 := ⟨by decide +kernel, rfl⟩
theorem dX11_parting_134 : gw_dc cX11_parting 134 (.iconst (-1)) 1 135 := ⟨by decide +kernel, rfl⟩
theorem dX11_parting_122 : gw_dc cX11_parting 122 (.aload_n 0) 1 123 := ⟨by decide +kernel, rfl⟩
theorem dX11_parting_123 : gw_dc cX11_parting 123 (.getfield 72) 3 126 := ⟨by decide +kernel, rfl⟩
theorem dX11_parting_126 : gw_dc cX11_parting 126 (.iload_n 3) 1 127 := ⟨by decide +kernel, rfl⟩
theorem dX11_parting_127 : gw_dc cX11_parting 127 (.bipush 10) 2 129 := ⟨by decide +kernel, rfl⟩
theorem dX11_parting_129 : gw_dc cX11_parting 129 (.isub) 1 130 := ⟨by decide +kernel, rfl⟩
theorem dX11_parting_130 : gw_dc cX11_parting 130 (.iaload) 1 131 := ⟨by decide +kernel, rfl⟩
theorem dX11_parting_131 : gw_dc cX11_parting 131 (.goto 4) 3 134 := ⟨by decide +kernel, rfl⟩
theorem dX11_parting_104 : gw_dc cX11_parting 104 (.aload_n 0) 1 105 := ⟨by decide +kernel, rfl⟩
theorem dX11_parting_105 : gw_dc cX11_parting 105 (.getfield 371) 3 108 := ⟨by decide +kernel, rfl⟩
theorem dX11_parting_108 : gw_dc cX11_parting 108 (.goto 27) 3 111 := ⟨by decide +kernel, rfl⟩
theorem dX11_parting_92 : gw_dc cX11_parting 92 (.aload_n 0) 1 93 := ⟨by decide +kernel, rfl⟩
theorem dX11_parting_93 : gw_dc cX11_parting 93 (.getfield 374) 3 96 := ⟨by decide +kernel, rfl⟩
theorem dX11_parting_96 : gw_dc cX11_parting 96 (.goto 39) 3 99 := ⟨by decide +kernel, rfl⟩
theorem dX11_parting_86 : gw_dc cX11_parting 86 (.iconst (-1)) 1 87 := ⟨by decide +kernel, rfl⟩
theorem dX11_parting_87 : decode cX11_parting 87 = .ok (.ireturn, 1) := by decide +kernel
theorem dX11_parting_75 : gw_dc cX11_parting 75 (.bipush (-2)) 2 77 := ⟨by decide +kernel, rfl⟩
theorem dX11_parting_77 : decode cX11_parting 77 = .ok (.ireturn, 1) := by decide +kernel
theorem dX11_parting_64 : gw_dc cX11_parting 64 (.iconst 0) 1 65 := ⟨by decide +kernel, rfl⟩
theorem dX11_parting_65 : decode cX11_parting 65 = .ok (.ireturn, 1) := by decide +kernel
theorem dX11_parting_0 : gw_dc cX11_parting 0 (.aload_n 0) 1 1 := ⟨by decide +kernel, rfl⟩
theorem dX11_parting_1 : gw_dc cX11_parting 1 (.aload_n 0) 1 2 := ⟨by decide +kernel, rfl⟩
theorem dX11_parting_2 : gw_dc cX11_parting 2 (.iload_n 1) 1 3 := ⟨by decide +kernel, rfl⟩
theorem dX11_parting_3 : gw_dc cX11_parting 3 (.invokevirtual 244) 3 6 := ⟨by decide +kernel, rfl⟩
theorem dX11_parting_6 : gw_dc cX11_parting 6 (.ifCond .ne 7) 3 9 := ⟨by decide +kernel, rfl⟩
theorem dX11_parting_13 : gw_dc cX11_parting 13 (.iload_n 2) 1 14 := ⟨by decide +kernel, rfl⟩
theorem dX11_parting_14 : gw_dc cX11_parting 14 (.i2l) 1 15 := ⟨by decide +kernel, rfl⟩
theorem dX11_parting_15 : gw_dc cX11_parting 15 (.lconst 1) 1 16 := ⟨by decide +kernel, rfl⟩
theorem dX11_parting_16 : gw_dc cX11_parting 16 (.ldc2_w 377) 3 19 := ⟨by decide +kernel, rfl⟩
theorem kc_RX11_377 : Cond.constantLong RX11 377 (Int64.ofInt 6) ∈ wsG := gw_mem 1871 (by decide +kernel) rfl
theorem dX11_parting_19 : gw_dc cX11_parting 19 (.invokestatic 147) 3 22 := ⟨by decide +kernel, rfl⟩
theorem dX11_parting_22 : gw_dc cX11_parting 22 (.ifCond .eq 31) 3 25 := ⟨by decide +kernel, rfl⟩
theorem dX11_parting_53 : gw_dc cX11_parting 53 (.iconst 2) 1 54 := ⟨by decide +kernel, rfl⟩
theorem dX11_parting_25 : gw_dc cX11_parting 25 (.iload_n 3) 1 26 := ⟨by decide +kernel, rfl⟩
theorem dX11_parting_26 : gw_dc cX11_parting 26 (.i2l) 1 27 := ⟨by decide +kernel, rfl⟩
theorem dX11_parting_27 : gw_dc cX11_parting 27 (.lconst 0) 1 28 := ⟨by decide +kernel, rfl⟩
theorem dX11_parting_28 : gw_dc cX11_parting 28 (.lconst 1) 1 29 := ⟨by decide +kernel, rfl⟩
theorem dX11_parting_29 : gw_dc cX11_parting 29 (.invokestatic 147) 3 32 := ⟨by decide +kernel, rfl⟩
theorem dX11_parting_32 : gw_dc cX11_parting 32 (.ifCond .ne 17) 3 35 := ⟨by decide +kernel, rfl⟩
theorem dX11_parting_49 : gw_dc cX11_parting 49 (.iconst 0) 1 50 := ⟨by decide +kernel, rfl⟩
theorem dX11_parting_50 : gw_dc cX11_parting 50 (.goto 4) 3 53 := ⟨by decide +kernel, rfl⟩
theorem dX11_parting_35 : gw_dc cX11_parting 35 (.iload_n 3) 1 36 := ⟨by decide +kernel, rfl⟩
theorem dX11_parting_36 : gw_dc cX11_parting 36 (.i2l) 1 37 := ⟨by decide +kernel, rfl⟩
theorem dX11_parting_37 : gw_dc cX11_parting 37 (.ldc2_w 379) 3 40 := ⟨by decide +kernel, rfl⟩
theorem kc_RX11_379 : Cond.constantLong RX11 379 (Int64.ofInt 10) ∈ wsG := gw_mem 1872 (by decide +kernel) rfl
theorem dX11_parting_40 : gw_dc cX11_parting 40 (.ldc2_w 381) 3 43 := ⟨by decide +kernel, rfl⟩
theorem kc_RX11_381 : Cond.constantLong RX11 381 (Int64.ofInt 15) ∈ wsG := gw_mem 1873 (by decide +kernel) rfl
theorem dX11_parting_43 : gw_dc cX11_parting 43 (.invokestatic 147) 3 46 := ⟨by decide +kernel, rfl⟩
theorem dX11_parting_46 : gw_dc cX11_parting 46 (.ifCond .eq 7) 3 49 := ⟨by decide +kernel, rfl⟩
theorem dX11_parting_9 : gw_dc cX11_parting 9 (.iconst 1) 1 10 := ⟨by decide +kernel, rfl⟩
theorem dX11_parting_10 : gw_dc cX11_parting 10 (.goto 44) 3 13 := ⟨by decide +kernel, rfl⟩
/-! The model, 19: partings, walked -/
def pgV (σ : Sg) (s n w : Int) : Int := if nIsS σ s = 0 then 1 else if wth n 1 6 ≠ 0 ∧ (wth w 0 1 ≠ 0 ∨ wth w 10 15 ≠ 0) then 0 else 2
theorem pgV_0 {σ : Sg} (hT : TW (σ 224)) {s n w : Int} (h : pgV σ s n w ≤ 0) : (0 ≤ s ∧ s < σ 224 4) ∧ (1 ≤ n ∧ n ≤ 6) ∧ ((0 ≤ w ∧ w ≤ 1) ∨ (10 ≤ w ∧ w ≤ 15)) := by
  unfold pgV at h
  split at h
  · omega
  · next q =>
    split at h
    · next q2 =>
      refine ⟨(isS_1 hT).mp q, wth_1 q2.1, ?_⟩
      rcases q2.2 with q3 | q3
      · exact Or.inl (wth_1 q3)
      · exact Or.inr (wth_1 q3)
    · omega
def pgA (y : Sg) (w : Int) : Int := if y 223 34 = -1 then -1 else if w = 0 then y 223 35 else if w = 1 then y 223 34 else if w - 10 < y 223 34 then y 243 (w - 10).toNat else -1
def nPgA (x : Sg) (s n w : Int) : Int × Sg := if (nSe x s n).1 = 0 then (-2, (nSe x s n).2) else (pgA (nSe x s n).2 w, (nSe x s n).2)
def nPg (σ : Sg) (s n w : Int) : Int × Sg := if 0 < pgV σ s n w then (0, nThr σ (pgV σ s n w)) else nPgA (nThr σ (pgV σ s n w)) s n w
set_option maxRecDepth 4000 in
theorem s_X11_judges (ad : Nat → Nat) (σ : Sg)  (s : Int) (dm : Int) (n : Nat) (hd : dm = ((n : Nat) : Int)) (hT : TW (σ 224)) (hs : 0 ≤ s ∧ s < σ 224 4) (hn : 1 ≤ n ∧ n ≤ 8) (ht : Tr9 σ n) : gw_Sp yX11_judges cX11_judges 5 none 8 0 0 [vR (some 223), vI s, vI dm] (gw_M0 ad) σ (gw_D none (gw_M0 ad) (nJg σ s n)) gw_no := by
  refine gw_Sp.of [some (vR (some 223)), some (vI s), some (vI dm), none, none] (by decide +kernel) rfl (Nat.le_of_ble_eq_true rfl) ?_
  intro X G fx het hnm
  subst hd
  obtain ⟨e1, e2, h2, h3⟩ := pt_rg hT hs.1 hs.2
  have hP := hT.p60
  have hS := hT.sacks
  have j94 : ¬ (60 < σ 224 668 - nOf σ s 6 + ((n : Nat) : Int)) → ¬ (jg2 σ s n 223 34 ≠ -1 ∧ (jg2 σ s n 223 35 < (nPcO (jg2 σ s n) s) ∨ ((nPcO (jg2 σ s n) s) = jg2 σ s n 223 35 ∧ jg2 σ s n 223 34 ≤ ((n : Nat) : Int)))) → gw_W X (yX11_judges.cls, cX11_judges, 5, none, 8, 0, 0) G (gw_Z X G (gw_M0 ad) σ (gw_D none (gw_M0 ad) (nJg σ s n)) gw_no 0 0) 0 0 (gw_M0 ad) ((jg2 σ s n)) 94 [some (vR (some 223)), some (vI s), some (vI ((n : Nat) : Int)), some (vI (nPcO (jg2 σ s n) s)), none] [] := by
    intro hj1 hj2
    refine g_aload_n fx dX11_judges_94 rfl ?_
    refine g_iload_n fx dX11_judges_95 rfl ?_
    refine g_puti fx dX11_judges_96 fk_RX11_374 o_223 ?_
    refine g_aload_n fx dX11_judges_99 rfl ?_
    refine g_iload_n fx dX11_judges_100 rfl ?_
    refine g_puti fx dX11_judges_101 fk_RX11_371 o_223 ?_
    refine g_iconst fx dX11_judges_104 (by unfold okI; omega) ?_
    refine g_istore fx dX11_judges_105 (by decide) rfl rfl ?_
    have loop107 : ∀ k : Nat, k ≤ n → gw_W X (yX11_judges.cls, cX11_judges, 5, none, 8, 0, 0) G (gw_Z X G (gw_M0 ad) σ (gw_D none (gw_M0 ad) (nJg σ s n)) gw_no 0 0) 0 0 (gw_M0 ad) ((itr k jbS (su (su (jg2 σ s n) 223 35 (nPcO (jg2 σ s n) s)) 223 34 ((n : Nat) : Int)))) 107 [some (vR (some 223)), some (vI s), some (vI ((n : Nat) : Int)), some (vI (nPcO (jg2 σ s n) s)), some (vI (k : Nat))] [] := by
      refine up_ind _ (n) (fun k hk ih => ?_)
      refine g_iload fx dX11_judges_107 rfl ?_
      refine g_iload_n fx dX11_judges_109 rfl ?_
      refine g_icmp_ge (tgt := 133) fx dX11_judges_110 (by decide) (fun h110 => ?_) (fun h110 => ?_)
      · exact g_vret fx rfl dX11_judges_133 (by decide) (by decide) (gw_le.rf _) ⟨rfl, rfl, by rw [nJg, if_neg hj1, if_neg hj2, jg3, show n = k by omega]⟩
      · refine g_aload_n fx dX11_judges_113 rfl ?_
        refine g_getr fx dX11_judges_114 fk_RX11_72 o_223 rf_223_33 ?_
        refine g_iload fx dX11_judges_117 rfl ?_
        refine g_aload_n fx dX11_judges_119 rfl ?_
        refine g_getr fx dX11_judges_120 fk_RX11_69 o_223 rf_223_32 ?_
        refine g_iload fx dX11_judges_123 rfl ?_
        refine g_iald fx dX11_judges_125 o_242 (by omega) (by show _ < ((8 : Nat) : Int); omega) ?_
        rw [show ((k : Nat) : Int).toNat = k from rfl]
        refine g_iast fx dX11_judges_126 o_243 (by omega) (by show _ < ((8 : Nat) : Int); omega) ?_
        refine g_iinc1 fx dX11_judges_127 (by decide) rfl rfl (by unfold okI; omega) rfl ?_
        refine g_goto (tgt := 107) fx dX11_judges_130 (by decide) ?_
        exact gw_cg (by rw [itr_s, jbS] <;> rfl) (by rw [show ((k : Nat) : Int) + 1 = ((k + 1 : Nat) : Int) by omega] <;> rfl) (ih (by omega))
    exact loop107 0 (Nat.zero_le _)
  refine g_aload_n fx dX11_judges_0 rfl ?_
  refine g_getr fx dX11_judges_1 fk_RX11_9 o_223 rf_223_0 ?_
  refine g_sipush fx dX11_judges_4 (by decide) ?_
  refine g_iald fx dX11_judges_7 o_224 (by decide) (by decide) ?_
  rw [show Int.toNat 668 = 668 from rfl]
  refine g_aload_n fx dX11_judges_8 rfl ?_
  refine g_iload_n fx dX11_judges_9 rfl ?_
  refine g_bipush fx dX11_judges_10 (by decide) ?_
  refine g_callVD fx dX11_judges_12 mv_RX11_242 my_X11_of (s_X11_of ad _ _ _ (by omega)) o_223 rfl rfl rfl (Nat.le_of_ble_eq_true rfl) (by decide) (by decide) ?_
  refine g_isub1 fx dX11_judges_15 (by unfold okI; omega) ?_
  refine g_iload_n fx dX11_judges_16 rfl ?_
  refine g_iadd1 fx dX11_judges_17 (by unfold okI; omega) ?_
  refine g_bipush fx dX11_judges_18 (by decide) ?_
  refine g_icmp_le (tgt := 24) fx dX11_judges_20 (by decide) (fun h20 => ?_) (fun h20 => ?_)
  · refine g_iconst fx dX11_judges_24 (by unfold okI; omega) ?_
    refine g_istore_n fx dX11_judges_25 (by decide) rfl rfl ?_
    have loop26 : ∀ k : Nat, k ≤ n → gw_W X (yX11_judges.cls, cX11_judges, 5, none, 8, 0, 0) G (gw_Z X G (gw_M0 ad) σ (gw_D none (gw_M0 ad) (nJg σ s n)) gw_no 0 0) 0 0 (gw_M0 ad) ((itr k jgS σ)) 26 [some (vR (some 223)), some (vI s), some (vI ((n : Nat) : Int)), some (vI (k : Nat)), none] [] := by
      refine up_ind _ (n) (fun k hk ih => ?_)
      refine g_iload_n fx dX11_judges_26 rfl ?_
      refine g_iload_n fx dX11_judges_27 rfl ?_
      refine g_icmp_ge (tgt := 49) fx dX11_judges_28 (by decide) (fun h28 => ?_) (fun h28 => ?_)
      · obtain rfl : k = n := by omega
        have e : itr k jgS σ 224 = σ 224 := jgS_ne k σ (by decide)
        obtain ⟨k1, k2, k3⟩ := jg1_kp hT hs.1 hs.2 hn ht (by omega)
        refine g_aload_n fx dX11_judges_49 rfl ?_
        refine g_iload_n fx dX11_judges_50 rfl ?_
        refine g_iload_n fx dX11_judges_51 rfl ?_
        refine g_callVD0 fx dX11_judges_52 mv_RX11_261 my_X11_parts (s_X11_parts ad _ _ _ (show TW (itr k jgS σ 224) by rw [e]; exact hT) (by rw [e]; exact hs) (by omega) (by rw [nOf_of e, e]; omega)) o_223 rfl rfl rfl (Nat.le_of_ble_eq_true rfl) (by decide) (by decide) ?_
        refine gw_cg (σ' := jg1 σ s k) rfl rfl ?_
        refine g_aload_n fx dX11_judges_55 rfl ?_
        refine g_iload_n fx dX11_judges_56 rfl ?_
        refine g_callVD fx dX11_judges_57 mv_RX11_368 my_X11_priceOf (s_X11_priceOf ad _ _ k1 (by rw [k2]; exact hs)) o_223 rfl rfl rfl (Nat.le_of_ble_eq_true rfl) (by decide) (by decide) ?_
        refine gw_cgt (σ' := jg2 σ s k) (v' := nPcO (jg2 σ s k) s) rfl rfl ?_
        refine g_istore_n fx dX11_judges_60 (by decide) rfl rfl ?_
        refine g_aload_n fx dX11_judges_61 rfl ?_
        refine g_geti fx dX11_judges_62 fk_RX11_371 (by decide) o_223 ?_
        refine g_iconst fx dX11_judges_65 (by unfold okI; omega) ?_
        refine g_icmp_eq (tgt := 94) fx dX11_judges_66 (by decide) (fun h66 => ?_) (fun h66 => ?_)
        · exact j94 (by omega) (by omega)
        · refine g_iload_n fx dX11_judges_69 rfl ?_
          refine g_aload_n fx dX11_judges_70 rfl ?_
          refine g_geti fx dX11_judges_71 fk_RX11_374 (by decide) o_223 ?_
          refine g_icmp_gt (tgt := 93) fx dX11_judges_74 (by decide) (fun h74 => ?_) (fun h74 => ?_)
          · exact g_vret fx rfl dX11_judges_93 (by decide) (by decide) (gw_le.rf _) ⟨rfl, rfl, by rw [nJg, if_neg (by omega), if_pos (by omega)]⟩
          · refine g_iload_n fx dX11_judges_77 rfl ?_
            refine g_aload_n fx dX11_judges_78 rfl ?_
            refine g_geti fx dX11_judges_79 fk_RX11_374 (by decide) o_223 ?_
            refine g_icmp_ne (tgt := 94) fx dX11_judges_82 (by decide) (fun h82 => ?_) (fun h82 => ?_)
            · exact j94 (by omega) (by omega)
            · refine g_iload_n fx dX11_judges_85 rfl ?_
              refine g_aload_n fx dX11_judges_86 rfl ?_
              refine g_geti fx dX11_judges_87 fk_RX11_371 (by decide) o_223 ?_
              refine g_icmp_lt (tgt := 94) fx dX11_judges_90 (by decide) (fun h90 => ?_) (fun h90 => ?_)
              · exact j94 (by omega) (by omega)
              · exact g_vret fx rfl dX11_judges_93 (by decide) (by decide) (gw_le.rf _) ⟨rfl, rfl, by rw [nJg, if_neg (by omega), if_pos (by omega)]⟩
      · refine g_aload_n fx dX11_judges_31 rfl ?_
        refine g_getr fx dX11_judges_32 fk_RX11_33 o_223 rf_223_17 ?_
        refine g_iload_n fx dX11_judges_35 rfl ?_
        refine g_aload_n fx dX11_judges_36 rfl ?_
        refine g_getr fx dX11_judges_37 fk_RX11_69 o_223 rf_223_32 ?_
        refine g_iload_n fx dX11_judges_40 rfl ?_
        refine g_iald fx dX11_judges_41 o_242 (by omega) (by show _ < ((8 : Nat) : Int); omega) ?_
        rw [show ((k : Nat) : Int).toNat = k from rfl]
        refine g_iast fx dX11_judges_42 o_230 (by omega) (by show _ < ((8 : Nat) : Int); omega) ?_
        refine g_iinc1 fx dX11_judges_43 (by decide) rfl rfl (by unfold okI; omega) rfl ?_
        refine g_goto (tgt := 26) fx dX11_judges_46 (by decide) ?_
        exact gw_cg (by rw [itr_s, jgS] <;> rfl) (by rw [show ((k : Nat) : Int) + 1 = ((k + 1 : Nat) : Int) by omega] <;> rfl) (ih (by omega))
    exact loop26 0 (Nat.zero_le _)
  · exact g_vret fx rfl dX11_judges_23 (by decide) (by decide) (gw_le.rf _) ⟨rfl, rfl, by rw [nJg, if_pos (by omega)]⟩
set_option maxRecDepth 4000 in
theorem s_X11_tries_6 (ad : Nat → Nat) (σ : Sg)  (s : Int) (left : Int) (most : Int) (dp : Int) (n : Int) (hd9 : dp = ((6 : Nat) : Int)) (hT : TW (σ 224)) (hs : 0 ≤ s ∧ s < σ 224 4) (h0 : 0 ≤ left) (h9 : left ≤ 99) (hz : left = 0 → 1 ≤ 6) (ht : Tr9 σ 6) (hn : n ≤ 6) : gw_Sp yX11_tries cX11_tries 7 none 9 0 0 [vR (some 223), vI s, vI left, vI most, vI dp, vI n] (gw_M0 ad) σ (gw_D none (gw_M0 ad) (trF s n 1 left most 6 σ)) gw_no := by
  refine gw_Sp.of [some (vR (some 223)), some (vI s), some (vI left), some (vI most), some (vI dp), some (vI n), none] (by decide +kernel) rfl (Nat.le_of_ble_eq_true rfl) ?_
  intro X G fx het hnm
  subst hd9
  refine g_iload_n fx dX11_tries_0 rfl ?_
  refine g_if_ne (tgt := 12) fx dX11_tries_1 (by decide) (fun h1 => ?_) (fun h1 => ?_)
  · refine g_iload_n fx dX11_tries_12 rfl ?_
    refine g_iload_n fx dX11_tries_13 rfl ?_
    refine g_min fx dX11_tries_14 mm_RX11_314 (by decide) (by decide) (by decide) (Nat.le_of_ble_eq_true rfl) ?_
    refine g_istore fx dX11_tries_17 (by decide) rfl rfl ?_
    have loop19 : ∀ i : Nat, i ≤ (min left most).toNat → (0 < i → ((6 : Nat) : Int) < n) → gw_W X (yX11_tries.cls, cX11_tries, 7, none, 9, 0, 0) G (gw_Z X G (gw_M0 ad) σ (gw_D none (gw_M0 ad) (trF s n 1 left most 6 σ)) gw_no 0 0) 0 0 (gw_M0 ad) ((itr i (trS (trF s n 0) left (min left most) 6) σ)) 19 [some (vR (some 223)), some (vI s), some (vI left), some (vI most), some (vI ((6 : Nat) : Int)), some (vI n), some (vI (min left most - ((i : Nat) : Int)))] [] := by
      refine up_ind _ _ (fun i hi ih => ?_)
      intro hdi
      refine g_iload fx dX11_tries_19 rfl ?_
      refine g_if_le (tgt := 63) fx dX11_tries_21 (by decide) (fun h21 => ?_) (fun h21 => ?_)
      · exact g_vret fx rfl dX11_tries_63 (by decide) (by decide) (gw_le.rf _) ⟨rfl, rfl, by
            rw [trF, if_neg h1]
            by_cases q : ((6 : Nat) : Int) < n
            · rw [if_pos q, show (min left most).toNat = i by omega]
            · rw [if_neg q, show i = 0 by omega]; rfl⟩
      · refine g_iload fx dX11_tries_24 rfl ?_
        refine g_iload fx dX11_tries_26 rfl ?_
        refine g_icmp_ge (tgt := 63) fx dX11_tries_28 (by decide) (fun h28 => ?_) (fun h28 => ?_)
        · exact g_vret fx rfl dX11_tries_63 (by decide) (by decide) (gw_le.rf _) ⟨rfl, rfl, by
              rw [trF, if_neg h1]
              by_cases q : ((6 : Nat) : Int) < n
              · rw [if_pos q, show (min left most).toNat = i by omega]
              · rw [if_neg q, show i = 0 by omega]; rfl⟩
        · exfalso; omega
    exact gw_cg rfl (by rw [show min left most - ((0 : Nat) : Int) = min left most by omega] <;> rfl) (loop19 0 (Nat.zero_le _) (fun q => by omega))
  · refine g_aload_n fx dX11_tries_4 rfl ?_
    refine g_iload_n fx dX11_tries_5 rfl ?_
    refine g_iload fx dX11_tries_6 rfl ?_
    refine g_callVD0 fx dX11_tries_8 mv_RX11_361 my_X11_judges (s_X11_judges ad _ _ _ 6 rfl hT hs ⟨hz h1, by decide⟩ ht) o_223 rfl rfl rfl (Nat.le_of_ble_eq_true rfl) (by decide) (by decide) ?_
    exact g_vret fx rfl dX11_tries_11 (by decide) (by decide) (gw_le.rf _) ⟨rfl, rfl, by rw [trF, if_pos h1]⟩
set_option maxRecDepth 4000 in
theorem s_X11_tries_5 (ad : Nat → Nat) (σ : Sg)  (s : Int) (left : Int) (most : Int) (dp : Int) (n : Int) (hd9 : dp = ((5 : Nat) : Int)) (hT : TW (σ 224)) (hs : 0 ≤ s ∧ s < σ 224 4) (h0 : 0 ≤ left) (h9 : left ≤ 99) (hz : left = 0 → 1 ≤ 5) (ht : Tr9 σ 5) (hn : n ≤ 6) : gw_Sp yX11_tries cX11_tries 7 none 10 0 0 [vR (some 223), vI s, vI left, vI most, vI dp, vI n] (gw_M0 ad) σ (gw_D none (gw_M0 ad) (trF s n 2 left most 5 σ)) gw_no := by
  refine gw_Sp.of [some (vR (some 223)), some (vI s), some (vI left), some (vI most), some (vI dp), some (vI n), none] (by decide +kernel) rfl (Nat.le_of_ble_eq_true rfl) ?_
  intro X G fx het hnm
  subst hd9
  refine g_iload_n fx dX11_tries_0 rfl ?_
  refine g_if_ne (tgt := 12) fx dX11_tries_1 (by decide) (fun h1 => ?_) (fun h1 => ?_)
  · refine g_iload_n fx dX11_tries_12 rfl ?_
    refine g_iload_n fx dX11_tries_13 rfl ?_
    refine g_min fx dX11_tries_14 mm_RX11_314 (by decide) (by decide) (by decide) (Nat.le_of_ble_eq_true rfl) ?_
    refine g_istore fx dX11_tries_17 (by decide) rfl rfl ?_
    have loop19 : ∀ i : Nat, i ≤ (min left most).toNat → (0 < i → ((5 : Nat) : Int) < n) → gw_W X (yX11_tries.cls, cX11_tries, 7, none, 10, 0, 0) G (gw_Z X G (gw_M0 ad) σ (gw_D none (gw_M0 ad) (trF s n 2 left most 5 σ)) gw_no 0 0) 0 0 (gw_M0 ad) ((itr i (trS (trF s n 1) left (min left most) 5) σ)) 19 [some (vR (some 223)), some (vI s), some (vI left), some (vI most), some (vI ((5 : Nat) : Int)), some (vI n), some (vI (min left most - ((i : Nat) : Int)))] [] := by
      refine up_ind _ _ (fun i hi ih => ?_)
      intro hdi
      refine g_iload fx dX11_tries_19 rfl ?_
      refine g_if_le (tgt := 63) fx dX11_tries_21 (by decide) (fun h21 => ?_) (fun h21 => ?_)
      · exact g_vret fx rfl dX11_tries_63 (by decide) (by decide) (gw_le.rf _) ⟨rfl, rfl, by
            rw [trF, if_neg h1]
            by_cases q : ((5 : Nat) : Int) < n
            · rw [if_pos q, show (min left most).toNat = i by omega]
            · rw [if_neg q, show i = 0 by omega]; rfl⟩
      · refine g_iload fx dX11_tries_24 rfl ?_
        refine g_iload fx dX11_tries_26 rfl ?_
        refine g_icmp_ge (tgt := 63) fx dX11_tries_28 (by decide) (fun h28 => ?_) (fun h28 => ?_)
        · exact g_vret fx rfl dX11_tries_63 (by decide) (by decide) (gw_le.rf _) ⟨rfl, rfl, by
              rw [trF, if_neg h1]
              by_cases q : ((5 : Nat) : Int) < n
              · rw [if_pos q, show (min left most).toNat = i by omega]
              · rw [if_neg q, show i = 0 by omega]; rfl⟩
        · have hdn : ((5 : Nat) : Int) < n := by omega
          have hk1 := trI_kp s n 1 (trF_kp s n hn 1) (left := left) (most := most) (d := 5) hT hs h9 (by decide) ht i (by omega)
          refine g_aload_n fx dX11_tries_31 rfl ?_
          refine g_getr fx dX11_tries_32 fk_RX11_69 o_223 rf_223_32 ?_
          refine g_iload fx dX11_tries_35 rfl ?_
          refine g_iload fx dX11_tries_37 rfl ?_
          refine g_iast fx dX11_tries_39 o_242 (by omega) (by show _ < ((8 : Nat) : Int); omega) ?_
          rw [show ((5 : Nat) : Int).toNat = 5 from rfl]
          have ht2 : Tr9 (su (itr i (trS (trF s n 1) left (min left most) 5) σ) 242 5 (min left most - ((i : Nat) : Int))) 6 := by
            intro k hk
            by_cases e : k = 5
            · subst e; rw [su_same]; omega
            · rw [su_ne _ _ (Or.inr e), hk1.2.2 k (by omega)]; exact ht k (by omega)
          refine g_aload_n fx dX11_tries_40 rfl ?_
          refine g_iload_n fx dX11_tries_41 rfl ?_
          refine g_iload_n fx dX11_tries_42 rfl ?_
          refine g_iload fx dX11_tries_43 rfl ?_
          refine g_isub1 fx dX11_tries_45 (by unfold okI; omega) ?_
          refine g_iload fx dX11_tries_46 rfl ?_
          refine g_iload fx dX11_tries_48 rfl ?_
          refine g_iconst fx dX11_tries_50 (by unfold okI; omega) ?_
          refine g_iadd1 fx dX11_tries_51 (by unfold okI; omega) ?_
          refine g_iload fx dX11_tries_52 rfl ?_
          refine g_callVD0 fx dX11_tries_54 mv_RX11_364 my_X11_tries (s_X11_tries_6 ad _ _ _ _ _ _ (by decide) (show TW ((itr i (trS (trF s n 1) left (min left most) 5) σ) 224) from hk1.1) (show 0 ≤ s ∧ s < (itr i (trS (trF s n 1) left (min left most) 5) σ) 224 4 by rw [hk1.2.1]; exact hs) (by omega) (by omega) (fun _ => by decide) ht2 hn) o_223 rfl rfl rfl (Nat.le_of_ble_eq_true rfl) (by decide) (by decide) ?_
          refine g_iinc1 fx dX11_tries_57 (by decide) rfl rfl (by unfold okI; omega) rfl ?_
          refine g_goto (tgt := 19) fx dX11_tries_60 (by decide) ?_
          exact gw_cg (by rw [itr_s, trS] <;> rfl) (by rw [show min left most - ((i : Nat) : Int) + (-1) = min left most - ((i + 1 : Nat) : Int) by omega] <;> rfl) (ih (by omega) (fun _ => hdn))
    exact gw_cg rfl (by rw [show min left most - ((0 : Nat) : Int) = min left most by omega] <;> rfl) (loop19 0 (Nat.zero_le _) (fun q => by omega))
  · refine g_aload_n fx dX11_tries_4 rfl ?_
    refine g_iload_n fx dX11_tries_5 rfl ?_
    refine g_iload fx dX11_tries_6 rfl ?_
    refine g_callVD0 fx dX11_tries_8 mv_RX11_361 my_X11_judges (s_X11_judges ad _ _ _ 5 rfl hT hs ⟨hz h1, by decide⟩ ht) o_223 rfl rfl rfl (Nat.le_of_ble_eq_true rfl) (by decide) (by decide) ?_
    exact g_vret fx rfl dX11_tries_11 (by decide) (by decide) (gw_le.rf _) ⟨rfl, rfl, by rw [trF, if_pos h1]⟩
set_option maxRecDepth 4000 in
theorem s_X11_tries_4 (ad : Nat → Nat) (σ : Sg)  (s : Int) (left : Int) (most : Int) (dp : Int) (n : Int) (hd9 : dp = ((4 : Nat) : Int)) (hT : TW (σ 224)) (hs : 0 ≤ s ∧ s < σ 224 4) (h0 : 0 ≤ left) (h9 : left ≤ 99) (hz : left = 0 → 1 ≤ 4) (ht : Tr9 σ 4) (hn : n ≤ 6) : gw_Sp yX11_tries cX11_tries 7 none 11 0 0 [vR (some 223), vI s, vI left, vI most, vI dp, vI n] (gw_M0 ad) σ (gw_D none (gw_M0 ad) (trF s n 3 left most 4 σ)) gw_no := by
  refine gw_Sp.of [some (vR (some 223)), some (vI s), some (vI left), some (vI most), some (vI dp), some (vI n), none] (by decide +kernel) rfl (Nat.le_of_ble_eq_true rfl) ?_
  intro X G fx het hnm
  subst hd9
  refine g_iload_n fx dX11_tries_0 rfl ?_
  refine g_if_ne (tgt := 12) fx dX11_tries_1 (by decide) (fun h1 => ?_) (fun h1 => ?_)
  · refine g_iload_n fx dX11_tries_12 rfl ?_
    refine g_iload_n fx dX11_tries_13 rfl ?_
    refine g_min fx dX11_tries_14 mm_RX11_314 (by decide) (by decide) (by decide) (Nat.le_of_ble_eq_true rfl) ?_
    refine g_istore fx dX11_tries_17 (by decide) rfl rfl ?_
    have loop19 : ∀ i : Nat, i ≤ (min left most).toNat → (0 < i → ((4 : Nat) : Int) < n) → gw_W X (yX11_tries.cls, cX11_tries, 7, none, 11, 0, 0) G (gw_Z X G (gw_M0 ad) σ (gw_D none (gw_M0 ad) (trF s n 3 left most 4 σ)) gw_no 0 0) 0 0 (gw_M0 ad) ((itr i (trS (trF s n 2) left (min left most) 4) σ)) 19 [some (vR (some 223)), some (vI s), some (vI left), some (vI most), some (vI ((4 : Nat) : Int)), some (vI n), some (vI (min left most - ((i : Nat) : Int)))] [] := by
      refine up_ind _ _ (fun i hi ih => ?_)
      intro hdi
      refine g_iload fx dX11_tries_19 rfl ?_
      refine g_if_le (tgt := 63) fx dX11_tries_21 (by decide) (fun h21 => ?_) (fun h21 => ?_)
      · exact g_vret fx rfl dX11_tries_63 (by decide) (by decide) (gw_le.rf _) ⟨rfl, rfl, by
            rw [trF, if_neg h1]
            by_cases q : ((4 : Nat) : Int) < n
            · rw [if_pos q, show (min left most).toNat = i by omega]
            · rw [if_neg q, show i = 0 by omega]; rfl⟩
      · refine g_iload fx dX11_tries_24 rfl ?_
        refine g_iload fx dX11_tries_26 rfl ?_
        refine g_icmp_ge (tgt := 63) fx dX11_tries_28 (by decide) (fun h28 => ?_) (fun h28 => ?_)
        · exact g_vret fx rfl dX11_tries_63 (by decide) (by decide) (gw_le.rf _) ⟨rfl, rfl, by
              rw [trF, if_neg h1]
              by_cases q : ((4 : Nat) : Int) < n
              · rw [if_pos q, show (min left most).toNat = i by omega]
              · rw [if_neg q, show i = 0 by omega]; rfl⟩
        · have hdn : ((4 : Nat) : Int) < n := by omega
          have hk1 := trI_kp s n 2 (trF_kp s n hn 2) (left := left) (most := most) (d := 4) hT hs h9 (by decide) ht i (by omega)
          refine g_aload_n fx dX11_tries_31 rfl ?_
          refine g_getr fx dX11_tries_32 fk_RX11_69 o_223 rf_223_32 ?_
          refine g_iload fx dX11_tries_35 rfl ?_
          refine g_iload fx dX11_tries_37 rfl ?_
          refine g_iast fx dX11_tries_39 o_242 (by omega) (by show _ < ((8 : Nat) : Int); omega) ?_
          rw [show ((4 : Nat) : Int).toNat = 4 from rfl]
          have ht2 : Tr9 (su (itr i (trS (trF s n 2) left (min left most) 4) σ) 242 4 (min left most - ((i : Nat) : Int))) 5 := by
            intro k hk
            by_cases e : k = 4
            · subst e; rw [su_same]; omega
            · rw [su_ne _ _ (Or.inr e), hk1.2.2 k (by omega)]; exact ht k (by omega)
          refine g_aload_n fx dX11_tries_40 rfl ?_
          refine g_iload_n fx dX11_tries_41 rfl ?_
          refine g_iload_n fx dX11_tries_42 rfl ?_
          refine g_iload fx dX11_tries_43 rfl ?_
          refine g_isub1 fx dX11_tries_45 (by unfold okI; omega) ?_
          refine g_iload fx dX11_tries_46 rfl ?_
          refine g_iload fx dX11_tries_48 rfl ?_
          refine g_iconst fx dX11_tries_50 (by unfold okI; omega) ?_
          refine g_iadd1 fx dX11_tries_51 (by unfold okI; omega) ?_
          refine g_iload fx dX11_tries_52 rfl ?_
          refine g_callVD0 fx dX11_tries_54 mv_RX11_364 my_X11_tries (s_X11_tries_5 ad _ _ _ _ _ _ (by decide) (show TW ((itr i (trS (trF s n 2) left (min left most) 4) σ) 224) from hk1.1) (show 0 ≤ s ∧ s < (itr i (trS (trF s n 2) left (min left most) 4) σ) 224 4 by rw [hk1.2.1]; exact hs) (by omega) (by omega) (fun _ => by decide) ht2 hn) o_223 rfl rfl rfl (Nat.le_of_ble_eq_true rfl) (by decide) (by decide) ?_
          refine g_iinc1 fx dX11_tries_57 (by decide) rfl rfl (by unfold okI; omega) rfl ?_
          refine g_goto (tgt := 19) fx dX11_tries_60 (by decide) ?_
          exact gw_cg (by rw [itr_s, trS] <;> rfl) (by rw [show min left most - ((i : Nat) : Int) + (-1) = min left most - ((i + 1 : Nat) : Int) by omega] <;> rfl) (ih (by omega) (fun _ => hdn))
    exact gw_cg rfl (by rw [show min left most - ((0 : Nat) : Int) = min left most by omega] <;> rfl) (loop19 0 (Nat.zero_le _) (fun q => by omega))
  · refine g_aload_n fx dX11_tries_4 rfl ?_
    refine g_iload_n fx dX11_tries_5 rfl ?_
    refine g_iload fx dX11_tries_6 rfl ?_
    refine g_callVD0 fx dX11_tries_8 mv_RX11_361 my_X11_judges (s_X11_judges ad _ _ _ 4 rfl hT hs ⟨hz h1, by decide⟩ ht) o_223 rfl rfl rfl (Nat.le_of_ble_eq_true rfl) (by decide) (by decide) ?_
    exact g_vret fx rfl dX11_tries_11 (by decide) (by decide) (gw_le.rf _) ⟨rfl, rfl, by rw [trF, if_pos h1]⟩
set_option maxRecDepth 4000 in
theorem s_X11_tries_3 (ad : Nat → Nat) (σ : Sg)  (s : Int) (left : Int) (most : Int) (dp : Int) (n : Int) (hd9 : dp = ((3 : Nat) : Int)) (hT : TW (σ 224)) (hs : 0 ≤ s ∧ s < σ 224 4) (h0 : 0 ≤ left) (h9 : left ≤ 99) (hz : left = 0 → 1 ≤ 3) (ht : Tr9 σ 3) (hn : n ≤ 6) : gw_Sp yX11_tries cX11_tries 7 none 12 0 0 [vR (some 223), vI s, vI left, vI most, vI dp, vI n] (gw_M0 ad) σ (gw_D none (gw_M0 ad) (trF s n 4 left most 3 σ)) gw_no := by
  refine gw_Sp.of [some (vR (some 223)), some (vI s), some (vI left), some (vI most), some (vI dp), some (vI n), none] (by decide +kernel) rfl (Nat.le_of_ble_eq_true rfl) ?_
  intro X G fx het hnm
  subst hd9
  refine g_iload_n fx dX11_tries_0 rfl ?_
  refine g_if_ne (tgt := 12) fx dX11_tries_1 (by decide) (fun h1 => ?_) (fun h1 => ?_)
  · refine g_iload_n fx dX11_tries_12 rfl ?_
    refine g_iload_n fx dX11_tries_13 rfl ?_
    refine g_min fx dX11_tries_14 mm_RX11_314 (by decide) (by decide) (by decide) (Nat.le_of_ble_eq_true rfl) ?_
    refine g_istore fx dX11_tries_17 (by decide) rfl rfl ?_
    have loop19 : ∀ i : Nat, i ≤ (min left most).toNat → (0 < i → ((3 : Nat) : Int) < n) → gw_W X (yX11_tries.cls, cX11_tries, 7, none, 12, 0, 0) G (gw_Z X G (gw_M0 ad) σ (gw_D none (gw_M0 ad) (trF s n 4 left most 3 σ)) gw_no 0 0) 0 0 (gw_M0 ad) ((itr i (trS (trF s n 3) left (min left most) 3) σ)) 19 [some (vR (some 223)), some (vI s), some (vI left), some (vI most), some (vI ((3 : Nat) : Int)), some (vI n), some (vI (min left most - ((i : Nat) : Int)))] [] := by
      refine up_ind _ _ (fun i hi ih => ?_)
      intro hdi
      refine g_iload fx dX11_tries_19 rfl ?_
      refine g_if_le (tgt := 63) fx dX11_tries_21 (by decide) (fun h21 => ?_) (fun h21 => ?_)
      · exact g_vret fx rfl dX11_tries_63 (by decide) (by decide) (gw_le.rf _) ⟨rfl, rfl, by
            rw [trF, if_neg h1]
            by_cases q : ((3 : Nat) : Int) < n
            · rw [if_pos q, show (min left most).toNat = i by omega]
            · rw [if_neg q, show i = 0 by omega]; rfl⟩
      · refine g_iload fx dX11_tries_24 rfl ?_
        refine g_iload fx dX11_tries_26 rfl ?_
        refine g_icmp_ge (tgt := 63) fx dX11_tries_28 (by decide) (fun h28 => ?_) (fun h28 => ?_)
        · exact g_vret fx rfl dX11_tries_63 (by decide) (by decide) (gw_le.rf _) ⟨rfl, rfl, by
              rw [trF, if_neg h1]
              by_cases q : ((3 : Nat) : Int) < n
              · rw [if_pos q, show (min left most).toNat = i by omega]
              · rw [if_neg q, show i = 0 by omega]; rfl⟩
        · have hdn : ((3 : Nat) : Int) < n := by omega
          have hk1 := trI_kp s n 3 (trF_kp s n hn 3) (left := left) (most := most) (d := 3) hT hs h9 (by decide) ht i (by omega)
          refine g_aload_n fx dX11_tries_31 rfl ?_
          refine g_getr fx dX11_tries_32 fk_RX11_69 o_223 rf_223_32 ?_
          refine g_iload fx dX11_tries_35 rfl ?_
          refine g_iload fx dX11_tries_37 rfl ?_
          refine g_iast fx dX11_tries_39 o_242 (by omega) (by show _ < ((8 : Nat) : Int); omega) ?_
          rw [show ((3 : Nat) : Int).toNat = 3 from rfl]
          have ht2 : Tr9 (su (itr i (trS (trF s n 3) left (min left most) 3) σ) 242 3 (min left most - ((i : Nat) : Int))) 4 := by
            intro k hk
            by_cases e : k = 3
            · subst e; rw [su_same]; omega
            · rw [su_ne _ _ (Or.inr e), hk1.2.2 k (by omega)]; exact ht k (by omega)
          refine g_aload_n fx dX11_tries_40 rfl ?_
          refine g_iload_n fx dX11_tries_41 rfl ?_
          refine g_iload_n fx dX11_tries_42 rfl ?_
          refine g_iload fx dX11_tries_43 rfl ?_
          refine g_isub1 fx dX11_tries_45 (by unfold okI; omega) ?_
          refine g_iload fx dX11_tries_46 rfl ?_
          refine g_iload fx dX11_tries_48 rfl ?_
          refine g_iconst fx dX11_tries_50 (by unfold okI; omega) ?_
          refine g_iadd1 fx dX11_tries_51 (by unfold okI; omega) ?_
          refine g_iload fx dX11_tries_52 rfl ?_
          refine g_callVD0 fx dX11_tries_54 mv_RX11_364 my_X11_tries (s_X11_tries_4 ad _ _ _ _ _ _ (by decide) (show TW ((itr i (trS (trF s n 3) left (min left most) 3) σ) 224) from hk1.1) (show 0 ≤ s ∧ s < (itr i (trS (trF s n 3) left (min left most) 3) σ) 224 4 by rw [hk1.2.1]; exact hs) (by omega) (by omega) (fun _ => by decide) ht2 hn) o_223 rfl rfl rfl (Nat.le_of_ble_eq_true rfl) (by decide) (by decide) ?_
          refine g_iinc1 fx dX11_tries_57 (by decide) rfl rfl (by unfold okI; omega) rfl ?_
          refine g_goto (tgt := 19) fx dX11_tries_60 (by decide) ?_
          exact gw_cg (by rw [itr_s, trS] <;> rfl) (by rw [show min left most - ((i : Nat) : Int) + (-1) = min left most - ((i + 1 : Nat) : Int) by omega] <;> rfl) (ih (by omega) (fun _ => hdn))
    exact gw_cg rfl (by rw [show min left most - ((0 : Nat) : Int) = min left most by omega] <;> rfl) (loop19 0 (Nat.zero_le _) (fun q => by omega))
  · refine g_aload_n fx dX11_tries_4 rfl ?_
    refine g_iload_n fx dX11_tries_5 rfl ?_
    refine g_iload fx dX11_tries_6 rfl ?_
    refine g_callVD0 fx dX11_tries_8 mv_RX11_361 my_X11_judges (s_X11_judges ad _ _ _ 3 rfl hT hs ⟨hz h1, by decide⟩ ht) o_223 rfl rfl rfl (Nat.le_of_ble_eq_true rfl) (by decide) (by decide) ?_
    exact g_vret fx rfl dX11_tries_11 (by decide) (by decide) (gw_le.rf _) ⟨rfl, rfl, by rw [trF, if_pos h1]⟩
set_option maxRecDepth 4000 in
theorem s_X11_tries_2 (ad : Nat → Nat) (σ : Sg)  (s : Int) (left : Int) (most : Int) (dp : Int) (n : Int) (hd9 : dp = ((2 : Nat) : Int)) (hT : TW (σ 224)) (hs : 0 ≤ s ∧ s < σ 224 4) (h0 : 0 ≤ left) (h9 : left ≤ 99) (hz : left = 0 → 1 ≤ 2) (ht : Tr9 σ 2) (hn : n ≤ 6) : gw_Sp yX11_tries cX11_tries 7 none 13 0 0 [vR (some 223), vI s, vI left, vI most, vI dp, vI n] (gw_M0 ad) σ (gw_D none (gw_M0 ad) (trF s n 5 left most 2 σ)) gw_no := by
  refine gw_Sp.of [some (vR (some 223)), some (vI s), some (vI left), some (vI most), some (vI dp), some (vI n), none] (by decide +kernel) rfl (Nat.le_of_ble_eq_true rfl) ?_
  intro X G fx het hnm
  subst hd9
  refine g_iload_n fx dX11_tries_0 rfl ?_
  refine g_if_ne (tgt := 12) fx dX11_tries_1 (by decide) (fun h1 => ?_) (fun h1 => ?_)
  · refine g_iload_n fx dX11_tries_12 rfl ?_
    refine g_iload_n fx dX11_tries_13 rfl ?_
    refine g_min fx dX11_tries_14 mm_RX11_314 (by decide) (by decide) (by decide) (Nat.le_of_ble_eq_true rfl) ?_
    refine g_istore fx dX11_tries_17 (by decide) rfl rfl ?_
    have loop19 : ∀ i : Nat, i ≤ (min left most).toNat → (0 < i → ((2 : Nat) : Int) < n) → gw_W X (yX11_tries.cls, cX11_tries, 7, none, 13, 0, 0) G (gw_Z X G (gw_M0 ad) σ (gw_D none (gw_M0 ad) (trF s n 5 left most 2 σ)) gw_no 0 0) 0 0 (gw_M0 ad) ((itr i (trS (trF s n 4) left (min left most) 2) σ)) 19 [some (vR (some 223)), some (vI s), some (vI left), some (vI most), some (vI ((2 : Nat) : Int)), some (vI n), some (vI (min left most - ((i : Nat) : Int)))] [] := by
      refine up_ind _ _ (fun i hi ih => ?_)
      intro hdi
      refine g_iload fx dX11_tries_19 rfl ?_
      refine g_if_le (tgt := 63) fx dX11_tries_21 (by decide) (fun h21 => ?_) (fun h21 => ?_)
      · exact g_vret fx rfl dX11_tries_63 (by decide) (by decide) (gw_le.rf _) ⟨rfl, rfl, by
            rw [trF, if_neg h1]
            by_cases q : ((2 : Nat) : Int) < n
            · rw [if_pos q, show (min left most).toNat = i by omega]
            · rw [if_neg q, show i = 0 by omega]; rfl⟩
      · refine g_iload fx dX11_tries_24 rfl ?_
        refine g_iload fx dX11_tries_26 rfl ?_
        refine g_icmp_ge (tgt := 63) fx dX11_tries_28 (by decide) (fun h28 => ?_) (fun h28 => ?_)
        · exact g_vret fx rfl dX11_tries_63 (by decide) (by decide) (gw_le.rf _) ⟨rfl, rfl, by
              rw [trF, if_neg h1]
              by_cases q : ((2 : Nat) : Int) < n
              · rw [if_pos q, show (min left most).toNat = i by omega]
              · rw [if_neg q, show i = 0 by omega]; rfl⟩
        · have hdn : ((2 : Nat) : Int) < n := by omega
          have hk1 := trI_kp s n 4 (trF_kp s n hn 4) (left := left) (most := most) (d := 2) hT hs h9 (by decide) ht i (by omega)
          refine g_aload_n fx dX11_tries_31 rfl ?_
          refine g_getr fx dX11_tries_32 fk_RX11_69 o_223 rf_223_32 ?_
          refine g_iload fx dX11_tries_35 rfl ?_
          refine g_iload fx dX11_tries_37 rfl ?_
          refine g_iast fx dX11_tries_39 o_242 (by omega) (by show _ < ((8 : Nat) : Int); omega) ?_
          rw [show ((2 : Nat) : Int).toNat = 2 from rfl]
          have ht2 : Tr9 (su (itr i (trS (trF s n 4) left (min left most) 2) σ) 242 2 (min left most - ((i : Nat) : Int))) 3 := by
            intro k hk
            by_cases e : k = 2
            · subst e; rw [su_same]; omega
            · rw [su_ne _ _ (Or.inr e), hk1.2.2 k (by omega)]; exact ht k (by omega)
          refine g_aload_n fx dX11_tries_40 rfl ?_
          refine g_iload_n fx dX11_tries_41 rfl ?_
          refine g_iload_n fx dX11_tries_42 rfl ?_
          refine g_iload fx dX11_tries_43 rfl ?_
          refine g_isub1 fx dX11_tries_45 (by unfold okI; omega) ?_
          refine g_iload fx dX11_tries_46 rfl ?_
          refine g_iload fx dX11_tries_48 rfl ?_
          refine g_iconst fx dX11_tries_50 (by unfold okI; omega) ?_
          refine g_iadd1 fx dX11_tries_51 (by unfold okI; omega) ?_
          refine g_iload fx dX11_tries_52 rfl ?_
          refine g_callVD0 fx dX11_tries_54 mv_RX11_364 my_X11_tries (s_X11_tries_3 ad _ _ _ _ _ _ (by decide) (show TW ((itr i (trS (trF s n 4) left (min left most) 2) σ) 224) from hk1.1) (show 0 ≤ s ∧ s < (itr i (trS (trF s n 4) left (min left most) 2) σ) 224 4 by rw [hk1.2.1]; exact hs) (by omega) (by omega) (fun _ => by decide) ht2 hn) o_223 rfl rfl rfl (Nat.le_of_ble_eq_true rfl) (by decide) (by decide) ?_
          refine g_iinc1 fx dX11_tries_57 (by decide) rfl rfl (by unfold okI; omega) rfl ?_
          refine g_goto (tgt := 19) fx dX11_tries_60 (by decide) ?_
          exact gw_cg (by rw [itr_s, trS] <;> rfl) (by rw [show min left most - ((i : Nat) : Int) + (-1) = min left most - ((i + 1 : Nat) : Int) by omega] <;> rfl) (ih (by omega) (fun _ => hdn))
    exact gw_cg rfl (by rw [show min left most - ((0 : Nat) : Int) = min left most by omega] <;> rfl) (loop19 0 (Nat.zero_le _) (fun q => by omega))
  · refine g_aload_n fx dX11_tries_4 rfl ?_
    refine g_iload_n fx dX11_tries_5 rfl ?_
    refine g_iload fx dX11_tries_6 rfl ?_
    refine g_callVD0 fx dX11_tries_8 mv_RX11_361 my_X11_judges (s_X11_judges ad _ _ _ 2 rfl hT hs ⟨hz h1, by decide⟩ ht) o_223 rfl rfl rfl (Nat.le_of_ble_eq_true rfl) (by decide) (by decide) ?_
    exact g_vret fx rfl dX11_tries_11 (by decide) (by decide) (gw_le.rf _) ⟨rfl, rfl, by rw [trF, if_pos h1]⟩
set_option maxRecDepth 4000 in
theorem s_X11_tries_1 (ad : Nat → Nat) (σ : Sg)  (s : Int) (left : Int) (most : Int) (dp : Int) (n : Int) (hd9 : dp = ((1 : Nat) : Int)) (hT : TW (σ 224)) (hs : 0 ≤ s ∧ s < σ 224 4) (h0 : 0 ≤ left) (h9 : left ≤ 99) (hz : left = 0 → 1 ≤ 1) (ht : Tr9 σ 1) (hn : n ≤ 6) : gw_Sp yX11_tries cX11_tries 7 none 14 0 0 [vR (some 223), vI s, vI left, vI most, vI dp, vI n] (gw_M0 ad) σ (gw_D none (gw_M0 ad) (trF s n 6 left most 1 σ)) gw_no := by
  refine gw_Sp.of [some (vR (some 223)), some (vI s), some (vI left), some (vI most), some (vI dp), some (vI n), none] (by decide +kernel) rfl (Nat.le_of_ble_eq_true rfl) ?_
  intro X G fx het hnm
  subst hd9
  refine g_iload_n fx dX11_tries_0 rfl ?_
  refine g_if_ne (tgt := 12) fx dX11_tries_1 (by decide) (fun h1 => ?_) (fun h1 => ?_)
  · refine g_iload_n fx dX11_tries_12 rfl ?_
    refine g_iload_n fx dX11_tries_13 rfl ?_
    refine g_min fx dX11_tries_14 mm_RX11_314 (by decide) (by decide) (by decide) (Nat.le_of_ble_eq_true rfl) ?_
    refine g_istore fx dX11_tries_17 (by decide) rfl rfl ?_
    have loop19 : ∀ i : Nat, i ≤ (min left most).toNat → (0 < i → ((1 : Nat) : Int) < n) → gw_W X (yX11_tries.cls, cX11_tries, 7, none, 14, 0, 0) G (gw_Z X G (gw_M0 ad) σ (gw_D none (gw_M0 ad) (trF s n 6 left most 1 σ)) gw_no 0 0) 0 0 (gw_M0 ad) ((itr i (trS (trF s n 5) left (min left most) 1) σ)) 19 [some (vR (some 223)), some (vI s), some (vI left), some (vI most), some (vI ((1 : Nat) : Int)), some (vI n), some (vI (min left most - ((i : Nat) : Int)))] [] := by
      refine up_ind _ _ (fun i hi ih => ?_)
      intro hdi
      refine g_iload fx dX11_tries_19 rfl ?_
      refine g_if_le (tgt := 63) fx dX11_tries_21 (by decide) (fun h21 => ?_) (fun h21 => ?_)
      · exact g_vret fx rfl dX11_tries_63 (by decide) (by decide) (gw_le.rf _) ⟨rfl, rfl, by
            rw [trF, if_neg h1]
            by_cases q : ((1 : Nat) : Int) < n
            · rw [if_pos q, show (min left most).toNat = i by omega]
            · rw [if_neg q, show i = 0 by omega]; rfl⟩
      · refine g_iload fx dX11_tries_24 rfl ?_
        refine g_iload fx dX11_tries_26 rfl ?_
        refine g_icmp_ge (tgt := 63) fx dX11_tries_28 (by decide) (fun h28 => ?_) (fun h28 => ?_)
        · exact g_vret fx rfl dX11_tries_63 (by decide) (by decide) (gw_le.rf _) ⟨rfl, rfl, by
              rw [trF, if_neg h1]
              by_cases q : ((1 : Nat) : Int) < n
              · rw [if_pos q, show (min left most).toNat = i by omega]
              · rw [if_neg q, show i = 0 by omega]; rfl⟩
        · have hdn : ((1 : Nat) : Int) < n := by omega
          have hk1 := trI_kp s n 5 (trF_kp s n hn 5) (left := left) (most := most) (d := 1) hT hs h9 (by decide) ht i (by omega)
          refine g_aload_n fx dX11_tries_31 rfl ?_
          refine g_getr fx dX11_tries_32 fk_RX11_69 o_223 rf_223_32 ?_
          refine g_iload fx dX11_tries_35 rfl ?_
          refine g_iload fx dX11_tries_37 rfl ?_
          refine g_iast fx dX11_tries_39 o_242 (by omega) (by show _ < ((8 : Nat) : Int); omega) ?_
          rw [show ((1 : Nat) : Int).toNat = 1 from rfl]
          have ht2 : Tr9 (su (itr i (trS (trF s n 5) left (min left most) 1) σ) 242 1 (min left most - ((i : Nat) : Int))) 2 := by
            intro k hk
            by_cases e : k = 1
            · subst e; rw [su_same]; omega
            · rw [su_ne _ _ (Or.inr e), hk1.2.2 k (by omega)]; exact ht k (by omega)
          refine g_aload_n fx dX11_tries_40 rfl ?_
          refine g_iload_n fx dX11_tries_41 rfl ?_
          refine g_iload_n fx dX11_tries_42 rfl ?_
          refine g_iload fx dX11_tries_43 rfl ?_
          refine g_isub1 fx dX11_tries_45 (by unfold okI; omega) ?_
          refine g_iload fx dX11_tries_46 rfl ?_
          refine g_iload fx dX11_tries_48 rfl ?_
          refine g_iconst fx dX11_tries_50 (by unfold okI; omega) ?_
          refine g_iadd1 fx dX11_tries_51 (by unfold okI; omega) ?_
          refine g_iload fx dX11_tries_52 rfl ?_
          refine g_callVD0 fx dX11_tries_54 mv_RX11_364 my_X11_tries (s_X11_tries_2 ad _ _ _ _ _ _ (by decide) (show TW ((itr i (trS (trF s n 5) left (min left most) 1) σ) 224) from hk1.1) (show 0 ≤ s ∧ s < (itr i (trS (trF s n 5) left (min left most) 1) σ) 224 4 by rw [hk1.2.1]; exact hs) (by omega) (by omega) (fun _ => by decide) ht2 hn) o_223 rfl rfl rfl (Nat.le_of_ble_eq_true rfl) (by decide) (by decide) ?_
          refine g_iinc1 fx dX11_tries_57 (by decide) rfl rfl (by unfold okI; omega) rfl ?_
          refine g_goto (tgt := 19) fx dX11_tries_60 (by decide) ?_
          exact gw_cg (by rw [itr_s, trS] <;> rfl) (by rw [show min left most - ((i : Nat) : Int) + (-1) = min left most - ((i + 1 : Nat) : Int) by omega] <;> rfl) (ih (by omega) (fun _ => hdn))
    exact gw_cg rfl (by rw [show min left most - ((0 : Nat) : Int) = min left most by omega] <;> rfl) (loop19 0 (Nat.zero_le _) (fun q => by omega))
  · refine g_aload_n fx dX11_tries_4 rfl ?_
    refine g_iload_n fx dX11_tries_5 rfl ?_
    refine g_iload fx dX11_tries_6 rfl ?_
    refine g_callVD0 fx dX11_tries_8 mv_RX11_361 my_X11_judges (s_X11_judges ad _ _ _ 1 rfl hT hs ⟨hz h1, by decide⟩ ht) o_223 rfl rfl rfl (Nat.le_of_ble_eq_true rfl) (by decide) (by decide) ?_
    exact g_vret fx rfl dX11_tries_11 (by decide) (by decide) (gw_le.rf _) ⟨rfl, rfl, by rw [trF, if_pos h1]⟩
set_option maxRecDepth 4000 in
theorem s_X11_tries_0 (ad : Nat → Nat) (σ : Sg)  (s : Int) (left : Int) (most : Int) (dp : Int) (n : Int) (hd9 : dp = ((0 : Nat) : Int)) (hT : TW (σ 224)) (hs : 0 ≤ s ∧ s < σ 224 4) (h0 : 0 ≤ left) (h9 : left ≤ 99) (hz : left = 0 → 1 ≤ 0) (ht : Tr9 σ 0) (hn : n ≤ 6) : gw_Sp yX11_tries cX11_tries 7 none 15 0 0 [vR (some 223), vI s, vI left, vI most, vI dp, vI n] (gw_M0 ad) σ (gw_D none (gw_M0 ad) (trF s n 7 left most 0 σ)) gw_no := by
  refine gw_Sp.of [some (vR (some 223)), some (vI s), some (vI left), some (vI most), some (vI dp), some (vI n), none] (by decide +kernel) rfl (Nat.le_of_ble_eq_true rfl) ?_
  intro X G fx het hnm
  subst hd9
  refine g_iload_n fx dX11_tries_0 rfl ?_
  refine g_if_ne (tgt := 12) fx dX11_tries_1 (by decide) (fun h1 => ?_) (fun h1 => ?_)
  · refine g_iload_n fx dX11_tries_12 rfl ?_
    refine g_iload_n fx dX11_tries_13 rfl ?_
    refine g_min fx dX11_tries_14 mm_RX11_314 (by decide) (by decide) (by decide) (Nat.le_of_ble_eq_true rfl) ?_
    refine g_istore fx dX11_tries_17 (by decide) rfl rfl ?_
    have loop19 : ∀ i : Nat, i ≤ (min left most).toNat → (0 < i → ((0 : Nat) : Int) < n) → gw_W X (yX11_tries.cls, cX11_tries, 7, none, 15, 0, 0) G (gw_Z X G (gw_M0 ad) σ (gw_D none (gw_M0 ad) (trF s n 7 left most 0 σ)) gw_no 0 0) 0 0 (gw_M0 ad) ((itr i (trS (trF s n 6) left (min left most) 0) σ)) 19 [some (vR (some 223)), some (vI s), some (vI left), some (vI most), some (vI ((0 : Nat) : Int)), some (vI n), some (vI (min left most - ((i : Nat) : Int)))] [] := by
      refine up_ind _ _ (fun i hi ih => ?_)
      intro hdi
      refine g_iload fx dX11_tries_19 rfl ?_
      refine g_if_le (tgt := 63) fx dX11_tries_21 (by decide) (fun h21 => ?_) (fun h21 => ?_)
      · exact g_vret fx rfl dX11_tries_63 (by decide) (by decide) (gw_le.rf _) ⟨rfl, rfl, by
            rw [trF, if_neg h1]
            by_cases q : ((0 : Nat) : Int) < n
            · rw [if_pos q, show (min left most).toNat = i by omega]
            · rw [if_neg q, show i = 0 by omega]; rfl⟩
      · refine g_iload fx dX11_tries_24 rfl ?_
        refine g_iload fx dX11_tries_26 rfl ?_
        refine g_icmp_ge (tgt := 63) fx dX11_tries_28 (by decide) (fun h28 => ?_) (fun h28 => ?_)
        · exact g_vret fx rfl dX11_tries_63 (by decide) (by decide) (gw_le.rf _) ⟨rfl, rfl, by
              rw [trF, if_neg h1]
              by_cases q : ((0 : Nat) : Int) < n
              · rw [if_pos q, show (min left most).toNat = i by omega]
              · rw [if_neg q, show i = 0 by omega]; rfl⟩
        · have hdn : ((0 : Nat) : Int) < n := by omega
          have hk1 := trI_kp s n 6 (trF_kp s n hn 6) (left := left) (most := most) (d := 0) hT hs h9 (by decide) ht i (by omega)
          refine g_aload_n fx dX11_tries_31 rfl ?_
          refine g_getr fx dX11_tries_32 fk_RX11_69 o_223 rf_223_32 ?_
          refine g_iload fx dX11_tries_35 rfl ?_
          refine g_iload fx dX11_tries_37 rfl ?_
          refine g_iast fx dX11_tries_39 o_242 (by omega) (by show _ < ((8 : Nat) : Int); omega) ?_
          rw [show ((0 : Nat) : Int).toNat = 0 from rfl]
          have ht2 : Tr9 (su (itr i (trS (trF s n 6) left (min left most) 0) σ) 242 0 (min left most - ((i : Nat) : Int))) 1 := by
            intro k hk
            by_cases e : k = 0
            · subst e; rw [su_same]; omega
            · rw [su_ne _ _ (Or.inr e), hk1.2.2 k (by omega)]; exact ht k (by omega)
          refine g_aload_n fx dX11_tries_40 rfl ?_
          refine g_iload_n fx dX11_tries_41 rfl ?_
          refine g_iload_n fx dX11_tries_42 rfl ?_
          refine g_iload fx dX11_tries_43 rfl ?_
          refine g_isub1 fx dX11_tries_45 (by unfold okI; omega) ?_
          refine g_iload fx dX11_tries_46 rfl ?_
          refine g_iload fx dX11_tries_48 rfl ?_
          refine g_iconst fx dX11_tries_50 (by unfold okI; omega) ?_
          refine g_iadd1 fx dX11_tries_51 (by unfold okI; omega) ?_
          refine g_iload fx dX11_tries_52 rfl ?_
          refine g_callVD0 fx dX11_tries_54 mv_RX11_364 my_X11_tries (s_X11_tries_1 ad _ _ _ _ _ _ (by decide) (show TW ((itr i (trS (trF s n 6) left (min left most) 0) σ) 224) from hk1.1) (show 0 ≤ s ∧ s < (itr i (trS (trF s n 6) left (min left most) 0) σ) 224 4 by rw [hk1.2.1]; exact hs) (by omega) (by omega) (fun _ => by decide) ht2 hn) o_223 rfl rfl rfl (Nat.le_of_ble_eq_true rfl) (by decide) (by decide) ?_
          refine g_iinc1 fx dX11_tries_57 (by decide) rfl rfl (by unfold okI; omega) rfl ?_
          refine g_goto (tgt := 19) fx dX11_tries_60 (by decide) ?_
          exact gw_cg (by rw [itr_s, trS] <;> rfl) (by rw [show min left most - ((i : Nat) : Int) + (-1) = min left most - ((i + 1 : Nat) : Int) by omega] <;> rfl) (ih (by omega) (fun _ => hdn))
    exact gw_cg rfl (by rw [show min left most - ((0 : Nat) : Int) = min left most by omega] <;> rfl) (loop19 0 (Nat.zero_le _) (fun q => by omega))
  · refine g_aload_n fx dX11_tries_4 rfl ?_
    refine g_iload_n fx dX11_tries_5 rfl ?_
    refine g_iload fx dX11_tries_6 rfl ?_
    refine g_callVD0 fx dX11_tries_8 mv_RX11_361 my_X11_judges (s_X11_judges ad _ _ _ 0 rfl hT hs ⟨hz h1, by decide⟩ ht) o_223 rfl rfl rfl (Nat.le_of_ble_eq_true rfl) (by decide) (by decide) ?_
    exact g_vret fx rfl dX11_tries_11 (by decide) (by decide) (gw_le.rf _) ⟨rfl, rfl, by rw [trF, if_pos h1]⟩
set_option maxRecDepth 4000 in
theorem s_X11_seeks (ad : Nat → Nat) (σ : Sg)  (s : Int) (n : Int) (hT : TW (σ 224)) (hs : 0 ≤ s ∧ s < σ 224 4) (hn : n ≤ 6) : gw_Sp yX11_seeks cX11_seeks 3 (some .boolean) 16 0 0 [vR (some 223), vI s, vI n] (gw_M0 ad) σ (gw_D (some (vI (nSe σ s n).1)) (gw_M0 ad) ((nSe σ s n).2)) gw_no := by
  refine gw_Sp.of [some (vR (some 223)), some (vI s), some (vI n)] (by decide +kernel) rfl (Nat.le_of_ble_eq_true rfl) ?_
  intro X G fx het hnm
  have hS := hT.sacks
  have hh := (hT.of hs.1 hs.2).1
  have e224 := nSe_pre hT
  have j23 : ¬ (1 < n ∧ 30 < nOf σ s 0) → gw_W X (yX11_seeks.cls, cX11_seeks, 3, (some .boolean), 16, 0, 0) G (gw_Z X G (gw_M0 ad) σ (gw_D (some (vI (nSe σ s n).1)) (gw_M0 ad) ((nSe σ s n).2)) gw_no 0 0) 0 0 (gw_M0 ad) ((nSe1 σ)) 23 [some (vR (some 223)), some (vI s), some (vI n)] [] := by
    intro hj
    refine g_aload_n fx dX11_seeks_23 rfl ?_
    refine g_getr fx dX11_seeks_24 fk_RX11_9 o_223 rf_223_0 ?_
    refine g_aload_n fx dX11_seeks_27 rfl ?_
    refine g_getr fx dX11_seeks_28 fk_RX11_16 o_223 rf_223_2 ?_
    refine g_callSD0 fx dX11_seeks_31 ms_RX11_204 my_X11_copies (s_X11_copies ad _ (by decide) (by decide)) rfl rfl (Nat.le_of_ble_eq_true rfl) (by decide) (by decide) ?_
    refine g_aload_n fx dX11_seeks_34 rfl ?_
    refine g_iload_n fx dX11_seeks_35 rfl ?_
    refine g_aload_n fx dX11_seeks_36 rfl ?_
    refine g_iload_n fx dX11_seeks_37 rfl ?_
    refine g_iconst fx dX11_seeks_38 (by unfold okI; omega) ?_
    refine g_callVD fx dX11_seeks_39 mv_RX11_242 my_X11_of (s_X11_of ad _ _ _ (by omega)) o_223 rfl rfl rfl (Nat.le_of_ble_eq_true rfl) (by decide) (by decide) ?_
    refine gw_cgt rfl (nOf_of e224 s 0) ?_
    refine g_aload_n fx dX11_seeks_42 rfl ?_
    refine g_iload_n fx dX11_seeks_43 rfl ?_
    refine g_iconst fx dX11_seeks_44 (by unfold okI; omega) ?_
    refine g_callVD fx dX11_seeks_45 mv_RX11_242 my_X11_of (s_X11_of ad _ _ _ (by omega)) o_223 rfl rfl rfl (Nat.le_of_ble_eq_true rfl) (by decide) (by decide) ?_
    refine gw_cgt rfl (nOf_of e224 s 0) ?_
    refine g_iconst fx dX11_seeks_48 (by unfold okI; omega) ?_
    refine g_iload_n fx dX11_seeks_49 rfl ?_
    refine g_callVD0 fx dX11_seeks_50 mv_RX11_364 my_X11_tries (s_X11_tries_0 ad _ _ _ _ _ _ (by decide) (show TW (nCp (nSe1 σ) 224 226 224) by rw [e224]; exact hT) (by rw [e224]; exact hs) (by omega) (by omega) (fun q => by omega) (fun k hk => by omega) hn) o_223 rfl rfl rfl (Nat.le_of_ble_eq_true rfl) (by decide) (by decide) ?_
    refine gw_cg (σ' := nSe2 σ s n) rfl rfl ?_
    refine g_aload_n fx dX11_seeks_53 rfl ?_
    refine g_getr fx dX11_seeks_54 fk_RX11_16 o_223 rf_223_2 ?_
    refine g_aload_n fx dX11_seeks_57 rfl ?_
    refine g_getr fx dX11_seeks_58 fk_RX11_9 o_223 rf_223_0 ?_
    refine g_callSD0 fx dX11_seeks_61 ms_RX11_204 my_X11_copies (s_X11_copies ad _ (by decide) (by decide)) rfl rfl (Nat.le_of_ble_eq_true rfl) (by decide) (by decide) ?_
    refine g_iconst fx dX11_seeks_64 (by unfold okI; omega) ?_
    exact g_zret fx rfl dX11_seeks_65 (by first | exact Or.inl rfl | exact Or.inr rfl | omega) (by decide) (by decide) (gw_le.rf _) ⟨by rw [nSe, if_neg hj], rfl, by rw [nSe, if_neg hj]⟩
  refine g_aload_n fx dX11_seeks_0 rfl ?_
  refine g_iconst fx dX11_seeks_1 (by unfold okI; omega) ?_
  refine g_puti fx dX11_seeks_2 fk_RX11_371 o_223 ?_
  refine gw_cg (σ' := nSe1 σ) rfl rfl ?_
  refine g_iload_n fx dX11_seeks_5 rfl ?_
  refine g_iconst fx dX11_seeks_6 (by unfold okI; omega) ?_
  refine g_icmp_le (tgt := 23) fx dX11_seeks_7 (by decide) (fun h7 => ?_) (fun h7 => ?_)
  · exact j23 (by omega)
  · refine g_aload_n fx dX11_seeks_10 rfl ?_
    refine g_iload_n fx dX11_seeks_11 rfl ?_
    refine g_iconst fx dX11_seeks_12 (by unfold okI; omega) ?_
    refine g_callVD fx dX11_seeks_13 mv_RX11_242 my_X11_of (s_X11_of ad _ _ _ (by omega)) o_223 rfl rfl rfl (Nat.le_of_ble_eq_true rfl) (by decide) (by decide) ?_
    refine gw_cgt rfl (show nOf (nSe1 σ) s 0 = nOf σ s 0 from rfl) ?_
    refine g_bipush fx dX11_seeks_16 (by decide) ?_
    refine g_icmp_le (tgt := 23) fx dX11_seeks_18 (by decide) (fun h18 => ?_) (fun h18 => ?_)
    · exact j23 (by omega)
    · refine g_iconst fx dX11_seeks_21 (by unfold okI; omega) ?_
      exact g_zret fx rfl dX11_seeks_22 (by first | exact Or.inl rfl | exact Or.inr rfl | omega) (by decide) (by decide) (gw_le.rf _) ⟨by rw [nSe, if_pos (by omega)], rfl, by rw [nSe, if_pos (by omega)]⟩
set_option maxRecDepth 4000 in
theorem s_X11_parting (ad : Nat → Nat) (σ : Sg)  (s : Int) (n : Int) (w : Int) (hT : TW (σ 224)) : gw_Sp yX11_parting cX11_parting 4 (some .int) 17 0 0 [vR (some 223), vI s, vI n, vI w] (gw_M0 ad) σ (gw_D (some (vI (nPg σ s n w).1)) (gw_M0 ad) ((nPg σ s n w).2)) gw_no := by
  refine gw_Sp.of [some (vR (some 223)), some (vI s), some (vI n), some (vI w)] (by decide +kernel) rfl (Nat.le_of_ble_eq_true rfl) ?_
  intro X G fx het hnm
  have j135 : ∀ v : Int, pgV σ s n w ≤ 0 → (nSe (nThr σ (pgV σ s n w)) s n).1 ≠ 0 → v = pgA (nSe (nThr σ (pgV σ s n w)) s n).2 w → gw_W X (yX11_parting.cls, cX11_parting, 4, (some .int), 17, 0, 0) G (gw_Z X G (gw_M0 ad) σ (gw_D (some (vI (nPg σ s n w).1)) (gw_M0 ad) ((nPg σ s n w).2)) gw_no 0 0) 0 0 (gw_M0 ad) ((nSe (nThr σ (pgV σ s n w)) s n).2) 135 [some (vR (some 223)), some (vI s), some (vI n), some (vI w)] [vI v] := by
    intro v hj1 hj2 hj3
    exact g_iret fx rfl dX11_parting_135 (by decide) (by decide) (gw_le.rf _) ⟨by rw [hj3, nPg, if_neg (by omega), nPgA, if_neg hj2], rfl, by rw [nPg, if_neg (by omega), nPgA, if_neg hj2]⟩
  have j54 : gw_W X (yX11_parting.cls, cX11_parting, 4, (some .int), 17, 0, 0) G (gw_Z X G (gw_M0 ad) σ (gw_D (some (vI (nPg σ s n w).1)) (gw_M0 ad) ((nPg σ s n w).2)) gw_no 0 0) 0 0 (gw_M0 ad) (σ) 54 [some (vR (some 223)), some (vI s), some (vI n), some (vI w)] [vI (pgV σ s n w), vR (some 223)] := by
    refine g_puti fx dX11_parting_54 fk_RX11_88 o_223 ?_
    refine gw_cg (σ' := nThr σ (pgV σ s n w)) rfl rfl ?_
    refine g_aload_n fx dX11_parting_57 rfl ?_
    refine g_geti fx dX11_parting_58 fk_RX11_88 (by decide) o_223 ?_
    refine gw_cgt rfl (show nThr σ (pgV σ s n w) 223 5 = pgV σ s n w from su_same _ _ _ _) ?_
    refine g_if_le (tgt := 66) fx dX11_parting_61 (by decide) (fun h61 => ?_) (fun h61 => ?_)
    · obtain ⟨hs, hn, hw⟩ := pgV_0 hT h61
      refine g_aload_n fx dX11_parting_66 rfl ?_
      refine g_iload_n fx dX11_parting_67 rfl ?_
      refine g_iload_n fx dX11_parting_68 rfl ?_
      refine g_callVD fx dX11_parting_69 mv_RX11_383 my_X11_seeks (s_X11_seeks ad _ _ _ (show TW ((nThr σ (pgV σ s n w)) 224) from hT) hs hn.2) o_223 rfl rfl rfl (Nat.le_of_ble_eq_true rfl) (by decide) (by decide) ?_
      refine g_if_ne (tgt := 78) fx dX11_parting_72 (by decide) (fun h72 => ?_) (fun h72 => ?_)
      · refine g_aload_n fx dX11_parting_78 rfl ?_
        refine g_geti fx dX11_parting_79 fk_RX11_371 (by decide) o_223 ?_
        refine g_iconst fx dX11_parting_82 (by unfold okI; omega) ?_
        refine g_icmp_ne (tgt := 88) fx dX11_parting_83 (by decide) (fun h83 => ?_) (fun h83 => ?_)
        · refine g_iload_n fx dX11_parting_88 rfl ?_
          refine g_if_ne (tgt := 99) fx dX11_parting_89 (by decide) (fun h89 => ?_) (fun h89 => ?_)
          · refine g_iload_n fx dX11_parting_99 rfl ?_
            refine g_iconst fx dX11_parting_100 (by unfold okI; omega) ?_
            refine g_icmp_ne (tgt := 111) fx dX11_parting_101 (by decide) (fun h101 => ?_) (fun h101 => ?_)
            · refine g_iload_n fx dX11_parting_111 rfl ?_
              refine g_bipush fx dX11_parting_112 (by decide) ?_
              refine g_isub1 fx dX11_parting_114 (by unfold okI; omega) ?_
              refine g_aload_n fx dX11_parting_115 rfl ?_
              refine g_geti fx dX11_parting_116 fk_RX11_371 (by decide) o_223 ?_
              refine g_icmp_ge (tgt := 134) fx dX11_parting_119 (by decide) (fun h119 => ?_) (fun h119 => ?_)
              · refine g_iconst fx dX11_parting_134 (by unfold okI; omega) ?_
                exact j135 _ h61 (by assumption) (by rw [pgA]; (repeat first | rw [if_pos (by omega)] | rw [if_neg (by omega)]) <;> rfl)
              · refine g_aload_n fx dX11_parting_122 rfl ?_
                refine g_getr fx dX11_parting_123 fk_RX11_72 o_223 rf_223_33 ?_
                refine g_iload_n fx dX11_parting_126 rfl ?_
                refine g_bipush fx dX11_parting_127 (by decide) ?_
                refine g_isub1 fx dX11_parting_129 (by unfold okI; omega) ?_
                refine g_iald fx dX11_parting_130 o_243 (by omega) (by show _ < ((8 : Nat) : Int); omega) ?_
                refine g_goto (tgt := 135) fx dX11_parting_131 (by decide) ?_
                exact j135 _ h61 (by assumption) (by rw [pgA]; (repeat first | rw [if_pos (by omega)] | rw [if_neg (by omega)]) <;> rfl)
            · refine g_aload_n fx dX11_parting_104 rfl ?_
              refine g_geti fx dX11_parting_105 fk_RX11_371 (by decide) o_223 ?_
              refine g_goto (tgt := 135) fx dX11_parting_108 (by decide) ?_
              exact j135 _ h61 (by assumption) (by rw [pgA]; (repeat first | rw [if_pos (by omega)] | rw [if_neg (by omega)]) <;> rfl)
          · refine g_aload_n fx dX11_parting_92 rfl ?_
            refine g_geti fx dX11_parting_93 fk_RX11_374 (by decide) o_223 ?_
            refine g_goto (tgt := 135) fx dX11_parting_96 (by decide) ?_
            exact j135 _ h61 (by assumption) (by rw [pgA]; (repeat first | rw [if_pos (by omega)] | rw [if_neg (by omega)]) <;> rfl)
        · refine g_iconst fx dX11_parting_86 (by unfold okI; omega) ?_
          exact g_iret fx rfl dX11_parting_87 (by decide) (by decide) (gw_le.rf _) ⟨by rw [nPg, if_neg (by omega), nPgA, if_neg (by assumption), pgA, if_pos (by assumption)], rfl, by rw [nPg, if_neg (by omega), nPgA, if_neg (by assumption)]⟩
      · refine g_bipush fx dX11_parting_75 (by decide) ?_
        exact g_iret fx rfl dX11_parting_77 (by decide) (by decide) (gw_le.rf _) ⟨by rw [nPg, if_neg (by omega), nPgA, if_pos h72], rfl, by rw [nPg, if_neg (by omega), nPgA, if_pos h72]⟩
    · refine g_iconst fx dX11_parting_64 (by unfold okI; omega) ?_
      exact g_iret fx rfl dX11_parting_65 (by decide) (by decide) (gw_le.rf _) ⟨by rw [nPg, if_pos (by omega)], rfl, by rw [nPg, if_pos (by omega)]⟩
  refine g_aload_n fx dX11_parting_0 rfl ?_
  refine g_aload_n fx dX11_parting_1 rfl ?_
  refine g_iload_n fx dX11_parting_2 rfl ?_
  refine g_callVD fx dX11_parting_3 mv_RX11_244 my_X11_isSack (s_X11_isSack ad _ _) o_223 rfl rfl rfl (Nat.le_of_ble_eq_true rfl) (by decide) (by decide) ?_
  refine g_if_ne (tgt := 13) fx dX11_parting_6 (by decide) (fun h6 => ?_) (fun h6 => ?_)
  · refine g_iload_n fx dX11_parting_13 rfl ?_
    refine g_i2l fx dX11_parting_14 ?_
    refine g_lconst1 fx dX11_parting_15 ?_
    refine g_ldcL fx dX11_parting_16 kc_RX11_377 (by unfold okJ; omega) ?_
    refine g_callSD fx dX11_parting_19 ms_RX11_147 my_X11_within (s_X11_within ad _ _ _ _) rfl rfl (Nat.le_of_ble_eq_true rfl) (by decide) (by decide) ?_
    refine g_if_eq (tgt := 53) fx dX11_parting_22 (by decide) (fun h22 => ?_) (fun h22 => ?_)
    · refine g_iconst fx dX11_parting_53 (by unfold okI; omega) ?_
      exact gw_cgt rfl (by rw [pgV]; (repeat first | rw [if_pos (by omega)] | rw [if_neg (by omega)]) <;> rfl) j54
    · refine g_iload_n fx dX11_parting_25 rfl ?_
      refine g_i2l fx dX11_parting_26 ?_
      refine g_lconst0 fx dX11_parting_27 ?_
      refine g_lconst1 fx dX11_parting_28 ?_
      refine g_callSD fx dX11_parting_29 ms_RX11_147 my_X11_within (s_X11_within ad _ _ _ _) rfl rfl (Nat.le_of_ble_eq_true rfl) (by decide) (by decide) ?_
      refine g_if_ne (tgt := 49) fx dX11_parting_32 (by decide) (fun h32 => ?_) (fun h32 => ?_)
      · refine g_iconst fx dX11_parting_49 (by unfold okI; omega) ?_
        refine g_goto (tgt := 54) fx dX11_parting_50 (by decide) ?_
        exact gw_cgt rfl (by rw [pgV]; (repeat first | rw [if_pos (by omega)] | rw [if_neg (by omega)]) <;> rfl) j54
      · refine g_iload_n fx dX11_parting_35 rfl ?_
        refine g_i2l fx dX11_parting_36 ?_
        refine g_ldcL fx dX11_parting_37 kc_RX11_379 (by unfold okJ; omega) ?_
        refine g_ldcL fx dX11_parting_40 kc_RX11_381 (by unfold okJ; omega) ?_
        refine g_callSD fx dX11_parting_43 ms_RX11_147 my_X11_within (s_X11_within ad _ _ _ _) rfl rfl (Nat.le_of_ble_eq_true rfl) (by decide) (by decide) ?_
        refine g_if_eq (tgt := 53) fx dX11_parting_46 (by decide) (fun h46 => ?_) (fun h46 => ?_)
        · refine g_iconst fx dX11_parting_53 (by unfold okI; omega) ?_
          exact gw_cgt rfl (by rw [pgV]; (repeat first | rw [if_pos (by omega)] | rw [if_neg (by omega)]) <;> rfl) j54
        · refine g_iconst fx dX11_parting_49 (by unfold okI; omega) ?_
          refine g_goto (tgt := 54) fx dX11_parting_50 (by decide) ?_
          exact gw_cgt rfl (by rw [pgV]; (repeat first | rw [if_pos (by omega)] | rw [if_neg (by omega)]) <;> rfl) j54
  · refine g_iconst fx dX11_parting_9 (by unfold okI; omega) ?_
    refine g_goto (tgt := 54) fx dX11_parting_10 (by decide) ?_
    exact gw_cgt rfl (by rw [pgV]; (repeat first | rw [if_pos (by omega)] | rw [if_neg (by omega)]) <;> rfl) j54
