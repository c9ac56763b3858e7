theorem dX11_when_28 : gw_dc cX11_when 28 (.putfield 88) 3 31 := ⟨by decide +kernel, rfl⟩
theorem dX11_when_31 : gw_dc cX11_when 31 (.aload_n 0) 1 32 := ⟨by decide +kernel, rfl⟩
theorem dX11_when_32 : gw_dc cX11_when 32 (.getfield 88) 3 35 := ⟨by decide +kernel, rfl⟩
theorem dX11_when_35 : gw_dc cX11_when 35 (.ifCond .le 5) 3 38 := ⟨by decide +kernel, rfl⟩
theorem dX11_when_40 : gw_dc cX11_when 40 (.aload_n 0) 1 41 := ⟨by decide +kernel, rfl⟩
theorem dX11_when_41 : gw_dc cX11_when 41 (.iload_n 1) 1 42 := ⟨by decide +kernel, rfl⟩
theorem dX11_when_42 : gw_dc cX11_when 42 (.iconst 2) 1 43 := ⟨by decide +kernel, rfl⟩
theorem dX11_when_43 : gw_dc cX11_when 43 (.invokevirtual 242) 3 46 := ⟨by decide +kernel, rfl⟩
theorem dX11_when_46 : gw_dc cX11_when 46 (.istore_n 3) 1 47 := ⟨by decide +kernel, rfl⟩
theorem dX11_when_47 : gw_dc cX11_when 47 (.iconst (-1)) 1 48 := ⟨by decide +kernel, rfl⟩
theorem dX11_when_48 : gw_dc cX11_when 48 (.istore 4) 2 50 := ⟨by decide +kernel, rfl⟩
theorem dX11_when_50 : gw_dc cX11_when 50 (.iconst 0) 1 51 := ⟨by decide +kernel, rfl⟩
theorem dX11_when_51 : gw_dc cX11_when 51 (.istore 5) 2 53 := ⟨by decide +kernel, rfl⟩
theorem dX11_when_53 : gw_dc cX11_when 53 (.iconst (-1)) 1 54 := ⟨by decide +kernel, rfl⟩
theorem dX11_when_54 : gw_dc cX11_when 54 (.istore 6) 2 56 := ⟨by decide +kernel, rfl⟩
theorem dX11_when_56 : gw_dc cX11_when 56 (.iconst 0) 1 57 := ⟨by decide +kernel, rfl⟩
theorem dX11_when_57 : gw_dc cX11_when 57 (.istore 7) 2 59 := ⟨by decide +kernel, rfl⟩
theorem dX11_when_59 : gw_dc cX11_when 59 (.iload 7) 2 61 := ⟨by decide +kernel, rfl⟩
theorem dX11_when_61 : gw_dc cX11_when 61 (.sipush 600) 3 64 := ⟨by decide +kernel, rfl⟩
theorem dX11_when_64 : gw_dc cX11_when 64 (.if_icmp .gt 63) 3 67 := ⟨by decide +kernel, rfl⟩
theorem dX11_when_127 : gw_dc cX11_when 127 (.aload_n 0) 1 128 := ⟨by decide +kernel, rfl⟩
theorem dX11_when_128 : gw_dc cX11_when 128 (.iload_n 1) 1 129 := ⟨by decide +kernel, rfl⟩
theorem dX11_when_129 : gw_dc cX11_when 129 (.iconst 2) 1 130 := ⟨by decide +kernel, rfl⟩
theorem dX11_when_130 : gw_dc cX11_when 130 (.iload_n 3) 1 131 := ⟨by decide +kernel, rfl⟩
theorem dX11_when_131 : gw_dc cX11_when 131 (.invokevirtual 252) 3 134 := ⟨by decide +kernel, rfl⟩
theorem dX11_when_134 : gw_dc cX11_when 134 (.iload_n 2) 1 135 := ⟨by decide +kernel, rfl⟩
theorem dX11_when_135 : gw_dc cX11_when 135 (.ifCond .ne 8) 3 138 := ⟨by decide +kernel, rfl⟩
theorem dX11_when_143 : gw_dc cX11_when 143 (.iload 5) 2 145 := ⟨by decide +kernel, rfl⟩
theorem dX11_when_145 : decode cX11_when 145 = .ok (.ireturn, 1) := by decide +kernel
theorem dX11_when_138 : gw_dc cX11_when 138 (.iload 4) 2 140 := ⟨by decide +kernel, rfl⟩
theorem dX11_when_140 : gw_dc cX11_when 140 (.goto 5) 3 143 := ⟨by decide +kernel, rfl⟩
theorem dX11_when_67 : gw_dc cX11_when 67 (.aload_n 0) 1 68 := ⟨by decide +kernel, rfl⟩
theorem dX11_when_68 : gw_dc cX11_when 68 (.iload_n 1) 1 69 := ⟨by decide +kernel, rfl⟩
theorem dX11_when_69 : gw_dc cX11_when 69 (.iconst 2) 1 70 := ⟨by decide +kernel, rfl⟩
theorem dX11_when_70 : gw_dc cX11_when 70 (.iload 7) 2 72 := ⟨by decide +kernel, rfl⟩
theorem dX11_when_72 : gw_dc cX11_when 72 (.invokevirtual 252) 3 75 := ⟨by decide +kernel, rfl⟩
theorem dX11_when_75 : gw_dc cX11_when 75 (.aload_n 0) 1 76 := ⟨by decide +kernel, rfl⟩
theorem dX11_when_76 : gw_dc cX11_when 76 (.invokevirtual 323) 3 79 := ⟨by decide +kernel, rfl⟩
theorem dX11_when_79 : gw_dc cX11_when 79 (.aload_n 0) 1 80 := ⟨by decide +kernel, rfl⟩
theorem dX11_when_80 : gw_dc cX11_when 80 (.iload_n 1) 1 81 := ⟨by decide +kernel, rfl⟩
theorem dX11_when_81 : gw_dc cX11_when 81 (.invokevirtual 335) 3 84 := ⟨by decide +kernel, rfl⟩
theorem dX11_when_84 : gw_dc cX11_when 84 (.ifCond .ne 7) 3 87 := ⟨by decide +kernel, rfl⟩
theorem dX11_when_91 : gw_dc cX11_when 91 (.iload 6) 2 93 := ⟨by decide +kernel, rfl⟩
theorem dX11_when_93 : gw_dc cX11_when 93 (.iconst (-1)) 1 94 := ⟨by decide +kernel, rfl⟩
theorem dX11_when_94 : gw_dc cX11_when 94 (.if_icmp .eq 16) 3 97 := ⟨by decide +kernel, rfl⟩
theorem dX11_when_110 : gw_dc cX11_when 110 (.aload_n 0) 1 111 := ⟨by decide +kernel, rfl⟩
theorem dX11_when_111 : gw_dc cX11_when 111 (.iload_n 1) 1 112 := ⟨by decide +kernel, rfl⟩
theorem dX11_when_112 : gw_dc cX11_when 112 (.invokevirtual 320) 3 115 := ⟨by decide +kernel, rfl⟩
theorem dX11_when_115 : gw_dc cX11_when 115 (.istore 6) 2 117 := ⟨by decide +kernel, rfl⟩
theorem dX11_when_117 : gw_dc cX11_when 117 (.iload 7) 2 119 := ⟨by decide +kernel, rfl⟩
theorem dX11_when_119 : gw_dc cX11_when 119 (.istore 5) 2 121 := ⟨by decide +kernel, rfl⟩
theorem dX11_when_121 : gw_dc cX11_when 121 (.iinc 7 1) 3 124 := ⟨by decide +kernel, rfl⟩
theorem dX11_when_124 : gw_dc cX11_when 124 (.goto (-65)) 3 127 := ⟨by decide +kernel, rfl⟩
theorem dX11_when_97 : gw_dc cX11_when 97 (.aload_n 0) 1 98 := ⟨by decide +kernel, rfl⟩
theorem dX11_when_98 : gw_dc cX11_when 98 (.iload_n 1) 1 99 := ⟨by decide +kernel, rfl⟩
theorem dX11_when_99 : gw_dc cX11_when 99 (.invokevirtual 320) 3 102 := ⟨by decide +kernel, rfl⟩
theorem dX11_when_102 : gw_dc cX11_when 102 (.iload 6) 2 104 := ⟨by decide +kernel, rfl⟩
theorem dX11_when_104 : gw_dc cX11_when 104 (.if_icmp .lt 6) 3 107 := ⟨by decide +kernel, rfl⟩
theorem dX11_when_107 : gw_dc cX11_when 107 (.goto 14) 3 110 := ⟨by decide +kernel, rfl⟩
theorem dX11_when_87 : gw_dc cX11_when 87 (.iload 7) 2 89 := ⟨by decide +kernel, rfl⟩
theorem dX11_when_89 : gw_dc cX11_when 89 (.istore 4) 2 91 := ⟨by decide +kernel, rfl⟩
theorem dX11_when_38 : gw_dc cX11_when 38 (.iconst 0) 1 39 := ⟨by decide +kernel, rfl⟩
theorem dX11_when_39 : decode cX11_when 39 = .ok (.ireturn, 1) := by decide +kernel
theorem dX11_when_0 : gw_dc cX11_when 0 (.aload_n 0) 1 1 := ⟨by decide +kernel, rfl⟩
theorem dX11_when_1 : gw_dc cX11_when 1 (.aload_n 0) 1 2 := ⟨by decide +kernel, rfl⟩
theorem dX11_when_2 : gw_dc cX11_when 2 (.iload_n 1) 1 3 := ⟨by decide +kernel, rfl⟩
theorem dX11_when_3 : gw_dc cX11_when 3 (.invokevirtual 244) 3 6 := ⟨by decide +kernel, rfl⟩
theorem dX11_when_6 : gw_dc cX11_when 6 (.ifCond .ne 7) 3 9 := ⟨by decide +kernel, rfl⟩
theorem dX11_when_13 : gw_dc cX11_when 13 (.iload_n 2) 1 14 := ⟨by decide +kernel, rfl⟩
theorem dX11_when_14 : gw_dc cX11_when 14 (.i2l) 1 15 := ⟨by decide +kernel, rfl⟩
theorem dX11_when_15 : gw_dc cX11_when 15 (.lconst 0) 1 16 := ⟨by decide +kernel, rfl⟩
theorem dX11_when_16 : gw_dc cX11_when 16 (.lconst 1) 1 17 := ⟨by decide +kernel, rfl⟩
theorem dX11_when_17 : gw_dc cX11_when 17 (.invokestatic 147) 3 20 := ⟨by decide +kernel, rfl⟩
theorem dX11_when_20 : gw_dc cX11_when 20 (.ifCond .eq 7) 3 23 := ⟨by decide +kernel, rfl⟩
theorem dX11_when_27 : gw_dc cX11_when 27 (.iconst 2) 1 28 := ⟨by decide +kernel, rfl⟩
theorem dX11_when_23 : gw_dc cX11_when 23 (.iconst 0) 1 24 := ⟨by decide +kernel, rfl⟩
theorem dX11_when_24 : gw_dc cX11_when 24 (.goto 4) 3 27 := ⟨by decide +kernel, rfl⟩
theorem dX11_when_9 : gw_dc cX11_when 9 (.iconst 1) 1 10 := ⟨by decide +kernel, rfl⟩
theorem dX11_when_10 : gw_dc cX11_when 10 (.goto 18) 3 13 := ⟨by decide +kernel, rfl⟩
theorem dX11_heaviest_14 : gw_dc cX11_heaviest 14 (.putfield 88) 3 17 := ⟨by decide +kernel, rfl⟩
theorem dX11_heaviest_17 : gw_dc cX11_heaviest 17 (.aload_n 0) 1 18 := ⟨by decide +kernel, rfl⟩
theorem dX11_heaviest_18 : gw_dc cX11_heaviest 18 (.getfield 88) 3 21 := ⟨by decide +kernel, rfl⟩
theorem dX11_heaviest_21 : gw_dc cX11_heaviest 21 (.ifCond .le 5) 3 24 := ⟨by decide +kernel, rfl⟩
theorem dX11_heaviest_26 : gw_dc cX11_heaviest 26 (.aload_n 0) 1 27 := ⟨by decide +kernel, rfl⟩
theorem dX11_heaviest_27 : gw_dc cX11_heaviest 27 (.getfield 9) 3 30 := ⟨by decide +kernel, rfl⟩
theorem dX11_heaviest_30 : gw_dc cX11_heaviest 30 (.aload_n 0) 1 31 := ⟨by decide +kernel, rfl⟩
theorem dX11_heaviest_31 : gw_dc cX11_heaviest 31 (.getfield 16) 3 34 := ⟨by decide +kernel, rfl⟩
theorem dX11_heaviest_34 : gw_dc cX11_heaviest 34 (.invokestatic 204) 3 37 := ⟨by decide +kernel, rfl⟩
theorem dX11_heaviest_37 : gw_dc cX11_heaviest 37 (.iconst (-1)) 1 38 := ⟨by decide +kernel, rfl⟩
theorem dX11_heaviest_38 : gw_dc cX11_heaviest 38 (.istore_n 2) 1 39 := ⟨by decide +kernel, rfl⟩
theorem dX11_heaviest_39 : gw_dc cX11_heaviest 39 (.iconst 1) 1 40 := ⟨by decide +kernel, rfl⟩
theorem dX11_heaviest_40 : gw_dc cX11_heaviest 40 (.istore_n 3) 1 41 := ⟨by decide +kernel, rfl⟩
theorem dX11_heaviest_41 : gw_dc cX11_heaviest 41 (.iload_n 3) 1 42 := ⟨by decide +kernel, rfl⟩
theorem dX11_heaviest_42 : gw_dc cX11_heaviest 42 (.bipush 99) 2 44 := ⟨by decide +kernel, rfl⟩
theorem dX11_heaviest_44 : gw_dc cX11_heaviest 44 (.if_icmp .gt 39) 3 47 := ⟨by decide +kernel, rfl⟩
theorem dX11_heaviest_83 : gw_dc cX11_heaviest 83 (.aload_n 0) 1 84 := ⟨by decide +kernel, rfl⟩
theorem dX11_heaviest_84 : gw_dc cX11_heaviest 84 (.getfield 16) 3 87 := ⟨by decide +kernel, rfl⟩
theorem dX11_heaviest_87 : gw_dc cX11_heaviest 87 (.aload_n 0) 1 88 := ⟨by decide +kernel, rfl⟩
theorem dX11_heaviest_88 : gw_dc cX11_heaviest 88 (.getfield 9) 3 91 := ⟨by decide +kernel, rfl⟩
theorem dX11_heaviest_91 : gw_dc cX11_heaviest 91 (.invokestatic 204) 3 94 := ⟨by decide +kernel, rfl⟩
theorem dX11_heaviest_94 : gw_dc cX11_heaviest 94 (.iload_n 2) 1 95 := ⟨by decide +kernel, rfl⟩
theorem dX11_heaviest_95 : decode cX11_heaviest 95 = .ok (.ireturn, 1) := by decide +kernel
theorem dX11_heaviest_47 : gw_dc cX11_heaviest 47 (.aload_n 0) 1 48 := ⟨by decide +kernel, rfl⟩
theorem dX11_heaviest_48 : gw_dc cX11_heaviest 48 (.iload_n 1) 1 49 := ⟨by decide +kernel, rfl⟩
theorem dX11_heaviest_49 : gw_dc cX11_heaviest 49 (.iconst 0) 1 50 := ⟨by decide +kernel, rfl⟩
theorem dX11_heaviest_50 : gw_dc cX11_heaviest 50 (.iload_n 3) 1 51 := ⟨by decide +kernel, rfl⟩
theorem dX11_heaviest_51 : gw_dc cX11_heaviest 51 (.invokevirtual 252) 3 54 := ⟨by decide +kernel, rfl⟩
theorem dX11_heaviest_54 : gw_dc cX11_heaviest 54 (.aload_n 0) 1 55 := ⟨by decide +kernel, rfl⟩
theorem dX11_heaviest_55 : gw_dc cX11_heaviest 55 (.iload_n 1) 1 56 := ⟨by decide +kernel, rfl⟩
theorem dX11_heaviest_56 : gw_dc cX11_heaviest 56 (.invokevirtual 265) 3 59 := ⟨by decide +kernel, rfl⟩
theorem dX11_heaviest_59 : gw_dc cX11_heaviest 59 (.aload_n 0) 1 60 := ⟨by decide +kernel, rfl⟩
theorem dX11_heaviest_60 : gw_dc cX11_heaviest 60 (.invokevirtual 323) 3 63 := ⟨by decide +kernel, rfl⟩
theorem dX11_heaviest_63 : gw_dc cX11_heaviest 63 (.aload_n 0) 1 64 := ⟨by decide +kernel, rfl⟩
theorem dX11_heaviest_64 : gw_dc cX11_heaviest 64 (.iload_n 1) 1 65 := ⟨by decide +kernel, rfl⟩
theorem dX11_heaviest_65 : gw_dc cX11_heaviest 65 (.invokevirtual 335) 3 68 := ⟨by decide +kernel, rfl⟩
theorem dX11_heaviest_68 : gw_dc cX11_heaviest 68 (.ifCond .eq 7) 3 71 := ⟨by decide +kernel, rfl⟩
theorem dX11_heaviest_75 : gw_dc cX11_heaviest 75 (.iload_n 3) 1 76 := ⟨by decide +kernel, rfl⟩
theorem dX11_heaviest_76 : gw_dc cX11_heaviest 76 (.istore_n 2) 1 77 := ⟨by decide +kernel, rfl⟩
theorem dX11_heaviest_77 : gw_dc cX11_heaviest 77 (.iinc 3 1) 3 80 := ⟨by decide +kernel, rfl⟩
theorem dX11_heaviest_80 : gw_dc cX11_heaviest 80 (.goto (-39)) 3 83 := ⟨by decide +kernel, rfl⟩
theorem dX11_heaviest_71 : gw_dc cX11_heaviest 71 (.iload_n 2) 1 72 := ⟨by decide +kernel, rfl⟩
theorem dX11_heaviest_72 : gw_dc cX11_heaviest 72 (.goto 4) 3 75 := ⟨by decide +kernel, rfl⟩
theorem dX11_heaviest_24 : gw_dc cX11_heaviest 24 (.iconst 0) 1 25 := ⟨by decide +kernel, rfl⟩
theorem dX11_heaviest_25 : decode cX11_heaviest 25 = .ok (.ireturn, 1) := by decide +kernel
theorem dX11_heaviest_0 : gw_dc cX11_heaviest 0 (.aload_n 0) 1 1 := ⟨by decide +kernel, rfl⟩
theorem dX11_heaviest_1 : gw_dc cX11_heaviest 1 (.aload_n 0) 1 2 := ⟨by decide +kernel, rfl⟩
theorem dX11_heaviest_2 : gw_dc cX11_heaviest 2 (.iload_n 1) 1 3 := ⟨by decide +kernel, rfl⟩
theorem dX11_heaviest_3 : gw_dc cX11_heaviest 3 (.invokevirtual 244) 3 6 := ⟨by decide +kernel, rfl⟩
theorem dX11_heaviest_6 : gw_dc cX11_heaviest 6 (.ifCond .eq 7) 3 9 := ⟨by decide +kernel, rfl⟩
theorem dX11_heaviest_13 : gw_dc cX11_heaviest 13 (.iconst 1) 1 14 := ⟨by decide +kernel, rfl⟩
theorem dX11_heaviest_9 : gw_dc cX11_heaviest 9 (.iconst 0) 1 10 := ⟨by decide +kernel, rfl⟩
theorem dX11_heaviest_10 : gw_dc cX11_heaviest 10 (.goto 4) 3 13 := ⟨by decide +kernel, rfl⟩
theorem dX11_lend_0 : gw_dc cX11_lend 0 (.aload_n 0) 1 1 := ⟨by decide +kernel, rfl⟩
theorem dX11_lend_1 : gw_dc cX11_lend 1 (.iconst 0) 1 2 := ⟨by decide +kernel, rfl⟩
theorem dX11_lend_2 : gw_dc cX11_lend 2 (.putfield 88) 3 5 := ⟨by decide +kernel, rfl⟩
theorem dX11_lend_5 : gw_dc cX11_lend 5 (.aload_n 0) 1 6 := ⟨by decide +kernel, rfl⟩
theorem dX11_lend_6 : gw_dc cX11_lend 6 (.iload_n 1) 1 7 := ⟨by decide +kernel, rfl⟩
theorem dX11_lend_7 : gw_dc cX11_lend 7 (.invokevirtual 244) 3 10 := ⟨by decide +kernel, rfl⟩
theorem dX11_lend_10 : gw_dc cX11_lend 10 (.ifCond .eq 11) 3 13 := ⟨by decide +kernel, rfl⟩
theorem dX11_lend_21 : gw_dc cX11_lend 21 (.aload_n 0) 1 22 := ⟨by decide +kernel, rfl⟩
theorem dX11_lend_22 : gw_dc cX11_lend 22 (.iconst 1) 1 23 := ⟨by decide +kernel, rfl⟩
theorem dX11_lend_23 : gw_dc cX11_lend 23 (.invokevirtual 191) 3 26 := ⟨by decide +kernel, rfl⟩
theorem dX11_lend_26 : decode cX11_lend 26 = .ok (.ireturn, 1) := by decide +kernel
theorem dX11_lend_13 : gw_dc cX11_lend 13 (.aload_n 0) 1 14 := ⟨by decide +kernel, rfl⟩
theorem dX11_lend_14 : gw_dc cX11_lend 14 (.iload_n 2) 1 15 := ⟨by decide +kernel, rfl⟩
theorem dX11_lend_15 : gw_dc cX11_lend 15 (.invokevirtual 244) 3 18 := ⟨by decide +kernel, rfl⟩
theorem dX11_lend_18 : gw_dc cX11_lend 18 (.ifCond .ne 9) 3 21 := ⟨by decide +kernel, rfl⟩
theorem dX11_lend_27 : gw_dc cX11_lend 27 (.aload_n 0) 1 28 := ⟨by decide +kernel, rfl⟩
theorem dX11_lend_28 : gw_dc cX11_lend 28 (.iload_n 1) 1 29 := ⟨by decide +kernel, rfl⟩
theorem dX11_lend_29 : gw_dc cX11_lend 29 (.bipush 6) 2 31 := ⟨by decide +kernel, rfl⟩
theorem dX11_lend_31 : gw_dc cX11_lend 31 (.invokevirtual 242) 3 34 := ⟨by decide +kernel, rfl⟩
theorem dX11_lend_34 : gw_dc cX11_lend 34 (.iconst 1) 1 35 := ⟨by decide +kernel, rfl⟩
theorem dX11_lend_35 : gw_dc cX11_lend 35 (.if_icmp .gt 14) 3 38 := ⟨by decide +kernel, rfl⟩
theorem dX11_lend_49 : gw_dc cX11_lend 49 (.aload_n 0) 1 50 := ⟨by decide +kernel, rfl⟩
theorem dX11_lend_50 : gw_dc cX11_lend 50 (.iconst 2) 1 51 := ⟨by decide +kernel, rfl⟩
theorem dX11_lend_51 : gw_dc cX11_lend 51 (.invokevirtual 191) 3 54 := ⟨by decide +kernel, rfl⟩
theorem dX11_lend_54 : decode cX11_lend 54 = .ok (.ireturn, 1) := by decide +kernel
theorem dX11_lend_38 : gw_dc cX11_lend 38 (.aload_n 0) 1 39 := ⟨by decide +kernel, rfl⟩
theorem dX11_lend_39 : gw_dc cX11_lend 39 (.iload_n 2) 1 40 := ⟨by decide +kernel, rfl⟩
theorem dX11_lend_40 : gw_dc cX11_lend 40 (.bipush 6) 2 42 := ⟨by decide +kernel, rfl⟩
theorem dX11_lend_42 : gw_dc cX11_lend 42 (.invokevirtual 242) 3 45 := ⟨by decide +kernel, rfl⟩
theorem dX11_lend_45 : gw_dc cX11_lend 45 (.iconst 1) 1 46 := ⟨by decide +kernel, rfl⟩
theorem dX11_lend_46 : gw_dc cX11_lend 46 (.if_icmp .le 9) 3 49 := ⟨by decide +kernel, rfl⟩
theorem dX11_lend_55 : gw_dc cX11_lend 55 (.iload_n 1) 1 56 := ⟨by decide +kernel, rfl⟩
theorem dX11_lend_56 : gw_dc cX11_lend 56 (.iload_n 2) 1 57 := ⟨by decide +kernel, rfl⟩
theorem dX11_lend_57 : gw_dc cX11_lend 57 (.if_icmp .eq 31) 3 60 := ⟨by decide +kernel, rfl⟩
theorem dX11_lend_88 : gw_dc cX11_lend 88 (.aload_n 0) 1 89 := ⟨by decide +kernel, rfl⟩
theorem dX11_lend_89 : gw_dc cX11_lend 89 (.iconst 3) 1 90 := ⟨by decide +kernel, rfl⟩
theorem dX11_lend_90 : gw_dc cX11_lend 90 (.invokevirtual 191) 3 93 := ⟨by decide +kernel, rfl⟩
theorem dX11_lend_93 : decode cX11_lend 93 = .ok (.ireturn, 1) := by decide +kernel
theorem dX11_lend_60 : gw_dc cX11_lend 60 (.iload_n 3) 1 61 := ⟨by decide +kernel, rfl⟩
theorem dX11_lend_61 : gw_dc cX11_lend 61 (.iconst 1) 1 62 := ⟨by decide +kernel, rfl⟩
theorem dX11_lend_62 : gw_dc cX11_lend 62 (.if_icmp .lt 26) 3 65 := ⟨by decide +kernel, rfl⟩
theorem dX11_lend_65 : gw_dc cX11_lend 65 (.iload_n 3) 1 66 := ⟨by decide +kernel, rfl⟩
theorem dX11_lend_66 : gw_dc cX11_lend 66 (.aload_n 0) 1 67 := ⟨by decide +kernel, rfl⟩
theorem dX11_lend_67 : gw_dc cX11_lend 67 (.iload_n 1) 1 68 := ⟨by decide +kernel, rfl⟩
theorem dX11_lend_68 : gw_dc cX11_lend 68 (.iconst 0) 1 69 := ⟨by decide +kernel, rfl⟩
theorem dX11_lend_69 : gw_dc cX11_lend 69 (.invokevirtual 242) 3 72 := ⟨by decide +kernel, rfl⟩
theorem dX11_lend_72 : gw_dc cX11_lend 72 (.if_icmp .ge 16) 3 75 := ⟨by decide +kernel, rfl⟩
theorem dX11_lend_75 : gw_dc cX11_lend 75 (.aload_n 0) 1 76 := ⟨by decide +kernel, rfl⟩
theorem dX11_lend_76 : gw_dc cX11_lend 76 (.iload_n 2) 1 77 := ⟨by decide +kernel, rfl⟩
theorem dX11_lend_77 : gw_dc cX11_lend 77 (.iconst 0) 1 78 := ⟨by decide +kernel, rfl⟩
theorem dX11_lend_78 : gw_dc cX11_lend 78 (.invokevirtual 242) 3 81 := ⟨by decide +kernel, rfl⟩
theorem dX11_lend_81 : gw_dc cX11_lend 81 (.iload_n 3) 1 82 := ⟨by decide +kernel, rfl⟩
theorem dX11_lend_82 : gw_dc cX11_lend 82 (.iadd) 1 83 := ⟨by decide +kernel, rfl⟩
theorem dX11_lend_83 : gw_dc cX11_lend 83 (.bipush 99) 2 85 := ⟨by decide +kernel, rfl⟩
theorem dX11_lend_85 : gw_dc cX11_lend 85 (.if_icmp .le 9) 3 88 := ⟨by decide +kernel, rfl⟩
theorem dX11_lend_94 : gw_dc cX11_lend 94 (.aload_n 0) 1 95 := ⟨by decide +kernel, rfl⟩
theorem dX11_lend_95 : gw_dc cX11_lend 95 (.invokevirtual 358) 3 98 := ⟨by decide +kernel, rfl⟩
theorem dX11_lend_98 : gw_dc cX11_lend 98 (.istore 4) 2 100 := ⟨by decide +kernel, rfl⟩
theorem dX11_lend_100 : gw_dc cX11_lend 100 (.aload_n 0) 1 101 := ⟨by decide +kernel, rfl⟩
theorem dX11_lend_101 : gw_dc cX11_lend 101 (.getfield 9) 3 104 := ⟨by decide +kernel, rfl⟩
theorem dX11_lend_104 : gw_dc cX11_lend 104 (.aload_n 0) 1 105 := ⟨by decide +kernel, rfl⟩
theorem dX11_lend_105 : gw_dc cX11_lend 105 (.getfield 16) 3 108 := ⟨by decide +kernel, rfl⟩
theorem dX11_lend_108 : gw_dc cX11_lend 108 (.invokestatic 204) 3 111 := ⟨by decide +kernel, rfl⟩
theorem dX11_lend_111 : gw_dc cX11_lend 111 (.aload_n 0) 1 112 := ⟨by decide +kernel, rfl⟩
theorem dX11_lend_112 : gw_dc cX11_lend 112 (.iload_n 1) 1 113 := ⟨by decide +kernel, rfl⟩
theorem dX11_lend_113 : gw_dc cX11_lend 113 (.iconst 0) 1 114 := ⟨by decide +kernel, rfl⟩
theorem dX11_lend_114 : gw_dc cX11_lend 114 (.aload_n 0) 1 115 := ⟨by decide +kernel, rfl⟩
theorem dX11_lend_115 : gw_dc cX11_lend 115 (.iload_n 1) 1 116 := ⟨by decide +kernel, rfl⟩
theorem dX11_lend_116 : gw_dc cX11_lend 116 (.iconst 0) 1 117 := ⟨by decide +kernel, rfl⟩
theorem dX11_lend_117 : gw_dc cX11_lend 117 (.invokevirtual 242) 3 120 := ⟨by decide +kernel, rfl⟩
theorem dX11_lend_120 : gw_dc cX11_lend 120 (.iload_n 3) 1 121 := ⟨by decide +kernel, rfl⟩
theorem dX11_lend_121 : gw_dc cX11_lend 121 (.isub) 1 122 := ⟨by decide +kernel, rfl⟩
theorem dX11_lend_122 : gw_dc cX11_lend 122 (.invokevirtual 252) 3 125 := ⟨by decide +kernel, rfl⟩
theorem dX11_lend_125 : gw_dc cX11_lend 125 (.aload_n 0) 1 126 := ⟨by decide +kernel, rfl⟩
theorem dX11_lend_126 : gw_dc cX11_lend 126 (.iload_n 2) 1 127 := ⟨by decide +kernel, rfl⟩
theorem dX11_lend_127 : gw_dc cX11_lend 127 (.iconst 0) 1 128 := ⟨by decide +kernel, rfl⟩
theorem dX11_lend_128 : gw_dc cX11_lend 128 (.aload_n 0) 1 129 := ⟨by decide +kernel, rfl⟩
theorem dX11_lend_129 : gw_dc cX11_lend 129 (.iload_n 2) 1 130 := ⟨by decide +kernel, rfl⟩
theorem dX11_lend_130 : gw_dc cX11_lend 130 (.iconst 0) 1 131 := ⟨by decide +kernel, rfl⟩
theorem dX11_lend_131 : gw_dc cX11_lend 131 (.invokevirtual 242) 3 134 := ⟨by decide +kernel, rfl⟩
theorem dX11_lend_134 : gw_dc cX11_lend 134 (.iload_n 3) 1 135 := ⟨by decide +kernel, rfl⟩
theorem dX11_lend_135 : gw_dc cX11_lend 135 (.iadd) 1 136 := ⟨by decide +kernel, rfl⟩
theorem dX11_lend_136 : gw_dc cX11_lend 136 (.invokevirtual 252) 3 139 := ⟨by decide +kernel, rfl⟩
theorem dX11_lend_139 : gw_dc cX11_lend 139 (.aload_n 0) 1 140 := ⟨by decide +kernel, rfl⟩
theorem dX11_lend_140 : gw_dc cX11_lend 140 (.iload_n 1) 1 141 := ⟨by decide +kernel, rfl⟩
theorem dX11_lend_141 : gw_dc cX11_lend 141 (.invokevirtual 265) 3 144 := ⟨by decide +kernel, rfl⟩
theorem dX11_lend_144 : gw_dc cX11_lend 144 (.aload_n 0) 1 145 := ⟨by decide +kernel, rfl⟩
theorem dX11_lend_145 : gw_dc cX11_lend 145 (.iload_n 2) 1 146 := ⟨by decide +kernel, rfl⟩
theorem dX11_lend_146 : gw_dc cX11_lend 146 (.invokevirtual 265) 3 149 := ⟨by decide +kernel, rfl⟩
theorem dX11_lend_149 : gw_dc cX11_lend 149 (.aload_n 0) 1 150 := ⟨by decide +kernel, rfl⟩
theorem dX11_lend_150 : gw_dc cX11_lend 150 (.invokevirtual 358) 3 153 := ⟨by decide +kernel, rfl⟩
theorem dX11_lend_153 : gw_dc cX11_lend 153 (.istore 5) 2 155 := ⟨by decide +kernel, rfl⟩
theorem dX11_lend_155 : gw_dc cX11_lend 155 (.aload_n 0) 1 156 := ⟨by decide +kernel, rfl⟩
theorem dX11_lend_156 : gw_dc cX11_lend 156 (.getfield 16) 3 159 := ⟨by decide +kernel, rfl⟩
theorem dX11_lend_159 : gw_dc cX11_lend 159 (.aload_n 0) 1 160 := ⟨by decide +kernel, rfl⟩
theorem dX11_lend_160 : gw_dc cX11_lend 160 (.getfield 9) 3 163 := ⟨by decide +kernel, rfl⟩
theorem dX11_lend_163 : gw_dc cX11_lend 163 (.invokestatic 204) 3 166 := ⟨by decide +kernel, rfl⟩
theorem dX11_lend_166 : gw_dc cX11_lend 166 (.iload 5) 2 168 := ⟨by decide +kernel, rfl⟩
theorem dX11_lend_168 : gw_dc cX11_lend 168 (.iload 4) 2 170 := ⟨by decide +kernel, rfl⟩
theorem dX11_lend_170 : gw_dc cX11_lend 170 (.isub) 1 171 := ⟨by decide +kernel, rfl⟩
theorem dX11_lend_171 : decode cX11_lend 171 = .ok (.ireturn, 1) := by decide +kernel
theorem dX11_costBy_0 : gw_dc cX11_costBy 0 (.aload_n 0) 1 1 := ⟨by decide +kernel, rfl⟩
theorem dX11_costBy_1 : gw_dc cX11_costBy 1 (.getfield 9) 3 4 := ⟨by decide +kernel, rfl⟩
theorem dX11_costBy_4 : gw_dc cX11_costBy 4 (.aload_n 0) 1 5 := ⟨by decide +kernel, rfl⟩
theorem dX11_costBy_5 : gw_dc cX11_costBy 5 (.getfield 16) 3 8 := ⟨by decide +kernel, rfl⟩
theorem dX11_costBy_8 : gw_dc cX11_costBy 8 (.invokestatic 204) 3 11 := ⟨by decide +kernel, rfl⟩
theorem dX11_costBy_11 : gw_dc cX11_costBy 11 (.aload_n 0) 1 12 := ⟨by decide +kernel, rfl⟩
theorem dX11_costBy_12 : gw_dc cX11_costBy 12 (.getfield 9) 3 15 := ⟨by decide +kernel, rfl⟩
theorem dX11_costBy_15 : gw_dc cX11_costBy 15 (.bipush 8) 2 17 := ⟨by decide +kernel, rfl⟩
theorem dX11_costBy_17 : gw_dc cX11_costBy 17 (.iconst 1) 1 18 := ⟨by decide +kernel, rfl⟩
theorem dX11_costBy_18 : gw_dc cX11_costBy 18 (.iastore) 1 19 := ⟨by decide +kernel, rfl⟩
theorem dX11_costBy_19 : gw_dc cX11_costBy 19 (.aload_n 0) 1 20 := ⟨by decide +kernel, rfl⟩
theorem dX11_costBy_20 : gw_dc cX11_costBy 20 (.getfield 9) 3 23 := ⟨by decide +kernel, rfl⟩
theorem dX11_costBy_23 : gw_dc cX11_costBy 23 (.bipush 9) 2 25 := ⟨by decide +kernel, rfl⟩
theorem dX11_costBy_25 : gw_dc cX11_costBy 25 (.iload_n 1) 1 26 := ⟨by decide +kernel, rfl⟩
theorem dX11_costBy_26 : gw_dc cX11_costBy 26 (.iastore) 1 27 := ⟨by decide +kernel, rfl⟩
theorem dX11_costBy_27 : gw_dc cX11_costBy 27 (.aload_n 0) 1 28 := ⟨by decide +kernel, rfl⟩
theorem dX11_costBy_28 : gw_dc cX11_costBy 28 (.invokevirtual 358) 3 31 := ⟨by decide +kernel, rfl⟩
theorem dX11_costBy_31 : gw_dc cX11_costBy 31 (.istore_n 2) 1 32 := ⟨by decide +kernel, rfl⟩
theorem dX11_costBy_32 : gw_dc cX11_costBy 32 (.aload_n 0) 1 33 := ⟨by decide +kernel, rfl⟩
theorem dX11_costBy_33 : gw_dc cX11_costBy 33 (.getfield 16) 3 36 := ⟨by decide +kernel, rfl⟩
theorem dX11_costBy_36 : gw_dc cX11_costBy 36 (.aload_n 0) 1 37 := ⟨by decide +kernel, rfl⟩
theorem dX11_costBy_37 : gw_dc cX11_costBy 37 (.getfield 9) 3 40 := ⟨by decide +kernel, rfl⟩
theorem dX11_costBy_40 : gw_dc cX11_costBy 40 (.invokestatic 204) 3 43 := ⟨by decide +kernel, rfl⟩
theorem dX11_costBy_43 : gw_dc cX11_costBy 43 (.iload_n 2) 1 44 := ⟨by decide +kernel, rfl⟩
theorem dX11_costBy_44 : decode cX11_costBy 44 = .ok (.ireturn, 1) := by decide +kernel
theorem dX11_by_18 : gw_dc cX11_by 18 (.putfield 88) 3 21 := ⟨by decide +kernel, rfl⟩
theorem dX11_by_21 : gw_dc cX11_by 21 (.aload_n 0) 1 22 := ⟨by decide +kernel, rfl⟩
theorem dX11_by_22 : gw_dc cX11_by 22 (.getfield 88) 3 25 := ⟨by decide +kernel, rfl⟩
theorem dX11_by_25 : gw_dc cX11_by 25 (.ifCond .le 7) 3 28 := ⟨by decide +kernel, rfl⟩
theorem dX11_by_32 : gw_dc cX11_by 32 (.aload_n 0) 1 33 := ⟨by decide +kernel, rfl⟩
theorem dX11_by_33 : gw_dc cX11_by 33 (.iload_n 1) 1 34 := ⟨by decide +kernel, rfl⟩
theorem dX11_by_34 : gw_dc cX11_by 34 (.invokevirtual 400) 3 37 := ⟨by decide +kernel, rfl⟩
theorem mv_RX11_400 : gw_mv RX11 400 yX11_costBy := ⟨gw_mem 1923 (by decide +kernel) rfl, gw_mem 1925 (by decide +kernel) rfl, gw_mem 90 (by decide +kernel) rfl⟩
theorem my_X11_costBy : gw_my yX11_costBy cX11_costBy 3 (some .int) 1 := ⟨gw_mem 1926 (by decide +kernel) rfl, gw_mem 106 (by decide +kernel) rfl, by decide +kernel, by decide⟩
theorem dX11_by_37 : decode cX11_by 37 = .ok (.ireturn, 1) := by decide +kernel
theorem dX11_by_28 : gw_dc cX11_by 28 (.iconst 0) 1 29 := ⟨by decide +kernel, rfl⟩
theorem dX11_by_29 : gw_dc cX11_by 29 (.goto 8) 3 32 := ⟨by decide +kernel, rfl⟩
theorem dX11_by_0 : gw_dc cX11_by 0 (.aload_n 0) 1 1 := ⟨by decide +kernel, rfl⟩
theorem dX11_by_1 : gw_dc cX11_by 1 (.iload_n 1) 1 2 := ⟨by decide +kernel, rfl⟩
theorem dX11_by_2 : gw_dc cX11_by 2 (.i2l) 1 3 := ⟨by decide +kernel, rfl⟩
theorem dX11_by_3 : gw_dc cX11_by 3 (.lconst 0) 1 4 := ⟨by decide +kernel, rfl⟩
theorem dX11_by_4 : gw_dc cX11_by 4 (.ldc2_w 247) 3 7 := ⟨by decide +kernel, rfl⟩
theorem dX11_by_7 : gw_dc cX11_by 7 (.invokestatic 147) 3 10 := ⟨by decide +kernel, rfl⟩
theorem dX11_by_10 : gw_dc cX11_by 10 (.ifCond .eq 7) 3 13 := ⟨by decide +kernel, rfl⟩
theorem dX11_by_17 : gw_dc cX11_by 17 (.iconst 1) 1 18 := ⟨by decide +kernel, rfl⟩
theorem dX11_by_13 : gw_dc cX11_by 13 (.iconst 0) 1 14 := ⟨by decide +kernel, rfl⟩
theorem dX11_by_14 : gw_dc cX11_by 14 (.goto 4) 3 17 := ⟨by decide +kernel, rfl⟩
theorem dX11_bestLaw_0 : gw_dc cX11_bestLaw 0 (.aload_n 0) 1 1 := ⟨by decide +kernel, rfl⟩
theorem dX11_bestLaw_1 : gw_dc cX11_bestLaw 1 (.iconst 0) 1 2 := ⟨by decide +kernel, rfl⟩
theorem dX11_bestLaw_2 : gw_dc cX11_bestLaw 2 (.putfield 88) 3 5 := ⟨by decide +kernel, rfl⟩
theorem dX11_bestLaw_5 : gw_dc cX11_bestLaw 5 (.iconst 0) 1 6 := ⟨by decide +kernel, rfl⟩
theorem dX11_bestLaw_6 : gw_dc cX11_bestLaw 6 (.istore_n 1) 1 7 := ⟨by decide +kernel, rfl⟩
theorem dX11_bestLaw_7 : gw_dc cX11_bestLaw 7 (.iconst 1) 1 8 := ⟨by decide +kernel, rfl⟩
theorem dX11_bestLaw_8 : gw_dc cX11_bestLaw 8 (.istore_n 2) 1 9 := ⟨by decide +kernel, rfl⟩
theorem dX11_bestLaw_9 : gw_dc cX11_bestLaw 9 (.iload_n 2) 1 10 := ⟨by decide +kernel, rfl⟩
theorem dX11_bestLaw_10 : gw_dc cX11_bestLaw 10 (.bipush 8) 2 12 := ⟨by decide +kernel, rfl⟩
theorem dX11_bestLaw_12 : gw_dc cX11_bestLaw 12 (.if_icmp .ge 28) 3 15 := ⟨by decide +kernel, rfl⟩
theorem dX11_bestLaw_40 : gw_dc cX11_bestLaw 40 (.iload_n 1) 1 41 := ⟨by decide +kernel, rfl⟩
theorem dX11_bestLaw_41 : decode cX11_bestLaw 41 = .ok (.ireturn, 1) := by decide +kernel
theorem dX11_bestLaw_15 : gw_dc cX11_bestLaw 15 (.aload_n 0) 1 16 := ⟨by decide +kernel, rfl⟩
theorem dX11_bestLaw_16 : gw_dc cX11_bestLaw 16 (.iload_n 2) 1 17 := ⟨by decide +kernel, rfl⟩
theorem dX11_bestLaw_17 : gw_dc cX11_bestLaw 17 (.invokevirtual 400) 3 20 := ⟨by decide +kernel, rfl⟩
theorem dX11_bestLaw_20 : gw_dc cX11_bestLaw 20 (.aload_n 0) 1 21 := ⟨by decide +kernel, rfl⟩
theorem dX11_bestLaw_21 : gw_dc cX11_bestLaw 21 (.iload_n 1) 1 22 := ⟨by decide +kernel, rfl⟩
theorem dX11_bestLaw_22 : gw_dc cX11_bestLaw 22 (.invokevirtual 400) 3 25 := ⟨by decide +kernel, rfl⟩
theorem dX11_bestLaw_25 : gw_dc cX11_bestLaw 25 (.if_icmp .ge 7) 3 28 := ⟨by decide +kernel, rfl⟩
theorem dX11_bestLaw_32 : gw_dc cX11_bestLaw 32 (.iload_n 1) 1 33 := ⟨by decide +kernel, rfl⟩
theorem dX11_bestLaw_33 : gw_dc cX11_bestLaw 33 (.istore_n 1) 1 34 := ⟨by decide +kernel, rfl⟩
theorem dX11_bestLaw_34 : gw_dc cX11_bestLaw 34 (.iinc 2 1) 3 37 := ⟨by decide +kernel, rfl⟩
theorem dX11_bestLaw_37 : gw_dc cX11_bestLaw 37 (.goto (-28)) 3 40 := ⟨by decide +kernel, rfl⟩
theorem dX11_bestLaw_28 : gw_dc cX11_bestLaw 28 (.iload_n 2) 1 29 := ⟨by decide +kernel, rfl⟩
theorem dX11_bestLaw_29 : gw_dc cX11_bestLaw 29 (.goto 4) 3 32 := ⟨by decide +kernel, rfl⟩
theorem dX11_fits_0 : gw_dc cX11_fits 0 (.aload_n 0) 1 1 := ⟨by decide +kernel, rfl⟩
theorem dX11_fits_1 : gw_dc cX11_fits 1 (.aload_n 0) 1 2 := ⟨by decide +kernel, rfl⟩
theorem dX11_fits_2 : gw_dc cX11_fits 2 (.iload_n 1) 1 3 := ⟨by decide +kernel, rfl⟩
theorem dX11_fits_3 : gw_dc cX11_fits 3 (.invokevirtual 340) 3 6 := ⟨by decide +kernel, rfl⟩
theorem dX11_fits_6 : gw_dc cX11_fits 6 (.putfield 88) 3 9 := ⟨by decide +kernel, rfl⟩
theorem dX11_fits_9 : gw_dc cX11_fits 9 (.aload_n 0) 1 10 := ⟨by decide +kernel, rfl⟩
theorem dX11_fits_10 : gw_dc cX11_fits 10 (.getfield 88) 3 13 := ⟨by decide +kernel, rfl⟩
theorem dX11_fits_13 : gw_dc cX11_fits 13 (.ifCond .le 5) 3 16 := ⟨by decide +kernel, rfl⟩
theorem dX11_fits_18 : gw_dc cX11_fits 18 (.iconst 0) 1 19 := ⟨by decide +kernel, rfl⟩
theorem dX11_fits_19 : gw_dc cX11_fits 19 (.istore_n 2) 1 20 := ⟨by decide +kernel, rfl⟩
theorem dX11_fits_20 : gw_dc cX11_fits 20 (.iconst 0) 1 21 := ⟨by decide +kernel, rfl⟩
theorem dX11_fits_21 : gw_dc cX11_fits 21 (.istore_n 3) 1 22 := ⟨by decide +kernel, rfl⟩
theorem dX11_fits_22 : gw_dc cX11_fits 22 (.iload_n 3) 1 23 := ⟨by decide +kernel, rfl⟩
theorem dX11_fits_23 : gw_dc cX11_fits 23 (.bipush 8) 2 25 := ⟨by decide +kernel, rfl⟩
theorem dX11_fits_25 : gw_dc cX11_fits 25 (.if_icmp .ge 34) 3 28 := ⟨by decide +kernel, rfl⟩
theorem dX11_fits_59 : gw_dc cX11_fits 59 (.iload_n 2) 1 60 := ⟨by decide +kernel, rfl⟩
theorem dX11_fits_60 : decode cX11_fits 60 = .ok (.ireturn, 1) := by decide +kernel
theorem dX11_fits_28 : gw_dc cX11_fits 28 (.aload_n 0) 1 29 := ⟨by decide +kernel, rfl⟩
theorem dX11_fits_29 : gw_dc cX11_fits 29 (.iload_n 3) 1 30 := ⟨by decide +kernel, rfl⟩
theorem dX11_fits_30 : gw_dc cX11_fits 30 (.invokevirtual 400) 3 33 := ⟨by decide +kernel, rfl⟩
theorem dX11_fits_33 : gw_dc cX11_fits 33 (.pop) 1 34 := ⟨by decide +kernel, rfl⟩
theorem dX11_fits_34 : gw_dc cX11_fits 34 (.iload_n 2) 1 35 := ⟨by decide +kernel, rfl⟩
theorem dX11_fits_35 : gw_dc cX11_fits 35 (.aload_n 0) 1 36 := ⟨by decide +kernel, rfl⟩
theorem dX11_fits_36 : gw_dc cX11_fits 36 (.iload_n 1) 1 37 := ⟨by decide +kernel, rfl⟩
theorem dX11_fits_37 : gw_dc cX11_fits 37 (.invokevirtual 343) 3 40 := ⟨by decide +kernel, rfl⟩
theorem dX11_fits_40 : gw_dc cX11_fits 40 (.iconst (-1)) 1 41 := ⟨by decide +kernel, rfl⟩
theorem dX11_fits_41 : gw_dc cX11_fits 41 (.if_icmp .ne 9) 3 44 := ⟨by decide +kernel, rfl⟩
theorem dX11_fits_50 : gw_dc cX11_fits 50 (.iconst 0) 1 51 := ⟨by decide +kernel, rfl⟩
theorem dX11_fits_51 : gw_dc cX11_fits 51 (.ior) 1 52 := ⟨by decide +kernel, rfl⟩
theorem dX11_fits_52 : gw_dc cX11_fits 52 (.istore_n 2) 1 53 := ⟨by decide +kernel, rfl⟩
theorem dX11_fits_53 : gw_dc cX11_fits 53 (.iinc 3 1) 3 56 := ⟨by decide +kernel, rfl⟩
theorem dX11_fits_56 : gw_dc cX11_fits 56 (.goto (-34)) 3 59 := ⟨by decide +kernel, rfl⟩
theorem dX11_fits_44 : gw_dc cX11_fits 44 (.iconst 1) 1 45 := ⟨by decide +kernel, rfl⟩
theorem dX11_fits_45 : gw_dc cX11_fits 45 (.iload_n 3) 1 46 := ⟨by decide +kernel, rfl⟩
theorem dX11_fits_46 : gw_dc cX11_fits 46 (.ishl) 1 47 := ⟨by decide +kernel, rfl⟩
theorem dX11_fits_47 : gw_dc cX11_fits 47 (.goto 4) 3 50 := ⟨by decide +kernel, rfl⟩
theorem dX11_fits_16 : gw_dc cX11_fits 16 (.iconst 0) 1 17 := ⟨by decide +kernel, rfl⟩
theorem dX11_fits_17 : decode cX11_fits 17 = .ok (.ireturn, 1) := by decide +kernel
theorem dX11_dayOf_0 : gw_dc cX11_dayOf 0 (.aload_n 0) 1 1 := ⟨by decide +kernel, rfl⟩
theorem dX11_dayOf_1 : gw_dc cX11_dayOf 1 (.getfield 9) 3 4 := ⟨by decide +kernel, rfl⟩
theorem dX11_dayOf_4 : gw_dc cX11_dayOf 4 (.aload_n 0) 1 5 := ⟨by decide +kernel, rfl⟩
theorem dX11_dayOf_5 : gw_dc cX11_dayOf 5 (.getfield 16) 3 8 := ⟨by decide +kernel, rfl⟩
theorem dX11_dayOf_8 : gw_dc cX11_dayOf 8 (.invokestatic 204) 3 11 := ⟨by decide +kernel, rfl⟩
theorem dX11_dayOf_11 : gw_dc cX11_dayOf 11 (.aload_n 0) 1 12 := ⟨by decide +kernel, rfl⟩
theorem dX11_dayOf_12 : gw_dc cX11_dayOf 12 (.iload_n 2) 1 13 := ⟨by decide +kernel, rfl⟩
theorem dX11_dayOf_13 : gw_dc cX11_dayOf 13 (.putfield 404) 3 16 := ⟨by decide +kernel, rfl⟩
theorem dX11_dayOf_16 : gw_dc cX11_dayOf 16 (.iconst 0) 1 17 := ⟨by decide +kernel, rfl⟩
theorem dX11_dayOf_17 : gw_dc cX11_dayOf 17 (.istore 5) 2 19 := ⟨by decide +kernel, rfl⟩
theorem dX11_dayOf_19 : gw_dc cX11_dayOf 19 (.iload 5) 2 21 := ⟨by decide +kernel, rfl⟩
theorem dX11_dayOf_21 : gw_dc cX11_dayOf 21 (.sipush 300) 3 24 := ⟨by decide +kernel, rfl⟩
theorem dX11_dayOf_24 : gw_dc cX11_dayOf 24 (.if_icmp .ge 154) 3 27 := ⟨by decide +kernel, rfl⟩
theorem dX11_dayOf_178 : gw_dc cX11_dayOf 178 (.aload_n 0) 1 179 := ⟨by decide +kernel, rfl⟩
theorem dX11_dayOf_179 : gw_dc cX11_dayOf 179 (.invokevirtual 323) 3 182 := ⟨by decide +kernel, rfl⟩
theorem dX11_dayOf_182 : gw_dc cX11_dayOf 182 (.aload_n 0) 1 183 := ⟨by decide +kernel, rfl⟩
theorem dX11_dayOf_183 : gw_dc cX11_dayOf 183 (.iload_n 1) 1 184 := ⟨by decide +kernel, rfl⟩
theorem dX11_dayOf_184 : gw_dc cX11_dayOf 184 (.invokevirtual 320) 3 187 := ⟨by decide +kernel, rfl⟩
theorem dX11_dayOf_187 : gw_dc cX11_dayOf 187 (.istore 5) 2 189 := ⟨by decide +kernel, rfl⟩
theorem dX11_dayOf_189 : gw_dc cX11_dayOf 189 (.aload_n 0) 1 190 := ⟨by decide +kernel, rfl⟩
theorem dX11_dayOf_190 : gw_dc cX11_dayOf 190 (.getfield 16) 3 193 := ⟨by decide +kernel, rfl⟩
theorem dX11_dayOf_193 : gw_dc cX11_dayOf 193 (.aload_n 0) 1 194 := ⟨by decide +kernel, rfl⟩
theorem dX11_dayOf_194 : gw_dc cX11_dayOf 194 (.getfield 9) 3 197 := ⟨by decide +kernel, rfl⟩
theorem dX11_dayOf_197 : gw_dc cX11_dayOf 197 (.invokestatic 204) 3 200 := ⟨by decide +kernel, rfl⟩
theorem dX11_dayOf_200 : gw_dc cX11_dayOf 200 (.iload 5) 2 202 := ⟨by decide +kernel, rfl⟩
theorem dX11_dayOf_202 : decode cX11_dayOf 202 = .ok (.ireturn, 1) := by decide +kernel
theorem dX11_dayOf_27 : gw_dc cX11_dayOf 27 (.aload_n 0) 1 28 := ⟨by decide +kernel, rfl⟩
theorem dX11_dayOf_28 : gw_dc cX11_dayOf 28 (.bipush 100) 2 30 := ⟨by decide +kernel, rfl⟩
theorem dX11_dayOf_30 : gw_dc cX11_dayOf 30 (.invokevirtual 407) 3 33 := ⟨by decide +kernel, rfl⟩
theorem mv_RX11_407 : gw_mv RX11 407 yX11_draw := ⟨gw_mem 1947 (by decide +kernel) rfl, gw_mem 1949 (by decide +kernel) rfl, gw_mem 92 (by decide +kernel) rfl⟩
theorem my_X11_draw : gw_my yX11_draw cX11_draw 2 (some .int) 1 := ⟨gw_mem 1950 (by decide +kernel) rfl, gw_mem 106 (by decide +kernel) rfl, by decide +kernel, by decide⟩
theorem dX11_dayOf_33 : gw_dc cX11_dayOf 33 (.iload_n 3) 1 34 := ⟨by decide +kernel, rfl⟩
theorem dX11_dayOf_34 : gw_dc cX11_dayOf 34 (.if_icmp .ge 138) 3 37 := ⟨by decide +kernel, rfl⟩
theorem dX11_dayOf_172 : gw_dc cX11_dayOf 172 (.iinc 5 1) 3 175 := ⟨by decide +kernel, rfl⟩
theorem dX11_dayOf_175 : gw_dc cX11_dayOf 175 (.goto (-156)) 3 178 := ⟨by decide +kernel, rfl⟩
theorem dX11_dayOf_37 : gw_dc cX11_dayOf 37 (.aload_n 0) 1 38 := ⟨by decide +kernel, rfl⟩
theorem dX11_dayOf_38 : gw_dc cX11_dayOf 38 (.getfield 9) 3 41 := ⟨by decide +kernel, rfl⟩
theorem dX11_dayOf_41 : gw_dc cX11_dayOf 41 (.sipush 668) 3 44 := ⟨by decide +kernel, rfl⟩
theorem dX11_dayOf_44 : gw_dc cX11_dayOf 44 (.iaload) 1 45 := ⟨by decide +kernel, rfl⟩
theorem dX11_dayOf_45 : gw_dc cX11_dayOf 45 (.bipush 60) 2 47 := ⟨by decide +kernel, rfl⟩
theorem dX11_dayOf_47 : gw_dc cX11_dayOf 47 (.if_icmp .lt 6) 3 50 := ⟨by decide +kernel, rfl⟩
theorem dX11_dayOf_53 : gw_dc cX11_dayOf 53 (.aload_n 0) 1 54 := ⟨by decide +kernel, rfl⟩
theorem dX11_dayOf_54 : gw_dc cX11_dayOf 54 (.getfield 9) 3 57 := ⟨by decide +kernel, rfl⟩
theorem dX11_dayOf_57 : gw_dc cX11_dayOf 57 (.iconst 4) 1 58 := ⟨by decide +kernel, rfl⟩
theorem dX11_dayOf_58 : gw_dc cX11_dayOf 58 (.iaload) 1 59 := ⟨by decide +kernel, rfl⟩
theorem dX11_dayOf_59 : gw_dc cX11_dayOf 59 (.istore 6) 2 61 := ⟨by decide +kernel, rfl⟩
theorem dX11_dayOf_61 : gw_dc cX11_dayOf 61 (.aload_n 0) 1 62 := ⟨by decide +kernel, rfl⟩
theorem dX11_dayOf_62 : gw_dc cX11_dayOf 62 (.iload 4) 2 64 := ⟨by decide +kernel, rfl⟩
theorem dX11_dayOf_64 : gw_dc cX11_dayOf 64 (.invokevirtual 407) 3 67 := ⟨by decide +kernel, rfl⟩
theorem dX11_dayOf_67 : gw_dc cX11_dayOf 67 (.iconst 1) 1 68 := ⟨by decide +kernel, rfl⟩
theorem dX11_dayOf_68 : gw_dc cX11_dayOf 68 (.iadd) 1 69 := ⟨by decide +kernel, rfl⟩
theorem dX11_dayOf_69 : gw_dc cX11_dayOf 69 (.istore 7) 2 71 := ⟨by decide +kernel, rfl⟩
theorem dX11_dayOf_71 : gw_dc cX11_dayOf 71 (.aload_n 0) 1 72 := ⟨by decide +kernel, rfl⟩
theorem dX11_dayOf_72 : gw_dc cX11_dayOf 72 (.getfield 9) 3 75 := ⟨by decide +kernel, rfl⟩
theorem dX11_dayOf_75 : gw_dc cX11_dayOf 75 (.iconst 4) 1 76 := ⟨by decide +kernel, rfl⟩
theorem dX11_dayOf_76 : gw_dc cX11_dayOf 76 (.dup2) 1 77 := ⟨by decide +kernel, rfl⟩
theorem dX11_dayOf_77 : gw_dc cX11_dayOf 77 (.iaload) 1 78 := ⟨by decide +kernel, rfl⟩
theorem dX11_dayOf_78 : gw_dc cX11_dayOf 78 (.iconst 1) 1 79 := ⟨by decide +kernel, rfl⟩
theorem dX11_dayOf_79 : gw_dc cX11_dayOf 79 (.iadd) 1 80 := ⟨by decide +kernel, rfl⟩
theorem dX11_dayOf_80 : gw_dc cX11_dayOf 80 (.iastore) 1 81 := ⟨by decide +kernel, rfl⟩
theorem dX11_dayOf_81 : gw_dc cX11_dayOf 81 (.aload_n 0) 1 82 := ⟨by decide +kernel, rfl⟩
theorem dX11_dayOf_82 : gw_dc cX11_dayOf 82 (.iload 6) 2 84 := ⟨by decide +kernel, rfl⟩
theorem dX11_dayOf_84 : gw_dc cX11_dayOf 84 (.iconst 0) 1 85 := ⟨by decide +kernel, rfl⟩
theorem dX11_dayOf_85 : gw_dc cX11_dayOf 85 (.iload 7) 2 87 := ⟨by decide +kernel, rfl⟩
theorem dX11_dayOf_87 : gw_dc cX11_dayOf 87 (.invokevirtual 252) 3 90 := ⟨by decide +kernel, rfl⟩
theorem dX11_dayOf_90 : gw_dc cX11_dayOf 90 (.aload_n 0) 1 91 := ⟨by decide +kernel, rfl⟩
theorem dX11_dayOf_91 : gw_dc cX11_dayOf 91 (.iload 6) 2 93 := ⟨by decide +kernel, rfl⟩
theorem dX11_dayOf_93 : gw_dc cX11_dayOf 93 (.iconst 1) 1 94 := ⟨by decide +kernel, rfl⟩
theorem dX11_dayOf_94 : gw_dc cX11_dayOf 94 (.bipush 7) 2 96 := ⟨by decide +kernel, rfl⟩
theorem dX11_dayOf_96 : gw_dc cX11_dayOf 96 (.invokevirtual 252) 3 99 := ⟨by decide +kernel, rfl⟩
theorem dX11_dayOf_99 : gw_dc cX11_dayOf 99 (.aload_n 0) 1 100 := ⟨by decide +kernel, rfl⟩
theorem dX11_dayOf_100 : gw_dc cX11_dayOf 100 (.iload 6) 2 102 := ⟨by decide +kernel, rfl⟩
theorem dX11_dayOf_102 : gw_dc cX11_dayOf 102 (.iconst 2) 1 103 := ⟨by decide +kernel, rfl⟩
theorem dX11_dayOf_103 : gw_dc cX11_dayOf 103 (.iload 5) 2 105 := ⟨by decide +kernel, rfl⟩
theorem dX11_dayOf_105 : gw_dc cX11_dayOf 105 (.invokevirtual 252) 3 108 := ⟨by decide +kernel, rfl⟩
theorem dX11_dayOf_108 : gw_dc cX11_dayOf 108 (.aload_n 0) 1 109 := ⟨by decide +kernel, rfl⟩
theorem dX11_dayOf_109 : gw_dc cX11_dayOf 109 (.iload 6) 2 111 := ⟨by decide +kernel, rfl⟩
theorem dX11_dayOf_111 : gw_dc cX11_dayOf 111 (.iconst 3) 1 112 := ⟨by decide +kernel, rfl⟩
theorem dX11_dayOf_112 : gw_dc cX11_dayOf 112 (.iconst 0) 1 113 := ⟨by decide +kernel, rfl⟩
theorem dX11_dayOf_113 : gw_dc cX11_dayOf 113 (.invokevirtual 252) 3 116 := ⟨by decide +kernel, rfl⟩
theorem dX11_dayOf_116 : gw_dc cX11_dayOf 116 (.aload_n 0) 1 117 := ⟨by decide +kernel, rfl⟩
theorem dX11_dayOf_117 : gw_dc cX11_dayOf 117 (.iload 6) 2 119 := ⟨by decide +kernel, rfl⟩
theorem dX11_dayOf_119 : gw_dc cX11_dayOf 119 (.iconst 4) 1 120 := ⟨by decide +kernel, rfl⟩
theorem dX11_dayOf_120 : gw_dc cX11_dayOf 120 (.iconst 1) 1 121 := ⟨by decide +kernel, rfl⟩
theorem dX11_dayOf_121 : gw_dc cX11_dayOf 121 (.invokevirtual 252) 3 124 := ⟨by decide +kernel, rfl⟩
theorem dX11_dayOf_124 : gw_dc cX11_dayOf 124 (.aload_n 0) 1 125 := ⟨by decide +kernel, rfl⟩
theorem dX11_dayOf_125 : gw_dc cX11_dayOf 125 (.iload 6) 2 127 := ⟨by decide +kernel, rfl⟩
theorem dX11_dayOf_127 : gw_dc cX11_dayOf 127 (.iconst 5) 1 128 := ⟨by decide +kernel, rfl⟩
theorem dX11_dayOf_128 : gw_dc cX11_dayOf 128 (.iconst (-1)) 1 129 := ⟨by decide +kernel, rfl⟩
theorem dX11_dayOf_129 : gw_dc cX11_dayOf 129 (.invokevirtual 252) 3 132 := ⟨by decide +kernel, rfl⟩
theorem dX11_dayOf_132 : gw_dc cX11_dayOf 132 (.aload_n 0) 1 133 := ⟨by decide +kernel, rfl⟩
theorem dX11_dayOf_133 : gw_dc cX11_dayOf 133 (.iload 6) 2 135 := ⟨by decide +kernel, rfl⟩
theorem dX11_dayOf_135 : gw_dc cX11_dayOf 135 (.bipush 6) 2 137 := ⟨by decide +kernel, rfl⟩
theorem dX11_dayOf_137 : gw_dc cX11_dayOf 137 (.iconst 1) 1 138 := ⟨by decide +kernel, rfl⟩
theorem dX11_dayOf_138 : gw_dc cX11_dayOf 138 (.invokevirtual 252) 3 141 := ⟨by decide +kernel, rfl⟩
theorem dX11_dayOf_141 : gw_dc cX11_dayOf 141 (.aload_n 0) 1 142 := ⟨by decide +kernel, rfl⟩
theorem dX11_dayOf_142 : gw_dc cX11_dayOf 142 (.getfield 9) 3 145 := ⟨by decide +kernel, rfl⟩
theorem dX11_dayOf_145 : gw_dc cX11_dayOf 145 (.sipush 608) 3 148 := ⟨by decide +kernel, rfl⟩
theorem dX11_dayOf_148 : gw_dc cX11_dayOf 148 (.aload_n 0) 1 149 := ⟨by decide +kernel, rfl⟩
theorem dX11_dayOf_149 : gw_dc cX11_dayOf 149 (.getfield 9) 3 152 := ⟨by decide +kernel, rfl⟩
theorem dX11_dayOf_152 : gw_dc cX11_dayOf 152 (.sipush 668) 3 155 := ⟨by decide +kernel, rfl⟩
theorem dX11_dayOf_155 : gw_dc cX11_dayOf 155 (.iaload) 1 156 := ⟨by decide +kernel, rfl⟩
theorem dX11_dayOf_156 : gw_dc cX11_dayOf 156 (.iadd) 1 157 := ⟨by decide +kernel, rfl⟩
theorem dX11_dayOf_157 : gw_dc cX11_dayOf 157 (.iload 7) 2 159 := ⟨by decide +kernel, rfl⟩
theorem dX11_dayOf_159 : gw_dc cX11_dayOf 159 (.iastore) 1 160 := ⟨by decide +kernel, rfl⟩
theorem dX11_dayOf_160 : gw_dc cX11_dayOf 160 (.aload_n 0) 1 161 := ⟨by decide +kernel, rfl⟩
theorem dX11_dayOf_161 : gw_dc cX11_dayOf 161 (.getfield 9) 3 164 := ⟨by decide +kernel, rfl⟩
theorem dX11_dayOf_164 : gw_dc cX11_dayOf 164 (.sipush 668) 3 167 := ⟨by decide +kernel, rfl⟩
theorem dX11_dayOf_167 : gw_dc cX11_dayOf 167 (.dup2) 1 168 := ⟨by decide +kernel, rfl⟩
theorem dX11_dayOf_168 : gw_dc cX11_dayOf 168 (.iaload) 1 169 := ⟨by decide +kernel, rfl⟩
theorem dX11_dayOf_169 : gw_dc cX11_dayOf 169 (.iconst 1) 1 170 := ⟨by decide +kernel, rfl⟩
theorem dX11_dayOf_170 : gw_dc cX11_dayOf 170 (.iadd) 1 171 := ⟨by decide +kernel, rfl⟩
theorem dX11_dayOf_171 : gw_dc cX11_dayOf 171 (.iastore) 1 172 := ⟨by decide +kernel, rfl⟩
theorem dX11_dayOf_50 : gw_dc cX11_dayOf 50 (.goto 122) 3 53 := ⟨by decide +kernel, rfl⟩
theorem dX11_day_27 : gw_dc cX11_day 27 (.putfield 88) 3 30 := ⟨by decide +kernel, rfl⟩
theorem dX11_day_30 : gw_dc cX11_day 30 (.aload_n 0) 1 31 := ⟨by decide +kernel, rfl⟩
theorem dX11_day_31 : gw_dc cX11_day 31 (.getfield 88) 3 34 := ⟨by decide +kernel, rfl⟩
theorem dX11_day_34 : gw_dc cX11_day 34 (.ifCond .le 7) 3 37 := ⟨by decide +kernel, rfl⟩
theorem dX11_day_41 : gw_dc cX11_day 41 (.aload_n 0) 1 42 := ⟨by decide +kernel, rfl⟩
theorem dX11_day_42 : gw_dc cX11_day 42 (.iload_n 1) 1 43 := ⟨by decide +kernel, rfl⟩
theorem dX11_day_43 : gw_dc cX11_day 43 (.iload_n 2) 1 44 := ⟨by decide +kernel, rfl⟩
theorem dX11_day_44 : gw_dc cX11_day 44 (.iload_n 3) 1 45 := ⟨by decide +kernel, rfl⟩
theorem dX11_day_45 : gw_dc cX11_day 45 (.iload 4) 2 47 := ⟨by decide +kernel, rfl⟩
theorem dX11_day_47 : gw_dc cX11_day 47 (.invokevirtual 415) 3 50 := ⟨by decide +kernel, rfl⟩
theorem mv_RX11_415 : gw_mv RX11 415 yX11_dayOf := ⟨gw_mem 1943 (by decide +kernel) rfl, gw_mem 1945 (by decide +kernel) rfl, gw_mem 91 (by decide +kernel) rfl⟩
theorem my_X11_dayOf : gw_my yX11_dayOf cX11_dayOf 8 (some .int) 4 := ⟨gw_mem 1946 (by decide +kernel) rfl, gw_mem 106 (by decide +kernel) rfl, by decide +kernel, by decide⟩
theorem dX11_day_50 : decode cX11_day 50 = .ok (.ireturn, 1) := by decide +kernel
theorem dX11_day_37 : gw_dc cX11_day 37 (.iconst 0) 1 38 := ⟨by decide +kernel, rfl⟩
theorem dX11_day_38 : gw_dc cX11_day 38 (.goto 12) 3 41 := ⟨by decide +kernel, rfl⟩
theorem dX11_day_0 : gw_dc cX11_day 0 (.aload_n 0) 1 1 := ⟨by decide +kernel, rfl⟩
theorem dX11_day_1 : gw_dc cX11_day 1 (.aload_n 0) 1 2 := ⟨by decide +kernel, rfl⟩
theorem dX11_day_2 : gw_dc cX11_day 2 (.iload_n 1) 1 3 := ⟨by decide +kernel, rfl⟩
theorem dX11_day_3 : gw_dc cX11_day 3 (.invokevirtual 244) 3 6 := ⟨by decide +kernel, rfl⟩
theorem dX11_day_6 : gw_dc cX11_day 6 (.ifCond .ne 7) 3 9 := ⟨by decide +kernel, rfl⟩
theorem dX11_day_13 : gw_dc cX11_day 13 (.iload_n 3) 1 14 := ⟨by decide +kernel, rfl⟩
theorem dX11_day_14 : gw_dc cX11_day 14 (.iload 4) 2 16 := ⟨by decide +kernel, rfl⟩
theorem dX11_day_16 : gw_dc cX11_day 16 (.invokestatic 412) 3 19 := ⟨by decide +kernel, rfl⟩
theorem ms_RX11_412 : gw_mst RX11 412 yX11_isDay := ⟨gw_mem 1939 (by decide +kernel) rfl, gw_mem 1940 (by decide +kernel) rfl⟩
theorem my_X11_isDay : gw_my yX11_isDay cX11_isDay 2 (some .boolean) 2 := ⟨gw_mem 1941 (by decide +kernel) rfl, gw_mem 106 (by decide +kernel) rfl, by decide +kernel, by decide⟩
theorem dX11_day_19 : gw_dc cX11_day 19 (.ifCond .eq 7) 3 22 := ⟨by decide +kernel, rfl⟩
theorem dX11_day_26 : gw_dc cX11_day 26 (.iconst 2) 1 27 := ⟨by decide +kernel, rfl⟩
theorem dX11_day_22 : gw_dc cX11_day 22 (.iconst 0) 1 23 := ⟨by decide +kernel, rfl⟩
theorem dX11_day_23 : gw_dc cX11_day 23 (.goto 4) 3 26 := ⟨by decide +kernel, rfl⟩
theorem dX11_day_9 : gw_dc cX11_day 9 (.iconst 1) 1 10 := ⟨by decide +kernel, rfl⟩
theorem dX11_day_10 : gw_dc cX11_day 10 (.goto 17) 3 13 := ⟨by decide +kernel, rfl⟩
theorem dX11_days_52 : gw_dc cX11_days 52 (.putfield 88) 3 55 := ⟨by decide +kernel, rfl⟩
theorem dX11_days_55 : gw_dc cX11_days 55 (.aload_n 0) 1 56 := ⟨by decide +kernel, rfl⟩
theorem dX11_days_56 : gw_dc cX11_days 56 (.getfield 88) 3 59 := ⟨by decide +kernel, rfl⟩
theorem dX11_days_59 : gw_dc cX11_days 59 (.ifCond .le 5) 3 62 := ⟨by decide +kernel, rfl⟩
theorem dX11_days_64 : gw_dc cX11_days 64 (.iconst (-1)) 1 65 := ⟨by decide +kernel, rfl⟩
theorem dX11_days_65 : gw_dc cX11_days 65 (.istore 6) 2 67 := ⟨by decide +kernel, rfl⟩
theorem dX11_days_67 : gw_dc cX11_days 67 (.iconst (-1)) 1 68 := ⟨by decide +kernel, rfl⟩
theorem dX11_days_68 : gw_dc cX11_days 68 (.istore 7) 2 70 := ⟨by decide +kernel, rfl⟩
theorem dX11_days_70 : gw_dc cX11_days 70 (.iconst 0) 1 71 := ⟨by decide +kernel, rfl⟩
theorem dX11_days_71 : gw_dc cX11_days 71 (.istore 8) 2 73 := ⟨by decide +kernel, rfl⟩
theorem dX11_days_73 : gw_dc cX11_days 73 (.iconst 1) 1 74 := ⟨by decide +kernel, rfl⟩
theorem dX11_days_74 : gw_dc cX11_days 74 (.istore 9) 2 76 := ⟨by decide +kernel, rfl⟩
theorem dX11_days_76 : gw_dc cX11_days 76 (.iload 9) 2 78 := ⟨by decide +kernel, rfl⟩
theorem dX11_days_78 : gw_dc cX11_days 78 (.iload_n 2) 1 79 := ⟨by decide +kernel, rfl⟩
theorem dX11_days_79 : gw_dc cX11_days 79 (.if_icmp .gt 46) 3 82 := ⟨by decide +kernel, rfl⟩
theorem dX11_days_125 : gw_dc cX11_days 125 (.iload 5) 2 127 := ⟨by decide +kernel, rfl⟩
theorem dX11_days_127 : gw_dc cX11_days 127 (.ifCond .ne 8) 3 130 := ⟨by decide +kernel, rfl⟩
theorem dX11_days_135 : gw_dc cX11_days 135 (.iload 5) 2 137 := ⟨by decide +kernel, rfl⟩
theorem dX11_days_137 : gw_dc cX11_days 137 (.iconst 1) 1 138 := ⟨by decide +kernel, rfl⟩
theorem dX11_days_138 : gw_dc cX11_days 138 (.if_icmp .ne 8) 3 141 := ⟨by decide +kernel, rfl⟩
theorem dX11_days_146 : gw_dc cX11_days 146 (.iload 8) 2 148 := ⟨by decide +kernel, rfl⟩
theorem dX11_days_148 : decode cX11_days 148 = .ok (.ireturn, 1) := by decide +kernel
theorem dX11_days_141 : gw_dc cX11_days 141 (.iload 7) 2 143 := ⟨by decide +kernel, rfl⟩
theorem dX11_days_143 : gw_dc cX11_days 143 (.goto 5) 3 146 := ⟨by decide +kernel, rfl⟩
theorem dX11_days_130 : gw_dc cX11_days 130 (.iload 6) 2 132 := ⟨by decide +kernel, rfl⟩
theorem dX11_days_132 : gw_dc cX11_days 132 (.goto 16) 3 135 := ⟨by decide +kernel, rfl⟩
theorem dX11_days_82 : gw_dc cX11_days 82 (.aload_n 0) 1 83 := ⟨by decide +kernel, rfl⟩
theorem dX11_days_83 : gw_dc cX11_days 83 (.iload_n 1) 1 84 := ⟨by decide +kernel, rfl⟩
theorem dX11_days_84 : gw_dc cX11_days 84 (.iload 9) 2 86 := ⟨by decide +kernel, rfl⟩
theorem dX11_days_86 : gw_dc cX11_days 86 (.iload_n 3) 1 87 := ⟨by decide +kernel, rfl⟩
theorem dX11_days_87 : gw_dc cX11_days 87 (.iload 4) 2 89 := ⟨by decide +kernel, rfl⟩
theorem dX11_days_89 : gw_dc cX11_days 89 (.invokevirtual 415) 3 92 := ⟨by decide +kernel, rfl⟩
theorem dX11_days_92 : gw_dc cX11_days 92 (.istore 10) 2 94 := ⟨by decide +kernel, rfl⟩
theorem dX11_days_94 : gw_dc cX11_days 94 (.iload 8) 2 96 := ⟨by decide +kernel, rfl⟩
theorem dX11_days_96 : gw_dc cX11_days 96 (.iload 10) 2 98 := ⟨by decide +kernel, rfl⟩
theorem dX11_days_98 : gw_dc cX11_days 98 (.iadd) 1 99 := ⟨by decide +kernel, rfl⟩
theorem dX11_days_99 : gw_dc cX11_days 99 (.istore 8) 2 101 := ⟨by decide +kernel, rfl⟩
theorem dX11_days_101 : gw_dc cX11_days 101 (.iload 10) 2 103 := ⟨by decide +kernel, rfl⟩
theorem dX11_days_103 : gw_dc cX11_days 103 (.iload 6) 2 105 := ⟨by decide +kernel, rfl⟩
theorem dX11_days_105 : gw_dc cX11_days 105 (.if_icmp .gt 6) 3 108 := ⟨by decide +kernel, rfl⟩
theorem dX11_days_111 : gw_dc cX11_days 111 (.iload 10) 2 113 := ⟨by decide +kernel, rfl⟩
theorem dX11_days_113 : gw_dc cX11_days 113 (.istore 6) 2 115 := ⟨by decide +kernel, rfl⟩
theorem dX11_days_115 : gw_dc cX11_days 115 (.iload 9) 2 117 := ⟨by decide +kernel, rfl⟩
theorem dX11_days_117 : gw_dc cX11_days 117 (.istore 7) 2 119 := ⟨by decide +kernel, rfl⟩
theorem dX11_days_119 : gw_dc cX11_days 119 (.iinc 9 1) 3 122 := ⟨by decide +kernel, rfl⟩
theorem dX11_days_122 : gw_dc cX11_days 122 (.goto (-46)) 3 125 := ⟨by decide +kernel, rfl⟩
theorem dX11_days_108 : gw_dc cX11_days 108 (.goto 11) 3 111 := ⟨by decide +kernel, rfl⟩
theorem dX11_days_62 : gw_dc cX11_days 62 (.iconst 0) 1 63 := ⟨by decide +kernel, rfl⟩
theorem dX11_days_63 : decode cX11_days 63 = .ok (.ireturn, 1) := by decide +kernel
theorem dX11_days_0 : gw_dc cX11_days 0 (.aload_n 0) 1 1 := ⟨by decide +kernel, rfl⟩
theorem dX11_days_1 : gw_dc cX11_days 1 (.aload_n 0) 1 2 := ⟨by decide +kernel, rfl⟩
theorem dX11_days_2 : gw_dc cX11_days 2 (.iload_n 1) 1 3 := ⟨by decide +kernel, rfl⟩
theorem dX11_days_3 : gw_dc cX11_days 3 (.invokevirtual 244) 3 6 := ⟨by decide +kernel, rfl⟩
theorem dX11_days_6 : gw_dc cX11_days 6 (.ifCond .ne 7) 3 9 := ⟨by decide +kernel, rfl⟩
theorem dX11_days_13 : gw_dc cX11_days 13 (.iload_n 2) 1 14 := ⟨by decide +kernel, rfl⟩
theorem dX11_days_14 : gw_dc cX11_days 14 (.i2l) 1 15 := ⟨by decide +kernel, rfl⟩
theorem dX11_days_15 : gw_dc cX11_days 15 (.lconst 1) 1 16 := ⟨by decide +kernel, rfl⟩
theorem dX11_days_16 : gw_dc cX11_days 16 (.ldc2_w 418) 3 19 := ⟨by decide +kernel, rfl⟩
theorem kc_RX11_418 : Cond.constantLong RX11 418 (Int64.ofInt 30) ∈ wsG := gw_mem 1956 (by decide +kernel) rfl
theorem dX11_days_19 : gw_dc cX11_days 19 (.invokestatic 147) 3 22 := ⟨by decide +kernel, rfl⟩
theorem dX11_days_22 : gw_dc cX11_days 22 (.ifCond .eq 29) 3 25 := ⟨by decide +kernel, rfl⟩
theorem dX11_days_51 : gw_dc cX11_days 51 (.iconst 2) 1 52 := ⟨by decide +kernel, rfl⟩
theorem dX11_days_25 : gw_dc cX11_days 25 (.iload_n 3) 1 26 := ⟨by decide +kernel, rfl⟩
theorem dX11_days_26 : gw_dc cX11_days 26 (.iload 4) 2 28 := ⟨by decide +kernel, rfl⟩
theorem dX11_days_28 : gw_dc cX11_days 28 (.invokestatic 412) 3 31 := ⟨by decide +kernel, rfl⟩
theorem dX11_days_31 : gw_dc cX11_days 31 (.ifCond .eq 20) 3 34 := ⟨by decide +kernel, rfl⟩
theorem dX11_days_34 : gw_dc cX11_days 34 (.iload 5) 2 36 := ⟨by decide +kernel, rfl⟩
theorem dX11_days_36 : gw_dc cX11_days 36 (.i2l) 1 37 := ⟨by decide +kernel, rfl⟩
theorem dX11_days_37 : gw_dc cX11_days 37 (.lconst 0) 1 38 := ⟨by decide +kernel, rfl⟩
theorem dX11_days_38 : gw_dc cX11_days 38 (.ldc2_w 398) 3 41 := ⟨by decide +kernel, rfl⟩
theorem dX11_days_41 : gw_dc cX11_days 41 (.invokestatic 147) 3 44 := ⟨by decide +kernel, rfl⟩
theorem dX11_days_44 : gw_dc cX11_days 44 (.ifCond .eq 7) 3 47 := ⟨by decide +kernel, rfl⟩
theorem dX11_days_47 : gw_dc cX11_days 47 (.iconst 0) 1 48 := ⟨by decide +kernel, rfl⟩
theorem dX11_days_48 : gw_dc cX11_days 48 (.goto 4) 3 51 := ⟨by decide +kernel, rfl⟩
theorem dX11_days_9 : gw_dc cX11_days 9 (.iconst 1) 1 10 := ⟨by decide +kernel, rfl⟩
theorem dX11_days_10 : gw_dc cX11_days 10 (.goto 42) 3 13 := ⟨by decide +kernel, rfl⟩
/-! The model, 21: when, with whom, by what, days, walked -/
theorem dyA_668 {x : Sg} (h : 0 ≤ x 224 4 ∧ x 224 4 < 60) (minute pounds : Int) : dyA (x 224 4) minute pounds x 224 668 = x 224 668 := by
  obtain ⟨n, hn⟩ : ∃ n : Nat, x 224 4 = ((n : Nat) : Int) := ⟨(x 224 4).toNat, by omega⟩
  rw [hn, dyA_at (by omega) hn]
  (repeat rw [if_neg (by omega)])
theorem nDrX_j (x : Sg) (j : Nat) : nDrX x 224 j = x 224 j := rfl
theorem dyA_669 {x : Sg} (h : 0 ≤ x 224 4 ∧ x 224 4 < 60) (minute pounds : Int) : dyA (x 224 4) minute pounds (nDrX (nDrX x)) 224 668 = x 224 668 := dyA_668 (x := nDrX (nDrX x)) h minute pounds
set_option maxRecDepth 4000 in
theorem s_X11_when (ad : Nat → Nat) (σ : Sg)  (s : Int) (w : Int) (N : Nat) (hN : N = 601) (hT : TW (σ 224)) : gw_Sp yX11_when cX11_when 8 (some .int) 7 0 0 [vR (some 223), vI s, vI w] (gw_M0 ad) σ (gw_D (some (vI (nWhn σ s w N).1)) (gw_M0 ad) ((nWhn σ s w N).2)) gw_no := by
  refine gw_Sp.of [some (vR (some 223)), some (vI s), some (vI w), none, none, none, none, none] (by decide +kernel) rfl (Nat.le_of_ble_eq_true rfl) ?_
  intro X G fx het hnm
  have j28 : gw_W X (yX11_when.cls, cX11_when, 8, (some .int), 7, 0, 0) G (gw_Z X G (gw_M0 ad) σ (gw_D (some (vI (nWhn σ s w N).1)) (gw_M0 ad) ((nWhn σ s w N).2)) gw_no 0 0) 0 0 (gw_M0 ad) (σ) 28 [some (vR (some 223)), some (vI s), some (vI w), none, none, none, none, none] [vI (whV σ s w), vR (some 223)] := by
    refine g_puti fx dX11_when_28 fk_RX11_88 o_223 ?_
    refine gw_cg (σ' := nThr σ (whV σ s w)) rfl rfl ?_
    refine g_aload_n fx dX11_when_31 rfl ?_
    refine g_geti fx dX11_when_32 fk_RX11_88 (by decide) o_223 ?_
    refine gw_cgt rfl (show nThr σ (whV σ s w) 223 5 = whV σ s w from su_same _ _ _ _) ?_
    refine g_if_le (tgt := 40) fx dX11_when_35 (by decide) (fun h35 => ?_) (fun h35 => ?_)
    · have hs := whV_0 hT h35
      have hS := hT.sacks
      refine g_aload_n fx dX11_when_40 rfl ?_
      refine g_iload_n fx dX11_when_41 rfl ?_
      refine g_iconst fx dX11_when_42 (by unfold okI; omega) ?_
      refine g_callVD fx dX11_when_43 mv_RX11_242 my_X11_of (s_X11_of ad _ _ _ (by omega)) o_223 rfl rfl rfl (Nat.le_of_ble_eq_true rfl) (by decide) (by decide) ?_
      refine g_istore_n fx dX11_when_46 (by decide) rfl rfl ?_
      refine g_iconst fx dX11_when_47 (by unfold okI; omega) ?_
      refine g_istore fx dX11_when_48 (by decide) rfl rfl ?_
      refine g_iconst fx dX11_when_50 (by unfold okI; omega) ?_
      refine g_istore fx dX11_when_51 (by decide) rfl rfl ?_
      refine g_iconst fx dX11_when_53 (by unfold okI; omega) ?_
      refine g_istore fx dX11_when_54 (by decide) rfl rfl ?_
      refine g_iconst fx dX11_when_56 (by unfold okI; omega) ?_
      refine g_istore fx dX11_when_57 (by decide) rfl rfl ?_
      have loop59 : ∀ k : Nat, k ≤ N → gw_W X (yX11_when.cls, cX11_when, 8, (some .int), 7, 0, 0) G (gw_Z X G (gw_M0 ad) σ (gw_D (some (vI (nWhn σ s w N).1)) (gw_M0 ad) ((nWhn σ s w N).2)) gw_no 0 0) 0 0 (gw_M0 ad) ((whL (nThr σ (whV σ s w)) s k).2.2.2) 59 [some (vR (some 223)), some (vI s), some (vI w), some (vI (nOf (nThr σ (whV σ s w)) s 2)), some (vI (whL (nThr σ (whV σ s w)) s k).1), some (vI (whL (nThr σ (whV σ s w)) s k).2.1), some (vI (whL (nThr σ (whV σ s w)) s k).2.2.1), some (vI (k : Nat))] [] := by
        refine up_ind _ _ (fun k hk ih => ?_)
        obtain ⟨t1, t4⟩ := whL_kp (σ := (nThr σ (whV σ s w))) hT hs k (by omega)
        change (whL (nThr σ (whV σ s w)) s k).2.2.2 224 4 = σ 224 4 at t4
        refine g_iload fx dX11_when_59 rfl ?_
        refine g_sipush fx dX11_when_61 (by decide) ?_
        refine g_icmp_gt (tgt := 127) fx dX11_when_64 (by decide) (fun h64 => ?_) (fun h64 => ?_)
        · obtain rfl : k = N := by omega
          refine g_aload_n fx dX11_when_127 rfl ?_
          refine g_iload_n fx dX11_when_128 rfl ?_
          refine g_iconst fx dX11_when_129 (by unfold okI; omega) ?_
          refine g_iload_n fx dX11_when_130 rfl ?_
          refine g_callVD0 fx dX11_when_131 mv_RX11_252 my_X11_sets (s_X11_sets ad _ _ _ _ (by omega)) o_223 rfl rfl rfl (Nat.le_of_ble_eq_true rfl) (by decide) (by decide) ?_
          refine g_iload_n fx dX11_when_134 rfl ?_
          refine g_if_ne (tgt := 143) fx dX11_when_135 (by decide) (fun h135 => ?_) (fun h135 => ?_)
          · refine g_iload fx dX11_when_143 rfl ?_
            exact g_iret fx rfl dX11_when_145 (by decide) (by decide) (gw_le.rf _) ⟨by rw [nWhn, if_neg (by omega), nWhnA]; (repeat first | rw [if_pos (by omega)] | rw [if_neg (by omega)]) <;> rfl, rfl, by rw [nWhn, if_neg (by omega), nWhnA] <;> rfl⟩
          · refine g_iload fx dX11_when_138 rfl ?_
            refine g_goto (tgt := 145) fx dX11_when_140 (by decide) ?_
            exact g_iret fx rfl dX11_when_145 (by decide) (by decide) (gw_le.rf _) ⟨by rw [nWhn, if_neg (by omega), nWhnA]; (repeat first | rw [if_pos (by omega)] | rw [if_neg (by omega)]) <;> rfl, rfl, by rw [nWhn, if_neg (by omega), nWhnA] <;> rfl⟩
        · have ts := TW_sets t1 (s := s) (w := 2) (v := ((k : Nat) : Int)) hs.1 (by omega) (by omega)
          have hz := whZ_kp t1 (s := s) (by omega) (m := k) (by omega)
          have hzS := hz.1.sacks
          have hzP := hz.1.p60
          refine g_aload_n fx dX11_when_67 rfl ?_
          refine g_iload_n fx dX11_when_68 rfl ?_
          refine g_iconst fx dX11_when_69 (by unfold okI; omega) ?_
          refine g_iload fx dX11_when_70 rfl ?_
          refine g_callVD0 fx dX11_when_72 mv_RX11_252 my_X11_sets (s_X11_sets ad _ _ _ _ (by omega)) o_223 rfl rfl rfl (Nat.le_of_ble_eq_true rfl) (by decide) (by decide) ?_
          refine g_aload_n fx dX11_when_75 rfl ?_
          refine g_callVD0 fx dX11_when_76 mv_RX11_323 my_X11_runs (s_X11_runs ad _ ts.1) o_223 rfl rfl rfl (Nat.le_of_ble_eq_true rfl) (by decide) (by decide) ?_
          refine gw_cg (σ' := whZ s k (whL (nThr σ (whV σ s w)) s k).2.2.2) rfl rfl ?_
          refine g_aload_n fx dX11_when_79 rfl ?_
          refine g_iload_n fx dX11_when_80 rfl ?_
          refine g_callVD fx dX11_when_81 mv_RX11_335 my_X11_isLate (s_X11_isLate ad _ _ (by omega) (by omega)) o_223 rfl rfl rfl (Nat.le_of_ble_eq_true rfl) (by decide) (by decide) ?_
          refine g_if_ne (tgt := 91) fx dX11_when_84 (by decide) (fun h84 => ?_) (fun h84 => ?_)
          · refine g_iload fx dX11_when_91 rfl ?_
            refine g_iconst fx dX11_when_93 (by unfold okI; omega) ?_
            refine g_icmp_eq (tgt := 110) fx dX11_when_94 (by decide) (fun h94 => ?_) (fun h94 => ?_)
            · refine g_aload_n fx dX11_when_110 rfl ?_
              refine g_iload_n fx dX11_when_111 rfl ?_
              refine g_callVD fx dX11_when_112 mv_RX11_320 my_X11_waitOf (s_X11_waitOf ad _ _ (by omega) (by omega)) o_223 rfl rfl rfl (Nat.le_of_ble_eq_true rfl) (by decide) (by decide) ?_
              refine g_istore fx dX11_when_115 (by decide) rfl rfl ?_
              refine g_iload fx dX11_when_117 rfl ?_
              refine g_istore fx dX11_when_119 (by decide) rfl rfl ?_
              refine g_iinc1 fx dX11_when_121 (by decide) rfl rfl (by unfold okI; omega) rfl ?_
              refine g_goto (tgt := 59) fx dX11_when_124 (by decide) ?_
              exact gw_cg (by rw [whL_s, whS] <;> rfl) (by rw [whL_s, whS, show ((k : Nat) : Int) + 1 = ((k + 1 : Nat) : Int) by omega]; (repeat first | rw [if_pos (by omega)] | rw [if_neg (by omega)]) <;> rfl) (ih (by omega))
            · refine g_aload_n fx dX11_when_97 rfl ?_
              refine g_iload_n fx dX11_when_98 rfl ?_
              refine g_callVD fx dX11_when_99 mv_RX11_320 my_X11_waitOf (s_X11_waitOf ad _ _ (by omega) (by omega)) o_223 rfl rfl rfl (Nat.le_of_ble_eq_true rfl) (by decide) (by decide) ?_
              refine g_iload fx dX11_when_102 rfl ?_
              refine g_icmp_lt (tgt := 110) fx dX11_when_104 (by decide) (fun h104 => ?_) (fun h104 => ?_)
              · refine g_aload_n fx dX11_when_110 rfl ?_
                refine g_iload_n fx dX11_when_111 rfl ?_
                refine g_callVD fx dX11_when_112 mv_RX11_320 my_X11_waitOf (s_X11_waitOf ad _ _ (by omega) (by omega)) o_223 rfl rfl rfl (Nat.le_of_ble_eq_true rfl) (by decide) (by decide) ?_
                refine g_istore fx dX11_when_115 (by decide) rfl rfl ?_
                refine g_iload fx dX11_when_117 rfl ?_
                refine g_istore fx dX11_when_119 (by decide) rfl rfl ?_
                refine g_iinc1 fx dX11_when_121 (by decide) rfl rfl (by unfold okI; omega) rfl ?_
                refine g_goto (tgt := 59) fx dX11_when_124 (by decide) ?_
                exact gw_cg (by rw [whL_s, whS] <;> rfl) (by rw [whL_s, whS, show ((k : Nat) : Int) + 1 = ((k + 1 : Nat) : Int) by omega]; (repeat first | rw [if_pos (by omega)] | rw [if_neg (by omega)]) <;> rfl) (ih (by omega))
              · refine g_goto (tgt := 121) fx dX11_when_107 (by decide) ?_
                refine g_iinc1 fx dX11_when_121 (by decide) rfl rfl (by unfold okI; omega) rfl ?_
                refine g_goto (tgt := 59) fx dX11_when_124 (by decide) ?_
                exact gw_cg (by rw [whL_s, whS] <;> rfl) (by rw [whL_s, whS, show ((k : Nat) : Int) + 1 = ((k + 1 : Nat) : Int) by omega]; (repeat first | rw [if_pos (by omega)] | rw [if_neg (by omega)]) <;> rfl) (ih (by omega))
          · refine g_iload fx dX11_when_87 rfl ?_
            refine g_istore fx dX11_when_89 (by decide) rfl rfl ?_
            refine g_iload fx dX11_when_91 rfl ?_
            refine g_iconst fx dX11_when_93 (by unfold okI; omega) ?_
            refine g_icmp_eq (tgt := 110) fx dX11_when_94 (by decide) (fun h94 => ?_) (fun h94 => ?_)
            · refine g_aload_n fx dX11_when_110 rfl ?_
              refine g_iload_n fx dX11_when_111 rfl ?_
              refine g_callVD fx dX11_when_112 mv_RX11_320 my_X11_waitOf (s_X11_waitOf ad _ _ (by omega) (by omega)) o_223 rfl rfl rfl (Nat.le_of_ble_eq_true rfl) (by decide) (by decide) ?_
              refine g_istore fx dX11_when_115 (by decide) rfl rfl ?_
              refine g_iload fx dX11_when_117 rfl ?_
              refine g_istore fx dX11_when_119 (by decide) rfl rfl ?_
              refine g_iinc1 fx dX11_when_121 (by decide) rfl rfl (by unfold okI; omega) rfl ?_
              refine g_goto (tgt := 59) fx dX11_when_124 (by decide) ?_
              exact gw_cg (by rw [whL_s, whS] <;> rfl) (by rw [whL_s, whS, show ((k : Nat) : Int) + 1 = ((k + 1 : Nat) : Int) by omega]; (repeat first | rw [if_pos (by omega)] | rw [if_neg (by omega)]) <;> rfl) (ih (by omega))
            · refine g_aload_n fx dX11_when_97 rfl ?_
              refine g_iload_n fx dX11_when_98 rfl ?_
              refine g_callVD fx dX11_when_99 mv_RX11_320 my_X11_waitOf (s_X11_waitOf ad _ _ (by omega) (by omega)) o_223 rfl rfl rfl (Nat.le_of_ble_eq_true rfl) (by decide) (by decide) ?_
              refine g_iload fx dX11_when_102 rfl ?_
              refine g_icmp_lt (tgt := 110) fx dX11_when_104 (by decide) (fun h104 => ?_) (fun h104 => ?_)
              · refine g_aload_n fx dX11_when_110 rfl ?_
                refine g_iload_n fx dX11_when_111 rfl ?_
                refine g_callVD fx dX11_when_112 mv_RX11_320 my_X11_waitOf (s_X11_waitOf ad _ _ (by omega) (by omega)) o_223 rfl rfl rfl (Nat.le_of_ble_eq_true rfl) (by decide) (by decide) ?_
                refine g_istore fx dX11_when_115 (by decide) rfl rfl ?_
                refine g_iload fx dX11_when_117 rfl ?_
                refine g_istore fx dX11_when_119 (by decide) rfl rfl ?_
                refine g_iinc1 fx dX11_when_121 (by decide) rfl rfl (by unfold okI; omega) rfl ?_
                refine g_goto (tgt := 59) fx dX11_when_124 (by decide) ?_
                exact gw_cg (by rw [whL_s, whS] <;> rfl) (by rw [whL_s, whS, show ((k : Nat) : Int) + 1 = ((k + 1 : Nat) : Int) by omega]; (repeat first | rw [if_pos (by omega)] | rw [if_neg (by omega)]) <;> rfl) (ih (by omega))
              · refine g_goto (tgt := 121) fx dX11_when_107 (by decide) ?_
                refine g_iinc1 fx dX11_when_121 (by decide) rfl rfl (by unfold okI; omega) rfl ?_
                refine g_goto (tgt := 59) fx dX11_when_124 (by decide) ?_
                exact gw_cg (by rw [whL_s, whS] <;> rfl) (by rw [whL_s, whS, show ((k : Nat) : Int) + 1 = ((k + 1 : Nat) : Int) by omega]; (repeat first | rw [if_pos (by omega)] | rw [if_neg (by omega)]) <;> rfl) (ih (by omega))
      exact loop59 0 (Nat.zero_le _)
    · refine g_iconst fx dX11_when_38 (by unfold okI; omega) ?_
      exact g_iret fx rfl dX11_when_39 (by decide) (by decide) (gw_le.rf _) ⟨by rw [nWhn, if_pos (by omega)], rfl, by rw [nWhn, if_pos (by omega)]⟩
  refine g_aload_n fx dX11_when_0 rfl ?_
  refine g_aload_n fx dX11_when_1 rfl ?_
  refine g_iload_n fx dX11_when_2 rfl ?_
  refine g_callVD fx dX11_when_3 mv_RX11_244 my_X11_isSack (s_X11_isSack ad _ _) o_223 rfl rfl rfl (Nat.le_of_ble_eq_true rfl) (by decide) (by decide) ?_
  refine g_if_ne (tgt := 13) fx dX11_when_6 (by decide) (fun h6 => ?_) (fun h6 => ?_)
  · refine g_iload_n fx dX11_when_13 rfl ?_
    refine g_i2l fx dX11_when_14 ?_
    refine g_lconst0 fx dX11_when_15 ?_
    refine g_lconst1 fx dX11_when_16 ?_
    refine g_callSD fx dX11_when_17 ms_RX11_147 my_X11_within (s_X11_within ad _ _ _ _) rfl rfl (Nat.le_of_ble_eq_true rfl) (by decide) (by decide) ?_
    refine g_if_eq (tgt := 27) fx dX11_when_20 (by decide) (fun h20 => ?_) (fun h20 => ?_)
    · refine g_iconst fx dX11_when_27 (by unfold okI; omega) ?_
      exact gw_cgt rfl (by rw [whV]; (repeat first | rw [if_pos (by omega)] | rw [if_neg (by omega)]) <;> rfl) j28
    · refine g_iconst fx dX11_when_23 (by unfold okI; omega) ?_
      refine g_goto (tgt := 28) fx dX11_when_24 (by decide) ?_
      exact gw_cgt rfl (by rw [whV]; (repeat first | rw [if_pos (by omega)] | rw [if_neg (by omega)]) <;> rfl) j28
  · refine g_iconst fx dX11_when_9 (by unfold okI; omega) ?_
    refine g_goto (tgt := 28) fx dX11_when_10 (by decide) ?_
    exact gw_cgt rfl (by rw [whV]; (repeat first | rw [if_pos (by omega)] | rw [if_neg (by omega)]) <;> rfl) j28
set_option maxRecDepth 4000 in
theorem s_X11_heaviest (ad : Nat → Nat) (σ : Sg)  (s : Int) (N : Nat) (hN : N = 99) (hT : TW (σ 224)) : gw_Sp yX11_heaviest cX11_heaviest 4 (some .int) 7 0 0 [vR (some 223), vI s] (gw_M0 ad) σ (gw_D (some (vI (nHv σ s N).1)) (gw_M0 ad) ((nHv σ s N).2)) gw_no := by
  refine gw_Sp.of [some (vR (some 223)), some (vI s), none, none] (by decide +kernel) rfl (Nat.le_of_ble_eq_true rfl) ?_
  intro X G fx het hnm
  have j14 : gw_W X (yX11_heaviest.cls, cX11_heaviest, 4, (some .int), 7, 0, 0) G (gw_Z X G (gw_M0 ad) σ (gw_D (some (vI (nHv σ s N).1)) (gw_M0 ad) ((nHv σ s N).2)) gw_no 0 0) 0 0 (gw_M0 ad) (σ) 14 [some (vR (some 223)), some (vI s), none, none] [vI (hvV σ s), vR (some 223)] := by
    refine g_puti fx dX11_heaviest_14 fk_RX11_88 o_223 ?_
    refine gw_cg (σ' := nThr σ (hvV σ s)) rfl rfl ?_
    refine g_aload_n fx dX11_heaviest_17 rfl ?_
    refine g_geti fx dX11_heaviest_18 fk_RX11_88 (by decide) o_223 ?_
    refine gw_cgt rfl (show nThr σ (hvV σ s) 223 5 = hvV σ s from su_same _ _ _ _) ?_
    refine g_if_le (tgt := 26) fx dX11_heaviest_21 (by decide) (fun h21 => ?_) (fun h21 => ?_)
    · have hs := hvV_0 hT h21
      have hS := hT.sacks
      have hT1 : TW ((nCp (nThr σ (hvV σ s)) 224 226) 224) := TW_cp (x := (nThr σ (hvV σ s))) hT (by decide) (by decide)
      have e41 : (nCp (nThr σ (hvV σ s)) 224 226) 224 4 = σ 224 4 := by rw [nCp_ne _ (by decide) (by decide)]; rfl
      refine g_aload_n fx dX11_heaviest_26 rfl ?_
      refine g_getr fx dX11_heaviest_27 fk_RX11_9 o_223 rf_223_0 ?_
      refine g_aload_n fx dX11_heaviest_30 rfl ?_
      refine g_getr fx dX11_heaviest_31 fk_RX11_16 o_223 rf_223_2 ?_
      refine g_callSD0 fx dX11_heaviest_34 ms_RX11_204 my_X11_copies (s_X11_copies ad _ (by decide) (by decide)) rfl rfl (Nat.le_of_ble_eq_true rfl) (by decide) (by decide) ?_
      refine g_iconst fx dX11_heaviest_37 (by unfold okI; omega) ?_
      refine g_istore_n fx dX11_heaviest_38 (by decide) rfl rfl ?_
      refine g_iconst fx dX11_heaviest_39 (by unfold okI; omega) ?_
      refine g_istore_n fx dX11_heaviest_40 (by decide) rfl rfl ?_
      have loop41 : ∀ k : Nat, k ≤ N → gw_W X (yX11_heaviest.cls, cX11_heaviest, 4, (some .int), 7, 0, 0) G (gw_Z X G (gw_M0 ad) σ (gw_D (some (vI (nHv σ s N).1)) (gw_M0 ad) ((nHv σ s N).2)) gw_no 0 0) 0 0 (gw_M0 ad) ((hvL (nCp (nThr σ (hvV σ s)) 224 226) s k).2) 41 [some (vR (some 223)), some (vI s), some (vI (hvL (nCp (nThr σ (hvV σ s)) 224 226) s k).1), some (vI (((k : Nat) : Int) + 1))] [] := by
        refine up_ind _ _ (fun k hk ih => ?_)
        obtain ⟨t1, t4⟩ := hvL_kp hT1 (s := s) (by omega) k (by omega)
        rw [e41] at t4
        refine g_iload_n fx dX11_heaviest_41 rfl ?_
        refine g_bipush fx dX11_heaviest_42 (by decide) ?_
        refine g_icmp_gt (tgt := 83) fx dX11_heaviest_44 (by decide) (fun h44 => ?_) (fun h44 => ?_)
        · obtain rfl : k = N := by omega
          refine g_aload_n fx dX11_heaviest_83 rfl ?_
          refine g_getr fx dX11_heaviest_84 fk_RX11_16 o_223 rf_223_2 ?_
          refine g_aload_n fx dX11_heaviest_87 rfl ?_
          refine g_getr fx dX11_heaviest_88 fk_RX11_9 o_223 rf_223_0 ?_
          refine g_callSD0 fx dX11_heaviest_91 ms_RX11_204 my_X11_copies (s_X11_copies ad _ (by decide) (by decide)) rfl rfl (Nat.le_of_ble_eq_true rfl) (by decide) (by decide) ?_
          refine g_iload_n fx dX11_heaviest_94 rfl ?_
          exact g_iret fx rfl dX11_heaviest_95 (by decide) (by decide) (gw_le.rf _) ⟨by rw [nHv, if_neg (by omega), nHvA], rfl, by rw [nHv, if_neg (by omega), nHvA]⟩
        · have ts := TW_sets t1 (s := s) (w := 0) (v := ((k : Nat) : Int) + 1) hs.1 (by omega) (by omega)
          have hy := hvY_kp t1 (s := s) (by omega) (i := k) (by omega)
          have hzr := TW_ru hy.1
          have hzS := hzr.sacks
          have hzP := hzr.p60
          refine g_aload_n fx dX11_heaviest_47 rfl ?_
          refine g_iload_n fx dX11_heaviest_48 rfl ?_
          refine g_iconst fx dX11_heaviest_49 (by unfold okI; omega) ?_
          refine g_iload_n fx dX11_heaviest_50 rfl ?_
          refine g_callVD0 fx dX11_heaviest_51 mv_RX11_252 my_X11_sets (s_X11_sets ad _ _ _ _ (by omega)) o_223 rfl rfl rfl (Nat.le_of_ble_eq_true rfl) (by decide) (by decide) ?_
          refine g_aload_n fx dX11_heaviest_54 rfl ?_
          refine g_iload_n fx dX11_heaviest_55 rfl ?_
          refine g_callVD0 fx dX11_heaviest_56 mv_RX11_265 my_X11_wholly (s_X11_wholly ad _ _ ts.1 (by omega)) o_223 rfl rfl rfl (Nat.le_of_ble_eq_true rfl) (by decide) (by decide) ?_
          refine g_aload_n fx dX11_heaviest_59 rfl ?_
          refine g_callVD0 fx dX11_heaviest_60 mv_RX11_323 my_X11_runs (s_X11_runs ad _ hy.1) o_223 rfl rfl rfl (Nat.le_of_ble_eq_true rfl) (by decide) (by decide) ?_
          refine gw_cg (σ' := hvZ s k (hvL (nCp (nThr σ (hvV σ s)) 224 226) s k).2) rfl rfl ?_
          change TW (hvZ s k (hvL (nCp (nThr σ (hvV σ s)) 224 226) s k).2 224) at hzr
          change 0 ≤ hvZ s k (hvL (nCp (nThr σ (hvV σ s)) 224 226) s k).2 224 4 ∧ hvZ s k (hvL (nCp (nThr σ (hvV σ s)) 224 226) s k).2 224 4 ≤ 60 at hzS
          change hvZ s k (hvL (nCp (nThr σ (hvV σ s)) 224 226) s k).2 224 668 ≤ 60 at hzP
          refine g_aload_n fx dX11_heaviest_63 rfl ?_
          refine g_iload_n fx dX11_heaviest_64 rfl ?_
          refine g_callVD fx dX11_heaviest_65 mv_RX11_335 my_X11_isLate (s_X11_isLate ad _ _ (by omega) (by omega)) o_223 rfl rfl rfl (Nat.le_of_ble_eq_true rfl) (by decide) (by decide) ?_
          refine g_if_eq (tgt := 75) fx dX11_heaviest_68 (by decide) (fun h68 => ?_) (fun h68 => ?_)
          · refine g_iload_n fx dX11_heaviest_75 rfl ?_
            refine g_istore_n fx dX11_heaviest_76 (by decide) rfl rfl ?_
            refine g_iinc1 fx dX11_heaviest_77 (by decide) rfl rfl (by unfold okI; omega) rfl ?_
            refine g_goto (tgt := 41) fx dX11_heaviest_80 (by decide) ?_
            exact gw_cg (by rw [hvL_s, hvS] <;> rfl) (by rw [hvL_s, hvS, show ((k : Nat) : Int) + 1 + 1 = ((k + 1 : Nat) : Int) + 1 by omega]; (repeat first | rw [if_pos (by omega)] | rw [if_neg (by omega)]) <;> rfl) (ih (by omega))
          · refine g_iload_n fx dX11_heaviest_71 rfl ?_
            refine g_goto (tgt := 76) fx dX11_heaviest_72 (by decide) ?_
            refine g_istore_n fx dX11_heaviest_76 (by decide) rfl rfl ?_
            refine g_iinc1 fx dX11_heaviest_77 (by decide) rfl rfl (by unfold okI; omega) rfl ?_
            refine g_goto (tgt := 41) fx dX11_heaviest_80 (by decide) ?_
            exact gw_cg (by rw [hvL_s, hvS] <;> rfl) (by rw [hvL_s, hvS, show ((k : Nat) : Int) + 1 + 1 = ((k + 1 : Nat) : Int) + 1 by omega]; (repeat first | rw [if_pos (by omega)] | rw [if_neg (by omega)]) <;> rfl) (ih (by omega))
      exact loop41 0 (Nat.zero_le _)
    · refine g_iconst fx dX11_heaviest_24 (by unfold okI; omega) ?_
      exact g_iret fx rfl dX11_heaviest_25 (by decide) (by decide) (gw_le.rf _) ⟨by rw [nHv, if_pos (by omega)], rfl, by rw [nHv, if_pos (by omega)]⟩
  refine g_aload_n fx dX11_heaviest_0 rfl ?_
  refine g_aload_n fx dX11_heaviest_1 rfl ?_
  refine g_iload_n fx dX11_heaviest_2 rfl ?_
  refine g_callVD fx dX11_heaviest_3 mv_RX11_244 my_X11_isSack (s_X11_isSack ad _ _) o_223 rfl rfl rfl (Nat.le_of_ble_eq_true rfl) (by decide) (by decide) ?_
  refine g_if_eq (tgt := 13) fx dX11_heaviest_6 (by decide) (fun h6 => ?_) (fun h6 => ?_)
  · refine g_iconst fx dX11_heaviest_13 (by unfold okI; omega) ?_
    exact gw_cgt rfl (by rw [hvV]; (repeat first | rw [if_pos (by omega)] | rw [if_neg (by omega)]) <;> rfl) j14
  · refine g_iconst fx dX11_heaviest_9 (by unfold okI; omega) ?_
    refine g_goto (tgt := 14) fx dX11_heaviest_10 (by decide) ?_
    exact gw_cgt rfl (by rw [hvV]; (repeat first | rw [if_pos (by omega)] | rw [if_neg (by omega)]) <;> rfl) j14
set_option maxRecDepth 4000 in
theorem s_X11_lend (ad : Nat → Nat) (σ : Sg)  (s : Int) (t : Int) (n : Int) (hT : TW (σ 224)) : gw_Sp yX11_lend cX11_lend 6 (some .int) 8 0 0 [vR (some 223), vI s, vI t, vI n] (gw_M0 ad) σ (gw_D (some (vI (nLd σ s t n).1)) (gw_M0 ad) ((nLd σ s t n).2)) gw_no := by
  refine gw_Sp.of [some (vR (some 223)), some (vI s), some (vI t), some (vI n), none, none] (by decide +kernel) rfl (Nat.le_of_ble_eq_true rfl) ?_
  intro X G fx het hnm
  have hS := hT.sacks
  refine g_aload_n fx dX11_lend_0 rfl ?_
  refine g_iconst fx dX11_lend_1 (by unfold okI; omega) ?_
  refine g_puti fx dX11_lend_2 fk_RX11_88 o_223 ?_
  refine gw_cg (σ' := nT0 σ) rfl rfl ?_
  refine g_aload_n fx dX11_lend_5 rfl ?_
  refine g_iload_n fx dX11_lend_6 rfl ?_
  refine g_callVD fx dX11_lend_7 mv_RX11_244 my_X11_isSack (s_X11_isSack ad _ _) o_223 rfl rfl rfl (Nat.le_of_ble_eq_true rfl) (by decide) (by decide) ?_
  refine g_if_eq (tgt := 21) fx dX11_lend_10 (by decide) (fun h10 => ?_) (fun h10 => ?_)
  · refine g_aload_n fx dX11_lend_21 rfl ?_
    refine g_iconst fx dX11_lend_22 (by unfold okI; omega) ?_
    refine g_callVD fx dX11_lend_23 mv_RX11_191 my_X11_fails (s_X11_fails ad _ _) o_223 rfl rfl rfl (Nat.le_of_ble_eq_true rfl) (by decide) (by decide) ?_
    exact g_iret fx rfl dX11_lend_26 (by decide) (by decide) (gw_le.rf _) ⟨by first | (exfalso; omega) | (rw [nLd]; (repeat first | rw [if_pos (by omega)] | rw [if_neg (by omega)]) <;> rfl), rfl, by first | (exfalso; omega) | (rw [nLd]; (repeat first | rw [if_pos (by omega)] | rw [if_neg (by omega)]) <;> rfl)⟩
  · refine g_aload_n fx dX11_lend_13 rfl ?_
    refine g_iload_n fx dX11_lend_14 rfl ?_
    refine g_callVD fx dX11_lend_15 mv_RX11_244 my_X11_isSack (s_X11_isSack ad _ _) o_223 rfl rfl rfl (Nat.le_of_ble_eq_true rfl) (by decide) (by decide) ?_
    refine g_if_ne (tgt := 27) fx dX11_lend_18 (by decide) (fun h18 => ?_) (fun h18 => ?_)
    · have hs : 0 ≤ s ∧ s < σ 224 4 := (isS_1 (σ := nT0 σ) hT (s := s)).mp (by assumption)
      have ht : 0 ≤ t ∧ t < σ 224 4 := (isS_1 (σ := nT0 σ) hT (s := t)).mp (by assumption)
      have b1 := (show TW ((nT0 σ) 224) from hT).of (σ := nT0 σ) hs.1 hs.2
      have b2 := (show TW ((nT0 σ) 224) from hT).of (σ := nT0 σ) ht.1 ht.2
      refine g_aload_n fx dX11_lend_27 rfl ?_
      refine g_iload_n fx dX11_lend_28 rfl ?_
      refine g_bipush fx dX11_lend_29 (by decide) ?_
      refine g_callVD fx dX11_lend_31 mv_RX11_242 my_X11_of (s_X11_of ad _ _ _ (by omega)) o_223 rfl rfl rfl (Nat.le_of_ble_eq_true rfl) (by decide) (by decide) ?_
      refine g_iconst fx dX11_lend_34 (by unfold okI; omega) ?_
      refine g_icmp_gt (tgt := 49) fx dX11_lend_35 (by decide) (fun h35 => ?_) (fun h35 => ?_)
      · refine g_aload_n fx dX11_lend_49 rfl ?_
        refine g_iconst fx dX11_lend_50 (by unfold okI; omega) ?_
        refine g_callVD fx dX11_lend_51 mv_RX11_191 my_X11_fails (s_X11_fails ad _ _) o_223 rfl rfl rfl (Nat.le_of_ble_eq_true rfl) (by decide) (by decide) ?_
        exact g_iret fx rfl dX11_lend_54 (by decide) (by decide) (gw_le.rf _) ⟨by first | (exfalso; omega) | (rw [nLd]; (repeat first | rw [if_pos (by omega)] | rw [if_neg (by omega)]) <;> rfl), rfl, by first | (exfalso; omega) | (rw [nLd]; (repeat first | rw [if_pos (by omega)] | rw [if_neg (by omega)]) <;> rfl)⟩
      · refine g_aload_n fx dX11_lend_38 rfl ?_
        refine g_iload_n fx dX11_lend_39 rfl ?_
        refine g_bipush fx dX11_lend_40 (by decide) ?_
        refine g_callVD fx dX11_lend_42 mv_RX11_242 my_X11_of (s_X11_of ad _ _ _ (by omega)) o_223 rfl rfl rfl (Nat.le_of_ble_eq_true rfl) (by decide) (by decide) ?_
        refine g_iconst fx dX11_lend_45 (by unfold okI; omega) ?_
        refine g_icmp_le (tgt := 55) fx dX11_lend_46 (by decide) (fun h46 => ?_) (fun h46 => ?_)
        · refine g_iload_n fx dX11_lend_55 rfl ?_
          refine g_iload_n fx dX11_lend_56 rfl ?_
          refine g_icmp_eq (tgt := 88) fx dX11_lend_57 (by decide) (fun h57 => ?_) (fun h57 => ?_)
          · refine g_aload_n fx dX11_lend_88 rfl ?_
            refine g_iconst fx dX11_lend_89 (by unfold okI; omega) ?_
            refine g_callVD fx dX11_lend_90 mv_RX11_191 my_X11_fails (s_X11_fails ad _ _) o_223 rfl rfl rfl (Nat.le_of_ble_eq_true rfl) (by decide) (by decide) ?_
            exact g_iret fx rfl dX11_lend_93 (by decide) (by decide) (gw_le.rf _) ⟨by first | (exfalso; omega) | (rw [nLd]; (repeat first | rw [if_pos (by omega)] | rw [if_neg (by omega)]) <;> rfl), rfl, by first | (exfalso; omega) | (rw [nLd]; (repeat first | rw [if_pos (by omega)] | rw [if_neg (by omega)]) <;> rfl)⟩
          · refine g_iload_n fx dX11_lend_60 rfl ?_
            refine g_iconst fx dX11_lend_61 (by unfold okI; omega) ?_
            refine g_icmp_lt (tgt := 88) fx dX11_lend_62 (by decide) (fun h62 => ?_) (fun h62 => ?_)
            · refine g_aload_n fx dX11_lend_88 rfl ?_
              refine g_iconst fx dX11_lend_89 (by unfold okI; omega) ?_
              refine g_callVD fx dX11_lend_90 mv_RX11_191 my_X11_fails (s_X11_fails ad _ _) o_223 rfl rfl rfl (Nat.le_of_ble_eq_true rfl) (by decide) (by decide) ?_
              exact g_iret fx rfl dX11_lend_93 (by decide) (by decide) (gw_le.rf _) ⟨by first | (exfalso; omega) | (rw [nLd]; (repeat first | rw [if_pos (by omega)] | rw [if_neg (by omega)]) <;> rfl), rfl, by first | (exfalso; omega) | (rw [nLd]; (repeat first | rw [if_pos (by omega)] | rw [if_neg (by omega)]) <;> rfl)⟩
            · refine g_iload_n fx dX11_lend_65 rfl ?_
              refine g_aload_n fx dX11_lend_66 rfl ?_
              refine g_iload_n fx dX11_lend_67 rfl ?_
              refine g_iconst fx dX11_lend_68 (by unfold okI; omega) ?_
              refine g_callVD fx dX11_lend_69 mv_RX11_242 my_X11_of (s_X11_of ad _ _ _ (by omega)) o_223 rfl rfl rfl (Nat.le_of_ble_eq_true rfl) (by decide) (by decide) ?_
              refine g_icmp_ge (tgt := 88) fx dX11_lend_72 (by decide) (fun h72 => ?_) (fun h72 => ?_)
              · refine g_aload_n fx dX11_lend_88 rfl ?_
                refine g_iconst fx dX11_lend_89 (by unfold okI; omega) ?_
                refine g_callVD fx dX11_lend_90 mv_RX11_191 my_X11_fails (s_X11_fails ad _ _) o_223 rfl rfl rfl (Nat.le_of_ble_eq_true rfl) (by decide) (by decide) ?_
                exact g_iret fx rfl dX11_lend_93 (by decide) (by decide) (gw_le.rf _) ⟨by first | (exfalso; omega) | (rw [nLd]; (repeat first | rw [if_pos (by omega)] | rw [if_neg (by omega)]) <;> rfl), rfl, by first | (exfalso; omega) | (rw [nLd]; (repeat first | rw [if_pos (by omega)] | rw [if_neg (by omega)]) <;> rfl)⟩
              · refine g_aload_n fx dX11_lend_75 rfl ?_
                refine g_iload_n fx dX11_lend_76 rfl ?_
                refine g_iconst fx dX11_lend_77 (by unfold okI; omega) ?_
                refine g_callVD fx dX11_lend_78 mv_RX11_242 my_X11_of (s_X11_of ad _ _ _ (by omega)) o_223 rfl rfl rfl (Nat.le_of_ble_eq_true rfl) (by decide) (by decide) ?_
                refine g_iload_n fx dX11_lend_81 rfl ?_
                refine g_iadd1 fx dX11_lend_82 (by unfold okI; omega) ?_
                refine g_bipush fx dX11_lend_83 (by decide) ?_
                refine g_icmp_le (tgt := 94) fx dX11_lend_85 (by decide) (fun h85 => ?_) (fun h85 => ?_)
                · obtain ⟨⟨c3, c3b⟩, ⟨c4, c4b⟩, ⟨c5, c5b⟩, ⟨c6, c6b⟩, c7⟩ := ld_kp (x := nT0 σ) hT (s := s) (t := t) (n := n) hs ht (by omega) (by omega)
                  have c1 := ld1_224 (x := nT0 σ) hT
                  change ld4 (nT0 σ) s t n 224 4 = σ 224 4 at c4b
                  change nWy (ld4 (nT0 σ) s t n) s 224 4 = σ 224 4 at c5b
                  refine g_aload_n fx dX11_lend_94 rfl ?_
                  refine g_callVD fx dX11_lend_95 mv_RX11_358 my_X11_costOfRun (s_X11_costOfRun ad _ (show TW ((nT0 σ) 224) from hT)) o_223 rfl rfl rfl (Nat.le_of_ble_eq_true rfl) (by decide) (by decide) ?_
                  refine g_istore fx dX11_lend_98 (by decide) rfl rfl ?_
                  refine g_aload_n fx dX11_lend_100 rfl ?_
                  refine g_getr fx dX11_lend_101 fk_RX11_9 o_223 rf_223_0 ?_
                  refine g_aload_n fx dX11_lend_104 rfl ?_
                  refine g_getr fx dX11_lend_105 fk_RX11_16 o_223 rf_223_2 ?_
                  refine g_callSD0 fx dX11_lend_108 ms_RX11_204 my_X11_copies (s_X11_copies ad _ (by decide) (by decide)) rfl rfl (Nat.le_of_ble_eq_true rfl) (by decide) (by decide) ?_
                  refine gw_cg (σ' := ld1 (nT0 σ)) rfl rfl ?_
                  refine g_aload_n fx dX11_lend_111 rfl ?_
                  refine g_iload_n fx dX11_lend_112 rfl ?_
                  refine g_iconst fx dX11_lend_113 (by unfold okI; omega) ?_
                  refine g_aload_n fx dX11_lend_114 rfl ?_
                  refine g_iload_n fx dX11_lend_115 rfl ?_
                  refine g_iconst fx dX11_lend_116 (by unfold okI; omega) ?_
                  refine g_callVD fx dX11_lend_117 mv_RX11_242 my_X11_of (s_X11_of ad _ _ _ (by omega)) o_223 rfl rfl rfl (Nat.le_of_ble_eq_true rfl) (by decide) (by decide) ?_
                  refine gw_cgt rfl (nOf_of c1 s 0) ?_
                  refine g_iload_n fx dX11_lend_120 rfl ?_
                  refine g_isub1 fx dX11_lend_121 (by unfold okI; omega) ?_
                  refine g_callVD0 fx dX11_lend_122 mv_RX11_252 my_X11_sets (s_X11_sets ad _ _ _ _ (by omega)) o_223 rfl rfl rfl (Nat.le_of_ble_eq_true rfl) (by decide) (by decide) ?_
                  refine gw_cg (σ' := ld3 (nT0 σ) s n) rfl rfl ?_
                  refine g_aload_n fx dX11_lend_125 rfl ?_
                  refine g_iload_n fx dX11_lend_126 rfl ?_
                  refine g_iconst fx dX11_lend_127 (by unfold okI; omega) ?_
                  refine g_aload_n fx dX11_lend_128 rfl ?_
                  refine g_iload_n fx dX11_lend_129 rfl ?_
                  refine g_iconst fx dX11_lend_130 (by unfold okI; omega) ?_
                  refine g_callVD fx dX11_lend_131 mv_RX11_242 my_X11_of (s_X11_of ad _ _ _ (by omega)) o_223 rfl rfl rfl (Nat.le_of_ble_eq_true rfl) (by decide) (by decide) ?_
                  refine gw_cgt rfl c7 ?_
                  refine g_iload_n fx dX11_lend_134 rfl ?_
                  refine g_iadd1 fx dX11_lend_135 (by unfold okI; omega) ?_
                  refine g_callVD0 fx dX11_lend_136 mv_RX11_252 my_X11_sets (s_X11_sets ad _ _ _ _ (by omega)) o_223 rfl rfl rfl (Nat.le_of_ble_eq_true rfl) (by decide) (by decide) ?_
                  refine gw_cg (σ' := ld4 (nT0 σ) s t n) rfl rfl ?_
                  refine g_aload_n fx dX11_lend_139 rfl ?_
                  refine g_iload_n fx dX11_lend_140 rfl ?_
                  refine g_callVD0 fx dX11_lend_141 mv_RX11_265 my_X11_wholly (s_X11_wholly ad _ _ c4 (by omega)) o_223 rfl rfl rfl (Nat.le_of_ble_eq_true rfl) (by decide) (by decide) ?_
                  refine g_aload_n fx dX11_lend_144 rfl ?_
                  refine g_iload_n fx dX11_lend_145 rfl ?_
                  refine g_callVD0 fx dX11_lend_146 mv_RX11_265 my_X11_wholly (s_X11_wholly ad _ _ c5 (by omega)) o_223 rfl rfl rfl (Nat.le_of_ble_eq_true rfl) (by decide) (by decide) ?_
                  refine gw_cg (σ' := ld6 (nT0 σ) s t n) rfl rfl ?_
                  refine g_aload_n fx dX11_lend_149 rfl ?_
                  refine g_callVD fx dX11_lend_150 mv_RX11_358 my_X11_costOfRun (s_X11_costOfRun ad _ c6) o_223 rfl rfl rfl (Nat.le_of_ble_eq_true rfl) (by decide) (by decide) ?_
                  refine g_istore fx dX11_lend_153 (by decide) rfl rfl ?_
                  refine g_aload_n fx dX11_lend_155 rfl ?_
                  refine g_getr fx dX11_lend_156 fk_RX11_16 o_223 rf_223_2 ?_
                  refine g_aload_n fx dX11_lend_159 rfl ?_
                  refine g_getr fx dX11_lend_160 fk_RX11_9 o_223 rf_223_0 ?_
                  refine g_callSD0 fx dX11_lend_163 ms_RX11_204 my_X11_copies (s_X11_copies ad _ (by decide) (by decide)) rfl rfl (Nat.le_of_ble_eq_true rfl) (by decide) (by decide) ?_
                  refine g_iload fx dX11_lend_166 rfl ?_
                  refine g_iload fx dX11_lend_168 rfl ?_
                  refine g_isub fx dX11_lend_170 ?_
                  exact g_iret fx rfl dX11_lend_171 (by decide) (by decide) (gw_le.rf _) ⟨by rw [nLd, if_neg (by omega), if_neg (by omega), if_neg (by omega), nLdA], rfl, by rw [nLd, if_neg (by omega), if_neg (by omega), if_neg (by omega), nLdA]⟩
                · refine g_aload_n fx dX11_lend_88 rfl ?_
                  refine g_iconst fx dX11_lend_89 (by unfold okI; omega) ?_
                  refine g_callVD fx dX11_lend_90 mv_RX11_191 my_X11_fails (s_X11_fails ad _ _) o_223 rfl rfl rfl (Nat.le_of_ble_eq_true rfl) (by decide) (by decide) ?_
                  exact g_iret fx rfl dX11_lend_93 (by decide) (by decide) (gw_le.rf _) ⟨by first | (exfalso; omega) | (rw [nLd]; (repeat first | rw [if_pos (by omega)] | rw [if_neg (by omega)]) <;> rfl), rfl, by first | (exfalso; omega) | (rw [nLd]; (repeat first | rw [if_pos (by omega)] | rw [if_neg (by omega)]) <;> rfl)⟩
        · refine g_aload_n fx dX11_lend_49 rfl ?_
          refine g_iconst fx dX11_lend_50 (by unfold okI; omega) ?_
          refine g_callVD fx dX11_lend_51 mv_RX11_191 my_X11_fails (s_X11_fails ad _ _) o_223 rfl rfl rfl (Nat.le_of_ble_eq_true rfl) (by decide) (by decide) ?_
          exact g_iret fx rfl dX11_lend_54 (by decide) (by decide) (gw_le.rf _) ⟨by first | (exfalso; omega) | (rw [nLd]; (repeat first | rw [if_pos (by omega)] | rw [if_neg (by omega)]) <;> rfl), rfl, by first | (exfalso; omega) | (rw [nLd]; (repeat first | rw [if_pos (by omega)] | rw [if_neg (by omega)]) <;> rfl)⟩
    · refine g_aload_n fx dX11_lend_21 rfl ?_
      refine g_iconst fx dX11_lend_22 (by unfold okI; omega) ?_
      refine g_callVD fx dX11_lend_23 mv_RX11_191 my_X11_fails (s_X11_fails ad _ _) o_223 rfl rfl rfl (Nat.le_of_ble_eq_true rfl) (by decide) (by decide) ?_
      exact g_iret fx rfl dX11_lend_26 (by decide) (by decide) (gw_le.rf _) ⟨by first | (exfalso; omega) | (rw [nLd]; (repeat first | rw [if_pos (by omega)] | rw [if_neg (by omega)]) <;> rfl), rfl, by first | (exfalso; omega) | (rw [nLd]; (repeat first | rw [if_pos (by omega)] | rw [if_neg (by omega)]) <;> rfl)⟩
set_option maxRecDepth 4000 in
theorem s_X11_costBy (ad : Nat → Nat) (σ : Sg)  (key : Int) (hT : TW (σ 224)) : gw_Sp yX11_costBy cX11_costBy 3 (some .int) 8 0 0 [vR (some 223), vI key] (gw_M0 ad) σ (gw_D (some (vI (cbV σ key))) (gw_M0 ad) (cbY σ key)) gw_no := by
  refine gw_Sp.of [some (vR (some 223)), some (vI key), none] (by decide +kernel) rfl (Nat.le_of_ble_eq_true rfl) ?_
  intro X G fx het hnm
  refine g_aload_n fx dX11_costBy_0 rfl ?_
  refine g_getr fx dX11_costBy_1 fk_RX11_9 o_223 rf_223_0 ?_
  refine g_aload_n fx dX11_costBy_4 rfl ?_
  refine g_getr fx dX11_costBy_5 fk_RX11_16 o_223 rf_223_2 ?_
  refine g_callSD0 fx dX11_costBy_8 ms_RX11_204 my_X11_copies (s_X11_copies ad _ (by decide) (by decide)) rfl rfl (Nat.le_of_ble_eq_true rfl) (by decide) (by decide) ?_
  refine g_aload_n fx dX11_costBy_11 rfl ?_
  refine g_getr fx dX11_costBy_12 fk_RX11_9 o_223 rf_223_0 ?_
  refine g_bipush fx dX11_costBy_15 (by decide) ?_
  refine g_iconst fx dX11_costBy_17 (by unfold okI; omega) ?_
  refine g_iast fx dX11_costBy_18 o_224 (by decide) (by decide) ?_
  rw [show Int.toNat 8 = 8 from rfl]
  refine g_aload_n fx dX11_costBy_19 rfl ?_
  refine g_getr fx dX11_costBy_20 fk_RX11_9 o_223 rf_223_0 ?_
  refine g_bipush fx dX11_costBy_23 (by decide) ?_
  refine g_iload_n fx dX11_costBy_25 rfl ?_
  refine g_iast fx dX11_costBy_26 o_224 (by decide) (by decide) ?_
  rw [show Int.toNat 9 = 9 from rfl]
  refine gw_cg (σ' := cb2 σ key) rfl rfl ?_
  refine g_aload_n fx dX11_costBy_27 rfl ?_
  refine g_callVD fx dX11_costBy_28 mv_RX11_358 my_X11_costOfRun (s_X11_costOfRun ad _ (TW_key hT key)) o_223 rfl rfl rfl (Nat.le_of_ble_eq_true rfl) (by decide) (by decide) ?_
  refine g_istore_n fx dX11_costBy_31 (by decide) rfl rfl ?_
  refine g_aload_n fx dX11_costBy_32 rfl ?_
  refine g_getr fx dX11_costBy_33 fk_RX11_16 o_223 rf_223_2 ?_
  refine g_aload_n fx dX11_costBy_36 rfl ?_
  refine g_getr fx dX11_costBy_37 fk_RX11_9 o_223 rf_223_0 ?_
  refine g_callSD0 fx dX11_costBy_40 ms_RX11_204 my_X11_copies (s_X11_copies ad _ (by decide) (by decide)) rfl rfl (Nat.le_of_ble_eq_true rfl) (by decide) (by decide) ?_
  refine g_iload_n fx dX11_costBy_43 rfl ?_
  exact g_iret fx rfl dX11_costBy_44 (by decide) (by decide) (gw_le.rf _) ⟨rfl, rfl, rfl⟩
set_option maxRecDepth 4000 in
theorem s_X11_by (ad : Nat → Nat) (σ : Sg)  (key : Int) (hT : TW (σ 224)) : gw_Sp yX11_by cX11_by 2 (some .int) 9 0 0 [vR (some 223), vI key] (gw_M0 ad) σ (gw_D (some (vI (nByO σ key).1)) (gw_M0 ad) ((nByO σ key).2)) gw_no := by
  refine gw_Sp.of [some (vR (some 223)), some (vI key)] (by decide +kernel) rfl (Nat.le_of_ble_eq_true rfl) ?_
  intro X G fx het hnm
  have j18 : gw_W X (yX11_by.cls, cX11_by, 2, (some .int), 9, 0, 0) G (gw_Z X G (gw_M0 ad) σ (gw_D (some (vI (nByO σ key).1)) (gw_M0 ad) ((nByO σ key).2)) gw_no 0 0) 0 0 (gw_M0 ad) (σ) 18 [some (vR (some 223)), some (vI key)] [vI (byV key), vR (some 223)] := by
    refine g_puti fx dX11_by_18 fk_RX11_88 o_223 ?_
    refine gw_cg (σ' := nThr σ (byV key)) rfl rfl ?_
    refine g_aload_n fx dX11_by_21 rfl ?_
    refine g_geti fx dX11_by_22 fk_RX11_88 (by decide) o_223 ?_
    refine gw_cgt rfl (show nThr σ (byV key) 223 5 = byV key from su_same _ _ _ _) ?_
    refine g_if_le (tgt := 32) fx dX11_by_25 (by decide) (fun h25 => ?_) (fun h25 => ?_)
    · refine g_aload_n fx dX11_by_32 rfl ?_
      refine g_iload_n fx dX11_by_33 rfl ?_
      refine g_callVD fx dX11_by_34 mv_RX11_400 my_X11_costBy (s_X11_costBy ad (nThr σ (byV key)) key hT) o_223 rfl rfl rfl (Nat.le_of_ble_eq_true rfl) (by decide) (by decide) ?_
      exact g_iret fx rfl dX11_by_37 (by decide) (by decide) (gw_le.rf _) ⟨by rw [nByO]; (repeat first | rw [if_pos (by omega)] | rw [if_neg (by omega)]) <;> rfl, rfl, by rw [nByO]; (repeat first | rw [if_pos (by omega)] | rw [if_neg (by omega)]) <;> rfl⟩
    · refine g_iconst fx dX11_by_28 (by unfold okI; omega) ?_
      refine g_goto (tgt := 37) fx dX11_by_29 (by decide) ?_
      exact g_iret fx rfl dX11_by_37 (by decide) (by decide) (gw_le.rf _) ⟨by rw [nByO]; (repeat first | rw [if_pos (by omega)] | rw [if_neg (by omega)]) <;> rfl, rfl, by rw [nByO]; (repeat first | rw [if_pos (by omega)] | rw [if_neg (by omega)]) <;> rfl⟩
  refine g_aload_n fx dX11_by_0 rfl ?_
  refine g_iload_n fx dX11_by_1 rfl ?_
  refine g_i2l fx dX11_by_2 ?_
  refine g_lconst0 fx dX11_by_3 ?_
  refine g_ldcL fx dX11_by_4 kc_RX11_247 (by unfold okJ; omega) ?_
  refine g_callSD fx dX11_by_7 ms_RX11_147 my_X11_within (s_X11_within ad _ _ _ _) rfl rfl (Nat.le_of_ble_eq_true rfl) (by decide) (by decide) ?_
  refine g_if_eq (tgt := 17) fx dX11_by_10 (by decide) (fun h10 => ?_) (fun h10 => ?_)
  · refine g_iconst fx dX11_by_17 (by unfold okI; omega) ?_
    exact gw_cgt rfl (by rw [byV]; (repeat first | rw [if_pos (by omega)] | rw [if_neg (by omega)]) <;> rfl) j18
  · refine g_iconst fx dX11_by_13 (by unfold okI; omega) ?_
    refine g_goto (tgt := 18) fx dX11_by_14 (by decide) ?_
    exact gw_cgt rfl (by rw [byV]; (repeat first | rw [if_pos (by omega)] | rw [if_neg (by omega)]) <;> rfl) j18
set_option maxRecDepth 4000 in
theorem s_X11_bestLaw (ad : Nat → Nat) (σ : Sg)  (hT : TW (σ 224)) : gw_Sp yX11_bestLaw cX11_bestLaw 3 (some .int) 9 0 0 [vR (some 223)] (gw_M0 ad) σ (gw_D (some (vI (blL (nT0 σ) 7).1)) (gw_M0 ad) ((blL (nT0 σ) 7).2)) gw_no := by
  refine gw_Sp.of [some (vR (some 223)), none, none] (by decide +kernel) rfl (Nat.le_of_ble_eq_true rfl) ?_
  intro X G fx het hnm
  refine g_aload_n fx dX11_bestLaw_0 rfl ?_
  refine g_iconst fx dX11_bestLaw_1 (by unfold okI; omega) ?_
  refine g_puti fx dX11_bestLaw_2 fk_RX11_88 o_223 ?_
  refine gw_cg (σ' := nT0 σ) rfl rfl ?_
  refine g_iconst fx dX11_bestLaw_5 (by unfold okI; omega) ?_
  refine g_istore_n fx dX11_bestLaw_6 (by decide) rfl rfl ?_
  refine g_iconst fx dX11_bestLaw_7 (by unfold okI; omega) ?_
  refine g_istore_n fx dX11_bestLaw_8 (by decide) rfl rfl ?_
  have loop9 : ∀ k : Nat, k ≤ 7 → gw_W X (yX11_bestLaw.cls, cX11_bestLaw, 3, (some .int), 9, 0, 0) G (gw_Z X G (gw_M0 ad) σ (gw_D (some (vI (blL (nT0 σ) 7).1)) (gw_M0 ad) ((blL (nT0 σ) 7).2)) gw_no 0 0) 0 0 (gw_M0 ad) ((blL (nT0 σ) k).2) 9 [some (vR (some 223)), some (vI (blL (nT0 σ) k).1), some (vI (((k : Nat) : Int) + 1))] [] := by
    refine up_ind _ _ (fun k hk ih => ?_)
    have hTk := TW_bl (σ := nT0 σ) hT k
    refine g_iload_n fx dX11_bestLaw_9 rfl ?_
    refine g_bipush fx dX11_bestLaw_10 (by decide) ?_
    refine g_icmp_ge (tgt := 40) fx dX11_bestLaw_12 (by decide) (fun h12 => ?_) (fun h12 => ?_)
    · refine g_iload_n fx dX11_bestLaw_40 rfl ?_
      exact g_iret fx rfl dX11_bestLaw_41 (by decide) (by decide) (gw_le.rf _) ⟨by rw [show (7 : Nat) = k by omega], rfl, by rw [show (7 : Nat) = k by omega]⟩
    · refine g_aload_n fx dX11_bestLaw_15 rfl ?_
      refine g_iload_n fx dX11_bestLaw_16 rfl ?_
      refine g_callVD fx dX11_bestLaw_17 mv_RX11_400 my_X11_costBy (s_X11_costBy ad _ _ hTk) o_223 rfl rfl rfl (Nat.le_of_ble_eq_true rfl) (by decide) (by decide) ?_
      refine g_aload_n fx dX11_bestLaw_20 rfl ?_
      refine g_iload_n fx dX11_bestLaw_21 rfl ?_
      refine g_callVD fx dX11_bestLaw_22 mv_RX11_400 my_X11_costBy (s_X11_costBy ad _ _ (TW_cb hTk _)) o_223 rfl rfl rfl (Nat.le_of_ble_eq_true rfl) (by decide) (by decide) ?_
      refine gw_cg (σ' := blY k (blL (nT0 σ) k)) rfl rfl ?_
      refine g_icmp_ge (tgt := 32) fx dX11_bestLaw_25 (by decide) (fun h25 => ?_) (fun h25 => ?_)
      · refine g_iload_n fx dX11_bestLaw_32 rfl ?_
        refine g_istore_n fx dX11_bestLaw_33 (by decide) rfl rfl ?_
        refine g_iinc1 fx dX11_bestLaw_34 (by decide) rfl rfl (by unfold okI; omega) rfl ?_
        refine g_goto (tgt := 9) fx dX11_bestLaw_37 (by decide) ?_
        exact gw_cg (by rw [blL_s, blS] <;> rfl) (by rw [blL_s, blS, show ((k : Nat) : Int) + 1 + 1 = ((k + 1 : Nat) : Int) + 1 by omega]; (repeat first | rw [if_pos (by omega)] | rw [if_neg (by omega)]) <;> rfl) (ih (by omega))
      · refine g_iload_n fx dX11_bestLaw_28 rfl ?_
        refine g_goto (tgt := 33) fx dX11_bestLaw_29 (by decide) ?_
        refine g_istore_n fx dX11_bestLaw_33 (by decide) rfl rfl ?_
        refine g_iinc1 fx dX11_bestLaw_34 (by decide) rfl rfl (by unfold okI; omega) rfl ?_
        refine g_goto (tgt := 9) fx dX11_bestLaw_37 (by decide) ?_
        exact gw_cg (by rw [blL_s, blS] <;> rfl) (by rw [blL_s, blS, show ((k : Nat) : Int) + 1 + 1 = ((k + 1 : Nat) : Int) + 1 by omega]; (repeat first | rw [if_pos (by omega)] | rw [if_neg (by omega)]) <;> rfl) (ih (by omega))
  exact loop9 0 (Nat.zero_le _)
set_option maxRecDepth 4000 in
theorem s_X11_fits (ad : Nat → Nat) (σ : Sg)  (t : Int) (hT : TW (σ 224)) (hTr : TrW σ) : gw_Sp yX11_fits cX11_fits 4 (some .int) 9 0 0 [vR (some 223), vI t] (gw_M0 ad) σ (gw_D (some (vI (nFi σ t).1)) (gw_M0 ad) ((nFi σ t).2)) gw_no := by
  refine gw_Sp.of [some (vR (some 223)), some (vI t), none, none] (by decide +kernel) rfl (Nat.le_of_ble_eq_true rfl) ?_
  intro X G fx het hnm
  refine g_aload_n fx dX11_fits_0 rfl ?_
  refine g_aload_n fx dX11_fits_1 rfl ?_
  refine g_iload_n fx dX11_fits_2 rfl ?_
  refine g_callVD fx dX11_fits_3 mv_RX11_340 my_X11_trayFault (s_X11_trayFault ad _ _) o_223 rfl rfl rfl (Nat.le_of_ble_eq_true rfl) (by decide) (by decide) ?_
  refine g_puti fx dX11_fits_6 fk_RX11_88 o_223 ?_
  refine gw_cg (σ' := nThr σ (nTf σ t)) rfl rfl ?_
  refine g_aload_n fx dX11_fits_9 rfl ?_
  refine g_geti fx dX11_fits_10 fk_RX11_88 (by decide) o_223 ?_
  refine gw_cgt rfl (show nThr σ (nTf σ t) 223 5 = nTf σ t from su_same _ _ _ _) ?_
  refine g_if_le (tgt := 18) fx dX11_fits_13 (by decide) (fun h13 => ?_) (fun h13 => ?_)
  · have h := (nTf_0 h13).1
    refine g_iconst fx dX11_fits_18 (by unfold okI; omega) ?_
    refine g_istore_n fx dX11_fits_19 (by decide) rfl rfl ?_
    refine g_iconst fx dX11_fits_20 (by unfold okI; omega) ?_
    refine g_istore_n fx dX11_fits_21 (by decide) rfl rfl ?_
    have loop22 : ∀ k : Nat, k ≤ 8 → gw_W X (yX11_fits.cls, cX11_fits, 4, (some .int), 9, 0, 0) G (gw_Z X G (gw_M0 ad) σ (gw_D (some (vI (nFi σ t).1)) (gw_M0 ad) ((nFi σ t).2)) gw_no 0 0) 0 0 (gw_M0 ad) ((fiL (nThr σ (nTf σ t)) t k).2) 22 [some (vR (some 223)), some (vI t), some (vI (fiL (nThr σ (nTf σ t)) t k).1), some (vI (k : Nat))] [] := by
      refine up_ind _ _ (fun k hk ih => ?_)
      have hk1 := fiL_kp (σ := (nThr σ (nTf σ t))) hT hTr t k
      have hk2 := fiL_kp (σ := (nThr σ (nTf σ t))) hT hTr t (k + 1)
      refine g_iload_n fx dX11_fits_22 rfl ?_
      refine g_bipush fx dX11_fits_23 (by decide) ?_
      refine g_icmp_ge (tgt := 59) fx dX11_fits_25 (by decide) (fun h25 => ?_) (fun h25 => ?_)
      · refine g_iload_n fx dX11_fits_59 rfl ?_
        exact g_iret fx rfl dX11_fits_60 (by decide) (by decide) (gw_le.rf _) ⟨by rw [nFi, if_neg (by omega), show (8 : Nat) = k by omega], rfl, by rw [nFi, if_neg (by omega), show (8 : Nat) = k by omega]⟩
      · refine g_aload_n fx dX11_fits_28 rfl ?_
        refine g_iload_n fx dX11_fits_29 rfl ?_
        refine g_callVD fx dX11_fits_30 mv_RX11_400 my_X11_costBy (s_X11_costBy ad _ _ hk1.1) o_223 rfl rfl rfl (Nat.le_of_ble_eq_true rfl) (by decide) (by decide) ?_
        refine g_pop fx dX11_fits_33 rfl ?_
        refine g_iload_n fx dX11_fits_34 rfl ?_
        refine g_aload_n fx dX11_fits_35 rfl ?_
        refine g_iload_n fx dX11_fits_36 rfl ?_
        refine g_callVD fx dX11_fits_37 mv_RX11_343 my_X11_unlike (s_X11_unlike ad _ _ hk2.2 h) o_223 rfl rfl rfl (Nat.le_of_ble_eq_true rfl) (by decide) (by decide) ?_
        refine g_iconst fx dX11_fits_40 (by unfold okI; omega) ?_
        refine g_icmp_ne (tgt := 50) fx dX11_fits_41 (by decide) (fun h41 => ?_) (fun h41 => ?_)
        · refine g_iconst fx dX11_fits_50 (by unfold okI; omega) ?_
          refine g_ior fx dX11_fits_51 ?_
          refine g_istore_n fx dX11_fits_52 (by decide) rfl rfl ?_
          refine g_iinc1 fx dX11_fits_53 (by decide) rfl rfl (by unfold okI; omega) rfl ?_
          refine g_goto (tgt := 22) fx dX11_fits_56 (by decide) ?_
          exact gw_cg (by rw [fiL_s, fiS] <;> rfl) (by rw [fiL_s, fiS, show ((k : Nat) : Int) + 1 = ((k + 1 : Nat) : Int) by omega]; (repeat first | rw [if_pos (by omega)] | rw [if_neg (by omega)]) <;> rfl) (ih (by omega))
        · refine g_iconst fx dX11_fits_44 (by unfold okI; omega) ?_
          refine g_iload_n fx dX11_fits_45 rfl ?_
          refine g_ishl fx dX11_fits_46 ?_
          refine g_goto (tgt := 51) fx dX11_fits_47 (by decide) ?_
          refine g_ior fx dX11_fits_51 ?_
          refine g_istore_n fx dX11_fits_52 (by decide) rfl rfl ?_
          refine g_iinc1 fx dX11_fits_53 (by decide) rfl rfl (by unfold okI; omega) rfl ?_
          refine g_goto (tgt := 22) fx dX11_fits_56 (by decide) ?_
          exact gw_cg (by rw [fiL_s, fiS] <;> rfl) (by rw [fiL_s, fiS, show ((k : Nat) : Int) + 1 = ((k + 1 : Nat) : Int) by omega]; (repeat first | rw [if_pos (by omega)] | rw [if_neg (by omega)]) <;> rfl) (ih (by omega))
    exact loop22 0 (Nat.zero_le _)
  · refine g_iconst fx dX11_fits_16 (by unfold okI; omega) ?_
    exact g_iret fx rfl dX11_fits_17 (by decide) (by decide) (gw_le.rf _) ⟨by rw [nFi, if_pos (by omega)], rfl, by rw [nFi, if_pos (by omega)]⟩
set_option maxRecDepth 4000 in
theorem s_X11_dayOf (ad : Nat → Nat) (σ : Sg)  (s : Int) (seed : Int) (come : Int) (g : Int) (N : Nat) (hN : N = 300) (hT : TW (σ 224)) (hs : 0 ≤ s ∧ s < σ 224 4) (hg : 1 ≤ g ∧ g ≤ 99) : gw_Sp yX11_dayOf cX11_dayOf 8 (some .int) 7 0 0 [vR (some 223), vI s, vI seed, vI come, vI g] (gw_M0 ad) σ (gw_D (some (vI (dyV σ s seed come g N))) (gw_M0 ad) (dyY σ seed come g N)) gw_no := by
  refine gw_Sp.of [some (vR (some 223)), some (vI s), some (vI seed), some (vI come), some (vI g), none, none, none] (by decide +kernel) rfl (Nat.le_of_ble_eq_true rfl) ?_
  intro X G fx het hnm
  have hS := hT.sacks
  have e0 := dy0_224 σ seed
  have hT0 : TW (dy0 σ seed 224) := by rw [e0]; exact hT
  have e40 : dy0 σ seed 224 4 = σ 224 4 := by rw [e0]
  refine g_aload_n fx dX11_dayOf_0 rfl ?_
  refine g_getr fx dX11_dayOf_1 fk_RX11_9 o_223 rf_223_0 ?_
  refine g_aload_n fx dX11_dayOf_4 rfl ?_
  refine g_getr fx dX11_dayOf_5 fk_RX11_16 o_223 rf_223_2 ?_
  refine g_callSD0 fx dX11_dayOf_8 ms_RX11_204 my_X11_copies (s_X11_copies ad _ (by decide) (by decide)) rfl rfl (Nat.le_of_ble_eq_true rfl) (by decide) (by decide) ?_
  refine g_aload_n fx dX11_dayOf_11 rfl ?_
  refine g_iload_n fx dX11_dayOf_12 rfl ?_
  refine g_puti fx dX11_dayOf_13 fk_RX11_404 o_223 ?_
  refine gw_cg (σ' := dy0 σ seed) rfl rfl ?_
  refine g_iconst fx dX11_dayOf_16 (by unfold okI; omega) ?_
  refine g_istore fx dX11_dayOf_17 (by decide) rfl rfl ?_
  have loop19 : ∀ k : Nat, k ≤ N → gw_W X (yX11_dayOf.cls, cX11_dayOf, 8, (some .int), 7, 0, 0) G (gw_Z X G (gw_M0 ad) σ (gw_D (some (vI (dyV σ s seed come g N))) (gw_M0 ad) (dyY σ seed come g N)) gw_no 0 0) 0 0 (gw_M0 ad) ((dyL (dy0 σ seed) come g k)) 19 [some (vR (some 223)), some (vI s), some (vI seed), some (vI come), some (vI g), some (vI (k : Nat)), none, none] [] := by
    refine up_ind _ _ (fun k hk ih => ?_)
    obtain ⟨t1, t4⟩ := dyL_kp hT0 come hg k (by omega)
    rw [e40] at t4
    have tS := t1.sacks
    have hx6 := nDrX_j (dyL (dy0 σ seed) come g k) 668
    refine g_iload fx dX11_dayOf_19 rfl ?_
    refine g_sipush fx dX11_dayOf_21 (by decide) ?_
    refine g_icmp_ge (tgt := 178) fx dX11_dayOf_24 (by decide) (fun h24 => ?_) (fun h24 => ?_)
    · obtain rfl : k = N := by omega
      refine g_aload_n fx dX11_dayOf_178 rfl ?_
      refine g_callVD0 fx dX11_dayOf_179 mv_RX11_323 my_X11_runs (s_X11_runs ad _ t1) o_223 rfl rfl rfl (Nat.le_of_ble_eq_true rfl) (by decide) (by decide) ?_
      refine gw_cg (σ' := dyR σ seed come g k) rfl rfl ?_
      have hr := TW_ru t1
      have er := nRu_224 t1
      have hrS := hr.sacks
      have hrP := hr.p60
      have e4r : nRu (dyL (dy0 σ seed) come g k) 224 4 = (dyL (dy0 σ seed) come g k) 224 4 := by rw [er]
      change dyR σ seed come g k 224 668 ≤ 60 at hrP
      refine g_aload_n fx dX11_dayOf_182 rfl ?_
      refine g_iload_n fx dX11_dayOf_183 rfl ?_
      refine g_callVD fx dX11_dayOf_184 mv_RX11_320 my_X11_waitOf (s_X11_waitOf ad _ _ (by omega) (by omega)) o_223 rfl rfl rfl (Nat.le_of_ble_eq_true rfl) (by decide) (by decide) ?_
      refine g_istore fx dX11_dayOf_187 (by decide) rfl rfl ?_
      refine g_aload_n fx dX11_dayOf_189 rfl ?_
      refine g_getr fx dX11_dayOf_190 fk_RX11_16 o_223 rf_223_2 ?_
      refine g_aload_n fx dX11_dayOf_193 rfl ?_
      refine g_getr fx dX11_dayOf_194 fk_RX11_9 o_223 rf_223_0 ?_
      refine g_callSD0 fx dX11_dayOf_197 ms_RX11_204 my_X11_copies (s_X11_copies ad _ (by decide) (by decide)) rfl rfl (Nat.le_of_ble_eq_true rfl) (by decide) (by decide) ?_
      refine g_iload fx dX11_dayOf_200 rfl ?_
      exact g_iret fx rfl dX11_dayOf_202 (by decide) (by decide) (gw_le.rf _) ⟨rfl, rfl, rfl⟩
    · refine g_aload_n fx dX11_dayOf_27 rfl ?_
      refine g_bipush fx dX11_dayOf_28 (by decide) ?_
      refine g_callVD fx dX11_dayOf_30 mv_RX11_407 my_X11_draw (s_X11_draw ad _ _ (by omega)) o_223 rfl rfl rfl (Nat.le_of_ble_eq_true rfl) (by decide) (by decide) ?_
      refine g_iload_n fx dX11_dayOf_33 rfl ?_
      refine g_icmp_ge (tgt := 172) fx dX11_dayOf_34 (by decide) (fun h34 => ?_) (fun h34 => ?_)
      · refine g_iinc1 fx dX11_dayOf_172 (by decide) rfl rfl (by unfold okI; omega) rfl ?_
        refine g_goto (tgt := 19) fx dX11_dayOf_175 (by decide) ?_
        refine g_kill 6 rfl (g_kill 7 rfl ?_)
        first
        | exact gw_cg (by rw [dyL_s, dyS, if_pos (by omega)]) (by rw [show ((k : Nat) : Int) + 1 = ((k + 1 : Nat) : Int) by omega] <;> rfl) (ih (by omega))
        | exact gw_cg (by rw [dyL_s, dyS, if_neg (by omega)] <;> rfl) (by rw [show ((k : Nat) : Int) + 1 = ((k + 1 : Nat) : Int) by omega] <;> rfl) (ih (by omega))
      · refine g_aload_n fx dX11_dayOf_37 rfl ?_
        refine g_getr fx dX11_dayOf_38 fk_RX11_9 o_223 rf_223_0 ?_
        refine g_sipush fx dX11_dayOf_41 (by decide) ?_
        refine g_iald fx dX11_dayOf_44 o_224 (by decide) (by decide) ?_
        rw [show Int.toNat 668 = 668 from rfl]
        refine gw_cgt rfl (nDrX_j _ 668) ?_
        refine g_bipush fx dX11_dayOf_45 (by decide) ?_
        refine g_icmp_lt (tgt := 53) fx dX11_dayOf_47 (by decide) (fun h47 => ?_) (fun h47 => ?_)
        · have hpn := t1.p_nn
          have ht9 : 0 ≤ (dyL (dy0 σ seed) come g k) 224 4 ∧ (dyL (dy0 σ seed) come g k) 224 4 < 60 := ⟨by omega, by omega⟩
          have hp0 := t1.p0
          refine g_aload_n fx dX11_dayOf_53 rfl ?_
          refine g_getr fx dX11_dayOf_54 fk_RX11_9 o_223 rf_223_0 ?_
          refine g_iconst fx dX11_dayOf_57 (by unfold okI; omega) ?_
          refine g_iald fx dX11_dayOf_58 o_224 (by decide) (by decide) ?_
          rw [show Int.toNat 4 = 4 from rfl]
          refine gw_cgt rfl (nDrX_j _ 4) ?_
          refine g_istore fx dX11_dayOf_59 (by decide) rfl rfl ?_
          refine g_aload_n fx dX11_dayOf_61 rfl ?_
          refine g_iload fx dX11_dayOf_62 rfl ?_
          refine g_callVD fx dX11_dayOf_64 mv_RX11_407 my_X11_draw (s_X11_draw ad _ _ (by omega)) o_223 rfl rfl rfl (Nat.le_of_ble_eq_true rfl) (by decide) (by decide) ?_
          refine g_iconst fx dX11_dayOf_67 (by unfold okI; omega) ?_
          refine g_iadd fx dX11_dayOf_68 ?_
          refine g_istore fx dX11_dayOf_69 (by decide) rfl rfl ?_
          refine g_aload_n fx dX11_dayOf_71 rfl ?_
          refine g_getr fx dX11_dayOf_72 fk_RX11_9 o_223 rf_223_0 ?_
          refine g_iconst fx dX11_dayOf_75 (by unfold okI; omega) ?_
          refine g_dup2 fx dX11_dayOf_76 rfl rfl ?_
          refine g_iald fx dX11_dayOf_77 o_224 (by decide) (by decide) ?_
          rw [show Int.toNat 4 = 4 from rfl]
          refine g_iconst fx dX11_dayOf_78 (by unfold okI; omega) ?_
          refine g_iadd fx dX11_dayOf_79 ?_
          refine g_iast fx dX11_dayOf_80 o_224 (by decide) (by decide) ?_
          rw [show Int.toNat 4 = 4 from rfl]
          refine g_aload_n fx dX11_dayOf_81 rfl ?_
          refine g_iload fx dX11_dayOf_82 rfl ?_
          refine g_iconst fx dX11_dayOf_84 (by unfold okI; omega) ?_
          refine g_iload fx dX11_dayOf_85 rfl ?_
          refine g_callVD0 fx dX11_dayOf_87 mv_RX11_252 my_X11_sets (s_X11_sets ad _ _ _ _ (by omega)) o_223 rfl rfl rfl (Nat.le_of_ble_eq_true rfl) (by decide) (by decide) ?_
          refine g_aload_n fx dX11_dayOf_90 rfl ?_
          refine g_iload fx dX11_dayOf_91 rfl ?_
          refine g_iconst fx dX11_dayOf_93 (by unfold okI; omega) ?_
          refine g_bipush fx dX11_dayOf_94 (by decide) ?_
          refine g_callVD0 fx dX11_dayOf_96 mv_RX11_252 my_X11_sets (s_X11_sets ad _ _ _ _ (by omega)) o_223 rfl rfl rfl (Nat.le_of_ble_eq_true rfl) (by decide) (by decide) ?_
          refine g_aload_n fx dX11_dayOf_99 rfl ?_
          refine g_iload fx dX11_dayOf_100 rfl ?_
          refine g_iconst fx dX11_dayOf_102 (by unfold okI; omega) ?_
          refine g_iload fx dX11_dayOf_103 rfl ?_
          refine g_callVD0 fx dX11_dayOf_105 mv_RX11_252 my_X11_sets (s_X11_sets ad _ _ _ _ (by omega)) o_223 rfl rfl rfl (Nat.le_of_ble_eq_true rfl) (by decide) (by decide) ?_
          refine g_aload_n fx dX11_dayOf_108 rfl ?_
          refine g_iload fx dX11_dayOf_109 rfl ?_
          refine g_iconst fx dX11_dayOf_111 (by unfold okI; omega) ?_
          refine g_iconst fx dX11_dayOf_112 (by unfold okI; omega) ?_
          refine g_callVD0 fx dX11_dayOf_113 mv_RX11_252 my_X11_sets (s_X11_sets ad _ _ _ _ (by omega)) o_223 rfl rfl rfl (Nat.le_of_ble_eq_true rfl) (by decide) (by decide) ?_
          refine g_aload_n fx dX11_dayOf_116 rfl ?_
          refine g_iload fx dX11_dayOf_117 rfl ?_
          refine g_iconst fx dX11_dayOf_119 (by unfold okI; omega) ?_
          refine g_iconst fx dX11_dayOf_120 (by unfold okI; omega) ?_
          refine g_callVD0 fx dX11_dayOf_121 mv_RX11_252 my_X11_sets (s_X11_sets ad _ _ _ _ (by omega)) o_223 rfl rfl rfl (Nat.le_of_ble_eq_true rfl) (by decide) (by decide) ?_
          refine g_aload_n fx dX11_dayOf_124 rfl ?_
          refine g_iload fx dX11_dayOf_125 rfl ?_
          refine g_iconst fx dX11_dayOf_127 (by unfold okI; omega) ?_
          refine g_iconst fx dX11_dayOf_128 (by unfold okI; omega) ?_
          refine g_callVD0 fx dX11_dayOf_129 mv_RX11_252 my_X11_sets (s_X11_sets ad _ _ _ _ (by omega)) o_223 rfl rfl rfl (Nat.le_of_ble_eq_true rfl) (by decide) (by decide) ?_
          refine g_aload_n fx dX11_dayOf_132 rfl ?_
          refine g_iload fx dX11_dayOf_133 rfl ?_
          refine g_bipush fx dX11_dayOf_135 (by decide) ?_
          refine g_iconst fx dX11_dayOf_137 (by unfold okI; omega) ?_
          refine g_callVD0 fx dX11_dayOf_138 mv_RX11_252 my_X11_sets (s_X11_sets ad _ _ _ _ (by omega)) o_223 rfl rfl rfl (Nat.le_of_ble_eq_true rfl) (by decide) (by decide) ?_
          refine gw_cg (σ' := dyA ((dyL (dy0 σ seed) come g k) 224 4) ((k : Nat) : Int) (dyP g (dyL (dy0 σ seed) come g k)) (nDrX (nDrX (dyL (dy0 σ seed) come g k)))) rfl rfl ?_
          have e6 : dyA ((dyL (dy0 σ seed) come g k) 224 4) ((k : Nat) : Int) (dyP g (dyL (dy0 σ seed) come g k)) (nDrX (nDrX (dyL (dy0 σ seed) come g k))) 224 668 = (dyL (dy0 σ seed) come g k) 224 668 := dyA_669 ht9 _ _
          refine g_aload_n fx dX11_dayOf_141 rfl ?_
          refine g_getr fx dX11_dayOf_142 fk_RX11_9 o_223 rf_223_0 ?_
          refine g_sipush fx dX11_dayOf_145 (by decide) ?_
          refine g_aload_n fx dX11_dayOf_148 rfl ?_
          refine g_getr fx dX11_dayOf_149 fk_RX11_9 o_223 rf_223_0 ?_
          refine g_sipush fx dX11_dayOf_152 (by decide) ?_
          refine g_iald fx dX11_dayOf_155 o_224 (by decide) (by decide) ?_
          rw [show Int.toNat 668 = 668 from rfl]
          refine g_iadd fx dX11_dayOf_156 ?_
          refine gw_cgt rfl (wr_id (by unfold okI; omega)) ?_
          refine g_iload fx dX11_dayOf_157 rfl ?_
          refine g_iast fx dX11_dayOf_159 o_224 (by omega) (by show _ < ((672 : Nat) : Int); omega) ?_
          refine gw_cg (σ' := dyB ((dyL (dy0 σ seed) come g k) 224 4) ((k : Nat) : Int) (dyP g (dyL (dy0 σ seed) come g k)) (nDrX (nDrX (dyL (dy0 σ seed) come g k)))) rfl rfl ?_
          refine g_aload_n fx dX11_dayOf_160 rfl ?_
          refine g_getr fx dX11_dayOf_161 fk_RX11_9 o_223 rf_223_0 ?_
          refine g_sipush fx dX11_dayOf_164 (by decide) ?_
          refine g_dup2 fx dX11_dayOf_167 rfl rfl ?_
          refine g_iald fx dX11_dayOf_168 o_224 (by decide) (by decide) ?_
          rw [show Int.toNat 668 = 668 from rfl]
          refine g_iconst fx dX11_dayOf_169 (by unfold okI; omega) ?_
          refine g_iadd fx dX11_dayOf_170 ?_
          refine g_iast fx dX11_dayOf_171 o_224 (by decide) (by decide) ?_
          rw [show Int.toNat 668 = 668 from rfl]
          refine g_iinc1 fx dX11_dayOf_172 (by decide) rfl rfl (by unfold okI; omega) rfl ?_
          refine g_goto (tgt := 19) fx dX11_dayOf_175 (by decide) ?_
          refine g_kill 6 rfl (g_kill 7 rfl ?_)
          first
          | exact gw_cg (by rw [dyL_s, dyS, if_pos (by omega)]) (by rw [show ((k : Nat) : Int) + 1 = ((k + 1 : Nat) : Int) by omega] <;> rfl) (ih (by omega))
          | exact gw_cg (by rw [dyL_s, dyS, if_neg (by omega)] <;> rfl) (by rw [show ((k : Nat) : Int) + 1 = ((k + 1 : Nat) : Int) by omega] <;> rfl) (ih (by omega))
        · refine g_goto (tgt := 172) fx dX11_dayOf_50 (by decide) ?_
          refine g_iinc1 fx dX11_dayOf_172 (by decide) rfl rfl (by unfold okI; omega) rfl ?_
          refine g_goto (tgt := 19) fx dX11_dayOf_175 (by decide) ?_
          refine g_kill 6 rfl (g_kill 7 rfl ?_)
          first
          | exact gw_cg (by rw [dyL_s, dyS, if_pos (by omega)]) (by rw [show ((k : Nat) : Int) + 1 = ((k + 1 : Nat) : Int) by omega] <;> rfl) (ih (by omega))
          | exact gw_cg (by rw [dyL_s, dyS, if_neg (by omega)] <;> rfl) (by rw [show ((k : Nat) : Int) + 1 = ((k + 1 : Nat) : Int) by omega] <;> rfl) (ih (by omega))
  exact loop19 0 (Nat.zero_le _)
set_option maxRecDepth 4000 in
theorem s_X11_day (ad : Nat → Nat) (σ : Sg)  (s : Int) (seed : Int) (come : Int) (g : Int) (N : Nat) (hN : N = 300) (hT : TW (σ 224)) : gw_Sp yX11_day cX11_day 5 (some .int) 8 0 0 [vR (some 223), vI s, vI seed, vI come, vI g] (gw_M0 ad) σ (gw_D (some (vI (nDy σ s seed come g N).1)) (gw_M0 ad) ((nDy σ s seed come g N).2)) gw_no := by
  refine gw_Sp.of [some (vR (some 223)), some (vI s), some (vI seed), some (vI come), some (vI g)] (by decide +kernel) rfl (Nat.le_of_ble_eq_true rfl) ?_
  intro X G fx het hnm
  have j27 : gw_W X (yX11_day.cls, cX11_day, 5, (some .int), 8, 0, 0) G (gw_Z X G (gw_M0 ad) σ (gw_D (some (vI (nDy σ s seed come g N).1)) (gw_M0 ad) ((nDy σ s seed come g N).2)) gw_no 0 0) 0 0 (gw_M0 ad) (σ) 27 [some (vR (some 223)), some (vI s), some (vI seed), some (vI come), some (vI g)] [vI (dvV σ s come g), vR (some 223)] := by
    refine g_puti fx dX11_day_27 fk_RX11_88 o_223 ?_
    refine gw_cg (σ' := nThr σ (dvV σ s come g)) rfl rfl ?_
    refine g_aload_n fx dX11_day_30 rfl ?_
    refine g_geti fx dX11_day_31 fk_RX11_88 (by decide) o_223 ?_
    refine gw_cgt rfl (show nThr σ (dvV σ s come g) 223 5 = dvV σ s come g from su_same _ _ _ _) ?_
    refine g_if_le (tgt := 41) fx dX11_day_34 (by decide) (fun h34 => ?_) (fun h34 => ?_)
    · obtain ⟨hs, hg⟩ := dvV_0 hT h34
      refine g_aload_n fx dX11_day_41 rfl ?_
      refine g_iload_n fx dX11_day_42 rfl ?_
      refine g_iload_n fx dX11_day_43 rfl ?_
      refine g_iload_n fx dX11_day_44 rfl ?_
      refine g_iload fx dX11_day_45 rfl ?_
      refine g_callVD fx dX11_day_47 mv_RX11_415 my_X11_dayOf (s_X11_dayOf ad (nThr σ (dvV σ s come g)) s seed come g N hN hT hs hg) o_223 rfl rfl rfl (Nat.le_of_ble_eq_true rfl) (by decide) (by decide) ?_
      exact g_iret fx rfl dX11_day_50 (by decide) (by decide) (gw_le.rf _) ⟨by rw [nDy]; (repeat first | rw [if_pos (by omega)] | rw [if_neg (by omega)]) <;> rfl, rfl, by rw [nDy]; (repeat first | rw [if_pos (by omega)] | rw [if_neg (by omega)]) <;> rfl⟩
    · refine g_iconst fx dX11_day_37 (by unfold okI; omega) ?_
      refine g_goto (tgt := 50) fx dX11_day_38 (by decide) ?_
      exact g_iret fx rfl dX11_day_50 (by decide) (by decide) (gw_le.rf _) ⟨by rw [nDy]; (repeat first | rw [if_pos (by omega)] | rw [if_neg (by omega)]) <;> rfl, rfl, by rw [nDy]; (repeat first | rw [if_pos (by omega)] | rw [if_neg (by omega)]) <;> rfl⟩
  refine g_aload_n fx dX11_day_0 rfl ?_
  refine g_aload_n fx dX11_day_1 rfl ?_
  refine g_iload_n fx dX11_day_2 rfl ?_
  refine g_callVD fx dX11_day_3 mv_RX11_244 my_X11_isSack (s_X11_isSack ad _ _) o_223 rfl rfl rfl (Nat.le_of_ble_eq_true rfl) (by decide) (by decide) ?_
  refine g_if_ne (tgt := 13) fx dX11_day_6 (by decide) (fun h6 => ?_) (fun h6 => ?_)
  · refine g_iload_n fx dX11_day_13 rfl ?_
    refine g_iload fx dX11_day_14 rfl ?_
    refine g_callSD fx dX11_day_16 ms_RX11_412 my_X11_isDay (s_X11_isDay ad _ _ _) rfl rfl (Nat.le_of_ble_eq_true rfl) (by decide) (by decide) ?_
    refine g_if_eq (tgt := 26) fx dX11_day_19 (by decide) (fun h19 => ?_) (fun h19 => ?_)
    · refine g_iconst fx dX11_day_26 (by unfold okI; omega) ?_
      exact gw_cgt rfl (by rw [dvV]; (repeat first | rw [if_pos (by omega)] | rw [if_neg (by omega)]) <;> rfl) j27
    · refine g_iconst fx dX11_day_22 (by unfold okI; omega) ?_
      refine g_goto (tgt := 27) fx dX11_day_23 (by decide) ?_
      exact gw_cgt rfl (by rw [dvV]; (repeat first | rw [if_pos (by omega)] | rw [if_neg (by omega)]) <;> rfl) j27
  · refine g_iconst fx dX11_day_9 (by unfold okI; omega) ?_
    refine g_goto (tgt := 27) fx dX11_day_10 (by decide) ?_
    exact gw_cgt rfl (by rw [dvV]; (repeat first | rw [if_pos (by omega)] | rw [if_neg (by omega)]) <;> rfl) j27
set_option maxRecDepth 4000 in
theorem s_X11_days (ad : Nat → Nat) (σ : Sg)  (s : Int) (n : Int) (come : Int) (g : Int) (w : Int) (N : Nat) (hN : N = 300) (hT : TW (σ 224)) : gw_Sp yX11_days cX11_days 11 (some .int) 8 0 0 [vR (some 223), vI s, vI n, vI come, vI g, vI w] (gw_M0 ad) σ (gw_D (some (vI (nDs σ s n come g w N).1)) (gw_M0 ad) ((nDs σ s n come g w N).2)) gw_no := by
  refine gw_Sp.of [some (vR (some 223)), some (vI s), some (vI n), some (vI come), some (vI g), some (vI w), none, none, none, none, none] (by decide +kernel) rfl (Nat.le_of_ble_eq_true rfl) ?_
  intro X G fx het hnm
  have j52 : gw_W X (yX11_days.cls, cX11_days, 11, (some .int), 8, 0, 0) G (gw_Z X G (gw_M0 ad) σ (gw_D (some (vI (nDs σ s n come g w N).1)) (gw_M0 ad) ((nDs σ s n come g w N).2)) gw_no 0 0) 0 0 (gw_M0 ad) (σ) 52 [some (vR (some 223)), some (vI s), some (vI n), some (vI come), some (vI g), some (vI w), none, none, none, none, none] [vI (dsV σ s n come g w), vR (some 223)] := by
    refine g_puti fx dX11_days_52 fk_RX11_88 o_223 ?_
    refine gw_cg (σ' := nThr σ (dsV σ s n come g w)) rfl rfl ?_
    refine g_aload_n fx dX11_days_55 rfl ?_
    refine g_geti fx dX11_days_56 fk_RX11_88 (by decide) o_223 ?_
    refine gw_cgt rfl (show nThr σ (dsV σ s n come g w) 223 5 = dsV σ s n come g w from su_same _ _ _ _) ?_
    refine g_if_le (tgt := 64) fx dX11_days_59 (by decide) (fun h59 => ?_) (fun h59 => ?_)
    · obtain ⟨hs, hg, hn⟩ := dsV_0 hT h59
      refine g_iconst fx dX11_days_64 (by unfold okI; omega) ?_
      refine g_istore fx dX11_days_65 (by decide) rfl rfl ?_
      refine g_iconst fx dX11_days_67 (by unfold okI; omega) ?_
      refine g_istore fx dX11_days_68 (by decide) rfl rfl ?_
      refine g_iconst fx dX11_days_70 (by unfold okI; omega) ?_
      refine g_istore fx dX11_days_71 (by decide) rfl rfl ?_
      refine g_iconst fx dX11_days_73 (by unfold okI; omega) ?_
      refine g_istore fx dX11_days_74 (by decide) rfl rfl ?_
      have loop76 : ∀ k : Nat, k ≤ n.toNat → gw_W X (yX11_days.cls, cX11_days, 11, (some .int), 8, 0, 0) G (gw_Z X G (gw_M0 ad) σ (gw_D (some (vI (nDs σ s n come g w N).1)) (gw_M0 ad) ((nDs σ s n come g w N).2)) gw_no 0 0) 0 0 (gw_M0 ad) ((dsL (nThr σ (dsV σ s n come g w)) s come g N k).2.2.2) 76 [some (vR (some 223)), some (vI s), some (vI n), some (vI come), some (vI g), some (vI w), some (vI (dsL (nThr σ (dsV σ s n come g w)) s come g N k).1), some (vI (dsL (nThr σ (dsV σ s n come g w)) s come g N k).2.1), some (vI (dsL (nThr σ (dsV σ s n come g w)) s come g N k).2.2.1), some (vI (((k : Nat) : Int) + 1)), none] [] := by
        refine up_ind _ _ (fun k hk ih => ?_)
        have t1 : TW ((dsL (nThr σ (dsV σ s n come g w)) s come g N k).2.2.2 224) := TW_cg (dsL_6 (nThr σ (dsV σ s n come g w)) s come g N k) hT
        have t4 : (dsL (nThr σ (dsV σ s n come g w)) s come g N k).2.2.2 224 4 = σ 224 4 := dsL_6 (nThr σ (dsV σ s n come g w)) s come g N k 4 (by decide)
        refine g_iload fx dX11_days_76 rfl ?_
        refine g_iload_n fx dX11_days_78 rfl ?_
        refine g_icmp_gt (tgt := 125) fx dX11_days_79 (by decide) (fun h79 => ?_) (fun h79 => ?_)
        · have hL : (dsL (nThr σ (dsV σ s n come g w)) s come g N k) = dsL (nThr σ (dsV σ s n come g w)) s come g N n.toNat := by rw [show n.toNat = k by omega]
          rw [hL]
          refine g_iload fx dX11_days_125 rfl ?_
          refine g_if_ne (tgt := 135) fx dX11_days_127 (by decide) (fun h127 => ?_) (fun h127 => ?_)
          · refine g_iload fx dX11_days_135 rfl ?_
            refine g_iconst fx dX11_days_137 (by unfold okI; omega) ?_
            refine g_icmp_ne (tgt := 146) fx dX11_days_138 (by decide) (fun h138 => ?_) (fun h138 => ?_)
            · refine g_iload fx dX11_days_146 rfl ?_
              exact g_iret fx rfl dX11_days_148 (by decide) (by decide) (gw_le.rf _) ⟨by rw [nDs, if_neg (by omega), nDsV]; (repeat first | rw [if_pos (by omega)] | rw [if_neg (by omega)]) <;> rfl, rfl, by rw [nDs, if_neg (by omega)]⟩
            · refine g_iload fx dX11_days_141 rfl ?_
              refine g_goto (tgt := 148) fx dX11_days_143 (by decide) ?_
              exact g_iret fx rfl dX11_days_148 (by decide) (by decide) (gw_le.rf _) ⟨by rw [nDs, if_neg (by omega), nDsV]; (repeat first | rw [if_pos (by omega)] | rw [if_neg (by omega)]) <;> rfl, rfl, by rw [nDs, if_neg (by omega)]⟩
          · refine g_iload fx dX11_days_130 rfl ?_
            refine g_goto (tgt := 148) fx dX11_days_132 (by decide) ?_
            exact g_iret fx rfl dX11_days_148 (by decide) (by decide) (gw_le.rf _) ⟨by rw [nDs, if_neg (by omega), nDsV]; (repeat first | rw [if_pos (by omega)] | rw [if_neg (by omega)]) <;> rfl, rfl, by rw [nDs, if_neg (by omega)]⟩
        · refine g_aload_n fx dX11_days_82 rfl ?_
          refine g_iload_n fx dX11_days_83 rfl ?_
          refine g_iload fx dX11_days_84 rfl ?_
          refine g_iload_n fx dX11_days_86 rfl ?_
          refine g_iload fx dX11_days_87 rfl ?_
          refine g_callVD fx dX11_days_89 mv_RX11_415 my_X11_dayOf (s_X11_dayOf ad _ s _ come g N hN t1 (by rw [t4]; exact hs) hg) o_223 rfl rfl rfl (Nat.le_of_ble_eq_true rfl) (by decide) (by decide) ?_
          refine g_istore fx dX11_days_92 (by decide) rfl rfl ?_
          refine g_iload fx dX11_days_94 rfl ?_
          refine g_iload fx dX11_days_96 rfl ?_
          refine g_iadd fx dX11_days_98 ?_
          refine g_istore fx dX11_days_99 (by decide) rfl rfl ?_
          refine g_iload fx dX11_days_101 rfl ?_
          refine g_iload fx dX11_days_103 rfl ?_
          refine g_icmp_gt (tgt := 111) fx dX11_days_105 (by decide) (fun h105 => ?_) (fun h105 => ?_)
          · refine g_iload fx dX11_days_111 rfl ?_
            refine g_istore fx dX11_days_113 (by decide) rfl rfl ?_
            refine g_iload fx dX11_days_115 rfl ?_
            refine g_istore fx dX11_days_117 (by decide) rfl rfl ?_
            refine g_iinc1 fx dX11_days_119 (by decide) rfl rfl (by unfold okI; omega) rfl ?_
            refine g_goto (tgt := 76) fx dX11_days_122 (by decide) ?_
            refine g_kill 10 rfl ?_
            exact gw_cg (by rw [dsL_s, dsS] <;> rfl) (by rw [dsL_s, dsS, show ((k : Nat) : Int) + 1 + 1 = ((k + 1 : Nat) : Int) + 1 by omega]; (repeat first | rw [if_pos (by omega)] | rw [if_neg (by omega)]) <;> rfl) (ih (by omega))
          · refine g_goto (tgt := 119) fx dX11_days_108 (by decide) ?_
            refine g_iinc1 fx dX11_days_119 (by decide) rfl rfl (by unfold okI; omega) rfl ?_
            refine g_goto (tgt := 76) fx dX11_days_122 (by decide) ?_
            refine g_kill 10 rfl ?_
            exact gw_cg (by rw [dsL_s, dsS] <;> rfl) (by rw [dsL_s, dsS, show ((k : Nat) : Int) + 1 + 1 = ((k + 1 : Nat) : Int) + 1 by omega]; (repeat first | rw [if_pos (by omega)] | rw [if_neg (by omega)]) <;> rfl) (ih (by omega))
      exact loop76 0 (Nat.zero_le _)
    · refine g_iconst fx dX11_days_62 (by unfold okI; omega) ?_
      exact g_iret fx rfl dX11_days_63 (by decide) (by decide) (gw_le.rf _) ⟨by rw [nDs, if_pos (by omega)], rfl, by rw [nDs, if_pos (by omega)]⟩
  refine g_aload_n fx dX11_days_0 rfl ?_
  refine g_aload_n fx dX11_days_1 rfl ?_
  refine g_iload_n fx dX11_days_2 rfl ?_
  refine g_callVD fx dX11_days_3 mv_RX11_244 my_X11_isSack (s_X11_isSack ad _ _) o_223 rfl rfl rfl (Nat.le_of_ble_eq_true rfl) (by decide) (by decide) ?_
  refine g_if_ne (tgt := 13) fx dX11_days_6 (by decide) (fun h6 => ?_) (fun h6 => ?_)
  · refine g_iload_n fx dX11_days_13 rfl ?_
    refine g_i2l fx dX11_days_14 ?_
    refine g_lconst1 fx dX11_days_15 ?_
    refine g_ldcL fx dX11_days_16 kc_RX11_418 (by unfold okJ; omega) ?_
    refine g_callSD fx dX11_days_19 ms_RX11_147 my_X11_within (s_X11_within ad _ _ _ _) rfl rfl (Nat.le_of_ble_eq_true rfl) (by decide) (by decide) ?_
    refine g_if_eq (tgt := 51) fx dX11_days_22 (by decide) (fun h22 => ?_) (fun h22 => ?_)
    · refine g_iconst fx dX11_days_51 (by unfold okI; omega) ?_
      exact gw_cgt rfl (by rw [dsV]; (repeat first | rw [if_pos (by omega)] | rw [if_neg (by omega)]) <;> rfl) j52
    · refine g_iload_n fx dX11_days_25 rfl ?_
      refine g_iload fx dX11_days_26 rfl ?_
      refine g_callSD fx dX11_days_28 ms_RX11_412 my_X11_isDay (s_X11_isDay ad _ _ _) rfl rfl (Nat.le_of_ble_eq_true rfl) (by decide) (by decide) ?_
      refine g_if_eq (tgt := 51) fx dX11_days_31 (by decide) (fun h31 => ?_) (fun h31 => ?_)
      · refine g_iconst fx dX11_days_51 (by unfold okI; omega) ?_
        exact gw_cgt rfl (by rw [dsV]; (repeat first | rw [if_pos (by omega)] | rw [if_neg (by omega)]) <;> rfl) j52
      · refine g_iload fx dX11_days_34 rfl ?_
        refine g_i2l fx dX11_days_36 ?_
        refine g_lconst0 fx dX11_days_37 ?_
        refine g_ldcL fx dX11_days_38 kc_RX11_398 (by unfold okJ; omega) ?_
        refine g_callSD fx dX11_days_41 ms_RX11_147 my_X11_within (s_X11_within ad _ _ _ _) rfl rfl (Nat.le_of_ble_eq_true rfl) (by decide) (by decide) ?_
        refine g_if_eq (tgt := 51) fx dX11_days_44 (by decide) (fun h44 => ?_) (fun h44 => ?_)
        · refine g_iconst fx dX11_days_51 (by unfold okI; omega) ?_
          exact gw_cgt rfl (by rw [dsV]; (repeat first | rw [if_pos (by omega)] | rw [if_neg (by omega)]) <;> rfl) j52
        · refine g_iconst fx dX11_days_47 (by unfold okI; omega) ?_
          refine g_goto (tgt := 52) fx dX11_days_48 (by decide) ?_
          exact gw_cgt rfl (by rw [dsV]; (repeat first | rw [if_pos (by omega)] | rw [if_neg (by omega)]) <;> rfl) j52
  · refine g_iconst fx dX11_days_9 (by unfold okI; omega) ?_
    refine g_goto (tgt := 52) fx dX11_days_10 (by decide) ?_
    exact gw_cgt rfl (by rw [dsV]; (repeat first | rw [if_pos (by omega)] | rw [if_neg (by omega)]) <;> rfl) j52
