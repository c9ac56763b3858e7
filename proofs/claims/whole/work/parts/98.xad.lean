/-! MAKING, 4: the constructors (written by gen/m_init.py) -/
theorem rh_nil {n : Nat} (h : ∀ j, j < 42 → gw_rh n j = none) : ∀ j, gw_rh n j = none := fun j => by
  by_cases q : j < 42
  · exact h j q
  · exact rh_big n j (by omega)
theorem row_no : ∀ q ∈ gw_rows, ∀ j, j < 42 → gw_rh (q.1 + 1) j = none := by decide +kernel
theorem row_po : ∀ q ∈ gw_rows, 0 < q.2 := by decide +kernel
theorem row_o0 : ∀ q ∈ gw_rows, ∀ j, j < 42 → j ∉ [0] → gw_rh q.1 j = none := by decide +kernel
theorem law_o0 : ∀ q ∈ gw_laws, ∀ j, j < 42 → j ∉ [0] → gw_rh q j = none := by decide +kernel
theorem mill_o0 : ∀ q ∈ gw_mills, ∀ j, j < 42 → j ∉ [15, 14, 13, 12, 11, 10, 9, 8, 7, 0] → gw_rh q j = none := by decide +kernel
theorem run_o0 : ∀ q ∈ gw_runs, ∀ j, j < 42 → j ∉ [0, 14, 13, 12, 11, 10, 9, 8, 7, 6, 5, 4, 3] → gw_rh q.1 j = none := by decide +kernel
theorem tray_o0 : ∀ q ∈ gw_trays, ∀ j, j < 42 → j ∉ [0] → gw_rh q j = none := by decide +kernel
theorem tray_no : ∀ q ∈ gw_trays, ∀ j, j < 42 → gw_rh (q + 1) j = none := by decide +kernel
theorem dX4_init_0 : gw_dc cX4_init 0 (.aload_n 0) 1 1 := ⟨by decide +kernel, rfl⟩
theorem dX4_init_1 : gw_dc cX4_init 1 (.invokespecial 3) 3 4 := ⟨by decide +kernel, rfl⟩
theorem oi_RX4 : Cond.methodLink RX4 3 objectInit ∈ wsG := gw_mem 192 (by decide +kernel) rfl
theorem oi_i : Cond.instanceMethod objectInit ∈ wsG := gw_mem 125 (by decide +kernel) rfl
theorem oi_c : Cond.code objectInit ⟨#[0xb1]⟩ 1 none ∈ wsG := gw_mem 126 (by decide +kernel) rfl
theorem dX4_init_4 : gw_dc cX4_init 4 (.aload_n 0) 1 5 := ⟨by decide +kernel, rfl⟩
theorem dX4_init_5 : gw_dc cX4_init 5 (.iload_n 1) 1 6 := ⟨by decide +kernel, rfl⟩
theorem dX4_init_6 : gw_dc cX4_init 6 (.ifCond .le 7) 3 9 := ⟨by decide +kernel, rfl⟩
theorem dX4_init_9 : gw_dc cX4_init 9 (.iload_n 1) 1 10 := ⟨by decide +kernel, rfl⟩
theorem dX4_init_10 : gw_dc cX4_init 10 (.goto 4) 3 13 := ⟨by decide +kernel, rfl⟩
theorem dX4_init_14 : gw_dc cX4_init 14 (.newarray .int) 2 16 := ⟨by decide +kernel, rfl⟩
theorem ac_int : Cond.arrayClass .int ∈ wsG := gw_mem 197 (by decide +kernel) rfl
theorem dX4_init_16 : gw_dc cX4_init 16 (.putfield 9) 3 19 := ⟨by decide +kernel, rfl⟩
theorem pf_RX4_9 : gw_pf RX4 9 4 0 1 := ⟨_, _, _, ck_4, by decide, gw_mem 193 (by decide +kernel) rfl, rfl, rfl, Or.inr ⟨_, rfl⟩, by decide⟩
theorem dX4_init_19 : decode cX4_init 19 = .ok (.return_, 1) := by decide +kernel
theorem dX0_init_0 : gw_dc cX0_init 0 (.aload_n 0) 1 1 := ⟨by decide +kernel, rfl⟩
theorem dX0_init_1 : gw_dc cX0_init 1 (.invokespecial 3) 3 4 := ⟨by decide +kernel, rfl⟩
theorem oi_RX0 : Cond.methodLink RX0 3 objectInit ∈ wsG := gw_mem 186 (by decide +kernel) rfl
theorem dX0_init_4 : gw_dc cX0_init 4 (.aload_n 0) 1 5 := ⟨by decide +kernel, rfl⟩
theorem dX0_init_5 : gw_dc cX0_init 5 (.new 9) 3 8 := ⟨by decide +kernel, rfl⟩
theorem cl_RX0_9 : Cond.classLink RX0 9 "LightestSack$Row" ∈ wsG := gw_mem 187 (by decide +kernel) rfl
theorem ii_4 : Cond.instantiable RX4 1 ∈ wsG := gw_mem 188 (by decide +kernel) rfl
theorem ij_4 : Cond.initialized RX4 ∈ wsG := gw_mem 100 (by decide +kernel) rfl
theorem dX0_init_8 : gw_dc cX0_init 8 (.dup) 1 9 := ⟨by decide +kernel, rfl⟩
theorem dX0_init_9 : gw_dc cX0_init 9 (.bipush 8) 2 11 := ⟨by decide +kernel, rfl⟩
theorem dX0_init_11 : gw_dc cX0_init 11 (.invokespecial 11) 3 14 := ⟨by decide +kernel, rfl⟩
theorem mi_RX0_11 : gw_mi RX0 11 yX4_init := ⟨rfl, gw_mem 190 (by decide +kernel) rfl, Or.inl (gw_mem 189 (by decide +kernel) rfl)⟩
theorem my_X4_init : gw_my yX4_init cX4_init 2 none 1 := ⟨gw_mem 191 (by decide +kernel) rfl, gw_mem 100 (by decide +kernel) rfl, by decide +kernel, by decide⟩
theorem dX0_init_14 : gw_dc cX0_init 14 (.putfield 14) 3 17 := ⟨by decide +kernel, rfl⟩
theorem pf_RX0_14 : gw_pf RX0 14 0 0 3 := ⟨_, _, _, ck_0, by decide, gw_mem 210 (by decide +kernel) rfl, rfl, rfl, Or.inl ⟨_, rfl⟩, by decide⟩
theorem dX0_init_17 : gw_dc cX0_init 17 (.aload_n 0) 1 18 := ⟨by decide +kernel, rfl⟩
theorem dX0_init_18 : gw_dc cX0_init 18 (.iconst 0) 1 19 := ⟨by decide +kernel, rfl⟩
theorem dX0_init_19 : gw_dc cX0_init 19 (.invokevirtual 20) 3 22 := ⟨by decide +kernel, rfl⟩
theorem mv_RX0_20 : gw_mv RX0 20 yX0_setOne := ⟨gw_mem 198 (by decide +kernel) rfl, gw_mem 199 (by decide +kernel) rfl, gw_mem 200 (by decide +kernel) rfl⟩
theorem dX0_init_22 : decode cX0_init 22 = .ok (.return_, 1) := by decide +kernel
theorem dX1_init_0 : gw_dc cX1_init 0 (.aload_n 0) 1 1 := ⟨by decide +kernel, rfl⟩
theorem dX1_init_1 : gw_dc cX1_init 1 (.invokespecial 3) 3 4 := ⟨by decide +kernel, rfl⟩
theorem oi_RX1 : Cond.methodLink RX1 3 objectInit ∈ wsG := gw_mem 180 (by decide +kernel) rfl
theorem dX1_init_4 : gw_dc cX1_init 4 (.aload_n 0) 1 5 := ⟨by decide +kernel, rfl⟩
theorem dX1_init_5 : gw_dc cX1_init 5 (.new 9) 3 8 := ⟨by decide +kernel, rfl⟩
theorem cl_RX1_9 : Cond.classLink RX1 9 "LightestSack$Law" ∈ wsG := gw_mem 181 (by decide +kernel) rfl
theorem ii_0 : Cond.instantiable RX0 3 ∈ wsG := gw_mem 182 (by decide +kernel) rfl
theorem ij_0 : Cond.initialized RX0 ∈ wsG := gw_mem 99 (by decide +kernel) rfl
theorem dX1_init_8 : gw_dc cX1_init 8 (.dup) 1 9 := ⟨by decide +kernel, rfl⟩
theorem dX1_init_9 : gw_dc cX1_init 9 (.invokespecial 11) 3 12 := ⟨by decide +kernel, rfl⟩
theorem mi_RX1_11 : gw_mi RX1 11 yX0_init := ⟨rfl, gw_mem 184 (by decide +kernel) rfl, Or.inl (gw_mem 183 (by decide +kernel) rfl)⟩
theorem my_X0_init : gw_my yX0_init cX0_init 1 none 0 := ⟨gw_mem 185 (by decide +kernel) rfl, gw_mem 99 (by decide +kernel) rfl, by decide +kernel, by decide⟩
theorem dX1_init_12 : gw_dc cX1_init 12 (.putfield 12) 3 15 := ⟨by decide +kernel, rfl⟩
theorem pf_RX1_12 : gw_pf RX1 12 1 0 16 := ⟨_, _, _, ck_1, by decide, gw_mem 229 (by decide +kernel) rfl, rfl, rfl, Or.inl ⟨_, rfl⟩, by decide⟩
theorem dX1_init_15 : gw_dc cX1_init 15 (.aload_n 0) 1 16 := ⟨by decide +kernel, rfl⟩
theorem dX1_init_16 : gw_dc cX1_init 16 (.new 18) 3 19 := ⟨by decide +kernel, rfl⟩
theorem cl_RX1_18 : Cond.classLink RX1 18 "LightestSack$Row" ∈ wsG := gw_mem 227 (by decide +kernel) rfl
theorem dX1_init_19 : gw_dc cX1_init 19 (.dup) 1 20 := ⟨by decide +kernel, rfl⟩
theorem dX1_init_20 : gw_dc cX1_init 20 (.iconst 3) 1 21 := ⟨by decide +kernel, rfl⟩
theorem dX1_init_21 : gw_dc cX1_init 21 (.invokespecial 20) 3 24 := ⟨by decide +kernel, rfl⟩
theorem mi_RX1_20 : gw_mi RX1 20 yX4_init := ⟨rfl, gw_mem 190 (by decide +kernel) rfl, Or.inl (gw_mem 228 (by decide +kernel) rfl)⟩
theorem dX1_init_24 : gw_dc cX1_init 24 (.putfield 23) 3 27 := ⟨by decide +kernel, rfl⟩
theorem pf_RX1_23 : gw_pf RX1 23 1 7 16 := ⟨_, _, _, ck_1, by decide, gw_mem 255 (by decide +kernel) rfl, rfl, rfl, Or.inl ⟨_, rfl⟩, by decide⟩
theorem dX1_init_27 : gw_dc cX1_init 27 (.aload_n 0) 1 28 := ⟨by decide +kernel, rfl⟩
theorem dX1_init_28 : gw_dc cX1_init 28 (.new 18) 3 31 := ⟨by decide +kernel, rfl⟩
theorem dX1_init_31 : gw_dc cX1_init 31 (.dup) 1 32 := ⟨by decide +kernel, rfl⟩
theorem dX1_init_32 : gw_dc cX1_init 32 (.bipush 60) 2 34 := ⟨by decide +kernel, rfl⟩
theorem dX1_init_34 : gw_dc cX1_init 34 (.invokespecial 20) 3 37 := ⟨by decide +kernel, rfl⟩
theorem dX1_init_37 : gw_dc cX1_init 37 (.putfield 27) 3 40 := ⟨by decide +kernel, rfl⟩
theorem pf_RX1_27 : gw_pf RX1 27 1 8 16 := ⟨_, _, _, ck_1, by decide, gw_mem 258 (by decide +kernel) rfl, rfl, rfl, Or.inl ⟨_, rfl⟩, by decide⟩
theorem dX1_init_40 : gw_dc cX1_init 40 (.aload_n 0) 1 41 := ⟨by decide +kernel, rfl⟩
theorem dX1_init_41 : gw_dc cX1_init 41 (.new 18) 3 44 := ⟨by decide +kernel, rfl⟩
theorem dX1_init_44 : gw_dc cX1_init 44 (.dup) 1 45 := ⟨by decide +kernel, rfl⟩
theorem dX1_init_45 : gw_dc cX1_init 45 (.bipush 60) 2 47 := ⟨by decide +kernel, rfl⟩
theorem dX1_init_47 : gw_dc cX1_init 47 (.invokespecial 20) 3 50 := ⟨by decide +kernel, rfl⟩
theorem dX1_init_50 : gw_dc cX1_init 50 (.putfield 30) 3 53 := ⟨by decide +kernel, rfl⟩
theorem pf_RX1_30 : gw_pf RX1 30 1 9 16 := ⟨_, _, _, ck_1, by decide, gw_mem 261 (by decide +kernel) rfl, rfl, rfl, Or.inl ⟨_, rfl⟩, by decide⟩
theorem dX1_init_53 : gw_dc cX1_init 53 (.aload_n 0) 1 54 := ⟨by decide +kernel, rfl⟩
theorem dX1_init_54 : gw_dc cX1_init 54 (.new 18) 3 57 := ⟨by decide +kernel, rfl⟩
theorem dX1_init_57 : gw_dc cX1_init 57 (.dup) 1 58 := ⟨by decide +kernel, rfl⟩
theorem dX1_init_58 : gw_dc cX1_init 58 (.bipush 60) 2 60 := ⟨by decide +kernel, rfl⟩
theorem dX1_init_60 : gw_dc cX1_init 60 (.invokespecial 20) 3 63 := ⟨by decide +kernel, rfl⟩
theorem dX1_init_63 : gw_dc cX1_init 63 (.putfield 33) 3 66 := ⟨by decide +kernel, rfl⟩
theorem pf_RX1_33 : gw_pf RX1 33 1 10 16 := ⟨_, _, _, ck_1, by decide, gw_mem 264 (by decide +kernel) rfl, rfl, rfl, Or.inl ⟨_, rfl⟩, by decide⟩
theorem dX1_init_66 : gw_dc cX1_init 66 (.aload_n 0) 1 67 := ⟨by decide +kernel, rfl⟩
theorem dX1_init_67 : gw_dc cX1_init 67 (.new 18) 3 70 := ⟨by decide +kernel, rfl⟩
theorem dX1_init_70 : gw_dc cX1_init 70 (.dup) 1 71 := ⟨by decide +kernel, rfl⟩
theorem dX1_init_71 : gw_dc cX1_init 71 (.bipush 60) 2 73 := ⟨by decide +kernel, rfl⟩
theorem dX1_init_73 : gw_dc cX1_init 73 (.invokespecial 20) 3 76 := ⟨by decide +kernel, rfl⟩
theorem dX1_init_76 : gw_dc cX1_init 76 (.putfield 36) 3 79 := ⟨by decide +kernel, rfl⟩
theorem pf_RX1_36 : gw_pf RX1 36 1 11 16 := ⟨_, _, _, ck_1, by decide, gw_mem 268 (by decide +kernel) rfl, rfl, rfl, Or.inl ⟨_, rfl⟩, by decide⟩
theorem dX1_init_79 : gw_dc cX1_init 79 (.aload_n 0) 1 80 := ⟨by decide +kernel, rfl⟩
theorem dX1_init_80 : gw_dc cX1_init 80 (.new 18) 3 83 := ⟨by decide +kernel, rfl⟩
theorem dX1_init_83 : gw_dc cX1_init 83 (.dup) 1 84 := ⟨by decide +kernel, rfl⟩
theorem dX1_init_84 : gw_dc cX1_init 84 (.bipush 60) 2 86 := ⟨by decide +kernel, rfl⟩
theorem dX1_init_86 : gw_dc cX1_init 86 (.invokespecial 20) 3 89 := ⟨by decide +kernel, rfl⟩
theorem dX1_init_89 : gw_dc cX1_init 89 (.putfield 39) 3 92 := ⟨by decide +kernel, rfl⟩
theorem pf_RX1_39 : gw_pf RX1 39 1 12 16 := ⟨_, _, _, ck_1, by decide, gw_mem 272 (by decide +kernel) rfl, rfl, rfl, Or.inl ⟨_, rfl⟩, by decide⟩
theorem dX1_init_92 : gw_dc cX1_init 92 (.aload_n 0) 1 93 := ⟨by decide +kernel, rfl⟩
theorem dX1_init_93 : gw_dc cX1_init 93 (.new 18) 3 96 := ⟨by decide +kernel, rfl⟩
theorem dX1_init_96 : gw_dc cX1_init 96 (.dup) 1 97 := ⟨by decide +kernel, rfl⟩
theorem dX1_init_97 : gw_dc cX1_init 97 (.bipush 60) 2 99 := ⟨by decide +kernel, rfl⟩
theorem dX1_init_99 : gw_dc cX1_init 99 (.invokespecial 20) 3 102 := ⟨by decide +kernel, rfl⟩
theorem dX1_init_102 : gw_dc cX1_init 102 (.putfield 42) 3 105 := ⟨by decide +kernel, rfl⟩
theorem pf_RX1_42 : gw_pf RX1 42 1 13 16 := ⟨_, _, _, ck_1, by decide, gw_mem 277 (by decide +kernel) rfl, rfl, rfl, Or.inl ⟨_, rfl⟩, by decide⟩
theorem dX1_init_105 : gw_dc cX1_init 105 (.aload_n 0) 1 106 := ⟨by decide +kernel, rfl⟩
theorem dX1_init_106 : gw_dc cX1_init 106 (.new 18) 3 109 := ⟨by decide +kernel, rfl⟩
theorem dX1_init_109 : gw_dc cX1_init 109 (.dup) 1 110 := ⟨by decide +kernel, rfl⟩
theorem dX1_init_110 : gw_dc cX1_init 110 (.bipush 60) 2 112 := ⟨by decide +kernel, rfl⟩
theorem dX1_init_112 : gw_dc cX1_init 112 (.invokespecial 20) 3 115 := ⟨by decide +kernel, rfl⟩
theorem dX1_init_115 : gw_dc cX1_init 115 (.putfield 45) 3 118 := ⟨by decide +kernel, rfl⟩
theorem pf_RX1_45 : gw_pf RX1 45 1 14 16 := ⟨_, _, _, ck_1, by decide, gw_mem 280 (by decide +kernel) rfl, rfl, rfl, Or.inl ⟨_, rfl⟩, by decide⟩
theorem dX1_init_118 : gw_dc cX1_init 118 (.aload_n 0) 1 119 := ⟨by decide +kernel, rfl⟩
theorem dX1_init_119 : gw_dc cX1_init 119 (.new 18) 3 122 := ⟨by decide +kernel, rfl⟩
theorem dX1_init_122 : gw_dc cX1_init 122 (.dup) 1 123 := ⟨by decide +kernel, rfl⟩
theorem dX1_init_123 : gw_dc cX1_init 123 (.sipush 480) 3 126 := ⟨by decide +kernel, rfl⟩
theorem dX1_init_126 : gw_dc cX1_init 126 (.invokespecial 20) 3 129 := ⟨by decide +kernel, rfl⟩
theorem dX1_init_129 : gw_dc cX1_init 129 (.putfield 48) 3 132 := ⟨by decide +kernel, rfl⟩
theorem pf_RX1_48 : gw_pf RX1 48 1 15 16 := ⟨_, _, _, ck_1, by decide, gw_mem 284 (by decide +kernel) rfl, rfl, rfl, Or.inl ⟨_, rfl⟩, by decide⟩
theorem dX1_init_132 : decode cX1_init 132 = .ok (.return_, 1) := by decide +kernel
theorem dX5_init_0 : gw_dc cX5_init 0 (.aload_n 0) 1 1 := ⟨by decide +kernel, rfl⟩
theorem dX5_init_1 : gw_dc cX5_init 1 (.invokespecial 3) 3 4 := ⟨by decide +kernel, rfl⟩
theorem oi_RX5 : Cond.methodLink RX5 3 objectInit ∈ wsG := gw_mem 323 (by decide +kernel) rfl
theorem dX5_init_4 : gw_dc cX5_init 4 (.aload_n 0) 1 5 := ⟨by decide +kernel, rfl⟩
theorem dX5_init_5 : gw_dc cX5_init 5 (.new 9) 3 8 := ⟨by decide +kernel, rfl⟩
theorem cl_RX5_9 : Cond.classLink RX5 9 "LightestSack$Row" ∈ wsG := gw_mem 324 (by decide +kernel) rfl
theorem dX5_init_8 : gw_dc cX5_init 8 (.dup) 1 9 := ⟨by decide +kernel, rfl⟩
theorem dX5_init_9 : gw_dc cX5_init 9 (.bipush 60) 2 11 := ⟨by decide +kernel, rfl⟩
theorem dX5_init_11 : gw_dc cX5_init 11 (.invokespecial 11) 3 14 := ⟨by decide +kernel, rfl⟩
theorem mi_RX5_11 : gw_mi RX5 11 yX4_init := ⟨rfl, gw_mem 190 (by decide +kernel) rfl, Or.inl (gw_mem 325 (by decide +kernel) rfl)⟩
theorem dX5_init_14 : gw_dc cX5_init 14 (.putfield 14) 3 17 := ⟨by decide +kernel, rfl⟩
theorem pf_RX5_14 : gw_pf RX5 14 5 3 15 := ⟨_, _, _, ck_5, by decide, gw_mem 332 (by decide +kernel) rfl, rfl, rfl, Or.inl ⟨_, rfl⟩, by decide⟩
theorem dX5_init_17 : gw_dc cX5_init 17 (.aload_n 0) 1 18 := ⟨by decide +kernel, rfl⟩
theorem dX5_init_18 : gw_dc cX5_init 18 (.new 9) 3 21 := ⟨by decide +kernel, rfl⟩
theorem dX5_init_21 : gw_dc cX5_init 21 (.dup) 1 22 := ⟨by decide +kernel, rfl⟩
theorem dX5_init_22 : gw_dc cX5_init 22 (.bipush 60) 2 24 := ⟨by decide +kernel, rfl⟩
theorem dX5_init_24 : gw_dc cX5_init 24 (.invokespecial 11) 3 27 := ⟨by decide +kernel, rfl⟩
theorem dX5_init_27 : gw_dc cX5_init 27 (.putfield 20) 3 30 := ⟨by decide +kernel, rfl⟩
theorem pf_RX5_20 : gw_pf RX5 20 5 4 15 := ⟨_, _, _, ck_5, by decide, gw_mem 335 (by decide +kernel) rfl, rfl, rfl, Or.inl ⟨_, rfl⟩, by decide⟩
theorem dX5_init_30 : gw_dc cX5_init 30 (.aload_n 0) 1 31 := ⟨by decide +kernel, rfl⟩
theorem dX5_init_31 : gw_dc cX5_init 31 (.new 9) 3 34 := ⟨by decide +kernel, rfl⟩
theorem dX5_init_34 : gw_dc cX5_init 34 (.dup) 1 35 := ⟨by decide +kernel, rfl⟩
theorem dX5_init_35 : gw_dc cX5_init 35 (.bipush 60) 2 37 := ⟨by decide +kernel, rfl⟩
theorem dX5_init_37 : gw_dc cX5_init 37 (.invokespecial 11) 3 40 := ⟨by decide +kernel, rfl⟩
theorem dX5_init_40 : gw_dc cX5_init 40 (.putfield 23) 3 43 := ⟨by decide +kernel, rfl⟩
theorem pf_RX5_23 : gw_pf RX5 23 5 5 15 := ⟨_, _, _, ck_5, by decide, gw_mem 338 (by decide +kernel) rfl, rfl, rfl, Or.inl ⟨_, rfl⟩, by decide⟩
theorem dX5_init_43 : gw_dc cX5_init 43 (.aload_n 0) 1 44 := ⟨by decide +kernel, rfl⟩
theorem dX5_init_44 : gw_dc cX5_init 44 (.new 9) 3 47 := ⟨by decide +kernel, rfl⟩
theorem dX5_init_47 : gw_dc cX5_init 47 (.dup) 1 48 := ⟨by decide +kernel, rfl⟩
theorem dX5_init_48 : gw_dc cX5_init 48 (.bipush 60) 2 50 := ⟨by decide +kernel, rfl⟩
theorem dX5_init_50 : gw_dc cX5_init 50 (.invokespecial 11) 3 53 := ⟨by decide +kernel, rfl⟩
theorem dX5_init_53 : gw_dc cX5_init 53 (.putfield 26) 3 56 := ⟨by decide +kernel, rfl⟩
theorem pf_RX5_26 : gw_pf RX5 26 5 6 15 := ⟨_, _, _, ck_5, by decide, gw_mem 339 (by decide +kernel) rfl, rfl, rfl, Or.inl ⟨_, rfl⟩, by decide⟩
theorem dX5_init_56 : gw_dc cX5_init 56 (.aload_n 0) 1 57 := ⟨by decide +kernel, rfl⟩
theorem dX5_init_57 : gw_dc cX5_init 57 (.new 9) 3 60 := ⟨by decide +kernel, rfl⟩
theorem dX5_init_60 : gw_dc cX5_init 60 (.dup) 1 61 := ⟨by decide +kernel, rfl⟩
theorem dX5_init_61 : gw_dc cX5_init 61 (.bipush 60) 2 63 := ⟨by decide +kernel, rfl⟩
theorem dX5_init_63 : gw_dc cX5_init 63 (.invokespecial 11) 3 66 := ⟨by decide +kernel, rfl⟩
theorem dX5_init_66 : gw_dc cX5_init 66 (.putfield 29) 3 69 := ⟨by decide +kernel, rfl⟩
theorem pf_RX5_29 : gw_pf RX5 29 5 7 15 := ⟨_, _, _, ck_5, by decide, gw_mem 341 (by decide +kernel) rfl, rfl, rfl, Or.inl ⟨_, rfl⟩, by decide⟩
theorem dX5_init_69 : gw_dc cX5_init 69 (.aload_n 0) 1 70 := ⟨by decide +kernel, rfl⟩
theorem dX5_init_70 : gw_dc cX5_init 70 (.new 9) 3 73 := ⟨by decide +kernel, rfl⟩
theorem dX5_init_73 : gw_dc cX5_init 73 (.dup) 1 74 := ⟨by decide +kernel, rfl⟩
theorem dX5_init_74 : gw_dc cX5_init 74 (.bipush 60) 2 76 := ⟨by decide +kernel, rfl⟩
theorem dX5_init_76 : gw_dc cX5_init 76 (.invokespecial 11) 3 79 := ⟨by decide +kernel, rfl⟩
theorem dX5_init_79 : gw_dc cX5_init 79 (.putfield 32) 3 82 := ⟨by decide +kernel, rfl⟩
theorem pf_RX5_32 : gw_pf RX5 32 5 8 15 := ⟨_, _, _, ck_5, by decide, gw_mem 343 (by decide +kernel) rfl, rfl, rfl, Or.inl ⟨_, rfl⟩, by decide⟩
theorem dX5_init_82 : gw_dc cX5_init 82 (.aload_n 0) 1 83 := ⟨by decide +kernel, rfl⟩
theorem dX5_init_83 : gw_dc cX5_init 83 (.new 9) 3 86 := ⟨by decide +kernel, rfl⟩
theorem dX5_init_86 : gw_dc cX5_init 86 (.dup) 1 87 := ⟨by decide +kernel, rfl⟩
theorem dX5_init_87 : gw_dc cX5_init 87 (.bipush 60) 2 89 := ⟨by decide +kernel, rfl⟩
theorem dX5_init_89 : gw_dc cX5_init 89 (.invokespecial 11) 3 92 := ⟨by decide +kernel, rfl⟩
theorem dX5_init_92 : gw_dc cX5_init 92 (.putfield 35) 3 95 := ⟨by decide +kernel, rfl⟩
theorem pf_RX5_35 : gw_pf RX5 35 5 9 15 := ⟨_, _, _, ck_5, by decide, gw_mem 345 (by decide +kernel) rfl, rfl, rfl, Or.inl ⟨_, rfl⟩, by decide⟩
theorem dX5_init_95 : gw_dc cX5_init 95 (.aload_n 0) 1 96 := ⟨by decide +kernel, rfl⟩
theorem dX5_init_96 : gw_dc cX5_init 96 (.new 9) 3 99 := ⟨by decide +kernel, rfl⟩
theorem dX5_init_99 : gw_dc cX5_init 99 (.dup) 1 100 := ⟨by decide +kernel, rfl⟩
theorem dX5_init_100 : gw_dc cX5_init 100 (.bipush 60) 2 102 := ⟨by decide +kernel, rfl⟩
theorem dX5_init_102 : gw_dc cX5_init 102 (.invokespecial 11) 3 105 := ⟨by decide +kernel, rfl⟩
theorem dX5_init_105 : gw_dc cX5_init 105 (.putfield 38) 3 108 := ⟨by decide +kernel, rfl⟩
theorem pf_RX5_38 : gw_pf RX5 38 5 10 15 := ⟨_, _, _, ck_5, by decide, gw_mem 347 (by decide +kernel) rfl, rfl, rfl, Or.inl ⟨_, rfl⟩, by decide⟩
theorem dX5_init_108 : gw_dc cX5_init 108 (.aload_n 0) 1 109 := ⟨by decide +kernel, rfl⟩
theorem dX5_init_109 : gw_dc cX5_init 109 (.new 9) 3 112 := ⟨by decide +kernel, rfl⟩
theorem dX5_init_112 : gw_dc cX5_init 112 (.dup) 1 113 := ⟨by decide +kernel, rfl⟩
theorem dX5_init_113 : gw_dc cX5_init 113 (.bipush 60) 2 115 := ⟨by decide +kernel, rfl⟩
theorem dX5_init_115 : gw_dc cX5_init 115 (.invokespecial 11) 3 118 := ⟨by decide +kernel, rfl⟩
theorem dX5_init_118 : gw_dc cX5_init 118 (.putfield 41) 3 121 := ⟨by decide +kernel, rfl⟩
theorem pf_RX5_41 : gw_pf RX5 41 5 11 15 := ⟨_, _, _, ck_5, by decide, gw_mem 349 (by decide +kernel) rfl, rfl, rfl, Or.inl ⟨_, rfl⟩, by decide⟩
theorem dX5_init_121 : gw_dc cX5_init 121 (.aload_n 0) 1 122 := ⟨by decide +kernel, rfl⟩
theorem dX5_init_122 : gw_dc cX5_init 122 (.new 9) 3 125 := ⟨by decide +kernel, rfl⟩
theorem dX5_init_125 : gw_dc cX5_init 125 (.dup) 1 126 := ⟨by decide +kernel, rfl⟩
theorem dX5_init_126 : gw_dc cX5_init 126 (.iconst 3) 1 127 := ⟨by decide +kernel, rfl⟩
theorem dX5_init_127 : gw_dc cX5_init 127 (.invokespecial 11) 3 130 := ⟨by decide +kernel, rfl⟩
theorem dX5_init_130 : gw_dc cX5_init 130 (.putfield 44) 3 133 := ⟨by decide +kernel, rfl⟩
theorem pf_RX5_44 : gw_pf RX5 44 5 12 15 := ⟨_, _, _, ck_5, by decide, gw_mem 350 (by decide +kernel) rfl, rfl, rfl, Or.inl ⟨_, rfl⟩, by decide⟩
theorem dX5_init_133 : gw_dc cX5_init 133 (.aload_n 0) 1 134 := ⟨by decide +kernel, rfl⟩
theorem dX5_init_134 : gw_dc cX5_init 134 (.new 9) 3 137 := ⟨by decide +kernel, rfl⟩
theorem dX5_init_137 : gw_dc cX5_init 137 (.dup) 1 138 := ⟨by decide +kernel, rfl⟩
theorem dX5_init_138 : gw_dc cX5_init 138 (.iconst 3) 1 139 := ⟨by decide +kernel, rfl⟩
theorem dX5_init_139 : gw_dc cX5_init 139 (.invokespecial 11) 3 142 := ⟨by decide +kernel, rfl⟩
theorem dX5_init_142 : gw_dc cX5_init 142 (.putfield 47) 3 145 := ⟨by decide +kernel, rfl⟩
theorem pf_RX5_47 : gw_pf RX5 47 5 13 15 := ⟨_, _, _, ck_5, by decide, gw_mem 351 (by decide +kernel) rfl, rfl, rfl, Or.inl ⟨_, rfl⟩, by decide⟩
theorem dX5_init_145 : gw_dc cX5_init 145 (.aload_n 0) 1 146 := ⟨by decide +kernel, rfl⟩
theorem dX5_init_146 : gw_dc cX5_init 146 (.new 9) 3 149 := ⟨by decide +kernel, rfl⟩
theorem dX5_init_149 : gw_dc cX5_init 149 (.dup) 1 150 := ⟨by decide +kernel, rfl⟩
theorem dX5_init_150 : gw_dc cX5_init 150 (.bipush 8) 2 152 := ⟨by decide +kernel, rfl⟩
theorem dX5_init_152 : gw_dc cX5_init 152 (.invokespecial 11) 3 155 := ⟨by decide +kernel, rfl⟩
theorem dX5_init_155 : gw_dc cX5_init 155 (.putfield 50) 3 158 := ⟨by decide +kernel, rfl⟩
theorem pf_RX5_50 : gw_pf RX5 50 5 14 15 := ⟨_, _, _, ck_5, by decide, gw_mem 352 (by decide +kernel) rfl, rfl, rfl, Or.inl ⟨_, rfl⟩, by decide⟩
theorem dX5_init_158 : gw_dc cX5_init 158 (.aload_n 0) 1 159 := ⟨by decide +kernel, rfl⟩
theorem dX5_init_159 : gw_dc cX5_init 159 (.aload_n 1) 1 160 := ⟨by decide +kernel, rfl⟩
theorem dX5_init_160 : gw_dc cX5_init 160 (.putfield 53) 3 163 := ⟨by decide +kernel, rfl⟩
theorem pf_RX5_53 : gw_pf RX5 53 5 0 15 := ⟨_, _, _, ck_5, by decide, gw_mem 326 (by decide +kernel) rfl, rfl, rfl, Or.inl ⟨_, rfl⟩, by decide⟩
theorem dX5_init_163 : decode cX5_init 163 = .ok (.return_, 1) := by decide +kernel
theorem dX7_init_0 : gw_dc cX7_init 0 (.aload_n 0) 1 1 := ⟨by decide +kernel, rfl⟩
theorem dX7_init_1 : gw_dc cX7_init 1 (.invokespecial 3) 3 4 := ⟨by decide +kernel, rfl⟩
theorem oi_RX7 : Cond.methodLink RX7 3 objectInit ∈ wsG := gw_mem 132 (by decide +kernel) rfl
theorem dX7_init_4 : gw_dc cX7_init 4 (.aload_n 0) 1 5 := ⟨by decide +kernel, rfl⟩
theorem dX7_init_5 : gw_dc cX7_init 5 (.sipush 900) 3 8 := ⟨by decide +kernel, rfl⟩
theorem dX7_init_8 : gw_dc cX7_init 8 (.newarray .byte) 2 10 := ⟨by decide +kernel, rfl⟩
theorem ac_byte : Cond.arrayClass .byte ∈ wsG := gw_mem 141 (by decide +kernel) rfl
theorem dX7_init_10 : gw_dc cX7_init 10 (.putfield 9) 3 13 := ⟨by decide +kernel, rfl⟩
theorem pf_RX7_9 : gw_pf RX7 9 7 0 2 := ⟨_, _, _, ck_7, by decide, gw_mem 133 (by decide +kernel) rfl, rfl, rfl, Or.inr ⟨_, rfl⟩, by decide⟩
theorem dX7_init_13 : decode cX7_init 13 = .ok (.return_, 1) := by decide +kernel
theorem dX3_init_0 : gw_dc cX3_init 0 (.aload_n 0) 1 1 := ⟨by decide +kernel, rfl⟩
theorem dX3_init_1 : gw_dc cX3_init 1 (.invokespecial 3) 3 4 := ⟨by decide +kernel, rfl⟩
theorem oi_RX3 : Cond.methodLink RX3 3 objectInit ∈ wsG := gw_mem 147 (by decide +kernel) rfl
theorem dX3_init_4 : gw_dc cX3_init 4 (.aload_n 0) 1 5 := ⟨by decide +kernel, rfl⟩
theorem dX3_init_5 : gw_dc cX3_init 5 (.iconst (-1)) 1 6 := ⟨by decide +kernel, rfl⟩
theorem dX3_init_6 : gw_dc cX3_init 6 (.putfield 9) 3 9 := ⟨by decide +kernel, rfl⟩
theorem dX3_init_9 : gw_dc cX3_init 9 (.aload_n 0) 1 10 := ⟨by decide +kernel, rfl⟩
theorem dX3_init_10 : gw_dc cX3_init 10 (.aload_n 1) 1 11 := ⟨by decide +kernel, rfl⟩
theorem dX3_init_11 : gw_dc cX3_init 11 (.putfield 15) 3 14 := ⟨by decide +kernel, rfl⟩
theorem pf_RX3_15 : gw_pf RX3 15 3 0 8 := ⟨_, _, _, ck_3, by decide, gw_mem 148 (by decide +kernel) rfl, rfl, rfl, Or.inl ⟨_, rfl⟩, by decide⟩
theorem dX3_init_14 : decode cX3_init 14 = .ok (.return_, 1) := by decide +kernel
theorem dX8_init_0 : gw_dc cX8_init 0 (.aload_n 0) 1 1 := ⟨by decide +kernel, rfl⟩
theorem dX8_init_1 : gw_dc cX8_init 1 (.invokespecial 3) 3 4 := ⟨by decide +kernel, rfl⟩
theorem oi_RX8 : Cond.methodLink RX8 3 objectInit ∈ wsG := gw_mem 389 (by decide +kernel) rfl
theorem dX8_init_4 : gw_dc cX8_init 4 (.aload_n 0) 1 5 := ⟨by decide +kernel, rfl⟩
theorem dX8_init_5 : gw_dc cX8_init 5 (.aload_n 1) 1 6 := ⟨by decide +kernel, rfl⟩
theorem dX8_init_6 : gw_dc cX8_init 6 (.putfield 9) 3 9 := ⟨by decide +kernel, rfl⟩
theorem pf_RX8_9 : gw_pf RX8 9 8 0 2 := ⟨_, _, _, ck_8, by decide, gw_mem 390 (by decide +kernel) rfl, rfl, rfl, Or.inl ⟨_, rfl⟩, by decide⟩
theorem dX8_init_9 : gw_dc cX8_init 9 (.aload_n 0) 1 10 := ⟨by decide +kernel, rfl⟩
theorem dX8_init_10 : gw_dc cX8_init 10 (.aload_n 2) 1 11 := ⟨by decide +kernel, rfl⟩
theorem dX8_init_11 : gw_dc cX8_init 11 (.putfield 15) 3 14 := ⟨by decide +kernel, rfl⟩
theorem pf_RX8_15 : gw_pf RX8 15 8 1 2 := ⟨_, _, _, ck_8, by decide, gw_mem 391 (by decide +kernel) rfl, rfl, rfl, Or.inl ⟨_, rfl⟩, by decide⟩
theorem dX8_init_14 : decode cX8_init 14 = .ok (.return_, 1) := by decide +kernel
theorem dX2_init_0 : gw_dc cX2_init 0 (.aload_n 0) 1 1 := ⟨by decide +kernel, rfl⟩
theorem dX2_init_1 : gw_dc cX2_init 1 (.invokespecial 3) 3 4 := ⟨by decide +kernel, rfl⟩
theorem oi_RX2 : Cond.methodLink RX2 3 objectInit ∈ wsG := gw_mem 402 (by decide +kernel) rfl
theorem dX2_init_4 : gw_dc cX2_init 4 (.aload_n 0) 1 5 := ⟨by decide +kernel, rfl⟩
theorem dX2_init_5 : gw_dc cX2_init 5 (.new 9) 3 8 := ⟨by decide +kernel, rfl⟩
theorem cl_RX2_9 : Cond.classLink RX2 9 "LightestSack$Row" ∈ wsG := gw_mem 403 (by decide +kernel) rfl
theorem dX2_init_8 : gw_dc cX2_init 8 (.dup) 1 9 := ⟨by decide +kernel, rfl⟩
theorem dX2_init_9 : gw_dc cX2_init 9 (.bipush 8) 2 11 := ⟨by decide +kernel, rfl⟩
theorem dX2_init_11 : gw_dc cX2_init 11 (.invokespecial 11) 3 14 := ⟨by decide +kernel, rfl⟩
theorem mi_RX2_11 : gw_mi RX2 11 yX4_init := ⟨rfl, gw_mem 190 (by decide +kernel) rfl, Or.inl (gw_mem 404 (by decide +kernel) rfl)⟩
theorem dX2_init_14 : gw_dc cX2_init 14 (.putfield 14) 3 17 := ⟨by decide +kernel, rfl⟩
theorem pf_RX2_14 : gw_pf RX2 14 2 2 8 := ⟨_, _, _, ck_2, by decide, gw_mem 407 (by decide +kernel) rfl, rfl, rfl, Or.inl ⟨_, rfl⟩, by decide⟩
theorem dX2_init_17 : gw_dc cX2_init 17 (.aload_n 0) 1 18 := ⟨by decide +kernel, rfl⟩
theorem dX2_init_18 : gw_dc cX2_init 18 (.new 9) 3 21 := ⟨by decide +kernel, rfl⟩
theorem dX2_init_21 : gw_dc cX2_init 21 (.dup) 1 22 := ⟨by decide +kernel, rfl⟩
theorem dX2_init_22 : gw_dc cX2_init 22 (.bipush 8) 2 24 := ⟨by decide +kernel, rfl⟩
theorem dX2_init_24 : gw_dc cX2_init 24 (.invokespecial 11) 3 27 := ⟨by decide +kernel, rfl⟩
theorem dX2_init_27 : gw_dc cX2_init 27 (.putfield 20) 3 30 := ⟨by decide +kernel, rfl⟩
theorem pf_RX2_20 : gw_pf RX2 20 2 3 8 := ⟨_, _, _, ck_2, by decide, gw_mem 408 (by decide +kernel) rfl, rfl, rfl, Or.inl ⟨_, rfl⟩, by decide⟩
theorem dX2_init_30 : gw_dc cX2_init 30 (.aload_n 0) 1 31 := ⟨by decide +kernel, rfl⟩
theorem dX2_init_31 : gw_dc cX2_init 31 (.new 9) 3 34 := ⟨by decide +kernel, rfl⟩
theorem dX2_init_34 : gw_dc cX2_init 34 (.dup) 1 35 := ⟨by decide +kernel, rfl⟩
theorem dX2_init_35 : gw_dc cX2_init 35 (.bipush 9) 2 37 := ⟨by decide +kernel, rfl⟩
theorem dX2_init_37 : gw_dc cX2_init 37 (.invokespecial 11) 3 40 := ⟨by decide +kernel, rfl⟩
theorem dX2_init_40 : gw_dc cX2_init 40 (.putfield 23) 3 43 := ⟨by decide +kernel, rfl⟩
theorem pf_RX2_23 : gw_pf RX2 23 2 4 8 := ⟨_, _, _, ck_2, by decide, gw_mem 410 (by decide +kernel) rfl, rfl, rfl, Or.inl ⟨_, rfl⟩, by decide⟩
theorem dX2_init_43 : gw_dc cX2_init 43 (.aload_n 0) 1 44 := ⟨by decide +kernel, rfl⟩
theorem dX2_init_44 : gw_dc cX2_init 44 (.aload_n 1) 1 45 := ⟨by decide +kernel, rfl⟩
theorem dX2_init_45 : gw_dc cX2_init 45 (.putfield 26) 3 48 := ⟨by decide +kernel, rfl⟩
theorem pf_RX2_26 : gw_pf RX2 26 2 0 8 := ⟨_, _, _, ck_2, by decide, gw_mem 405 (by decide +kernel) rfl, rfl, rfl, Or.inl ⟨_, rfl⟩, by decide⟩
theorem dX2_init_48 : gw_dc cX2_init 48 (.aload_n 0) 1 49 := ⟨by decide +kernel, rfl⟩
theorem dX2_init_49 : gw_dc cX2_init 49 (.aload_n 2) 1 50 := ⟨by decide +kernel, rfl⟩
theorem dX2_init_50 : gw_dc cX2_init 50 (.putfield 30) 3 53 := ⟨by decide +kernel, rfl⟩
theorem pf_RX2_30 : gw_pf RX2 30 2 1 8 := ⟨_, _, _, ck_2, by decide, gw_mem 406 (by decide +kernel) rfl, rfl, rfl, Or.inl ⟨_, rfl⟩, by decide⟩
theorem dX2_init_53 : decode cX2_init 53 = .ok (.return_, 1) := by decide +kernel
theorem dX6_init_0 : gw_dc cX6_init 0 (.aload_n 0) 1 1 := ⟨by decide +kernel, rfl⟩
theorem dX6_init_1 : gw_dc cX6_init 1 (.invokespecial 3) 3 4 := ⟨by decide +kernel, rfl⟩
theorem oi_RX6 : Cond.methodLink RX6 3 objectInit ∈ wsG := gw_mem 438 (by decide +kernel) rfl
theorem dX6_init_4 : gw_dc cX6_init 4 (.aload_n 0) 1 5 := ⟨by decide +kernel, rfl⟩
theorem dX6_init_5 : gw_dc cX6_init 5 (.new 9) 3 8 := ⟨by decide +kernel, rfl⟩
theorem cl_RX6_9 : Cond.classLink RX6 9 "LightestSack$Row" ∈ wsG := gw_mem 439 (by decide +kernel) rfl
theorem dX6_init_8 : gw_dc cX6_init 8 (.dup) 1 9 := ⟨by decide +kernel, rfl⟩
theorem dX6_init_9 : gw_dc cX6_init 9 (.bipush 8) 2 11 := ⟨by decide +kernel, rfl⟩
theorem dX6_init_11 : gw_dc cX6_init 11 (.invokespecial 11) 3 14 := ⟨by decide +kernel, rfl⟩
theorem mi_RX6_11 : gw_mi RX6 11 yX4_init := ⟨rfl, gw_mem 190 (by decide +kernel) rfl, Or.inl (gw_mem 440 (by decide +kernel) rfl)⟩
theorem dX6_init_14 : gw_dc cX6_init 14 (.putfield 14) 3 17 := ⟨by decide +kernel, rfl⟩
theorem pf_RX6_14 : gw_pf RX6 14 6 2 10 := ⟨_, _, _, ck_6, by decide, gw_mem 443 (by decide +kernel) rfl, rfl, rfl, Or.inl ⟨_, rfl⟩, by decide⟩
theorem dX6_init_17 : gw_dc cX6_init 17 (.aload_n 0) 1 18 := ⟨by decide +kernel, rfl⟩
theorem dX6_init_18 : gw_dc cX6_init 18 (.new 9) 3 21 := ⟨by decide +kernel, rfl⟩
theorem dX6_init_21 : gw_dc cX6_init 21 (.dup) 1 22 := ⟨by decide +kernel, rfl⟩
theorem dX6_init_22 : gw_dc cX6_init 22 (.bipush 8) 2 24 := ⟨by decide +kernel, rfl⟩
theorem dX6_init_24 : gw_dc cX6_init 24 (.invokespecial 11) 3 27 := ⟨by decide +kernel, rfl⟩
theorem dX6_init_27 : gw_dc cX6_init 27 (.putfield 20) 3 30 := ⟨by decide +kernel, rfl⟩
theorem pf_RX6_20 : gw_pf RX6 20 6 3 10 := ⟨_, _, _, ck_6, by decide, gw_mem 444 (by decide +kernel) rfl, rfl, rfl, Or.inl ⟨_, rfl⟩, by decide⟩
theorem dX6_init_30 : gw_dc cX6_init 30 (.aload_n 0) 1 31 := ⟨by decide +kernel, rfl⟩
theorem dX6_init_31 : gw_dc cX6_init 31 (.new 9) 3 34 := ⟨by decide +kernel, rfl⟩
theorem dX6_init_34 : gw_dc cX6_init 34 (.dup) 1 35 := ⟨by decide +kernel, rfl⟩
theorem dX6_init_35 : gw_dc cX6_init 35 (.bipush 8) 2 37 := ⟨by decide +kernel, rfl⟩
theorem dX6_init_37 : gw_dc cX6_init 37 (.invokespecial 11) 3 40 := ⟨by decide +kernel, rfl⟩
theorem dX6_init_40 : gw_dc cX6_init 40 (.putfield 23) 3 43 := ⟨by decide +kernel, rfl⟩
theorem pf_RX6_23 : gw_pf RX6 23 6 4 10 := ⟨_, _, _, ck_6, by decide, gw_mem 445 (by decide +kernel) rfl, rfl, rfl, Or.inl ⟨_, rfl⟩, by decide⟩
theorem dX6_init_43 : gw_dc cX6_init 43 (.aload_n 0) 1 44 := ⟨by decide +kernel, rfl⟩
theorem dX6_init_44 : gw_dc cX6_init 44 (.new 9) 3 47 := ⟨by decide +kernel, rfl⟩
theorem dX6_init_47 : gw_dc cX6_init 47 (.dup) 1 48 := ⟨by decide +kernel, rfl⟩
theorem dX6_init_48 : gw_dc cX6_init 48 (.bipush 9) 2 50 := ⟨by decide +kernel, rfl⟩
theorem dX6_init_50 : gw_dc cX6_init 50 (.invokespecial 11) 3 53 := ⟨by decide +kernel, rfl⟩
theorem dX6_init_53 : gw_dc cX6_init 53 (.putfield 26) 3 56 := ⟨by decide +kernel, rfl⟩
theorem pf_RX6_26 : gw_pf RX6 26 6 5 10 := ⟨_, _, _, ck_6, by decide, gw_mem 446 (by decide +kernel) rfl, rfl, rfl, Or.inl ⟨_, rfl⟩, by decide⟩
theorem dX6_init_56 : gw_dc cX6_init 56 (.aload_n 0) 1 57 := ⟨by decide +kernel, rfl⟩
theorem dX6_init_57 : gw_dc cX6_init 57 (.new 9) 3 60 := ⟨by decide +kernel, rfl⟩
theorem dX6_init_60 : gw_dc cX6_init 60 (.dup) 1 61 := ⟨by decide +kernel, rfl⟩
theorem dX6_init_61 : gw_dc cX6_init 61 (.bipush 9) 2 63 := ⟨by decide +kernel, rfl⟩
theorem dX6_init_63 : gw_dc cX6_init 63 (.invokespecial 11) 3 66 := ⟨by decide +kernel, rfl⟩
theorem dX6_init_66 : gw_dc cX6_init 66 (.putfield 29) 3 69 := ⟨by decide +kernel, rfl⟩
theorem pf_RX6_29 : gw_pf RX6 29 6 6 10 := ⟨_, _, _, ck_6, by decide, gw_mem 447 (by decide +kernel) rfl, rfl, rfl, Or.inl ⟨_, rfl⟩, by decide⟩
theorem dX6_init_69 : gw_dc cX6_init 69 (.aload_n 0) 1 70 := ⟨by decide +kernel, rfl⟩
theorem dX6_init_70 : gw_dc cX6_init 70 (.new 9) 3 73 := ⟨by decide +kernel, rfl⟩
theorem dX6_init_73 : gw_dc cX6_init 73 (.dup) 1 74 := ⟨by decide +kernel, rfl⟩
theorem dX6_init_74 : gw_dc cX6_init 74 (.bipush 9) 2 76 := ⟨by decide +kernel, rfl⟩
theorem dX6_init_76 : gw_dc cX6_init 76 (.invokespecial 11) 3 79 := ⟨by decide +kernel, rfl⟩
theorem dX6_init_79 : gw_dc cX6_init 79 (.putfield 32) 3 82 := ⟨by decide +kernel, rfl⟩
theorem pf_RX6_32 : gw_pf RX6 32 6 7 10 := ⟨_, _, _, ck_6, by decide, gw_mem 448 (by decide +kernel) rfl, rfl, rfl, Or.inl ⟨_, rfl⟩, by decide⟩
theorem dX6_init_82 : gw_dc cX6_init 82 (.aload_n 0) 1 83 := ⟨by decide +kernel, rfl⟩
theorem dX6_init_83 : gw_dc cX6_init 83 (.new 9) 3 86 := ⟨by decide +kernel, rfl⟩
theorem dX6_init_86 : gw_dc cX6_init 86 (.dup) 1 87 := ⟨by decide +kernel, rfl⟩
theorem dX6_init_87 : gw_dc cX6_init 87 (.bipush 8) 2 89 := ⟨by decide +kernel, rfl⟩
theorem dX6_init_89 : gw_dc cX6_init 89 (.invokespecial 11) 3 92 := ⟨by decide +kernel, rfl⟩
theorem dX6_init_92 : gw_dc cX6_init 92 (.putfield 35) 3 95 := ⟨by decide +kernel, rfl⟩
theorem pf_RX6_35 : gw_pf RX6 35 6 8 10 := ⟨_, _, _, ck_6, by decide, gw_mem 449 (by decide +kernel) rfl, rfl, rfl, Or.inl ⟨_, rfl⟩, by decide⟩
theorem dX6_init_95 : gw_dc cX6_init 95 (.aload_n 0) 1 96 := ⟨by decide +kernel, rfl⟩
theorem dX6_init_96 : gw_dc cX6_init 96 (.aload_n 1) 1 97 := ⟨by decide +kernel, rfl⟩
theorem dX6_init_97 : gw_dc cX6_init 97 (.putfield 38) 3 100 := ⟨by decide +kernel, rfl⟩
theorem pf_RX6_38 : gw_pf RX6 38 6 0 10 := ⟨_, _, _, ck_6, by decide, gw_mem 441 (by decide +kernel) rfl, rfl, rfl, Or.inl ⟨_, rfl⟩, by decide⟩
theorem dX6_init_100 : gw_dc cX6_init 100 (.aload_n 0) 1 101 := ⟨by decide +kernel, rfl⟩
theorem dX6_init_101 : gw_dc cX6_init 101 (.aload_n 2) 1 102 := ⟨by decide +kernel, rfl⟩
theorem dX6_init_102 : gw_dc cX6_init 102 (.putfield 42) 3 105 := ⟨by decide +kernel, rfl⟩
theorem pf_RX6_42 : gw_pf RX6 42 6 1 10 := ⟨_, _, _, ck_6, by decide, gw_mem 442 (by decide +kernel) rfl, rfl, rfl, Or.inl ⟨_, rfl⟩, by decide⟩
theorem dX6_init_105 : decode cX6_init 105 = .ok (.return_, 1) := by decide +kernel
theorem dX9_init_0 : gw_dc cX9_init 0 (.aload_n 0) 1 1 := ⟨by decide +kernel, rfl⟩
theorem dX9_init_1 : gw_dc cX9_init 1 (.invokespecial 3) 3 4 := ⟨by decide +kernel, rfl⟩
theorem oi_RX9 : Cond.methodLink RX9 3 objectInit ∈ wsG := gw_mem 483 (by decide +kernel) rfl
theorem dX9_init_4 : gw_dc cX9_init 4 (.aload_n 0) 1 5 := ⟨by decide +kernel, rfl⟩
theorem dX9_init_5 : gw_dc cX9_init 5 (.bipush 60) 2 7 := ⟨by decide +kernel, rfl⟩
theorem dX9_init_7 : gw_dc cX9_init 7 (.newarray .long) 2 9 := ⟨by decide +kernel, rfl⟩
theorem ac_long : Cond.arrayClass .long ∈ wsG := gw_mem 495 (by decide +kernel) rfl
theorem dX9_init_9 : gw_dc cX9_init 9 (.putfield 9) 3 12 := ⟨by decide +kernel, rfl⟩
theorem pf_RX9_9 : gw_pf RX9 9 9 0 3 := ⟨_, _, _, ck_9, by decide, gw_mem 484 (by decide +kernel) rfl, rfl, rfl, Or.inr ⟨_, rfl⟩, by decide⟩
theorem dX9_init_12 : gw_dc cX9_init 12 (.aload_n 0) 1 13 := ⟨by decide +kernel, rfl⟩
theorem dX9_init_13 : gw_dc cX9_init 13 (.iconst (-1)) 1 14 := ⟨by decide +kernel, rfl⟩
theorem dX9_init_14 : gw_dc cX9_init 14 (.putfield 15) 3 17 := ⟨by decide +kernel, rfl⟩
theorem dX9_init_17 : decode cX9_init 17 = .ok (.return_, 1) := by decide +kernel
set_option maxRecDepth 4000 in
theorem s_X4_init (ad : Nat → Nat) (σ : Sg) (ρ : Rf) {o len : Nat} (hr : (o, len) ∈ gw_rows) (hσ : ∀ i, o ≤ i → ∀ j, σ i j = 0) : gw_Sp yX4_init cX4_init 2 none 1 1 len [vR (some o), vI ((len : Nat) : Int)] (o + 1, ad, rM ρ o [] (o + 1)) σ (gw_Cn o 2 ρ σ) gw_no := by
  refine gw_Sp.of [some (vR (some o)), some (vI ((len : Nat) : Int))] (by decide +kernel) rfl (Nat.le_of_ble_eq_true rfl) ?_
  intro X G fx het hnm
  refine g_aload_n fx dX4_init_0 rfl ?_
  refine g_objInit fx dX4_init_1 oi_RX4 oi_i oi_c (Nat.le_of_ble_eq_true rfl) (Nat.le_of_ble_eq_true rfl) ?_
  refine g_aload_n fx dX4_init_4 rfl ?_
  refine g_iload_n fx dX4_init_5 rfl ?_
  refine g_if_le (tgt := 13) fx dX4_init_6 (by decide) (fun hz0 => absurd hz0 (by have := row_po _ hr; omega)) (fun _ => ?_)
  refine g_iload_n fx dX4_init_9 rfl ?_
  refine g_goto (tgt := 14) fx dX4_init_10 (by decide) ?_
  refine g_newIN (n := o + 1) (n' := o + 2) (Ln := len) (kc' := 1) (ks' := len) fx dX4_init_14 ac_int ((row_all _ hr).2.2.1.2) rfl (by have := row_n hr; omega) (fun j => hσ _ (by omega) j) (by omega) (rh_nil (row_no _ hr)) (by omega) ⟨rfl, by omega⟩ ⟨Nat.le_of_ble_eq_true rfl, Nat.le_refl _⟩ (fun ad1 h1 => ?_)
  refine g_putN fx hnm dX4_init_16 pf_RX4_9 (by omega) ((row_all _ hr).1.2) ((row_all _ hr).2.1) ?_
  exact g_vret fx rfl dX4_init_19 (by decide) (Nat.le_refl _) (((adL.rf _ _).trans h1).le _ _) ⟨rfl, ⟨_, by rw [rM_all (by omega) (fun j hj hn => row_o0 _ hr j hj hn)]⟩, rfl⟩
/-- the law at first -/
def zLW (σ : Sg) (w : Nat) : Sg := lAdd (su σ w 1 0) w 0
theorem zLW_ne (σ : Sg) {w i : Nat} (h1 : i ≠ w) (h2 : i ≠ w + 2) (j : Nat) : zLW σ w i j = σ i j := by
  unfold zLW lAdd
  rw [su_ne _ _ (Or.inl h1), rPut_ne h2, su_ne _ _ (Or.inl h1)]
set_option maxRecDepth 4000 in
theorem s_X0_init (ad : Nat → Nat) (σ : Sg) (ρ : Rf) {o : Nat} (hw : o ∈ gw_laws) (hσ : ∀ i, o ≤ i → ∀ j, σ i j = 0) : gw_Sp yX0_init cX0_init 1 none 4 2 9 [vR (some o)] (o + 1, ad, rM ρ o [] (o + 1)) σ (gw_Cn o 3 ρ (zLW σ o)) gw_no := by
  refine gw_Sp.of [some (vR (some o))] (by decide +kernel) rfl (Nat.le_of_ble_eq_true rfl) ?_
  intro X G fx het hnm
  refine g_aload_n fx dX0_init_0 rfl ?_
  refine g_objInit fx dX0_init_1 oi_RX0 oi_i oi_c (Nat.le_of_ble_eq_true rfl) (Nat.le_of_ble_eq_true rfl) ?_
  refine g_aload_n fx dX0_init_4 rfl ?_
  refine g_newN (n := o + 1) (kc' := 1) (ks' := 1) fx dX0_init_5 ck_4 cl_RX0_9 ii_4 ij_4 df_4 ((row_all _ (law_h hw)).1.2) (fun j => hσ _ (by omega) j) (by omega) ⟨rfl, rfl⟩ ⟨by decide, by decide⟩ (fun ad1 h1 => ?_)
  refine g_dup fx dX0_init_8 rfl ?_
  refine g_bipush fx dX0_init_9 (by decide) ?_
  refine g_ctorN (n := o + 1) (n' := o + 3) (K := 2) (kc' := 2) (ks' := 9) (as := [vI 8]) (σ' := σ) fx dX0_init_11 mi_RX0_11 my_X4_init (fun ad ρ => s_X4_init ad σ ρ (law_h hw) (fun i hi => hσ i (by omega))) (by omega) (by omega) rfl rfl (Nat.le_of_ble_eq_true rfl) (by decide) ⟨rfl, rfl⟩ ⟨by decide, by decide⟩ (fun ad2 h2 => ?_)
  refine g_putN fx hnm dX0_init_14 pf_RX0_14 (by omega) ((law_all _ hw).1.2) ((law_all _ hw).2.1) ?_
  refine g_aload_n fx dX0_init_17 rfl ?_
  refine g_iconst fx dX0_init_18 (by unfold okI; omega) ?_
  refine g_callVD0 fx dX0_init_19 mv_RX0_20 my_X0_setOne (s_X0_setOneP _ _ ⟨by show _ < _; omega, (law_all _ hw).1.2⟩ (rM_at (by decide) (law_all _ hw).2.1) ⟨by show _ < _; omega, (row_all _ (law_h hw)).1.2⟩ (rM_sb (by omega) (by omega) (row_all _ (law_h hw)).2.1) ⟨by show _ < _; omega, (row_all _ (law_h hw)).2.2.1.2⟩ _) (⟨by show _ < _; omega, (law_all _ hw).1.2⟩) rfl rfl rfl (Nat.le_of_ble_eq_true rfl) (by decide) ⟨by decide, by decide⟩ ?_
  exact g_vret fx rfl dX0_init_22 (by decide) (by decide) ((((adL.rf _ _).trans h1).trans h2).le _ _) ⟨rfl, ⟨_, by rw [rM_all (by omega) (fun j hj hn => law_o0 _ hw j hj hn)]⟩, rfl⟩
set_option maxRecDepth 4000 in
theorem s_X1_init (ad : Nat → Nat) (σ : Sg) (ρ : Rf) {o : Nat} (hm : o ∈ gw_mills) (hσ : ∀ i, o ≤ i → ∀ j, σ i j = 0) : gw_Sp yX1_init cX1_init 1 none 5 21 924 [vR (some o)] (o + 1, ad, rM ρ o [] (o + 1)) σ (gw_Cn o 22 ρ (zLW σ (o + 1))) gw_no := by
  refine gw_Sp.of [some (vR (some o))] (by decide +kernel) rfl (Nat.le_of_ble_eq_true rfl) ?_
  intro X G fx het hnm
  have hz1 : ∀ i, o + 4 ≤ i → ∀ j, zLW σ (o + 1) i j = 0 := fun i hi j => (zLW_ne σ (by omega) (by omega) j).trans (hσ i (by omega) j)
  refine g_aload_n fx dX1_init_0 rfl ?_
  refine g_objInit fx dX1_init_1 oi_RX1 oi_i oi_c (Nat.le_of_ble_eq_true rfl) (Nat.le_of_ble_eq_true rfl) ?_
  refine g_aload_n fx dX1_init_4 rfl ?_
  refine g_newN (n := o + 1) (kc' := 1) (ks' := 3) fx dX1_init_5 ck_0 cl_RX1_9 ii_0 ij_0 df_0 ((law_all _ (mill_h0 hm)).1.2) (fun j => hσ _ (by omega) j) (by omega) ⟨rfl, rfl⟩ ⟨by decide, by decide⟩ (fun ad1 h1 => ?_)
  refine g_dup fx dX1_init_8 rfl ?_
  refine g_ctorN (n := o + 1) (n' := o + 4) (K := 3) (kc' := 3) (ks' := 12) (as := []) (σ' := zLW σ (o + 1)) fx dX1_init_9 mi_RX1_11 my_X0_init (fun ad ρ => s_X0_init ad σ ρ (mill_h0 hm) (fun i hi => hσ i (by omega))) (by omega) (by omega) rfl rfl (Nat.le_of_ble_eq_true rfl) (by decide) ⟨rfl, rfl⟩ ⟨by decide, by decide⟩ (fun ad2 h2 => ?_)
  refine g_putN fx hnm dX1_init_12 pf_RX1_12 (by omega) ((mill_all _ hm).1.2) ((mill_all _ hm).2.1) ?_
  refine g_aload_n fx dX1_init_15 rfl ?_
  refine g_newN (n := o + 4) (kc' := 4) (ks' := 13) fx dX1_init_16 ck_4 cl_RX1_18 ii_4 ij_4 df_4 ((row_all _ (mill_h7 hm)).1.2) (fun j => hz1 _ (by omega) j) (by omega) ⟨rfl, rfl⟩ ⟨by decide, by decide⟩ (fun ad3 h3 => ?_)
  refine g_dup fx dX1_init_19 rfl ?_
  refine g_iconst fx dX1_init_20 (by unfold okI; omega) ?_
  refine g_ctorN (n := o + 4) (n' := o + 6) (K := 2) (kc' := 5) (ks' := 16) (as := [vI 3]) (σ' := zLW σ (o + 1)) fx dX1_init_21 mi_RX1_20 my_X4_init (fun ad ρ => s_X4_init ad (zLW σ (o + 1)) ρ (mill_h7 hm) (fun i hi j => hz1 i (by omega) j)) (by omega) (by omega) rfl rfl (Nat.le_of_ble_eq_true rfl) (by decide) ⟨rfl, rfl⟩ ⟨by decide, by decide⟩ (fun ad4 h4 => ?_)
  refine g_putN fx hnm dX1_init_24 pf_RX1_23 (by omega) ((mill_all _ hm).1.2) (mill_f7 hm) ?_
  refine g_aload_n fx dX1_init_27 rfl ?_
  refine g_newN (n := o + 6) (kc' := 6) (ks' := 17) fx dX1_init_28 ck_4 cl_RX1_18 ii_4 ij_4 df_4 ((row_all _ (mill_h8 hm)).1.2) (fun j => hz1 _ (by omega) j) (by omega) ⟨rfl, rfl⟩ ⟨by decide, by decide⟩ (fun ad5 h5 => ?_)
  refine g_dup fx dX1_init_31 rfl ?_
  refine g_bipush fx dX1_init_32 (by decide) ?_
  refine g_ctorN (n := o + 6) (n' := o + 8) (K := 2) (kc' := 7) (ks' := 77) (as := [vI 60]) (σ' := zLW σ (o + 1)) fx dX1_init_34 mi_RX1_20 my_X4_init (fun ad ρ => s_X4_init ad (zLW σ (o + 1)) ρ (mill_h8 hm) (fun i hi j => hz1 i (by omega) j)) (by omega) (by omega) rfl rfl (Nat.le_of_ble_eq_true rfl) (by decide) ⟨rfl, rfl⟩ ⟨by decide, by decide⟩ (fun ad6 h6 => ?_)
  refine g_putN fx hnm dX1_init_37 pf_RX1_27 (by omega) ((mill_all _ hm).1.2) (mill_f8 hm) ?_
  refine g_aload_n fx dX1_init_40 rfl ?_
  refine g_newN (n := o + 8) (kc' := 8) (ks' := 78) fx dX1_init_41 ck_4 cl_RX1_18 ii_4 ij_4 df_4 ((row_all _ (mill_h9 hm)).1.2) (fun j => hz1 _ (by omega) j) (by omega) ⟨rfl, rfl⟩ ⟨by decide, by decide⟩ (fun ad7 h7 => ?_)
  refine g_dup fx dX1_init_44 rfl ?_
  refine g_bipush fx dX1_init_45 (by decide) ?_
  refine g_ctorN (n := o + 8) (n' := o + 10) (K := 2) (kc' := 9) (ks' := 138) (as := [vI 60]) (σ' := zLW σ (o + 1)) fx dX1_init_47 mi_RX1_20 my_X4_init (fun ad ρ => s_X4_init ad (zLW σ (o + 1)) ρ (mill_h9 hm) (fun i hi j => hz1 i (by omega) j)) (by omega) (by omega) rfl rfl (Nat.le_of_ble_eq_true rfl) (by decide) ⟨rfl, rfl⟩ ⟨by decide, by decide⟩ (fun ad8 h8 => ?_)
  refine g_putN fx hnm dX1_init_50 pf_RX1_30 (by omega) ((mill_all _ hm).1.2) (mill_f9 hm) ?_
  refine g_aload_n fx dX1_init_53 rfl ?_
  refine g_newN (n := o + 10) (kc' := 10) (ks' := 139) fx dX1_init_54 ck_4 cl_RX1_18 ii_4 ij_4 df_4 ((row_all _ (mill_h10 hm)).1.2) (fun j => hz1 _ (by omega) j) (by omega) ⟨rfl, rfl⟩ ⟨by decide, by decide⟩ (fun ad9 h9 => ?_)
  refine g_dup fx dX1_init_57 rfl ?_
  refine g_bipush fx dX1_init_58 (by decide) ?_
  refine g_ctorN (n := o + 10) (n' := o + 12) (K := 2) (kc' := 11) (ks' := 199) (as := [vI 60]) (σ' := zLW σ (o + 1)) fx dX1_init_60 mi_RX1_20 my_X4_init (fun ad ρ => s_X4_init ad (zLW σ (o + 1)) ρ (mill_h10 hm) (fun i hi j => hz1 i (by omega) j)) (by omega) (by omega) rfl rfl (Nat.le_of_ble_eq_true rfl) (by decide) ⟨rfl, rfl⟩ ⟨by decide, by decide⟩ (fun ad10 h10 => ?_)
  refine g_putN fx hnm dX1_init_63 pf_RX1_33 (by omega) ((mill_all _ hm).1.2) (mill_f10 hm) ?_
  refine g_aload_n fx dX1_init_66 rfl ?_
  refine g_newN (n := o + 12) (kc' := 12) (ks' := 200) fx dX1_init_67 ck_4 cl_RX1_18 ii_4 ij_4 df_4 ((row_all _ (mill_h11 hm)).1.2) (fun j => hz1 _ (by omega) j) (by omega) ⟨rfl, rfl⟩ ⟨by decide, by decide⟩ (fun ad11 h11 => ?_)
  refine g_dup fx dX1_init_70 rfl ?_
  refine g_bipush fx dX1_init_71 (by decide) ?_
  refine g_ctorN (n := o + 12) (n' := o + 14) (K := 2) (kc' := 13) (ks' := 260) (as := [vI 60]) (σ' := zLW σ (o + 1)) fx dX1_init_73 mi_RX1_20 my_X4_init (fun ad ρ => s_X4_init ad (zLW σ (o + 1)) ρ (mill_h11 hm) (fun i hi j => hz1 i (by omega) j)) (by omega) (by omega) rfl rfl (Nat.le_of_ble_eq_true rfl) (by decide) ⟨rfl, rfl⟩ ⟨by decide, by decide⟩ (fun ad12 h12 => ?_)
  refine g_putN fx hnm dX1_init_76 pf_RX1_36 (by omega) ((mill_all _ hm).1.2) (mill_f11 hm) ?_
  refine g_aload_n fx dX1_init_79 rfl ?_
  refine g_newN (n := o + 14) (kc' := 14) (ks' := 261) fx dX1_init_80 ck_4 cl_RX1_18 ii_4 ij_4 df_4 ((row_all _ (mill_h12 hm)).1.2) (fun j => hz1 _ (by omega) j) (by omega) ⟨rfl, rfl⟩ ⟨by decide, by decide⟩ (fun ad13 h13 => ?_)
  refine g_dup fx dX1_init_83 rfl ?_
  refine g_bipush fx dX1_init_84 (by decide) ?_
  refine g_ctorN (n := o + 14) (n' := o + 16) (K := 2) (kc' := 15) (ks' := 321) (as := [vI 60]) (σ' := zLW σ (o + 1)) fx dX1_init_86 mi_RX1_20 my_X4_init (fun ad ρ => s_X4_init ad (zLW σ (o + 1)) ρ (mill_h12 hm) (fun i hi j => hz1 i (by omega) j)) (by omega) (by omega) rfl rfl (Nat.le_of_ble_eq_true rfl) (by decide) ⟨rfl, rfl⟩ ⟨by decide, by decide⟩ (fun ad14 h14 => ?_)
  refine g_putN fx hnm dX1_init_89 pf_RX1_39 (by omega) ((mill_all _ hm).1.2) (mill_f12 hm) ?_
  refine g_aload_n fx dX1_init_92 rfl ?_
  refine g_newN (n := o + 16) (kc' := 16) (ks' := 322) fx dX1_init_93 ck_4 cl_RX1_18 ii_4 ij_4 df_4 ((row_all _ (mill_h13 hm)).1.2) (fun j => hz1 _ (by omega) j) (by omega) ⟨rfl, rfl⟩ ⟨by decide, by decide⟩ (fun ad15 h15 => ?_)
  refine g_dup fx dX1_init_96 rfl ?_
  refine g_bipush fx dX1_init_97 (by decide) ?_
  refine g_ctorN (n := o + 16) (n' := o + 18) (K := 2) (kc' := 17) (ks' := 382) (as := [vI 60]) (σ' := zLW σ (o + 1)) fx dX1_init_99 mi_RX1_20 my_X4_init (fun ad ρ => s_X4_init ad (zLW σ (o + 1)) ρ (mill_h13 hm) (fun i hi j => hz1 i (by omega) j)) (by omega) (by omega) rfl rfl (Nat.le_of_ble_eq_true rfl) (by decide) ⟨rfl, rfl⟩ ⟨by decide, by decide⟩ (fun ad16 h16 => ?_)
  refine g_putN fx hnm dX1_init_102 pf_RX1_42 (by omega) ((mill_all _ hm).1.2) (mill_f13 hm) ?_
  refine g_aload_n fx dX1_init_105 rfl ?_
  refine g_newN (n := o + 18) (kc' := 18) (ks' := 383) fx dX1_init_106 ck_4 cl_RX1_18 ii_4 ij_4 df_4 ((row_all _ (mill_h14 hm)).1.2) (fun j => hz1 _ (by omega) j) (by omega) ⟨rfl, rfl⟩ ⟨by decide, by decide⟩ (fun ad17 h17 => ?_)
  refine g_dup fx dX1_init_109 rfl ?_
  refine g_bipush fx dX1_init_110 (by decide) ?_
  refine g_ctorN (n := o + 18) (n' := o + 20) (K := 2) (kc' := 19) (ks' := 443) (as := [vI 60]) (σ' := zLW σ (o + 1)) fx dX1_init_112 mi_RX1_20 my_X4_init (fun ad ρ => s_X4_init ad (zLW σ (o + 1)) ρ (mill_h14 hm) (fun i hi j => hz1 i (by omega) j)) (by omega) (by omega) rfl rfl (Nat.le_of_ble_eq_true rfl) (by decide) ⟨rfl, rfl⟩ ⟨by decide, by decide⟩ (fun ad18 h18 => ?_)
  refine g_putN fx hnm dX1_init_115 pf_RX1_45 (by omega) ((mill_all _ hm).1.2) (mill_f14 hm) ?_
  refine g_aload_n fx dX1_init_118 rfl ?_
  refine g_newN (n := o + 20) (kc' := 20) (ks' := 444) fx dX1_init_119 ck_4 cl_RX1_18 ii_4 ij_4 df_4 ((row_all _ (mill_h15 hm)).1.2) (fun j => hz1 _ (by omega) j) (by omega) ⟨rfl, rfl⟩ ⟨by decide, by decide⟩ (fun ad19 h19 => ?_)
  refine g_dup fx dX1_init_122 rfl ?_
  refine g_sipush fx dX1_init_123 (by decide) ?_
  refine g_ctorN (n := o + 20) (n' := o + 22) (K := 2) (kc' := 21) (ks' := 924) (as := [vI 480]) (σ' := zLW σ (o + 1)) fx dX1_init_126 mi_RX1_20 my_X4_init (fun ad ρ => s_X4_init ad (zLW σ (o + 1)) ρ (mill_h15 hm) (fun i hi j => hz1 i (by omega) j)) (by omega) (by omega) rfl rfl (Nat.le_of_ble_eq_true rfl) (by decide) ⟨rfl, rfl⟩ ⟨by decide, by decide⟩ (fun ad20 h20 => ?_)
  refine g_putN fx hnm dX1_init_129 pf_RX1_48 (by omega) ((mill_all _ hm).1.2) (mill_f15 hm) ?_
  exact g_vret fx rfl dX1_init_132 (by decide) (by decide) ((((((((((((((((((((((adL.rf _ _).trans h1).trans h2).trans h3).trans h4).trans h5).trans h6).trans h7).trans h8).trans h9).trans h10).trans h11).trans h12).trans h13).trans h14).trans h15).trans h16).trans h17).trans h18).trans h19).trans h20).le _ _) ⟨rfl, ⟨_, by rw [rM_all (by omega) (fun j hj hn => mill_o0 _ hm j hj hn)]⟩, rfl⟩
set_option maxRecDepth 4000 in
theorem s_X5_init (ad : Nat → Nat) (σ : Sg) (ρ : Rf) {o m : Nat} (hm : (o, m) ∈ gw_runs) (hσ : ∀ i, o ≤ i → ∀ j, σ i j = 0) : gw_Sp yX5_init cX5_init 2 none 2 24 566 [vR (some o), vR (some m)] (o + 1, ad, rM ρ o [] (o + 1)) σ (gw_Cn o 25 ρ σ) gw_no := by
  refine gw_Sp.of [some (vR (some o)), some (vR (some m))] (by decide +kernel) rfl (Nat.le_of_ble_eq_true rfl) ?_
  intro X G fx het hnm
  refine g_aload_n fx dX5_init_0 rfl ?_
  refine g_objInit fx dX5_init_1 oi_RX5 oi_i oi_c (Nat.le_of_ble_eq_true rfl) (Nat.le_of_ble_eq_true rfl) ?_
  refine g_aload_n fx dX5_init_4 rfl ?_
  refine g_newN (n := o + 1) (kc' := 1) (ks' := 1) fx dX5_init_5 ck_4 cl_RX5_9 ii_4 ij_4 df_4 ((row_all _ (run_h3 hm)).1.2) (fun j => hσ _ (by omega) j) (by omega) ⟨rfl, rfl⟩ ⟨by decide, by decide⟩ (fun ad1 h1 => ?_)
  refine g_dup fx dX5_init_8 rfl ?_
  refine g_bipush fx dX5_init_9 (by decide) ?_
  refine g_ctorN (n := o + 1) (n' := o + 3) (K := 2) (kc' := 2) (ks' := 61) (as := [vI 60]) (σ' := σ) fx dX5_init_11 mi_RX5_11 my_X4_init (fun ad ρ => s_X4_init ad σ ρ (run_h3 hm) (fun i hi => hσ i (by omega))) (by omega) (by omega) rfl rfl (Nat.le_of_ble_eq_true rfl) (by decide) ⟨rfl, rfl⟩ ⟨by decide, by decide⟩ (fun ad2 h2 => ?_)
  refine g_putN fx hnm dX5_init_14 pf_RX5_14 (by omega) ((run_all _ hm).1.2) (run_f3 hm) ?_
  refine g_aload_n fx dX5_init_17 rfl ?_
  refine g_newN (n := o + 3) (kc' := 3) (ks' := 62) fx dX5_init_18 ck_4 cl_RX5_9 ii_4 ij_4 df_4 ((row_all _ (run_h4 hm)).1.2) (fun j => hσ _ (by omega) j) (by omega) ⟨rfl, rfl⟩ ⟨by decide, by decide⟩ (fun ad3 h3 => ?_)
  refine g_dup fx dX5_init_21 rfl ?_
  refine g_bipush fx dX5_init_22 (by decide) ?_
  refine g_ctorN (n := o + 3) (n' := o + 5) (K := 2) (kc' := 4) (ks' := 122) (as := [vI 60]) (σ' := σ) fx dX5_init_24 mi_RX5_11 my_X4_init (fun ad ρ => s_X4_init ad σ ρ (run_h4 hm) (fun i hi => hσ i (by omega))) (by omega) (by omega) rfl rfl (Nat.le_of_ble_eq_true rfl) (by decide) ⟨rfl, rfl⟩ ⟨by decide, by decide⟩ (fun ad4 h4 => ?_)
  refine g_putN fx hnm dX5_init_27 pf_RX5_20 (by omega) ((run_all _ hm).1.2) (run_f4 hm) ?_
  refine g_aload_n fx dX5_init_30 rfl ?_
  refine g_newN (n := o + 5) (kc' := 5) (ks' := 123) fx dX5_init_31 ck_4 cl_RX5_9 ii_4 ij_4 df_4 ((row_all _ (run_h5 hm)).1.2) (fun j => hσ _ (by omega) j) (by omega) ⟨rfl, rfl⟩ ⟨by decide, by decide⟩ (fun ad5 h5 => ?_)
  refine g_dup fx dX5_init_34 rfl ?_
  refine g_bipush fx dX5_init_35 (by decide) ?_
  refine g_ctorN (n := o + 5) (n' := o + 7) (K := 2) (kc' := 6) (ks' := 183) (as := [vI 60]) (σ' := σ) fx dX5_init_37 mi_RX5_11 my_X4_init (fun ad ρ => s_X4_init ad σ ρ (run_h5 hm) (fun i hi => hσ i (by omega))) (by omega) (by omega) rfl rfl (Nat.le_of_ble_eq_true rfl) (by decide) ⟨rfl, rfl⟩ ⟨by decide, by decide⟩ (fun ad6 h6 => ?_)
  refine g_putN fx hnm dX5_init_40 pf_RX5_23 (by omega) ((run_all _ hm).1.2) (run_f5 hm) ?_
  refine g_aload_n fx dX5_init_43 rfl ?_
  refine g_newN (n := o + 7) (kc' := 7) (ks' := 184) fx dX5_init_44 ck_4 cl_RX5_9 ii_4 ij_4 df_4 ((row_all _ (run_h6 hm)).1.2) (fun j => hσ _ (by omega) j) (by omega) ⟨rfl, rfl⟩ ⟨by decide, by decide⟩ (fun ad7 h7 => ?_)
  refine g_dup fx dX5_init_47 rfl ?_
  refine g_bipush fx dX5_init_48 (by decide) ?_
  refine g_ctorN (n := o + 7) (n' := o + 9) (K := 2) (kc' := 8) (ks' := 244) (as := [vI 60]) (σ' := σ) fx dX5_init_50 mi_RX5_11 my_X4_init (fun ad ρ => s_X4_init ad σ ρ (run_h6 hm) (fun i hi => hσ i (by omega))) (by omega) (by omega) rfl rfl (Nat.le_of_ble_eq_true rfl) (by decide) ⟨rfl, rfl⟩ ⟨by decide, by decide⟩ (fun ad8 h8 => ?_)
  refine g_putN fx hnm dX5_init_53 pf_RX5_26 (by omega) ((run_all _ hm).1.2) (run_f6 hm) ?_
  refine g_aload_n fx dX5_init_56 rfl ?_
  refine g_newN (n := o + 9) (kc' := 9) (ks' := 245) fx dX5_init_57 ck_4 cl_RX5_9 ii_4 ij_4 df_4 ((row_all _ (run_h7 hm)).1.2) (fun j => hσ _ (by omega) j) (by omega) ⟨rfl, rfl⟩ ⟨by decide, by decide⟩ (fun ad9 h9 => ?_)
  refine g_dup fx dX5_init_60 rfl ?_
  refine g_bipush fx dX5_init_61 (by decide) ?_
  refine g_ctorN (n := o + 9) (n' := o + 11) (K := 2) (kc' := 10) (ks' := 305) (as := [vI 60]) (σ' := σ) fx dX5_init_63 mi_RX5_11 my_X4_init (fun ad ρ => s_X4_init ad σ ρ (run_h7 hm) (fun i hi => hσ i (by omega))) (by omega) (by omega) rfl rfl (Nat.le_of_ble_eq_true rfl) (by decide) ⟨rfl, rfl⟩ ⟨by decide, by decide⟩ (fun ad10 h10 => ?_)
  refine g_putN fx hnm dX5_init_66 pf_RX5_29 (by omega) ((run_all _ hm).1.2) (run_f7 hm) ?_
  refine g_aload_n fx dX5_init_69 rfl ?_
  refine g_newN (n := o + 11) (kc' := 11) (ks' := 306) fx dX5_init_70 ck_4 cl_RX5_9 ii_4 ij_4 df_4 ((row_all _ (run_h8 hm)).1.2) (fun j => hσ _ (by omega) j) (by omega) ⟨rfl, rfl⟩ ⟨by decide, by decide⟩ (fun ad11 h11 => ?_)
  refine g_dup fx dX5_init_73 rfl ?_
  refine g_bipush fx dX5_init_74 (by decide) ?_
  refine g_ctorN (n := o + 11) (n' := o + 13) (K := 2) (kc' := 12) (ks' := 366) (as := [vI 60]) (σ' := σ) fx dX5_init_76 mi_RX5_11 my_X4_init (fun ad ρ => s_X4_init ad σ ρ (run_h8 hm) (fun i hi => hσ i (by omega))) (by omega) (by omega) rfl rfl (Nat.le_of_ble_eq_true rfl) (by decide) ⟨rfl, rfl⟩ ⟨by decide, by decide⟩ (fun ad12 h12 => ?_)
  refine g_putN fx hnm dX5_init_79 pf_RX5_32 (by omega) ((run_all _ hm).1.2) (run_f8 hm) ?_
  refine g_aload_n fx dX5_init_82 rfl ?_
  refine g_newN (n := o + 13) (kc' := 13) (ks' := 367) fx dX5_init_83 ck_4 cl_RX5_9 ii_4 ij_4 df_4 ((row_all _ (run_h9 hm)).1.2) (fun j => hσ _ (by omega) j) (by omega) ⟨rfl, rfl⟩ ⟨by decide, by decide⟩ (fun ad13 h13 => ?_)
  refine g_dup fx dX5_init_86 rfl ?_
  refine g_bipush fx dX5_init_87 (by decide) ?_
  refine g_ctorN (n := o + 13) (n' := o + 15) (K := 2) (kc' := 14) (ks' := 427) (as := [vI 60]) (σ' := σ) fx dX5_init_89 mi_RX5_11 my_X4_init (fun ad ρ => s_X4_init ad σ ρ (run_h9 hm) (fun i hi => hσ i (by omega))) (by omega) (by omega) rfl rfl (Nat.le_of_ble_eq_true rfl) (by decide) ⟨rfl, rfl⟩ ⟨by decide, by decide⟩ (fun ad14 h14 => ?_)
  refine g_putN fx hnm dX5_init_92 pf_RX5_35 (by omega) ((run_all _ hm).1.2) (run_f9 hm) ?_
  refine g_aload_n fx dX5_init_95 rfl ?_
  refine g_newN (n := o + 15) (kc' := 15) (ks' := 428) fx dX5_init_96 ck_4 cl_RX5_9 ii_4 ij_4 df_4 ((row_all _ (run_h10 hm)).1.2) (fun j => hσ _ (by omega) j) (by omega) ⟨rfl, rfl⟩ ⟨by decide, by decide⟩ (fun ad15 h15 => ?_)
  refine g_dup fx dX5_init_99 rfl ?_
  refine g_bipush fx dX5_init_100 (by decide) ?_
  refine g_ctorN (n := o + 15) (n' := o + 17) (K := 2) (kc' := 16) (ks' := 488) (as := [vI 60]) (σ' := σ) fx dX5_init_102 mi_RX5_11 my_X4_init (fun ad ρ => s_X4_init ad σ ρ (run_h10 hm) (fun i hi => hσ i (by omega))) (by omega) (by omega) rfl rfl (Nat.le_of_ble_eq_true rfl) (by decide) ⟨rfl, rfl⟩ ⟨by decide, by decide⟩ (fun ad16 h16 => ?_)
  refine g_putN fx hnm dX5_init_105 pf_RX5_38 (by omega) ((run_all _ hm).1.2) (run_f10 hm) ?_
  refine g_aload_n fx dX5_init_108 rfl ?_
  refine g_newN (n := o + 17) (kc' := 17) (ks' := 489) fx dX5_init_109 ck_4 cl_RX5_9 ii_4 ij_4 df_4 ((row_all _ (run_h11 hm)).1.2) (fun j => hσ _ (by omega) j) (by omega) ⟨rfl, rfl⟩ ⟨by decide, by decide⟩ (fun ad17 h17 => ?_)
  refine g_dup fx dX5_init_112 rfl ?_
  refine g_bipush fx dX5_init_113 (by decide) ?_
  refine g_ctorN (n := o + 17) (n' := o + 19) (K := 2) (kc' := 18) (ks' := 549) (as := [vI 60]) (σ' := σ) fx dX5_init_115 mi_RX5_11 my_X4_init (fun ad ρ => s_X4_init ad σ ρ (run_h11 hm) (fun i hi => hσ i (by omega))) (by omega) (by omega) rfl rfl (Nat.le_of_ble_eq_true rfl) (by decide) ⟨rfl, rfl⟩ ⟨by decide, by decide⟩ (fun ad18 h18 => ?_)
  refine g_putN fx hnm dX5_init_118 pf_RX5_41 (by omega) ((run_all _ hm).1.2) (run_f11 hm) ?_
  refine g_aload_n fx dX5_init_121 rfl ?_
  refine g_newN (n := o + 19) (kc' := 19) (ks' := 550) fx dX5_init_122 ck_4 cl_RX5_9 ii_4 ij_4 df_4 ((row_all _ (run_h12 hm)).1.2) (fun j => hσ _ (by omega) j) (by omega) ⟨rfl, rfl⟩ ⟨by decide, by decide⟩ (fun ad19 h19 => ?_)
  refine g_dup fx dX5_init_125 rfl ?_
  refine g_iconst fx dX5_init_126 (by unfold okI; omega) ?_
  refine g_ctorN (n := o + 19) (n' := o + 21) (K := 2) (kc' := 20) (ks' := 553) (as := [vI 3]) (σ' := σ) fx dX5_init_127 mi_RX5_11 my_X4_init (fun ad ρ => s_X4_init ad σ ρ (run_h12 hm) (fun i hi => hσ i (by omega))) (by omega) (by omega) rfl rfl (Nat.le_of_ble_eq_true rfl) (by decide) ⟨rfl, rfl⟩ ⟨by decide, by decide⟩ (fun ad20 h20 => ?_)
  refine g_putN fx hnm dX5_init_130 pf_RX5_44 (by omega) ((run_all _ hm).1.2) (run_f12 hm) ?_
  refine g_aload_n fx dX5_init_133 rfl ?_
  refine g_newN (n := o + 21) (kc' := 21) (ks' := 554) fx dX5_init_134 ck_4 cl_RX5_9 ii_4 ij_4 df_4 ((row_all _ (run_h13 hm)).1.2) (fun j => hσ _ (by omega) j) (by omega) ⟨rfl, rfl⟩ ⟨by decide, by decide⟩ (fun ad21 h21 => ?_)
  refine g_dup fx dX5_init_137 rfl ?_
  refine g_iconst fx dX5_init_138 (by unfold okI; omega) ?_
  refine g_ctorN (n := o + 21) (n' := o + 23) (K := 2) (kc' := 22) (ks' := 557) (as := [vI 3]) (σ' := σ) fx dX5_init_139 mi_RX5_11 my_X4_init (fun ad ρ => s_X4_init ad σ ρ (run_h13 hm) (fun i hi => hσ i (by omega))) (by omega) (by omega) rfl rfl (Nat.le_of_ble_eq_true rfl) (by decide) ⟨rfl, rfl⟩ ⟨by decide, by decide⟩ (fun ad22 h22 => ?_)
  refine g_putN fx hnm dX5_init_142 pf_RX5_47 (by omega) ((run_all _ hm).1.2) (run_f13 hm) ?_
  refine g_aload_n fx dX5_init_145 rfl ?_
  refine g_newN (n := o + 23) (kc' := 23) (ks' := 558) fx dX5_init_146 ck_4 cl_RX5_9 ii_4 ij_4 df_4 ((row_all _ (run_h14 hm)).1.2) (fun j => hσ _ (by omega) j) (by omega) ⟨rfl, rfl⟩ ⟨by decide, by decide⟩ (fun ad23 h23 => ?_)
  refine g_dup fx dX5_init_149 rfl ?_
  refine g_bipush fx dX5_init_150 (by decide) ?_
  refine g_ctorN (n := o + 23) (n' := o + 25) (K := 2) (kc' := 24) (ks' := 566) (as := [vI 8]) (σ' := σ) fx dX5_init_152 mi_RX5_11 my_X4_init (fun ad ρ => s_X4_init ad σ ρ (run_h14 hm) (fun i hi => hσ i (by omega))) (by omega) (by omega) rfl rfl (Nat.le_of_ble_eq_true rfl) (by decide) ⟨rfl, rfl⟩ ⟨by decide, by decide⟩ (fun ad24 h24 => ?_)
  refine g_putN fx hnm dX5_init_155 pf_RX5_50 (by omega) ((run_all _ hm).1.2) (run_f14 hm) ?_
  refine g_aload_n fx dX5_init_158 rfl ?_
  refine g_aload_n fx dX5_init_159 rfl ?_
  refine g_putN fx hnm dX5_init_160 pf_RX5_53 (by omega) ((run_all _ hm).1.2) (run_f0 hm) ?_
  exact g_vret fx rfl dX5_init_163 (by decide) (by decide) ((((((((((((((((((((((((((adL.rf _ _).trans h1).trans h2).trans h3).trans h4).trans h5).trans h6).trans h7).trans h8).trans h9).trans h10).trans h11).trans h12).trans h13).trans h14).trans h15).trans h16).trans h17).trans h18).trans h19).trans h20).trans h21).trans h22).trans h23).trans h24).le _ _) ⟨rfl, ⟨_, by rw [rM_all (by omega) (fun j hj hn => run_o0 _ hm j hj hn)]⟩, rfl⟩
set_option maxRecDepth 4000 in
theorem s_X7_init (ad : Nat → Nat) (σ : Sg) (ρ : Rf) (hσ : ∀ i, 1 ≤ i → ∀ j, σ i j = 0) : gw_Sp yX7_init cX7_init 1 none 1 1 900 [vR (some 1)] (2, ad, rM ρ 1 [] 2) σ (gw_Cn 1 2 ρ σ) gw_no := by
  refine gw_Sp.of [some (vR (some 1))] (by decide +kernel) rfl (Nat.le_of_ble_eq_true rfl) ?_
  intro X G fx het hnm
  refine g_aload_n fx dX7_init_0 rfl ?_
  refine g_objInit fx dX7_init_1 oi_RX7 oi_i oi_c (Nat.le_of_ble_eq_true rfl) (Nat.le_of_ble_eq_true rfl) ?_
  refine g_aload_n fx dX7_init_4 rfl ?_
  refine g_sipush fx dX7_init_5 (by decide) ?_
  refine g_newBN (n := 2) (n' := 3) (Ln := 900) (kc' := 1) (ks' := 900) fx dX7_init_8 ac_byte (by decide +kernel) rfl (by decide) (fun j => hσ _ (by omega) j) (by omega) (rh_nil (by decide +kernel)) (rfl) ⟨rfl, rfl⟩ ⟨by decide, by decide⟩ (fun ad1 h1 => ?_)
  refine g_putN fx hnm dX7_init_10 pf_RX7_9 (by omega) (by decide +kernel) (by decide +kernel) ?_
  exact g_vret fx rfl dX7_init_13 (by decide) (by decide) (((adL.rf _ _).trans h1).le _ _) ⟨rfl, ⟨_, by rw [rM_all (by omega) (by decide +kernel)]⟩, rfl⟩
set_option maxRecDepth 4000 in
theorem s_X3_init (ad : Nat → Nat) (σ : Sg) (ρ : Rf) (hσ : ∀ i, 3 ≤ i → ∀ j, σ i j = 0) : gw_Sp yX3_init cX3_init 2 none 1 0 0 [vR (some 3), vR (some 1)] (4, ad, rM ρ 3 [] 4) σ (gw_Cn 3 1 ρ (su σ 3 7 (-1))) gw_no := by
  refine gw_Sp.of [some (vR (some 3)), some (vR (some 1))] (by decide +kernel) rfl (Nat.le_of_ble_eq_true rfl) ?_
  intro X G fx het hnm
  refine g_aload_n fx dX3_init_0 rfl ?_
  refine g_objInit fx dX3_init_1 oi_RX3 oi_i oi_c (Nat.le_of_ble_eq_true rfl) (Nat.le_of_ble_eq_true rfl) ?_
  refine g_aload_n fx dX3_init_4 rfl ?_
  refine g_iconst fx dX3_init_5 (by unfold okI; omega) ?_
  refine g_puti fx dX3_init_6 fk_RX3_9 ⟨by show _ < _; omega, by decide +kernel⟩ ?_
  refine g_aload_n fx dX3_init_9 rfl ?_
  refine g_aload_n fx dX3_init_10 rfl ?_
  refine g_putN fx hnm dX3_init_11 pf_RX3_15 (by omega) (by decide +kernel) (by decide +kernel) ?_
  exact g_vret fx rfl dX3_init_14 (by decide) (by decide) ((adL.rf _ _).le _ _) ⟨rfl, ⟨_, by rw [rM_all (by omega) (by decide +kernel)]⟩, rfl⟩
set_option maxRecDepth 4000 in
theorem s_X8_init (ad : Nat → Nat) (σ : Sg) (ρ : Rf) (hσ : ∀ i, 73 ≤ i → ∀ j, σ i j = 0) : gw_Sp yX8_init cX8_init 3 none 1 0 0 [vR (some 73), vR (some 3), vR (some 51)] (74, ad, rM ρ 73 [] 74) σ (gw_Cn 73 1 ρ σ) gw_no := by
  refine gw_Sp.of [some (vR (some 73)), some (vR (some 3)), some (vR (some 51))] (by decide +kernel) rfl (Nat.le_of_ble_eq_true rfl) ?_
  intro X G fx het hnm
  refine g_aload_n fx dX8_init_0 rfl ?_
  refine g_objInit fx dX8_init_1 oi_RX8 oi_i oi_c (Nat.le_of_ble_eq_true rfl) (Nat.le_of_ble_eq_true rfl) ?_
  refine g_aload_n fx dX8_init_4 rfl ?_
  refine g_aload_n fx dX8_init_5 rfl ?_
  refine g_putN fx hnm dX8_init_6 pf_RX8_9 (by omega) (by decide +kernel) (by decide +kernel) ?_
  refine g_aload_n fx dX8_init_9 rfl ?_
  refine g_aload_n fx dX8_init_10 rfl ?_
  refine g_putN fx hnm dX8_init_11 pf_RX8_15 (by omega) (by decide +kernel) (by decide +kernel) ?_
  exact g_vret fx rfl dX8_init_14 (by decide) (by decide) ((adL.rf _ _).le _ _) ⟨rfl, ⟨_, by rw [rM_all (by omega) (by decide +kernel)]⟩, rfl⟩
set_option maxRecDepth 4000 in
theorem s_X2_init (ad : Nat → Nat) (σ : Sg) (ρ : Rf) (hσ : ∀ i, 121 ≤ i → ∀ j, σ i j = 0) : gw_Sp yX2_init cX2_init 3 none 2 6 28 [vR (some 121), vR (some 74), vR (some 96)] (122, ad, rM ρ 121 [] 122) σ (gw_Cn 121 7 ρ σ) gw_no := by
  refine gw_Sp.of [some (vR (some 121)), some (vR (some 74)), some (vR (some 96))] (by decide +kernel) rfl (Nat.le_of_ble_eq_true rfl) ?_
  intro X G fx het hnm
  refine g_aload_n fx dX2_init_0 rfl ?_
  refine g_objInit fx dX2_init_1 oi_RX2 oi_i oi_c (Nat.le_of_ble_eq_true rfl) (Nat.le_of_ble_eq_true rfl) ?_
  refine g_aload_n fx dX2_init_4 rfl ?_
  refine g_newN (n := 122) (kc' := 1) (ks' := 1) fx dX2_init_5 ck_4 cl_RX2_9 ii_4 ij_4 df_4 (by decide +kernel) (fun j => hσ _ (by omega) j) (by omega) ⟨rfl, rfl⟩ ⟨by decide, by decide⟩ (fun ad1 h1 => ?_)
  refine g_dup fx dX2_init_8 rfl ?_
  refine g_bipush fx dX2_init_9 (by decide) ?_
  refine g_ctorN (n := 122) (n' := 124) (K := 2) (kc' := 2) (ks' := 9) (as := [vI 8]) (σ' := σ) fx dX2_init_11 mi_RX2_11 my_X4_init (fun ad ρ => s_X4_init ad σ ρ (in_122) (fun i hi => hσ i (by omega))) (by omega) (rfl) rfl rfl (Nat.le_of_ble_eq_true rfl) (by decide) ⟨rfl, rfl⟩ ⟨by decide, by decide⟩ (fun ad2 h2 => ?_)
  refine g_putN fx hnm dX2_init_14 pf_RX2_14 (by omega) (by decide +kernel) (by decide +kernel) ?_
  refine g_aload_n fx dX2_init_17 rfl ?_
  refine g_newN (n := 124) (kc' := 3) (ks' := 10) fx dX2_init_18 ck_4 cl_RX2_9 ii_4 ij_4 df_4 (by decide +kernel) (fun j => hσ _ (by omega) j) (by omega) ⟨rfl, rfl⟩ ⟨by decide, by decide⟩ (fun ad3 h3 => ?_)
  refine g_dup fx dX2_init_21 rfl ?_
  refine g_bipush fx dX2_init_22 (by decide) ?_
  refine g_ctorN (n := 124) (n' := 126) (K := 2) (kc' := 4) (ks' := 18) (as := [vI 8]) (σ' := σ) fx dX2_init_24 mi_RX2_11 my_X4_init (fun ad ρ => s_X4_init ad σ ρ (in_124) (fun i hi => hσ i (by omega))) (by omega) (rfl) rfl rfl (Nat.le_of_ble_eq_true rfl) (by decide) ⟨rfl, rfl⟩ ⟨by decide, by decide⟩ (fun ad4 h4 => ?_)
  refine g_putN fx hnm dX2_init_27 pf_RX2_20 (by omega) (by decide +kernel) (by decide +kernel) ?_
  refine g_aload_n fx dX2_init_30 rfl ?_
  refine g_newN (n := 126) (kc' := 5) (ks' := 19) fx dX2_init_31 ck_4 cl_RX2_9 ii_4 ij_4 df_4 (by decide +kernel) (fun j => hσ _ (by omega) j) (by omega) ⟨rfl, rfl⟩ ⟨by decide, by decide⟩ (fun ad5 h5 => ?_)
  refine g_dup fx dX2_init_34 rfl ?_
  refine g_bipush fx dX2_init_35 (by decide) ?_
  refine g_ctorN (n := 126) (n' := 128) (K := 2) (kc' := 6) (ks' := 28) (as := [vI 9]) (σ' := σ) fx dX2_init_37 mi_RX2_11 my_X4_init (fun ad ρ => s_X4_init ad σ ρ (in_126) (fun i hi => hσ i (by omega))) (by omega) (rfl) rfl rfl (Nat.le_of_ble_eq_true rfl) (by decide) ⟨rfl, rfl⟩ ⟨by decide, by decide⟩ (fun ad6 h6 => ?_)
  refine g_putN fx hnm dX2_init_40 pf_RX2_23 (by omega) (by decide +kernel) (by decide +kernel) ?_
  refine g_aload_n fx dX2_init_43 rfl ?_
  refine g_aload_n fx dX2_init_44 rfl ?_
  refine g_putN fx hnm dX2_init_45 pf_RX2_26 (by omega) (by decide +kernel) (by decide +kernel) ?_
  refine g_aload_n fx dX2_init_48 rfl ?_
  refine g_aload_n fx dX2_init_49 rfl ?_
  refine g_putN fx hnm dX2_init_50 pf_RX2_30 (by omega) (by decide +kernel) (by decide +kernel) ?_
  exact g_vret fx rfl dX2_init_53 (by decide) (by decide) ((((((((adL.rf _ _).trans h1).trans h2).trans h3).trans h4).trans h5).trans h6).le _ _) ⟨rfl, ⟨_, by rw [rM_all (by omega) (by decide +kernel)]⟩, rfl⟩
set_option maxRecDepth 4000 in
theorem s_X6_init (ad : Nat → Nat) (σ : Sg) (ρ : Rf) (hσ : ∀ i, 128 ≤ i → ∀ j, σ i j = 0) : gw_Sp yX6_init cX6_init 3 none 2 14 66 [vR (some 128), vR (some 4), vR (some 26)] (129, ad, rM ρ 128 [] 129) σ (gw_Cn 128 15 ρ σ) gw_no := by
  refine gw_Sp.of [some (vR (some 128)), some (vR (some 4)), some (vR (some 26))] (by decide +kernel) rfl (Nat.le_of_ble_eq_true rfl) ?_
  intro X G fx het hnm
  refine g_aload_n fx dX6_init_0 rfl ?_
  refine g_objInit fx dX6_init_1 oi_RX6 oi_i oi_c (Nat.le_of_ble_eq_true rfl) (Nat.le_of_ble_eq_true rfl) ?_
  refine g_aload_n fx dX6_init_4 rfl ?_
  refine g_newN (n := 129) (kc' := 1) (ks' := 1) fx dX6_init_5 ck_4 cl_RX6_9 ii_4 ij_4 df_4 (by decide +kernel) (fun j => hσ _ (by omega) j) (by omega) ⟨rfl, rfl⟩ ⟨by decide, by decide⟩ (fun ad1 h1 => ?_)
  refine g_dup fx dX6_init_8 rfl ?_
  refine g_bipush fx dX6_init_9 (by decide) ?_
  refine g_ctorN (n := 129) (n' := 131) (K := 2) (kc' := 2) (ks' := 9) (as := [vI 8]) (σ' := σ) fx dX6_init_11 mi_RX6_11 my_X4_init (fun ad ρ => s_X4_init ad σ ρ (in_129) (fun i hi => hσ i (by omega))) (by omega) (rfl) rfl rfl (Nat.le_of_ble_eq_true rfl) (by decide) ⟨rfl, rfl⟩ ⟨by decide, by decide⟩ (fun ad2 h2 => ?_)
  refine g_putN fx hnm dX6_init_14 pf_RX6_14 (by omega) (by decide +kernel) (by decide +kernel) ?_
  refine g_aload_n fx dX6_init_17 rfl ?_
  refine g_newN (n := 131) (kc' := 3) (ks' := 10) fx dX6_init_18 ck_4 cl_RX6_9 ii_4 ij_4 df_4 (by decide +kernel) (fun j => hσ _ (by omega) j) (by omega) ⟨rfl, rfl⟩ ⟨by decide, by decide⟩ (fun ad3 h3 => ?_)
  refine g_dup fx dX6_init_21 rfl ?_
  refine g_bipush fx dX6_init_22 (by decide) ?_
  refine g_ctorN (n := 131) (n' := 133) (K := 2) (kc' := 4) (ks' := 18) (as := [vI 8]) (σ' := σ) fx dX6_init_24 mi_RX6_11 my_X4_init (fun ad ρ => s_X4_init ad σ ρ (in_131) (fun i hi => hσ i (by omega))) (by omega) (rfl) rfl rfl (Nat.le_of_ble_eq_true rfl) (by decide) ⟨rfl, rfl⟩ ⟨by decide, by decide⟩ (fun ad4 h4 => ?_)
  refine g_putN fx hnm dX6_init_27 pf_RX6_20 (by omega) (by decide +kernel) (by decide +kernel) ?_
  refine g_aload_n fx dX6_init_30 rfl ?_
  refine g_newN (n := 133) (kc' := 5) (ks' := 19) fx dX6_init_31 ck_4 cl_RX6_9 ii_4 ij_4 df_4 (by decide +kernel) (fun j => hσ _ (by omega) j) (by omega) ⟨rfl, rfl⟩ ⟨by decide, by decide⟩ (fun ad5 h5 => ?_)
  refine g_dup fx dX6_init_34 rfl ?_
  refine g_bipush fx dX6_init_35 (by decide) ?_
  refine g_ctorN (n := 133) (n' := 135) (K := 2) (kc' := 6) (ks' := 27) (as := [vI 8]) (σ' := σ) fx dX6_init_37 mi_RX6_11 my_X4_init (fun ad ρ => s_X4_init ad σ ρ (in_133) (fun i hi => hσ i (by omega))) (by omega) (rfl) rfl rfl (Nat.le_of_ble_eq_true rfl) (by decide) ⟨rfl, rfl⟩ ⟨by decide, by decide⟩ (fun ad6 h6 => ?_)
  refine g_putN fx hnm dX6_init_40 pf_RX6_23 (by omega) (by decide +kernel) (by decide +kernel) ?_
  refine g_aload_n fx dX6_init_43 rfl ?_
  refine g_newN (n := 135) (kc' := 7) (ks' := 28) fx dX6_init_44 ck_4 cl_RX6_9 ii_4 ij_4 df_4 (by decide +kernel) (fun j => hσ _ (by omega) j) (by omega) ⟨rfl, rfl⟩ ⟨by decide, by decide⟩ (fun ad7 h7 => ?_)
  refine g_dup fx dX6_init_47 rfl ?_
  refine g_bipush fx dX6_init_48 (by decide) ?_
  refine g_ctorN (n := 135) (n' := 137) (K := 2) (kc' := 8) (ks' := 37) (as := [vI 9]) (σ' := σ) fx dX6_init_50 mi_RX6_11 my_X4_init (fun ad ρ => s_X4_init ad σ ρ (in_135) (fun i hi => hσ i (by omega))) (by omega) (rfl) rfl rfl (Nat.le_of_ble_eq_true rfl) (by decide) ⟨rfl, rfl⟩ ⟨by decide, by decide⟩ (fun ad8 h8 => ?_)
  refine g_putN fx hnm dX6_init_53 pf_RX6_26 (by omega) (by decide +kernel) (by decide +kernel) ?_
  refine g_aload_n fx dX6_init_56 rfl ?_
  refine g_newN (n := 137) (kc' := 9) (ks' := 38) fx dX6_init_57 ck_4 cl_RX6_9 ii_4 ij_4 df_4 (by decide +kernel) (fun j => hσ _ (by omega) j) (by omega) ⟨rfl, rfl⟩ ⟨by decide, by decide⟩ (fun ad9 h9 => ?_)
  refine g_dup fx dX6_init_60 rfl ?_
  refine g_bipush fx dX6_init_61 (by decide) ?_
  refine g_ctorN (n := 137) (n' := 139) (K := 2) (kc' := 10) (ks' := 47) (as := [vI 9]) (σ' := σ) fx dX6_init_63 mi_RX6_11 my_X4_init (fun ad ρ => s_X4_init ad σ ρ (in_137) (fun i hi => hσ i (by omega))) (by omega) (rfl) rfl rfl (Nat.le_of_ble_eq_true rfl) (by decide) ⟨rfl, rfl⟩ ⟨by decide, by decide⟩ (fun ad10 h10 => ?_)
  refine g_putN fx hnm dX6_init_66 pf_RX6_29 (by omega) (by decide +kernel) (by decide +kernel) ?_
  refine g_aload_n fx dX6_init_69 rfl ?_
  refine g_newN (n := 139) (kc' := 11) (ks' := 48) fx dX6_init_70 ck_4 cl_RX6_9 ii_4 ij_4 df_4 (by decide +kernel) (fun j => hσ _ (by omega) j) (by omega) ⟨rfl, rfl⟩ ⟨by decide, by decide⟩ (fun ad11 h11 => ?_)
  refine g_dup fx dX6_init_73 rfl ?_
  refine g_bipush fx dX6_init_74 (by decide) ?_
  refine g_ctorN (n := 139) (n' := 141) (K := 2) (kc' := 12) (ks' := 57) (as := [vI 9]) (σ' := σ) fx dX6_init_76 mi_RX6_11 my_X4_init (fun ad ρ => s_X4_init ad σ ρ (in_139) (fun i hi => hσ i (by omega))) (by omega) (rfl) rfl rfl (Nat.le_of_ble_eq_true rfl) (by decide) ⟨rfl, rfl⟩ ⟨by decide, by decide⟩ (fun ad12 h12 => ?_)
  refine g_putN fx hnm dX6_init_79 pf_RX6_32 (by omega) (by decide +kernel) (by decide +kernel) ?_
  refine g_aload_n fx dX6_init_82 rfl ?_
  refine g_newN (n := 141) (kc' := 13) (ks' := 58) fx dX6_init_83 ck_4 cl_RX6_9 ii_4 ij_4 df_4 (by decide +kernel) (fun j => hσ _ (by omega) j) (by omega) ⟨rfl, rfl⟩ ⟨by decide, by decide⟩ (fun ad13 h13 => ?_)
  refine g_dup fx dX6_init_86 rfl ?_
  refine g_bipush fx dX6_init_87 (by decide) ?_
  refine g_ctorN (n := 141) (n' := 143) (K := 2) (kc' := 14) (ks' := 66) (as := [vI 8]) (σ' := σ) fx dX6_init_89 mi_RX6_11 my_X4_init (fun ad ρ => s_X4_init ad σ ρ (in_141) (fun i hi => hσ i (by omega))) (by omega) (rfl) rfl rfl (Nat.le_of_ble_eq_true rfl) (by decide) ⟨rfl, rfl⟩ ⟨by decide, by decide⟩ (fun ad14 h14 => ?_)
  refine g_putN fx hnm dX6_init_92 pf_RX6_35 (by omega) (by decide +kernel) (by decide +kernel) ?_
  refine g_aload_n fx dX6_init_95 rfl ?_
  refine g_aload_n fx dX6_init_96 rfl ?_
  refine g_putN fx hnm dX6_init_97 pf_RX6_38 (by omega) (by decide +kernel) (by decide +kernel) ?_
  refine g_aload_n fx dX6_init_100 rfl ?_
  refine g_aload_n fx dX6_init_101 rfl ?_
  refine g_putN fx hnm dX6_init_102 pf_RX6_42 (by omega) (by decide +kernel) (by decide +kernel) ?_
  exact g_vret fx rfl dX6_init_105 (by decide) (by decide) ((((((((((((((((adL.rf _ _).trans h1).trans h2).trans h3).trans h4).trans h5).trans h6).trans h7).trans h8).trans h9).trans h10).trans h11).trans h12).trans h13).trans h14).le _ _) ⟨rfl, ⟨_, by rw [rM_all (by omega) (by decide +kernel)]⟩, rfl⟩
set_option maxRecDepth 4000 in
theorem s_X9_init (ad : Nat → Nat) (σ : Sg) (ρ : Rf) {o : Nat} (ht : o ∈ gw_trays) (hσ : ∀ i, o ≤ i → ∀ j, σ i j = 0) : gw_Sp yX9_init cX9_init 1 none 1 1 60 [vR (some o)] (o + 1, ad, rM ρ o [] (o + 1)) σ (gw_Cn o 2 ρ (su σ o 2 (-1))) gw_no := by
  refine gw_Sp.of [some (vR (some o))] (by decide +kernel) rfl (Nat.le_of_ble_eq_true rfl) ?_
  intro X G fx het hnm
  refine g_aload_n fx dX9_init_0 rfl ?_
  refine g_objInit fx dX9_init_1 oi_RX9 oi_i oi_c (Nat.le_of_ble_eq_true rfl) (Nat.le_of_ble_eq_true rfl) ?_
  refine g_aload_n fx dX9_init_4 rfl ?_
  refine g_bipush fx dX9_init_5 (by decide) ?_
  refine g_newJN (n := o + 1) (n' := o + 2) (Ln := 60) (kc' := 1) (ks' := 60) fx dX9_init_7 ac_long ((tray_all _ ht).2.2.2) rfl (by decide) (fun j => hσ _ (by omega) j) (by omega) (rh_nil (tray_no _ ht)) (by omega) ⟨rfl, rfl⟩ ⟨by decide, by decide⟩ (fun ad1 h1 => ?_)
  refine g_putN fx hnm dX9_init_9 pf_RX9_9 (by omega) ((tray_all _ ht).1.2) ((tray_all _ ht).2.1) ?_
  refine g_aload_n fx dX9_init_12 rfl ?_
  refine g_iconst fx dX9_init_13 (by unfold okI; omega) ?_
  refine g_puti fx dX9_init_14 fk_RX9_15 ⟨by show _ < _; omega, (tray_all _ ht).1.2⟩ ?_
  exact g_vret fx rfl dX9_init_17 (by decide) (by decide) (((adL.rf _ _).trans h1).le _ _) ⟨rfl, ⟨_, by rw [rM_all (by omega) (fun j hj hn => tray_o0 _ ht j hj hn)]⟩, rfl⟩
