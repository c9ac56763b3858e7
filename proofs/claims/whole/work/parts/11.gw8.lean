/-! THE LAYER, 8: the classes' fields among the words -/
set_option maxRecDepth 20000 in
theorem in_ws0 : ∀ w ∈ u_ws RX0 TX0 3, w ∈ wsG := by decide +kernel
theorem ck_0 : gw_ck 0 RX0 TX0 3 tyX0 := ⟨rfl, in_ws0, tyX0_ok, nmX0⟩
set_option maxRecDepth 20000 in
theorem in_ws1 : ∀ w ∈ u_ws RX1 TX1 16, w ∈ wsG := by decide +kernel
theorem ck_1 : gw_ck 1 RX1 TX1 16 tyX1 := ⟨rfl, in_ws1, tyX1_ok, nmX1⟩
set_option maxRecDepth 20000 in
theorem in_ws2 : ∀ w ∈ u_ws RX2 TX2 8, w ∈ wsG := by decide +kernel
theorem ck_2 : gw_ck 2 RX2 TX2 8 tyX2 := ⟨rfl, in_ws2, tyX2_ok, nmX2⟩
set_option maxRecDepth 20000 in
theorem in_ws3 : ∀ w ∈ u_ws RX3 TX3 8, w ∈ wsG := by decide +kernel
theorem ck_3 : gw_ck 3 RX3 TX3 8 tyX3 := ⟨rfl, in_ws3, tyX3_ok, nmX3⟩
set_option maxRecDepth 20000 in
theorem in_ws4 : ∀ w ∈ u_ws RX4 TX4 1, w ∈ wsG := by decide +kernel
theorem ck_4 : gw_ck 4 RX4 TX4 1 tyX4 := ⟨rfl, in_ws4, tyX4_ok, nmX4⟩
set_option maxRecDepth 20000 in
theorem in_ws5 : ∀ w ∈ u_ws RX5 TX5 15, w ∈ wsG := by decide +kernel
theorem ck_5 : gw_ck 5 RX5 TX5 15 tyX5 := ⟨rfl, in_ws5, tyX5_ok, nmX5⟩
set_option maxRecDepth 20000 in
theorem in_ws6 : ∀ w ∈ u_ws RX6 TX6 10, w ∈ wsG := by decide +kernel
theorem ck_6 : gw_ck 6 RX6 TX6 10 tyX6 := ⟨rfl, in_ws6, tyX6_ok, nmX6⟩
set_option maxRecDepth 20000 in
theorem in_ws7 : ∀ w ∈ u_ws RX7 TX7 2, w ∈ wsG := by decide +kernel
theorem ck_7 : gw_ck 7 RX7 TX7 2 tyX7 := ⟨rfl, in_ws7, tyX7_ok, nmX7⟩
set_option maxRecDepth 20000 in
theorem in_ws8 : ∀ w ∈ u_ws RX8 TX8 2, w ∈ wsG := by decide +kernel
theorem ck_8 : gw_ck 8 RX8 TX8 2 tyX8 := ⟨rfl, in_ws8, tyX8_ok, nmX8⟩
set_option maxRecDepth 20000 in
theorem in_ws9 : ∀ w ∈ u_ws RX9 TX9 3, w ∈ wsG := by decide +kernel
theorem ck_9 : gw_ck 9 RX9 TX9 3 tyX9 := ⟨rfl, in_ws9, tyX9_ok, nmX9⟩
set_option maxRecDepth 20000 in
theorem in_ws10 : ∀ w ∈ u_ws RX10 TX10 14, w ∈ wsG := by decide +kernel
theorem ck_10 : gw_ck 10 RX10 TX10 14 tyX10 := ⟨rfl, in_ws10, tyX10_ok, nmX10⟩
set_option maxRecDepth 20000 in
theorem in_ws11 : ∀ w ∈ u_ws RX11 TX11 42, w ∈ wsG := by decide +kernel
theorem ck_11 : gw_ck 11 RX11 TX11 42 tyX11 := ⟨rfl, in_ws11, tyX11_ok, nmX11⟩
