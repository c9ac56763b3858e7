theorem dX4_at_0 : gw_dc cX4_at 0 (.iload_n 1) 1 1 := ⟨by decide +kernel, rfl⟩
theorem dX4_at_1 : gw_dc cX4_at 1 (.ifCond .lt 21) 3 4 := ⟨by decide +kernel, rfl⟩
theorem dX4_at_22 : gw_dc cX4_at 22 (.iconst (-1)) 1 23 := ⟨by decide +kernel, rfl⟩
theorem dX4_at_23 : decode cX4_at 23 = .ok (.ireturn, 1) := by decide +kernel
theorem dX4_at_4 : gw_dc cX4_at 4 (.iload_n 1) 1 5 := ⟨by decide +kernel, rfl⟩
theorem dX4_at_5 : gw_dc cX4_at 5 (.aload_n 0) 1 6 := ⟨by decide +kernel, rfl⟩
theorem dX4_at_6 : gw_dc cX4_at 6 (.getfield 9) 3 9 := ⟨by decide +kernel, rfl⟩
theorem fk_RX4_9 : gw_fk RX4 9 4 0 1 1 true := ⟨_, _, _, ck_4, by decide, by decide, fun h => absurd h (by decide), fun h => absurd h (by decide), fun _ => Or.inr ⟨_, rfl⟩, rfl, Or.inl (gw_mem 193 (by decide +kernel) rfl)⟩
theorem dX4_at_9 : gw_dc cX4_at 9 (.arraylength) 1 10 := ⟨by decide +kernel, rfl⟩
theorem dX4_at_10 : gw_dc cX4_at 10 (.if_icmp .ge 12) 3 13 := ⟨by decide +kernel, rfl⟩
theorem dX4_at_13 : gw_dc cX4_at 13 (.aload_n 0) 1 14 := ⟨by decide +kernel, rfl⟩
theorem dX4_at_14 : gw_dc cX4_at 14 (.getfield 9) 3 17 := ⟨by decide +kernel, rfl⟩
theorem dX4_at_17 : gw_dc cX4_at 17 (.iload_n 1) 1 18 := ⟨by decide +kernel, rfl⟩
theorem dX4_at_18 : gw_dc cX4_at 18 (.iaload) 1 19 := ⟨by decide +kernel, rfl⟩
theorem dX4_at_19 : gw_dc cX4_at 19 (.goto 4) 3 22 := ⟨by decide +kernel, rfl⟩
theorem dX4_put_0 : gw_dc cX4_put 0 (.iload_n 1) 1 1 := ⟨by decide +kernel, rfl⟩
theorem dX4_put_1 : gw_dc cX4_put 1 (.ifCond .lt 19) 3 4 := ⟨by decide +kernel, rfl⟩
theorem dX4_put_20 : decode cX4_put 20 = .ok (.return_, 1) := by decide +kernel
theorem dX4_put_4 : gw_dc cX4_put 4 (.iload_n 1) 1 5 := ⟨by decide +kernel, rfl⟩
theorem dX4_put_5 : gw_dc cX4_put 5 (.aload_n 0) 1 6 := ⟨by decide +kernel, rfl⟩
theorem dX4_put_6 : gw_dc cX4_put 6 (.getfield 9) 3 9 := ⟨by decide +kernel, rfl⟩
theorem dX4_put_9 : gw_dc cX4_put 9 (.arraylength) 1 10 := ⟨by decide +kernel, rfl⟩
theorem dX4_put_10 : gw_dc cX4_put 10 (.if_icmp .ge 10) 3 13 := ⟨by decide +kernel, rfl⟩
theorem dX4_put_13 : gw_dc cX4_put 13 (.aload_n 0) 1 14 := ⟨by decide +kernel, rfl⟩
theorem dX4_put_14 : gw_dc cX4_put 14 (.getfield 9) 3 17 := ⟨by decide +kernel, rfl⟩
theorem dX4_put_17 : gw_dc cX4_put 17 (.iload_n 1) 1 18 := ⟨by decide +kernel, rfl⟩
theorem dX4_put_18 : gw_dc cX4_put 18 (.iload_n 2) 1 19 := ⟨by decide +kernel, rfl⟩
theorem dX4_put_19 : gw_dc cX4_put 19 (.iastore) 1 20 := ⟨by decide +kernel, rfl⟩
theorem dX4_fill_0 : gw_dc cX4_fill 0 (.iconst 0) 1 1 := ⟨by decide +kernel, rfl⟩
theorem dX4_fill_1 : gw_dc cX4_fill 1 (.istore_n 2) 1 2 := ⟨by decide +kernel, rfl⟩
theorem dX4_fill_2 : gw_dc cX4_fill 2 (.iload_n 2) 1 3 := ⟨by decide +kernel, rfl⟩
theorem dX4_fill_3 : gw_dc cX4_fill 3 (.aload_n 0) 1 4 := ⟨by decide +kernel, rfl⟩
theorem dX4_fill_4 : gw_dc cX4_fill 4 (.getfield 9) 3 7 := ⟨by decide +kernel, rfl⟩
theorem dX4_fill_7 : gw_dc cX4_fill 7 (.arraylength) 1 8 := ⟨by decide +kernel, rfl⟩
theorem dX4_fill_8 : gw_dc cX4_fill 8 (.if_icmp .ge 16) 3 11 := ⟨by decide +kernel, rfl⟩
theorem dX4_fill_24 : decode cX4_fill 24 = .ok (.return_, 1) := by decide +kernel
theorem dX4_fill_11 : gw_dc cX4_fill 11 (.aload_n 0) 1 12 := ⟨by decide +kernel, rfl⟩
theorem dX4_fill_12 : gw_dc cX4_fill 12 (.getfield 9) 3 15 := ⟨by decide +kernel, rfl⟩
theorem dX4_fill_15 : gw_dc cX4_fill 15 (.iload_n 2) 1 16 := ⟨by decide +kernel, rfl⟩
theorem dX4_fill_16 : gw_dc cX4_fill 16 (.iload_n 1) 1 17 := ⟨by decide +kernel, rfl⟩
theorem dX4_fill_17 : gw_dc cX4_fill 17 (.iastore) 1 18 := ⟨by decide +kernel, rfl⟩
theorem dX4_fill_18 : gw_dc cX4_fill 18 (.iinc 2 1) 3 21 := ⟨by decide +kernel, rfl⟩
theorem dX4_fill_21 : gw_dc cX4_fill 21 (.goto (-19)) 3 24 := ⟨by decide +kernel, rfl⟩
theorem dX4_copyOf_0 : gw_dc cX4_copyOf 0 (.iconst 0) 1 1 := ⟨by decide +kernel, rfl⟩
theorem dX4_copyOf_1 : gw_dc cX4_copyOf 1 (.istore_n 2) 1 2 := ⟨by decide +kernel, rfl⟩
theorem dX4_copyOf_2 : gw_dc cX4_copyOf 2 (.iload_n 2) 1 3 := ⟨by decide +kernel, rfl⟩
theorem dX4_copyOf_3 : gw_dc cX4_copyOf 3 (.aload_n 0) 1 4 := ⟨by decide +kernel, rfl⟩
theorem dX4_copyOf_4 : gw_dc cX4_copyOf 4 (.getfield 9) 3 7 := ⟨by decide +kernel, rfl⟩
theorem dX4_copyOf_7 : gw_dc cX4_copyOf 7 (.arraylength) 1 8 := ⟨by decide +kernel, rfl⟩
theorem dX4_copyOf_8 : gw_dc cX4_copyOf 8 (.if_icmp .ge 30) 3 11 := ⟨by decide +kernel, rfl⟩
theorem dX4_copyOf_38 : decode cX4_copyOf 38 = .ok (.return_, 1) := by decide +kernel
theorem dX4_copyOf_11 : gw_dc cX4_copyOf 11 (.iload_n 2) 1 12 := ⟨by decide +kernel, rfl⟩
theorem dX4_copyOf_12 : gw_dc cX4_copyOf 12 (.aload_n 1) 1 13 := ⟨by decide +kernel, rfl⟩
theorem dX4_copyOf_13 : gw_dc cX4_copyOf 13 (.getfield 9) 3 16 := ⟨by decide +kernel, rfl⟩
theorem dX4_copyOf_16 : gw_dc cX4_copyOf 16 (.arraylength) 1 17 := ⟨by decide +kernel, rfl⟩
theorem dX4_copyOf_17 : gw_dc cX4_copyOf 17 (.if_icmp .ge 21) 3 20 := ⟨by decide +kernel, rfl⟩
theorem dX4_copyOf_20 : gw_dc cX4_copyOf 20 (.aload_n 0) 1 21 := ⟨by decide +kernel, rfl⟩
theorem dX4_copyOf_21 : gw_dc cX4_copyOf 21 (.getfield 9) 3 24 := ⟨by decide +kernel, rfl⟩
theorem dX4_copyOf_24 : gw_dc cX4_copyOf 24 (.iload_n 2) 1 25 := ⟨by decide +kernel, rfl⟩
theorem dX4_copyOf_25 : gw_dc cX4_copyOf 25 (.aload_n 1) 1 26 := ⟨by decide +kernel, rfl⟩
theorem dX4_copyOf_26 : gw_dc cX4_copyOf 26 (.getfield 9) 3 29 := ⟨by decide +kernel, rfl⟩
theorem dX4_copyOf_29 : gw_dc cX4_copyOf 29 (.iload_n 2) 1 30 := ⟨by decide +kernel, rfl⟩
theorem dX4_copyOf_30 : gw_dc cX4_copyOf 30 (.iaload) 1 31 := ⟨by decide +kernel, rfl⟩
theorem dX4_copyOf_31 : gw_dc cX4_copyOf 31 (.iastore) 1 32 := ⟨by decide +kernel, rfl⟩
theorem dX4_copyOf_32 : gw_dc cX4_copyOf 32 (.iinc 2 1) 3 35 := ⟨by decide +kernel, rfl⟩
theorem dX4_copyOf_35 : gw_dc cX4_copyOf 35 (.goto (-33)) 3 38 := ⟨by decide +kernel, rfl⟩
theorem up_ind (P : Nat → Prop) (n : Nat) (h : ∀ k, k ≤ n → (k < n → P (k + 1)) → P k) : ∀ k, k ≤ n → P k := by
  have key : ∀ m k, k + m = n → P k := by
    intro m
    induction m with
    | zero => exact fun k hk => h k (by omega) (fun q => by omega)
    | succ m ih => exact fun k hk => h k (by omega) (fun _ => ih (k + 1) (by omega))
  exact fun k hk => key (n - k) k (by omega)
/-! Row: at, put, fill, copyOf -/
def rAt (σ : Sg) (c n : Nat) (i : Int) : Int := if 0 ≤ i ∧ i < n then σ c i.toNat else -1
def rPut (σ : Sg) (c n : Nat) (i v : Int) : Sg := if 0 ≤ i ∧ i < n then su σ c i.toNat v else σ
/-- the first k places of c hold v -/
def rFill (σ : Sg) (c k : Nat) (v : Int) : Sg := fun a j => if a = c ∧ j < k then v else σ a j
/-- the first k places of c hold what those of e hold -/
def rCopy (σ : Sg) (c e k : Nat) : Sg := fun a j => if a = c ∧ j < k then σ e j else σ a j
theorem rFill_succ (σ : Sg) (c k : Nat) (v : Int) : su (rFill σ c k v) c k v = rFill σ c (k + 1) v := by
  funext a j
  unfold su rFill
  by_cases h1 : a = c
  · by_cases h2 : j = k
    · simp [h1, h2]
    · have h3 : j < k ↔ j < k + 1 := by omega
      simp [h1, h2, h3]
  · simp [h1]
theorem rFill_0 (σ : Sg) (c : Nat) (v : Int) : rFill σ c 0 v = σ := by
  funext a j; simp [rFill]
theorem rCopy_0 (σ : Sg) (c e : Nat) : rCopy σ c e 0 = σ := by
  funext a j; simp [rCopy]
theorem rCopy_succ (σ : Sg) {c e : Nat} (h : e ≠ c) (k : Nat) : su (rCopy σ c e k) c k (rCopy σ c e k e k) = rCopy σ c e (k + 1) := by
  funext a j
  unfold su rCopy
  by_cases h1 : a = c
  · by_cases h2 : j = k
    · simp [h1, h2, h]
    · have h3 : j < k ↔ j < k + 1 := by omega
      simp [h1, h2, h3]
  · simp [h1]
set_option maxRecDepth 4000 in
theorem s_X4_at (ad : Nat → Nat) (σ : Sg) {o n : Nat} (hr : (o, n) ∈ gw_rows) (i : Int) : gw_Sp yX4_at cX4_at 2 (some .int) 1 0 0 [vR (some o), vI i] (gw_M0 ad) σ (gw_D (some (vI (rAt σ (o + 1) n i))) (gw_M0 ad) (σ)) gw_no := by
  refine gw_Sp.of [some (vR (some o)), some (vI i)] (by decide +kernel) rfl (Nat.le_of_ble_eq_true rfl) ?_
  intro X G fx het hnm
  refine g_iload_n fx dX4_at_0 rfl ?_
  refine g_if_lt (tgt := 22) fx dX4_at_1 (by decide) (fun h1 => ?_) (fun h1 => ?_)
  · refine g_iconst fx dX4_at_22 (by unfold okI; omega) ?_
    exact g_iret fx rfl dX4_at_23 (by decide) (by decide) (gw_le.rf _) ⟨by unfold rAt; first | rw [if_pos (by omega)] | rw [if_neg (by omega)], rfl, rfl⟩
  · refine g_iload_n fx dX4_at_4 rfl ?_
    refine g_aload_n fx dX4_at_5 rfl ?_
    refine g_getr fx dX4_at_6 fk_RX4_9 (row_O hr) (row_f hr) ?_
    refine g_alen fx dX4_at_9 (row_c hr) (by decide) (by have := row_n hr; omega) ?_
    refine g_icmp_ge (tgt := 22) fx dX4_at_10 (by decide) (fun h10 => ?_) (fun h10 => ?_)
    · refine g_iconst fx dX4_at_22 (by unfold okI; omega) ?_
      exact g_iret fx rfl dX4_at_23 (by decide) (by decide) (gw_le.rf _) ⟨by unfold rAt; first | rw [if_pos (by omega)] | rw [if_neg (by omega)], rfl, rfl⟩
    · refine g_aload_n fx dX4_at_13 rfl ?_
      refine g_getr fx dX4_at_14 fk_RX4_9 (row_O hr) (row_f hr) ?_
      refine g_iload_n fx dX4_at_17 rfl ?_
      refine g_iald fx dX4_at_18 (row_c hr) (by omega) (by omega) ?_
      refine g_goto (tgt := 23) fx dX4_at_19 (by decide) ?_
      exact g_iret fx rfl dX4_at_23 (by decide) (by decide) (gw_le.rf _) ⟨by unfold rAt; first | rw [if_pos (by omega)] | rw [if_neg (by omega)], rfl, rfl⟩
set_option maxRecDepth 4000 in
theorem s_X4_put (ad : Nat → Nat) (σ : Sg) {o n : Nat} (hr : (o, n) ∈ gw_rows) (i v : Int) : gw_Sp yX4_put cX4_put 3 none 1 0 0 [vR (some o), vI i, vI v] (gw_M0 ad) σ (gw_D (none) (gw_M0 ad) (rPut σ (o + 1) n i v)) gw_no := by
  refine gw_Sp.of [some (vR (some o)), some (vI i), some (vI v)] (by decide +kernel) rfl (Nat.le_of_ble_eq_true rfl) ?_
  intro X G fx het hnm
  refine g_iload_n fx dX4_put_0 rfl ?_
  refine g_if_lt (tgt := 20) fx dX4_put_1 (by decide) (fun h1 => ?_) (fun h1 => ?_)
  · exact g_vret fx rfl dX4_put_20 (by decide) (by decide) (gw_le.rf _) ⟨rfl, rfl, by unfold rPut; first | rw [if_pos (by omega)] | rw [if_neg (by omega)]⟩
  · refine g_iload_n fx dX4_put_4 rfl ?_
    refine g_aload_n fx dX4_put_5 rfl ?_
    refine g_getr fx dX4_put_6 fk_RX4_9 (row_O hr) (row_f hr) ?_
    refine g_alen fx dX4_put_9 (row_c hr) (by decide) (by have := row_n hr; omega) ?_
    refine g_icmp_ge (tgt := 20) fx dX4_put_10 (by decide) (fun h10 => ?_) (fun h10 => ?_)
    · exact g_vret fx rfl dX4_put_20 (by decide) (by decide) (gw_le.rf _) ⟨rfl, rfl, by unfold rPut; first | rw [if_pos (by omega)] | rw [if_neg (by omega)]⟩
    · refine g_aload_n fx dX4_put_13 rfl ?_
      refine g_getr fx dX4_put_14 fk_RX4_9 (row_O hr) (row_f hr) ?_
      refine g_iload_n fx dX4_put_17 rfl ?_
      refine g_iload_n fx dX4_put_18 rfl ?_
      refine g_iast fx dX4_put_19 (row_c hr) (by omega) (by omega) ?_
      exact g_vret fx rfl dX4_put_20 (by decide) (by decide) (gw_le.rf _) ⟨rfl, rfl, by unfold rPut; first | rw [if_pos (by omega)] | rw [if_neg (by omega)]⟩
set_option maxRecDepth 4000 in
theorem s_X4_fill (ad : Nat → Nat) (σ : Sg) {o n : Nat} (hr : (o, n) ∈ gw_rows) (v : Int) : gw_Sp yX4_fill cX4_fill 3 none 1 0 0 [vR (some o), vI v] (gw_M0 ad) σ (gw_D (none) (gw_M0 ad) (rFill σ (o + 1) n v)) gw_no := by
  refine gw_Sp.of [some (vR (some o)), some (vI v), none] (by decide +kernel) rfl (Nat.le_of_ble_eq_true rfl) ?_
  intro X G fx het hnm
  refine g_iconst fx dX4_fill_0 (by unfold okI; omega) ?_
  refine g_istore_n fx dX4_fill_1 (by decide) rfl rfl ?_
  have loop : ∀ k : Nat, k ≤ n → gw_W X (yX4_fill.cls, cX4_fill, 3, none, 1, 0, 0) G (gw_Z X G (gw_M0 ad) σ (gw_D none (gw_M0 ad) (rFill σ (o + 1) n v)) gw_no 0 0) 0 0 (gw_M0 ad) (rFill σ (o + 1) k v) 2 [some (vR (some o)), some (vI v), some (vI k)] [] := by
    refine up_ind _ n (fun k hk ih => ?_)
    have hn := row_n hr
    refine g_iload_n fx dX4_fill_2 rfl ?_
    refine g_aload_n fx dX4_fill_3 rfl ?_
    refine g_getr fx dX4_fill_4 fk_RX4_9 (row_O hr) (row_f hr) ?_
    refine g_alen fx dX4_fill_7 (row_c hr) (by decide) (by have := row_n hr; omega) ?_
    refine g_icmp_ge (tgt := 24) fx dX4_fill_8 (by decide) (fun h8 => ?_) (fun h8 => ?_)
    · exact g_vret fx rfl dX4_fill_24 (by decide) (by decide) (gw_le.rf _) ⟨rfl, rfl, by rw [show k = n by omega]⟩
    · refine g_aload_n fx dX4_fill_11 rfl ?_
      refine g_getr fx dX4_fill_12 fk_RX4_9 (row_O hr) (row_f hr) ?_
      refine g_iload_n fx dX4_fill_15 rfl ?_
      refine g_iload_n fx dX4_fill_16 rfl ?_
      refine g_iast fx dX4_fill_17 (row_c hr) (by omega) (by omega) ?_
      refine g_iinc1 fx dX4_fill_18 (by decide) rfl rfl (by unfold okI; omega) rfl ?_
      refine g_goto (tgt := 2) fx dX4_fill_21 (by decide) ?_
      have h := ih (by omega)
      rw [← rFill_succ] at h
      exact h
  have h := loop 0 (Nat.zero_le _)
  rw [rFill_0] at h
  exact h
set_option maxRecDepth 4000 in
theorem s_X4_copyOf (ad : Nat → Nat) (σ : Sg) {o n e m : Nat} (hr : (o, n) ∈ gw_rows) (he : (e, m) ∈ gw_rows) (hne : e + 1 ≠ o + 1) : gw_Sp yX4_copyOf cX4_copyOf 3 none 1 0 0 [vR (some o), vR (some e)] (gw_M0 ad) σ (gw_D (none) (gw_M0 ad) (rCopy σ (o + 1) (e + 1) (min n m))) gw_no := by
  refine gw_Sp.of [some (vR (some o)), some (vR (some e)), none] (by decide +kernel) rfl (Nat.le_of_ble_eq_true rfl) ?_
  intro X G fx het hnm
  refine g_iconst fx dX4_copyOf_0 (by unfold okI; omega) ?_
  refine g_istore_n fx dX4_copyOf_1 (by decide) rfl rfl ?_
  have loop : ∀ k : Nat, k ≤ min n m → gw_W X (yX4_copyOf.cls, cX4_copyOf, 3, none, 1, 0, 0) G (gw_Z X G (gw_M0 ad) σ (gw_D none (gw_M0 ad) (rCopy σ (o + 1) (e + 1) (min n m))) gw_no 0 0) 0 0 (gw_M0 ad) (rCopy σ (o + 1) (e + 1) k) 2 [some (vR (some o)), some (vR (some e)), some (vI k)] [] := by
    refine up_ind _ (min n m) (fun k hk ih => ?_)
    have hn := row_n hr
    have hm := row_n he
    refine g_iload_n fx dX4_copyOf_2 rfl ?_
    refine g_aload_n fx dX4_copyOf_3 rfl ?_
    refine g_getr fx dX4_copyOf_4 fk_RX4_9 (row_O hr) (row_f hr) ?_
    refine g_alen fx dX4_copyOf_7 (row_c hr) (by decide) (by have := row_n hr; omega) ?_
    refine g_icmp_ge (tgt := 38) fx dX4_copyOf_8 (by decide) (fun h8 => ?_) (fun h8 => ?_)
    · exact g_vret fx rfl dX4_copyOf_38 (by decide) (by decide) (gw_le.rf _) ⟨rfl, rfl, by rw [show k = min n m by omega]⟩
    · refine g_iload_n fx dX4_copyOf_11 rfl ?_
      refine g_aload_n fx dX4_copyOf_12 rfl ?_
      refine g_getr fx dX4_copyOf_13 fk_RX4_9 (row_O he) (row_f he) ?_
      refine g_alen fx dX4_copyOf_16 (row_c he) (by decide) (by have := row_n he; omega) ?_
      refine g_icmp_ge (tgt := 38) fx dX4_copyOf_17 (by decide) (fun h17 => ?_) (fun h17 => ?_)
      · exact g_vret fx rfl dX4_copyOf_38 (by decide) (by decide) (gw_le.rf _) ⟨rfl, rfl, by rw [show k = min n m by omega]⟩
      · refine g_aload_n fx dX4_copyOf_20 rfl ?_
        refine g_getr fx dX4_copyOf_21 fk_RX4_9 (row_O hr) (row_f hr) ?_
        refine g_iload_n fx dX4_copyOf_24 rfl ?_
        refine g_aload_n fx dX4_copyOf_25 rfl ?_
        refine g_getr fx dX4_copyOf_26 fk_RX4_9 (row_O he) (row_f he) ?_
        refine g_iload_n fx dX4_copyOf_29 rfl ?_
        refine g_iald fx dX4_copyOf_30 (row_c he) (by omega) (by omega) ?_
        refine g_iast fx dX4_copyOf_31 (row_c hr) (by omega) (by omega) ?_
        refine g_iinc1 fx dX4_copyOf_32 (by decide) rfl rfl (by unfold okI; omega) rfl ?_
        refine g_goto (tgt := 2) fx dX4_copyOf_35 (by decide) ?_
        have h := ih (by omega)
        rw [← rCopy_succ _ hne] at h
        exact h
  have h := loop 0 (Nat.zero_le _)
  rw [rCopy_0] at h
  exact h
theorem s_X4_atC (ad : Nat → Nat) (σ : Sg) {o n c : Nat} (hr : (o, n) ∈ gw_rows) (hc : o + 1 = c) (i : Int) : gw_Sp yX4_at cX4_at 2 (some .int) 1 0 0 [vR (some o), vI i] (gw_M0 ad) σ (gw_D (some (vI (rAt σ c n i))) (gw_M0 ad) (σ)) gw_no := by subst hc; exact s_X4_at ad σ hr i
theorem s_X4_putC (ad : Nat → Nat) (σ : Sg) {o n c : Nat} (hr : (o, n) ∈ gw_rows) (hc : o + 1 = c) (i v : Int) : gw_Sp yX4_put cX4_put 3 none 1 0 0 [vR (some o), vI i, vI v] (gw_M0 ad) σ (gw_D (none) (gw_M0 ad) (rPut σ c n i v)) gw_no := by subst hc; exact s_X4_put ad σ hr i v
theorem s_X4_fillC (ad : Nat → Nat) (σ : Sg) {o n c : Nat} (hr : (o, n) ∈ gw_rows) (hc : o + 1 = c) (v : Int) : gw_Sp yX4_fill cX4_fill 3 none 1 0 0 [vR (some o), vI v] (gw_M0 ad) σ (gw_D (none) (gw_M0 ad) (rFill σ c n v)) gw_no := by subst hc; exact s_X4_fill ad σ hr v
theorem s_X4_copyOfC (ad : Nat → Nat) (σ : Sg) {o n e m c d : Nat} (hr : (o, n) ∈ gw_rows) (he : (e, m) ∈ gw_rows) (hc : o + 1 = c) (hd : e + 1 = d) (hne : d ≠ c) : gw_Sp yX4_copyOf cX4_copyOf 3 none 1 0 0 [vR (some o), vR (some e)] (gw_M0 ad) σ (gw_D (none) (gw_M0 ad) (rCopy σ c d (min n m))) gw_no := by subst hc; subst hd; exact s_X4_copyOf ad σ hr he hne
