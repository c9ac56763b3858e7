/-! ALIKE, 22: a sack told -/
section SKs
variable {σ σ' τ : Sg} {t t' : Nat → Int}
theorem mSack_at (σ : Sg) (m : Nat) {n : Nat} (hn : n < 60) (h5 : σ m 5 = ((n : Nat) : Int)) (w p c s v o : Int) (a j : Nat) : mSack σ m w p c s v o a j = if a = m ∧ j = 5 then ((n : Nat) : Int) + 1 else if a = m + 21 ∧ j = 8 * n then w else if a = m + 19 ∧ j = n then 1 else if a = m + 7 ∧ j = n then w else if a = m + 17 ∧ j = n then o else if a = m + 15 ∧ j = n then v else if a = m + 13 ∧ j = n then s else if a = m + 11 ∧ j = n then c else if a = m + 9 ∧ j = n then p else σ a j := by
  have P : ∀ (x : Sg) (c : Nat) (v : Int) (a j : Nat), rPut x c 60 ((n : Nat) : Int) v a j = if a = c ∧ j = n then v else x a j := fun x c v a j => by rw [rPut_at (by omega) (by omega)]; rfl
  have Q : ∀ (x : Sg) (c : Nat) (v : Int), c ≠ m → rPut x c 60 ((n : Nat) : Int) v m 5 = x m 5 := fun x c v hc => rPut_ne (by omega)
  unfold mSack
  rw [h5, Q _ _ _ (by omega), h5, Q _ _ _ (by omega), Q _ _ _ (by omega), h5, Q _ _ _ (by omega), Q _ _ _ (by omega), Q _ _ _ (by omega), h5, Q _ _ _ (by omega), Q _ _ _ (by omega), Q _ _ _ (by omega), Q _ _ _ (by omega), h5, Q _ _ _ (by omega), Q _ _ _ (by omega), Q _ _ _ (by omega), Q _ _ _ (by omega), Q _ _ _ (by omega), h5]
  rw [mWhole_5, Q _ _ _ (by omega), Q _ _ _ (by omega), Q _ _ _ (by omega), Q _ _ _ (by omega), Q _ _ _ (by omega), h5, wr_id (by unfold okI; omega)]
  by_cases q : a = m ∧ j = 5
  · obtain ⟨rfl, rfl⟩ := q
    rw [su_same, if_pos ⟨rfl, rfl⟩]
  · rw [su_ne _ _ (by omega), if_neg q, mWhole_at _ m (by omega), P, P, P, P, P]
theorem mSack_lo (σ : Sg) (w p c s v o : Int) (a j : Nat) (ha : a < 51) : mSack σ 51 w p c s v o a j = σ a j := by
  unfold mSack mWhole
  rw [su_ne _ _ (Or.inl (by omega)), rPut_ne (by omega), rPut_ne (by omega), rPut_ne (by omega), rPut_ne (by omega), rPut_ne (by omega), rPut_ne (by omega), rPut_ne (by omega), rPut_ne (by omega)]
theorem su_at (σ : Sg) (a k : Nat) (v : Int) (j : Nat) : su σ a k v a j = if j = k then v else σ a j := by
  by_cases q : j = k
  · rw [if_pos q, q, su_same]
  · rw [if_neg q, su_ne _ _ (Or.inr q)]
/-- one more sack -/
theorem DR.sack (h : DR σ t) (w : DW t) {n : Nat} (hn : t 4 = ((n : Nat) : Int)) (h24 : n < 24) {v1 v2 v3 v4 v5 v6 : Int} (r1 : 1 ≤ v1 ∧ v1 ≤ 99) (r2 : 0 ≤ v2 ∧ v2 ≤ 7) (r3 : 0 ≤ v3 ∧ v3 ≤ 600) (r4 : 0 ≤ v4 ∧ v4 ≤ 3) (r5 : 1 ≤ v5 ∧ v5 ≤ 9) (r6 : -1 ≤ v6 ∧ v6 ≤ 999)
    (g : ∀ j, t' j = if j = 668 then t 668 + 1 else if j = 4 then ((n : Nat) : Int) + 1 else if j = 608 + n then v1 else if j = 20 + 7 * n + 6 then 1 else if j = 20 + 7 * n + 5 then v6 else if j = 20 + 7 * n + 4 then v5 else if j = 20 + 7 * n + 3 then v4 else if j = 20 + 7 * n + 2 then v3 else if j = 20 + 7 * n + 1 then v2 else if j = 20 + 7 * n + 0 then v1 else t j) : DR (mSack σ 51 v1 v2 v3 v4 v5 v6) t' ∧ DW t' := by
  obtain ⟨⟨a1, a2, a3, a4, a5⟩, ⟨b1, b2, b3⟩, c, d⟩ := h
  obtain ⟨⟨h1, h2, h3b, h4, h8, h17, h668⟩, hp2, hs, hk⟩ := w
  have e := mSack_at σ 51 (n := n) (by omega) (a5.trans hn) v1 v2 v3 v4 v5 v6
  generalize mSack σ 51 v1 v2 v3 v4 v5 v6 = y at e ⊢
  have eo : ∀ a j : Nat, (a = 51 ∧ j ≠ 5 ∨ a = 52 ∨ a = 54 ∨ a = 56) → y a j = σ a j := fun a j q => by
    rw [e]; (repeat rw [if_neg (by omega)])
  have lo : ∀ j : Nat, j < 20 → j ≠ 4 → t' j = t j := fun j q1 q2 => by
    rw [g]; (repeat rw [if_neg (by omega)])
  have l4 : t' 4 = ((n : Nat) : Int) + 1 := by rw [g, if_neg (by omega), if_pos rfl]
  have sk : ∀ s : Nat, s < n → ∀ i : Nat, i < 7 → t' (20 + 7 * s + i) = t (20 + 7 * s + i) := fun s q i hi => by
    rw [g]; (repeat rw [if_neg (by omega)])
  have cu : ∀ s : Nat, s < n → t' (608 + s) = t (608 + s) := fun s q => by
    rw [g]; (repeat rw [if_neg (by omega)])
  have n0 : t' (20 + 7 * n + 0) = v1 := by rw [g]; (repeat first | rw [if_pos (by omega)] | rw [if_neg (by omega)])
  have n1 : t' (20 + 7 * n + 1) = v2 := by rw [g]; (repeat first | rw [if_pos (by omega)] | rw [if_neg (by omega)])
  have n2 : t' (20 + 7 * n + 2) = v3 := by rw [g]; (repeat first | rw [if_pos (by omega)] | rw [if_neg (by omega)])
  have n3 : t' (20 + 7 * n + 3) = v4 := by rw [g]; (repeat first | rw [if_pos (by omega)] | rw [if_neg (by omega)])
  have n4 : t' (20 + 7 * n + 4) = v5 := by rw [g]; (repeat first | rw [if_pos (by omega)] | rw [if_neg (by omega)])
  have n5 : t' (20 + 7 * n + 5) = v6 := by rw [g]; (repeat first | rw [if_pos (by omega)] | rw [if_neg (by omega)])
  have n6 : t' (20 + 7 * n + 6) = 1 := by rw [g]; (repeat first | rw [if_pos (by omega)] | rw [if_neg (by omega)])
  have n7 : t' (608 + n) = v1 := by rw [g]; (repeat first | rw [if_pos (by omega)] | rw [if_neg (by omega)])
  have n8 : t' 668 = t 668 + 1 := by rw [g, if_pos rfl]
  constructor
  · refine ⟨⟨?_, ?_, ?_, ?_, ?_⟩, ⟨?_, ?_, fun k q => ?_⟩, fun k q => ?_, fun s q => ?_⟩
    · rw [eo _ _ (by omega), lo _ (by omega) (by omega)]; exact a1
    · rw [eo _ _ (by omega), lo _ (by omega) (by omega)]; exact a2
    · rw [eo _ _ (by omega), lo _ (by omega) (by omega)]; exact a3
    · rw [eo _ _ (by omega), lo _ (by omega) (by omega)]; exact a4
    · rw [l4, e, if_pos ⟨rfl, rfl⟩]
    · rw [eo _ _ (by omega), lo _ (by omega) (by omega)]; exact b1
    · rw [eo _ _ (by omega), lo _ (by omega) (by omega)]; exact b2
    · rw [lo _ (by omega) (by omega)] at q
      rw [eo _ _ (by omega), lo _ (by omega) (by omega)]; exact b3 k q
    · rw [lo _ (by omega) (by omega)] at q
      rw [eo _ _ (by omega), lo _ (by omega) (by omega)]; exact c k q
    · rw [l4] at q
      by_cases z : s = n
      · subst z
        rw [n0, n1, n2, n3, n4, n5, n6, n7]
        refine ⟨?_, ?_, ?_, ?_, ?_, ?_, ?_, ?_⟩ <;> (rw [e]; (repeat first | rw [if_pos (by omega)] | rw [if_neg (by omega)]))
      · have z2 : s < n := by omega
        have ee : ∀ a j : Nat, (j = s ∧ a ≠ 51 ∧ a ≠ 72) ∨ (a = 72 ∧ j = 8 * s) → y a j = σ a j := fun a j q => by
          rw [e]; (repeat rw [if_neg (by omega)])
        rw [ee _ _ (by omega), ee _ _ (by omega), ee _ _ (by omega), ee _ _ (by omega), ee _ _ (by omega), ee _ _ (by omega), ee _ _ (by omega), ee _ _ (by omega)]
        rw [sk s z2 0 (by omega), sk s z2 1 (by omega), sk s z2 2 (by omega), sk s z2 3 (by omega), sk s z2 4 (by omega), sk s z2 5 (by omega), sk s z2 6 (by omega), cu s z2]
        exact d s (by omega)
  · refine ⟨⟨by rw [lo _ (by omega) (by omega)]; exact h1, by rw [lo _ (by omega) (by omega)]; exact h2, by rw [lo _ (by omega) (by omega)]; exact h3b, by rw [l4]; omega, by rw [lo _ (by omega) (by omega)]; exact h8, by rw [lo _ (by omega) (by omega)]; exact h17, by rw [n8, l4]; omega⟩, fun k q => ?_, fun s q => ?_, fun k q => ?_⟩
    · rw [lo _ (by omega) (by omega)] at q
      rw [lo _ (by omega) (by omega)]; exact hp2 k q
    · rw [l4] at q
      by_cases z : s = n
      · subst z
        unfold TSk tM
        rw [n0, n1, n2, n3, n4, n5, n6, n7]
        exact ⟨⟨r1, r2, r3, r4, r5, r6, by omega⟩, rfl, r1⟩
      · have z2 : s < n := by omega
        obtain ⟨s1, s2, s3⟩ := hs s (by omega)
        unfold TSk tM at *
        rw [sk s z2 0 (by omega), sk s z2 1 (by omega), sk s z2 2 (by omega), sk s z2 3 (by omega), sk s z2 4 (by omega), sk s z2 5 (by omega), sk s z2 6 (by omega), cu s z2]
        exact ⟨s1, s2, s3⟩
    · rw [lo _ (by omega) (by omega)] at q
      rw [lo _ (by omega) (by omega)]; exact hk k q
theorem RQ.bn (h : RQ σ τ) (j : Nat) (lo hi : Int) : (RE (rNum (rExp σ j) lo hi).2 (nNm2 (nBeh1 τ j) lo hi) ∧ (rNum (rExp σ j) lo hi).1 = nNum (nBeh1 τ j) lo hi) ∨ RB (rNum (rExp σ j) lo hi).2 (nNm2 (nBeh1 τ j) lo hi) := by
  rcases h with h | h
  · rcases h.exp j with h | h
    · exact h.num lo hi
    · exact Or.inr (h.num lo hi)
  · exact Or.inr ((h.exp j).num lo hi)
theorem nOp_rg (τ : Sg) (j : Nat) {lo hi df : Int} (hl : lo ≤ hi) {a : Int} (h1 : a ≤ df) (h2 : df ≤ hi) (h3 : a ≤ lo) : a ≤ (nOp τ j lo hi df).1 ∧ (nOp τ j lo hi df).1 ≤ hi := by
  unfold nOp
  split
  · exact ⟨h1, h2⟩
  · have := nNum_rg (nTak τ j) hl
    exact ⟨Int.le_trans h3 this.1, this.2⟩
theorem sk6_3 (σ : Sg) {a : Nat} (ha : a ≠ 3) (j : Nat) : (sk6 σ).2 a j = σ a j := by
  unfold sk6; rw [opt_3 _ _ _ _ _ ha]
  unfold sk5; rw [opt_3 _ _ _ _ _ ha]
  unfold sk4; rw [opt_3 _ _ _ _ _ ha]
  unfold sk3; rw [num_3 _ _ _ ha, exp_3 _ _ ha]
  unfold sk2; rw [num_3 _ _ _ ha, exp_3 _ _ ha]
  unfold sk1; rw [num_3 _ _ _ ha, adv_3 _ ha]
theorem nz10_ne (τ : Sg) {a : Nat} (ha : a ≠ 225) (j : Nat) : nz10 τ a j = (nq6 τ).2 a j := by
  rw [nz10, su_ne _ _ (Or.inl ha), nz9, su_ne _ _ (Or.inl ha), nz8, su_ne _ _ (Or.inl ha), nz7, su_ne _ _ (Or.inl ha), nz6, su_ne _ _ (Or.inl ha), nz5, su_ne _ _ (Or.inl ha), nz4, su_ne _ _ (Or.inl ha), nz3, su_ne _ _ (Or.inl ha), nz2, su_ne _ _ (Or.inl ha), nz1, su_ne _ _ (Or.inl ha)]
theorem nz10_at (τ : Sg) {n : Nat} (hn : τ 225 4 = ((n : Nat) : Int)) (h24 : n < 24) (h668 : 0 ≤ τ 225 668 ∧ τ 225 668 ≤ 99) (j : Nat) : nz10 τ 225 j = if j = 668 then τ 225 668 + 1 else if j = 4 then ((n : Nat) : Int) + 1 else if j = 608 + n then nv1 τ else if j = 20 + 7 * n + 6 then 1 else if j = 20 + 7 * n + 5 then (nq6 τ).1 else if j = 20 + 7 * n + 4 then (nq5 τ).1 else if j = 20 + 7 * n + 3 then (nq4 τ).1 else if j = 20 + 7 * n + 2 then nv3 τ else if j = 20 + 7 * n + 1 then nv2 τ else if j = 20 + 7 * n + 0 then nv1 τ else τ 225 j := by
  have E : ∀ j, nz8 τ 225 j = if j = 608 + n then nv1 τ else if j = 20 + 7 * n + 6 then 1 else if j = 20 + 7 * n + 5 then (nq6 τ).1 else if j = 20 + 7 * n + 4 then (nq5 τ).1 else if j = 20 + 7 * n + 3 then (nq4 τ).1 else if j = 20 + 7 * n + 2 then nv3 τ else if j = 20 + 7 * n + 1 then nv2 τ else if j = 20 + 7 * n + 0 then nv1 τ else τ 225 j := fun j => by
    rw [nz8, su_at, nz7, su_at, nz6, su_at, nz5, su_at, nz4, su_at, nz3, su_at, nz2, su_at, nz1, su_at, nq6_ne _ (by decide), hn]
    rw [show (608 + ((n : Nat) : Int)).toNat = 608 + n by omega, show (20 + 7 * ((n : Nat) : Int) + 6).toNat = 20 + 7 * n + 6 by omega, show (20 + 7 * ((n : Nat) : Int) + 5).toNat = 20 + 7 * n + 5 by omega, show (20 + 7 * ((n : Nat) : Int) + 4).toNat = 20 + 7 * n + 4 by omega, show (20 + 7 * ((n : Nat) : Int) + 3).toNat = 20 + 7 * n + 3 by omega, show (20 + 7 * ((n : Nat) : Int) + 2).toNat = 20 + 7 * n + 2 by omega, show (20 + 7 * ((n : Nat) : Int) + 1).toNat = 20 + 7 * n + 1 by omega, show (20 + 7 * ((n : Nat) : Int) + 0).toNat = 20 + 7 * n + 0 by omega]
  have e4 : nz8 τ 225 4 = ((n : Nat) : Int) := by rw [E]; (repeat rw [if_neg (by omega)]); exact hn
  have e6 : nz8 τ 225 668 = τ 225 668 := by rw [E]; (repeat rw [if_neg (by omega)])
  rw [nz10, su_at, nz9, su_at, su_at, E j, e4, if_neg (show ¬ 668 = 4 by decide), e6, wr_id (by unfold okI; omega), wr_id (by unfold okI; omega)]
/-- the sack's line -/
theorem sack_alike (h : RE σ τ) (hd : DR σ (τ 225)) (hw : DW (τ 225)) : Qd (tSack σ) (nSk τ) := by
  have hb := hw.1.2.2.2.1
  have h6 := hw.1.2.2.2.2.2.2
  have g := h.good
  unfold tSack nSk
  rw [hd.1.2.2.2.2]
  by_cases q : τ 225 4 = 24
  · have e0 : nq0 τ = nBl τ 4 := by unfold nq0; rw [if_pos q]
    rw [if_pos (show 24 ≤ τ 225 4 by omega), e0, if_pos (nBl_bad τ (by decide))]
    exact Or.inr (h.fail (by decide))
  · have e0 : nq0 τ = τ := by unfold nq0; rw [if_neg q]
    rw [if_neg (show ¬ 24 ≤ τ 225 4 by omega), e0, if_neg (show ¬ τ 223 13 ≠ 0 from fun e => e g)]
    have k1 : (RE (sk1 σ).2 (nq1 τ) ∧ (sk1 σ).1 = nv1 τ) ∨ RB (sk1 σ).2 (nq1 τ) := by
      unfold sk1 nq1 nv1; rw [e0]; exact h.rd.num 1 99
    have k2 : (RE (sk2 σ).2 (nq2 τ) ∧ (sk1 σ).1 = nv1 τ ∧ (sk2 σ).1 = nv2 τ) ∨ RB (sk2 σ).2 (nq2 τ) := by
      unfold sk2 nq2 nv2
      rcases k1 with ⟨k, z⟩ | k
      · rcases RQ.bn (Or.inl k) 4 0 7 with ⟨k', z'⟩ | k'
        · exact Or.inl ⟨k', z, z'⟩
        · exact Or.inr k'
      · exact Or.inr ((k.exp 4).num 0 7)
    have k3 : (RE (sk3 σ).2 (nq3 τ) ∧ ((sk1 σ).1 = nv1 τ ∧ (sk2 σ).1 = nv2 τ) ∧ (sk3 σ).1 = nv3 τ) ∨ RB (sk3 σ).2 (nq3 τ) := by
      unfold sk3 nq3 nv3
      rcases k2 with ⟨k, z⟩ | k
      · rcases RQ.bn (Or.inl k) 5 0 600 with ⟨k', z'⟩ | k'
        · exact Or.inl ⟨k', z, z'⟩
        · exact Or.inr k'
      · exact Or.inr ((k.exp 5).num 0 600)
    have k4 : (RE (sk4 σ).2 (nq4 τ).2 ∧ (((sk1 σ).1 = nv1 τ ∧ (sk2 σ).1 = nv2 τ) ∧ (sk3 σ).1 = nv3 τ) ∧ (sk4 σ).1 = (nq4 τ).1) ∨ RB (sk4 σ).2 (nq4 τ).2 := by
      unfold sk4 nq4
      rcases k3 with ⟨k, z⟩ | k
      · rcases k.opt 6 0 3 0 with ⟨k', z'⟩ | k'
        · exact Or.inl ⟨k', z, z'⟩
        · exact Or.inr k'
      · exact Or.inr (k.opt 6 0 3 0)
    have k5 : (RE (sk5 σ).2 (nq5 τ).2 ∧ ((((sk1 σ).1 = nv1 τ ∧ (sk2 σ).1 = nv2 τ) ∧ (sk3 σ).1 = nv3 τ) ∧ (sk4 σ).1 = (nq4 τ).1) ∧ (sk5 σ).1 = (nq5 τ).1) ∨ RB (sk5 σ).2 (nq5 τ).2 := by
      unfold sk5 nq5
      rcases k4 with ⟨k, z⟩ | k
      · rcases k.opt 7 1 9 1 with ⟨k', z'⟩ | k'
        · exact Or.inl ⟨k', z, z'⟩
        · exact Or.inr k'
      · exact Or.inr (k.opt 7 1 9 1)
    have k6 : (RE (sk6 σ).2 (nq6 τ).2 ∧ (((((sk1 σ).1 = nv1 τ ∧ (sk2 σ).1 = nv2 τ) ∧ (sk3 σ).1 = nv3 τ) ∧ (sk4 σ).1 = (nq4 τ).1) ∧ (sk5 σ).1 = (nq5 τ).1) ∧ (sk6 σ).1 = (nq6 τ).1) ∨ RB (sk6 σ).2 (nq6 τ).2 := by
      unfold sk6 nq6
      rcases k5 with ⟨k, z⟩ | k
      · rcases k.opt 8 0 999 (-1) with ⟨k', z'⟩ | k'
        · exact Or.inl ⟨k', z, z'⟩
        · exact Or.inr k'
      · exact Or.inr (k.opt 8 0 999 (-1))
    rcases k6 with ⟨k, ⟨⟨⟨⟨z1, z2⟩, z3⟩, z4⟩, z5⟩, z6⟩ | k
    · rw [if_neg (show ¬ (nq6 τ).2 223 13 ≠ 0 from fun e => e k.good), z1, z2, z3, z4, z5, z6]
      obtain ⟨n, hn⟩ : ∃ n : Nat, τ 225 4 = ((n : Nat) : Int) := ⟨(τ 225 4).toNat, by omega⟩
      have r1 : 1 ≤ nv1 τ ∧ nv1 τ ≤ 99 := nNum_rg _ (by decide)
      have r2 : 0 ≤ nv2 τ ∧ nv2 τ ≤ 7 := nNum_rg _ (by decide)
      have r3 : 0 ≤ nv3 τ ∧ nv3 τ ≤ 600 := nNum_rg _ (by decide)
      have r4 : 0 ≤ (nq4 τ).1 ∧ (nq4 τ).1 ≤ 3 := nOp_rg _ _ (by decide) (by decide) (by decide) (by decide)
      have r5 : 1 ≤ (nq5 τ).1 ∧ (nq5 τ).1 ≤ 9 := nOp_rg _ _ (by decide) (by decide) (by decide) (by decide)
      have r6 : -1 ≤ (nq6 τ).1 ∧ (nq6 τ).1 ≤ 999 := nOp_rg _ _ (by decide) (by decide) (by decide) (by decide)
      have f := nz10_at τ hn (by omega) (by omega)
      have f2 := fun a (ha : a ≠ 225) j => nz10_ne τ (a := a) ha j
      have hd2 : DR (sk6 σ).2 (τ 225) := hd.of (fun a ha j => sk6_3 σ ha j) (fun _ => rfl)
      generalize nz10 τ = y at f f2 ⊢
      generalize nv1 τ = v1 at *
      generalize nv2 τ = v2 at *
      generalize nv3 τ = v3 at *
      generalize nq6 τ = u6 at *
      generalize (nq5 τ).1 = v5 at *
      generalize (nq4 τ).1 = v4 at *
      have st := DR.sack (t' := y 225) hd2 hw hn (by omega) r1 r2 r3 r4 r5 r6 f
      refine Or.inl ⟨(k.cls (fun a j ha => ?_)).mod (fun a j ha => ?_), st.1, st.2⟩
      · exact mSack_lo _ _ _ _ _ _ _ _ _ (by omega)
      · exact f2 _ (by omega) _
    · rw [if_pos k.bad]
      exact Or.inr (k.cls (fun j => mSack_lo _ _ _ _ _ _ _ _ _ (by decide)))
end SKs
