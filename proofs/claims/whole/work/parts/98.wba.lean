/-! ALIKE, 38: what all cost together is bounded; the best law of one key -/
section AL
variable {σ τ : Sg}
/-- nobody's cost is beyond all bounds -/
theorem nCo_ok {u : Sg} (hT : TW (u 224)) : nCo (nRu u) ≤ 1000000000 := by
  have hS := hT.sacks
  have e := nRu_224 hT
  have key : ∀ n : Nat, n ≤ (u 224 4).toNat → 0 ≤ itr n (ncS (nRu u)) 0 ∧ itr n (ncS (nRu u)) 0 ≤ 900000 * ((n : Nat) : Int) := by
    intro n
    induction n with
    | zero => intro _; rw [itr_0]; exact ⟨Int.le_refl _, by omega⟩
    | succ n ih =>
      intro hn
      obtain ⟨i1, i2⟩ := ih (by omega)
      have hs : ((n : Nat) : Int) < u 224 4 := by omega
      have ho := hT.of (s := ((n : Nat) : Int)) (by omega) hs
      have w0 := wait_0 hT (s := ((n : Nat) : Int)) (by omega) hs
      have w6 := wait_6 hT (s := ((n : Nat) : Int)) (by omega) hs
      have hm := mul_9w ho.2.2.2.2.1 ⟨w0, w6⟩
      rw [itr_s, ncS, nOf_of e]
      generalize itr n (ncS (nRu u)) 0 = c at i1 i2 ⊢
      generalize nOf u ((n : Nat) : Int) 4 * nWa (nRu u) ((n : Nat) : Int) = m at hm ⊢
      rw [wr_id (show okI m by unfold okI; omega), wr_id (by unfold okI; omega)]
      omega
  unfold nCo
  rw [e]
  have := key (u 224 4).toNat (Nat.le_refl _)
  generalize itr (u 224 4).toNat (ncS (nRu u)) 0 = c at this ⊢
  omega
theorem cb_ok (hT : TW (τ 224)) {key : Int} (hk : 0 ≤ key ∧ key ≤ 7) : cbV τ key ≤ 1000000000 := nCo_ok (u := cb2 τ key) (TW_key hT key)
theorem al_bestLaw (h : Rel σ τ) : Al none [] (zBl σ).1 (blL (nT0 τ) 7).1 (zBl σ).2.2 σ (blL (nT0 τ) 7).2 := by
  have h0 := h.t0
  have key : ∀ n : Nat, n ≤ 7 → ((itr (n + 1) zBlS (0, 1000000000, σ)).1 = (blL (nT0 τ) n).1 ∧ (0 ≤ (blL (nT0 τ) n).1 ∧ (blL (nT0 τ) n).1 ≤ 7) ∧ (itr (n + 1) zBlS (0, 1000000000, σ)).2.1 = coF (zRb σ (blL (nT0 τ) n).1) 96 74) ∧ (Rel (itr (n + 1) zBlS (0, 1000000000, σ)).2.2 (blL (nT0 τ) n).2 ∧ Rel σ (blL (nT0 τ) n).2 ∧ (blL (nT0 τ) n).2 223 5 = 0) := by
    intro n
    induction n with
    | zero =>
      intro _
      have hb : blL (nT0 τ) 0 = (0, nT0 τ) := rfl
      rw [hb, itr_s, itr_0, zBlS]
      have hc : coF (zRb σ ((0 : Nat) : Int)) 96 74 ≤ 1000000000 := by
        have := rb_cost h0 (key := 0) (by omega)
        show coF (zRb σ 0) 96 74 ≤ _
        rw [this]
        exact cb_ok h0.tw (by omega)
      have hf := (rb_alike h0 (key := ((0 : Nat) : Int)) (by omega)).2
      dsimp only
      by_cases z : coF (zRb σ ((0 : Nat) : Int)) 96 74 < 1000000000
      · rw [if_pos z]
        exact ⟨⟨rfl, by omega, rfl⟩, h0.fr hf (Ft.rf _), h0, thr_5 τ 0⟩
      · rw [if_neg z]
        refine ⟨⟨rfl, by omega, ?_⟩, h0.fr hf (Ft.rf _), h0, thr_5 τ 0⟩
        show (1000000000 : Int) = coF (zRb σ ((0 : Nat) : Int)) 96 74
        omega
    | succ n ih =>
      intro hn
      obtain ⟨⟨i1, i2, i3⟩, i4, i5, i6⟩ := ih (by omega)
      rw [itr_s, zBlS, blL_s, blS]
      generalize itr (n + 1) zBlS (0, 1000000000, σ) = x at i1 i3 i4 ⊢
      have c1 : coF (zRb x.2.2 ((n + 1 : Nat) : Int)) 96 74 = cbV (blL (nT0 τ) n).2 (((n : Nat) : Int) + 1) := by
        rw [show ((n + 1 : Nat) : Int) = ((n : Nat) : Int) + 1 by omega]; exact rb_cost i4 (by omega)
      have c2 : coF (zRb σ (((n : Nat) : Int) + 1)) 96 74 = cbV (blL (nT0 τ) n).2 (((n : Nat) : Int) + 1) := rb_cost i5 (by omega)
      have i7 := i5.fr (Fz.rf σ) (Ft_cb (blL (nT0 τ) n).2 (((n : Nat) : Int) + 1))
      have c3 : coF (zRb σ (blL (nT0 τ) n).1) 96 74 = cbV (cbY (blL (nT0 τ) n).2 (((n : Nat) : Int) + 1)) (blL (nT0 τ) n).1 := rb_cost i7 i2
      have i8 := i7.fr (Fz.rf σ) (Ft_cb _ (blL (nT0 τ) n).1)
      have hf := (rb_alike i4 (key := ((n + 1 : Nat) : Int)) (by omega)).2
      have i9 := i4.fr hf ((Ft_cb (blL (nT0 τ) n).2 (((n : Nat) : Int) + 1)).trans (Ft_cb _ (blL (nT0 τ) n).1))
      have i10 : blY n (blL (nT0 τ) n) 223 5 = 0 := by unfold blY; rw [cbY_5, cbY_5]; exact i6
      have e9 : cbY (cbY (blL (nT0 τ) n).2 (((n : Nat) : Int) + 1)) (blL (nT0 τ) n).1 = blY n (blL (nT0 τ) n) := rfl
      rw [e9] at i8 i9
      rw [c1, i3, c3]
      generalize blY n (blL (nT0 τ) n) = w at i8 i9 i10 ⊢
      generalize cbV (cbY (blL (nT0 τ) n).2 (((n : Nat) : Int) + 1)) (blL (nT0 τ) n).1 = B at c3 ⊢
      generalize cbV (blL (nT0 τ) n).2 (((n : Nat) : Int) + 1) = A at c2 ⊢
      generalize (blL (nT0 τ) n).1 = b0 at i1 i2 i3 c3 ⊢
      generalize zRb x.2.2 ((n + 1 : Nat) : Int) = x9 at i9 ⊢
      by_cases z : A < B
      · rw [if_pos z, if_pos z]
        refine ⟨⟨?_, ?_, ?_⟩, i9, i8, i10⟩
        · show ((n + 1 : Nat) : Int) = _; omega
        · show 0 ≤ ((n : Nat) : Int) + 1 ∧ ((n : Nat) : Int) + 1 ≤ 7; omega
        · show A = coF (zRb σ (((n : Nat) : Int) + 1)) 96 74; exact c2.symm
      · rw [if_neg z, if_neg z]
        refine ⟨⟨i1, i2, ?_⟩, i9, i8, i10⟩
        show B = coF (zRb σ b0) 96 74; exact c3.symm
  obtain ⟨⟨k1, _, _⟩, k4, _, k6⟩ := key 7 (Nat.le_refl _)
  exact Al.no _ k6 k1 k4
end AL
