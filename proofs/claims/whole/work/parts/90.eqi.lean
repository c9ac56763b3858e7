/-! ALIKE, 21: a line read -/
section LN
variable {σ σ' τ : Sg} {t t' : Nat → Int}
theorem adv_3 (σ : Sg) {a : Nat} (ha : a ≠ 3) (j : Nat) : advF σ a j = σ a j := by unfold advF mk3; rw [if_neg ha]
theorem fail_3 (σ : Sg) (w : Int) {a : Nat} (ha : a ≠ 3) (j : Nat) : rFail σ w a j = σ a j := by
  unfold rFail; split
  · rw [su_ne _ _ (Or.inl ha), su_ne _ _ (Or.inl ha)]
  · rfl
theorem tak_3 (σ : Sg) (w : Nat) {a : Nat} (ha : a ≠ 3) (j : Nat) : rTak σ w a j = σ a j := by
  unfold rTak; split
  · rfl
  · exact adv_3 σ ha j
theorem exp_3 (σ : Sg) (w : Nat) {a : Nat} (ha : a ≠ 3) (j : Nat) : rExp σ w a j = σ a j := by
  unfold rExp; split
  · exact fail_3 σ _ ha j
  · exact adv_3 σ ha j
theorem num_3 (σ : Sg) (lo hi : Int) {a : Nat} (ha : a ≠ 3) (j : Nat) : (rNum σ lo hi).2 a j = σ a j := by
  unfold rNum; split
  · exact fail_3 σ _ ha j
  · split
    · exact fail_3 σ _ ha j
    · exact adv_3 σ ha j
theorem rend_3 (σ : Sg) {a : Nat} (ha : a ≠ 3) (j : Nat) : rEnd σ a j = σ a j := by
  unfold rEnd; split
  · exact adv_3 σ ha j
  · exact fail_3 σ _ ha j
theorem opt_3 (σ : Sg) (w : Nat) (lo hi df : Int) {a : Nat} (ha : a ≠ 3) (j : Nat) : (rOpt σ w lo hi df).2 a j = σ a j := by
  unfold rOpt; split
  · exact tak_3 σ w ha j
  · exact (num_3 _ _ _ ha j).trans (tak_3 σ w ha j)
/-- worlds with the reader, the tape as they were -/
theorem RE.cls (h : RE σ τ) (f : ∀ a j : Nat, (a = 2 ∨ a = 3) → σ' a j = σ a j) : RE σ' τ := by
  obtain ⟨⟨g1, g2⟩, ⟨h1, h2, h3, h4⟩, h5, hk, ht⟩ := h
  have f3 : ∀ j, σ' 3 j = σ 3 j := fun j => f 3 j (Or.inr rfl)
  refine ⟨⟨by rw [f3]; exact g1, g2⟩, ⟨by rw [f3]; exact h1, by rw [f3]; exact h2, by rw [f3]; exact h3, by rw [f3]; exact h4⟩, by rw [f3, f3]; exact h5, hk, fun i h0 hi => ?_⟩
  rw [← ht i h0 hi]
  unfold tAt
  rw [f 2 _ (Or.inl rfl)]
theorem RB.cls (h : RB σ τ) (f : ∀ j : Nat, σ' 3 j = σ 3 j) : RB σ' τ := by
  unfold RB; rw [f, f]; exact h
theorem RE.mod {τ' : Sg} (h : RE σ τ) (f : ∀ a j : Nat, (a = 223 ∨ a = 229) → τ' a j = τ a j) : RE σ τ' := by
  obtain ⟨⟨g1, g2⟩, ⟨h1, h2, h3, h4⟩, h5, ⟨hk, h9⟩, ht⟩ := h
  have f3 : ∀ j, τ' 223 j = τ 223 j := fun j => f 223 j (Or.inl rfl)
  refine ⟨⟨g1, by rw [f3]; exact g2⟩, ⟨by rw [f3]; exact h1, by rw [f3]; exact h2, by rw [f3]; exact h3, by rw [f3]; exact h4⟩, by rw [f3]; exact h5, ⟨Rk_of f3 hk, by rw [f3, f3]; exact h9⟩, fun i h0 hi => ?_⟩
  rw [f3] at hi
  rw [ht i h0 hi]
  unfold tpF
  rw [f 229 _ (Or.inr rfl)]
theorem RB.mod {τ' : Sg} (h : RB σ τ) (f : ∀ j : Nat, τ' 223 j = τ 223 j) : RB σ τ' := by
  unfold RB; rw [f, f]; exact h
theorem nNum_rg (τ : Sg) {lo hi : Int} (hl : lo ≤ hi) : lo ≤ nNum τ lo hi ∧ nNum τ lo hi ≤ hi := by
  unfold nNum
  split
  · next q =>
    unfold nNm2 at q
    split at q
    · next q2 =>
      clear q
      unfold nNm1 at q2 ⊢
      split at q2
      · exact absurd q2 (nBl_bad τ (by decide))
      · next z1 =>
        split at q2
        · exact absurd q2 (nBl_bad τ (by decide))
        · next z2 =>
          rw [if_neg z1, if_neg z2]
          have : ¬ (τ 223 12 < lo ∨ hi < τ 223 12) := fun e => z2 (wth_0.mpr e)
          omega
    · next q2 => exact absurd q q2
  · omega
/-- all alike while a text is read -/
def Qd (σ τ : Sg) : Prop := (RE σ τ ∧ DR σ (τ 225) ∧ DW (τ 225)) ∨ RB σ τ
/-- the clean, the fee set -/
theorem DR.set (h : DR σ t) (w : DW t) {c k : Nat} {v : Int} (hk : (k = 2 ∧ c = 3 ∧ 0 ≤ v ∧ v ≤ 60) ∨ (k = 3 ∧ c = 4 ∧ 0 ≤ v ∧ v ≤ 99)) (g : ∀ j, t' j = if j = k then v else t j) : DR (su σ 51 c v) t' ∧ DW t' := by
  obtain ⟨⟨a1, a2, a3, a4, a5⟩, ⟨b1, b2, b3⟩, cc, d⟩ := h
  obtain ⟨⟨h1, h2, h3b, h4, h8, h17, h668⟩, hp2, hs, hkk⟩ := w
  have gn : ∀ j, (j ≠ 2 ∧ j ≠ 3) → t' j = t j := fun j q => by rw [g, if_neg (by omega)]
  have e2 : ∀ a j : Nat, ¬ (a = 51 ∧ (j = 3 ∨ j = 4)) → su σ 51 c v a j = σ a j := fun a j q => su_ne _ _ (by omega)
  constructor
  · refine ⟨⟨?_, ?_, ?_, ?_, ?_⟩, ⟨?_, ?_, fun k q => ?_⟩, fun k q => ?_, fun s q => ?_⟩
    · rw [e2 _ _ (by omega), gn _ (by omega)]; exact a1
    · rw [e2 _ _ (by omega), gn _ (by omega)]; exact a2
    · rcases hk with ⟨k1, k2, _⟩ | ⟨k1, k2, _⟩
      · rw [g, if_pos k1.symm, k2, su_same]
      · rw [g, if_neg (by omega), su_ne _ _ (by omega)]; exact a3
    · rcases hk with ⟨k1, k2, _⟩ | ⟨k1, k2, _⟩
      · rw [g, if_neg (by omega), su_ne _ _ (by omega)]; exact a4
      · rw [g, if_pos k1.symm, k2, su_same]
    · rw [e2 _ _ (by omega), gn _ (by omega)]; exact a5
    · rw [e2 _ _ (by omega), gn _ (by omega)]; exact b1
    · rw [e2 _ _ (by omega), gn _ (by omega)]; exact b2
    · rw [gn _ (by omega)] at q
      rw [e2 _ _ (by omega), gn _ (by omega)]; exact b3 k q
    · rw [gn _ (by omega)] at q
      rw [e2 _ _ (by omega), gn _ (by omega)]; exact cc k q
    · rw [gn _ (by omega)] at q
      rw [e2 _ _ (by omega), e2 _ _ (by omega), e2 _ _ (by omega), e2 _ _ (by omega), e2 _ _ (by omega), e2 _ _ (by omega), e2 _ _ (by omega), e2 _ _ (by omega)]
      rw [gn _ (by omega), gn _ (by omega), gn _ (by omega), gn _ (by omega), gn _ (by omega), gn _ (by omega), gn _ (by omega), gn _ (by omega)]
      exact d s q
  · refine ⟨⟨by rw [gn _ (by omega)]; exact h1, by rw [g]; split <;> omega, by rw [g]; split <;> omega, by rw [gn _ (by omega)]; exact h4, by rw [gn _ (by omega)]; exact h8, by rw [gn _ (by omega)]; exact h17, by rw [gn _ (by omega), gn _ (by omega)]; exact h668⟩, fun k q => ?_, fun s q => ?_, fun k q => ?_⟩
    · rw [gn _ (by omega)] at q
      rw [gn _ (by omega)]; exact hp2 k q
    · rw [gn _ (by omega)] at q
      obtain ⟨s1, s2, s3⟩ := hs s q
      unfold TSk tM at *
      rw [gn _ (by omega), gn _ (by omega), gn _ (by omega), gn _ (by omega), gn _ (by omega), gn _ (by omega), gn _ (by omega), gn _ (by omega)]
      exact ⟨s1, s2, s3⟩
    · rw [gn _ (by omega)] at q
      rw [gn _ (by omega)]; exact hkk k q
/-- the stone's line -/
theorem stone_alike (h : RE σ τ) (hd : DR σ (τ 225)) (hw : DW (τ 225)) : Qd (tStone σ) (nStn τ) := by
  have hb := hw.1.1
  have g := h.good
  unfold tStone nStn nStn1
  rw [hd.1.2.1]
  by_cases q : τ 225 1 = 3
  · rw [if_pos (show 3 ≤ τ 225 1 by omega), if_pos q, if_pos (nBl_bad τ (by decide))]
    exact Or.inr (h.fail (by decide))
  · rw [if_neg (show ¬ 3 ≤ τ 225 1 by omega), if_neg q, if_neg (show ¬ τ 223 13 ≠ 0 from fun e => e g)]
    unfold nStn3 nStn2 nStn1
    rw [if_neg q]
    have e5 : ∀ j, nNm2 (nRd τ) 1 9 225 j = τ 225 j := fun j => (nNm2_ne _ _ _ (by decide) j).trans (nRd_ne τ (by decide) j)
    have er := nNum_rg (nRd τ) (show (1 : Int) ≤ 9 by decide)
    have f3 : ∀ a, a ≠ 3 → ∀ j, (rNum (advF σ) 1 9).2 a j = σ a j := fun a ha j => (num_3 _ _ _ ha j).trans (adv_3 σ ha j)
    rcases h.rd.num 1 9 with ⟨n1, n2⟩ | n1
    · rw [n2, if_neg (show ¬ nNm2 (nRd τ) 1 9 223 13 ≠ 0 from fun e => e n1.good)]
      generalize nNm2 (nRd τ) 1 9 = y at n1 e5 ⊢
      generalize nNum (nRd τ) 1 9 = v at er ⊢
      generalize (rNum (advF σ) 1 9).2 = x at n1 f3 ⊢
      have hd2 : DR x (τ 225) := hd.of f3 (fun _ => rfl)
      have e1 : su y 225 (5 + y 225 1).toNat v 225 1 = τ 225 1 := by rw [su_ne _ _ (Or.inr (by rw [e5]; omega)), e5]
      have st := DR.stone (t' := su (su y 225 (5 + y 225 1).toNat v) 225 1 (wr (su y 225 (5 + y 225 1).toNat v 225 1 + 1)) 225) hd2 hw (by omega) er (fun j => by
        rw [e1, e5, wr_id (by unfold okI; omega)]
        by_cases z : j = 1
        · rw [if_pos z, z, su_same]
        · rw [if_neg z, su_ne _ _ (Or.inr z)]
          by_cases z2 : j = 5 + (τ 225 1).toNat
          · rw [if_pos z2, show (5 + τ 225 1).toNat = j by omega, su_same]
          · rw [if_neg z2, su_ne _ _ (Or.inr (by omega)), e5])
      refine Or.inl ⟨(n1.cls (fun a j ha => ?_)).mod (fun a j ha => ?_), st.1, st.2⟩
      · unfold mStone; rw [su_ne _ _ (Or.inl (by omega)), rPut_ne (by omega)]
      · rw [su_ne _ _ (Or.inl (by omega)), su_ne _ _ (Or.inl (by omega))]
    · rw [if_pos n1.bad]
      refine Or.inr (n1.cls (fun j => ?_))
      unfold mStone; rw [su_ne _ _ (Or.inl (by decide)), rPut_ne (by decide)]
end LN
