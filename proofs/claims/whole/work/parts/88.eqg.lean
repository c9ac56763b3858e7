/-! ALIKE, 19: the readers -/
section RE
variable {σ τ : Sg}
/-- two readers, both without a fault, that stand alike -/
def RE (σ τ : Sg) : Prop := (σ 3 6 = 0 ∧ τ 223 13 = 0) ∧ (σ 3 1 = τ 223 8 ∧ σ 3 2 = τ 223 11 ∧ σ 3 3 = τ 223 10 ∧ σ 3 4 = τ 223 9) ∧ (σ 3 2 = 2 → σ 3 5 = τ 223 12) ∧ Rk τ ∧ ∀ i : Int, 0 ≤ i → i < τ 223 8 → tAt σ i = tpF τ i
/-- two readers with the same fault at the same place -/
def RB (σ τ : Sg) : Prop := σ 3 6 ≠ 0 ∧ σ 3 6 = τ 223 13 ∧ σ 3 7 = τ 223 14
theorem wsp_cg {len : Int} {f g : Int → Int} (h : ∀ p, 0 ≤ p → p < len → f p = g p) : ∀ (n : Nat) (p : Int), 0 ≤ p → wsp len f n p = wsp len g n p ∧ p ≤ wsp len g n p := by
  intro n
  induction n with
  | zero => intro p _; exact ⟨rfl, Int.le_refl _⟩
  | succ n ih =>
    intro p hp
    rw [wsp, wsp]
    by_cases q : p < len
    · rw [h p hp q]
      obtain ⟨i1, i2⟩ := ih (p + 1) (by omega)
      split
      · exact ⟨i1, by omega⟩
      · exact ⟨rfl, Int.le_refl _⟩
    · rw [if_neg (fun e => q e.1), if_neg (fun e => q e.1)]; exact ⟨rfl, Int.le_refl _⟩
theorem ltp_cg {len : Int} {f g : Int → Int} (h : ∀ p, 0 ≤ p → p < len → f p = g p) : ∀ (n : Nat) (p : Int), 0 ≤ p → ltp len f n p = ltp len g n p := by
  intro n
  induction n with
  | zero => intro p _; rfl
  | succ n ih =>
    intro p hp
    rw [ltp, ltp]
    by_cases q : p < len
    · rw [h p hp q, ih (p + 1) (by omega)]
    · rw [if_neg (fun e => q e.1), if_neg (fun e => q e.1)]
theorem dgp_cg {len fr : Int} {f g : Int → Int} (h : ∀ p, 0 ≤ p → p < len → f p = g p) : ∀ (n : Nat) (v p : Int), 0 ≤ p → dgp len f fr n v p = dgp len g fr n v p := by
  intro n
  induction n with
  | zero => intro v p _; rfl
  | succ n ih =>
    intro v p hp
    rw [dgp, dgp]
    by_cases q : p < len
    · rw [h p hp q, ih _ (p + 1) (by omega)]
    · rw [if_neg (fun e => q e.1), if_neg (fun e => q e.1)]
theorem isD_1 {c : Int} (h : isD c ≠ 0) : 48 ≤ c ∧ c ≤ 57 := by
  unfold isD at h
  split at h
  · next q => exact q
  · exact absurd rfl h
theorem RE.ws (h : RE σ τ) : wspA σ = nWs τ ∧ 0 ≤ nWs τ := by
  obtain ⟨_, ⟨h1, h2, h3, h4⟩, _, hk, ht⟩ := h
  unfold Rk at hk
  unfold wspA nWs
  rw [h1, h4]
  have := wsp_cg ht (τ 223 8 - τ 223 9).toNat (τ 223 9) (by omega)
  exact ⟨this.1, by omega⟩
theorem RE.rd (h : RE σ τ) : RE (advF σ) (nRd τ) := by
  obtain ⟨w1, w2⟩ := h.ws
  have hkR := Rk_rd' h.2.2.2.1
  obtain ⟨⟨g1, g2⟩, ⟨h1, h2, h3, h4⟩, h5, hk, ht⟩ := h
  have key : (advF σ 3 2 = nRd τ 223 11 ∧ advF σ 3 3 = nRd τ 223 10 ∧ advF σ 3 4 = nRd τ 223 9) ∧ (advF σ 3 2 = 2 → advF σ 3 5 = nRd τ 223 12) := by
    unfold advF tokF nRd
    rw [w1, h1]
    by_cases q : τ 223 8 ≤ nWs τ
    · rw [if_pos q, if_pos q]
      exact ⟨⟨rfl, rfl, rfl⟩, fun e => absurd e (by show ¬ (0 : Int) = 2; decide)⟩
    · rw [if_neg q, if_neg q, ht (nWs τ) w2 (by omega)]
      by_cases l : isL (tpF τ (nWs τ)) ≠ 0
      · rw [if_pos l, if_pos l]
        have e : ltp (τ 223 8) (tAt σ) (τ 223 8 - (nWs τ + 1)).toNat (nWs τ + 1) = nLt τ := by
          rw [ltp_cg ht _ _ (by omega)]
          unfold nLt
          obtain ⟨n, hn⟩ : ∃ n, (τ 223 8 - nWs τ).toNat = n + 1 := ⟨(τ 223 8 - (nWs τ + 1)).toNat, by omega⟩
          rw [hn, ltp, if_pos ⟨by omega, l⟩, show (τ 223 8 - (nWs τ + 1)).toNat = n by omega]
        rw [e]
        exact ⟨⟨rfl, rfl, rfl⟩, fun e => absurd e (by show ¬ (1 : Int) = 2; decide)⟩
      · rw [if_neg l, if_neg l]
        by_cases d : isD (tpF τ (nWs τ)) ≠ 0
        · rw [if_pos d, if_pos d]
          have hd := isD_1 d
          have e : dgp (τ 223 8) (tAt σ) (nWs τ) (τ 223 8 - (nWs τ + 1)).toNat (wr (tpF τ (nWs τ) - 48)) (nWs τ + 1) = nDg τ := by
            rw [dgp_cg ht _ _ _ (by omega)]
            unfold nDg
            obtain ⟨n, hn⟩ : ∃ n, (τ 223 8 - nWs τ).toNat = n + 1 := ⟨(τ 223 8 - (nWs τ + 1)).toNat, by omega⟩
            have hw : wr (wr (wr (0 * 10) + tpF τ (nWs τ)) - 48) = wr (tpF τ (nWs τ) - 48) := by
              rw [show (0 : Int) * 10 = 0 by omega, wr_id (show okI 0 by unfold okI; omega), Int.zero_add, wr_id (show okI (tpF τ (nWs τ)) by unfold okI; omega)]
            have hw2 : wr (nWs τ - nWs τ) < 3 := by rw [Int.sub_self, wr_id (by unfold okI; omega)]; omega
            rw [hn, dgp, if_pos ⟨by omega, d⟩, if_pos hw2, hw, show (τ 223 8 - (nWs τ + 1)).toNat = n by omega]
          rw [e]
          exact ⟨⟨rfl, rfl, rfl⟩, fun _ => rfl⟩
        · rw [if_neg d, if_neg d]
          refine ⟨⟨rfl, rfl, rfl⟩, fun e => ?_⟩
          exfalso
          change (if tpF τ (nWs τ) = 59 then (3 : Int) else 4) = 2 at e
          split at e <;> omega
  have n13 : nRd τ 223 13 = τ 223 13 ∧ nRd τ 223 8 = τ 223 8 ∧ ∀ i, nRd τ 229 i = τ 229 i := by
    unfold nRd
    (repeat' split) <;> exact ⟨rfl, rfl, fun _ => rfl⟩
  refine ⟨⟨g1, by rw [n13.1]; exact g2⟩, ⟨by rw [n13.2.1]; exact h1, key.1.1, key.1.2.1, key.1.2.2⟩, key.2, hkR, fun i h0 hi => ?_⟩
  rw [n13.2.1] at hi
  unfold tpF
  rw [n13.2.2]
  exact ht i h0 hi
theorem RB.rd (h : RB σ τ) : RB (advF σ) τ := h
end RE
