/-! ALIKE, 19: the readers -/
section RE
variable {σ τ : Sg}
/-- two readers, both without a fault, that stand alike -/
def RE (σ τ : Sg) : Prop := (σ 3 6 = 0 ∧ τ 223 13 = 0) ∧ (σ 3 1 = τ 223 8 ∧ σ 3 2 = τ 223 11 ∧ σ 3 3 = τ 223 10 ∧ σ 3 4 = τ 223 9) ∧ (σ 3 2 = 2 → σ 3 5 = τ 223 12) ∧ (Rk τ ∧ τ 223 9 ≤ τ 223 8) ∧ ∀ i : Int, 0 ≤ i → i < τ 223 8 → tAt σ i = tpF τ i
/-- two readers with the same fault at the same place -/
def RB (σ τ : Sg) : Prop := σ 3 6 ≠ 0 ∧ σ 3 6 = τ 223 13 ∧ σ 3 7 = τ 223 14
theorem wsp_cg {len : Int} {f g : Int → Int} (h : ∀ p, 0 ≤ p → p < len → f p = g p) : ∀ (n : Nat) (p : Int), 0 ≤ p → wsp len f n p = wsp len g n p ∧ p ≤ wsp len g n p := by
  intro n
  induction n with
  | zero => intro p _; exact ⟨rfl, Int.le_refl _⟩
  | succ n ih =>
    intro p hp
    rw [wsp, wsp]
    by_cases q : p < len
    · rw [h p hp q]
      obtain ⟨i1, i2⟩ := ih (p + 1) (by omega)
      split
      · exact ⟨i1, by omega⟩
      · exact ⟨rfl, Int.le_refl _⟩
    · rw [if_neg (fun e => q e.1), if_neg (fun e => q e.1)]; exact ⟨rfl, Int.le_refl _⟩
theorem ltp_cg {len : Int} {f g : Int → Int} (h : ∀ p, 0 ≤ p → p < len → f p = g p) : ∀ (n : Nat) (p : Int), 0 ≤ p → ltp len f n p = ltp len g n p := by
  intro n
  induction n with
  | zero => intro p _; rfl
  | succ n ih =>
    intro p hp
    rw [ltp, ltp]
    by_cases q : p < len
    · rw [h p hp q, ih (p + 1) (by omega)]
    · rw [if_neg (fun e => q e.1), if_neg (fun e => q e.1)]
theorem dgp_cg {len fr : Int} {f g : Int → Int} (h : ∀ p, 0 ≤ p → p < len → f p = g p) : ∀ (n : Nat) (v p : Int), 0 ≤ p → dgp len f fr n v p = dgp len g fr n v p := by
  intro n
  induction n with
  | zero => intro v p _; rfl
  | succ n ih =>
    intro v p hp
    rw [dgp, dgp]
    by_cases q : p < len
    · rw [h p hp q, ih _ (p + 1) (by omega)]
    · rw [if_neg (fun e => q e.1), if_neg (fun e => q e.1)]
theorem isD_1 {c : Int} (h : isD c ≠ 0) : 48 ≤ c ∧ c ≤ 57 := by
  unfold isD at h
  split at h
  · next q => exact q
  · exact absurd rfl h
theorem RE.ws (h : RE σ τ) : wspA σ = nWs τ ∧ 0 ≤ nWs τ := by
  obtain ⟨_, ⟨h1, h2, h3, h4⟩, _, ⟨hk, _⟩, ht⟩ := h
  unfold Rk at hk
  unfold wspA nWs
  rw [h1, h4]
  have := wsp_cg ht (τ 223 8 - τ 223 9).toNat (τ 223 9) (by omega)
  exact ⟨this.1, by omega⟩
theorem RE.rd (h : RE σ τ) : RE (advF σ) (nRd τ) := by
  obtain ⟨w1, w2⟩ := h.ws
  have hkR := Rk_rd' h.2.2.2.1.1
  obtain ⟨⟨g1, g2⟩, ⟨h1, h2, h3, h4⟩, h5, ⟨hk, h9⟩, ht⟩ := h
  have key : (advF σ 3 2 = nRd τ 223 11 ∧ advF σ 3 3 = nRd τ 223 10 ∧ advF σ 3 4 = nRd τ 223 9) ∧ (advF σ 3 2 = 2 → advF σ 3 5 = nRd τ 223 12) := by
    unfold advF tokF nRd
    rw [w1, h1]
    by_cases q : τ 223 8 ≤ nWs τ
    · rw [if_pos q, if_pos q]
      exact ⟨⟨rfl, rfl, rfl⟩, fun e => absurd e (by show ¬ (0 : Int) = 2; decide)⟩
    · rw [if_neg q, if_neg q, ht (nWs τ) w2 (by omega)]
      by_cases l : isL (tpF τ (nWs τ)) ≠ 0
      · rw [if_pos l, if_pos l]
        have e : ltp (τ 223 8) (tAt σ) (τ 223 8 - (nWs τ + 1)).toNat (nWs τ + 1) = nLt τ := by
          rw [ltp_cg ht _ _ (by omega)]
          unfold nLt
          obtain ⟨n, hn⟩ : ∃ n, (τ 223 8 - nWs τ).toNat = n + 1 := ⟨(τ 223 8 - (nWs τ + 1)).toNat, by omega⟩
          rw [hn, ltp, if_pos ⟨by omega, l⟩, show (τ 223 8 - (nWs τ + 1)).toNat = n by omega]
        rw [e]
        exact ⟨⟨rfl, rfl, rfl⟩, fun e => absurd e (by show ¬ (1 : Int) = 2; decide)⟩
      · rw [if_neg l, if_neg l]
        by_cases d : isD (tpF τ (nWs τ)) ≠ 0
        · rw [if_pos d, if_pos d]
          have hd := isD_1 d
          have e : dgp (τ 223 8) (tAt σ) (nWs τ) (τ 223 8 - (nWs τ + 1)).toNat (wr (tpF τ (nWs τ) - 48)) (nWs τ + 1) = nDg τ := by
            rw [dgp_cg ht _ _ _ (by omega)]
            unfold nDg
            obtain ⟨n, hn⟩ : ∃ n, (τ 223 8 - nWs τ).toNat = n + 1 := ⟨(τ 223 8 - (nWs τ + 1)).toNat, by omega⟩
            have hw : wr (wr (wr (0 * 10) + tpF τ (nWs τ)) - 48) = wr (tpF τ (nWs τ) - 48) := by
              rw [show (0 : Int) * 10 = 0 by omega, wr_id (show okI 0 by unfold okI; omega), Int.zero_add, wr_id (show okI (tpF τ (nWs τ)) by unfold okI; omega)]
            have hw2 : wr (nWs τ - nWs τ) < 3 := by rw [Int.sub_self, wr_id (by unfold okI; omega)]; omega
            rw [hn, dgp, if_pos ⟨by omega, d⟩, if_pos hw2, hw, show (τ 223 8 - (nWs τ + 1)).toNat = n by omega]
          rw [e]
          exact ⟨⟨rfl, rfl, rfl⟩, fun _ => rfl⟩
        · rw [if_neg d, if_neg d]
          refine ⟨⟨rfl, rfl, rfl⟩, fun e => ?_⟩
          exfalso
          change (if tpF τ (nWs τ) = 59 then (3 : Int) else 4) = 2 at e
          split at e <;> omega
  have n9 : nRd τ 223 9 ≤ τ 223 8 := by
    have a1 := wsp_rg (τ 223 8) (tpF τ) (τ 223 8 - τ 223 9).toNat (τ 223 9)
    change τ 223 9 ≤ nWs τ ∧ nWs τ ≤ max (τ 223 9) (τ 223 8) at a1
    unfold nRd
    by_cases q : τ 223 8 ≤ nWs τ
    · rw [if_pos q]; show nWs τ ≤ _; omega
    · rw [if_neg q]
      split
      · have a2 := ltp_rg (τ 223 8) (tpF τ) (τ 223 8 - nWs τ).toNat (nWs τ)
        change nWs τ ≤ nLt τ ∧ nLt τ ≤ _ at a2
        show nLt τ ≤ _; omega
      · split
        · have a2 := dgp_rg (τ 223 8) (tpF τ) (nWs τ) (τ 223 8 - nWs τ).toNat 0 (nWs τ)
          change nWs τ ≤ (nDg τ).2 ∧ (nDg τ).2 ≤ _ at a2
          show (nDg τ).2 ≤ _; omega
        · show nWs τ + 1 ≤ _; omega
  have n13 : nRd τ 223 13 = τ 223 13 ∧ nRd τ 223 8 = τ 223 8 ∧ ∀ i, nRd τ 229 i = τ 229 i := by
    unfold nRd
    (repeat' split) <;> exact ⟨rfl, rfl, fun _ => rfl⟩
  refine ⟨⟨g1, by rw [n13.1]; exact g2⟩, ⟨by rw [n13.2.1]; exact h1, key.1.1, key.1.2.1, key.1.2.2⟩, key.2, ⟨hkR, by rw [n13.2.1]; exact n9⟩, fun i h0 hi => ?_⟩
  rw [n13.2.1] at hi
  unfold tpF
  rw [n13.2.2]
  exact ht i h0 hi
theorem RB.rd (h : RB σ τ) : RB (advF σ) τ := h
theorem nRd_ba (τ : Sg) : nRd τ 223 13 = τ 223 13 ∧ nRd τ 223 14 = τ 223 14 := by
  unfold nRd
  (repeat' split) <;> exact ⟨rfl, rfl⟩
theorem RB.rd2 (h : RB σ τ) : RB σ (nRd τ) := by
  obtain ⟨h1, h2, h3⟩ := h
  exact ⟨h1, by rw [(nRd_ba τ).1]; exact h2, by rw [(nRd_ba τ).2]; exact h3⟩
theorem RB.bad (h : RB σ τ) : τ 223 13 ≠ 0 := fun e => h.1 (h.2.1.trans e)
theorem RE.good (h : RE σ τ) : τ 223 13 = 0 := h.1.2
/-- alike, with or without a fault -/
def RQ (σ τ : Sg) : Prop := RE σ τ ∨ RB σ τ
theorem RE.fail (h : RE σ τ) {w : Int} (hw : w ≠ 0) : RB (rFail σ w) (nBl τ w) := by
  obtain ⟨⟨g1, g2⟩, ⟨h1, h2, h3, h4⟩, _⟩ := h
  unfold rFail nBl
  rw [if_pos g1, if_neg (show ¬ τ 223 13 ≠ 0 from fun e => e g2)]
  have e1 : su (su σ 3 6 (if σ 3 2 = 4 then 1 else w)) 3 7 (σ 3 3) 3 6 = if σ 3 2 = 4 then 1 else w := rfl
  have e2 : su (su σ 3 6 (if σ 3 2 = 4 then 1 else w)) 3 7 (σ 3 3) 3 7 = σ 3 3 := rfl
  have e3 : su (su τ 223 13 (if τ 223 11 = 4 then 1 else w)) 223 14 (su τ 223 13 (if τ 223 11 = 4 then 1 else w) 223 10) 223 13 = if τ 223 11 = 4 then 1 else w := rfl
  have e4 : su (su τ 223 13 (if τ 223 11 = 4 then 1 else w)) 223 14 (su τ 223 13 (if τ 223 11 = 4 then 1 else w) 223 10) 223 14 = τ 223 10 := rfl
  refine ⟨?_, ?_, ?_⟩
  · rw [e1]; split
    · decide
    · exact hw
  · rw [e1, e3, h2]
  · rw [e2, e4, h3]
theorem RB.fail (h : RB σ τ) (w w2 : Int) : RB (rFail σ w) (nBl τ w2) := by
  unfold rFail nBl
  rw [if_neg h.1, if_pos h.bad]; exact h
theorem RB.failz (h : RB σ τ) (w : Int) : RB (rFail σ w) τ := by
  unfold rFail
  rw [if_neg h.1]; exact h
theorem RB.nosp (h : RB σ τ) (j : Nat) : nSp τ j = 0 := by
  have h0 : nSp0 τ j = 0 := by unfold nSp0; rw [if_neg (fun e => h.bad e.1.1)]
  unfold nSp
  rw [h0]
  have : ∀ n, itr n (nSpS τ j) 0 = 0 := by
    intro n
    induction n with
    | zero => rfl
    | succ n ih => rw [itr_s, nSpS, ih, if_pos rfl]
  exact this _
theorem RE.sp (h : RE σ τ) (j : Nat) : rSp σ j = nSp τ j := by
  obtain ⟨⟨g1, g2⟩, ⟨h1, h2, h3, h4⟩, _, ⟨hk, h9⟩, ht⟩ := h
  unfold Rk at hk
  have e0 : rSp0 σ j = nSp0 τ j := by
    unfold rSp0 nSp0
    rw [h2, h3, h4]
    by_cases q : τ 223 11 = 1 ∧ wr (τ 223 9 - τ 223 10) = ((gw_wd j).length : Nat)
    · rw [if_pos q, if_pos ⟨⟨g2, q.1⟩, q.2⟩]
    · rw [if_neg q, if_neg (fun e => q ⟨e.1.2, e.2⟩)]
  unfold rSp nSp
  rw [e0]
  by_cases z : nSp0 τ j = 0
  · rw [z]
    have a : ∀ n, itr n (nSpS τ j) 0 = 0 := by
      intro n
      induction n with
      | zero => rfl
      | succ n ih => rw [itr_s, nSpS, ih, if_pos rfl]
    have b : ∀ n, itr n (rSpS σ j) 0 = 0 := by
      intro n
      induction n with
      | zero => rfl
      | succ n ih => rw [itr_s, rSpS, ih, if_pos rfl]
    rw [a, b]
  · have q : (τ 223 13 = 0 ∧ τ 223 11 = 1) ∧ wr (τ 223 9 - τ 223 10) = ((gw_wd j).length : Nat) := by
      unfold nSp0 at z
      exact Decidable.byContradiction fun e => z (by rw [if_neg e])
    have q2 := q.2
    rw [wr_id (by unfold okI; omega)] at q2
    refine itr_cg _ (fun k y hk2 => ?_)
    have hw : wr (τ 223 10 + ((k : Nat) : Int)) = τ 223 10 + ((k : Nat) : Int) := wr_id (by unfold okI; omega)
    unfold rSpS nSpS
    rw [h3, hw, ht _ (by omega) (by omega)]
    rfl
theorem RE.tak (h : RE σ τ) (j : Nat) : RE (rTak σ j) (nTak τ j) := by
  unfold rTak nTak
  rw [h.sp]
  split
  · exact h
  · exact h.rd
theorem RB.tak (h : RB σ τ) (j : Nat) : RB (rTak σ j) (nTak τ j) := by
  unfold rTak nTak
  rw [if_pos (h.nosp j)]
  split
  · exact h
  · exact h.rd
theorem RE.exp (h : RE σ τ) (j : Nat) : RQ (rExp σ j) (nBeh1 τ j) := by
  unfold rExp nBeh1 nTak
  rw [h.sp]
  by_cases q : nSp τ j = 0
  · rw [if_pos q, if_pos q, if_pos q]; exact Or.inr (h.fail (by decide))
  · rw [if_neg q, if_neg q, if_neg q]; exact Or.inl h.rd
theorem RB.exp (h : RB σ τ) (j : Nat) : RB (rExp σ j) (nBeh1 τ j) := by
  unfold rExp nBeh1 nTak
  rw [if_pos (h.nosp j), if_pos (h.nosp j)]
  split
  · exact h.fail _ _
  · unfold nBl; rw [if_pos h.bad]; exact h.rd
theorem wth_0 {v lo hi : Int} : wth v lo hi = 0 ↔ v < lo ∨ hi < v := by
  unfold wth
  by_cases q : lo ≤ v ∧ v ≤ hi
  · rw [if_pos q]; omega
  · rw [if_neg q]; omega
theorem nBl_bad (τ : Sg) {w : Int} (hw : w ≠ 0) : nBl τ w 223 13 ≠ 0 := nBl_13 τ hw
theorem RE.num (h : RE σ τ) (lo hi : Int) : (RE (rNum σ lo hi).2 (nNm2 τ lo hi) ∧ (rNum σ lo hi).1 = nNum τ lo hi) ∨ RB (rNum σ lo hi).2 (nNm2 τ lo hi) := by
  have g := h.good
  have h2 := h.2.1.2.1
  have h5 := h.2.2.1
  unfold rNum nNum nNm2 nNm1
  rw [h2]
  by_cases q : τ 223 11 ≠ 2
  · rw [if_pos q, if_pos q, if_neg (nBl_bad τ (by decide))]
    exact Or.inr (h.fail (by decide))
  · have e5 := h5 (h2.trans (Decidable.not_not.mp q))
    rw [if_neg q, if_neg q, e5]
    by_cases z : wth (τ 223 12) lo hi = 0
    · rw [if_pos z, if_pos (wth_0.mp z), if_neg (nBl_bad τ (by decide))]
      exact Or.inr (h.fail (by decide))
    · rw [if_neg z, if_neg (fun e => z (wth_0.mpr e)), if_pos g, if_pos (by rw [(nRd_ba τ).1]; exact g)]
      exact Or.inl ⟨h.rd, rfl⟩
theorem RB.num (h : RB σ τ) (lo hi : Int) : RB (rNum σ lo hi).2 (nNm2 τ lo hi) := by
  have e1 : nNm1 τ lo hi = τ := by
    unfold nNm1 nBl
    split
    · rw [if_pos h.bad]
    · split
      · rw [if_pos h.bad]
      · rfl
  unfold nNm2
  rw [e1, if_neg h.bad]
  unfold rNum
  split
  · exact h.failz _
  · split
    · exact h.failz _
    · exact h.rd
theorem RE.end_ (h : RE σ τ) : RQ (rEnd σ) (nEnds τ) := by
  have h2 := h.2.1.2.1
  have g := h.good
  unfold rEnd nEnds nEnd1
  rw [h2]
  by_cases q : τ 223 11 = 3
  · rw [if_pos q, if_neg (show ¬ τ 223 11 ≠ 3 from fun e => e q), if_pos g]; exact Or.inl h.rd
  · rw [if_neg q, if_pos q, if_neg (nBl_bad τ (by decide))]; exact Or.inr (h.fail (by decide))
theorem RB.end_ (h : RB σ τ) : RB (rEnd σ) (nEnds τ) := by
  have e1 : nEnd1 τ = τ := by
    unfold nEnd1 nBl
    split
    · rw [if_pos h.bad]
    · rfl
  unfold nEnds
  rw [e1, if_neg h.bad]
  unfold rEnd
  split
  · exact h.rd
  · exact h.failz _
theorem RE.opt (h : RE σ τ) (j : Nat) (lo hi df : Int) : (RE (rOpt σ j lo hi df).2 (nOp τ j lo hi df).2 ∧ (rOpt σ j lo hi df).1 = (nOp τ j lo hi df).1) ∨ RB (rOpt σ j lo hi df).2 (nOp τ j lo hi df).2 := by
  unfold rOpt nOp
  rw [h.sp]
  by_cases q : nSp τ j = 0
  · rw [if_pos q, if_pos q]; exact Or.inl ⟨h.tak j, rfl⟩
  · rw [if_neg q, if_neg q]; exact (h.tak j).num lo hi
theorem RB.opt (h : RB σ τ) (j : Nat) (lo hi df : Int) : RB (rOpt σ j lo hi df).2 (nOp τ j lo hi df).2 := by
  unfold rOpt nOp
  rw [if_pos (h.nosp j)]
  split
  · exact h.tak j
  · have := (h.tak j).num lo hi
    have e1 : nNm1 (nTak τ j) lo hi = nTak τ j := by
      unfold nNm1 nBl
      split
      · rw [if_pos (h.tak j).bad]
      · split
        · rw [if_pos (h.tak j).bad]
        · rfl
    unfold nNm2 at this
    rw [e1, if_neg (h.tak j).bad] at this
    exact this
end RE
