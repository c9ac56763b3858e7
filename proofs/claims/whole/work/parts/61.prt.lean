/-! The model's sacks parted: what the row becomes, that it stays well-formed -/
def ptU (all many had : Int) (i : Nat) (x : Sg) : Sg := su x 224 (608 + (all - 1 - ((i : Nat) : Int)) + many - had).toNat (x 224 (608 + (all - 1 - ((i : Nat) : Int))).toNat)
def ptD (f0 many had : Int) (i : Nat) (x : Sg) : Sg := su x 224 (608 + (f0 + ((i : Nat) : Int)) + many - had).toNat (x 224 (608 + (f0 + ((i : Nat) : Int))).toNat)
def ptL (first : Int) (i : Nat) (x : Sg) : Sg := su x 224 (608 + first + ((i : Nat) : Int)).toNat (x 230 i)
def pt1 (σ : Sg) (s many : Int) : Sg := if nOf σ s 6 < many then itr (σ 224 668 - (nFo σ s + nOf σ s 6)).toNat (ptU (σ 224 668) many (nOf σ s 6)) σ else itr (σ 224 668 - (nFo σ s + nOf σ s 6)).toNat (ptD (nFo σ s + nOf σ s 6) many (nOf σ s 6)) σ
def pt2 (σ : Sg) (s many : Int) : Sg := itr many.toNat (ptL (nFo σ s)) (pt1 σ s many)
def pt3 (σ : Sg) (s many : Int) : Sg := nSets (pt2 σ s many) s 6 many
def nPts (σ : Sg) (s many : Int) : Sg := su (pt3 σ s many) 224 668 (σ 224 668 + many - nOf σ s 6)
theorem ptU_at (σ : Sg) {all many had : Int} (hd : had < many) (h0 : 0 ≤ had) (hm : many ≤ 8) (ha : all ≤ 60) : ∀ i : Nat, ((i : Nat) : Int) ≤ all → ∀ a j : Nat, itr i (ptU all many had) σ a j = if a = 224 ∧ (608 + all + many - had - ((i : Nat) : Int) ≤ ((j : Nat) : Int) ∧ ((j : Nat) : Int) < 608 + all + many - had) then σ 224 (((j : Nat) : Int) + had - many).toNat else σ a j := by
  intro i
  induction i with
  | zero => intro _ a j; rw [if_neg (by omega)]; rfl
  | succ i ih =>
    intro hi a j
    have ih := ih (by omega)
    rw [itr_s, ptU, ih 224 _, if_neg (by omega)]
    by_cases q : a = 224 ∧ j = (608 + (all - 1 - ((i : Nat) : Int)) + many - had).toNat
    · obtain ⟨rfl, q2⟩ := q
      rw [q2, su_same, if_pos (by omega)]
      congr 1; omega
    · rw [su_ne _ _ (by omega), ih a j]
      by_cases q3 : a = 224 ∧ (608 + all + many - had - ((i : Nat) : Int) ≤ ((j : Nat) : Int) ∧ ((j : Nat) : Int) < 608 + all + many - had)
      · rw [if_pos q3, if_pos (by omega)]
      · rw [if_neg q3, if_neg (by omega)]
theorem ptD_at (σ : Sg) {f0 many had : Int} (hd : many ≤ had) (h0 : had ≤ f0) (hm : 0 ≤ many) : ∀ i : Nat, ∀ a j : Nat, itr i (ptD f0 many had) σ a j = if a = 224 ∧ (608 + f0 + many - had ≤ ((j : Nat) : Int) ∧ ((j : Nat) : Int) < 608 + f0 + many - had + ((i : Nat) : Int)) then σ 224 (((j : Nat) : Int) + had - many).toNat else σ a j := by
  intro i
  induction i with
  | zero => intro a j; rw [if_neg (by omega)]; rfl
  | succ i ih =>
    intro a j
    by_cases q0 : many = had
    · subst q0
      have e1 : ∀ a j, itr i (ptD f0 many many) σ a j = σ a j := by
        intro a j
        rw [ih a j]
        by_cases q3 : a = 224 ∧ (608 + f0 + many - many ≤ ((j : Nat) : Int) ∧ ((j : Nat) : Int) < 608 + f0 + many - many + ((i : Nat) : Int))
        · rw [if_pos q3, q3.1]; congr 1; omega
        · rw [if_neg q3]
      have e2 : (if a = 224 ∧ (608 + f0 + many - many ≤ ((j : Nat) : Int) ∧ ((j : Nat) : Int) < 608 + f0 + many - many + ((i + 1 : Nat) : Int)) then σ 224 (((j : Nat) : Int) + many - many).toNat else σ a j) = σ a j := by
        split
        · next q3 => rw [q3.1]; congr 1; omega
        · rfl
      rw [e2, itr_s, ptD, e1 224 _]
      by_cases q : a = 224 ∧ j = (608 + (f0 + ((i : Nat) : Int)) + many - many).toNat
      · obtain ⟨rfl, q2⟩ := q
        rw [q2, su_same]; congr 1; omega
      · rw [su_ne _ _ (by omega), e1]
    · rw [itr_s, ptD, ih 224 _, if_neg (by omega)]
      by_cases q : a = 224 ∧ j = (608 + (f0 + ((i : Nat) : Int)) + many - had).toNat
      · obtain ⟨rfl, q2⟩ := q
        rw [q2, su_same, if_pos (by omega)]
        congr 1; omega
      · rw [su_ne _ _ (by omega), ih a j]
        by_cases q3 : a = 224 ∧ (608 + f0 + many - had ≤ ((j : Nat) : Int) ∧ ((j : Nat) : Int) < 608 + f0 + many - had + ((i : Nat) : Int))
        · rw [if_pos q3, if_pos (by omega)]
        · rw [if_neg q3, if_neg (by omega)]
theorem ptL_at (x : Sg) {first : Int} (h0 : 0 ≤ first) : ∀ i : Nat, ∀ a j : Nat, itr i (ptL first) x a j = if a = 224 ∧ (608 + first ≤ ((j : Nat) : Int) ∧ ((j : Nat) : Int) < 608 + first + ((i : Nat) : Int)) then x 230 (((j : Nat) : Int) - 608 - first).toNat else x a j := by
  intro i
  induction i with
  | zero => intro a j; rw [if_neg (by omega)]; rfl
  | succ i ih =>
    intro a j
    rw [itr_s, ptL, ih 230 _, if_neg (by omega)]
    by_cases q : a = 224 ∧ j = (608 + first + ((i : Nat) : Int)).toNat
    · obtain ⟨rfl, q2⟩ := q
      rw [q2, su_same, if_pos (by omega)]
      congr 1; omega
    · rw [su_ne _ _ (by omega), ih a j]
      by_cases q3 : a = 224 ∧ (608 + first ≤ ((j : Nat) : Int) ∧ ((j : Nat) : Int) < 608 + first + ((i : Nat) : Int))
      · rw [if_pos q3, if_pos (by omega)]
      · rw [if_neg q3, if_neg (by omega)]
/-- what is known where a sack is parted: its first piece, its pieces, all pieces -/
theorem pt_rg {σ : Sg} (hT : TW (σ 224)) {s : Int} (h0 : 0 ≤ s) (h1 : s < σ 224 4) : nFo σ s = tPre (σ 224) s.toNat ∧ nOf σ s 6 = tM (σ 224) s.toNat ∧ (0 ≤ nFo σ s ∧ nFo σ s + nOf σ s 6 ≤ σ 224 668) ∧ (1 ≤ nOf σ s 6 ∧ nOf σ s 6 ≤ 8) := by
  have e1 : nFo σ s = tPre (σ 224) s.toNat := by
    have := nFo_pre hT (s := s.toNat) (by omega)
    rwa [show ((s.toNat : Nat) : Int) = s by omega] at this
  have e2 : nOf σ s 6 = tM (σ 224) s.toNat := nOf_t σ h0 (by decide)
  have h2 := tPre_nn hT (a := s.toNat) (by omega)
  have h3 := tPre_le hT (a := s.toNat + 1) (by omega)
  have h4 := hT.many s.toNat (by omega)
  have e3 : tPre (σ 224) (s.toNat + 1) = tPre (σ 224) s.toNat + tM (σ 224) s.toNat := rfl
  exact ⟨e1, e2, by omega, by omega⟩
theorem nPts_at {σ : Sg} (hT : TW (σ 224)) {s many : Int} (h0 : 0 ≤ s) (h1 : s < σ 224 4) (hm : 1 ≤ many ∧ many ≤ 8) (hp : σ 224 668 - nOf σ s 6 + many ≤ 60) (a j : Nat) : nPts σ s many a j =
    if a = 224 then
      if j = 668 then σ 224 668 + many - nOf σ s 6
      else if ((j : Nat) : Int) = 26 + 7 * s then many
      else if 608 + nFo σ s ≤ ((j : Nat) : Int) ∧ ((j : Nat) : Int) < 608 + nFo σ s + many then σ 230 (((j : Nat) : Int) - 608 - nFo σ s).toNat
      else if 608 + nFo σ s + many ≤ ((j : Nat) : Int) ∧ ((j : Nat) : Int) < 608 + σ 224 668 + many - nOf σ s 6 then σ 224 (((j : Nat) : Int) + nOf σ s 6 - many).toNat
      else σ 224 j
    else σ a j := by
  obtain ⟨e1, e2, h2, h3⟩ := pt_rg hT h0 h1
  have h60 := hT.p60
  have hS := hT.sacks
  have g1 : ∀ a j : Nat, pt1 σ s many a j = if a = 224 ∧ (608 + nFo σ s + many ≤ ((j : Nat) : Int) ∧ ((j : Nat) : Int) < 608 + σ 224 668 + many - nOf σ s 6) then σ 224 (((j : Nat) : Int) + nOf σ s 6 - many).toNat else σ a j := by
    intro a j
    rw [pt1]
    split
    · next q =>
      rw [ptU_at σ q (by omega) hm.2 h60 _ (by omega)]
      by_cases q3 : a = 224 ∧ (608 + nFo σ s + many ≤ ((j : Nat) : Int) ∧ ((j : Nat) : Int) < 608 + σ 224 668 + many - nOf σ s 6)
      · rw [if_pos q3, if_pos (by omega)]
      · rw [if_neg q3, if_neg (by omega)]
    · next q =>
      rw [ptD_at σ (by omega) (by omega) (by omega)]
      by_cases q3 : a = 224 ∧ (608 + nFo σ s + many ≤ ((j : Nat) : Int) ∧ ((j : Nat) : Int) < 608 + σ 224 668 + many - nOf σ s 6)
      · rw [if_pos q3, if_pos (by omega)]
      · rw [if_neg q3, if_neg (by omega)]
  have g2 : ∀ a j : Nat, pt2 σ s many a j = if a = 224 ∧ (608 + nFo σ s ≤ ((j : Nat) : Int) ∧ ((j : Nat) : Int) < 608 + nFo σ s + many) then σ 230 (((j : Nat) : Int) - 608 - nFo σ s).toNat else pt1 σ s many a j := by
    intro a j
    rw [pt2, ptL_at _ h2.1, g1 230 _, if_neg (show ¬ (230 = 224 ∧ _) by omega)]
    by_cases q3 : a = 224 ∧ (608 + nFo σ s ≤ ((j : Nat) : Int) ∧ ((j : Nat) : Int) < 608 + nFo σ s + many)
    · rw [if_pos q3, if_pos (by omega)]
    · rw [if_neg q3, if_neg (by omega)]
  rw [nPts]
  by_cases qa : a = 224
  · subst qa
    rw [if_pos rfl]
    by_cases qj : j = 668
    · subst qj; rw [su_same, if_pos rfl]
    · rw [su_ne _ _ (Or.inr qj), if_neg qj, pt3, nSets]
      by_cases qs : ((j : Nat) : Int) = 26 + 7 * s
      · rw [if_pos qs, show (20 + 7 * s + 6).toNat = j by omega, su_same]
      · rw [if_neg qs, su_ne _ _ (Or.inr (by omega)), g2, g1]
        by_cases q3 : 608 + nFo σ s ≤ ((j : Nat) : Int) ∧ ((j : Nat) : Int) < 608 + nFo σ s + many
        · rw [if_pos ⟨rfl, q3⟩, if_pos q3]
        · rw [if_neg (fun q => q3 q.2), if_neg q3]
          by_cases q4 : 608 + nFo σ s + many ≤ ((j : Nat) : Int) ∧ ((j : Nat) : Int) < 608 + σ 224 668 + many - nOf σ s 6
          · rw [if_pos ⟨rfl, q4⟩, if_pos q4]
          · rw [if_neg (fun q => q4 q.2), if_neg q4]
  · rw [if_neg qa, su_ne _ _ (Or.inl qa), pt3, nSets, su_ne _ _ (Or.inl qa), g2, if_neg (fun q => qa q.1), g1, if_neg (fun q => qa q.1)]
theorem nPts_ne {σ : Sg} (hT : TW (σ 224)) {s many : Int} (h0 : 0 ≤ s) (h1 : s < σ 224 4) (hm : 1 ≤ many ∧ many ≤ 8) (hp : σ 224 668 - nOf σ s 6 + many ≤ 60) {a : Nat} (ha : a ≠ 224) : nPts σ s many a = σ a := by
  funext j; rw [nPts_at hT h0 h1 hm hp, if_neg ha]
/-- all numbers ahead of the pounds are as they were, but the parted sack's pieces -/
theorem nPts_lo {σ : Sg} (hT : TW (σ 224)) {s many : Int} (h0 : 0 ≤ s) (h1 : s < σ 224 4) (hm : 1 ≤ many ∧ many ≤ 8) (hp : σ 224 668 - nOf σ s 6 + many ≤ 60) {j : Nat} (hj : j < 608) : nPts σ s many 224 j = if ((j : Nat) : Int) = 26 + 7 * s then many else σ 224 j := by
  have h2 := (pt_rg hT h0 h1).2.2.1
  rw [nPts_at hT h0 h1 hm hp, if_pos rfl, if_neg (by omega)]
  by_cases q : ((j : Nat) : Int) = 26 + 7 * s
  · rw [if_pos q, if_pos q]
  · rw [if_neg q, if_neg q, if_neg (by omega), if_neg (by omega)]
theorem nPts_all {σ : Sg} (hT : TW (σ 224)) {s many : Int} (h0 : 0 ≤ s) (h1 : s < σ 224 4) (hm : 1 ≤ many ∧ many ≤ 8) (hp : σ 224 668 - nOf σ s 6 + many ≤ 60) : nPts σ s many 224 668 = σ 224 668 + many - nOf σ s 6 := by
  rw [nPts_at hT h0 h1 hm hp, if_pos rfl, if_pos rfl]
theorem nPts_4 {σ : Sg} (hT : TW (σ 224)) {s many : Int} (h0 : 0 ≤ s) (h1 : s < σ 224 4) (hm : 1 ≤ many ∧ many ≤ 8) (hp : σ 224 668 - nOf σ s 6 + many ≤ 60) : nPts σ s many 224 4 = σ 224 4 := by
  rw [nPts_lo hT h0 h1 hm hp (by omega), if_neg (by omega)]
theorem nPts_pre {σ : Sg} (hT : TW (σ 224)) {s many : Int} (h0 : 0 ≤ s) (h1 : s < σ 224 4) (hm : 1 ≤ many ∧ many ≤ 8) (hp : σ 224 668 - nOf σ s 6 + many ≤ 60) : ∀ k : Nat, ((k : Nat) : Int) ≤ σ 224 4 → tPre (nPts σ s many 224) k = tPre (σ 224) k + if s < ((k : Nat) : Int) then many - nOf σ s 6 else 0 := by
  have hS := hT.sacks
  intro k
  induction k with
  | zero => intro _; rw [if_neg (by omega)]; rfl
  | succ k ih =>
    intro hk
    have e3 : ∀ t, tPre t (k + 1) = tPre t k + tM t k := fun t => rfl
    have e4 : tM (nPts σ s many 224) k = if ((k : Nat) : Int) = s then many else tM (σ 224) k := by
      show nPts σ s many 224 (20 + 7 * k + 6) = _
      rw [nPts_lo hT h0 h1 hm hp (by omega)]
      by_cases q : ((k : Nat) : Int) = s
      · rw [if_pos q, if_pos (by omega)]
      · rw [if_neg q, if_neg (by omega)]; rfl
    have e5 : nOf σ s 6 = tM (σ 224) s.toNat := nOf_t σ h0 (by decide)
    rw [e3, e3, ih (by omega), e4]
    by_cases q : ((k : Nat) : Int) = s
    · rw [if_pos q, if_neg (by omega), if_pos (by omega), e5, show s.toNat = k by omega]; omega
    · rw [if_neg q]
      by_cases q2 : s < ((k : Nat) : Int)
      · rw [if_pos q2, if_pos (by omega)]; omega
      · rw [if_neg q2, if_neg (by omega)]; omega
theorem TW_pts {σ : Sg} (hT : TW (σ 224)) {s many : Int} (h0 : 0 ≤ s) (h1 : s < σ 224 4) (hm : 1 ≤ many ∧ many ≤ 8) (hp : σ 224 668 - nOf σ s 6 + many ≤ 60) (hl : ∀ k : Nat, ((k : Nat) : Int) < many → 1 ≤ σ 230 k ∧ σ 230 k ≤ 99) : TW (nPts σ s many 224) := by
  have hS := hT.sacks
  obtain ⟨e1, e2, h2, h3⟩ := pt_rg hT h0 h1
  have lo : ∀ {j : Nat}, j < 26 → nPts σ s many 224 j = σ 224 j := fun {j} hj => by rw [nPts_lo hT h0 h1 hm hp (by omega), if_neg (by omega)]
  refine ⟨?_, ?_, ?_, ?_, ?_, ?_, ?_, ?_, ⟨?_, ?_⟩, ?_⟩
  · rw [lo (by omega)]; exact hT.stones
  · rw [lo (by omega)]; exact hT.clean
  · rw [lo (by omega)]; exact hT.fee
  · rw [lo (by omega)]; exact hT.sacks
  · rw [lo (by omega)]; exact hT.keys
  · rw [lo (by omega)]; exact hT.small
  · intro k hk
    rw [lo (by omega)] at hk
    have := hT.stones
    rw [lo (by omega)]; exact hT.pace k hk
  · intro k hk
    rw [lo (by omega)] at hk
    have h5 := hT.sk k hk
    have e : ∀ w, w < 6 → nPts σ s many 224 (20 + 7 * k + w) = σ 224 (20 + 7 * k + w) := fun w hw => by rw [nPts_lo hT h0 h1 hm hp (by omega), if_neg (by omega)]
    refine ⟨?_, ?_, ?_, ?_, ?_, ?_, ?_⟩
    · rw [e 0 (by omega)]; exact h5.1
    · rw [e 1 (by omega)]; exact h5.2.1
    · rw [e 2 (by omega)]; exact h5.2.2.1
    · rw [e 3 (by omega)]; exact h5.2.2.2.1
    · rw [e 4 (by omega)]; exact h5.2.2.2.2.1
    · rw [e 5 (by omega)]; exact h5.2.2.2.2.2.1
    · rw [nPts_lo hT h0 h1 hm hp (by omega)]
      split
      · exact hm
      · exact h5.2.2.2.2.2.2
  · rw [nPts_all hT h0 h1 hm hp, nPts_4 hT h0 h1 hm hp, nPts_pre hT h0 h1 hm hp _ (by omega), if_pos (by omega), ← hT.sum]; omega
  · rw [nPts_all hT h0 h1 hm hp]; omega
  · intro p hpp
    rw [nPts_all hT h0 h1 hm hp] at hpp
    rw [nPts_at hT h0 h1 hm hp, if_pos rfl, if_neg (by omega), if_neg (by omega)]
    by_cases q3 : 608 + nFo σ s ≤ ((608 + p : Nat) : Int) ∧ ((608 + p : Nat) : Int) < 608 + nFo σ s + many
    · rw [if_pos q3]; exact hl _ (by omega)
    · rw [if_neg q3]
      by_cases q4 : 608 + nFo σ s + many ≤ ((608 + p : Nat) : Int) ∧ ((608 + p : Nat) : Int) < 608 + σ 224 668 + many - nOf σ s 6
      · rw [if_pos q4]
        have := hT.pound (((p : Nat) : Int) + nOf σ s 6 - many).toNat (by omega)
        rwa [show 608 + (((p : Nat) : Int) + nOf σ s 6 - many).toNat = (((608 + p : Nat) : Int) + nOf σ s 6 - many).toNat by omega] at this
      · rw [if_neg q4]; exact hT.pound p (by omega)
/-- a sack made whole -/
def wyA (σ : Sg) (s : Int) : Sg := su σ 230 0 (nOf σ s 0)
def nWy (σ : Sg) (s : Int) : Sg := nPts (wyA σ s) s 1
theorem wy_p {σ : Sg} (hT : TW (σ 224)) {s : Int} (h0 : 0 ≤ s) (h1 : s < σ 224 4) : wyA σ s 224 668 - nOf (wyA σ s) s 6 + 1 ≤ 60 := by
  have h2 := pt_rg hT h0 h1
  have h4 := hT.p60
  show σ 224 668 - nOf σ s 6 + 1 ≤ 60; omega
theorem TW_wy {σ : Sg} (hT : TW (σ 224)) {s : Int} (h0 : 0 ≤ s) (h1 : s < σ 224 4) : TW (nWy σ s 224) ∧ nWy σ s 224 4 = σ 224 4 := by
  obtain ⟨e1, e2, h2, h3⟩ := pt_rg hT h0 h1
  have h4 := hT.p60
  have hT2 : TW (wyA σ s 224) := hT
  have hp : wyA σ s 224 668 - nOf (wyA σ s) s 6 + 1 ≤ 60 := by show σ 224 668 - nOf σ s 6 + 1 ≤ 60; omega
  refine ⟨TW_pts hT2 h0 h1 (by omega) hp (fun k hk => ?_), nPts_4 hT2 h0 h1 (by omega) hp⟩
  rw [show k = 0 by omega, wyA, su_same]
  exact (hT.of h0 h1).1
def nWhS (s : Nat) (x : Int × Sg) : Int × Sg := (wr (x.1 + if 1 < nOf x.2 ((s : Nat) : Int) 6 then 1 else 0), nWy x.2 ((s : Nat) : Int))
def nWhL (σ : Sg) (n : Nat) : Int × Sg := itr n nWhS (0, σ)
def nWh (σ : Sg) : Int × Sg := nWhL (nT0 σ) (σ 224 4).toNat
theorem TW_wh {σ : Sg} (hT : TW (σ 224)) : ∀ n : Nat, ((n : Nat) : Int) ≤ σ 224 4 → TW ((nWhL σ n).2 224) ∧ (nWhL σ n).2 224 4 = σ 224 4 := by
  intro n
  induction n with
  | zero => intro _; exact ⟨hT, rfl⟩
  | succ n ih =>
    intro hn
    obtain ⟨h1, h2⟩ := ih (by omega)
    have h3 := TW_wy h1 (s := ((n : Nat) : Int)) (by omega) (by omega)
    exact ⟨h3.1, h3.2.trans h2⟩
def ptV (σ : Sg) (s t : Int) : Int := if nIsS σ s = 0 ∨ wth t 0 3 = 0 then 1 else if σ 245 t.toNat = -1 then 2 else 0
theorem ptV_0 {σ : Sg} (hT : TW (σ 224)) {s t : Int} (h : ptV σ s t ≤ 0) : (0 ≤ s ∧ s < σ 224 4) ∧ (0 ≤ t ∧ t ≤ 3) ∧ σ 245 t.toNat ≠ -1 := by
  unfold ptV at h
  split at h
  · omega
  · next q =>
    split at h
    · omega
    · next q2 => exact ⟨(isS_1 hT).mp (fun e => q (Or.inl e)), wth_1 (fun e => q (Or.inr e)), q2⟩
def gd0 (σ : Sg) (s t : Int) : Int := if wth (σ 246 t.toNat) 1 8 ≠ 0 ∧ wr (wr (σ 224 668 - nOf σ s 6) + σ 246 t.toNat) ≤ 60 then 1 else 0
def gdS (t : Int) (k : Nat) (x : Int × Int × Sg) : Int × Int × Sg := if x.1 = 0 then x else (wth (x.2.2 247 (60 * t + ((k : Nat) : Int)).toNat) 1 99, wl (x.2.1 + wr (x.2.2 247 (60 * t + ((k : Nat) : Int)).toNat)), su x.2.2 230 k (wr (x.2.2 247 (60 * t + ((k : Nat) : Int)).toNat)))
def gdL (σ : Sg) (s t : Int) (n : Nat) : Int × Int × Sg := itr n (gdS t) (gd0 σ s t, 0, σ)
def gd (σ : Sg) (s t : Int) : Int × Int × Sg := gdL σ s t (σ 246 t.toNat).toNat
theorem gdL_s (σ : Sg) (s t : Int) (k : Nat) : gdL σ s t (k + 1) = gdS t k (gdL σ s t k) := rfl
theorem gdL_z (σ : Sg) (s t : Int) (k : Nat) (h : (gdL σ s t k).1 = 0) : ∀ m, gdL σ s t (k + m) = gdL σ s t k := by
  intro m
  induction m with
  | zero => rfl
  | succ m ih => rw [← Nat.add_assoc, gdL_s, ih, gdS, if_pos h]
theorem gdL_ne (σ : Sg) (s t : Int) (k : Nat) {a : Nat} (h : a ≠ 230) : (gdL σ s t k).2.2 a = σ a := by
  induction k with
  | zero => rfl
  | succ k ih =>
    rw [gdL_s, gdS]; split
    · exact ih
    · funext j
      show su _ 230 k _ a j = _
      rw [su_ne _ _ (Or.inl h), ih]
theorem gd_b (σ : Sg) (s t : Int) (k : Nat) : (gdL σ s t k).1 = 0 ∨ (gdL σ s t k).1 = 1 := by
  induction k with
  | zero => show gd0 σ s t = 0 ∨ gd0 σ s t = 1; unfold gd0; split; exact Or.inr rfl; exact Or.inl rfl
  | succ k ih =>
    rw [gdL_s, gdS]; split
    · exact ih
    · exact wth_b _ _ _
/-- good numbers: how many, how heavy, where they are laid -/
theorem gdL_1 {σ : Sg} (hT : TW (σ 224)) {s t : Int} (h0 : 0 ≤ s) (h1 : s < σ 224 4) (ht : 0 ≤ σ 246 t.toNat ∧ σ 246 t.toNat ≤ 60) (n : Nat) (h : (gdL σ s t n).1 ≠ 0) : (1 ≤ σ 246 t.toNat ∧ σ 246 t.toNat ≤ 8) ∧ σ 224 668 - nOf σ s 6 + σ 246 t.toNat ≤ 60 ∧ ∀ k : Nat, k < n → (gdL σ s t n).2.2 230 k = σ 247 (60 * t + ((k : Nat) : Int)).toNat ∧ 1 ≤ σ 247 (60 * t + ((k : Nat) : Int)).toNat ∧ σ 247 (60 * t + ((k : Nat) : Int)).toNat ≤ 99 := by
  induction n with
  | zero =>
    change gd0 σ s t ≠ 0 at h
    have h2 := pt_rg hT h0 h1
    have h3 := hT.p60
    unfold gd0 at h
    split at h
    · next q =>
      have q1 := wth_1 q.1
      have q2 := q.2
      rw [wr_id (show okI (σ 224 668 - nOf σ s 6) by unfold okI; omega), wr_id (by unfold okI; omega)] at q2
      exact ⟨q1, q2, fun k hk => by omega⟩
    · exact absurd rfl h
  | succ n ih =>
    rw [gdL_s, gdS] at h ⊢
    by_cases q : (gdL σ s t n).1 = 0
    · rw [if_pos q] at h; exact absurd q h
    · rw [if_neg q] at h ⊢
      obtain ⟨i1, i2, i3⟩ := ih q
      refine ⟨i1, i2, fun k hk => ?_⟩
      have h4 := wth_1 (show wth ((gdL σ s t n).2.2 247 (60 * t + ((n : Nat) : Int)).toNat) 1 99 ≠ 0 from h)
      have e7 : (gdL σ s t n).2.2 247 = σ 247 := gdL_ne σ s t n (by decide)
      rw [e7] at h4
      show su (gdL σ s t n).2.2 230 n (wr ((gdL σ s t n).2.2 247 (60 * t + ((n : Nat) : Int)).toNat)) 230 k = _ ∧ _
      rw [e7]
      by_cases e1 : k = n
      · subst e1; rw [su_same, wr_id (by unfold okI; omega)]; exact ⟨rfl, h4⟩
      · rw [su_ne _ _ (Or.inr e1)]; exact i3 k (by omega)
def nPrA (x : Sg) (s t : Int) : Int × Sg := if (gd x s t).1 = 0 ∨ (gd x s t).2.1 ≠ nOf (gd x s t).2.2 s 0 then (0, nThr (gd x s t).2.2 3) else (nPts (gd x s t).2.2 s (x 246 t.toNat) 224 668, nPts (gd x s t).2.2 s (x 246 t.toNat))
def nPr (σ : Sg) (s t : Int) : Int × Sg := if 0 < ptV σ s t then (0, nThr σ (ptV σ s t)) else nPrA (nThr σ (ptV σ s t)) s t
