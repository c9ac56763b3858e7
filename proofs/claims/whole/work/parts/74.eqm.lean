/-! ALIKE, 5: mills changed: copied, parted, made whole, one number, one key, strangers -/
section AL
variable {σ τ : Sg} {m : Nat}
theorem rCopy_at (σ : Sg) (c e k a j : Nat) : rCopy σ c e k a j = if a = c ∧ j < k then σ e j else σ a j := rfl
theorem lCopy_at (σ : Sg) {w f : Nat} (h : f + 22 ≤ w ∨ w + 22 ≤ f) (a j : Nat) : lCopy σ w f a j = if a = w ∧ (j = 1 ∨ j = 2) then σ f j else if a = w + 2 ∧ j < 8 then σ (f + 2) j else σ a j := by
  unfold lCopy
  by_cases q : a = w
  · subst q
    by_cases q2 : j = 2
    · subst q2
      rw [su_same, su_ne _ _ (Or.inl (by omega)), rCopy_ne (by omega), if_pos ⟨rfl, Or.inr rfl⟩]
    · rw [su_ne _ _ (Or.inr q2)]
      by_cases q1 : j = 1
      · subst q1
        rw [su_same, rCopy_ne (by omega), if_pos ⟨rfl, Or.inl rfl⟩]
      · rw [su_ne _ _ (Or.inr q1), rCopy_ne (by omega), if_neg (by omega), if_neg (by omega)]
  · rw [su_ne _ _ (Or.inl q), su_ne _ _ (Or.inl q), if_neg (fun e => q e.1), rCopy_at]
theorem mCopy_def (σ : Sg) (m f : Nat) : ∃ σ1 σ2 σ3 σ4 σ5 σ6 : Sg, σ1 = lCopy σ (m + 1) (f + 1) ∧ σ2 = su σ1 m 1 (σ1 f 1) ∧ σ3 = su σ2 m 2 (σ2 f 2) ∧ σ4 = su σ3 m 3 (σ3 f 3) ∧ σ5 = su σ4 m 4 (σ4 f 4) ∧ σ6 = su σ5 m 5 (σ5 f 5) ∧
  mCopy σ m f = rCopy (rCopy (rCopy (rCopy (rCopy (rCopy (rCopy (rCopy (rCopy σ6 (m + 5) (f + 5) 3) (m + 7) (f + 7) 60) (m + 9) (f + 9) 60) (m + 11) (f + 11) 60) (m + 13) (f + 13) 60) (m + 15) (f + 15) 60) (m + 17) (f + 17) 60) (m + 19) (f + 19) 60) (m + 21) (f + 21) 480 := ⟨_, _, _, _, _, _, rfl, rfl, rfl, rfl, rfl, rfl, rfl⟩
theorem mCopy_at (σ : Sg) {m f : Nat} (h : f + 22 ≤ m ∨ m + 22 ≤ f) (a j : Nat) : mCopy σ m f a j =
    if a = m ∧ (1 ≤ j ∧ j ≤ 5) then σ f j
    else if a = m + 1 ∧ (j = 1 ∨ j = 2) then σ (f + 1) j
    else if a = m + 3 ∧ j < 8 then σ (f + 3) j
    else if a = m + 5 ∧ j < 3 then σ (f + 5) j
    else if a = m + 7 ∧ j < 60 then σ (f + 7) j
    else if a = m + 9 ∧ j < 60 then σ (f + 9) j
    else if a = m + 11 ∧ j < 60 then σ (f + 11) j
    else if a = m + 13 ∧ j < 60 then σ (f + 13) j
    else if a = m + 15 ∧ j < 60 then σ (f + 15) j
    else if a = m + 17 ∧ j < 60 then σ (f + 17) j
    else if a = m + 19 ∧ j < 60 then σ (f + 19) j
    else if a = m + 21 ∧ j < 480 then σ (f + 21) j
    else σ a j := by
  obtain ⟨σ1, σ2, σ3, σ4, σ5, σ6, d1, d2, d3, d4, d5, d6, dm⟩ := mCopy_def σ m f
  have g1 := lCopy_at σ (w := m + 1) (f := f + 1) (by omega)
  rw [← d1] at g1
  have f1 : ∀ k, σ1 f k = σ f k := fun k => by rw [g1, if_neg (by omega), if_neg (by omega)]
  have f2 : ∀ k, σ2 f k = σ f k := fun k => by rw [d2, su_ne _ _ (Or.inl (by omega)), f1]
  have f3 : ∀ k, σ3 f k = σ f k := fun k => by rw [d3, su_ne _ _ (Or.inl (by omega)), f2]
  have f4 : ∀ k, σ4 f k = σ f k := fun k => by rw [d4, su_ne _ _ (Or.inl (by omega)), f3]
  have f5 : ∀ k, σ5 f k = σ f k := fun k => by rw [d5, su_ne _ _ (Or.inl (by omega)), f4]
  rw [f1] at d2; rw [f2] at d3; rw [f3] at d4; rw [f4] at d5; rw [f5] at d6
  have g6 : ∀ a j, σ6 a j = if a = m ∧ (1 ≤ j ∧ j ≤ 5) then σ f j else σ1 a j := by
    intro a j
    by_cases q : a = m
    · subst q
      by_cases q5 : j = 5
      · subst q5; rw [d6, su_same, if_pos (by omega)]
      by_cases q4 : j = 4
      · subst q4; rw [d6, su_ne _ _ (Or.inr (by omega)), d5, su_same, if_pos (by omega)]
      by_cases q3 : j = 3
      · subst q3; rw [d6, su_ne _ _ (Or.inr (by omega)), d5, su_ne _ _ (Or.inr (by omega)), d4, su_same, if_pos (by omega)]
      by_cases q2 : j = 2
      · subst q2; rw [d6, su_ne _ _ (Or.inr (by omega)), d5, su_ne _ _ (Or.inr (by omega)), d4, su_ne _ _ (Or.inr (by omega)), d3, su_same, if_pos (by omega)]
      by_cases q1 : j = 1
      · subst q1; rw [d6, su_ne _ _ (Or.inr (by omega)), d5, su_ne _ _ (Or.inr (by omega)), d4, su_ne _ _ (Or.inr (by omega)), d3, su_ne _ _ (Or.inr (by omega)), d2, su_same, if_pos (by omega)]
      rw [d6, su_ne _ _ (Or.inr q5), d5, su_ne _ _ (Or.inr q4), d4, su_ne _ _ (Or.inr q3), d3, su_ne _ _ (Or.inr q2), d2, su_ne _ _ (Or.inr q1), if_neg (by omega)]
    · rw [d6, su_ne _ _ (Or.inl q), d5, su_ne _ _ (Or.inl q), d4, su_ne _ _ (Or.inl q), d3, su_ne _ _ (Or.inl q), d2, su_ne _ _ (Or.inl q), if_neg (fun e => q e.1)]
  have e : ∀ k : Nat, 5 ≤ k → k ≤ 21 → ∀ j, σ6 (f + k) j = σ (f + k) j := fun k h1 h2 j => by rw [g6, if_neg (by omega), g1, if_neg (by omega), if_neg (by omega)]
  rw [dm]
  have n : ∀ c d : Nat, 5 ≤ c → c ≤ 21 → 5 ≤ d → d ≤ 21 → f + c ≠ m + d := fun c d _ _ _ _ => by omega
  rw [rCopy_at, rCopy_ne (n 21 19 (by decide) (by decide) (by decide) (by decide)), rCopy_ne (n 21 17 (by decide) (by decide) (by decide) (by decide)), rCopy_ne (n 21 15 (by decide) (by decide) (by decide) (by decide)), rCopy_ne (n 21 13 (by decide) (by decide) (by decide) (by decide)), rCopy_ne (n 21 11 (by decide) (by decide) (by decide) (by decide)), rCopy_ne (n 21 9 (by decide) (by decide) (by decide) (by decide)), rCopy_ne (n 21 7 (by decide) (by decide) (by decide) (by decide)), rCopy_ne (n 21 5 (by decide) (by decide) (by decide) (by decide)), e 21 (by decide) (by decide)]
  rw [rCopy_at, rCopy_ne (n 19 17 (by decide) (by decide) (by decide) (by decide)), rCopy_ne (n 19 15 (by decide) (by decide) (by decide) (by decide)), rCopy_ne (n 19 13 (by decide) (by decide) (by decide) (by decide)), rCopy_ne (n 19 11 (by decide) (by decide) (by decide) (by decide)), rCopy_ne (n 19 9 (by decide) (by decide) (by decide) (by decide)), rCopy_ne (n 19 7 (by decide) (by decide) (by decide) (by decide)), rCopy_ne (n 19 5 (by decide) (by decide) (by decide) (by decide)), e 19 (by decide) (by decide)]
  rw [rCopy_at, rCopy_ne (n 17 15 (by decide) (by decide) (by decide) (by decide)), rCopy_ne (n 17 13 (by decide) (by decide) (by decide) (by decide)), rCopy_ne (n 17 11 (by decide) (by decide) (by decide) (by decide)), rCopy_ne (n 17 9 (by decide) (by decide) (by decide) (by decide)), rCopy_ne (n 17 7 (by decide) (by decide) (by decide) (by decide)), rCopy_ne (n 17 5 (by decide) (by decide) (by decide) (by decide)), e 17 (by decide) (by decide)]
  rw [rCopy_at, rCopy_ne (n 15 13 (by decide) (by decide) (by decide) (by decide)), rCopy_ne (n 15 11 (by decide) (by decide) (by decide) (by decide)), rCopy_ne (n 15 9 (by decide) (by decide) (by decide) (by decide)), rCopy_ne (n 15 7 (by decide) (by decide) (by decide) (by decide)), rCopy_ne (n 15 5 (by decide) (by decide) (by decide) (by decide)), e 15 (by decide) (by decide)]
  rw [rCopy_at, rCopy_ne (n 13 11 (by decide) (by decide) (by decide) (by decide)), rCopy_ne (n 13 9 (by decide) (by decide) (by decide) (by decide)), rCopy_ne (n 13 7 (by decide) (by decide) (by decide) (by decide)), rCopy_ne (n 13 5 (by decide) (by decide) (by decide) (by decide)), e 13 (by decide) (by decide)]
  rw [rCopy_at, rCopy_ne (n 11 9 (by decide) (by decide) (by decide) (by decide)), rCopy_ne (n 11 7 (by decide) (by decide) (by decide) (by decide)), rCopy_ne (n 11 5 (by decide) (by decide) (by decide) (by decide)), e 11 (by decide) (by decide)]
  rw [rCopy_at, rCopy_ne (n 9 7 (by decide) (by decide) (by decide) (by decide)), rCopy_ne (n 9 5 (by decide) (by decide) (by decide) (by decide)), e 9 (by decide) (by decide)]
  rw [rCopy_at, rCopy_ne (n 7 5 (by decide) (by decide) (by decide) (by decide)), e 7 (by decide) (by decide)]
  rw [rCopy_at, e 5 (by decide) (by decide), g6, g1]
  by_cases q0 : a = m ∧ (1 ≤ j ∧ j ≤ 5)
  · (repeat rw [if_pos q0]); (repeat rw [if_neg (by omega)])
  rw [if_neg q0, if_neg q0]
  by_cases q1 : a = m + 1 ∧ (j = 1 ∨ j = 2)
  · rw [if_pos q1, if_pos q1]; (repeat rw [if_neg (by omega)])
  rw [if_neg q1, if_neg q1]
  by_cases q2 : a = m + 3 ∧ j < 8
  · rw [if_pos q2, if_pos (show a = m + 1 + 2 ∧ j < 8 by omega)]; (repeat rw [if_neg (by omega)])
  rw [if_neg q2, if_neg (show ¬ (a = m + 1 + 2 ∧ j < 8) by omega)]
  by_cases r5 : a = m + 5 ∧ j < 3
  · rw [if_pos r5, if_pos r5]; (repeat rw [if_neg (by omega)])
  rw [if_neg r5, if_neg r5]
  by_cases r7 : a = m + 7 ∧ j < 60
  · rw [if_pos r7, if_pos r7]; (repeat rw [if_neg (by omega)])
  rw [if_neg r7, if_neg r7]
  by_cases r9 : a = m + 9 ∧ j < 60
  · rw [if_pos r9, if_pos r9]; (repeat rw [if_neg (by omega)])
  rw [if_neg r9, if_neg r9]
  by_cases r11 : a = m + 11 ∧ j < 60
  · rw [if_pos r11, if_pos r11]; (repeat rw [if_neg (by omega)])
  rw [if_neg r11, if_neg r11]
  by_cases r13 : a = m + 13 ∧ j < 60
  · rw [if_pos r13, if_pos r13]; (repeat rw [if_neg (by omega)])
  rw [if_neg r13, if_neg r13]
  by_cases r15 : a = m + 15 ∧ j < 60
  · rw [if_pos r15, if_pos r15]; (repeat rw [if_neg (by omega)])
  rw [if_neg r15, if_neg r15]
  by_cases r17 : a = m + 17 ∧ j < 60
  · rw [if_pos r17, if_pos r17]; (repeat rw [if_neg (by omega)])
  rw [if_neg r17, if_neg r17]
  by_cases r19 : a = m + 19 ∧ j < 60
  · rw [if_pos r19, if_pos r19]; (repeat rw [if_neg (by omega)])
  rw [if_neg r19, if_neg r19]
theorem mCopy_off (σ : Sg) {m f : Nat} (h : f + 22 ≤ m ∨ m + 22 ≤ f) : off m (m + 22) σ (mCopy σ m f) := by
  intro a ha j
  rw [mCopy_at σ h]; (repeat rw [if_neg (by omega)])
/-- a mill copied is as that which is copied -/
theorem MR_copy {m f : Nat} {t : Nat → Int} (h : f + 22 ≤ m ∨ m + 22 ≤ f) (hT : TW t) (hM : MR σ f t) : MR (mCopy σ m f) m t := by
  have hS := hT.sacks
  have hK := hT.keys
  have hst := hT.stones
  have e := mCopy_at σ h
  refine ⟨⟨?_, ?_, ?_, ?_, ?_⟩, ⟨?_, ?_, fun k hk => ?_⟩, fun k hk => ?_, fun s hs => ?_, fun s i hs hi => ?_⟩
  · rw [e, if_pos (by omega)]; exact hM.lines
  · rw [e, if_pos (by omega)]; exact hM.stones
  · rw [e, if_pos (by omega)]; exact hM.clean
  · rw [e, if_pos (by omega)]; exact hM.fee
  · rw [e, if_pos (by omega)]; exact hM.sacks
  · rw [e, if_neg (by omega), if_pos (by omega)]; exact hM.keys
  · rw [e, if_neg (by omega), if_pos (by omega)]; exact hM.small
  · rw [e, if_neg (by omega), if_neg (by omega), if_pos (by omega)]; exact hM.key hk
  · rw [e]; (repeat rw [if_neg (by omega)]); rw [if_pos (by omega)]; exact hM.pace hk
  · have g := hM.sk hs
    rw [e, e, e, e, e, e, e]
    refine ⟨?_, ?_, ?_, ?_, ?_, ?_, ?_⟩
    · (repeat rw [if_neg (by omega)]); rw [if_pos (by omega)]; exact g.1
    · (repeat rw [if_neg (by omega)]); rw [if_pos (by omega)]; exact g.2.1
    · (repeat rw [if_neg (by omega)]); rw [if_pos (by omega)]; exact g.2.2.1
    · (repeat rw [if_neg (by omega)]); rw [if_pos (by omega)]; exact g.2.2.2.1
    · (repeat rw [if_neg (by omega)]); rw [if_pos (by omega)]; exact g.2.2.2.2.1
    · (repeat rw [if_neg (by omega)]); rw [if_pos (by omega)]; exact g.2.2.2.2.2.1
    · (repeat rw [if_neg (by omega)]); rw [if_pos (by omega)]; exact g.2.2.2.2.2.2
  · have hm := hT.many s hs
    rw [e]; (repeat rw [if_neg (by omega)]); rw [if_pos (by omega)]; exact hM.cut hs hi
theorem MR.cg {t t' : Nat → Int} (hT : TW t) (h : Eq6 t t') (hM : MR σ m t) : MR σ m t' := by
  have hS := hT.sacks
  have hK := hT.keys
  have hst := hT.stones
  have h60 := hT.p60
  obtain ⟨⟨a1, a2, a3, a4, a5⟩, ⟨b1, b2, b3⟩, c, d, e⟩ := hM
  refine ⟨⟨?_, ?_, ?_, ?_, ?_⟩, ⟨?_, ?_, fun k hk => ?_⟩, fun k hk => ?_, fun s hs => ?_, fun s i hs hi => ?_⟩
  · rw [h _ (by omega)]; exact a1
  · rw [h _ (by omega)]; exact a2
  · rw [h _ (by omega)]; exact a3
  · rw [h _ (by omega)]; exact a4
  · rw [h _ (by omega)]; exact a5
  · rw [h _ (by omega)]; exact b1
  · rw [h _ (by omega)]; exact b2
  · rw [h _ (by omega)] at hk; rw [h _ (by omega)]; exact b3 k hk
  · rw [h _ (by omega)] at hk; rw [h _ (by omega), h _ (by omega)]; exact c k hk
  · rw [h _ (by omega)] at hs
    rw [h _ (by omega), h _ (by omega), h _ (by omega), h _ (by omega), h _ (by omega), h _ (by omega), h _ (by omega)]; exact d s hs
  · rw [h _ (by omega)] at hs
    have hm : tM t' s = tM t s := h _ (by omega)
    rw [hm] at hi
    have g1 := tPre_nn hT (a := s) (by omega)
    have g2 := tPre_le hT (a := s + 1) (by omega)
    have e3 : tPre t (s + 1) = tPre t s + tM t s := rfl
    rw [tPre_cg s (by omega) h, h _ (by omega)]; exact e s i hs hi
theorem KW.cg {t t' : Nat → Int} (hT : TW t) (h : Eq6 t t') (hK : KW t) : KW t' := by
  have hk := hT.keys
  intro k hk2
  rw [h _ (by omega)] at hk2
  rw [h _ (by omega)]; exact hK k hk2
/-- a sack parted alike: rows as before but its pieces -/
theorem MR_pts {t : Sg} (hT : TW (τ 224)) (hM : MR σ m (τ 224)) {s many : Int} (h0 : 0 ≤ s) (h1 : s < τ 224 4) (hm : 1 ≤ many ∧ many ≤ 8) (hp : τ 224 668 - nOf τ s 6 + many ≤ 60)
    (hf : ∀ a j : Nat, m ≤ a → a < m + 22 → t a j = if a = m + 19 ∧ ((j : Nat) : Int) = s then many else if a = m + 21 ∧ (8 * s ≤ ((j : Nat) : Int) ∧ ((j : Nat) : Int) < 8 * s + many) then τ 230 (((j : Nat) : Int) - 8 * s).toNat else σ a j) : MR t m (nPts τ s many 224) := by
  have hS := hT.sacks
  have hst := hT.stones
  have hKk := hT.keys
  have h60 := hT.p60
  obtain ⟨q1, q2, q3, q4⟩ := pt_rg hT h0 h1
  have lo : ∀ {j : Nat}, j < 26 → nPts τ s many 224 j = τ 224 j := fun {j} hj => by rw [nPts_lo hT h0 h1 hm hp (by omega), if_neg (by omega)]
  refine ⟨⟨?_, ?_, ?_, ?_, ?_⟩, ⟨?_, ?_, fun k hk => ?_⟩, fun k hk => ?_, fun k hk => ?_, fun k i hk hi => ?_⟩
  · rw [lo (by omega), hf _ _ (by omega) (by omega), if_neg (by omega), if_neg (by omega)]; exact hM.lines
  · rw [lo (by omega), hf _ _ (by omega) (by omega), if_neg (by omega), if_neg (by omega)]; exact hM.stones
  · rw [lo (by omega), hf _ _ (by omega) (by omega), if_neg (by omega), if_neg (by omega)]; exact hM.clean
  · rw [lo (by omega), hf _ _ (by omega) (by omega), if_neg (by omega), if_neg (by omega)]; exact hM.fee
  · rw [lo (by omega), hf _ _ (by omega) (by omega), if_neg (by omega), if_neg (by omega)]; exact hM.sacks
  · rw [lo (by omega), hf _ _ (by omega) (by omega), if_neg (by omega), if_neg (by omega)]; exact hM.keys
  · rw [lo (by omega), hf _ _ (by omega) (by omega), if_neg (by omega), if_neg (by omega)]; exact hM.small
  · rw [lo (by omega)] at hk
    rw [lo (by omega), hf _ _ (by omega) (by omega), if_neg (by omega), if_neg (by omega)]; exact hM.key hk
  · rw [lo (by omega)] at hk
    rw [lo (by omega), lo (by omega), hf _ _ (by omega) (by omega), if_neg (by omega), if_neg (by omega)]; exact hM.pace hk
  · rw [lo (by omega)] at hk
    have g := hM.sk hk
    have e : ∀ w, w < 6 → nPts τ s many 224 (20 + 7 * k + w) = τ 224 (20 + 7 * k + w) := fun w hw => by rw [nPts_lo hT h0 h1 hm hp (by omega), if_neg (by omega)]
    rw [e 0 (by omega), e 1 (by omega), e 2 (by omega), e 3 (by omega), e 4 (by omega), e 5 (by omega), nPts_lo hT h0 h1 hm hp (by omega)]
    rw [hf (m + 7) _ (by omega) (by omega), hf (m + 9) _ (by omega) (by omega), hf (m + 11) _ (by omega) (by omega), hf (m + 13) _ (by omega) (by omega), hf (m + 15) _ (by omega) (by omega), hf (m + 17) _ (by omega) (by omega), hf (m + 19) _ (by omega) (by omega)]
    refine ⟨?_, ?_, ?_, ?_, ?_, ?_, ?_⟩
    · (repeat rw [if_neg (by omega)]); exact g.1
    · (repeat rw [if_neg (by omega)]); exact g.2.1
    · (repeat rw [if_neg (by omega)]); exact g.2.2.1
    · (repeat rw [if_neg (by omega)]); exact g.2.2.2.1
    · (repeat rw [if_neg (by omega)]); exact g.2.2.2.2.1
    · (repeat rw [if_neg (by omega)]); exact g.2.2.2.2.2.1
    · by_cases z : ((k : Nat) : Int) = s
      · rw [if_pos ⟨rfl, z⟩, if_pos (by omega)]
      · rw [if_neg (fun e => z e.2), if_neg (by omega), if_neg (by omega)]; exact g.2.2.2.2.2.2
  · rw [lo (by omega)] at hk
    have hpre := nPts_pre hT h0 h1 hm hp k (by omega)
    have hmk : tM (nPts τ s many 224) k = if ((k : Nat) : Int) = s then many else tM (τ 224) k := by
      show nPts τ s many 224 (20 + 7 * k + 6) = _
      rw [nPts_lo hT h0 h1 hm hp (by omega)]
      by_cases z : ((k : Nat) : Int) = s
      · rw [if_pos z, if_pos (by omega)]
      · rw [if_neg z, if_neg (by omega)]; rfl
    rw [hmk] at hi
    have hmany := hT.many k hk
    have g1 := tPre_nn hT (a := k) (by omega)
    have g2 := tPre_le hT (a := k + 1) (by omega)
    have e3 : tPre (τ 224) (k + 1) = tPre (τ 224) k + tM (τ 224) k := rfl
    by_cases z : ((k : Nat) : Int) = s
    · rw [if_pos z] at hi
      have zk : s.toNat = k := by omega
      rw [zk] at q1 q2
      rw [if_neg (by omega)] at hpre
      rw [hpre, hf _ _ (by omega) (by omega), if_neg (by omega), if_pos (by omega), nPts_at hT h0 h1 hm hp, if_pos rfl, if_neg (by omega), if_neg (by omega), if_pos (by omega)]
      congr 1; omega
    · rw [if_neg z] at hi
      rw [hf _ _ (by omega) (by omega), if_neg (by omega), if_neg (by omega), hM.cut hk hi, hpre]
      by_cases z2 : s < ((k : Nat) : Int)
      · have g3 := tPre_mono hT (a := s.toNat + 1) (b := k) (by omega) (by omega)
        have e4 : tPre (τ 224) (s.toNat + 1) = tPre (τ 224) s.toNat + tM (τ 224) s.toNat := rfl
        rw [if_pos z2, nPts_at hT h0 h1 hm hp, if_pos rfl, if_neg (by omega), if_neg (by omega), if_neg (by omega), if_pos (by omega)]
        congr 1; omega
      · have g3 := tPre_mono hT (a := k + 1) (b := s.toNat) (by omega) (by omega)
        rw [if_neg z2, nPts_at hT h0 h1 hm hp, if_pos rfl, if_neg (by omega), if_neg (by omega), if_neg (by omega), if_neg (by omega)]
        congr 1; omega
end AL
