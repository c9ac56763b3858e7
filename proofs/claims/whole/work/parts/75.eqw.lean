/-! ALIKE, 6: a way set, made whole, one number, one key, a stranger more -/
section AL
variable {σ τ : Sg} {m : Nat}
theorem mWay_at (σ : Sg) {m w n : Nat} (hw : w < m ∨ m + 22 ≤ w) {s : Nat} {many : Int} (hs : s < 60) (hm : 1 ≤ many ∧ many ≤ 8) (a j : Nat) : mWay σ m w n ((s : Nat) : Int) many a j = if a = m + 19 ∧ j = s then many else if a = m + 21 ∧ (8 * s ≤ j ∧ j < 8 * s + many.toNat) then rAt σ w n (((j : Nat) : Int) - 8 * ((s : Nat) : Int)) else σ a j := by
  unfold mWay
  rw [show min many 8 = many by omega]
  have e0 : ∀ a j, rPut σ (m + 19) 60 ((s : Nat) : Int) many a j = if a = m + 19 ∧ j = s then many else σ a j := fun a j => by rw [rPut_at (by omega) (by omega)]; rfl
  have key : ∀ i : Nat, ((i : Nat) : Int) ≤ many → ∀ a j, itr i (mWayS m w n ((s : Nat) : Int)) (rPut σ (m + 19) 60 ((s : Nat) : Int) many) a j = if a = m + 19 ∧ j = s then many else if a = m + 21 ∧ (8 * s ≤ j ∧ j < 8 * s + i) then rAt σ w n (((j : Nat) : Int) - 8 * ((s : Nat) : Int)) else σ a j := by
    intro i
    induction i with
    | zero =>
      intro _ a j
      show rPut σ (m + 19) 60 ((s : Nat) : Int) many a j = _
      rw [e0]
      by_cases q : a = m + 19 ∧ j = s
      · rw [if_pos q, if_pos q]
      · rw [if_neg q, if_neg q, if_neg (by omega)]
    | succ i ih =>
      intro hi a j
      have ih := ih (by omega)
      rw [itr_s, mWayS, wr_id (show okI (((s : Nat) : Int) * 8) by unfold okI; omega), wr_id (by unfold okI; omega), rPut_at (by omega) (by omega)]
      have er : rAt (itr i (mWayS m w n ((s : Nat) : Int)) (rPut σ (m + 19) 60 ((s : Nat) : Int) many)) w n ((i : Nat) : Int) = rAt σ w n ((i : Nat) : Int) := rAt_cg (fun j => by rw [ih]; rw [if_neg (by omega), if_neg (by omega)])
      rw [er, ih]
      by_cases q : a = m + 21 ∧ j = (((s : Nat) : Int) * 8 + ((i : Nat) : Int)).toNat
      · rw [if_pos q, if_neg (by omega), if_pos (by omega)]
        congr 1; omega
      · rw [if_neg q]
        by_cases q2 : a = m + 19 ∧ j = s
        · rw [if_pos q2, if_pos q2]
        · rw [if_neg q2, if_neg q2]
          by_cases q3 : a = m + 21 ∧ (8 * s ≤ j ∧ j < 8 * s + i)
          · rw [if_pos q3, if_pos (by omega)]
          · rw [if_neg q3, if_neg (by omega)]
  rw [key many.toNat (by omega)]
theorem mWhole_at (σ : Sg) (m : Nat) {s : Nat} (hs : s < 60) (v : Int) (a j : Nat) : mWhole σ m ((s : Nat) : Int) v a j = if a = m + 21 ∧ j = 8 * s then v else if a = m + 19 ∧ j = s then 1 else if a = m + 7 ∧ j = s then v else σ a j := by
  unfold mWhole
  rw [wr_id (show okI (((s : Nat) : Int) * 8) by unfold okI; omega), rPut_at (by omega) (by omega), rPut_at (by omega) (by omega), rPut_at (by omega) (by omega)]
  by_cases q : a = m + 21 ∧ j = 8 * s
  · rw [if_pos q, if_pos (by omega)]
  · rw [if_neg q, if_neg (by omega)]; rfl
/-- a way set: parted alike -/
theorem MR_way {w n : Nat} (hT : TW (τ 224)) (hM : MR σ m (τ 224)) (hw : w < m ∨ m + 22 ≤ w) {s many : Int} (h0 : 0 ≤ s) (h1 : s < τ 224 4) (hm : 1 ≤ many ∧ many ≤ 8) (hp : τ 224 668 - nOf τ s 6 + many ≤ 60) (hl : ∀ i : Nat, ((i : Nat) : Int) < many → rAt σ w n ((i : Nat) : Int) = τ 230 i) : MR (mWay σ m w n s many) m (nPts τ s many 224) := by
  have hS := hT.sacks
  obtain ⟨k, rfl⟩ : ∃ k : Nat, s = ((k : Nat) : Int) := ⟨s.toNat, by omega⟩
  refine MR_pts hT hM h0 h1 hm hp (fun a j ha1 ha2 => ?_)
  rw [mWay_at σ hw (by omega) hm]
  by_cases q : a = m + 19 ∧ j = k
  · rw [if_pos q, if_pos (show a = m + 19 ∧ ((j : Nat) : Int) = ((k : Nat) : Int) by omega)]
  · rw [if_neg q, if_neg (show ¬ (a = m + 19 ∧ ((j : Nat) : Int) = ((k : Nat) : Int)) by omega)]
    by_cases q2 : a = m + 21 ∧ (8 * k ≤ j ∧ j < 8 * k + many.toNat)
    · rw [if_pos q2, if_pos (show a = m + 21 ∧ (8 * ((k : Nat) : Int) ≤ ((j : Nat) : Int) ∧ ((j : Nat) : Int) < 8 * ((k : Nat) : Int) + many) by omega)]
      have := hl (((j : Nat) : Int) - 8 * ((k : Nat) : Int)).toNat (by omega)
      rwa [show (((((j : Nat) : Int) - 8 * ((k : Nat) : Int)).toNat : Nat) : Int) = ((j : Nat) : Int) - 8 * ((k : Nat) : Int) by omega] at this
    · rw [if_neg q2, if_neg (show ¬ (a = m + 21 ∧ (8 * ((k : Nat) : Int) ≤ ((j : Nat) : Int) ∧ ((j : Nat) : Int) < 8 * ((k : Nat) : Int) + many)) by omega)]
/-- one number of a sack changed alike: pounds (w 0), when it comes (w 2) -/
theorem MR_set {t : Sg} (hT : TW (τ 224)) (hM : MR σ m (τ 224)) {s w v : Int} (h0 : 0 ≤ s) (h1 : s < τ 224 4) (hw : w = 0 ∨ w = 2) (hf : ∀ a j : Nat, m ≤ a → a < m + 22 → t a j = if ((a : Nat) : Int) = ((m : Nat) : Int) + 7 + 2 * w ∧ ((j : Nat) : Int) = s then v else σ a j) : MR t m (nSets τ s w v 224) := by
  have hS := hT.sacks
  have hst := hT.stones
  have hKk := hT.keys
  have h60 := hT.p60
  have e : ∀ j : Nat, nSets τ s w v 224 j = if ((j : Nat) : Int) = 20 + 7 * s + w then v else τ 224 j := by
    intro j
    rw [nSets]
    by_cases q : ((j : Nat) : Int) = 20 + 7 * s + w
    · rw [if_pos q, show (20 + 7 * s + w).toNat = j by omega, su_same]
    · rw [if_neg q, su_ne _ _ (Or.inr (by omega))]
  have lo : ∀ {j : Nat}, (j < 20 ∨ 600 ≤ j) → nSets τ s w v 224 j = τ 224 j := fun {j} hj => by rw [e, if_neg (by omega)]
  have hpre : ∀ n : Nat, tPre (nSets τ s w v 224) n = tPre (τ 224) n := by
    intro n
    induction n with
    | zero => rfl
    | succ n ih =>
      have e3 : ∀ t, tPre t (n + 1) = tPre t n + tM t n := fun t => rfl
      rw [e3, e3, ih]
      show _ + nSets τ s w v 224 (20 + 7 * n + 6) = _ + τ 224 (20 + 7 * n + 6)
      rw [e, if_neg (by omega)]
  refine ⟨⟨?_, ?_, ?_, ?_, ?_⟩, ⟨?_, ?_, fun k hk => ?_⟩, fun k hk => ?_, fun k hk => ?_, fun k i hk hi => ?_⟩
  · rw [lo (by omega), hf _ _ (by omega) (by omega), if_neg (by omega)]; exact hM.lines
  · rw [lo (by omega), hf _ _ (by omega) (by omega), if_neg (by omega)]; exact hM.stones
  · rw [lo (by omega), hf _ _ (by omega) (by omega), if_neg (by omega)]; exact hM.clean
  · rw [lo (by omega), hf _ _ (by omega) (by omega), if_neg (by omega)]; exact hM.fee
  · rw [lo (by omega), hf _ _ (by omega) (by omega), if_neg (by omega)]; exact hM.sacks
  · rw [lo (by omega), hf _ _ (by omega) (by omega), if_neg (by omega)]; exact hM.keys
  · rw [lo (by omega), hf _ _ (by omega) (by omega), if_neg (by omega)]; exact hM.small
  · rw [lo (by omega)] at hk
    rw [lo (by omega), hf _ _ (by omega) (by omega), if_neg (by omega)]; exact hM.key hk
  · rw [lo (by omega)] at hk
    rw [lo (by omega), lo (by omega), hf _ _ (by omega) (by omega), if_neg (by omega)]; exact hM.pace hk
  · rw [lo (by omega)] at hk
    have g := hM.sk hk
    rw [hf (m + 7) _ (by omega) (by omega), hf (m + 9) _ (by omega) (by omega), hf (m + 11) _ (by omega) (by omega), hf (m + 13) _ (by omega) (by omega), hf (m + 15) _ (by omega) (by omega), hf (m + 17) _ (by omega) (by omega), hf (m + 19) _ (by omega) (by omega)]
    rw [e, e, e, e, e, e, e]
    refine ⟨?_, ?_, ?_, ?_, ?_, ?_, ?_⟩
    · by_cases z : w = 0 ∧ ((k : Nat) : Int) = s
      · rw [if_pos (by omega), if_pos (by omega)]
      · rw [if_neg (by omega), if_neg (by omega)]; exact g.1
    · rw [if_neg (by omega), if_neg (by omega)]; exact g.2.1
    · by_cases z : w = 2 ∧ ((k : Nat) : Int) = s
      · rw [if_pos (by omega), if_pos (by omega)]
      · rw [if_neg (by omega), if_neg (by omega)]; exact g.2.2.1
    · rw [if_neg (by omega), if_neg (by omega)]; exact g.2.2.2.1
    · rw [if_neg (by omega), if_neg (by omega)]; exact g.2.2.2.2.1
    · rw [if_neg (by omega), if_neg (by omega)]; exact g.2.2.2.2.2.1
    · rw [if_neg (by omega), if_neg (by omega)]; exact g.2.2.2.2.2.2
  · rw [lo (by omega)] at hk
    have hmk : tM (nSets τ s w v 224) k = tM (τ 224) k := by
      show nSets τ s w v 224 (20 + 7 * k + 6) = _
      rw [e, if_neg (by omega)]; rfl
    rw [hmk] at hi
    rw [hpre, lo (by omega), hf _ _ (by omega) (by omega), if_neg (by omega)]; exact hM.cut hk hi
theorem MR.pt {t : Sg} {u : Nat → Int} (h : MR σ m u) (hf : ∀ a j : Nat, m ≤ a → a < m + 22 → t a j = σ a j) : MR t m u := h.of (fun a h1 h2 j => hf a j h1 h2)
/-- a sack whole with v pounds -/
theorem MR_whole (hT : TW (τ 224)) (hM : MR σ m (τ 224)) {s v : Int} (h0 : 0 ≤ s) (h1 : s < τ 224 4) (hv : 1 ≤ v ∧ v ≤ 99) : MR (mWhole σ m s v) m (nWy (nSets τ s 0 v) s 224) := by
  have hS := hT.sacks
  obtain ⟨k, rfl⟩ : ∃ k : Nat, s = ((k : Nat) : Int) := ⟨s.toNat, by omega⟩
  have hTs := TW_sets hT (w := 0) (v := v) h0 h1 (by omega)
  have hMs : MR (rPut σ (m + 7) 60 ((k : Nat) : Int) v) m (nSets τ ((k : Nat) : Int) 0 v 224) := MR_set hT hM h0 h1 (Or.inl rfl) (fun a j ha1 ha2 => by
    rw [rPut_at (by omega) (by omega)]
    by_cases q : a = m + 7 ∧ j = k
    · rw [if_pos (show a = m + 7 ∧ j = ((k : Nat) : Int).toNat by omega), if_pos (by omega)]
    · rw [if_neg (show ¬ (a = m + 7 ∧ j = ((k : Nat) : Int).toNat) by omega), if_neg (by omega)])
  have hp := wy_p hTs.1 (s := ((k : Nat) : Int)) h0 (by omega)
  refine MR_pts (τ := wyA (nSets τ ((k : Nat) : Int) 0 v) ((k : Nat) : Int)) hTs.1 hMs h0 (by show _ < nSets τ ((k : Nat) : Int) 0 v 224 4; omega) (by omega) hp (fun a j ha1 ha2 => ?_)
  have e0 : nOf (nSets τ ((k : Nat) : Int) 0 v) ((k : Nat) : Int) 0 = v := by rw [nOf, nSets, su_same]
  rw [mWhole_at σ m (by omega), rPut_at (by omega) (by omega)]
  by_cases q : a = m + 21 ∧ j = 8 * k
  · rw [if_pos q, if_neg (show ¬ (a = m + 19 ∧ ((j : Nat) : Int) = ((k : Nat) : Int)) by omega), if_pos (show (a = m + 21 ∧ (8 * ((k : Nat) : Int) ≤ ((j : Nat) : Int) ∧ ((j : Nat) : Int) < 8 * ((k : Nat) : Int) + 1)) by omega), show (((j : Nat) : Int) - 8 * ((k : Nat) : Int)).toNat = 0 by omega, wyA, su_same, e0]
  · rw [if_neg q]
    by_cases q2 : a = m + 19 ∧ j = k
    · rw [if_pos q2, if_pos (show (a = m + 19 ∧ ((j : Nat) : Int) = ((k : Nat) : Int)) by omega)]
    · rw [if_neg q2, if_neg (show ¬ (a = m + 19 ∧ ((j : Nat) : Int) = ((k : Nat) : Int)) by omega), if_neg (show ¬ (a = m + 21 ∧ (8 * ((k : Nat) : Int) ≤ ((j : Nat) : Int) ∧ ((j : Nat) : Int) < 8 * ((k : Nat) : Int) + 1)) by omega)]
      rfl
/-- a sack made whole as heavy as it is -/
theorem MR_wholly (hT : TW (τ 224)) (hM : MR σ m (τ 224)) {s : Int} (h0 : 0 ≤ s) (h1 : s < τ 224 4) : MR (mWhole σ m s (nOf τ s 0)) m (nWy τ s 224) := by
  have hS := hT.sacks
  obtain ⟨k, rfl⟩ : ∃ k : Nat, s = ((k : Nat) : Int) := ⟨s.toNat, by omega⟩
  have hp := wy_p hT (s := ((k : Nat) : Int)) h0 (by omega)
  have hk := (hM.sk (s := k) (by omega)).1
  have e0 : nOf τ ((k : Nat) : Int) 0 = τ 224 (20 + 7 * k + 0) := nOf_n τ k (by decide)
  refine MR_pts (τ := wyA τ ((k : Nat) : Int)) hT hM h0 h1 (by omega) hp (fun a j ha1 ha2 => ?_)
  rw [mWhole_at σ m (by omega)]
  by_cases q : a = m + 21 ∧ j = 8 * k
  · rw [if_pos q, if_neg (show ¬ (a = m + 19 ∧ ((j : Nat) : Int) = ((k : Nat) : Int)) by omega), if_pos (show (a = m + 21 ∧ (8 * ((k : Nat) : Int) ≤ ((j : Nat) : Int) ∧ ((j : Nat) : Int) < 8 * ((k : Nat) : Int) + 1)) by omega), show (((j : Nat) : Int) - 8 * ((k : Nat) : Int)).toNat = 0 by omega, wyA, su_same]
  · rw [if_neg q]
    by_cases q2 : a = m + 19 ∧ j = k
    · rw [if_pos q2, if_pos (show (a = m + 19 ∧ ((j : Nat) : Int) = ((k : Nat) : Int)) by omega)]
    · rw [if_neg q2, if_neg (show ¬ (a = m + 19 ∧ ((j : Nat) : Int) = ((k : Nat) : Int)) by omega), if_neg (show ¬ (a = m + 21 ∧ (8 * ((k : Nat) : Int) ≤ ((j : Nat) : Int) ∧ ((j : Nat) : Int) < 8 * ((k : Nat) : Int) + 1)) by omega)]
      by_cases q3 : a = m + 7 ∧ j = k
      · obtain ⟨rfl, rfl⟩ := q3
        rw [if_pos ⟨rfl, rfl⟩, hk, e0]
      · rw [if_neg q3]
theorem KW_pts (hT : TW (τ 224)) (hK : KW (τ 224)) {s many : Int} (h0 : 0 ≤ s) (h1 : s < τ 224 4) (hm : 1 ≤ many ∧ many ≤ 8) (hp : τ 224 668 - nOf τ s 6 + many ≤ 60) : KW (nPts τ s many 224) := by
  have hk9 := hT.keys
  intro k hk
  rw [nPts_lo hT h0 h1 hm hp (by omega), if_neg (by omega)] at hk
  rw [nPts_lo hT h0 h1 hm hp (by omega), if_neg (by omega)]; exact hK k hk
theorem KW_wy (hT : TW (τ 224)) (hK : KW (τ 224)) {s : Int} (h0 : 0 ≤ s) (h1 : s < τ 224 4) : KW (nWy τ s 224) :=
  KW_pts (τ := wyA τ s) hT hK h0 h1 (by omega) (wy_p hT h0 h1)
theorem KW_sets (hT : TW (τ 224)) (hK : KW (τ 224)) {s w v : Int} (h0 : 0 ≤ s) (hw : 0 ≤ w) : KW (nSets τ s w v 224) := by
  have hk9 := hT.keys
  intro k hk
  rw [nSets, su_ne _ _ (Or.inr (by omega))] at hk
  rw [nSets, su_ne _ _ (Or.inr (by omega))]; exact hK k hk
/-- all sacks made whole: how many weren't -/
theorem mMk_alike (hT : TW (τ 224)) (hK : KW (τ 224)) (hM : MR σ m (τ 224)) : (mMk σ m).1 = (nWhL τ (τ 224 4).toNat).1 ∧ MR (mMk σ m).2 m ((nWhL τ (τ 224 4).toNat).2 224) ∧ KW ((nWhL τ (τ 224 4).toNat).2 224) := by
  have hS := hT.sacks
  unfold mMk
  rw [hM.sacks]
  have key : ∀ k : Nat, ((k : Nat) : Int) ≤ τ 224 4 → (itr k (mMkS m) (0, σ)).1 = (nWhL τ k).1 ∧ MR (itr k (mMkS m) (0, σ)).2 m ((nWhL τ k).2 224) ∧ KW ((nWhL τ k).2 224) := by
    intro k
    induction k with
    | zero => intro _; exact ⟨rfl, hM, hK⟩
    | succ k ih =>
      intro hk
      obtain ⟨i1, i2, i3⟩ := ih (by omega)
      obtain ⟨t1, t2⟩ := TW_wh hT k (by omega)
      have a := sk_at t1 i2 (s := ((k : Nat) : Int)) (by omega) (by omega)
      have b := t1.of (s := ((k : Nat) : Int)) (by omega) (by omega)
      rw [itr_s, mMkS, show nWhL τ (k + 1) = nWhS k (nWhL τ k) from rfl, nWhS]
      refine ⟨?_, ?_, KW_wy t1 i3 (by omega) (by omega)⟩
      · show wr (_ + _) = wr (_ + _)
        rw [i1]
        unfold mIsW
        rw [a.2.2.2.2.2.2]
        by_cases q : nOf (nWhL τ k).2 ((k : Nat) : Int) 6 = 1
        · rw [if_pos q, if_neg (by decide), if_neg (by omega)]
        · rw [if_neg q, if_pos rfl, if_pos (by omega)]
      · show MR (mWhole _ m _ (rAt _ (m + 7) 60 _)) m (nWy _ _ 224)
        rw [a.1]
        exact MR_wholly t1 i2 (by omega) (by omega)
  exact key _ (by omega)
/-- a law of one key -/
theorem MR_key (hT : TW (τ 224)) (hM : MR σ m (τ 224)) (key : Int) : MR (lAdd (su σ (m + 1) 1 0) (m + 1) key) m (cb2 τ key 224) := by
  have hS := hT.sacks
  have hst := hT.stones
  have h60 := hT.p60
  have e : ∀ a j, lAdd (su σ (m + 1) 1 0) (m + 1) key a j = if a = m + 1 ∧ j = 1 then 1 else if a = m + 3 ∧ j = 0 then key else σ a j := by
    intro a j
    have v1 : su σ (m + 1) 1 0 (m + 1) 1 = 0 := su_same _ _ _ _
    unfold lAdd
    rw [v1, rPut_ne (show m + 1 ≠ m + 1 + 2 by omega), v1, wr_id (by unfold okI; omega)]
    by_cases q : a = m + 1 ∧ j = 1
    · obtain ⟨rfl, rfl⟩ := q
      rw [su_same, if_pos ⟨rfl, rfl⟩]; rfl
    · rw [if_neg q, su_ne _ _ (by omega), rPut_at (by omega) (by omega)]
      by_cases q2 : a = m + 3 ∧ j = 0
      · rw [if_pos q2, if_pos (show a = m + 1 + 2 ∧ j = (0 : Int).toNat by omega)]
      · rw [if_neg q2, if_neg (show ¬ (a = m + 1 + 2 ∧ j = (0 : Int).toNat) by omega), su_ne _ _ (by omega)]
  have f : ∀ j : Nat, cb2 τ key 224 j = if j = 8 then 1 else if j = 9 then key else τ 224 j := by
    intro j
    rw [cb2]
    by_cases q9 : j = 9
    · subst q9; rw [su_same, if_neg (by decide), if_pos rfl]
    · rw [su_ne _ _ (Or.inr q9)]
      by_cases q8 : j = 8
      · subst q8; rw [su_same, if_pos rfl]
      · rw [su_ne _ _ (Or.inr q8), if_neg q8, if_neg q9, nCp_ne _ (by decide) (by decide)]
  have lo : ∀ {j : Nat}, j ≠ 8 → j ≠ 9 → cb2 τ key 224 j = τ 224 j := fun {j} h8 h9 => by rw [f, if_neg h8, if_neg h9]
  have hpre : ∀ n : Nat, tPre (cb2 τ key 224) n = tPre (τ 224) n := by
    intro n
    induction n with
    | zero => rfl
    | succ n ih =>
      have e3 : ∀ t, tPre t (n + 1) = tPre t n + tM t n := fun t => rfl
      rw [e3, e3, ih]
      show _ + cb2 τ key 224 (20 + 7 * n + 6) = _ + τ 224 (20 + 7 * n + 6)
      rw [lo (by omega) (by omega)]
  refine ⟨⟨?_, ?_, ?_, ?_, ?_⟩, ⟨?_, ?_, fun k hk => ?_⟩, fun k hk => ?_, fun k hk => ?_, fun k i hk hi => ?_⟩
  · rw [lo (by decide) (by decide), e, if_neg (by omega), if_neg (by omega)]; exact hM.lines
  · rw [lo (by decide) (by decide), e, if_neg (by omega), if_neg (by omega)]; exact hM.stones
  · rw [lo (by decide) (by decide), e, if_neg (by omega), if_neg (by omega)]; exact hM.clean
  · rw [lo (by decide) (by decide), e, if_neg (by omega), if_neg (by omega)]; exact hM.fee
  · rw [lo (by decide) (by decide), e, if_neg (by omega), if_neg (by omega)]; exact hM.sacks
  · rw [f, if_pos rfl, e, if_pos ⟨rfl, rfl⟩]
  · rw [lo (by decide) (by decide), e, if_neg (by omega), if_neg (by omega)]; exact hM.small
  · rw [f, if_pos rfl] at hk
    rw [show 9 + k = 9 by omega, f, if_neg (by decide), if_pos rfl, e, if_neg (by omega), if_pos (by omega)]
  · rw [lo (by decide) (by decide)] at hk
    rw [lo (by decide) (by decide), lo (by omega) (by omega), e, if_neg (by omega), if_neg (by omega)]; exact hM.pace hk
  · rw [lo (by decide) (by decide)] at hk
    have g := hM.sk hk
    rw [e, e, e, e, e, e, e]
    (repeat rw [if_neg (by omega)])
    rw [lo (by omega) (by omega), lo (by omega) (by omega), lo (by omega) (by omega), lo (by omega) (by omega), lo (by omega) (by omega), lo (by omega) (by omega), lo (by omega) (by omega)]
    exact g
  · rw [lo (by decide) (by decide)] at hk
    have hmk : tM (cb2 τ key 224) k = tM (τ 224) k := lo (by omega) (by omega)
    rw [hmk] at hi
    rw [hpre, lo (by omega) (by omega), e, if_neg (by omega), if_neg (by omega)]; exact hM.cut hk hi
theorem KW_key (key : Int) (hk : 0 ≤ key ∧ key ≤ 7) : KW (cb2 τ key 224) := by
  have f8 : cb2 τ key 224 8 = 1 := by rw [cb2, su_ne _ _ (Or.inr (by decide)), su_same]
  intro k hk2
  rw [f8] at hk2
  rw [show 9 + k = 9 by omega, cb2, su_same]; exact hk
/-- a stranger's sack more -/
theorem MR_str (hT : TW (τ 224)) (hK : KW (τ 224)) (hM : MR σ m (τ 224)) (hp : τ 224 668 < 60) (minute : Nat) (w : Int) : MR (mSack σ m w 7 ((minute : Nat) : Int) 0 1 (-1)) m (dyC (τ 224 4) ((minute : Nat) : Int) w τ 224) ∧ KW (dyC (τ 224 4) ((minute : Nat) : Int) w τ 224) := by
  have hS := hT.sacks
  have hP0 := hT.p0
  have hpn := hT.p_nn
  have hst := hT.stones
  have hkk := hT.keys
  obtain ⟨n, hn⟩ : ∃ n : Nat, τ 224 4 = ((n : Nat) : Int) := ⟨(τ 224 4).toNat, by omega⟩
  obtain ⟨p, hpp⟩ : ∃ p : Nat, τ 224 668 = ((p : Nat) : Int) := ⟨(τ 224 668).toNat, by omega⟩
  have f := dyC_at (x := τ) (n := n) (p := p) (by omega) (by omega) hn hpp ((minute : Nat) : Int) w
  rw [hn]
  generalize dyC ((n : Nat) : Int) ((minute : Nat) : Int) w τ = y at f
  have e : ∀ a j, mSack σ m w 7 ((minute : Nat) : Int) 0 1 (-1) a j = if a = m ∧ j = 5 then ((n : Nat) : Int) + 1 else if a = m + 21 ∧ j = 8 * n then w else if a = m + 19 ∧ j = n then 1 else if a = m + 7 ∧ j = n then w else if a = m + 17 ∧ j = n then -1 else if a = m + 15 ∧ j = n then 1 else if a = m + 13 ∧ j = n then 0 else if a = m + 11 ∧ j = n then ((minute : Nat) : Int) else if a = m + 9 ∧ j = n then 7 else σ a j := by
    have h5 : σ m 5 = ((n : Nat) : Int) := by rw [hM.sacks, hn]
    have P : ∀ (x : Sg) (c : Nat) (v : Int) (a j : Nat), rPut x c 60 ((n : Nat) : Int) v a j = if a = c ∧ j = n then v else x a j := fun x c v a j => by rw [rPut_at (by omega) (by omega)]; rfl
    have Q : ∀ (x : Sg) (c : Nat) (v : Int), c ≠ m → rPut x c 60 ((n : Nat) : Int) v m 5 = x m 5 := fun x c v hc => rPut_ne (by omega)
    intro a j
    unfold mSack
    rw [h5, Q _ _ _ (by omega), h5, Q _ _ _ (by omega), Q _ _ _ (by omega), h5, Q _ _ _ (by omega), Q _ _ _ (by omega), Q _ _ _ (by omega), h5, Q _ _ _ (by omega), Q _ _ _ (by omega), Q _ _ _ (by omega), Q _ _ _ (by omega), h5, Q _ _ _ (by omega), Q _ _ _ (by omega), Q _ _ _ (by omega), Q _ _ _ (by omega), Q _ _ _ (by omega), h5]
    rw [mWhole_5, Q _ _ _ (by omega), Q _ _ _ (by omega), Q _ _ _ (by omega), Q _ _ _ (by omega), Q _ _ _ (by omega), h5, wr_id (by unfold okI; omega)]
    by_cases q : a = m ∧ j = 5
    · obtain ⟨rfl, rfl⟩ := q
      rw [su_same, if_pos ⟨rfl, rfl⟩]
    · rw [su_ne _ _ (by omega), if_neg q, mWhole_at _ m (by omega), P, P, P, P, P]
  have lo : ∀ {j : Nat}, (j < 20 ∧ j ≠ 4) → y 224 j = τ 224 j := fun {j} hj => by
    rw [f]; (repeat rw [if_neg (by omega)])
  have y4 : y 224 4 = ((n : Nat) : Int) + 1 := by rw [f, if_neg (by omega), if_neg (by omega), if_pos rfl]
  have sk : ∀ k : Nat, k < n → ∀ i : Nat, i < 7 → y 224 (20 + 7 * k + i) = τ 224 (20 + 7 * k + i) := fun k hk i hi => by
    rw [f]; (repeat rw [if_neg (by omega)])
  have hpre : ∀ k : Nat, k ≤ n → tPre (y 224) k = tPre (τ 224) k := by
    intro k
    induction k with
    | zero => intro _; rfl
    | succ k ih =>
      intro hk
      have e3 : ∀ t, tPre t (k + 1) = tPre t k + tM t k := fun t => rfl
      rw [e3, e3, ih (by omega)]
      show _ + y 224 (20 + 7 * k + 6) = _ + τ 224 (20 + 7 * k + 6)
      rw [sk k (by omega) 6 (by omega)]
  have hsum := hT.sum
  rw [hn, hpp, show (((n : Nat) : Int)).toNat = n from rfl] at hsum
  refine ⟨⟨⟨?_, ?_, ?_, ?_, ?_⟩, ⟨?_, ?_, fun k hk => ?_⟩, fun k hk => ?_, fun k hk => ?_, fun k i hk hi => ?_⟩, fun k hk => ?_⟩
  · rw [lo (by omega), e]; (repeat rw [if_neg (by omega)]); exact hM.lines
  · rw [lo (by omega), e]; (repeat rw [if_neg (by omega)]); exact hM.stones
  · rw [lo (by omega), e]; (repeat rw [if_neg (by omega)]); exact hM.clean
  · rw [lo (by omega), e]; (repeat rw [if_neg (by omega)]); exact hM.fee
  · rw [y4, e, if_pos ⟨rfl, rfl⟩]
  · rw [lo (by omega), e]; (repeat rw [if_neg (by omega)]); exact hM.keys
  · rw [lo (by omega), e]; (repeat rw [if_neg (by omega)]); exact hM.small
  · rw [lo (by omega)] at hk
    rw [lo (by omega), e]; (repeat rw [if_neg (by omega)]); exact hM.key hk
  · rw [lo (by omega)] at hk
    rw [lo (by omega), lo (by omega), e]; (repeat rw [if_neg (by omega)]); exact hM.pace hk
  · rw [y4] at hk
    rw [e, e, e, e, e, e, e]
    by_cases q : k = n
    · subst q
      rw [f, f, f, f, f, f, f]
      refine ⟨?_, ?_, ?_, ?_, ?_, ?_, ?_⟩ <;> (repeat first | rw [if_pos (by omega)] | rw [if_neg (by omega)])
    · have g := hM.sk (s := k) (by omega)
      rw [sk k (by omega) 0 (by omega), sk k (by omega) 1 (by omega), sk k (by omega) 2 (by omega), sk k (by omega) 3 (by omega), sk k (by omega) 4 (by omega), sk k (by omega) 5 (by omega), sk k (by omega) 6 (by omega)]
      (repeat rw [if_neg (by omega)])
      exact g
  · rw [y4] at hk
    by_cases q : k = n
    · subst q
      have hmk : tM (y 224) k = 1 := by
        show y 224 (20 + 7 * k + 6) = 1
        rw [f]; (repeat rw [if_neg (by omega)]); rw [if_pos rfl]
      rw [hmk] at hi
      rw [hpre k (Nat.le_refl _), ← hsum, f, e]
      (repeat first | rw [if_pos (by omega)] | rw [if_neg (by omega)])
    · have hmk : tM (y 224) k = tM (τ 224) k := sk k (by omega) 6 (by omega)
      rw [hmk] at hi
      have hmany := hT.many k (by omega)
      have g1 := tPre_nn hT (a := k) (by omega)
      have g2 := tPre_le hT (a := k + 1) (by omega)
      have e3 : tPre (τ 224) (k + 1) = tPre (τ 224) k + tM (τ 224) k := rfl
      rw [hpre k (by omega), f, e]
      (repeat rw [if_neg (by omega)])
      exact hM.cut (by omega) hi
  · rw [lo (by omega)] at hk
    rw [lo (by omega)]; exact hK k hk
end AL
