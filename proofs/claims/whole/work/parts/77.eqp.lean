/-! ALIKE, 8: the object and its model, alike; what is only asked -/
/-- the class's object (ids below 223) and the model (223 on) are alike -/
def Rel (σ τ : Sg) : Prop :=
  (MR σ 4 (τ 224) ∧ TW (τ 224) ∧ KW (τ 224) ∧ τ 224 4 ≤ 24) ∧
  (σ 1 1 = τ 223 7 ∧ 0 ≤ τ 223 7 ∧ τ 223 7 ≤ 900 ∧ ∀ i : Nat, i < 900 → ((i : Nat) : Int) < τ 223 7 → wand (σ 2 i) 255 = τ 229 i) ∧
  (σ 3 6 = τ 223 15 ∧ σ 3 7 = τ 223 16) ∧
  (TrW τ ∧ ∀ i : Nat, i < 4 → (τ 245 i = -1 → σ (149 + 2 * i) 2 = -1) ∧ (τ 245 i ≠ -1 → TR σ τ i)) ∧
  ∀ i : Nat, i < 3 → (σ (157 + 22 * i) 6 = 0 ↔ τ 228 i = 0) ∧ (τ 228 i ≠ 0 → MR σ (157 + 22 * i) (fun j => τ 227 (672 * i + j)) ∧ TW (fun j => τ 227 (672 * i + j)) ∧ KW (fun j => τ 227 (672 * i + j)) ∧ τ 227 (672 * i + 4) ≤ 24)
section AL
variable {σ τ : Sg}
theorem Rel.mr (h : Rel σ τ) : MR σ 4 (τ 224) := h.1.1
theorem Rel.tw (h : Rel σ τ) : TW (τ 224) := h.1.2.1
theorem Rel.kw (h : Rel σ τ) : KW (τ 224) := h.1.2.2.1
theorem Rel.s24 (h : Rel σ τ) : τ 224 4 ≤ 24 := h.1.2.2.2
theorem Rel.tape (h : Rel σ τ) : σ 1 1 = τ 223 7 ∧ 0 ≤ τ 223 7 ∧ τ 223 7 ≤ 900 ∧ ∀ i : Nat, i < 900 → ((i : Nat) : Int) < τ 223 7 → wand (σ 2 i) 255 = τ 229 i := h.2.1
theorem Rel.faults (h : Rel σ τ) : σ 3 6 = τ 223 15 ∧ σ 3 7 = τ 223 16 := h.2.2.1
theorem Rel.trw (h : Rel σ τ) : TrW τ := h.2.2.2.1.1
theorem Rel.tray (h : Rel σ τ) {i : Nat} (hi : i < 4) : (τ 245 i = -1 → σ (149 + 2 * i) 2 = -1) ∧ (τ 245 i ≠ -1 → TR σ τ i) := h.2.2.2.1.2 i hi
theorem Rel.image (h : Rel σ τ) {i : Nat} (hi : i < 3) : (σ (157 + 22 * i) 6 = 0 ↔ τ 228 i = 0) ∧ (τ 228 i ≠ 0 → MR σ (157 + 22 * i) (fun j => τ 227 (672 * i + j)) ∧ TW (fun j => τ 227 (672 * i + j)) ∧ KW (fun j => τ 227 (672 * i + j)) ∧ τ 227 (672 * i + 4) ≤ 24) := h.2.2.2.2 i hi
/-- what lies outside of runs, trials, searches stays (class's side) -/
def Fz (σ σ' : Sg) : Prop := ∀ a, (a < 26 ∨ 147 ≤ a) → ∀ j, σ' a j = σ a j
/-- and on the model's side -/
def Ft (τ τ' : Sg) : Prop := Eq6 (τ 224) (τ' 224) ∧ (∀ j, (j = 7 ∨ j = 15 ∨ j = 16) → τ' 223 j = τ 223 j) ∧ ∀ a, (a = 227 ∨ a = 228 ∨ a = 229 ∨ a = 245 ∨ a = 246 ∨ a = 247) → τ' a = τ a
theorem Fz.rf (σ : Sg) : Fz σ σ := fun _ _ _ => rfl
theorem Fz.trans {σ' σ'' : Sg} (h : Fz σ σ') (k : Fz σ' σ'') : Fz σ σ'' := fun a ha j => (k a ha j).trans (h a ha j)
theorem Ft.rf (τ : Sg) : Ft τ τ := ⟨fun _ _ => rfl, fun _ _ => rfl, fun _ _ => rfl⟩
theorem Ft.trans {τ' τ'' : Sg} (h : Ft τ τ') (k : Ft τ' τ'') : Ft τ τ'' := ⟨fun j hj => (k.1 j hj).trans (h.1 j hj), fun j hj => (k.2.1 j hj).trans (h.2.1 j hj), fun a ha => (k.2.2 a ha).trans (h.2.2 a ha)⟩
theorem off.fr {lo hi : Nat} {σ' : Sg} (h : off lo hi σ σ') (h1 : 26 ≤ lo) (h2 : hi ≤ 147) : Fz σ σ' := fun a ha j => h a (by omega) j
theorem Rel.fr {σ' τ' : Sg} (h : Rel σ τ) (f : Fz σ σ') (g : Ft τ τ') : Rel σ' τ' := by
  obtain ⟨⟨a1, a2, a3, a4⟩, ⟨b1, b2, b3, b4⟩, ⟨c1, c2⟩, ⟨d1, d2⟩, e⟩ := h
  obtain ⟨g1, g2, g3⟩ := g
  have g227 := g3 227 (by omega)
  have g228 := g3 228 (by omega)
  have g229 := g3 229 (by omega)
  have g245 := g3 245 (by omega)
  have g246 := g3 246 (by omega)
  have g247 := g3 247 (by omega)
  refine ⟨⟨?_, TW_cg g1 a2, a3.cg a2 g1, by rw [g1 4 (by omega)]; exact a4⟩, ⟨?_, ?_, ?_, fun i hi hi2 => ?_⟩, ⟨?_, ?_⟩, ⟨fun i hi => ?_, fun i hi => ⟨fun q => ?_, fun q => ?_⟩⟩, fun i hi => ⟨?_, fun q => ?_⟩⟩
  · exact (a1.of (fun a h1 h2 j => f a (by omega) j)).cg a2 g1
  · rw [f 1 (by omega), g2 7 (by omega)]; exact b1
  · rw [g2 7 (by omega)]; exact b2
  · rw [g2 7 (by omega)]; exact b3
  · rw [g2 7 (by omega)] at hi2
    rw [f 2 (by omega), g229]; exact b4 i hi hi2
  · rw [f 3 (by omega), g2 15 (by omega)]; exact c1
  · rw [f 3 (by omega), g2 16 (by omega)]; exact c2
  · rw [g245, g246]; exact d1 i hi
  · rw [g245] at q
    rw [f _ (by omega)]; exact (d2 i hi).1 q
  · rw [g245] at q
    have t := (d2 i hi).2 q
    refine ⟨?_, ?_, fun k hk => ?_⟩
    · rw [f _ (by omega), g245]; exact t.1
    · rw [f _ (by omega), g246]; exact t.2.1
    · rw [f _ (by omega), g247]; exact t.2.2 k hk
  · rw [f _ (by omega), g228]; exact (e i hi).1
  · rw [g228] at q
    have t := (e i hi).2 q
    rw [g227]
    exact ⟨t.1.of (fun a h1 h2 j => f a (by omega) j), t.2⟩
theorem Ft_thr (τ : Sg) (k : Int) : Ft τ (nThr τ k) := ⟨fun _ _ => rfl, fun j hj => by unfold nThr; exact su_ne _ _ (Or.inr (by omega)), fun a ha => funext fun j => by unfold nThr; exact su_ne _ _ (Or.inl (by omega))⟩
theorem nT0_thr (τ : Sg) : nT0 τ = nThr τ 0 := rfl
theorem Ft_ru (hT : TW (τ 224)) : Ft τ (nRu τ) := ⟨fun j _ => by rw [nRu_224 hT], fun j hj => nRu_223 τ (by omega), fun a ha => nRu_ne τ (by omega)⟩
theorem nFg_223 (τ : Sg) {j : Nat} (hj : j ≠ 27 ∧ j ≠ 28) : nFg τ 223 j = τ 223 j := by
  rw [nFg_at, if_neg (by omega), if_neg (by omega), fgC, rFill_ne (by decide), rFill_ne (by decide), fgB, rFill_ne (by decide), fgA, su_ne _ _ (Or.inr hj.2), su_ne _ _ (Or.inr hj.1)]
theorem Ft_fg (τ : Sg) : Ft τ (nFg τ) := ⟨fun j _ => by rw [nFg_224], fun j hj => nFg_223 τ (by omega), fun a ha => nFg_240 τ (by omega) (by omega)⟩
theorem nCooL_223 (τ : Sg) (k : Nat) {j : Nat} (hj : j ≠ 27 ∧ j ≠ 28) : nCooL τ k 223 j = τ 223 j := by
  induction k with
  | zero => exact nFg_223 τ hj
  | succ k ih => rw [nCooL_s, cooS, nBg_f _ _ _ _ hj]; exact ih
theorem Ft_coo (hT : TW (τ 224)) : Ft τ (nCoo τ) := ⟨fun j _ => by rw [nCoo_224 hT], fun j hj => nCooL_223 τ _ (by omega), fun a ha => nCoo_ne τ (by omega)⟩
/-- a call's answers and worlds alike: nothing thrown, or the same -/
def Al (g : Option String) (es : List String) (zv nv : Int) (σ' σ τ' : Sg) : Prop :=
  (g = none ∧ τ' 223 5 = 0 ∧ zv = nv ∧ Rel σ' τ') ∨ ∃ (i : Nat) (E : String), g = some E ∧ es[i]? = some E ∧ τ' 223 5 = ((i : Nat) : Int) + 1 ∧ Rel σ τ'
theorem thr_5 (τ : Sg) (k : Int) : nThr τ k 223 5 = k := su_same _ _ _ _
theorem Rel.thr (h : Rel σ τ) (k : Int) : Rel σ (nThr τ k) := h.fr (Fz.rf σ) (Ft_thr τ k)
theorem Rel.t0 (h : Rel σ τ) : Rel σ (nT0 τ) := h.thr 0
theorem Rel.sack (h : Rel σ τ) (s : Int) : gSack σ s = if nIsS τ s = 0 then gNS else none := by
  unfold gSack
  rw [h.mr.sacks]
  have := isS_1 h.tw (s := s)
  by_cases q : 0 ≤ s ∧ s < τ 224 4
  · rw [if_pos q, if_neg (this.mpr q)]
  · rw [if_neg q, if_pos (Decidable.byContradiction fun e => q (this.mp e))]
theorem Rel.piece (h : Rel σ τ) (p : Int) : gPiece σ p = if nIsP τ p = 0 then gNS else none := by
  unfold gPiece
  rw [mPcs_at h.tw h.mr]
  have := isP_1 h.tw (p := p)
  by_cases q : 0 ≤ p ∧ p < τ 224 668
  · rw [if_pos q, if_neg (this.mpr q)]
  · rw [if_neg q, if_pos (Decidable.byContradiction fun e => q (this.mp e))]
theorem gWhat_w (w m : Int) : gWhat w m = if wth w 0 m = 0 then gIA else none := by
  unfold gWhat wth
  by_cases q : 0 ≤ w ∧ w ≤ m
  · rw [if_pos q, if_pos q, if_neg (by decide)]
  · rw [if_neg q, if_neg q, if_pos rfl]
theorem Al.no {zv nv : Int} {σ' τ' : Sg} (es : List String) (h5 : τ' 223 5 = 0) (hv : zv = nv) (hR : Rel σ' τ') : Al none es zv nv σ' σ τ' := Or.inl ⟨rfl, h5, hv, hR⟩
theorem Al.th {zv nv : Int} {σ' τ' : Sg} {es : List String} (i : Nat) {E : String} (he : es[i]? = some E) (h5 : τ' 223 5 = ((i : Nat) : Int) + 1) (hR : Rel σ τ') : Al (some E) es zv nv σ' σ τ' := Or.inr ⟨i, E, rfl, he, h5, hR⟩
def eNI : List String := ["java/util/NoSuchElementException", "java/lang/IllegalArgumentException"]
def eN : List String := ["java/util/NoSuchElementException"]
def eI : List String := ["java/lang/IllegalArgumentException"]
def eNS : List String := ["java/util/NoSuchElementException", "java/lang/IllegalStateException"]
def eNSI : List String := ["java/util/NoSuchElementException", "java/lang/IllegalStateException", "java/lang/IllegalArgumentException"]
def eNSO : List String := ["java/util/NoSuchElementException", "java/lang/IllegalStateException", "java/lang/IndexOutOfBoundsException"]
theorem al_fault (h : Rel σ τ) (w : Int) : Al none [] (zFault σ w) (nFault (nT0 τ) w) σ σ (nT0 τ) := by
  refine Al.no _ (thr_5 _ _) ?_ h.t0
  unfold zFault nFault
  rw [h.faults.1, h.faults.2]; rfl
theorem al_sack (h : Rel σ τ) (s w : Int) : Al ((gSack σ s).or (gWhat w 7)) eNI (zSack σ s w) (nSaV (nT0 τ) s w) σ σ (nSaW (nT0 τ) s w) := by
  have hT := h.tw
  have hS := hT.sacks
  rw [h.sack, gWhat_w]
  unfold nSaW nSaV
  have eS : nIsS (nT0 τ) s = nIsS τ s := rfl
  rw [eS]
  by_cases q : nIsS τ s = 0
  · rw [if_pos q, if_pos q, if_pos q]
    exact Al.th 0 rfl (thr_5 _ _) (h.t0.thr 1)
  · rw [if_neg q, if_neg q, if_neg q, Option.none_or]
    by_cases q2 : wth w 0 7 = 0
    · rw [if_pos q2, if_pos q2, if_pos q2]
      exact Al.th 1 rfl (thr_5 _ _) (h.t0.thr 2)
    · rw [if_neg q2, if_neg q2, if_neg q2]
      have hs := (isS_1 hT).mp q
      have hw := wth_1 q2
      refine Al.no _ (thr_5 _ _) ?_ h.t0
      have a := sk_at hT h.mr hs.1 hs.2
      have eO : ∀ k, nOf (nT0 τ) s k = nOf τ s k := fun k => rfl
      unfold zSack
      rw [eO]
      by_cases w0 : w = 0
      · subst w0; rw [if_pos rfl, if_neg (by decide)]; exact a.1
      rw [if_neg w0]
      by_cases w1 : w = 1
      · subst w1; rw [if_pos rfl, if_neg (by decide)]; exact a.2.1
      rw [if_neg w1]
      by_cases w2 : w = 2
      · subst w2; rw [if_pos rfl, if_neg (by decide)]; exact a.2.2.1
      rw [if_neg w2]
      by_cases w3 : w = 3
      · subst w3; rw [if_pos rfl, if_neg (by decide)]; exact a.2.2.2.1
      rw [if_neg w3]
      by_cases w4 : w = 4
      · subst w4; rw [if_pos rfl, if_neg (by decide)]; exact a.2.2.2.2.1
      rw [if_neg w4]
      by_cases w5 : w = 5
      · subst w5; rw [if_pos rfl, if_neg (by decide)]; exact a.2.2.2.2.2.1
      rw [if_neg w5]
      by_cases w6 : w = 6
      · subst w6; rw [if_pos rfl, if_neg (by decide)]; exact a.2.2.2.2.2.2
      rw [if_neg w6, if_pos (show w = 7 by omega), mFirst_at hT h.mr hs.1 (by omega)]
      have := nFo_pre (σ := nT0 τ) hT (s := s.toNat) (by show ((s.toNat : Nat) : Int) ≤ τ 224 4; omega)
      rw [show ((s.toNat : Nat) : Int) = s by omega] at this
      exact this.symm
/-- THE RUN of both, with what stays -/
theorem Rel.run (h : Rel σ τ) (k : Int) : RD (go σ 26 4) 26 4 (nRu (nThr τ k)) ∧ Rel (go σ 26 4) (nRu (nThr τ k)) ∧ nRu (nThr τ k) 223 5 = k ∧ nRu (nThr τ k) 224 = τ 224 := by
  have hT : TW (nThr τ k 224) := h.tw
  refine ⟨RD.go (by decide) hT h.kw h.mr, h.fr ((go_off σ).fr (by decide) (by decide)) ((Ft_thr τ k).trans (Ft_ru hT)), ?_, nRu_224 hT⟩
  rw [nRu_223 _ (by decide)]; exact thr_5 _ _
theorem al_piece (h : Rel σ τ) (p w : Int) : Al ((gPiece σ p).or (gWhat w 4)) eNI (zPiece (go σ 26 4) p w) (nPi τ p w).1 (go σ 26 4) σ (nPi τ p w).2 := by
  have hT := h.tw
  rw [h.piece, gWhat_w]
  unfold nPi
  have eS : nIsP (nT0 τ) p = nIsP τ p := rfl
  rw [eS]
  by_cases q : nIsP τ p = 0
  · rw [if_pos q, if_pos q]
    exact Al.th 0 rfl (thr_5 (nT0 τ) 1) (h.t0.thr 1)
  · rw [if_neg q, if_neg q, Option.none_or]
    by_cases q2 : wth w 0 4 = 0
    · rw [if_pos q2, if_pos q2]
      exact Al.th 1 rfl (thr_5 (nT0 τ) 2) (h.t0.thr 2)
    · rw [if_neg q2, if_neg q2]
      have hp := (isP_1 hT).mp q
      obtain ⟨r1, r2, r3, r4⟩ := h.run 0
      refine Al.no _ r3 ?_ r2
      have hp2 : ((p.toNat : Nat) : Int) < nRu (nThr τ 0) 224 668 := by rw [r4]; omega
      have t := r1.taken hp2
      have a := r1.1.so (p := p) hp.1 (by rw [r4]; omega)
      rw [show ((p.toNat : Nat) : Int) = p by omega] at t
      show zPiece (go σ 26 4) p w = nPiV (nRu (nThr τ 0)) p w
      unfold zPiece nPiV
      rw [show rAt (go σ 26 4) 28 60 p = _ from a.1, show rAt (go σ 26 4) 30 60 p = _ from a.2, show rAt (go σ 26 4) 34 60 p = _ from t.2.1, show rAt (go σ 26 4) 36 60 p = _ from t.2.2.1, show rAt (go σ 26 4) 38 60 p = _ from t.2.2.2]
theorem al_order (h : Rel σ τ) (k : Int) : Al none [] (uPB (go σ 26 4) 26 k) (nOrV (nRu (nT0 τ)) k) (go σ 26 4) σ (nRu (nT0 τ)) := by
  obtain ⟨r1, r2, r3, r4⟩ := h.run 0
  exact Al.no _ r3 (r1.begun k) r2
theorem al_end (h : Rel σ τ) (s : Int) : Al (gSack σ s) eN (rAt (go σ 26 4) 42 60 s) (nEd τ s).1 (go σ 26 4) σ (nEd τ s).2 := by
  rw [h.sack]
  unfold nEd
  have eS : nIsS (nT0 τ) s = nIsS τ s := rfl
  rw [eS]
  by_cases q : nIsS τ s = 0
  · rw [if_pos q, if_pos q]; exact Al.th 0 rfl (thr_5 (nT0 τ) 1) (h.t0.thr 1)
  · rw [if_neg q, if_neg q]
    have hs := (isS_1 h.tw).mp q
    obtain ⟨r1, r2, r3, r4⟩ := h.run 0
    exact Al.no _ r3 (r1.end_ hs.1 (by rw [r4]; exact hs.2)) r2
theorem al_waits (h : Rel σ τ) (s : Int) : Al (gSack σ s) eN (uW (go σ 26 4) 26 4 s) (nWt τ s).1 (go σ 26 4) σ (nWt τ s).2 := by
  rw [h.sack]
  unfold nWt
  have eS : nIsS (nT0 τ) s = nIsS τ s := rfl
  rw [eS]
  by_cases q : nIsS τ s = 0
  · rw [if_pos q, if_pos q]; exact Al.th 0 rfl (thr_5 (nT0 τ) 1) (h.t0.thr 1)
  · rw [if_neg q, if_neg q]
    have hs := (isS_1 h.tw).mp q
    obtain ⟨r1, r2, r3, r4⟩ := h.run 0
    exact Al.no _ r3 (r1.wait hs.1 (by rw [r4]; exact hs.2)) r2
theorem al_home (h : Rel σ τ) (q : Int) : Al (gPerson q) eI (loF (go σ 26 4) 26 4 q) (nHm τ q).1 (go σ 26 4) σ (nHm τ q).2 := by
  unfold nHm gPerson wth
  by_cases z : 0 ≤ q ∧ q < 8
  · rw [if_pos z, if_pos (show 0 ≤ q ∧ q ≤ 7 by omega), if_neg (by decide)]
    obtain ⟨r1, r2, r3, r4⟩ := h.run 0
    exact Al.no _ r3 (r1.home q) r2
  · rw [if_neg z, if_neg (show ¬ (0 ≤ q ∧ q ≤ 7) by omega), if_pos rfl]
    exact Al.th 0 rfl (thr_5 (nT0 τ) 1) (h.t0.thr 1)
theorem al_total (h : Rel σ τ) (w : Int) : Al none [] (zTotal (go σ 26 4) w) (nTo (nRu (nT0 τ)) w) (go σ 26 4) σ (nRu (nT0 τ)) := by
  obtain ⟨r1, r2, r3, r4⟩ := h.run 0
  refine Al.no _ r3 ?_ r2
  show zTotal (go σ 26 4) w = nTo (nRu (nThr τ 0)) w
  unfold zTotal nTo
  rw [r1.waits, r1.cost, r1.lates, r1.last, mPcs_at r1.1.tw r1.1.mill, r1.1.mill.fee, r1.1.b.2.2.2.2.2.1]
theorem al_stands (h : Rel σ τ) (mi w : Int) : Al ((gMin mi).or (gWhat w 3)) eI (zStands (go σ 26 4) mi w) (nSta τ mi w).1 (go σ 26 4) σ (nSta τ mi w).2 := by
  rw [gWhat_w]
  unfold nSta gMin
  by_cases z : 0 ≤ mi
  · rw [if_pos z, Option.none_or]
    by_cases z2 : wth w 0 3 = 0
    · have e : saV mi w = 1 := by unfold saV; exact if_neg (fun e => e.2 z2)
      rw [if_pos z2, e, if_pos (show (0 : Int) < 1 by decide)]
      exact Al.th 0 rfl (thr_5 τ 1) (h.thr 1)
    · have e : saV mi w = 0 := by unfold saV; exact if_pos ⟨z, z2⟩
      rw [if_neg z2, e, if_neg (show ¬ (0 : Int) < 0 by decide)]
      obtain ⟨r1, r2, r3, r4⟩ := h.run 0
      refine Al.no _ r3 ?_ r2
      show zStands (go σ 26 4) mi w = nSaA (nRu (nThr τ 0)) mi w
      unfold zStands nSaA
      rw [(r1.stands mi).1, (r1.stands mi).2.1, (r1.stands mi).2.2, r1.open_ mi]
  · have e : saV mi w = 1 := by unfold saV; exact if_neg (fun e => z e.1)
    rw [if_neg z, e, if_pos (show (0 : Int) < 1 by decide)]
    exact Al.th 0 rfl (thr_5 τ 1) (h.thr 1)
theorem itr_0 {α : Type} (f : Nat → α → α) (x : α) : itr 0 f x = x := rfl
theorem RD.longest (h : RD σ 26 4 τ) : zLongest σ = nLg τ := by
  have hS := h.1.tw.sacks
  unfold zLongest nLg
  rw [h.1.mill.sacks]
  have key : ∀ n : Nat, ((n : Nat) : Int) ≤ τ 224 4 → itr n (zLoS σ) (-1) = itr n (nLgS τ) (-1) := by
    intro n
    induction n with
    | zero => intro _; rw [itr_0, itr_0]
    | succ n ih =>
      intro hn
      rw [itr_s, itr_s, ih (by omega)]
      have hc := nLg_rg τ n
      generalize itr n (nLgS τ) (-1) = c at hc ⊢
      rw [zLoS, nLgS, h.wait (s := ((n : Nat) : Int)) (by omega) (by omega)]
      by_cases z : c = -1
      · rw [if_pos (Or.inl z), if_pos (Or.inl z)]
      · rw [h.wait (s := c) (by omega) (by omega)]
  exact key _ (by omega)
theorem al_longest (h : Rel σ τ) : Al none [] (zLongest (go σ 26 4)) (nLg (nRu (nT0 τ))) (go σ 26 4) σ (nRu (nT0 τ)) := by
  obtain ⟨r1, r2, r3, r4⟩ := h.run 0
  exact Al.no _ r3 r1.longest r2
theorem al_ahead (h : Rel σ τ) (p q : Int) : Al ((gPiece σ p).or (gPiece σ q)) eN (ld (ly σ 26 4) 26 4 p q 0) (nAh τ p q).1 (ly σ 26 4) σ (nAh τ p q).2 := by
  rw [h.piece, h.piece]
  unfold nAh
  have eS : nIsP (nT0 τ) p = nIsP τ p := rfl
  have eS2 : nIsP (nT0 τ) q = nIsP τ q := rfl
  rw [eS, eS2]
  by_cases z : nIsP τ p = 0
  · rw [if_pos z, if_pos (Or.inl z)]; exact Al.th 0 rfl (thr_5 (nT0 τ) 1) (h.t0.thr 1)
  · rw [if_neg z, Option.none_or]
    by_cases z2 : nIsP τ q = 0
    · rw [if_pos z2, if_pos (Or.inr z2)]; exact Al.th 0 rfl (thr_5 (nT0 τ) 1) (h.t0.thr 1)
    · rw [if_neg z2, if_neg (fun e => by rcases e with e | e; exact z e; exact z2 e)]
      have hp := (isP_1 h.tw).mp z
      have hq := (isP_1 h.tw).mp z2
      have hT : TW (nT0 τ 224) := h.tw
      obtain ⟨l1, l2⟩ := ly_alike (σ := σ) (r := 26) (m := 4) (by decide) hT h.mr
      have e224 := nFg_224 (nT0 τ)
      have hX : RX (ly σ 26 4) 26 4 (nFg (nT0 τ)) := ⟨⟨by decide, (nFg_RI hT).1.1, by rw [e224]; exact h.kw, by rw [e224]; exact MR.of (σ := σ) h.mr (fun a h1 h2 j => ly_off σ a (by omega) j)⟩, l1, l2⟩
      refine Al.no _ ?_ ?_ (h.fr ((ly_off σ).fr (by decide) (by decide)) ((Ft_thr τ 0).trans (Ft_fg (nT0 τ))))
      · show nFg (nT0 τ) 223 5 = 0
        rw [nFg_223 _ (by decide)]; exact thr_5 _ _
      · have hK := hX.tw.keys
        show ld (ly σ 26 4) 26 4 p q 0 = nAhV (nFg (nT0 τ)) p q
        unfold ld nAhV
        rw [hX.mill.keys]
        refine ldR_same _ 0 (fun k _ hk => ?_)
        have e237 : nFg (nT0 τ) 237 (0 : Int).toNat = -1 := by
          rw [nFg_at, if_neg (by omega), if_neg (by omega), fgC, rFill, if_pos ⟨rfl, by decide⟩]
        have g := ldF_alike hX (p := p) (q := q) (st := 0) (by rw [e224]; exact hp) (by rw [e224]; exact hq) (by omega) (k := k) (by omega)
        rw [e237] at g
        exact g
theorem al_count (h : Rel σ τ) (w : Int) : Al none [] (zCount σ w) (nCnt (nT0 τ) w) σ σ (nT0 τ) := by
  refine Al.no _ (thr_5 _ _) ?_ h.t0
  unfold zCount nCnt
  rw [h.mr.lines, h.mr.stones, h.mr.clean, h.mr.fee, h.mr.sacks, mPcs_at h.tw h.mr, show σ 5 1 = τ 224 8 from h.mr.keys, show σ 5 2 = τ 224 17 from h.mr.small, h.tape.1]
  rfl
end AL
