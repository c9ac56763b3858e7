/-! ALIKE, 37: the fee, all sacks -/
section FA
variable {σ τ y z : Sg} {s n : Int}
theorem PtW.cgw {d : Nat} {w v : Nat → Int} (h : PtW τ s d w y) (he : wqE d w v) : PtW τ s d v y := by
  refine ⟨h.1, h.2.1, fun p hp => ?_⟩
  rw [h.2.2 p hp]
  by_cases q : ((p : Nat) : Int) < nFo τ s
  · rw [if_pos q, if_pos q]
  · rw [if_neg q, if_neg q]
    by_cases q2 : ((p : Nat) : Int) < nFo τ s + ((d : Nat) : Int)
    · rw [if_pos q2, if_pos q2]; exact he _ (by omega)
    · rw [if_neg q2, if_neg q2]
/-- one made whole -/
theorem wy_pt {e : Nat} {v : Nat → Int} (hT : TW (τ 224)) (h : PtW τ s e v y) (hY : TW (y 224)) (h0 : 0 ≤ s) (h1 : s < τ 224 4) : PtW τ s 1 (fun _ => nOf τ s 0) (nWy y s) ∧ TW (nWy y s 224) := by
  obtain ⟨g1, g2, g3, g4, g5, g6⟩ := h.had hT h0 h1
  have hp := pt_rg hT h0 h1
  have h60 := hT.p60
  have e1 : laW y (wyA y s 230) = wyA y s := by
    funext a j
    unfold laW
    by_cases q : a = 230
    · rw [if_pos q, q]
    · rw [if_neg q]; exact (su_ne _ _ (Or.inl q)).symm
  have r := h.pts hT hY h0 h1 (d := 1) ⟨Nat.le_refl _, by decide⟩ (by unfold Bs; omega) (wyA y s 230)
  rw [e1] at r
  refine ⟨PtW.cgw (y := nWy y s) r (fun i hi => ?_), (TW_wy hY h0 (by rw [g3]; exact h1)).1⟩
  rw [show i = 0 by omega]
  show su y 230 0 (nOf y s 0) 230 0 = _
  rw [su_same]
  exact g6 0 (by decide) (by decide)
/-- all sacks whole, as heavy as they are; the first k -/
def WHk (y : Sg) (k : Nat) : Prop := ∀ i : Nat, i < k → tM (y 224) i = 1 ∧ y 224 (608 + i) = y 224 (20 + 7 * i)
theorem WHk.pre (h : WHk y n.toNat) : ∀ k : Nat, k ≤ n.toNat → tPre (y 224) k = ((k : Nat) : Int) := by
  intro k
  induction k with
  | zero => intro _; rfl
  | succ k ih =>
    intro hk
    have e3 : tPre (y 224) (k + 1) = tPre (y 224) k + tM (y 224) k := rfl
    rw [e3, ih (by omega), (h k (by omega)).1]; omega
theorem WHk.fo (hT : TW (y 224)) {k : Nat} (h : WHk y k) (hk : ((k : Nat) : Int) ≤ y 224 4) {j : Nat} (hj : j ≤ k) : nFo y ((j : Nat) : Int) = ((j : Nat) : Int) := by
  rw [nFo_pre hT (by omega)]
  exact WHk.pre (n := ((k : Nat) : Int)) h j hj
/-- what one made whole keeps -/
theorem WHk.step (hT : TW (τ 224)) {k : Nat} (h : WHk τ k) (hk : ((k : Nat) : Int) ≤ τ 224 4) {j : Nat} (hj : j ≤ k) (hj4 : ((j : Nat) : Int) < τ 224 4) (hz : PtW τ ((j : Nat) : Int) 1 (fun _ => nOf τ ((j : Nat) : Int) 0) z) (hZ : TW (z 224)) : WHk z (if j = k then k + 1 else k) := by
  have hS := hT.sacks
  have ef := h.fo hT hk hj
  have e4 : z 224 4 = τ 224 4 := (hz.had hT (by omega) hj4).2.2.1
  have hzp := hZ.p_nn
  have hnn := hT.many j hj4
  intro i hi
  have hik : i ≤ k := by split at hi <;> omega
  have hi4 : ((i : Nat) : Int) < τ 224 4 := by
    by_cases q : i = j
    · omega
    · split at hi <;> omega
  have a := hz.1 (20 + 7 * i + 6) (by omega)
  have b := hz.1 (20 + 7 * i) (by omega)
  rw [if_neg (by omega)] at b
  have c := hz.2.2 i (by rw [← e4] at hi4; omega)
  rw [ef] at c
  by_cases q : i = j
  · subst q
    rw [if_pos (by omega)] at a
    rw [if_neg (by omega), if_pos (by omega)] at c
    refine ⟨a, ?_⟩
    rw [c, b, nOf_n _ _ (by decide)]; rfl
  · have hik2 : i < k := by split at hi <;> omega
    obtain ⟨h1, h2⟩ := h i hik2
    rw [if_neg (by omega)] at a
    refine ⟨a.trans h1, ?_⟩
    rw [c, b]
    by_cases q2 : ((i : Nat) : Int) < ((j : Nat) : Int)
    · rw [if_pos q2]; exact h2
    · rw [if_neg q2, if_neg (by omega)]
      have hj1 := (h j (by omega)).1
      have : nOf τ ((j : Nat) : Int) 6 = 1 := by rw [nOf_n _ _ (by decide)]; exact hj1
      rw [this, show (((i : Nat) : Int) + 1 - ((1 : Nat) : Int)).toNat = i by omega]; exact h2
theorem WH_all (hT : TW (τ 224)) : ∀ k : Nat, ((k : Nat) : Int) ≤ τ 224 4 → WHk (nWhL τ k).2 k := by
  intro k
  induction k with
  | zero => intro _ i hi; omega
  | succ k ih =>
    intro hk
    obtain ⟨t1, t2⟩ := TW_wh hT k (by omega)
    have w := wy_pt t1 (PtW.rf t1 (s := ((k : Nat) : Int)) (by omega) (by omega)) t1 (by omega) (by omega)
    have r := (ih (by omega)).step t1 (by omega) (Nat.le_refl _) (by omega) w.1 w.2
    rw [if_pos rfl] at r
    exact r
theorem WHk.pt (hT : TW (y 224)) {k : Nat} (h : WHk y k) (hk : y 224 4 = ((k : Nat) : Int)) {j : Nat} (hj : j < k) : PtW y ((j : Nat) : Int) 1 (fun _ => nOf y ((j : Nat) : Int) 0) y ∧ Bs y ((j : Nat) : Int) = ((k : Nat) : Int) - 1 := by
  have hj1 := h j hj
  have e6 : nOf y ((j : Nat) : Int) 6 = 1 := by rw [nOf_n _ _ (by decide)]; exact hj1.1
  have r := PtW.rf hT (s := ((j : Nat) : Int)) (by omega) (by omega)
  rw [e6] at r
  refine ⟨PtW.cgw (d := 1) r (fun i hi => ?_), ?_⟩
  · rw [h.fo hT (by omega) (Nat.le_of_lt hj), show i = 0 by omega, nOf_n _ _ (by decide)]
    show y 224 (608 + ((((j : Nat) : Int)).toNat + 0)) = y 224 (20 + 7 * j + 0)
    exact hj1.2
  · unfold Bs
    rw [e6, hT.sum, hk, show (((k : Nat) : Int)).toNat = k from rfl]
    have := WHk.pre (n := ((k : Nat) : Int)) h k (Nat.le_refl _)
    omega
/-- alike behind each sack -/
def FR (σ τ : Sg) (k : Nat) (x : Int × Sg) (y : Sg) : Prop := (x.1 = y 223 37 ∧ 0 ≤ y 223 37) ∧ (MR x.2 74 (y 224) ∧ TW (y 224) ∧ KW (y 224) ∧ WHk y k ∧ y 224 4 = ((k : Nat) : Int)) ∧ (∀ a, (a < 74 ∨ 128 ≤ a) → x.2 a = σ a) ∧ (∀ j : Nat, (j = 5 ∨ j = 7 ∨ j = 15 ∨ j = 16) → y 223 j = τ 223 j) ∧ ∀ a, (a = 244 ∨ a = 245 ∨ a = 246 ∨ a = 247 ∨ a = 227 ∨ a = 228 ∨ a = 229) → y a = τ a
theorem fe_S (hn : 2 ≤ n ∧ n ≤ 3) {k i : Nat} (hk : k ≤ 24) (hi : i < k) {x : Int × Sg} (h : FR σ τ k x y) : FR σ τ k (zFeS n i x) (feN n i y) := by
  obtain ⟨⟨x1, x2⟩, ⟨hM, hT, hK, hW, h4⟩, hz, ht, ha⟩ := h
  have hs0 : (0 : Int) ≤ ((i : Nat) : Int) := by omega
  have hs1 : ((i : Nat) : Int) < y 224 4 := by omega
  have ep := (sk_at hT hM hs0 hs1).1
  change rAt x.2 81 60 _ = _ at ep
  rw [zFeS, feN, ep]
  by_cases q : 30 < nOf y ((i : Nat) : Int) 0
  · rw [if_neg (by omega), if_pos q]
    exact ⟨⟨x1, x2⟩, ⟨hM, hT, hK, hW, h4⟩, hz, ht, ha⟩
  rw [if_pos (by omega), if_neg q]
  have e224 : nRu y 224 = y 224 := nRu_224 hT
  have e37 : nRu y 223 37 = y 223 37 := nRu_223 y (by decide)
  have e223 : ∀ j : Nat, (j = 5 ∨ j = 7 ∨ j = 15 ∨ j = 16) → nRu y 223 j = τ 223 j := fun j hj => by rw [nRu_223 y (by omega)]; exact ht j hj
  have eA : ∀ a, (a = 244 ∨ a = 245 ∨ a = 246 ∨ a = 247 ∨ a = 227 ∨ a = 228 ∨ a = 229) → nRu y a = τ a := fun a h => by rw [nRu_ne y (by omega)]; exact ha a h
  have eO : ∀ w, nOf y ((i : Nat) : Int) w = nOf (nRu y) ((i : Nat) : Int) w := fun w => (nOf_of e224 _ _).symm
  have hyP := hW.pt hT h4 hi
  rw [eO 0] at q ⊢
  have hyP1 : PtW (nRu y) ((i : Nat) : Int) 1 (fun _ => nOf (nRu y) ((i : Nat) : Int) 0) y := by
    have := hyP.1
    unfold PtW at this ⊢
    rw [e224, ← eO 0, ← eO 6, show nFo (nRu y) ((i : Nat) : Int) = nFo y ((i : Nat) : Int) from itr_cg _ (fun k c hk => by rw [nFoS, nFoS, nOf_of e224])]
    exact this
  have hYB : Bs (nRu y) ((i : Nat) : Int) = ((k : Nat) : Int) - 1 := (Bs_of e224 _).trans hyP.2
  have hTY : TW (nRu y 224) := TW_ru hT
  have hKY : KW (nRu y 224) := by rw [e224]; exact hK
  have hMY : MR x.2 74 (nRu y 224) := by rw [e224]; exact hM
  have hs2 : ((i : Nat) : Int) < nRu y 224 4 := by rw [e224]; exact hs1
  have hWY : WHk (nRu y) k := by unfold WHk; rw [e224]; exact hW
  have h4Y : nRu y 224 4 = ((k : Nat) : Int) := by rw [e224]; exact h4
  have ho := hTY.of hs0 hs2
  have hw9 : ∀ j, j < 1 → 1 ≤ wqF (nOf (nRu y) ((i : Nat) : Int) 0) 1 j ∧ wqF (nOf (nRu y) ((i : Nat) : Int) 0) 1 j ≤ 99 := fun j hj => by
    unfold wqF; rw [if_pos (by omega)]; omega
  have hwE : wqE 1 (wqF (nOf (nRu y) ((i : Nat) : Int) 0) 1) (fun _ => nOf (nRu y) ((i : Nat) : Int) 0) := fun j hj => by
    show wqF (nOf (nRu y) ((i : Nat) : Int) 0) 1 j = nOf (nRu y) ((i : Nat) : Int) 0
    unfold wqF; rw [if_pos (by omega)]; omega
  have eW := pw_at hTY hKY hMY hs0 hs2 (d := 1) ⟨Nat.le_refl _, by decide⟩ (by omega) hw9 hwE hyP1 hT
  have rW := pw_rg hTY hs0 hs2 (d := 1) ⟨Nat.le_refl _, by decide⟩ (by omega) hw9
  have mW := mul_9w ho.2.2.2.2.1 rW
  rw [eW, wr_id (show okI (nOf (nRu y) ((i : Nat) : Int) 4 * pwW (nRu y) ((i : Nat) : Int) 1 (wqF (nOf (nRu y) ((i : Nat) : Int) 0) 1)) by unfold okI; omega)]
  have B := feF_B hTY hKY hMY hs0 hs2 hn (by omega) mW (by rw [e37]; exact x2)
  have O := fee_one hTY hKY hMY hs0 hs2 hn (by omega) (by omega) (by rw [e37]; exact x2) B.2.2.1
  rw [e37, ← x1] at O
  generalize nRu y = Y at *
  obtain ⟨⟨e0, v0, u, p1, p2, p3⟩, _, _, _, k6⟩ := sk_B (n := n) hTY hKY hMY hs0 hs2 (by omega) (fun _ => by omega)
  generalize feF ((i : Nat) : Int) n (nOf Y ((i : Nat) : Int) 4 * pwW Y ((i : Nat) : Int) 1 (wqF (nOf Y ((i : Nat) : Int) 0) 1)) 4 (nOf Y ((i : Nat) : Int) 0) (nOf Y ((i : Nat) : Int) 0) 0 Y = R at B O ⊢
  generalize skF x.2 ((i : Nat) : Int) n = S at O p3 k6 ⊢
  obtain ⟨B1, ⟨e2, v2, B2⟩, B3, B4, B5⟩ := B
  have hR4 : R 224 4 = Y 224 4 := (B2.had hTY hs0 hs2).2.2.1
  have hu4 : u 224 4 = Y 224 4 := (p1.had hTY hs0 hs2).2.2.1
  have wR := wy_pt hTY B2 B1 hs0 hs2
  have wu := wy_pt hTY p1 p2 hs0 hs2
  have hne : ∀ a, a ≠ 224 → a ≠ 230 → nWy R ((i : Nat) : Int) a = R a := fun a h1 h2 => wy_ne B1 hs0 (by rw [hR4]; exact hs2) ⟨h1, h2⟩
  have hMu : MR (mWhole S 74 ((i : Nat) : Int) (rAt S 81 60 ((i : Nat) : Int))) 74 (nWy u ((i : Nat) : Int) 224) := by
    have e := (sk_at p2 p3 hs0 (by rw [hu4]; exact hs2)).1
    change rAt S 81 60 _ = _ at e
    rw [e]
    exact MR_wholly p2 p3 hs0 (by rw [hu4]; exact hs2)
  have hWR := hWY.step hTY (by omega) (Nat.le_of_lt hi) hs2 wR.1 wR.2
  rw [if_neg (by omega)] at hWR
  refine ⟨⟨?_, ?_⟩, ⟨wu.1.mr wR.1 (wqE.rf _ _) wu.2 hMu, wR.2, wR.1.kw hTY hs0 hKY, hWR, ?_⟩, fun a h => ?_, fun j hj => ?_, fun a h => ?_⟩
  · show max x.1 (faF S ((i : Nat) : Int)) = _
    rw [hne 223 (by decide) (by decide)]; exact O
  · rw [hne 223 (by decide) (by decide)]; omega
  · rw [(wR.1.had hTY hs0 hs2).2.2.1]; exact h4Y
  · rw [← hz a h, ← k6 a h]
    funext j
    exact mWhole_off S 74 _ _ a (by omega) j
  · rw [hne 223 (by decide) (by decide), B4 j hj]; exact e223 j hj
  · rw [hne a (by omega) (by omega), B5 a h]; exact eA a h
theorem al_fee (h : Rel σ τ) (n : Int) : Al (gFe n) eI (zFee σ n).1 (nFe τ n).1 (zFee σ n).2 σ (nFe τ n).2 := by
  unfold gFe nFe feVt
  by_cases q : 2 ≤ n ∧ n ≤ 3
  · have e1 : wth n 2 3 ≠ 0 := by unfold wth; rw [if_pos q]; decide
    rw [if_pos q, if_neg e1, if_neg (by decide)]
    have h' := h.thr 0
    have t5 : nThr τ 0 223 5 = 0 := thr_5 τ 0
    generalize nThr τ 0 = y at h' t5 ⊢
    have hY := h'.tw
    have hM := h'.mr
    have hS := hY.sacks
    have h24 := h'.s24
    have e : nCp y 224 244 224 = y 224 := nCp_ne _ (by decide) (by decide)
    have hT1 : TW (nCp y 224 244 224) := by rw [e]; exact hY
    have hK1 : KW (nCp y 224 244 224) := by rw [e]; exact h'.kw
    have hC : MR (mCopy σ 74 4) 74 (nCp y 224 244 224) := by rw [e]; exact MR_copy (by decide) hY hM
    have ne244 : ∀ a, a ≠ 244 → nCp y 224 244 a = y a := fun a ha => nCp_ne _ (by decide) ha
    obtain ⟨_, m2, m3⟩ := mMk_alike hT1 hK1 hC
    have w1 := WH_all hT1 (y 224 4).toNat (by rw [e]; omega)
    obtain ⟨t1, t2⟩ := TW_wh hT1 (y 224 4).toNat (by rw [e]; omega)
    rw [show nCp y 224 244 224 4 = y 224 4 by rw [e]] at m2 m3 t2
    have wn : ∀ a, a ≠ 224 → a ≠ 230 → (nWhL (nCp y 224 244) (y 224 4).toNat).2 a = nCp y 224 244 a := fun a ha hb => whL_ne hT1 ⟨ha, hb⟩ _ (by rw [e]; omega)
    have e5 : zFe0 σ 74 5 = y 224 4 := by
      show (mMk (mCopy σ 74 4) 74).2 74 5 = _
      rw [m2.sacks, t2]
    have f0 : FR σ (nCp y 224 244) (y 224 4).toNat (0, zFe0 σ) (nFe0 y) := by
      unfold nFe0
      rw [fwL_wh]
      refine ⟨⟨(su_same _ _ _ _).symm, by rw [su_same]; exact Int.le_refl _⟩, ⟨m2, t1, m3, w1, by show (nWhL _ _).2 224 4 = _; rw [t2]; omega⟩, fun a ha => ?_, fun j hj => ?_, fun a ha => ?_⟩
      · funext j
        show (mMk (mCopy σ 74 4) 74).2 a j = _
        rw [mMk_off _ 74 a (by omega) j, mCopy_off σ (by decide) a (by omega) j]
      · rw [su_ne _ _ (Or.inr (by omega)), wn 223 (by decide) (by decide)]
      · funext j
        rw [su_ne _ _ (Or.inl (by omega)), wn a (by omega) (by omega)]
    have key : ∀ k : Nat, k ≤ (y 224 4).toNat → FR σ (nCp y 224 244) (y 224 4).toNat (itr k (zFeS n) (0, zFe0 σ)) (itr k (feN n) (nFe0 y)) := by
      intro k
      induction k with
      | zero => intro _; exact f0
      | succ k ih =>
        intro hk
        rw [itr_s, itr_s]
        exact fe_S q (by omega) (by omega) (ih (by omega))
    have r := key _ (Nat.le_refl _)
    unfold zFee nFeA nFe1 fnN
    rw [e5]
    generalize itr (y 224 4).toNat (zFeS n) (0, zFe0 σ) = X at r ⊢
    generalize itr (y 224 4).toNat (feN n) (nFe0 y) = Y at r ⊢
    obtain ⟨⟨r1, _⟩, _, r3, r4, r5⟩ := r
    have c244 : ∀ a, a ≠ 224 → nCp Y 244 224 a = Y a := fun a ha => nCp_ne _ (by decide) ha
    have cE : ∀ j, j < 672 → nCp Y 244 224 224 j = y 224 j := fun j hj => by rw [nCp_lo _ (by decide) hj, r5 244 (by omega), nCp_lo _ (by decide) hj]
    generalize nCp Y 244 224 = Q at c244 cE ⊢
    have g1 : Q 223 5 = 0 := by rw [c244 223 (by decide), r4 5 (by omega), ne244 223 (by decide)]; exact t5
    have g2 : X.1 = Q 223 37 := by rw [c244 223 (by decide)]; exact r1
    have g3 : Ft y Q := ⟨cE, fun j hj => by rw [c244 223 (by decide), r4 j (by omega), ne244 223 (by decide)], fun a ha => by rw [c244 a (by omega), r5 a (by omega), ne244 a (by omega)]⟩
    exact Al.no _ g1 g2 (h'.fr (fun a ha j => by rw [r3 a (by omega)]) g3)
  · have e1 : wth n 2 3 = 0 := Decidable.byContradiction fun z => q (wth_1 z)
    rw [if_neg q, if_pos e1, if_pos (by decide)]
    exact Al.th 0 rfl (thr_5 τ 1) (h.thr 1)
end FA
