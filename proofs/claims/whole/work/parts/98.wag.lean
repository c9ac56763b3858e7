/-! ALIKE, 35: parting, settle -/
section PS
variable {σ τ : Sg}
theorem al_parting (h : Rel σ τ) (s n w : Int) : Al (gPg σ s n w) eNI (zPar σ s n w).1 (nPg τ s n w).1 (zPar σ s n w).2 σ (nPg τ s n w).2 := by
  have hT := h.tw
  unfold gPg nPg pgV
  rw [h.sack]
  by_cases q : nIsS τ s = 0
  · rw [if_pos q, if_pos q, if_pos (show (0 : Int) < 1 by decide)]
    exact Al.th 0 rfl (thr_5 τ 1) (h.thr 1)
  rw [if_neg q, if_neg q, Option.none_or]
  have hs := (isS_1 hT).mp q
  by_cases q1 : 1 ≤ n ∧ n ≤ 6
  · rw [if_pos q1, Option.none_or]
    have e1 : wth n 1 6 ≠ 0 := by unfold wth; rw [if_pos q1]; decide
    by_cases q2 : w = 0 ∨ w = 1 ∨ (10 ≤ w ∧ w < 16)
    · have e2 : wth w 0 1 ≠ 0 ∨ wth w 10 15 ≠ 0 := by
        rcases q2 with rfl | rfl | q2
        · exact Or.inl (by decide)
        · exact Or.inl (by decide)
        · refine Or.inr ?_
          unfold wth
          rw [if_pos (by omega)]; decide
      rw [if_pos q2, if_pos (show wth n 1 6 ≠ 0 ∧ (wth w 0 1 ≠ 0 ∨ wth w 10 15 ≠ 0) from ⟨e1, e2⟩), if_neg (show ¬ (0 : Int) < 0 by decide)]
      have h' := h.thr 0
      have t5 : nThr τ 0 223 5 = 0 := thr_5 τ 0
      have hs' : 0 ≤ s ∧ s < nThr τ 0 224 4 := hs
      generalize nThr τ 0 = y at h' t5 hs' ⊢
      have hY := h'.tw
      have hM := h'.mr
      have hC : MR (mCopy σ 74 4) 74 (y 224) := MR_copy (by decide) hY hM
      have ep := (sk_at hY hM hs'.1 hs'.2).1
      change rAt σ 11 60 s = _ at ep
      obtain ⟨f1, f2, f3⟩ := nSe_Ft hY h'.kw hC hs'.1 hs'.2 q1
      unfold zPar nPgA
      rw [ep]
      by_cases q3 : 1 < n ∧ 30 < nOf y s 0
      · have e3 : (nSe y s n).1 = 0 := by rw [nSe, if_pos q3]
        rw [if_pos q3, if_pos e3]
        exact Al.no _ (f2.trans t5) rfl (h'.fr (Fz.rf σ) f1)
      · rw [if_neg q3]
        obtain ⟨b1, m, b2, b3, _⟩ := nSe_B hY h'.kw hC hs'.1 hs'.2 q1 q3
        obtain ⟨k1, ⟨m', k2, k3⟩, k4, k5, k6⟩ := sk_B hY h'.kw hC hs'.1 hs'.2 q1 (fun z => by omega)
        obtain ⟨u1, u2, u3⟩ := k3.uniq b3
        subst u1
        rw [if_neg (by omega)]
        have hm := (b3.1.1.rg hY hs'.1 hs'.2 q1.2).1
        refine Al.no _ (f2.trans t5) ?_ (h'.fr (fun a ha j => ?_) f1)
        · show zPgV (zPg σ s n) w = pgA (nSe y s n).2 w
          unfold zPgV pgA zPg
          rw [k2, b2, u2, if_neg (show ¬ ((m' : Nat) : Int) = -1 by omega)]
          by_cases w0 : w = 0
          · rw [if_pos w0, if_pos w0]
          rw [if_neg w0, if_neg w0]
          by_cases w1 : w = 1
          · rw [if_pos w1, if_pos w1]
          rw [if_neg w1, if_neg w1, wr_id (show okI (w - 10) by unfold okI; omega)]
          by_cases w2 : w - 10 < ((m' : Nat) : Int)
          · rw [if_pos w2, if_pos w2, rAt_lt (by omega) (by omega)]
            exact u3 _ (by omega)
          · rw [if_neg w2, if_neg w2]
        · show zPg σ s n a j = _
          unfold zPg
          rw [k6 a (by omega)]
          exact mCopy_off σ (by decide) a (by omega) j
    · have e2 : ¬ (wth n 1 6 ≠ 0 ∧ (wth w 0 1 ≠ 0 ∨ wth w 10 15 ≠ 0)) := by
        rintro ⟨_, z | z⟩
        · have := wth_1 z; omega
        · have := wth_1 z; omega
      rw [if_neg q2, if_neg e2, if_pos (show (0 : Int) < 2 by decide)]
      exact Al.th 1 rfl (thr_5 τ 2) (h.thr 2)
  · have e2 : ¬ (wth n 1 6 ≠ 0 ∧ (wth w 0 1 ≠ 0 ∨ wth w 10 15 ≠ 0)) := fun z => q1 (wth_1 z.1)
    rw [if_neg q1, if_neg e2, if_pos (show (0 : Int) < 2 by decide)]
    exact Al.th 1 rfl (thr_5 τ 2) (h.thr 2)
/-- settling: what is alike behind each sack; σ1, τ1: as it was -/
def SR (σ1 τ1 x y : Sg) : Prop := (MR x 4 (y 224) ∧ TW (y 224) ∧ KW (y 224) ∧ y 224 4 = τ1 224 4) ∧ (∀ a, (a < 4 ∨ (51 ≤ a ∧ a < 74) ∨ 128 ≤ a) → x a = σ1 a) ∧ (∀ a, (a = 244 ∨ a = 245 ∨ a = 246 ∨ a = 247 ∨ a = 227 ∨ a = 228 ∨ a = 229) → y a = τ1 a) ∧ ∀ j : Nat, (j = 5 ∨ j = 7 ∨ j = 15 ∨ j = 16) → y 223 j = τ1 223 j
theorem sg_S {σ1 τ1 : Sg} {n : Int} (hn : 1 ≤ n ∧ n ≤ 3) {i : Nat} {x y : Int × Sg} (h : SR σ1 τ1 x.2 y.2) (he : x.1 = y.1) (hi : ((i : Nat) : Int) < τ1 224 4) (h30 : n = 1 ∨ nOf y.2 ((i : Nat) : Int) 0 ≤ 30) : (zSeS n i x).1 = (sgS n i y).1 ∧ SR σ1 τ1 (zSeS n i x).2 (sgS n i y).2 ∧ ∀ k : Nat, nOf (sgS n i y).2 ((k : Nat) : Int) 0 = nOf y.2 ((k : Nat) : Int) 0 ∨ ¬ ((k : Nat) : Int) < τ1 224 4 := by
  obtain ⟨⟨hM, hY, hK, h4⟩, hz, ht, h223⟩ := h
  have hs0 : (0 : Int) ≤ ((i : Nat) : Int) := by omega
  have hs1 : ((i : Nat) : Int) < y.2 224 4 := by rw [h4]; exact hi
  have hS := hY.sacks
  have hG : MR (go x.2 26 4) 4 (y.2 224) := hM.of (fun a h1 h2 j => go_off x.2 a (by omega) j)
  have hC : MR (mCopy (go x.2 26 4) 74 4) 74 (y.2 224) := MR_copy (by decide) hY hG
  have hn6 : 1 ≤ n ∧ n ≤ 6 := by omega
  obtain ⟨f1, f2, f3⟩ := nSe_Ft hY hK hC hs0 hs1 hn6
  obtain ⟨_, m, b2, b3, b4⟩ := nSe_B hY hK hC hs0 hs1 hn6 (by omega)
  obtain ⟨_, ⟨m', k2, k3⟩, _, _, k6⟩ := sk_B hY hK hC hs0 hs1 hn6 (fun z => by omega)
  obtain ⟨u1, u2, u3⟩ := k3.uniq b3
  subst u1
  have hm := (b3.1.1.rg hY hs0 hs1 hn6.2).1
  have kz : ∀ a, (a < 26 ∨ (51 ≤ a ∧ a < 74) ∨ 128 ≤ a) → zSeB n i x.2 a = x.2 a := fun a ha => by
    unfold zSeB zPg
    rw [k6 a (by omega)]
    funext j
    rw [mCopy_off (go x.2 26 4) (by decide) a (by omega) j, go_off x.2 a (by omega) j]
  change zSeB n i x.2 121 6 = _ at k2
  change bqB (y.2) ((i : Nat) : Int) n (fun _ _ => True) m' (zSeB n i x.2 121 5) (zSeB n i x.2 125) at k3
  change zSeB n i x.2 121 5 = _ at u2
  change wqE m' (zSeB n i x.2 125) _ at u3
  change sgY n i y.2 223 34 = _ at b2
  change zSeB n i x.2 121 5 = sgY n i y.2 223 35 at u2
  change wqE m' (zSeB n i x.2 125) (sgY n i y.2 243) at u3
  change Ft y.2 (sgY n i y.2) at f1
  change sgY n i y.2 244 = _ at f3
  change ∀ j : Nat, (j = 5 ∨ j = 7 ∨ j = 15 ∨ j = 16) → sgY n i y.2 223 j = y.2 223 j at b4
  have hb : sgY n i y.2 223 34 ≠ -1 := by omega
  have p := sgP_pre hn6 (s := i) hY hs1 hb
  have pk := sgS_kp hn6 (s := i) (x := y) hY hs1
  have hTy : TW (sgY n i y.2 224) := TW_cg f1.1 hY
  have hKy : KW (sgY n i y.2 224) := hK.cg hY f1.1
  have hMy : MR x.2 4 (sgY n i y.2 224) := hM.cg hY f1.1
  have e4 : sgY n i y.2 224 4 = τ1 224 4 := (f1.1 4 (by omega)).trans h4
  have hRD := RD.go (r := 26) (m := 4) (by decide) hTy hKy hMy
  have e224 : nRu (sgY n i y.2) 224 = sgY n i y.2 224 := nRu_224 hTy
  have hGy : MR (go x.2 26 4) 4 (sgY n i y.2 224) := hMy.of (fun a h1 h2 j => go_off x.2 a (by omega) j)
  have ey : ∀ a, (a = 244 ∨ a = 245 ∨ a = 246 ∨ a = 247 ∨ a = 227 ∨ a = 228 ∨ a = 229) → sgY n i y.2 a = τ1 a := fun a ha => by
    rw [← ht a ha]
    by_cases q : a = 244
    · rw [q]; exact f3
    · exact f1.2.2 a (by omega)
  have ey2 : ∀ a, (a = 244 ∨ a = 245 ∨ a = 246 ∨ a = 247 ∨ a = 227 ∨ a = 228 ∨ a = 229) → nRu (sgY n i y.2) a = τ1 a := fun a ha => by rw [nRu_ne _ (by omega)]; exact ey a ha
  have e223 : ∀ j : Nat, (j = 5 ∨ j = 7 ∨ j = 15 ∨ j = 16) → nRu (sgY n i y.2) 223 j = τ1 223 j := fun j hj => by rw [nRu_223 _ (by omega), b4 j hj]; exact h223 j hj
  have ePr : zSeP (go x.2 26 4) ((i : Nat) : Int) = nPcO (nRu (sgY n i y.2)) ((i : Nat) : Int) := by
    have a := sk_at hTy hGy hs0 (by rw [e4]; exact hi)
    unfold zSeP nPcO
    rw [hRD.wait hs0 (by rw [e224, e4]; exact hi), nOf_of e224, nOf_of e224, e224]
    have a5 := a.2.2.2.2.1
    have a7 := a.2.2.2.2.2.2
    change rAt (go x.2 26 4) 19 60 _ = _ at a5
    change rAt (go x.2 26 4) 23 60 _ = _ at a7
    rw [a5, a7, hGy.fee]
  have e0y : ∀ k : Nat, ((k : Nat) : Int) < τ1 224 4 → nOf (sgY n i y.2) ((k : Nat) : Int) 0 = nOf y.2 ((k : Nat) : Int) 0 := fun k hk => by
    rw [nOf_n _ _ (by decide), nOf_n _ _ (by decide)]
    exact f1.1 _ (by show 20 + 7 * k + 0 < 672; omega)
  rw [zSeS, sgS, if_neg hb, ePr, u2]
  by_cases q : nPcO (nRu (sgY n i y.2)) ((i : Nat) : Int) ≤ sgY n i y.2 223 35
  · rw [if_neg (by omega), if_pos q]
    refine ⟨he, ⟨⟨?_, ?_, ?_, ?_⟩, fun a ha => ?_, ey2, e223⟩, fun k => ?_⟩
    · show MR (zSeB n i x.2) 4 (nRu (sgY n i y.2) 224)
      rw [e224]
      exact hMy.of (fun a h1 h2 j => by rw [kz a (by omega)])
    · show TW (nRu (sgY n i y.2) 224)
      rw [e224]; exact hTy
    · show KW (nRu (sgY n i y.2) 224)
      rw [e224]; exact hKy
    · show nRu (sgY n i y.2) 224 4 = _
      rw [e224]; exact e4
    · show zSeB n i x.2 a = _
      rw [kz a (by omega)]; exact hz a ha
    · by_cases z : ((k : Nat) : Int) < τ1 224 4
      · left
        show nOf (nRu (sgY n i y.2)) _ 0 = _
        rw [nOf_of e224]; exact e0y k z
      · exact Or.inr z
  · have ps := pk
    rw [sgS, if_neg hb, if_neg q] at ps
    rw [if_pos (by omega), if_neg q]
    obtain ⟨p1, p2, p3, p4, p5⟩ := p
    have eL : sgL (nRu (sgY n i y.2)) 224 = sgY n i y.2 224 := (slS_ne _ _ (by decide)).trans e224
    have e34 : nRu (sgY n i y.2) 223 34 = ((m' : Nat) : Int) := (nRu_223 _ (by decide)).trans b2
    have e243 : nRu (sgY n i y.2) 243 = sgY n i y.2 243 := nRu_ne _ (by omega)
    have hrow : ∀ k : Nat, k < m' → sgL (nRu (sgY n i y.2)) 230 k = sgY n i y.2 243 k := fun k hk => by rw [sgL, slS_at _ _ k (by omega), e243]
    have hB : MR (mWay (zSeB n i x.2) 4 125 8 ((i : Nat) : Int) (zSeB n i x.2 121 6)) 4 (sgP n i y.2 224) := by
      rw [k2]
      unfold sgP
      rw [e34] at p3 p4 ⊢
      refine MR_way (τ := sgL (nRu (sgY n i y.2))) p1 (by rw [eL]; exact hMy.of (fun a h1 h2 j => by rw [kz a (by omega)])) (Or.inr (by decide)) hs0 p2 p3 p4 (fun k hk => ?_)
      rw [rAt_nt (by omega), hrow k (by omega)]
      exact u3 k (by omega)
    have hne : ∀ a, a ≠ 224 → a ≠ 230 → sgP n i y.2 a = nRu (sgY n i y.2) a := fun a h1 h2 => by
      rw [sgP, nPts_ne p1 hs0 p2 p3 p4 h1, sgL, slS_ne _ _ h2]
    refine ⟨rfl, ⟨⟨hB, ps.1, ?_, ps.2.trans h4⟩, fun a ha => ?_, fun a ha => by show sgP n i y.2 a = _; rw [hne a (by omega) (by omega)]; exact ey2 a ha, fun j hj => by show sgP n i y.2 223 j = _; rw [hne 223 (by decide) (by decide)]; exact e223 j hj⟩, fun k => ?_⟩
    · show KW (sgP n i y.2 224)
      rw [sgP]
      exact KW_pts p1 (by rw [eL]; exact hKy) hs0 p2 p3 p4
    · funext j
      show mWay _ _ _ _ _ _ a j = _
      rw [mWay_ne _ _ _ _ _ _ (by omega) (by omega), kz a (by omega), hz a ha]
    · by_cases z : ((k : Nat) : Int) < τ1 224 4
      · left
        rw [← e0y k z]
        show nOf (sgP n i y.2) _ 0 = _
        rw [nOf_n _ _ (by decide), nOf_n _ _ (by decide), sgP, nPts_lo p1 hs0 p2 p3 p4 (by show 20 + 7 * k + 0 < 608; omega), if_neg (by show ¬ ((20 + 7 * k + 0 : Nat) : Int) = _; omega), eL]
      · exact Or.inr z
/-- all pounds are few enough -/
def P30 (n : Int) (τ1 y : Sg) : Prop := ∀ k : Nat, ((k : Nat) : Int) < τ1 224 4 → n = 1 ∨ nOf y ((k : Nat) : Int) 0 ≤ 30
theorem sg_R {σ1 τ1 : Sg} {n : Int} (hn : 1 ≤ n ∧ n ≤ 3) {x y : Sg} (h : SR σ1 τ1 x y) (h30 : P30 n τ1 y) : (zSeR n x).1 = (sgR n y (y 224 4).toNat).1 ∧ SR σ1 τ1 (zSeR n x).2 (sgR n y (y 224 4).toNat).2 ∧ P30 n τ1 (sgR n y (y 224 4).toNat).2 := by
  have h5 := h.1.1.sacks
  have h4 := h.1.2.2.2
  have hS := h.1.2.1.sacks
  unfold zSeR sgR
  rw [h5]
  have key : ∀ k : Nat, ((k : Nat) : Int) ≤ τ1 224 4 → (itr k (zSeS n) (0, x)).1 = (itr k (sgS n) (0, y)).1 ∧ SR σ1 τ1 (itr k (zSeS n) (0, x)).2 (itr k (sgS n) (0, y)).2 ∧ P30 n τ1 (itr k (sgS n) (0, y)).2 := by
    intro k
    induction k with
    | zero => intro _; exact ⟨rfl, h, h30⟩
    | succ k ih =>
      intro hk
      obtain ⟨i1, i2, i3⟩ := ih (by omega)
      rw [itr_s, itr_s]
      generalize itr k (zSeS n) (0, x) = u at i1 i2 ⊢
      generalize itr k (sgS n) (0, y) = v at i1 i2 i3 ⊢
      obtain ⟨r1, r2, r3⟩ := sg_S hn i2 i1 (i := k) (by omega) (i3 k (by omega))
      refine ⟨r1, r2, fun j hj => ?_⟩
      rcases r3 j with r3 | r3
      · rw [r3]; exact i3 j hj
      · exact absurd hj r3
  exact key _ (by omega)
theorem sg_F {σ1 τ1 : Sg} {n : Int} (hn : 1 ≤ n ∧ n ≤ 3) : ∀ (f r : Nat) (x y : Sg), SR σ1 τ1 x y → P30 n τ1 y → ((zSe n f r x).1 = (sgF n f r y).1) ∧ ((SR σ1 τ1 (zSe n f r x).2 (sgF n f r y).2) ∨ ∃ x' y', SR σ1 τ1 x' y' ∧ (zSe n f r x).2 = mCopy x' 4 51 ∧ (sgF n f r y).2 = nCp y' 244 224) := by
  intro f
  induction f with
  | zero => intro r x y h _; exact ⟨rfl, Or.inr ⟨x, y, h, rfl, rfl⟩⟩
  | succ f ih =>
    intro r x y h h30
    obtain ⟨r1, r2, r3⟩ := sg_R hn h h30
    rw [zSe, sgF, r1]
    by_cases q : (sgR n y (y 224 4).toNat).1 = 0
    · rw [if_pos q, if_pos q]
      exact ⟨rfl, Or.inl r2⟩
    · rw [if_neg q, if_neg q]
      exact ih (r + 1) _ _ r2 r3
theorem al_settle (h : Rel σ τ) (n : Int) : Al (gSe n) eI (zSettle σ n).1 (nStl τ n).1 (zSettle σ n).2 σ (nStl τ n).2 := by
  unfold gSe nStl seV
  by_cases q : 1 ≤ n ∧ n ≤ 3
  · have e1 : wth n 1 3 ≠ 0 := by unfold wth; rw [if_pos q]; decide
    rw [if_pos q, if_neg e1, if_neg (by decide)]
    have h' := h.thr 0
    have t5 : nThr τ 0 223 5 = 0 := thr_5 τ 0
    generalize nThr τ 0 = y at h' t5 ⊢
    have hY := h'.tw
    have hM := h'.mr
    have hS := hY.sacks
    have hcs : ∀ k : Nat, ((k : Nat) : Int) ≤ y 224 4 → (itr k (csS y) 1 = 0 ∨ itr k (csS y) 1 = 1) ∧ ((itr k (csS y) 1 ≠ 0 ↔ ∀ i : Nat, i < k → nOf y ((i : Nat) : Int) 0 ≤ 30)) := by
      intro k
      induction k with
      | zero => intro _; exact ⟨Or.inr rfl, fun _ i hi => by omega, fun _ => by show (1 : Int) ≠ 0; decide⟩
      | succ k ih =>
        intro hk
        obtain ⟨i1, i2⟩ := ih (by omega)
        rw [itr_s, csS]
        by_cases z : itr k (csS y) 1 = 0
        · rw [if_pos z]
          exact ⟨Or.inl rfl, fun t => absurd rfl t, fun t => absurd z (i2.mpr (fun i hi => t i (by omega)))⟩
        · rw [if_neg z]
          by_cases z2 : 30 < nOf y ((k : Nat) : Int) 0
          · rw [if_pos z2]
            refine ⟨Or.inl rfl, fun t => absurd rfl t, fun t => ?_⟩
            have := t k (by omega)
            omega
          · rw [if_neg z2]
            refine ⟨Or.inr rfl, fun _ i hi => ?_, fun _ => by decide⟩
            by_cases z3 : i = k
            · rw [z3]; omega
            · exact i2.mp z i (by omega)
    have hzt : ∀ k : Nat, ((k : Nat) : Int) ≤ y 224 4 → (itr k (zTmS σ) (zTm0 σ) = 0 ↔ (y 224 4 ≤ 12 ∧ ∀ i : Nat, i < k → nOf y ((i : Nat) : Int) 0 ≤ 30)) := by
      intro k
      induction k with
      | zero =>
        intro _
        show zTm0 σ = 0 ↔ _
        unfold zTm0
        rw [hM.sacks]
        by_cases z : 12 < y 224 4
        · rw [if_pos z]; exact ⟨fun t => absurd t (by decide), fun t => by omega⟩
        · rw [if_neg z]; exact ⟨fun _ => ⟨by omega, fun i hi => by omega⟩, fun _ => rfl⟩
      | succ k ih =>
        intro hk
        have ih := ih (by omega)
        have ek := (sk_at hY hM (s := ((k : Nat) : Int)) (by omega) (by omega)).1
        change rAt σ 11 60 _ = _ at ek
        rw [itr_s, zTmS, ek]
        by_cases z : itr k (zTmS σ) (zTm0 σ) ≠ 0
        · rw [if_pos z]
          exact ⟨fun t => absurd t z, fun t => absurd (ih.mpr ⟨t.1, fun i hi => t.2 i (by omega)⟩) z⟩
        · rw [if_neg z]
          have z1 := ih.mp (Decidable.not_not.mp z)
          by_cases z2 : 30 < nOf y ((k : Nat) : Int) 0
          · rw [if_pos z2]
            refine ⟨fun t => absurd t (by decide), fun t => ?_⟩
            have := t.2 k (by omega)
            omega
          · rw [if_neg z2]
            refine ⟨fun _ => ⟨z1.1, fun i hi => ?_⟩, fun _ => rfl⟩
            by_cases z3 : i = k
            · rw [z3]; omega
            · exact z1.2 i (by omega)
    have hc := hcs (y 224 4).toNat (by omega)
    have hz := hzt (y 224 4).toNat (by omega)
    have ezt : zTm σ = itr (y 224 4).toNat (zTmS σ) (zTm0 σ) := by unfold zTm; rw [hM.sacks]
    have ecs : csF y = itr (y 224 4).toNat (csS y) 1 := rfl
    rw [← ezt] at hz
    rw [← ecs] at hc
    unfold zSettle nStlA nCs
    by_cases z : zTm σ = 0
    · have z1 := hz.mp z
      have z2 := hc.2.mpr z1.2
      rw [if_neg (fun t => t z), if_neg z2, if_pos z1.1, if_neg (by decide)]
      have hA : SR (mCopy σ 51 4) (nCp y 224 244) (mCopy σ 51 4) (nCp y 224 244) := by
        have e : nCp y 224 244 224 = y 224 := nCp_ne _ (by decide) (by decide)
        refine ⟨⟨?_, by rw [e]; exact hY, by rw [e]; exact h'.kw, rfl⟩, fun _ _ => rfl, fun _ _ => rfl, fun _ _ => rfl⟩
        rw [e]
        exact hM.of (fun a h1 h2 j => mCopy_off σ (by decide) a (by omega) j)
      have h30 : P30 n (nCp y 224 244) (nCp y 224 244) := by
        have e : nCp y 224 244 224 = y 224 := nCp_ne _ (by decide) (by decide)
        intro k hk
        rw [e] at hk
        rw [nOf_of e]
        exact Or.inr (z1.2 k (by omega))
      obtain ⟨r1, r2⟩ := sg_F q 10 0 _ _ hA h30
      have ne244 : ∀ a, a ≠ 244 → nCp y 224 244 a = y a := fun a ha => nCp_ne _ (by decide) ha
      have c51 : ∀ a, (a < 51 ∨ 73 ≤ a) → mCopy σ 51 4 a = σ a := fun a ha => funext fun j => mCopy_off σ (by decide) a (by omega) j
      rcases r2 with r2 | ⟨x', y', r2, r3, r4⟩
      · obtain ⟨⟨s1, s2, s3, s4⟩, s5, s6, s7⟩ := r2
        refine Al.no _ ?_ r1 (h'.now (Or.inr (fun a ha j => ?_)) (fun j hj => ?_) (fun a ha => ?_) ⟨s1, s2, s3, ?_⟩)
        · rw [s7 5 (by omega), ne244 223 (by decide)]; exact t5
        · rw [s5 a (by omega), c51 a (by omega)]
        · rw [s7 j (by omega), ne244 223 (by decide)]
        · rw [s6 a (by omega), ne244 a (by omega)]
        · rw [s4, ne244 224 (by decide)]; exact h'.s24
      · obtain ⟨⟨s1, s2, s3, s4⟩, s5, s6, s7⟩ := r2
        have E : Eq6 (y 224) (nCp y' 244 224 224) := fun j hj => by
          rw [nCp_lo _ (by decide) hj, s6 244 (by omega), nCp_lo _ (by decide) hj]
        have hx51 : MR x' 51 (y 224) := by
          have : MR (mCopy σ 51 4) 51 (y 224) := MR_copy (by decide) hY hM
          exact this.of (fun a h1 h2 j => by rw [s5 a (by omega)])
        have hM4 : MR (mCopy x' 4 51) 4 (y 224) := MR_copy (by decide) hY hx51
        refine Al.no _ ?_ r1 (h'.now (Or.inr (fun a ha j => ?_)) (fun j hj => ?_) (fun a ha => ?_) ⟨?_, ?_, ?_, ?_⟩)
        · rw [r4, nCp_ne _ (by decide) (by decide), s7 5 (by omega), ne244 223 (by decide)]; exact t5
        · rw [r3, mCopy_off x' (by decide) a (by omega) j, s5 a (by omega), c51 a (by omega)]
        · rw [r4, nCp_ne _ (by decide) (by decide), s7 j (by omega), ne244 223 (by decide)]
        · rw [r4, nCp_ne _ (by decide) (by omega), s6 a (by omega), ne244 a (by omega)]
        · rw [r3, r4]; exact hM4.cg hY E
        · rw [r4]; exact TW_cg E hY
        · rw [r4]; exact h'.kw.cg hY E
        · rw [r4, E 4 (by omega)]; exact h'.s24
    · have z3 : (if csF y = 0 then 0 else if y 224 4 ≤ 12 then 1 else 0 : Int) = 0 := by
        by_cases z4 : csF y = 0
        · rw [if_pos z4]
        · rw [if_neg z4, if_neg (fun t => z (hz.mpr ⟨t, hc.2.mp z4⟩))]
      rw [if_pos z, if_pos z3]
      exact Al.no _ t5 rfl h'
  · have e1 : wth n 1 3 = 0 := Decidable.byContradiction fun z => q (wth_1 z)
    rw [if_neg q, if_pos e1, if_pos (by decide)]
    exact Al.th 0 rfl (thr_5 τ 1) (h.thr 1)
end PS
