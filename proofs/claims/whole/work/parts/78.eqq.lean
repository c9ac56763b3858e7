/-! ALIKE, 9: trays asked, orders told, sacks made whole and parted, images -/
section AL
variable {σ τ : Sg}
theorem trT_t (t : Nat) : trT ((t : Nat) : Int) = 149 + 2 * t := rfl
theorem imT_t (t : Nat) : imT ((t : Nat) : Int) = 157 + 22 * t := rfl
theorem Rel.full (h : Rel σ τ) (i : Int) : (gFull σ i = some "java/util/NoSuchElementException" ∧ nTf τ i = 1) ∨ (gFull σ i = some "java/lang/IllegalStateException" ∧ nTf τ i = 2) ∨ (gFull σ i = none ∧ nTf τ i = 0 ∧ ∃ t : Nat, t < 4 ∧ i = ((t : Nat) : Int) ∧ TR σ τ t ∧ 0 ≤ τ 246 t ∧ τ 246 t ≤ 60 ∧ 0 ≤ τ 245 t ∧ τ 245 t ≤ 3) := by
  unfold gFull gTray nTf wth
  by_cases q : 0 ≤ i ∧ i < 4
  · rw [if_pos q, if_pos (show 0 ≤ i ∧ i ≤ 3 by omega), if_neg (show ¬ (1 : Int) = 0 by decide), Option.none_or]
    obtain ⟨t, rfl⟩ : ∃ t : Nat, i = ((t : Nat) : Int) := ⟨i.toNat, by omega⟩
    have ht := h.tray (i := t) (by omega)
    have hw := h.trw t (by omega)
    rw [trT_t, show ((t : Nat) : Int).toNat = t from rfl]
    by_cases q2 : τ 245 t = -1
    · rw [if_pos (ht.1 q2), if_pos q2]
      exact Or.inr (Or.inl ⟨rfl, rfl⟩)
    · have hR := ht.2 q2
      rw [if_neg (by rw [hR.2.1]; omega), if_neg q2]
      exact Or.inr (Or.inr ⟨rfl, rfl, t, by omega, rfl, hR, hw.2.1, hw.2.2, by omega, by omega⟩)
  · rw [if_neg q, if_neg (show ¬ (0 ≤ i ∧ i ≤ 3) by omega), if_pos rfl]
    exact Or.inl ⟨rfl, rfl⟩
theorem TR.of {σ' : Sg} {t : Nat} (h : TR σ τ t) (ht : t < 4) (f : Fz σ σ') : TR σ' τ t := ⟨by rw [f _ (by omega)]; exact h.1, by rw [f _ (by omega)]; exact h.2.1, fun k hk => by rw [f _ (by omega)]; exact h.2.2 k hk⟩
theorem TR.of2 {τ' : Sg} {t : Nat} (h : TR σ τ t) (g : Ft τ τ') : TR σ τ' t := by
  unfold TR
  rw [g.2.2 245 (by omega), g.2.2 246 (by omega), g.2.2 247 (by omega)]; exact h
/-- where a told row first is unlike the run's -/
theorem ju_alike (h : RD σ 26 4 τ) {t : Nat} (ht : t < 4) (hR : TR σ τ t) (h0 : 0 ≤ τ 246 t) (h1 : τ 246 t ≤ 60) : zJuP σ (149 + 2 * t) = nUnP τ ((t : Nat) : Int) ∧ 0 ≤ nUnP τ ((t : Nat) : Int) ∧ nUnP τ ((t : Nat) : Int) ≤ 60 := by
  have key : ∀ n k : Nat, ((n + k : Nat) : Int) = τ 246 t → zJuL σ (149 + 2 * t) n ((k : Nat) : Int) = nUnR τ ((t : Nat) : Int) (60 - k) k ∧ 0 ≤ nUnR τ ((t : Nat) : Int) (60 - k) k ∧ nUnR τ ((t : Nat) : Int) (60 - k) k ≤ 60 := by
    intro n
    induction n with
    | zero =>
      intro k hk
      rw [nUnR_x τ _ _ _ (fun e => by have := e.1; rw [show ((t : Nat) : Int).toNat = t from rfl] at this; omega), zJuL]
      omega
    | succ n ih =>
      intro k hk
      rw [zJuL, show 60 - k = 60 - (k + 1) + 1 by omega, nUnR, hR.2.1, h.1.a.1, show ((t : Nat) : Int).toNat = t from rfl, show (60 * ((t : Nat) : Int) + ((k : Nat) : Int)).toNat = 60 * t + k by omega]
      have ey : yAt σ (149 + 2 * t + 1) ((k : Nat) : Int) = τ 247 (60 * t + k) := by
        unfold yAt; rw [if_pos (by omega), show 149 + 2 * t + 1 = 150 + 2 * t by omega]; exact hR.2.2 k (by omega)
      rw [ey]
      by_cases q1 : ((k : Nat) : Int) < τ 246 t ∧ ((k : Nat) : Int) < τ 224 668
      · have er : rAt σ 40 60 ((k : Nat) : Int) = τ 235 k := h.row q1.2
        rw [er]
        by_cases q2 : τ 247 (60 * t + k) = τ 235 k
        · rw [if_pos ⟨q1.1, q1.2, q2⟩, if_pos ⟨q1.1, q1.2, q2⟩]
          exact ih (k + 1) (by omega)
        · rw [if_neg (fun e => q2 e.2.2), if_neg (fun e => q2 e.2.2)]; omega
      · rw [if_neg (fun e => q1 ⟨e.1, e.2.1⟩), if_neg (fun e => q1 ⟨e.1, e.2.1⟩)]; omega
  have := key (τ 246 t).toNat 0 (by omega)
  unfold zJuP nUnP
  rw [hR.2.1]
  exact this
theorem al_judge (h : Rel σ τ) (i w : Int) : Al ((gFull σ i).or (gWhat w 1)) eNSI (zJu (go σ 26 4) (trT i) w) (nJd τ i w).1 (go σ 26 4) σ (nJd τ i w).2 := by
  rw [gWhat_w]
  rcases h.full i with ⟨g1, g2⟩ | ⟨g1, g2⟩ | ⟨g1, g2, t, ht, rfl, hR, h0, h1, _, _⟩
  · have e : jdV τ i w = 1 := by unfold jdV; rw [if_pos (Or.inl (by omega)), g2]
    unfold nJd
    rw [g1, e, if_pos (show (0 : Int) < 1 by decide)]
    exact Al.th 0 rfl (thr_5 τ 1) (h.thr 1)
  · have e : jdV τ i w = 2 := by unfold jdV; rw [if_pos (Or.inl (by omega)), g2]
    unfold nJd
    rw [g1, e, if_pos (show (0 : Int) < 2 by decide)]
    exact Al.th 1 rfl (thr_5 τ 2) (h.thr 2)
  · rw [g1, Option.none_or]
    unfold nJd
    by_cases q : wth w 0 1 = 0
    · have e : jdV τ ((t : Nat) : Int) w = 3 := by unfold jdV; rw [if_neg (by omega)]
      rw [if_pos q, e, if_pos (show (0 : Int) < 3 by decide)]
      exact Al.th 2 rfl (thr_5 τ 3) (h.thr 3)
    · have e : jdV τ ((t : Nat) : Int) w = 0 := by unfold jdV; rw [if_pos (Or.inr q), g2]
      have hw := wth_1 q
      rw [if_neg q, e, if_neg (show ¬ (0 : Int) < 0 by decide)]
      obtain ⟨r1, r2, r3, r4⟩ := h.run 0
      refine Al.no _ r3 ?_ r2
      have hR2 : TR (go σ 26 4) (nRu (nThr τ 0)) t := (hR.of ht ((go_off σ).fr (by decide) (by decide))).of2 ((Ft_thr τ 0).trans (Ft_ru (τ := nThr τ 0) h.tw))
      have e246 : nRu (nThr τ 0) 246 = τ 246 := by rw [nRu_ne _ (by omega)]; rfl
      generalize nRu (nThr τ 0) = y at r1 r2 r3 r4 hR2 e246
      obtain ⟨j1, j2, j3⟩ := ju_alike r1 ht hR2 (by rw [e246]; exact h0) (by rw [e246]; exact h1)
      show zJu (go σ 26 4) (trT ((t : Nat) : Int)) w = jdA y ((t : Nat) : Int) w
      unfold zJu jdA nUn
      rw [trT_t, j1, hR2.2.1, show go σ 26 4 26 1 = y 224 668 from r1.1.a.1, r1.begun, show ((t : Nat) : Int).toNat = t from rfl]
      by_cases z : nUnP y ((t : Nat) : Int) = y 246 t ∧ nUnP y ((t : Nat) : Int) = y 224 668
      · rw [if_pos z, if_pos z, if_pos (Or.inr rfl)]
      · rw [if_neg z, if_neg z]
        have h60 := r1.1.tw.p60
        by_cases w0 : w = 0
        · rw [if_pos w0, if_pos (Or.inl w0)]
        · rw [if_neg w0, if_neg (by omega)]
          unfold nOrV wth
          rw [wr_id (by unfold okI; have := r1.1.tw.p0; omega)]
          by_cases z2 : nUnP y ((t : Nat) : Int) < y 224 668
          · rw [if_pos z2, if_pos (show 0 ≤ nUnP y ((t : Nat) : Int) ∧ nUnP y ((t : Nat) : Int) ≤ y 224 668 - 1 by omega), if_neg (by decide)]
          · rw [if_neg z2, if_neg (show ¬ (0 ≤ nUnP y ((t : Nat) : Int) ∧ nUnP y ((t : Nat) : Int) ≤ y 224 668 - 1) by omega), if_pos rfl]
theorem Ft_io (τ : Sg) (t : Int) : Ft τ (nio τ t).2 := ⟨fun j _ => by rw [show (nio τ t).2 224 = τ 224 from nioL_ne τ t _ (by decide)], fun j hj => by rw [show (nio τ t).2 223 = τ 223 from nioL_ne τ t _ (by decide)], fun a ha => nioL_ne τ t _ (by omega)⟩
theorem Fz_or (σ : Sg) (t : Nat) : Fz σ (zOr σ t).2 := fun a ha j => zOr_off σ t (by omega) (by omega) j
theorem Fz_tc (σ : Sg) : Fz σ (zTc σ) := (fl_off σ).fr (by decide) (by decide)
theorem Rel.order (h : Rel σ τ) {t : Nat} (ht : t < 4) (hR : TR σ τ t) (k : Int) : ((zOr σ (149 + 2 * t)).1 = 0 ↔ (nio (nThr τ k) ((t : Nat) : Int)).1 = 0) ∧ Rel (zOr σ (149 + 2 * t)).2 (nio (nThr τ k) ((t : Nat) : Int)).2 ∧ (nio (nThr τ k) ((t : Nat) : Int)).2 223 5 = k ∧ ((zOr σ (149 + 2 * t)).1 ≠ 0 → RD (zTc (zOr σ (149 + 2 * t)).2) 26 4 (nCoo (nio (nThr τ k) ((t : Nat) : Int)).2) ∧ OrW (nio (nThr τ k) ((t : Nat) : Int)).2 ∧ (∀ i j : Nat, i < j → ((j : Nat) : Int) < (nio (nThr τ k) ((t : Nat) : Int)).2 224 668 → (nio (nThr τ k) ((t : Nat) : Int)).2 240 i ≠ (nio (nThr τ k) ((t : Nat) : Int)).2 240 j) ∧ ∀ j : Nat, ((j : Nat) : Int) < (nio (nThr τ k) ((t : Nat) : Int)).2 224 668 → rAt (zOr σ (149 + 2 * t)).2 144 60 ((j : Nat) : Int) = (nio (nThr τ k) ((t : Nat) : Int)).2 240 j) := by
  have h2 := h.thr k
  obtain ⟨o1, o2⟩ := or_alike h2.tw h2.trw h2.mr ht (hR.of2 (Ft_thr τ k))
  have hRel := h2.fr (Fz_or σ (149 + 2 * t)) (Ft_io (nThr τ k) ((t : Nat) : Int))
  have e224 : (nio (nThr τ k) ((t : Nat) : Int)).2 224 = (nThr τ k) 224 := nioL_ne _ _ _ (by decide)
  refine ⟨o1, hRel, ?_, fun hz => ?_⟩
  · rw [show (nio (nThr τ k) ((t : Nat) : Int)).2 223 = nThr τ k 223 from nioL_ne _ _ _ (by decide)]; exact thr_5 τ k
  · obtain ⟨p1, p2⟩ := o2 hz
    have hO := OrW_io h2.tw (t := ((t : Nat) : Int)) (fun e => hz (o1.mpr e))
    have q1 : ∀ j : Nat, ((j : Nat) : Int) < (nio (nThr τ k) ((t : Nat) : Int)).2 224 668 → rAt (zOr σ (149 + 2 * t)).2 144 60 ((j : Nat) : Int) = (nio (nThr τ k) ((t : Nat) : Int)).2 240 j := fun j hj => p1 j (by rw [e224] at hj; exact hj)
    have q2 : ∀ i j : Nat, i < j → ((j : Nat) : Int) < (nio (nThr τ k) ((t : Nat) : Int)).2 224 668 → (nio (nThr τ k) ((t : Nat) : Int)).2 240 i ≠ (nio (nThr τ k) ((t : Nat) : Int)).2 240 j := fun i j hij hj => p2 i j hij (by rw [e224] at hj; exact hj)
    exact ⟨fl_alike (by decide) (Or.inr (by decide)) hRel.tw hRel.kw hRel.mr q1 hO q2, hO, q2, q1⟩
theorem al_cost (h : Rel σ τ) (i : Int) : Al (gFull σ i) eNS (zCost σ (trT i)).1 (nTC τ i).1 (zCost σ (trT i)).2 σ (nTC τ i).2 := by
  rcases h.full i with ⟨g1, g2⟩ | ⟨g1, g2⟩ | ⟨g1, g2, t, ht, rfl, hR, h0, h1, _, _⟩
  · unfold nTC
    rw [g1, g2, if_pos (show (0 : Int) < 1 by decide)]
    exact Al.th 0 rfl (thr_5 τ 1) (h.thr 1)
  · unfold nTC
    rw [g1, g2, if_pos (show (0 : Int) < 2 by decide)]
    exact Al.th 1 rfl (thr_5 τ 2) (h.thr 2)
  · unfold nTC zCost
    rw [g1, g2, if_neg (show ¬ (0 : Int) < 0 by decide), trT_t]
    obtain ⟨o1, o2, o3, o4⟩ := h.order ht hR 0
    generalize nio (nThr τ 0) ((t : Nat) : Int) = y at o1 o2 o3 o4 ⊢
    by_cases q : (zOr σ (149 + 2 * t)).1 = 0
    · rw [if_pos q, if_pos (o1.mp q)]
      exact Al.no _ o3 rfl o2
    · rw [if_neg q, if_neg (fun e => q (o1.mpr e))]
      obtain ⟨p1, _⟩ := o4 q
      refine Al.no _ ?_ p1.cost (o2.fr (Fz_tc _) (Ft_coo o2.tw))
      show nCoo y.2 223 5 = 0
      unfold nCoo; rw [nCooL_223 _ _ (by decide)]; exact o3
theorem sw_ne (y : Sg) {k : Nat} {i j : Nat} {P : Int} (hk : ((k + 1 : Nat) : Int) < P) (hd : ∀ i j : Nat, i < j → ((j : Nat) : Int) < P → y 240 i ≠ y 240 j) (hij : i < j) (hj : ((j : Nat) : Int) < P) : sw1 y ((k : Nat) : Int) 240 i ≠ sw1 y ((k : Nat) : Int) 240 j := by
  have e : ∀ a, sw1 y ((k : Nat) : Int) 240 a = if a = k + 1 then y 240 k else if a = k then y 240 (k + 1) else y 240 a := by
    intro a
    unfold sw1
    rw [show (((k : Nat) : Int) + 1).toNat = k + 1 by omega, show ((k : Nat) : Int).toNat = k from rfl]
    by_cases q : a = k + 1
    · subst q; rw [su_same, if_pos rfl]
    · rw [su_ne _ _ (Or.inr q), if_neg q]
      by_cases q2 : a = k
      · subst q2; rw [su_same, if_pos rfl]
      · rw [su_ne _ _ (Or.inr q2), if_neg q2]
  rw [e, e]
  have N : ∀ a b : Nat, a ≠ b → ((a : Nat) : Int) < P → ((b : Nat) : Int) < P → y 240 a ≠ y 240 b := fun a b hab ha hb => by
    by_cases z : a < b
    · exact hd a b z hb
    · exact fun e => hd b a (by omega) ha e.symm
  (repeat' split) <;> first | (exfalso; omega) | exact N _ _ (by omega) (by omega) (by omega)
theorem al_swap (h : Rel σ τ) (i k : Int) : Al (gSwap σ i k) eNSO (zSwap σ (trT i) k).1 (nSw τ i k).1 (zSwap σ (trT i) k).2 σ (nSw τ i k).2 := by
  unfold gSwap
  rcases h.full i with ⟨g1, g2⟩ | ⟨g1, g2⟩ | ⟨g1, g2, t, ht, rfl, hR, h0, h1, _, _⟩
  · have e : swV τ i k = 1 := by unfold swV; rw [if_pos (Or.inl (by omega)), g2]
    unfold nSw
    rw [g1, e, if_pos (show (0 : Int) < 1 by decide)]
    exact Al.th 0 rfl (thr_5 τ 1) (h.thr 1)
  · have e : swV τ i k = 2 := by unfold swV; rw [if_pos (Or.inl (by omega)), g2]
    unfold nSw
    rw [g1, e, if_pos (show (0 : Int) < 2 by decide)]
    exact Al.th 1 rfl (thr_5 τ 2) (h.thr 2)
  · rw [g1, Option.none_or, trT_t, hR.2.1, wr_id (show okI (τ 246 t - 1) by unfold okI; omega)]
    have et : τ 246 ((t : Nat) : Int).toNat = τ 246 t := rfl
    unfold nSw
    by_cases q : 0 ≤ k ∧ k < τ 246 t - 1
    · have e : swV τ ((t : Nat) : Int) k = 0 := by
        unfold swV
        rw [et, wr_id (by unfold okI; omega), if_pos (Or.inr (by unfold wth; rw [if_pos (by omega)]; decide)), g2]
      rw [if_pos q, e, if_neg (show ¬ (0 : Int) < 0 by decide)]
      unfold zSwap
      obtain ⟨o1, o2, o3, o4⟩ := h.order ht hR 0
      have hflag := fun e => (nio_flag (τ := nThr τ 0) h.tw ht h.trw).mp e
      have e668 : (nio (nThr τ 0) ((t : Nat) : Int)).2 224 = (nThr τ 0) 224 := nioL_ne _ _ _ (by decide)
      generalize nio (nThr τ 0) ((t : Nat) : Int) = y at o1 o2 o3 o4 hflag e668 ⊢
      by_cases z : (zOr σ (149 + 2 * t)).1 = 0
      · rw [if_pos z, if_pos (o1.mp z)]
        exact Al.no _ o3 rfl o2
      · rw [if_neg z, if_neg (fun e => z (o1.mpr e))]
        obtain ⟨p1, p2, p3, p4⟩ := o4 z
        have h46 : τ 246 t = y.2 224 668 := by rw [e668]; exact (hflag (fun e => z (o1.mpr e))).1
        obtain ⟨k', rfl⟩ : ∃ k' : Nat, k = ((k' : Nat) : Int) := ⟨k.toNat, by omega⟩
        have hTc := TW_coo o2.tw
        have c224 := nCoo_224 o2.tw
        have c240 := nCoo_240 o2.tw
        have hRc : Rel (zTc (zOr σ (149 + 2 * t)).2) (nCoo y.2) := o2.fr (Fz_tc _) (Ft_coo o2.tw)
        have c5 : nCoo y.2 223 5 = 0 := by unfold nCoo; rw [nCooL_223 _ _ (by decide)]; exact o3
        have r144 : ∀ j, zTc (zOr σ (149 + 2 * t)).2 144 j = (zOr σ (149 + 2 * t)).2 144 j := fun j => fl_off _ 144 (by decide) j
        generalize nCoo y.2 = u at p1 hTc c224 c240 hRc c5 ⊢
        generalize zTc (zOr σ (149 + 2 * t)).2 = v at p1 hRc r144 ⊢
        have h60 := o2.tw.p60
        have h60u := hTc.p60
        have hv : ∀ j : Nat, ((j : Nat) : Int) < u 224 668 → rAt v 144 60 ((j : Nat) : Int) = u 240 j := fun j hj => by
          rw [rAt_cg r144, c240]; exact p4 j (by rw [← c224]; exact hj)
        have hsw : Fz v (zSw1 v ((k' : Nat) : Int)) := fun a ha j => by unfold zSw1; rw [rPut_ne (by omega), rPut_ne (by omega)]
        have hsf : Ft u (sw1 u ((k' : Nat) : Int)) := ⟨fun j _ => rfl, fun j _ => rfl, fun a ha => by
          rcases ha with rfl | rfl | rfl | rfl | rfl | rfl <;> rfl⟩
        have hRs := hRc.fr hsw hsf
        have hu668 : ((k' + 1 : Nat) : Int) < u 224 668 := by rw [c224]; omega
        have hOu : OrW u := fun j hj => by rw [c240]; rw [c224] at hj ⊢; exact p2 j hj
        have hR2 : RD (zTc (zSw1 v ((k' : Nat) : Int))) 26 4 (nCoo (sw1 u ((k' : Nat) : Int))) := by
          refine fl_alike (by decide) (Or.inr (by decide)) hRs.tw hRs.kw hRs.mr (fun j hj => ?_) (OrW_sw hOu (by omega) (by omega)) (fun a b hab hb => ?_)
          · change ((j : Nat) : Int) < u 224 668 at hj
            unfold zSw1 sw1
            rw [wr_id (show okI (((k' : Nat) : Int) + 1) by unfold okI; omega)]
            have e1 := hv k' (by omega)
            have e2 := hv (k' + 1) hu668
            rw [show ((k' + 1 : Nat) : Int) = ((k' : Nat) : Int) + 1 by omega] at e2
            rw [e1, e2, show (((k' : Nat) : Int) + 1).toNat = k' + 1 by omega, show ((k' : Nat) : Int).toNat = k' from rfl]
            rw [rAt_nt (by omega), rPut_at (by omega) (by omega), rPut_at (by omega) (by omega), show (((k' : Nat) : Int) + 1).toNat = k' + 1 by omega, show ((k' : Nat) : Int).toNat = k' from rfl]
            by_cases z1 : j = k' + 1
            · rw [if_pos ⟨rfl, z1⟩, z1, su_same]
            · rw [if_neg (fun e => z1 e.2), su_ne _ _ (Or.inr z1)]
              by_cases z2 : j = k'
              · rw [if_pos ⟨rfl, z2⟩, z2, su_same]
              · rw [if_neg (fun e => z2 e.2), su_ne _ _ (Or.inr z2)]
                have := hv j hj
                rw [rAt_nt (by omega)] at this
                exact this
          · exact sw_ne u hu668 (fun i j hij hj => by rw [c240]; exact p3 i j hij (by rw [← c224]; exact hj)) hab hb
        refine Al.no _ ?_ ?_ (hRs.fr (Fz_tc _) (Ft_coo hRs.tw))
        · show nCoo (sw1 u ((k' : Nat) : Int)) 223 5 = 0
          unfold nCoo; rw [nCooL_223 _ _ (by decide)]; exact c5
        · show wr (_ - _) = wr (_ - _)
          rw [hR2.cost, p1.cost]
    · have e : swV τ ((t : Nat) : Int) k = 3 := by
        unfold swV
        rw [et, wr_id (by unfold okI; omega), if_neg]
        intro e
        rcases e with e | e
        · exact e g2
        · have := wth_1 e; omega
      rw [if_neg q, e, if_pos (show (0 : Int) < 3 by decide)]
      exact Al.th 2 rfl (thr_5 τ 3) (h.thr 3)
end AL
