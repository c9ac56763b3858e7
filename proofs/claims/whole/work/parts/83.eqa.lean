/-! ALIKE, 14: the heaviest, and when a sack comes -/
section AL
variable {σ τ : Sg}
/-- two worlds that agree on the trial mill -/
def AgT (x y : Sg) : Prop := ∀ a : Nat, 74 ≤ a → a < 96 → ∀ j, y a j = x a j
theorem AgT.rf (x : Sg) : AgT x x := fun _ _ _ _ => rfl
theorem AgT.trans {x y z : Sg} (h : AgT x y) (k : AgT y z) : AgT x z := fun a h1 h2 j => (k a h1 h2 j).trans (h a h1 h2 j)
theorem AgT_go (x : Sg) : AgT x (go x 96 74) := fun a _ h2 j => go_off x a (by omega) j
theorem mWhole_ag {x y : Sg} (h : AgT x y) {s : Nat} (hs : s < 60) (v : Int) : AgT (mWhole x 74 ((s : Nat) : Int) v) (mWhole y 74 ((s : Nat) : Int) v) := by
  intro a h1 h2 j
  rw [mWhole_at _ 74 hs, mWhole_at _ 74 hs, h a h1 h2 j]
theorem mWhole_tw (x : Sg) (m : Nat) {s : Nat} (hs : s < 60) (u v : Int) : mWhole (mWhole x m ((s : Nat) : Int) u) m ((s : Nat) : Int) v = mWhole x m ((s : Nat) : Int) v := by
  funext a j
  rw [mWhole_at _ m hs, mWhole_at _ m hs, mWhole_at _ m hs]
  (repeat' split) <;> first | rfl | (exfalso; omega)
/-- worlds that agree on the trial mill run alike -/
theorem late_ag {x y u : Sg} (hT : TW (u 224)) (hK : KW (u 224)) (hM : MR x 74 (u 224)) (ha : AgT x y) {s : Int} (h0 : 0 ≤ s) (h1 : s < u 224 4) : uLate (go y 96 74) 96 74 s = nLa (nRu u) s ∧ uW (go y 96 74) 96 74 s = nWa (nRu u) s := by
  have r := RD.go (r := 96) (by decide) hT hK (hM.pt (t := y) (fun a j g1 g2 => ha a g1 (by omega) j))
  have e : nRu u 224 4 = u 224 4 := by rw [nRu_224 hT]
  exact ⟨r.late h0 (by omega), r.wait h0 (by omega)⟩
/-- the highest n whose f is 0 -/
def mxF (f : Nat → Int) : Nat → Int
  | 0 => -1
  | n + 1 => if f n = 0 then ((n : Nat) : Int) + 1 else mxF f n
def hvF (x0 : Sg) (s : Int) (n : Nat) : Int := uLate (go (mWhole x0 74 s (((n : Nat) : Int) + 1)) 96 74) 96 74 s
theorem hv_class (h : Rel σ τ) {s : Nat} (hs : ((s : Nat) : Int) < τ 224 4) : ∀ n : Nat, n ≤ 99 → ∀ x : Sg, (∀ v : Int, AgT (mWhole (mCopy σ 74 4) 74 ((s : Nat) : Int) v) (mWhole x 74 ((s : Nat) : Int) v)) → (zHv ((s : Nat) : Int) n x).1 = mxF (hvF (mCopy σ 74 4) ((s : Nat) : Int)) n ∧ Fz x (zHv ((s : Nat) : Int) n x).2 := by
  have hS := h.tw.sacks
  have h60 : s < 60 := by omega
  have hM := trial_mr h
  intro n
  induction n with
  | zero => intro _ x _; exact ⟨rfl, Fz.rf x⟩
  | succ n ih =>
    intro hn x ha
    have hT := hvY_kp h.tw (s := ((s : Nat) : Int)) ⟨by omega, hs⟩ (i := n) (by omega)
    have hK := KW_wy (TW_sets h.tw (w := 0) (v := ((n : Nat) : Int) + 1) (s := ((s : Nat) : Int)) (by omega) hs (by omega)).1 (KW_sets (w := 0) (v := ((n : Nat) : Int) + 1) (s := ((s : Nat) : Int)) h.tw h.kw (by omega) (by omega)) (s := ((s : Nat) : Int)) (by omega) (by rw [(TW_sets h.tw (w := 0) (v := ((n : Nat) : Int) + 1) (s := ((s : Nat) : Int)) (by omega) hs (by omega)).2]; exact hs)
    have hMn := MR_whole h.tw hM (s := ((s : Nat) : Int)) (v := ((n : Nat) : Int) + 1) (by omega) hs (by omega)
    have e1 := (late_ag hT.1 hK hMn (AgT.rf _) (s := ((s : Nat) : Int)) (by omega) (by rw [hT.2]; exact hs)).1
    have e2 := (late_ag hT.1 hK hMn (ha (((n : Nat) : Int) + 1)) (s := ((s : Nat) : Int)) (by omega) (by rw [hT.2]; exact hs)).1
    have e3 : uLate (go (mWhole x 74 ((s : Nat) : Int) (((n : Nat) : Int) + 1)) 96 74) 96 74 ((s : Nat) : Int) = hvF (mCopy σ 74 4) ((s : Nat) : Int) n := e2.trans e1.symm
    have hf : Fz x (go (mWhole x 74 ((s : Nat) : Int) (((n : Nat) : Int) + 1)) 96 74) := (mWhole_fz _ _ _).trans ((go_off _).fr (by decide) (by decide))
    have hx : ∀ v : Int, AgT (mWhole (mCopy σ 74 4) 74 ((s : Nat) : Int) v) (mWhole (go (mWhole x 74 ((s : Nat) : Int) (((n : Nat) : Int) + 1)) 96 74) 74 ((s : Nat) : Int) v) := fun v => by
      have g := mWhole_ag (AgT_go (mWhole x 74 ((s : Nat) : Int) (((n : Nat) : Int) + 1))) h60 v
      rw [mWhole_tw _ 74 h60] at g
      exact (ha v).trans g
    have ih' := ih (by omega) _ hx
    rw [zHv, mxF, e3]
    generalize go (mWhole x 74 ((s : Nat) : Int) (((n : Nat) : Int) + 1)) 96 74 = y at hf ih' ⊢
    by_cases q : hvF (mCopy σ 74 4) ((s : Nat) : Int) n = 0
    · rw [if_pos q, if_pos q]; exact ⟨rfl, hf⟩
    · rw [if_neg q, if_neg q]; exact ⟨ih'.1, hf.trans ih'.2⟩
theorem hv_model {τ0 : Sg} {x0 : Sg} (hT0 : TW (τ0 224)) (hK0 : KW (τ0 224)) (hM0 : MR x0 74 (τ0 224)) {s : Nat} (hs : ((s : Nat) : Int) < τ0 224 4) : ∀ n : Nat, n ≤ 99 → (hvL τ0 ((s : Nat) : Int) n).1 = mxF (hvF x0 ((s : Nat) : Int)) n ∧ KW ((hvL τ0 ((s : Nat) : Int) n).2 224) ∧ ∃ x, MR x 74 ((hvL τ0 ((s : Nat) : Int) n).2 224) ∧ ∀ v : Int, mWhole x 74 ((s : Nat) : Int) v = mWhole x0 74 ((s : Nat) : Int) v := by
  have hS := hT0.sacks
  have h60 : s < 60 := by omega
  intro n
  induction n with
  | zero => intro _; exact ⟨rfl, hK0, x0, hM0, fun _ => rfl⟩
  | succ n ih =>
    intro hn
    obtain ⟨i1, i2, x, i3, i4⟩ := ih (by omega)
    obtain ⟨t1, t2⟩ := hvL_kp hT0 (s := ((s : Nat) : Int)) ⟨by omega, hs⟩ n (by omega)
    rw [hvL_s, hvS, mxF]
    generalize hvL τ0 ((s : Nat) : Int) n = u at i1 i2 i3 t1 t2 ⊢
    have hsu : ((s : Nat) : Int) < u.2 224 4 := by rw [t2]; exact hs
    have hT := hvY_kp t1 (s := ((s : Nat) : Int)) ⟨by omega, hsu⟩ (i := n) (by omega)
    have hw := TW_sets t1 (w := 0) (v := ((n : Nat) : Int) + 1) (s := ((s : Nat) : Int)) (by omega) hsu (by omega)
    have hK := KW_wy hw.1 (KW_sets (w := 0) (v := ((n : Nat) : Int) + 1) (s := ((s : Nat) : Int)) t1 i2 (by omega) (by omega)) (s := ((s : Nat) : Int)) (by omega) (by rw [hw.2]; exact hsu)
    have hMn := MR_whole t1 i3 (s := ((s : Nat) : Int)) (v := ((n : Nat) : Int) + 1) (by omega) hsu (by omega)
    have e1 := (late_ag hT.1 hK hMn (AgT.rf _) (s := ((s : Nat) : Int)) (by omega) (by rw [hT.2]; exact hsu)).1
    have e3 : nLa (hvZ ((s : Nat) : Int) n u.2) ((s : Nat) : Int) = hvF x0 ((s : Nat) : Int) n := by
      unfold hvF; rw [← i4]; exact e1.symm
    have e4 : hvZ ((s : Nat) : Int) n u.2 224 = nWy (nSets u.2 ((s : Nat) : Int) 0 (((n : Nat) : Int) + 1)) ((s : Nat) : Int) 224 := nRu_224 hT.1
    rw [e3]
    generalize hvZ ((s : Nat) : Int) n u.2 = w at e4 ⊢
    refine ⟨?_, by show KW (w 224); rw [e4]; exact hK, mWhole x 74 ((s : Nat) : Int) (((n : Nat) : Int) + 1), by show MR _ 74 (w 224); rw [e4]; exact hMn, fun v => by rw [mWhole_tw _ 74 h60, i4]⟩
    rw [i1]
theorem hvL_ne {x : Sg} (hT : TW (x 224)) {s : Int} (hs : 0 ≤ s ∧ s < x 224 4) {a j : Nat} (ha : a < 223 ∨ 239 < a ∨ (223 < a ∧ a < 231 ∧ a ≠ 224 ∧ a ≠ 230) ∨ (a = 223 ∧ j ≠ 27 ∧ j ≠ 28)) : ∀ n : Nat, n ≤ 99 → (hvL x s n).2 a j = x a j := by
  intro n
  induction n with
  | zero => intro _; rfl
  | succ n ih =>
    intro hn
    obtain ⟨t1, t2⟩ := hvL_kp hT hs n (by omega)
    have i1 := ih (by omega)
    have hw := TW_sets t1 (w := 0) (v := ((n : Nat) : Int) + 1) (s := s) hs.1 (by rw [t2]; exact hs.2) (by omega)
    rw [hvL_s, hvS]
    show hvZ s n (hvL x s n).2 a j = _
    generalize (hvL x s n).2 = u at i1 t1 t2 hw ⊢
    have e1 : hvZ s n u a j = nWy (nSets u s 0 (((n : Nat) : Int) + 1)) s a j := by
      unfold hvZ
      by_cases z : a = 223
      · rw [z, nRu_223 _ (by omega)]
      · rw [nRu_ne _ (by omega)]
    rw [e1, wy_ne hw.1 hs.1 (by rw [hw.2, t2]; exact hs.2) (by omega), nSets, su_ne _ _ (Or.inl (by omega)), i1]
theorem nHvA_2 (x : Sg) (s : Int) (N : Nat) : (nHvA x s N).2 = nCp (hvL (nCp x 224 226) s N).2 226 224 := rfl
theorem nHvA_1 (x : Sg) (s : Int) (N : Nat) : (nHvA x s N).1 = (hvL (nCp x 224 226) s N).1 := rfl
theorem hv_back {x : Sg} (hT : TW (x 224)) {s : Int} (hs : 0 ≤ s ∧ s < x 224 4) : Ft x (nHvA x s 99).2 ∧ (nHvA x s 99).2 223 5 = x 223 5 := by
  have e0 : nCp x 224 226 224 = x 224 := nCp_ne _ (by decide) (by decide)
  have k := @hvL_ne (nCp x 224 226) (by rw [e0]; exact hT) s (by rw [e0]; exact hs)
  have e : ∀ j, (j ≠ 27 ∧ j ≠ 28) → (nHvA x s 99).2 223 j = x 223 j := fun j hj => by
    rw [nHvA_2, nCp_ne _ (by decide) (by decide), k (Or.inr (Or.inr (Or.inr ⟨rfl, hj⟩))) 99 (Nat.le_refl _), nCp_ne _ (by decide) (by decide)]
  refine ⟨⟨fun j hj => ?_, fun j hj => e j (by omega), fun a ha => funext fun j => ?_⟩, e 5 (by decide)⟩
  · rw [nHvA_2, nCp_lo _ (by decide) hj, k (by omega) 99 (Nat.le_refl _), nCp_lo _ (by decide) hj]
  · rw [nHvA_2, nCp_ne _ (by decide) (by omega), k (by omega) 99 (Nat.le_refl _), nCp_ne _ (by decide) (by omega)]
theorem al_heaviest (h : Rel σ τ) (s : Int) : Al (gSack σ s) eN (zHv s 99 (mCopy σ 74 4)).1 (nHv τ s 99).1 (zHv s 99 (mCopy σ 74 4)).2 σ (nHv τ s 99).2 := by
  rw [h.sack]
  unfold nHv
  by_cases q : nIsS τ s = 0
  · have e : hvV τ s = 1 := by unfold hvV; rw [if_pos q]
    rw [if_pos q, e, if_pos (show (0 : Int) < 1 by decide)]
    exact Al.th 0 rfl (thr_5 τ 1) (h.thr 1)
  have e : hvV τ s = 0 := by unfold hvV; rw [if_neg q]
  rw [if_neg q, e, if_neg (show ¬ (0 : Int) < 0 by decide)]
  have hs := (isS_1 h.tw).mp q
  obtain ⟨k, rfl⟩ : ∃ k : Nat, s = ((k : Nat) : Int) := ⟨s.toNat, by omega⟩
  have h0 := h.thr 0
  have e0 : nThr τ 0 224 = τ 224 := funext fun j => su_ne _ _ (Or.inl (by decide))
  have e1 : nCp (nThr τ 0) 224 226 224 = τ 224 := by rw [nCp_ne _ (by decide) (by decide), e0]
  obtain ⟨c1, c2⟩ := hv_class h hs.2 99 (Nat.le_refl _) (mCopy σ 74 4) (fun v => AgT.rf _)
  obtain ⟨m1, _⟩ := hv_model (τ0 := nCp (nThr τ 0) 224 226) (x0 := mCopy σ 74 4) (by rw [e1]; exact h.tw) (by rw [e1]; exact h.kw) (by rw [e1]; exact trial_mr h) (s := k) (by rw [e1]; exact hs.2) 99 (Nat.le_refl _)
  obtain ⟨b1, b2⟩ := hv_back h0.tw (s := ((k : Nat) : Int)) (by rw [e0]; exact hs)
  have hR := h0.fr ((trial_fz σ).trans c2) b1
  have h5 := b2.trans (thr_5 τ 0)
  have hv : (zHv ((k : Nat) : Int) 99 (mCopy σ 74 4)).1 = (nHvA (nThr τ 0) ((k : Nat) : Int) 99).1 := by rw [nHvA_1]; exact c1.trans m1.symm
  generalize nHvA (nThr τ 0) ((k : Nat) : Int) 99 = w at hR h5 hv ⊢
  exact Al.no _ h5 hv hR
end AL
