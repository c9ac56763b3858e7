/-! ALIKE, 16: when -/
section AL
variable {σ τ : Sg}
theorem rPut_ag {x y : Sg} (h : AgT x y) (i v : Int) : AgT (rPut x 85 60 i v) (rPut y 85 60 i v) := by
  intro a h1 h2 j
  unfold rPut
  split
  · unfold su; rw [h a h1 h2 j]
  · exact h a h1 h2 j
theorem rPut_tw (x : Sg) (i u v : Int) : rPut (rPut x 85 60 i u) 85 60 i v = rPut x 85 60 i v := by
  unfold rPut
  by_cases q : 0 ≤ i ∧ i < ((60 : Nat) : Int)
  · rw [if_pos q, if_pos q, if_pos q]
    funext a j
    unfold su
    (repeat' split) <;> rfl
  · rw [if_neg q, if_neg q, if_neg q]
theorem rPut_fz (x : Sg) (i v : Int) : Fz x (rPut x 85 60 i v) := fun a ha j => rPut_ne (by omega)
def wnF (x0 : Sg) (s : Int) (n : Nat) : Int := uLate (go (rPut x0 85 60 s ((n : Nat) : Int)) 96 74) 96 74 s
def wwF (x0 : Sg) (s : Int) (n : Nat) : Int := uW (go (rPut x0 85 60 s ((n : Nat) : Int)) 96 74) 96 74 s
/-- the model's row when the sack s comes at v -/
theorem set_row {u x : Sg} (hT : TW (u 224)) (hK : KW (u 224)) (hM : MR x 74 (u 224)) {s v : Int} (hs : 0 ≤ s ∧ s < u 224 4) (hv : 0 ≤ v ∧ v ≤ 600) : (TW (nSets u s 2 v 224) ∧ nSets u s 2 v 224 4 = u 224 4) ∧ KW (nSets u s 2 v 224) ∧ MR (rPut x 85 60 s v) 74 (nSets u s 2 v 224) := by
  have hS := hT.sacks
  refine ⟨TW_sets hT hs.1 hs.2 (Or.inr ⟨rfl, hv⟩), KW_sets hT hK hs.1 (by decide), MR_set hT hM hs.1 hs.2 (Or.inr rfl) (fun a j h1 h2 => ?_)⟩
  rw [rPut_at hs.1 (by omega)]
  by_cases q : a = 85 ∧ j = s.toNat
  · rw [if_pos q, if_pos (by omega)]
  · rw [if_neg q, if_neg (by omega)]
theorem set_ag {u x y : Sg} (hT : TW (u 224)) (hK : KW (u 224)) (hM : MR x 74 (u 224)) {s v : Int} (hs : 0 ≤ s ∧ s < u 224 4) (hv : 0 ≤ v ∧ v ≤ 600) (ha : AgT (rPut x 85 60 s v) y) : uLate (go y 96 74) 96 74 s = nLa (nRu (nSets u s 2 v)) s ∧ uW (go y 96 74) 96 74 s = nWa (nRu (nSets u s 2 v)) s := by
  obtain ⟨⟨t1, t2⟩, k, m⟩ := set_row hT hK hM hs hv
  exact late_ag t1 k m ha hs.1 (by rw [t2]; exact hs.2)
def mxG (f : Nat → Int) : Nat → Int
  | 0 => -1
  | n + 1 => if f n = 0 then ((n : Nat) : Int) else mxG f n
def fsP (f : Nat → Int) : Nat → Int × Int
  | 0 => (-1, 0)
  | n + 1 => if (fsP f n).1 = -1 ∨ f n < (fsP f n).2 then (((n : Nat) : Int), f n) else fsP f n
theorem wn_class (h : Rel σ τ) {s : Int} (hs : 0 ≤ s ∧ s < τ 224 4) : ∀ n : Nat, n ≤ 601 → ∀ x : Sg, (∀ v : Int, AgT (rPut (mCopy σ 74 4) 85 60 s v) (rPut x 85 60 s v)) → (zLn s n x).1 = mxG (wnF (mCopy σ 74 4) s) n ∧ Fz x (zLn s n x).2 := by
  have hM := trial_mr h
  intro n
  induction n with
  | zero => intro _ x _; exact ⟨rfl, Fz.rf x⟩
  | succ n ih =>
    intro hn x ha
    have e1 := (set_ag h.tw h.kw hM hs (v := ((n : Nat) : Int)) (by omega) (AgT.rf _)).1
    have e2 := (set_ag h.tw h.kw hM hs (v := ((n : Nat) : Int)) (by omega) (ha ((n : Nat) : Int))).1
    have e3 : uLate (go (rPut x 85 60 s ((n : Nat) : Int)) 96 74) 96 74 s = wnF (mCopy σ 74 4) s n := e2.trans e1.symm
    have hf : Fz x (go (rPut x 85 60 s ((n : Nat) : Int)) 96 74) := (rPut_fz _ _ _).trans ((go_off _).fr (by decide) (by decide))
    have hx : ∀ v : Int, AgT (rPut (mCopy σ 74 4) 85 60 s v) (rPut (go (rPut x 85 60 s ((n : Nat) : Int)) 96 74) 85 60 s v) := fun v => by
      have g := rPut_ag (AgT_go (rPut x 85 60 s ((n : Nat) : Int))) s v
      rw [rPut_tw] at g
      exact (ha v).trans g
    have ih' := ih (by omega) _ hx
    rw [zLn, mxG, e3]
    generalize go (rPut x 85 60 s ((n : Nat) : Int)) 96 74 = y at hf ih' ⊢
    by_cases q : wnF (mCopy σ 74 4) s n = 0
    · rw [if_pos q, if_pos q]; exact ⟨rfl, hf⟩
    · rw [if_neg q, if_neg q]; exact ⟨ih'.1, hf.trans ih'.2⟩
theorem fs_class (h : Rel σ τ) {s : Int} (hs : 0 ≤ s ∧ s < τ 224 4) : ∀ n : Nat, n ≤ 601 → ((itr n (zFlS s) (-1, 0, mCopy σ 74 4)).1 = (fsP (wwF (mCopy σ 74 4) s) n).1 ∧ (itr n (zFlS s) (-1, 0, mCopy σ 74 4)).2.1 = (fsP (wwF (mCopy σ 74 4) s) n).2) ∧ (∀ v : Int, AgT (rPut (mCopy σ 74 4) 85 60 s v) (rPut (itr n (zFlS s) (-1, 0, mCopy σ 74 4)).2.2 85 60 s v)) ∧ Fz (mCopy σ 74 4) (itr n (zFlS s) (-1, 0, mCopy σ 74 4)).2.2 := by
  have hM := trial_mr h
  intro n
  induction n with
  | zero => intro _; rw [itr_0]; exact ⟨⟨rfl, rfl⟩, fun _ => AgT.rf _, Fz.rf _⟩
  | succ n ih =>
    intro hn
    obtain ⟨⟨i1, i2⟩, i3, i4⟩ := ih (by omega)
    rw [itr_s, zFlS, fsP]
    generalize itr n (zFlS s) (-1, 0, mCopy σ 74 4) = x at i1 i2 i3 i4 ⊢
    have e1 := (set_ag h.tw h.kw hM hs (v := ((n : Nat) : Int)) (by omega) (AgT.rf _)).2
    have e2 := (set_ag h.tw h.kw hM hs (v := ((n : Nat) : Int)) (by omega) (i3 ((n : Nat) : Int))).2
    have e3 : uW (go (rPut x.2.2 85 60 s ((n : Nat) : Int)) 96 74) 96 74 s = wwF (mCopy σ 74 4) s n := e2.trans e1.symm
    have hf : Fz (mCopy σ 74 4) (go (rPut x.2.2 85 60 s ((n : Nat) : Int)) 96 74) := i4.trans ((rPut_fz _ _ _).trans ((go_off _).fr (by decide) (by decide)))
    have hx : ∀ v : Int, AgT (rPut (mCopy σ 74 4) 85 60 s v) (rPut (go (rPut x.2.2 85 60 s ((n : Nat) : Int)) 96 74) 85 60 s v) := fun v => by
      have g := rPut_ag (AgT_go (rPut x.2.2 85 60 s ((n : Nat) : Int))) s v
      rw [rPut_tw] at g
      exact (i3 v).trans g
    rw [e3, i1, i2]
    generalize go (rPut x.2.2 85 60 s ((n : Nat) : Int)) 96 74 = y at hf hx ⊢
    generalize wwF (mCopy σ 74 4) s n = w
    by_cases q : (fsP (wwF (mCopy σ 74 4) s) n).1 = -1 ∨ w < (fsP (wwF (mCopy σ 74 4) s) n).2
    · rw [if_pos q, if_pos q]; exact ⟨⟨rfl, rfl⟩, hx, hf⟩
    · rw [if_neg q, if_neg q]; exact ⟨⟨rfl, rfl⟩, hx, hf⟩
theorem wh_model {τ0 : Sg} {x0 : Sg} (hT0 : TW (τ0 224)) (hK0 : KW (τ0 224)) (hM0 : MR x0 74 (τ0 224)) {s : Int} (hs : 0 ≤ s ∧ s < τ0 224 4) : ∀ n : Nat, n ≤ 601 → ((whL τ0 s n).1 = mxG (wnF x0 s) n ∧ ((n = 0 ∧ (whL τ0 s n).2.2.1 = -1) ∨ (1 ≤ n ∧ (whL τ0 s n).2.1 = (fsP (wwF x0 s) n).1 ∧ (whL τ0 s n).2.2.1 = (fsP (wwF x0 s) n).2 ∧ 0 ≤ (fsP (wwF x0 s) n).1 ∧ 0 ≤ (fsP (wwF x0 s) n).2))) ∧ KW ((whL τ0 s n).2.2.2 224) ∧ ∃ x, MR x 74 ((whL τ0 s n).2.2.2 224) ∧ ∀ v : Int, rPut x 85 60 s v = rPut x0 85 60 s v := by
  intro n
  induction n with
  | zero => intro _; exact ⟨⟨rfl, Or.inl ⟨rfl, rfl⟩⟩, hK0, x0, hM0, fun _ => rfl⟩
  | succ n ih =>
    intro hn
    obtain ⟨⟨i1, i0⟩, i2, x, i3, i4⟩ := ih (by omega)
    obtain ⟨t1, t2⟩ := whL_kp hT0 hs n (by omega)
    rw [whL_s, whS, mxG, fsP]
    generalize whL τ0 s n = u at i1 i0 i2 i3 t1 t2 ⊢
    have hsu : 0 ≤ s ∧ s < u.2.2.2 224 4 := by rw [t2]; exact hs
    obtain ⟨⟨c1, c2⟩, c3, c4⟩ := set_row t1 i2 i3 hsu (v := ((n : Nat) : Int)) (by omega)
    obtain ⟨e1, e2⟩ := set_ag t1 i2 i3 hsu (v := ((n : Nat) : Int)) (by omega) (AgT.rf _)
    have w0 := wait_0 c1 hsu.1 (by rw [c2]; exact hsu.2)
    have e3 : nLa (whZ s n u.2.2.2) s = wnF x0 s n := by
      unfold wnF; rw [← i4]; exact e1.symm
    have e5 : nWa (whZ s n u.2.2.2) s = wwF x0 s n := by
      unfold wwF; rw [← i4]; exact e2.symm
    have w1 : 0 ≤ wwF x0 s n := by rw [← e5]; exact w0
    have e4 : whZ s n u.2.2.2 224 = nSets u.2.2.2 s 2 ((n : Nat) : Int) 224 := nRu_224 c1
    rw [e3, e5]
    generalize whZ s n u.2.2.2 = w at e4 ⊢
    generalize wwF x0 s n = W at w1 ⊢
    refine ⟨⟨by rw [i1], Or.inr ⟨by omega, ?_⟩⟩, by show KW (w 224); rw [e4]; exact c3, rPut x 85 60 s ((n : Nat) : Int), by show MR _ 74 (w 224); rw [e4]; exact c4, fun v => by rw [rPut_tw, i4]⟩
    show (if u.2.2.1 ≠ -1 ∧ u.2.2.1 ≤ W then u.2.1 else ((n : Nat) : Int)) = _ ∧ (if u.2.2.1 ≠ -1 ∧ u.2.2.1 ≤ W then u.2.2.1 else W) = _ ∧ _
    rcases i0 with ⟨g0, g1⟩ | ⟨g0, g1, g2, g3, g4⟩
    · subst g0
      rw [if_neg (show ¬ (u.2.2.1 ≠ -1 ∧ u.2.2.1 ≤ W) by omega), if_neg (show ¬ (u.2.2.1 ≠ -1 ∧ u.2.2.1 ≤ W) by omega), if_pos (show (fsP (wwF x0 s) 0).1 = -1 ∨ W < (fsP (wwF x0 s) 0).2 from Or.inl rfl)]
      exact ⟨rfl, rfl, by show (0 : Int) ≤ 0; omega, w1⟩
    · rw [g1, g2]
      generalize fsP (wwF x0 s) n = f at g3 g4 ⊢
      by_cases q : W < f.2
      · rw [if_neg (show ¬ (f.2 ≠ -1 ∧ f.2 ≤ W) by omega), if_neg (show ¬ (f.2 ≠ -1 ∧ f.2 ≤ W) by omega), if_pos (Or.inr q)]
        exact ⟨rfl, rfl, by show 0 ≤ ((n : Nat) : Int); omega, w1⟩
      · rw [if_pos (show f.2 ≠ -1 ∧ f.2 ≤ W by omega), if_pos (show f.2 ≠ -1 ∧ f.2 ≤ W by omega), if_neg (by omega)]
        exact ⟨rfl, rfl, g3, g4⟩
theorem whL_at {x : Sg} (hT : TW (x 224)) {s : Int} (hs : 0 ≤ s ∧ s < x 224 4) {a j : Nat} (ha : a < 223 ∨ 239 < a ∨ (223 < a ∧ a < 231 ∧ (a ≠ 224 ∨ j ≠ (20 + 7 * s + 2).toNat)) ∨ (a = 223 ∧ j ≠ 27 ∧ j ≠ 28)) : ∀ n : Nat, n ≤ 601 → (whL x s n).2.2.2 a j = x a j := by
  intro n
  induction n with
  | zero => intro _; rfl
  | succ n ih =>
    intro hn
    have i1 := ih (by omega)
    rw [whL_s, whS]
    show whZ s n (whL x s n).2.2.2 a j = _
    generalize (whL x s n).2.2.2 = u at i1 ⊢
    have e1 : whZ s n u a j = nSets u s 2 ((n : Nat) : Int) a j := by
      unfold whZ
      by_cases z : a = 223
      · rw [z, nRu_223 _ (by omega)]
      · rw [nRu_ne _ (by omega)]
    rw [e1, nSets, su_ne _ _ (by omega), i1]
theorem nWhnA_2 (x : Sg) (s w : Int) (N : Nat) : (nWhnA x s w N).2 = nSets (whL x s N).2.2.2 s 2 (nOf x s 2) := rfl
theorem nWhnA_1 (x : Sg) (s w : Int) (N : Nat) : (nWhnA x s w N).1 = if w = 0 then (whL x s N).1 else (whL x s N).2.1 := rfl
theorem wh_back {x : Sg} (hT : TW (x 224)) {s : Int} (hs : 0 ≤ s ∧ s < x 224 4) (w : Int) : Ft x (nWhnA x s w 601).2 ∧ (nWhnA x s w 601).2 223 5 = x 223 5 := by
  have k := @whL_at x hT s hs
  have e : ∀ j, (j ≠ 27 ∧ j ≠ 28) → (nWhnA x s w 601).2 223 j = x 223 j := fun j hj => by
    rw [nWhnA_2, nSets, su_ne _ _ (Or.inl (by decide)), k (Or.inr (Or.inr (Or.inr ⟨rfl, hj⟩))) 601 (Nat.le_refl _)]
  refine ⟨⟨fun j hj => ?_, fun j hj => e j (by omega), fun a ha => funext fun j => ?_⟩, e 5 (by decide)⟩
  · rw [nWhnA_2, nSets]
    by_cases z : j = (20 + 7 * s + 2).toNat
    · rw [← z, su_same, nOf, ← z]
    · rw [su_ne _ _ (Or.inr z), k (by omega) 601 (Nat.le_refl _)]
  · rw [nWhnA_2, nSets, su_ne _ _ (Or.inl (by omega)), k (by omega) 601 (Nat.le_refl _)]
theorem al_when (h : Rel σ τ) (s w : Int) : Al ((gSack σ s).or (gWhat w 1)) eNI (zWhen σ s w).1 (nWhn τ s w 601).1 (zWhen σ s w).2 σ (nWhn τ s w 601).2 := by
  rw [h.sack, gWhat_w]
  unfold nWhn
  by_cases q : nIsS τ s = 0
  · have e : whV τ s w = 1 := by unfold whV; rw [if_pos q]
    rw [if_pos q, e, if_pos (show (0 : Int) < 1 by decide)]
    exact Al.th 0 rfl (thr_5 τ 1) (h.thr 1)
  rw [if_neg q, Option.none_or]
  by_cases z : wth w 0 1 = 0
  · have e : whV τ s w = 2 := by unfold whV; rw [if_neg q, if_neg (fun g => g z)]
    rw [if_pos z, e, if_pos (show (0 : Int) < 2 by decide)]
    exact Al.th 1 rfl (thr_5 τ 2) (h.thr 2)
  have e : whV τ s w = 0 := by unfold whV; rw [if_neg q, if_pos z]
  rw [if_neg z, e, if_neg (show ¬ (0 : Int) < 0 by decide)]
  have hs := (isS_1 h.tw).mp q
  have h0 := h.thr 0
  have e0 : nThr τ 0 224 = τ 224 := funext fun j => su_ne _ _ (Or.inl (by decide))
  obtain ⟨⟨m1, m2⟩, _⟩ := wh_model (τ0 := nThr τ 0) (x0 := mCopy σ 74 4) h0.tw h0.kw (by rw [e0]; exact trial_mr h) (s := s) (by rw [e0]; exact hs) 601 (Nat.le_refl _)
  obtain ⟨b1, b2⟩ := wh_back h0.tw (s := s) (by rw [e0]; exact hs) w
  have h5 := b2.trans (thr_5 τ 0)
  have hv := nWhnA_1 (nThr τ 0) s w 601
  unfold zWhen
  by_cases c : w = 0
  · obtain ⟨c1, c2⟩ := wn_class h hs 601 (Nat.le_refl _) (mCopy σ 74 4) (fun v => AgT.rf _)
    have hR := h0.fr ((trial_fz σ).trans c2) b1
    rw [if_pos c, m1, ← c1] at hv
    rw [if_pos c]
    generalize nWhnA (nThr τ 0) s w 601 = y at hR h5 hv ⊢
    exact Al.no _ h5 hv.symm hR
  · obtain ⟨⟨c1, _⟩, _, c2⟩ := fs_class h hs 601 (Nat.le_refl _)
    have hR := h0.fr ((trial_fz σ).trans c2) b1
    rcases m2 with ⟨m2, _⟩ | ⟨_, m2, _⟩
    · exact absurd m2 (by decide)
    rw [if_neg c, m2, ← c1] at hv
    rw [if_neg c]
    unfold zFl
    generalize nWhnA (nThr τ 0) s w 601 = y at hR h5 hv ⊢
    generalize itr 601 (zFlS s) (-1, 0, mCopy σ 74 4) = y2 at hR hv ⊢
    exact Al.no _ h5 hv.symm hR
end AL
