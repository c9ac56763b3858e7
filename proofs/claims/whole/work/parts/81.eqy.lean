/-! ALIKE, 12: images, all made whole, one parted -/
section AL
variable {σ τ : Sg}
/-- the mill itself changed alike -/
theorem Rel.now {σ' τ' : Sg} (h : Rel σ τ) (f : off 4 26 σ σ' ∨ ∀ a, (a < 4 ∨ 149 ≤ a) → ∀ j, σ' a j = σ a j) (g2 : ∀ j, (j = 7 ∨ j = 15 ∨ j = 16) → τ' 223 j = τ 223 j) (g3 : ∀ a, (a = 227 ∨ a = 228 ∨ a = 229 ∨ a = 245 ∨ a = 246 ∨ a = 247) → τ' a = τ a) (n : MR σ' 4 (τ' 224) ∧ TW (τ' 224) ∧ KW (τ' 224) ∧ τ' 224 4 ≤ 24) : Rel σ' τ' := by
  have f : ∀ a, (a < 4 ∨ 149 ≤ a) → ∀ j, σ' a j = σ a j := by
    rcases f with f | f
    · exact fun a ha j => f a (by omega) j
    · exact f
  obtain ⟨_, ⟨b1, b2, b3, b4⟩, ⟨c1, c2⟩, ⟨d1, d2⟩, e⟩ := h
  have g227 := g3 227 (by omega)
  have g228 := g3 228 (by omega)
  have g229 := g3 229 (by omega)
  have g245 := g3 245 (by omega)
  have g246 := g3 246 (by omega)
  have g247 := g3 247 (by omega)
  refine ⟨n, ⟨?_, ?_, ?_, fun i hi hi2 => ?_⟩, ⟨?_, ?_⟩, ⟨fun i hi => ?_, fun i hi => ⟨fun q => ?_, fun q => ?_⟩⟩, fun i hi => ⟨?_, fun q => ?_⟩⟩
  · rw [f 1 (by omega), g2 7 (by omega)]; exact b1
  · rw [g2 7 (by omega)]; exact b2
  · rw [g2 7 (by omega)]; exact b3
  · rw [g2 7 (by omega)] at hi2
    rw [f 2 (by omega), g229]; exact b4 i hi hi2
  · rw [f 3 (by omega), g2 15 (by omega)]; exact c1
  · rw [f 3 (by omega), g2 16 (by omega)]; exact c2
  · rw [g245, g246]; exact d1 i hi
  · rw [g245] at q
    rw [f _ (by omega)]; exact (d2 i hi).1 q
  · rw [g245] at q
    have t := (d2 i hi).2 q
    refine ⟨?_, ?_, fun k hk => ?_⟩
    · rw [f _ (by omega), g245]; exact t.1
    · rw [f _ (by omega), g246]; exact t.2.1
    · rw [f _ (by omega), g247]; exact t.2.2 k hk
  · rw [f _ (by omega), g228]; exact (e i hi).1
  · rw [g228] at q
    have t := (e i hi).2 q
    rw [g227]
    exact ⟨t.1.of (fun a h1 h2 j => f a (by omega) j), t.2⟩
theorem mWhole_off (σ : Sg) (m : Nat) (s v : Int) : off m (m + 22) σ (mWhole σ m s v) := by
  intro a ha j
  unfold mWhole
  rw [rPut_ne (by omega), rPut_ne (by omega), rPut_ne (by omega)]
theorem mMk_off (σ : Sg) (m : Nat) : off m (m + 22) σ (mMk σ m).2 := by
  unfold mMk
  refine itr_inv (fun _ (x : Int × Sg) => off m (m + 22) σ x.2) _ _ (0, σ) (off.rf _ _ _) (fun k y _ hy => ?_)
  exact hy.trans (mWhole_off _ _ _ _)
theorem wy_ne {τ : Sg} (hT : TW (τ 224)) {s : Int} (h0 : 0 ≤ s) (h1 : s < τ 224 4) {a : Nat} (ha : a ≠ 224 ∧ a ≠ 230) : nWy τ s a = τ a := by
  rw [nWy, nPts_ne (σ := wyA τ s) hT h0 h1 (by omega) (wy_p hT h0 h1) ha.1]
  funext j; rw [wyA, su_ne _ _ (Or.inl ha.2)]
theorem whL_ne {τ : Sg} (hT : TW (τ 224)) {a : Nat} (ha : a ≠ 224 ∧ a ≠ 230) : ∀ n : Nat, ((n : Nat) : Int) ≤ τ 224 4 → (nWhL τ n).2 a = τ a := by
  intro n
  induction n with
  | zero => intro _; rfl
  | succ n ih =>
    intro hn
    obtain ⟨t1, t2⟩ := TW_wh hT n (by omega)
    rw [show (nWhL τ (n + 1)).2 = nWy (nWhL τ n).2 ((n : Nat) : Int) from rfl, wy_ne t1 (by omega) (by omega) ha]
    exact ih (by omega)
theorem al_whole (h : Rel σ τ) : Al none [] (mMk σ 4).1 (nWh τ).1 (mMk σ 4).2 σ (nWh τ).2 := by
  have h0 := h.t0
  have hS := h0.tw.sacks
  obtain ⟨m1, m2, m3⟩ := mMk_alike h0.tw h0.kw h0.mr
  obtain ⟨t1, t2⟩ := TW_wh h0.tw (nT0 τ 224 4).toNat (by omega)
  have e : ∀ {a : Nat}, (a ≠ 224 ∧ a ≠ 230) → (nWhL (nT0 τ) (nT0 τ 224 4).toNat).2 a = nT0 τ a := fun {a} ha => whL_ne h0.tw ha _ (by omega)
  refine Al.no _ ?_ m1 (h0.now (Or.inl (mMk_off σ 4)) (fun j hj => ?_) (fun a ha => ?_) ⟨m2, t1, m3, ?_⟩)
  · show (nWhL (nT0 τ) (nT0 τ 224 4).toNat).2 223 5 = 0
    rw [e (by decide)]; exact thr_5 τ 0
  · show (nWhL (nT0 τ) (nT0 τ 224 4).toNat).2 223 j = _
    rw [e (by decide)]
  · show (nWhL (nT0 τ) (nT0 τ 224 4).toNat).2 a = _
    rw [e (by omega)]
  · show (nWhL (nT0 τ) (nT0 τ 224 4).toNat).2 224 4 ≤ 24
    rw [t2]; exact h0.s24
theorem MR.su6 {m : Nat} {t : Nat → Int} (h : MR σ m t) (v : Int) : MR (su σ m 6 v) m t := by
  obtain ⟨⟨a1, a2, a3, a4, a5⟩, ⟨b1, b2, b3⟩, c, d, e⟩ := h
  refine ⟨⟨?_, ?_, ?_, ?_, ?_⟩, ⟨?_, ?_, fun k hk => ?_⟩, fun k hk => ?_, fun s hs => ?_, fun s i hs hi => ?_⟩
  · rw [su_ne _ _ (Or.inr (by decide))]; exact a1
  · rw [su_ne _ _ (Or.inr (by decide))]; exact a2
  · rw [su_ne _ _ (Or.inr (by decide))]; exact a3
  · rw [su_ne _ _ (Or.inr (by decide))]; exact a4
  · rw [su_ne _ _ (Or.inr (by decide))]; exact a5
  · rw [su_ne _ _ (Or.inl (by omega))]; exact b1
  · rw [su_ne _ _ (Or.inl (by omega))]; exact b2
  · rw [su_ne _ _ (Or.inl (by omega))]; exact b3 k hk
  · rw [su_ne _ _ (Or.inl (by omega))]; exact c k hk
  · rw [su_ne _ _ (Or.inl (by omega)), su_ne _ _ (Or.inl (by omega)), su_ne _ _ (Or.inl (by omega)), su_ne _ _ (Or.inl (by omega)), su_ne _ _ (Or.inl (by omega)), su_ne _ _ (Or.inl (by omega)), su_ne _ _ (Or.inl (by omega))]; exact d s hs
  · rw [su_ne _ _ (Or.inl (by omega))]; exact e s i hs hi
theorem nImS_at (i : Nat) (x : Sg) (n : Nat) (a j : Nat) : itr n (nImS ((i : Nat) : Int)) x a j = if a = 227 ∧ (672 * i ≤ j ∧ j < 672 * i + n) then x 224 (j - 672 * i) else x a j := by
  have key : ∀ n a j, itr n (nImS ((i : Nat) : Int)) x a j = if a = 227 ∧ (672 * i ≤ j ∧ j < 672 * i + n) then x 224 (j - 672 * i) else x a j := by
    intro n
    induction n with
    | zero => intro a j; rw [itr_0, if_neg (by omega)]
    | succ n ih =>
      intro a j
      rw [itr_s, nImS, ih 224 n, if_neg (by omega)]
      by_cases q : a = 227 ∧ j = (672 * ((i : Nat) : Int) + ((n : Nat) : Int)).toNat
      · obtain ⟨rfl, q2⟩ := q
        rw [q2, su_same, if_pos (by omega)]
        congr 1; omega
      · rw [su_ne _ _ (by omega), ih]
        by_cases z : a = 227 ∧ (672 * i ≤ j ∧ j < 672 * i + n)
        · rw [if_pos z, if_pos (by omega)]
        · rw [if_neg z, if_neg (by omega)]
  exact key n a j
theorem nReS_at (i : Nat) (x : Sg) (n : Nat) (a j : Nat) : itr n (nReS ((i : Nat) : Int)) x a j = if a = 224 ∧ j < n then x 227 (672 * i + j) else x a j := by
  have key : ∀ n a j, itr n (nReS ((i : Nat) : Int)) x a j = if a = 224 ∧ j < n then x 227 (672 * i + j) else x a j := by
    intro n
    induction n with
    | zero => intro a j; rw [itr_0, if_neg (by omega)]
    | succ n ih =>
      intro a j
      rw [itr_s, nReS, ih 227 _, if_neg (by omega), show (672 * ((i : Nat) : Int) + ((n : Nat) : Int)).toNat = 672 * i + n by omega]
      by_cases q : a = 224 ∧ j = n
      · obtain ⟨rfl, q2⟩ := q
        rw [q2, su_same, if_pos (by omega)]
      · rw [su_ne _ _ (by omega), ih]
        by_cases z : a = 224 ∧ j < n
        · rw [if_pos z, if_pos (by omega)]
        · rw [if_neg z, if_neg (by omega)]
  exact key n a j
theorem gImg_w (i : Int) : gImg i = if wth i 0 2 = 0 then gNS else none := by
  unfold gImg wth
  by_cases q : 0 ≤ i ∧ i < 3
  · rw [if_pos q, if_pos (show 0 ≤ i ∧ i ≤ 2 by omega), if_neg (by decide)]
  · rw [if_neg q, if_neg (show ¬ (0 ≤ i ∧ i ≤ 2) by omega), if_pos rfl]
theorem al_image (h : Rel σ τ) (i : Int) : Al (gImg i) eN 0 0 (su (mCopy σ (imT i) 4) (imT i) 6 1) σ (nIm τ i 672) := by
  rw [gImg_w]
  unfold nIm nImV
  by_cases q : wth i 0 2 = 0
  · rw [if_pos q, if_pos q, if_pos (show (0 : Int) < 1 by decide)]
    exact Al.th 0 rfl (thr_5 τ 1) (h.thr 1)
  · rw [if_neg q, if_neg q, if_neg (show ¬ (0 : Int) < 0 by decide)]
    have hi := wth_1 q
    obtain ⟨t, rfl⟩ : ∃ t : Nat, i = ((t : Nat) : Int) := ⟨i.toNat, by omega⟩
    rw [imT_t]
    have hap : 4 + 22 ≤ 157 + 22 * t ∨ 157 + 22 * t + 22 ≤ 4 := Or.inl (by omega)
    have hM := MR_copy (σ := σ) (m := 157 + 22 * t) (f := 4) hap h.tw h.mr
    have hof := mCopy_off σ (m := 157 + 22 * t) (f := 4) hap
    have g := nImS_at t (su (nThr τ 0) 228 ((t : Nat) : Int).toNat 1) 672
    have x : ∀ a j, su (nThr τ 0) 228 ((t : Nat) : Int).toNat 1 a j = if a = 228 ∧ j = t then 1 else if a = 223 ∧ j = 5 then 0 else τ a j := fun a j => rfl
    generalize su (nThr τ 0) 228 ((t : Nat) : Int).toNat 1 = y0 at g x ⊢
    generalize itr 672 (nImS ((t : Nat) : Int)) y0 = y at g ⊢
    generalize mCopy σ (157 + 22 * t) 4 = x1 at hM hof ⊢
    have k224 : ∀ j, y 224 j = τ 224 j := fun j => by rw [g, if_neg (by omega), x, if_neg (by omega), if_neg (by omega)]
    have hr : Eq6 (τ 224) (fun j => y 227 (672 * t + j)) := by
      intro j hj
      show y 227 (672 * t + j) = _
      rw [g, if_pos (by omega), x, if_neg (by omega), if_neg (by omega)]
      congr 1; omega
    have e : ∀ a j, su x1 (157 + 22 * t) 6 1 a j = if a = 157 + 22 * t ∧ j = 6 then 1 else x1 a j := fun a j => rfl
    obtain ⟨⟨a1, a2, a3, a4⟩, ⟨b1, b2, b3, b4⟩, ⟨c1, c2⟩, ⟨d1, d2⟩, e9⟩ := h
    have fo : ∀ a, (a < 157) → ∀ j, su x1 (157 + 22 * t) 6 1 a j = σ a j := fun a ha j => by rw [e, if_neg (by omega)]; exact hof a (by omega) j
    have y223 : ∀ j, j ≠ 5 → y 223 j = τ 223 j := fun j hj => by rw [g, if_neg (by omega), x, if_neg (by omega), if_neg (by omega)]
    have yo : ∀ a, (a = 229 ∨ a = 245 ∨ a = 246 ∨ a = 247) → ∀ j, y a j = τ a j := fun a ha j => by rw [g, if_neg (by omega), x, if_neg (by omega), if_neg (by omega)]
    have y5 : y 223 5 = 0 := by rw [g, if_neg (by omega), x, if_neg (by omega), if_pos ⟨rfl, rfl⟩]
    have y224 : y 224 = τ 224 := funext k224
    refine Al.no _ y5 rfl ⟨⟨?_, by rw [y224]; exact a2, by rw [y224]; exact a3, by rw [y224]; exact a4⟩, ⟨?_, ?_, ?_, fun k hk hk2 => ?_⟩, ⟨?_, ?_⟩, ⟨fun k hk => ?_, fun k hk => ⟨fun q => ?_, fun q => ?_⟩⟩, fun k hk => ⟨?_, fun q => ?_⟩⟩
    · rw [y224]; exact a1.of (fun a h1 h2 j => fo a (by omega) j)
    · rw [fo 1 (by omega), y223 7 (by decide)]; exact b1
    · rw [y223 7 (by decide)]; exact b2
    · rw [y223 7 (by decide)]; exact b3
    · rw [y223 7 (by decide)] at hk2
      rw [fo 2 (by omega), yo 229 (by omega)]; exact b4 k hk hk2
    · rw [fo 3 (by omega), y223 15 (by decide)]; exact c1
    · rw [fo 3 (by omega), y223 16 (by decide)]; exact c2
    · rw [yo 245 (by omega), yo 246 (by omega)]; exact d1 k hk
    · rw [yo 245 (by omega)] at q
      rw [fo _ (by omega)]; exact (d2 k hk).1 q
    · rw [yo 245 (by omega)] at q
      have u := (d2 k hk).2 q
      refine ⟨?_, ?_, fun b hb => ?_⟩
      · rw [fo _ (by omega), yo 245 (by omega)]; exact u.1
      · rw [fo _ (by omega), yo 246 (by omega)]; exact u.2.1
      · rw [fo _ (by omega), yo 247 (by omega)]; exact u.2.2 b hb
    · rw [e, g, if_neg (show ¬ (228 = 227 ∧ _) by omega), x]
      by_cases z : k = t
      · rw [if_pos (by omega), if_pos (by omega)]
      · rw [if_neg (by omega), if_neg (by omega), if_neg (by omega), hof _ (by omega)]; exact (e9 k hk).1
    · by_cases z : k = t
      · rw [z]
        refine ⟨(hM.su6 1).cg a2 hr, TW_cg hr a2, a3.cg a2 hr, ?_⟩
        have := hr 4 (by omega)
        dsimp only at this
        rw [this]; exact a4
      · have q : τ 228 k ≠ 0 := by
          rw [g, if_neg (show ¬ (228 = 227 ∧ _) by omega), x, if_neg (by omega), if_neg (by omega)] at q; exact q
        obtain ⟨u1, u2, u3, u4⟩ := (e9 k hk).2 q
        have er : Eq6 (fun j => τ 227 (672 * k + j)) (fun j => y 227 (672 * k + j)) := by
          intro j hj
          show y 227 (672 * k + j) = τ 227 (672 * k + j)
          rw [g, if_neg (by omega), x, if_neg (by omega), if_neg (by omega)]
        have u1' : MR (su x1 (157 + 22 * t) 6 1) (157 + 22 * k) (fun j => τ 227 (672 * k + j)) := u1.of (fun a h1 h2 j => by rw [e, if_neg (by omega)]; exact hof a (by omega) j)
        refine ⟨u1'.cg u2 er, TW_cg er u2, u3.cg u2 er, ?_⟩
        have := er 4 (by omega)
        dsimp only at this
        rw [this]; exact u4
theorem gRest_w (h : Rel σ τ) (i : Int) : (gRest σ i = some "java/util/NoSuchElementException" ∧ nReV τ i = 1) ∨ (gRest σ i = some "java/lang/IllegalStateException" ∧ nReV τ i = 2) ∨ (gRest σ i = none ∧ nReV τ i = 0 ∧ ∃ t : Nat, t < 3 ∧ i = ((t : Nat) : Int) ∧ τ 228 t ≠ 0) := by
  unfold gRest nReV
  rw [gImg_w]
  by_cases q : wth i 0 2 = 0
  · rw [if_pos q, if_pos q]; exact Or.inl ⟨rfl, rfl⟩
  · rw [if_neg q, if_neg q, Option.none_or]
    have hi := wth_1 q
    obtain ⟨t, rfl⟩ : ∃ t : Nat, i = ((t : Nat) : Int) := ⟨i.toNat, by omega⟩
    have hm := (h.image (i := t) (by omega)).1
    rw [imT_t, show ((t : Nat) : Int).toNat = t from rfl]
    by_cases z : τ 228 t = 0
    · rw [if_pos (hm.mpr z), if_pos z]; exact Or.inr (Or.inl ⟨rfl, rfl⟩)
    · rw [if_neg (fun e => z (hm.mp e)), if_neg z]; exact Or.inr (Or.inr ⟨rfl, rfl, t, by omega, rfl, z⟩)
theorem al_restore (h : Rel σ τ) (i : Int) : Al (gRest σ i) eNS 0 0 (mCopy σ 4 (imT i)) σ (nRe τ i 672) := by
  unfold nRe
  rcases gRest_w h i with ⟨g1, g2⟩ | ⟨g1, g2⟩ | ⟨g1, g2, t, ht, rfl, g3⟩
  · rw [g1, g2, if_pos (show (0 : Int) < 1 by decide)]
    exact Al.th 0 rfl (thr_5 τ 1) (h.thr 1)
  · rw [g1, g2, if_pos (show (0 : Int) < 2 by decide)]
    exact Al.th 1 rfl (thr_5 τ 2) (h.thr 2)
  · rw [g1, g2, if_neg (show ¬ (0 : Int) < 0 by decide), imT_t]
    obtain ⟨u1, u2, u3, u4⟩ := (h.image ht).2 g3
    have hap : 157 + 22 * t + 22 ≤ 4 ∨ 4 + 22 ≤ 157 + 22 * t := Or.inr (by omega)
    have hM := MR_copy (σ := σ) (m := 4) (f := 157 + 22 * t) hap u2 u1
    have hof := mCopy_off σ (m := 4) (f := 157 + 22 * t) hap
    have g := nReS_at t (nThr τ 0) 672
    generalize itr 672 (nReS ((t : Nat) : Int)) (nThr τ 0) = y at g ⊢
    have er : Eq6 (fun j => τ 227 (672 * t + j)) (y 224) := by
      intro j hj
      rw [g, if_pos ⟨rfl, hj⟩]; rfl
    refine Al.no _ ?_ rfl (h.now (Or.inl hof) (fun j hj => ?_) (fun a ha => funext fun j => ?_) ⟨hM.cg u2 er, TW_cg er u2, u3.cg u2 er, ?_⟩)
    · rw [g, if_neg (by omega)]; exact thr_5 τ 0
    · rw [g, if_neg (by omega)]; exact (Ft_thr τ 0).2.1 j hj
    · rw [g, if_neg (by omega)]; exact congrFun ((Ft_thr τ 0).2.2 a ha) j
    · rw [er 4 (by omega)]; exact u4
/-- sums of numbers told -/
def nsum (f : Nat → Int) : Nat → Int
  | 0 => 0
  | n + 1 => nsum f n + f n
theorem nsum_ge {f : Nat → Int} : ∀ n : Nat, (∀ i, i < n → 1 ≤ f i) → ((n : Nat) : Int) ≤ nsum f n := by
  intro n
  induction n with
  | zero => intro _; show (0 : Int) ≤ 0; omega
  | succ n ih =>
    intro h
    have := ih (fun i hi => h i (by omega))
    have := h n (by omega)
    rw [nsum]; omega
theorem nsum_mono {f : Nat → Int} {n : Nat} (h : ∀ i, i < n → 1 ≤ f i) : ∀ k : Nat, k ≤ n → nsum f k ≤ nsum f n := by
  induction n with
  | zero => intro k hk; rw [show k = 0 by omega]; omega
  | succ n ih =>
    intro k hk
    by_cases z : k = n + 1
    · rw [z]; omega
    · have := ih (fun i hi => h i (by omega)) k (by omega)
      have := h n (by omega)
      rw [nsum]; omega
theorem zPs_alike (h : Rel σ τ) {s : Int} (hs : 0 ≤ s ∧ s < τ 224 4) {t : Nat} (ht : t < 4) (hR : TR σ τ t) (h0 : 0 ≤ τ 246 t ∧ τ 246 t ≤ 60) : zPs σ (149 + 2 * t) s ≠ 0 ↔ (1 ≤ τ 246 t ∧ τ 246 t ≤ 8) ∧ (∀ k : Nat, ((k : Nat) : Int) < τ 246 t → 1 ≤ τ 247 (60 * t + k) ∧ τ 247 (60 * t + k) ≤ 99) ∧ nsum (fun k => τ 247 (60 * t + k)) (τ 246 t).toNat = nOf τ s 0 ∧ Bs τ s + τ 246 t ≤ 60 := by
  have hT := h.tw
  have a := sk_at hT h.mr hs.1 hs.2
  have b := hT.of hs.1 hs.2
  have hp := pt_rg hT hs.1 hs.2
  have h60 := hT.p60
  have hy : ∀ k : Nat, k < 60 → yAt σ (149 + 2 * t + 1) ((k : Nat) : Int) = τ 247 (60 * t + k) := fun k hk => by
    unfold yAt; rw [if_pos (by omega), show 149 + 2 * t + 1 = 150 + 2 * t by omega]; exact hR.2.2 k hk
  have key : ∀ n : Nat, ((n : Nat) : Int) ≤ τ 246 t → ((itr n (zPsS σ (149 + 2 * t + 1)) (zPs0 σ (149 + 2 * t) s)).2 ≠ 0 ↔ (1 ≤ τ 246 t ∧ τ 246 t ≤ 8) ∧ ∀ k : Nat, k < n → 1 ≤ τ 247 (60 * t + k) ∧ nsum (fun k => τ 247 (60 * t + k)) (k + 1) ≤ nOf τ s 0) ∧ ((itr n (zPsS σ (149 + 2 * t + 1)) (zPs0 σ (149 + 2 * t) s)).2 ≠ 0 → (itr n (zPsS σ (149 + 2 * t + 1)) (zPs0 σ (149 + 2 * t) s)).1 = nOf τ s 0 - nsum (fun k => τ 247 (60 * t + k)) n) := by
    intro n
    induction n with
    | zero =>
      intro _
      rw [itr_0]
      unfold zPs0
      rw [hR.2.1, show rAt σ 11 60 s = nOf τ s 0 from a.1]
      dsimp only
      refine ⟨?_, fun _ => by show _ = _ - (0 : Int); omega⟩
      by_cases z : 1 ≤ τ 246 t ∧ τ 246 t ≤ 8
      · rw [if_pos z]; exact ⟨fun _ => ⟨z, fun k hk => by omega⟩, fun _ => by decide⟩
      · rw [if_neg z]; exact ⟨fun e => absurd rfl e, fun e => absurd e.1 z⟩
    | succ n ih =>
      intro hn
      obtain ⟨i1, i2⟩ := ih (by omega)
      rw [itr_s]
      generalize itr n (zPsS σ (149 + 2 * t + 1)) (zPs0 σ (149 + 2 * t) s) = x at i1 i2 ⊢
      rw [zPsS, hy n (by omega)]
      have es : nsum (fun k => τ 247 (60 * t + k)) (n + 1) = nsum (fun k => τ 247 (60 * t + k)) n + τ 247 (60 * t + n) := rfl
      by_cases q : x.2 = 0
      · rw [if_pos q]
        refine ⟨⟨fun e => absurd q e, fun e => absurd q (i1.mpr ⟨e.1, fun k hk => e.2 k (by omega)⟩)⟩, fun e => absurd q e⟩
      · obtain ⟨j1, j2⟩ := i1.mp q
        have j3 := i2 q
        have g9 := nsum_ge (f := fun k => τ 247 (60 * t + k)) n (fun i hi => (j2 i hi).1)
        rw [if_neg q, j3]
        by_cases z : 1 ≤ τ 247 (60 * t + n) ∧ τ 247 (60 * t + n) ≤ nOf τ s 0 - nsum (fun k => τ 247 (60 * t + k)) n
        · rw [if_pos z]
          refine ⟨⟨fun _ => ⟨j1, fun k hk => ?_⟩, fun _ => by show (1 : Int) ≠ 0; decide⟩, fun _ => ?_⟩
          · by_cases z2 : k = n
            · rw [z2, es]; exact ⟨z.1, by omega⟩
            · exact j2 k (by omega)
          · show wr (_ - wr _) = _
            rw [wr_id (show okI (τ 247 (60 * t + n)) by unfold okI; omega), wr_id (by unfold okI; omega), es]; omega
        · rw [if_neg z]
          refine ⟨⟨fun e => absurd rfl e, fun e => ?_⟩, fun e => absurd rfl e⟩
          have := e.2 n (by omega)
          rw [es] at this
          exact absurd ⟨this.1, by omega⟩ z
  obtain ⟨k1, k2⟩ := key (τ 246 t).toNat (by omega)
  unfold zPs zPsL
  rw [hR.2.1, mBes_at hT h.mr hs.1 hs.2]
  unfold Bs
  rw [wr_id (by unfold okI; omega)]
  constructor
  · intro e
    by_cases z : (itr (τ 246 t).toNat (zPsS σ (149 + 2 * t + 1)) (zPs0 σ (149 + 2 * t) s)).2 ≠ 0 ∧ (itr (τ 246 t).toNat (zPsS σ (149 + 2 * t + 1)) (zPs0 σ (149 + 2 * t) s)).1 = 0 ∧ τ 224 668 - nOf τ s 6 + τ 246 t ≤ 60
    · obtain ⟨z1, z2, z3⟩ := z
      obtain ⟨j1, j2⟩ := k1.mp z1
      have j3 := k2 z1
      refine ⟨j1, fun k hk => ?_, by omega, z3⟩
      have u := j2 k (by omega)
      have g9 := nsum_ge (f := fun k => τ 247 (60 * t + k)) k (fun i hi => (j2 i (by omega)).1)
      have es : nsum (fun k => τ 247 (60 * t + k)) (k + 1) = nsum (fun k => τ 247 (60 * t + k)) k + τ 247 (60 * t + k) := rfl
      omega
    · rw [if_neg z] at e; exact absurd rfl e
  · intro ⟨e1, e2, e3, e4⟩
    have z1 : (itr (τ 246 t).toNat (zPsS σ (149 + 2 * t + 1)) (zPs0 σ (149 + 2 * t) s)).2 ≠ 0 := k1.mpr ⟨e1, fun k hk => ⟨(e2 k (by omega)).1, by
      have := nsum_mono (f := fun k => τ 247 (60 * t + k)) (n := (τ 246 t).toNat) (fun i hi => (e2 i (by omega)).1) (k + 1) (by omega)
      omega⟩⟩
    have j3 := k2 z1
    rw [if_pos ⟨z1, by omega, e4⟩]; decide
theorem gd_alike {τ : Sg} (hT : TW (τ 224)) {s : Int} (hs : 0 ≤ s ∧ s < τ 224 4) {t : Nat} (ht : t < 4) (h0 : 0 ≤ τ 246 t ∧ τ 246 t ≤ 60) : ¬ ((gd τ s ((t : Nat) : Int)).1 = 0 ∨ (gd τ s ((t : Nat) : Int)).2.1 ≠ nOf (gd τ s ((t : Nat) : Int)).2.2 s 0) ↔ (1 ≤ τ 246 t ∧ τ 246 t ≤ 8) ∧ (∀ k : Nat, ((k : Nat) : Int) < τ 246 t → 1 ≤ τ 247 (60 * t + k) ∧ τ 247 (60 * t + k) ≤ 99) ∧ nsum (fun k => τ 247 (60 * t + k)) (τ 246 t).toNat = nOf τ s 0 ∧ Bs τ s + τ 246 t ≤ 60 := by
  have e9 : ∀ k : Nat, (60 * ((t : Nat) : Int) + ((k : Nat) : Int)).toNat = 60 * t + k := fun k => by omega
  have et : ((t : Nat) : Int).toNat = t := rfl
  have hp := pt_rg hT hs.1 hs.2
  have h60 := hT.p60
  have key : ∀ n : Nat, ((n : Nat) : Int) ≤ τ 246 t → ((gdL τ s ((t : Nat) : Int) n).1 ≠ 0 ↔ ((1 ≤ τ 246 t ∧ τ 246 t ≤ 8) ∧ Bs τ s + τ 246 t ≤ 60) ∧ ∀ k : Nat, k < n → 1 ≤ τ 247 (60 * t + k) ∧ τ 247 (60 * t + k) ≤ 99) ∧ ((gdL τ s ((t : Nat) : Int) n).1 ≠ 0 → (gdL τ s ((t : Nat) : Int) n).2.1 = nsum (fun k => τ 247 (60 * t + k)) n ∧ nsum (fun k => τ 247 (60 * t + k)) n ≤ 99 * ((n : Nat) : Int)) := by
    intro n
    induction n with
    | zero =>
      intro _
      refine ⟨?_, fun _ => ⟨rfl, by show (0 : Int) ≤ 0; omega⟩⟩
      show gd0 τ s ((t : Nat) : Int) ≠ 0 ↔ _
      unfold gd0 Bs
      rw [et, wr_id (show okI (τ 224 668 - nOf τ s 6) by unfold okI; omega), wr_id (by unfold okI; omega)]
      by_cases z : wth (τ 246 t) 1 8 ≠ 0 ∧ τ 224 668 - nOf τ s 6 + τ 246 t ≤ 60
      · rw [if_pos z]
        have := wth_1 z.1
        exact ⟨fun _ => ⟨⟨this, z.2⟩, fun k hk => by omega⟩, fun _ => by decide⟩
      · rw [if_neg z]
        refine ⟨fun e => absurd rfl e, fun e => absurd ⟨?_, e.1.2⟩ z⟩
        unfold wth; rw [if_pos e.1.1]; decide
    | succ n ih =>
      intro hn
      obtain ⟨i1, i2⟩ := ih (by omega)
      have e247 : (gdL τ s ((t : Nat) : Int) n).2.2 247 = τ 247 := gdL_ne τ s _ n (by decide)
      have es : nsum (fun k => τ 247 (60 * t + k)) (n + 1) = nsum (fun k => τ 247 (60 * t + k)) n + τ 247 (60 * t + n) := rfl
      rw [gdL_s, gdS]
      by_cases q : (gdL τ s ((t : Nat) : Int) n).1 = 0
      · rw [if_pos q]
        exact ⟨⟨fun e => absurd q e, fun e => absurd q (i1.mpr ⟨e.1, fun k hk => e.2 k (by omega)⟩)⟩, fun e => absurd q e⟩
      · obtain ⟨j1, j2⟩ := i1.mp q
        obtain ⟨j3, j4⟩ := i2 q
        have g9 := nsum_ge (f := fun k => τ 247 (60 * t + k)) n (fun i hi => (j2 i hi).1)
        rw [if_neg q, e247, e9, j3]
        by_cases z : 1 ≤ τ 247 (60 * t + n) ∧ τ 247 (60 * t + n) ≤ 99
        · refine ⟨⟨fun _ => ⟨j1, fun k hk => ?_⟩, fun _ => ?_⟩, fun _ => ⟨?_, by rw [es]; omega⟩⟩
          · by_cases z2 : k = n
            · rw [z2]; exact z
            · exact j2 k (by omega)
          · show wth _ 1 99 ≠ 0
            unfold wth; rw [if_pos z]; decide
          · show wl (_ + wr _) = _
            rw [wr_id (by unfold okI; omega), wl_id (by unfold okJ; omega), es]
        · have zz : wth (τ 247 (60 * t + n)) 1 99 = 0 := by unfold wth; rw [if_neg z]
          refine ⟨⟨fun e => absurd zz e, fun e => absurd (e.2 n (by omega)) z⟩, fun e => absurd zz e⟩
  obtain ⟨k1, k2⟩ := key (τ 246 t).toNat (by omega)
  have eG : gd τ s ((t : Nat) : Int) = gdL τ s ((t : Nat) : Int) (τ 246 t).toNat := rfl
  have e224 : (gdL τ s ((t : Nat) : Int) (τ 246 t).toNat).2.2 224 = τ 224 := gdL_ne τ s _ _ (by decide)
  rw [eG, nOf_of e224]
  constructor
  · intro e
    have z1 : (gdL τ s ((t : Nat) : Int) (τ 246 t).toNat).1 ≠ 0 := fun q => e (Or.inl q)
    obtain ⟨j1, j2⟩ := k1.mp z1
    have j3 := (k2 z1).1
    refine ⟨j1.1, fun k hk => j2 k (by omega), ?_, j1.2⟩
    rw [← j3]
    exact Decidable.byContradiction fun q => e (Or.inr q)
  · intro ⟨e1, e2, e3, e4⟩ e
    have z1 : (gdL τ s ((t : Nat) : Int) (τ 246 t).toNat).1 ≠ 0 := k1.mpr ⟨⟨e1, e4⟩, fun k hk => e2 k (by omega)⟩
    have j3 := (k2 z1).1
    rcases e with e | e
    · exact z1 e
    · exact e (by rw [j3]; exact e3)
theorem zTold_at {t : Nat} (hR : TR σ τ t) : ∀ n : Nat, n ≤ 60 → (∀ k : Nat, k < n → 1 ≤ τ 247 (60 * t + k) ∧ τ 247 (60 * t + k) ≤ 99) → (∀ k : Nat, k < n → itr n (zToS (149 + 2 * t + 1)) σ 144 k = τ 247 (60 * t + k)) ∧ ∀ a, a ≠ 144 → ∀ j, itr n (zToS (149 + 2 * t + 1)) σ a j = σ a j := by
  intro n
  induction n with
  | zero => intro _ _; exact ⟨fun k hk => by omega, fun a _ j => rfl⟩
  | succ n ih =>
    intro hn h
    obtain ⟨i1, i2⟩ := ih (by omega) (fun k hk => h k (by omega))
    rw [itr_s]
    have hh := h n (by omega)
    have ht := hR.2.2 n (by omega)
    have hy : yAt (itr n (zToS (149 + 2 * t + 1)) σ) (149 + 2 * t + 1) ((n : Nat) : Int) = τ 247 (60 * t + n) := by
      unfold yAt
      rw [if_pos (by omega), show 149 + 2 * t + 1 = 150 + 2 * t by omega, show ((n : Nat) : Int).toNat = n from rfl]
      by_cases z : 150 + 2 * t = 144
      · omega
      · rw [show 149 + 2 * t + 1 = 150 + 2 * t by omega] at i2
        rw [i2 _ z]; exact ht
    refine ⟨fun k hk => ?_, fun a ha j => ?_⟩
    · rw [zToS, hy, wr_id (by unfold okI; omega), rPut_at (by omega) (by omega)]
      by_cases z : k = n
      · rw [if_pos ⟨rfl, z⟩, z]
      · rw [if_neg (fun e => z e.2)]; exact i1 k (by omega)
    · rw [zToS, rPut_ne ha]; exact i2 a ha j
theorem al_part (h : Rel σ τ) (s i : Int) : Al (gPart σ s i) eNSI (mPcs (zPart σ s (trT i)) 4) (nPr τ s i).1 (zPart σ s (trT i)) σ (nPr τ s i).2 := by
  unfold gPart nPr
  rw [h.sack]
  by_cases q : nIsS τ s = 0
  · have e : ptV τ s i = 1 := by unfold ptV; rw [if_pos (Or.inl q)]
    rw [if_pos q, e, if_pos (show (0 : Int) < 1 by decide)]
    exact Al.th 0 rfl (thr_5 τ 1) (h.thr 1)
  · rw [if_neg q, Option.none_or]
    have hs := (isS_1 h.tw).mp q
    rcases h.full i with ⟨g1, g2⟩ | ⟨g1, g2⟩ | ⟨g1, g2, t, ht, rfl, hR, h0, h1, h2, h3⟩
    · have e : ptV τ s i = 1 := by
        unfold ptV
        unfold nTf at g2
        by_cases z : wth i 0 3 = 0
        · rw [if_pos (Or.inr z)]
        · rw [if_neg z] at g2; split at g2 <;> omega
      rw [g1, e, if_pos (show (0 : Int) < 1 by decide)]
      exact Al.th 0 rfl (thr_5 τ 1) (h.thr 1)
    · have e : ptV τ s i = 2 := by
        unfold ptV
        unfold nTf at g2
        by_cases z : wth i 0 3 = 0
        · rw [if_pos z] at g2; omega
        · rw [if_neg z] at g2
          by_cases z2 : τ 245 i.toNat = -1
          · rw [if_neg (fun e => by rcases e with e | e; exact q e; exact z e), if_pos z2]
          · rw [if_neg z2] at g2; omega
      rw [g1, e, if_pos (show (0 : Int) < 2 by decide)]
      exact Al.th 1 rfl (thr_5 τ 2) (h.thr 2)
    · have e : ptV τ s ((t : Nat) : Int) = 0 := by
        unfold ptV
        rw [if_neg, if_neg]
        · show τ 245 t ≠ -1; omega
        · intro e
          rcases e with e | e
          · exact q e
          · unfold wth at e; rw [if_pos (by omega)] at e; omega
      rw [g1, e, if_neg (show ¬ (0 : Int) < 0 by decide), Option.none_or, trT_t]
      have a := zPs_alike h hs ht hR ⟨h0, h1⟩
      have b := gd_alike (τ := nThr τ 0) h.tw hs ht ⟨h0, h1⟩
      have hab : zPs σ (149 + 2 * t) s ≠ 0 ↔ ¬ ((gd (nThr τ 0) s ((t : Nat) : Int)).1 = 0 ∨ (gd (nThr τ 0) s ((t : Nat) : Int)).2.1 ≠ nOf (gd (nThr τ 0) s ((t : Nat) : Int)).2.2 s 0) := a.trans b.symm
      unfold nPrA
      by_cases z : zPs σ (149 + 2 * t) s = 0
      · rw [if_pos z, if_pos (Decidable.byContradiction fun e => (hab.mpr e) z)]
        refine Al.th 2 rfl (thr_5 (gd (nThr τ 0) s ((t : Nat) : Int)).2.2 3) (((h.thr 0).fr (Fz.rf σ) ?_).thr 3)
        refine ⟨fun j _ => ?_, fun j hj => ?_, fun c hc => ?_⟩
        · rw [show (gd (nThr τ 0) s ((t : Nat) : Int)).2.2 224 = nThr τ 0 224 from gdL_ne _ _ _ _ (by decide)]
        · rw [show (gd (nThr τ 0) s ((t : Nat) : Int)).2.2 223 = nThr τ 0 223 from gdL_ne _ _ _ _ (by decide)]
        · exact gdL_ne _ _ _ _ (by omega)
      · rw [if_neg z, if_neg (hab.mp z)]
        obtain ⟨p1, p2, p3, p4⟩ := a.mp z
        have hne : (gd (nThr τ 0) s ((t : Nat) : Int)).1 ≠ 0 := fun e => hab.mp z (Or.inl e)
        have hg := gdL_1 (σ := nThr τ 0) h.tw hs.1 hs.2 (t := ((t : Nat) : Int)) ⟨h0, h1⟩ _ hne
        have e224 : (gd (nThr τ 0) s ((t : Nat) : Int)).2.2 224 = τ 224 := gdL_ne _ _ _ _ (by decide)
        have e223 : (gd (nThr τ 0) s ((t : Nat) : Int)).2.2 223 = nThr τ 0 223 := gdL_ne _ _ _ _ (by decide)
        have eo : ∀ c, c ≠ 230 → (gd (nThr τ 0) s ((t : Nat) : Int)).2.2 c = nThr τ 0 c := fun c hc => gdL_ne _ _ _ _ hc
        have el : ∀ k : Nat, ((k : Nat) : Int) < τ 246 t → (gd (nThr τ 0) s ((t : Nat) : Int)).2.2 230 k = τ 247 (60 * t + k) := fun k hk => by
          have := (hg.2.2 k (by show k < (τ 246 t).toNat; omega)).1
          rw [show (60 * ((t : Nat) : Int) + ((k : Nat) : Int)).toNat = 60 * t + k by omega] at this
          exact this
        have e246 : nThr τ 0 246 ((t : Nat) : Int).toNat = τ 246 t := rfl
        rw [e246]
        generalize (gd (nThr τ 0) s ((t : Nat) : Int)).2.2 = y at e224 e223 eo el ⊢
        have hTy : TW (y 224) := by rw [e224]; exact h.tw
        have hpp : y 224 668 - nOf y s 6 + τ 246 t ≤ 60 := by rw [nOf_of e224, e224]; exact p4
        have hs4 : s < y 224 4 := by rw [e224]; exact hs.2
        unfold zPart zTold
        rw [hR.2.1]
        obtain ⟨w1, w2⟩ := zTold_at hR (τ 246 t).toNat (by omega) (fun k hk => p2 k (by omega))
        generalize itr (τ 246 t).toNat (zToS (149 + 2 * t + 1)) σ = v at w1 w2 ⊢
        have hv2 : v (149 + 2 * t) 2 = τ 246 t := by rw [w2 _ (by omega)]; exact hR.2.1
        rw [hv2]
        have hMv : MR v 4 (y 224) := by rw [e224]; exact h.mr.of (fun c h1 h2 j => w2 c (by omega) j)
        have hM := MR_way (σ := v) (τ := y) (m := 4) (w := 144) (n := 60) hTy hMv (Or.inr (by decide)) hs.1 hs4 p1 hpp (fun k hk => by rw [rAt_nt (by omega), w1 k (by omega), el k hk])
        have hTp := TW_pts hTy hs.1 hs4 p1 hpp (fun k hk => by rw [el k hk]; exact p2 k hk)
        have hKp := KW_pts hTy (by rw [e224]; exact h.kw) hs.1 hs4 p1 hpp
        refine Al.no _ ?_ (mPcs_at hTp hM) (h.now (Or.inr (fun c hc j => ?_)) (fun j hj => ?_) (fun c hc => ?_) ⟨hM, hTp, hKp, ?_⟩)
        · show nPts y s (τ 246 t) 223 5 = 0
          rw [nPts_ne hTy hs.1 hs4 p1 hpp (by decide), e223]; exact thr_5 τ 0
        · rw [mWay_ne _ _ _ _ _ _ (by omega) (by omega)]; exact w2 c (by omega) j
        · show nPts y s (τ 246 t) 223 j = τ 223 j
          rw [nPts_ne hTy hs.1 hs4 p1 hpp (by decide), e223]; exact (Ft_thr τ 0).2.1 j hj
        · show nPts y s (τ 246 t) c = τ c
          rw [nPts_ne hTy hs.1 hs4 p1 hpp (by omega), eo c (by omega)]; exact (Ft_thr τ 0).2.2 c hc
        · show nPts y s (τ 246 t) 224 4 ≤ 24
          rw [nPts_4 hTy hs.1 hs4 p1 hpp, e224]; exact h.s24
end AL
