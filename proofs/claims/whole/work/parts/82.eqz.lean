/-! ALIKE, 13: laws of one key, lending, strangers -/
section AL
variable {σ τ : Sg}
theorem RD.cost2 {x : Sg} {r m : Nat} {u v : Sg} (h : RD x r m u) (k : RD x r m v) : nCo u = nCo v := h.cost.symm.trans k.cost
theorem trial_mr (h : Rel σ τ) : MR (mCopy σ 74 4) 74 (τ 224) := MR_copy (Or.inl (by decide)) h.tw h.mr
theorem trial_fz (σ : Sg) : Fz σ (mCopy σ 74 4) := (mCopy_off σ (m := 74) (f := 4) (Or.inl (by decide))).fr (by decide) (by decide)
theorem lAdd_off (σ : Sg) (key : Int) : off 74 96 σ (lAdd (su σ 75 1 0) 75 key) := by
  intro a ha j
  unfold lAdd
  rw [su_ne _ _ (Or.inl (by omega)), rPut_ne (by omega), su_ne _ _ (Or.inl (by omega))]
theorem Ft_cb (τ : Sg) (key : Int) : Ft τ (cbY τ key) := by
  have h5 : ∀ j, j ≠ 27 ∧ j ≠ 28 → cbY τ key 223 j = τ 223 j := fun j hj => by
    rw [cbY, nCp_ne _ (by decide) (by decide), nRu_223 _ hj, cb2, su_ne _ _ (Or.inl (by decide)), su_ne _ _ (Or.inl (by decide)), nCp_ne _ (by decide) (by decide)]
  refine ⟨cbY_6 key, fun j hj => h5 j (by omega), fun a ha => ?_⟩
  by_cases z : 239 < a
  · exact cbY_ne τ key (Or.inr z)
  · rw [cbY, nCp_ne _ (by decide) (by omega), nRu_ne _ (by omega)]
    funext j
    rw [cb2, su_ne _ _ (Or.inl (by omega)), su_ne _ _ (Or.inl (by omega)), nCp_ne _ (by decide) (by omega)]
theorem cbY_5 (τ : Sg) (key : Int) : cbY τ key 223 5 = τ 223 5 := by
  rw [cbY, nCp_ne _ (by decide) (by decide), nRu_223 _ (by decide), cb2, su_ne _ _ (Or.inl (by decide)), su_ne _ _ (Or.inl (by decide)), nCp_ne _ (by decide) (by decide)]
/-- a run by one key: alike -/
theorem rb_alike (h : Rel σ τ) {key : Int} (hk : 0 ≤ key ∧ key ≤ 7) : RD (zRb σ key) 96 74 (nRu (cb2 τ key)) ∧ Fz σ (zRb σ key) := by
  have hM := MR_key (m := 74) h.tw (trial_mr h) key
  refine ⟨RD.go (by decide) (TW_key h.tw key) (KW_key key hk) hM, ?_⟩
  exact (trial_fz σ).trans (((lAdd_off (mCopy σ 74 4) key).fr (by decide) (by decide)).trans ((go_off _).fr (by decide) (by decide)))
theorem rb_cost (h : Rel σ τ) {key : Int} (hk : 0 ≤ key ∧ key ≤ 7) : coF (zRb σ key) 96 74 = cbV τ key := (rb_alike h hk).1.cost
theorem al_by (h : Rel σ τ) (key : Int) : Al (gPerson key) eI (coF (zRb σ key) 96 74) (nByO τ key).1 (zRb σ key) σ (nByO τ key).2 := by
  unfold nByO gPerson byV wth
  by_cases z : 0 ≤ key ∧ key < 8
  · rw [if_pos z, if_pos (show 0 ≤ key ∧ key ≤ 7 by omega), if_neg (show ¬ (1 : Int) = 0 by decide), if_neg (show ¬ (0 : Int) < 0 by decide)]
    have h0 := h.thr 0
    have hc := rb_cost h0 (key := key) (by omega)
    have h5 : cbY (nThr τ 0) key 223 5 = 0 := by rw [cbY_5]; exact thr_5 τ 0
    have hR := h0.fr (rb_alike h0 (key := key) (by omega)).2 (Ft_cb (nThr τ 0) key)
    generalize cbY (nThr τ 0) key = w at h5 hR
    generalize cbV (nThr τ 0) key = v at hc
    exact Al.no _ h5 hc hR
  · rw [if_neg z, if_neg (show ¬ (0 ≤ key ∧ key ≤ 7) by omega), if_pos rfl, if_pos (show (0 : Int) < 1 by decide)]
    exact Al.th 0 rfl (thr_5 τ 1) (h.thr 1)
/-! lending -/
theorem mWhole_two {x : Sg} {m : Nat} {s t : Nat} (hs : s < 60) (ht : t < 60) (hst : s ≠ t) (a b : Int) : ∀ c j : Nat, mWhole (mWhole (rPut (rPut x (m + 7) 60 ((s : Nat) : Int) a) (m + 7) 60 ((t : Nat) : Int) b) m ((s : Nat) : Int) a) m ((t : Nat) : Int) b c j = mWhole (mWhole x m ((s : Nat) : Int) a) m ((t : Nat) : Int) b c j := by
  intro c j
  rw [mWhole_at _ m ht, mWhole_at _ m hs, mWhole_at _ m ht, mWhole_at _ m hs, rPut_at (by omega) (by omega), rPut_at (by omega) (by omega)]
  show _ = _
  (repeat' split) <;> first | rfl | (exfalso; omega)
theorem lend_mr (h : Rel σ τ) {s t n : Int} (hs : 0 ≤ s ∧ s < τ 224 4) (ht : 0 ≤ t ∧ t < τ 224 4) (hst : s ≠ t) (hn : 1 ≤ n ∧ n < nOf τ s 0 ∧ nOf τ t 0 + n ≤ 99) : MR (mWhole (mWhole (mCopy σ 74 4) 74 s (nOf τ s 0 - n)) 74 t (nOf τ t 0 + n)) 74 (ld6 τ s t n 224) ∧ KW (ld6 τ s t n 224) := by
  have hT := h.tw
  have hS := hT.sacks
  obtain ⟨⟨c3, c3b⟩, ⟨c4, c4b⟩, ⟨c5, c5b⟩, ⟨c6, c6b⟩, c7⟩ := ld_kp hT hs ht hst hn
  have e1 := ld1_224 hT
  have b1 := hT.of hs.1 hs.2
  have b2 := hT.of ht.1 ht.2
  obtain ⟨k, rfl⟩ : ∃ k : Nat, s = ((k : Nat) : Int) := ⟨s.toNat, by omega⟩
  obtain ⟨l, rfl⟩ : ∃ l : Nat, t = ((l : Nat) : Int) := ⟨t.toNat, by omega⟩
  have hM := trial_mr h
  have hM1 : MR (mCopy σ 74 4) 74 (ld1 τ 224) := by rw [e1]; exact hM
  have hM3 : MR (rPut (mCopy σ 74 4) (74 + 7) 60 ((k : Nat) : Int) (nOf τ ((k : Nat) : Int) 0 - n)) 74 (ld3 τ ((k : Nat) : Int) n 224) := MR_set (τ := ld1 τ) (by rw [e1]; exact hT) hM1 hs.1 (by rw [e1]; exact hs.2) (Or.inl rfl) (fun a j ha1 ha2 => by
    rw [rPut_at (by omega) (by omega)]
    by_cases q : a = 74 + 7 ∧ j = k
    · rw [if_pos (show a = 74 + 7 ∧ j = ((k : Nat) : Int).toNat by omega), if_pos (by omega)]
    · rw [if_neg (show ¬ (a = 74 + 7 ∧ j = ((k : Nat) : Int).toNat) by omega), if_neg (by omega)])
  have hM4 : MR (rPut (rPut (mCopy σ 74 4) (74 + 7) 60 ((k : Nat) : Int) (nOf τ ((k : Nat) : Int) 0 - n)) (74 + 7) 60 ((l : Nat) : Int) (nOf τ ((l : Nat) : Int) 0 + n)) 74 (ld4 τ ((k : Nat) : Int) ((l : Nat) : Int) n 224) := MR_set (τ := ld3 τ ((k : Nat) : Int) n) c3 hM3 ht.1 (by rw [c3b]; exact ht.2) (Or.inl rfl) (fun a j ha1 ha2 => by
    rw [rPut_at (by omega) (by omega)]
    by_cases q : a = 74 + 7 ∧ j = l
    · rw [if_pos (show a = 74 + 7 ∧ j = ((l : Nat) : Int).toNat by omega), if_pos (by omega)]
    · rw [if_neg (show ¬ (a = 74 + 7 ∧ j = ((l : Nat) : Int).toNat) by omega), if_neg (by omega)])
  have v1 : nOf (ld4 τ ((k : Nat) : Int) ((l : Nat) : Int) n) ((k : Nat) : Int) 0 = nOf τ ((k : Nat) : Int) 0 - n := by
    unfold nOf ld4 ld3 nSets
    rw [su_ne _ _ (Or.inr (by omega)), su_same]; rfl
  have hM5 := MR_wholly (m := 74) c4 hM4 hs.1 (by rw [c4b]; exact hs.2)
  rw [v1] at hM5
  have v2 : nOf (nWy (ld4 τ ((k : Nat) : Int) ((l : Nat) : Int) n) ((k : Nat) : Int)) ((l : Nat) : Int) 0 = nOf τ ((l : Nat) : Int) 0 + n := by
    have hp := wy_p c4 (s := ((k : Nat) : Int)) hs.1 (by rw [c4b]; exact hs.2)
    unfold nOf
    rw [nWy, nPts_lo (σ := wyA (ld4 τ ((k : Nat) : Int) ((l : Nat) : Int) n) ((k : Nat) : Int)) c4 hs.1 (by show _ < ld4 τ ((k : Nat) : Int) ((l : Nat) : Int) n 224 4; rw [c4b]; exact hs.2) (by omega) hp (by omega), if_neg (by omega)]
    show ld4 τ ((k : Nat) : Int) ((l : Nat) : Int) n 224 (20 + 7 * ((l : Nat) : Int) + 0).toNat = _
    unfold ld4 nSets
    rw [su_same]; rfl
  have hM6 := MR_wholly (m := 74) c5 hM5 ht.1 (by rw [c5b]; exact ht.2)
  rw [v2] at hM6
  refine ⟨hM6.of (fun a _ _ j => (mWhole_two (by omega) (by omega) (by omega) _ _ a j).symm), ?_⟩
  have k4 : KW (ld4 τ ((k : Nat) : Int) ((l : Nat) : Int) n 224) := KW_sets (τ := ld3 τ ((k : Nat) : Int) n) c3 (KW_sets (τ := ld1 τ) (by rw [e1]; exact hT) (by rw [e1]; exact h.kw) hs.1 (by decide)) ht.1 (by decide)
  exact KW_wy c5 (KW_wy c4 k4 hs.1 (by rw [c4b]; exact hs.2)) ht.1 (by rw [c5b]; exact ht.2)
theorem ld_ne {x : Sg} (hT : TW (x 224)) {s t n : Int} (hs : 0 ≤ s ∧ s < x 224 4) (ht : 0 ≤ t ∧ t < x 224 4) (hst : s ≠ t) (hn : 1 ≤ n ∧ n < nOf x s 0 ∧ nOf x t 0 + n ≤ 99) {a : Nat} (ha : a ≠ 224 ∧ a ≠ 230) : ld6 x s t n a = ld1 x a := by
  obtain ⟨⟨c3, c3b⟩, ⟨c4, c4b⟩, ⟨c5, c5b⟩, ⟨c6, c6b⟩, c7⟩ := ld_kp hT hs ht hst hn
  rw [ld6, wy_ne c5 ht.1 (by rw [c5b]; exact ht.2) ha, wy_ne c4 hs.1 (by rw [c4b]; exact hs.2) ha]
  funext j
  unfold ld4 ld3 nSets
  rw [su_ne _ _ (Or.inl ha.1), su_ne _ _ (Or.inl ha.1)]
theorem ld_back {x : Sg} (hT : TW (x 224)) {s t n : Int} (hs : 0 ≤ s ∧ s < x 224 4) (ht : 0 ≤ t ∧ t < x 224 4) (hst : s ≠ t) (hn : 1 ≤ n ∧ n < nOf x s 0 ∧ nOf x t 0 + n ≤ 99) : Ft x (nCp (nRu (ld6 x s t n)) 226 224) ∧ nCp (nRu (ld6 x s t n)) 226 224 223 5 = x 223 5 := by
  have e : ∀ j, (j ≠ 27 ∧ j ≠ 28) → nCp (nRu (ld6 x s t n)) 226 224 223 j = x 223 j := fun j hj => by
    rw [nCp_ne _ (by decide) (by decide), nRu_223 _ hj, ld_ne hT hs ht hst hn (by decide), ld1, nCp_ne _ (by decide) (by decide), nRu_223 _ hj]
  refine ⟨⟨fun j hj => ?_, fun j hj => e j (by omega), fun a ha => ?_⟩, e 5 (by decide)⟩
  · rw [nCp_lo _ (by decide) hj, nRu_ne _ (by omega), ld_ne hT hs ht hst hn (by decide), ld1, nCp_lo _ (by decide) hj, nRu_224 hT]
  · rw [nCp_ne _ (by decide) (by omega), nRu_ne _ (by omega), ld_ne hT hs ht hst hn (by omega), ld1, nCp_ne _ (by decide) (by omega), nRu_ne _ (by omega)]
theorem coF_off {x x' : Sg} {lo hi r m : Nat} (h : off lo hi x x') (hr : r + 25 ≤ lo ∨ hi ≤ r) (hm : m + 22 ≤ lo ∨ hi ≤ m) : coF x' r m = coF x r m := by
  unfold coF
  rw [h m (by omega) 5]
  refine itr_cg _ (fun k y _ => ?_)
  unfold coS uW
  rw [h.at (by omega), h.at (by omega), h.at (by omega)]
theorem mWhole_fz (σ : Sg) (s v : Int) : Fz σ (mWhole σ 74 s v) := (mWhole_off σ 74 s v).fr (by decide) (by decide)
theorem al_lend (h : Rel σ τ) (s t n : Int) : Al (gLend σ s t n) eNSI (wr (coF (zLend σ s t n) 96 74 - coF (zLend σ s t n) 26 4)) (nLd τ s t n).1 (zLend σ s t n) σ (nLd τ s t n).2 := by
  have h0 := h.t0
  unfold gLend nLd
  rw [h.sack, h.sack]
  have eS : ∀ s, nIsS (nT0 τ) s = nIsS τ s := fun s => rfl
  rw [eS, eS]
  by_cases q : nIsS τ s = 0
  · rw [if_pos q, if_pos (Or.inl q)]; exact Al.th 0 rfl (thr_5 (nT0 τ) 1) (h0.thr 1)
  rw [if_neg q, Option.none_or]
  by_cases q2 : nIsS τ t = 0
  · rw [if_pos q2, if_pos (Or.inr q2)]; exact Al.th 0 rfl (thr_5 (nT0 τ) 1) (h0.thr 1)
  rw [if_neg q2, if_neg (show ¬ (nIsS τ s = 0 ∨ nIsS τ t = 0) from fun e => by rcases e with e | e; exact q e; exact q2 e), Option.none_or]
  have hs := (isS_1 h.tw).mp q
  have ht := (isS_1 h.tw).mp q2
  have as := sk_at h.tw h.mr hs.1 hs.2
  have at_ := sk_at h.tw h.mr ht.1 ht.2
  have bs := h.tw.of hs.1 hs.2
  have bt := h.tw.of ht.1 ht.2
  unfold mIsW
  rw [as.2.2.2.2.2.2, at_.2.2.2.2.2.2, show rAt σ 11 60 s = nOf τ s 0 from as.1, show rAt σ 11 60 t = nOf τ t 0 from at_.1, wr_id (show okI (99 - nOf τ t 0) by unfold okI; omega)]
  have eO : ∀ s w, nOf (nT0 τ) s w = nOf τ s w := fun s w => rfl
  rw [eO, eO, eO, eO]
  by_cases z1 : 1 < nOf τ s 6 ∨ 1 < nOf τ t 6
  · rw [if_pos z1, if_pos (by
      rcases z1 with z1 | z1
      · exact Or.inl (if_neg (by omega))
      · exact Or.inr (if_neg (by omega)))]
    exact Al.th 1 rfl (thr_5 (nT0 τ) 2) (h0.thr 2)
  · rw [if_neg z1, if_neg (by
      intro e
      rw [if_pos (by omega), if_pos (by omega)] at e
      rcases e with e | e <;> omega)]
    by_cases z2 : s = t ∨ n < 1 ∨ nOf τ s 0 ≤ n ∨ 99 < nOf τ t 0 + n
    · rw [if_pos z2, if_pos (by omega)]
      exact Al.th 2 rfl (thr_5 (nT0 τ) 3) (h0.thr 3)
    · rw [if_neg z2, if_neg (by omega)]
      have hst : s ≠ t := fun e => z2 (Or.inl e)
      have hn : 1 ≤ n ∧ n < nOf (nT0 τ) s 0 ∧ nOf (nT0 τ) t 0 + n ≤ 99 := by rw [eO, eO]; omega
      obtain ⟨m1, m2⟩ := lend_mr h0 hs ht hst hn
      obtain ⟨⟨c3, c3b⟩, ⟨c4, c4b⟩, ⟨c5, c5b⟩, ⟨c6, c6b⟩, c7⟩ := ld_kp h0.tw hs ht hst hn
      obtain ⟨f1, f2⟩ := ld_back h0.tw hs ht hst hn
      have r1 := RD.go (r := 96) (by decide) c6 m2 m1
      have e1 : rAt σ 11 60 s = nOf τ s 0 := as.1
      have e2 : rAt σ 11 60 t = nOf τ t 0 := at_.1
      unfold zLend
      rw [e1, e2, wr_id (show okI (nOf τ s 0 - n) by unfold okI; omega), wr_id (show okI (nOf τ t 0 + n) by unfold okI; omega)]
      rw [eO, eO] at m1
      rw [eO, eO] at r1
      have fx : Fz σ (go (mWhole (mWhole (mCopy σ 74 4) 74 s (nOf τ s 0 - n)) 74 t (nOf τ t 0 + n)) 96 74) := (trial_fz σ).trans ((mWhole_fz _ _ _).trans ((mWhole_fz _ _ _).trans ((go_off _).fr (by decide) (by decide))))
      generalize go (mWhole (mWhole (mCopy σ 74 4) 74 s (nOf τ s 0 - n)) 74 t (nOf τ t 0 + n)) 96 74 = x at r1 fx ⊢
      have hx := h.fr fx (Ft.rf τ)
      have r2 := (hx.run 0).1
      have e3 : coF (go x 26 4) 96 74 = coF x 96 74 := coF_off (go_off x) (by decide) (by decide)
      have e4 : wr (coF (go x 26 4) 96 74 - coF (go x 26 4) 26 4) = wr (nCo (nRu (ld6 (nT0 τ) s t n)) - nCo (nRu (nT0 τ))) := by
        rw [e3, r1.cost, r2.cost]; rfl
      unfold nLdA
      have hF := (h0.fr fx f1).fr ((go_off (r := 26) (m := 4) x).fr (by decide) (by decide)) (Ft.rf _)
      have f5 := f2.trans (thr_5 τ 0)
      generalize nCp (nRu (ld6 (nT0 τ) s t n)) 226 224 = w at hF f5 ⊢
      generalize wr (nCo (nRu (ld6 (nT0 τ) s t n)) - nCo (nRu (nT0 τ))) = v at e4 ⊢
      exact Al.no _ f5 e4 hF
/-! strangers -/
theorem dyL_f (σ : Sg) (come g : Int) (n : Nat) {j : Nat} (hj : j ≠ 38) : dyL σ come g n 223 j = σ 223 j := by
  induction n with
  | zero => rfl
  | succ n ih =>
    rw [dyL_s, dyS]; split
    · rw [nDrX, su_ne _ _ (Or.inr hj), ih]
    · rw [dyC_ne _ _ _ _ (by decide), nDrX, su_ne _ _ (Or.inr hj), nDrX, su_ne _ _ (Or.inr hj), ih]
theorem mStrS_def (m : Nat) (come g : Int) (minute : Nat) (x : Int × Sg) : mStrS m come g minute x = if wr ((wushr (mDraw x.1) 16).tmod 100) < come ∧ mPcs x.2 m < 60 then (mDraw (mDraw x.1), mSack x.2 m (if 0 < g then wr (wr ((wushr (mDraw (mDraw x.1)) 16).tmod g) + 1) else 1) 7 ((minute : Nat) : Int) 0 1 (-1)) else (mDraw x.1, x.2) := rfl
theorem str_alike {x0 : Sg} (hT : TW (τ 224)) (hK : KW (τ 224)) (hM : MR x0 74 (τ 224)) (seed come : Int) {g : Int} (hg : 1 ≤ g ∧ g ≤ 99) (h38 : τ 223 38 = seed) : ∀ n : Nat, n ≤ 300 → (itr n (mStrS 74 come g) (seed, x0)).1 = dyL τ come g n 223 38 ∧ MR (itr n (mStrS 74 come g) (seed, x0)).2 74 (dyL τ come g n 224) ∧ KW (dyL τ come g n 224) ∧ off 74 96 x0 (itr n (mStrS 74 come g) (seed, x0)).2 := by
  intro n
  induction n with
  | zero => intro _; exact ⟨h38.symm, hM, hK, off.rf _ _ _⟩
  | succ n ih =>
    intro hn
    obtain ⟨i1, i2, i3, i4⟩ := ih (by omega)
    obtain ⟨t1, t2⟩ := dyL_kp hT come hg n (by omega)
    rw [itr_s, dyL_s]
    generalize itr n (mStrS 74 come g) (seed, x0) = y at i1 i2 i4 ⊢
    generalize dyL τ come g n = u at i1 i2 i3 t1 t2 ⊢
    have e1 : mDraw y.1 = nDrX u 223 38 := by unfold mDraw nDrX; rw [su_same, i1]
    have e2 : mPcs y.2 74 = u 224 668 := mPcs_at t1 i2
    have e3 : nDrX u 224 668 = u 224 668 := nDrX_j u 668
    have e4 : wr ((wushr (nDrX u 223 38) 16).tmod 100) = nDr u 100 := rfl
    unfold dyS
    rw [mStrS_def, e1, e2, e3, e4]
    by_cases q : come ≤ nDr u 100 ∨ 60 ≤ u 224 668
    · rw [if_neg (by omega), if_pos q]
      exact ⟨rfl, i2, i3, i4⟩
    · rw [if_pos (by omega), if_neg q]
      have e5 : mDraw (nDrX u 223 38) = nDrX (nDrX u) 223 38 := by
        have : nDrX (nDrX u) 223 38 = wr (wr (1103515245 * nDrX u 223 38) + 12345) := su_same _ _ _ _
        rw [this]; rfl
      rw [e5, if_pos (by omega)]
      have e6 : wr (wr ((wushr (nDrX (nDrX u) 223 38) 16).tmod g) + 1) = dyP g u := rfl
      rw [e6]
      have hs := MR_str (σ := y.2) (τ := nDrX (nDrX u)) (m := 74) t1 i3 i2 (by show u 224 668 < 60; omega) n (dyP g u)
      refine ⟨?_, hs.1, hs.2, ?_⟩
      · show nDrX (nDrX u) 223 38 = dyC _ _ _ _ 223 38
        rw [dyC_ne _ _ _ _ (by decide)]
      · refine i4.trans (fun a ha j => ?_)
        show mSack y.2 74 (dyP g u) 7 ((n : Nat) : Int) 0 1 (-1) a j = y.2 a j
        unfold mSack mWhole
        rw [su_ne _ _ (Or.inl (by omega)), rPut_ne (by omega), rPut_ne (by omega), rPut_ne (by omega), rPut_ne (by omega), rPut_ne (by omega), rPut_ne (by omega), rPut_ne (by omega), rPut_ne (by omega)]
theorem day_alike (h : Rel σ τ) {s : Int} (hs : 0 ≤ s ∧ s < τ 224 4) (seed come : Int) {g : Int} (hg : 1 ≤ g ∧ g ≤ 99) : uW (zDay σ seed come g) 96 74 s = dyV τ s seed come g 300 ∧ Fz σ (zDay σ seed come g) ∧ Ft τ (dyY τ seed come g 300) ∧ dyY τ seed come g 300 223 5 = τ 223 5 := by
  have e0 := dy0_224 τ seed
  have hT0 : TW (dy0 τ seed 224) := by rw [e0]; exact h.tw
  obtain ⟨k1, k2, k3, k4⟩ := str_alike (τ := dy0 τ seed) (x0 := mCopy σ 74 4) hT0 (by rw [e0]; exact h.kw) (by rw [e0]; exact trial_mr h) seed come hg (by unfold dy0; exact su_same _ _ _ _) 300 (Nat.le_refl _)
  obtain ⟨t1, t2⟩ := dyL_kp hT0 come hg 300 (Nat.le_refl _)
  have r1 := RD.go (r := 96) (by decide) t1 k3 k2
  have er := nRu_224 t1
  have e40 : dy0 τ seed 224 4 = τ 224 4 := by rw [e0]
  have e5 : ∀ j, (j ≠ 27 ∧ j ≠ 28 ∧ j ≠ 38) → dyY τ seed come g 300 223 j = τ 223 j := fun j hj => by
    rw [dyY, nCp_ne _ (by decide) (by decide), dyR, nRu_223 _ ⟨hj.1, hj.2.1⟩, dyL_f _ _ _ _ hj.2.2, dy0, su_ne _ _ (Or.inr hj.2.2), nCp_ne _ (by decide) (by decide)]
  refine ⟨?_, ?_, ⟨dyY_6 τ seed come g 300, fun j hj => e5 j (by omega), fun a ha => ?_⟩, e5 5 (by decide)⟩
  · exact r1.wait hs.1 (by rw [er]; omega)
  · exact (trial_fz σ).trans ((k4.fr (by decide) (by decide)).trans ((go_off _).fr (by decide) (by decide)))
  · rw [dyY, nCp_ne _ (by decide) (by omega), dyR, nRu_ne _ (by omega), dyL_ne _ _ _ _ (by omega)]
    funext j
    rw [dy0, su_ne _ _ (Or.inl (by omega)), nCp_ne _ (by decide) (by omega)]
end AL
section AL
variable {σ τ : Sg}
theorem gStr_w (come g : Int) : gStr come g = if nIsD come g ≠ 0 then none else gIA := by
  unfold gStr nIsD wth
  by_cases q : (0 ≤ come ∧ come ≤ 100) ∧ (1 ≤ g ∧ g ≤ 99)
  · rw [if_pos q, if_pos]
    rw [if_pos q.1, if_pos q.2]; decide
  · rw [if_neg q, if_neg]
    by_cases z : 0 ≤ come ∧ come ≤ 100
    · rw [if_pos z, if_neg (show ¬ (1 ≤ g ∧ g ≤ 99) from fun e => q ⟨z, e⟩), if_neg (fun e => e.2 rfl)]; exact fun e => e rfl
    · rw [if_neg z, if_neg (fun e => e.1 rfl)]; exact fun e => e rfl
theorem al_day (h : Rel σ τ) (s seed come g : Int) : Al ((gSack σ s).or (gStr come g)) eNI (uW (zDay σ seed come g) 96 74 s) (nDy τ s seed come g 300).1 (zDay σ seed come g) σ (nDy τ s seed come g 300).2 := by
  rw [h.sack, gStr_w]
  unfold nDy
  by_cases q : nIsS τ s = 0
  · have e : dvV τ s come g = 1 := by unfold dvV; rw [if_pos q]
    rw [if_pos q, e, if_pos (show (0 : Int) < 1 by decide)]
    exact Al.th 0 rfl (thr_5 τ 1) (h.thr 1)
  rw [if_neg q, Option.none_or]
  by_cases z : nIsD come g ≠ 0
  · have e : dvV τ s come g = 0 := by unfold dvV; rw [if_neg q, if_pos z]
    rw [if_pos z, e, if_neg (show ¬ (0 : Int) < 0 by decide)]
    have hs := (isS_1 h.tw).mp q
    obtain ⟨d1, d2, d3, d4⟩ := day_alike (h.thr 0) hs seed come (nIsD_1 z).2
    have hR := (h.thr 0).fr d2 d3
    have h5 := d4.trans (thr_5 τ 0)
    generalize dyY (nThr τ 0) seed come g 300 = w at hR h5 ⊢
    generalize dyV (nThr τ 0) s seed come g 300 = v at d1 ⊢
    exact Al.no _ h5 d1 hR
  · have e : dvV τ s come g = 2 := by unfold dvV; rw [if_neg q, if_neg z]
    rw [if_neg z, e, if_pos (show (0 : Int) < 2 by decide)]
    exact Al.th 1 rfl (thr_5 τ 2) (h.thr 2)
theorem tup3 {a b c : Int} {w w' : Sg} : (a, b, c, w).1 = (a, b, c, w').1 ∧ (a, b, c, w).2.1 = (a, b, c, w').2.1 ∧ (a, b, c, w).2.2.1 = (a, b, c, w').2.2.1 := ⟨rfl, rfl, rfl⟩
theorem days_key {s come g : Int} (h0 : Rel σ (nThr τ 0)) (hs : 0 ≤ s ∧ s < τ 224 4) (hc : 1 ≤ g ∧ g ≤ 99) : ∀ k : Nat, ((itr k (zDs s come g) (-1, -1, 0, σ)).1 = (dsL (nThr τ 0) s come g 300 k).1 ∧ (itr k (zDs s come g) (-1, -1, 0, σ)).2.1 = (dsL (nThr τ 0) s come g 300 k).2.1 ∧ (itr k (zDs s come g) (-1, -1, 0, σ)).2.2.1 = (dsL (nThr τ 0) s come g 300 k).2.2.1) ∧ Rel (itr k (zDs s come g) (-1, -1, 0, σ)).2.2.2 (dsL (nThr τ 0) s come g 300 k).2.2.2 ∧ (dsL (nThr τ 0) s come g 300 k).2.2.2 223 5 = 0 ∧ (dsL (nThr τ 0) s come g 300 k).2.2.2 224 4 = τ 224 4 := by
  intro k
  induction k with
  | zero =>
    have h5 := thr_5 τ 0
    have h4 : nThr τ 0 224 4 = τ 224 4 := rfl
    have z1 : dsL (nThr τ 0) s come g 300 0 = (-1, -1, 0, nThr τ 0) := by unfold dsL; exact itr_0 _ _
    rw [itr_0, z1]
    generalize nThr τ 0 = w at h0 h5 h4 ⊢
    exact ⟨tup3, h0, h5, h4⟩
  | succ k ih =>
    obtain ⟨⟨i1, i2, i3⟩, i4, i5, i6⟩ := ih
    rw [itr_s, dsL_s, zDs, dsS]
    generalize itr k (zDs s come g) (-1, -1, 0, σ) = x at i1 i2 i3 i4 ⊢
    generalize dsL (nThr τ 0) s come g 300 k = y at i1 i2 i3 i4 i5 i6 ⊢
    obtain ⟨d1, d2, d3, d4⟩ := day_alike i4 (s := s) (by rw [i6]; exact hs) (((k : Nat) : Int) + 1) come hc
    have hR := i4.fr d2 d3
    have h5 := d4.trans i5
    have h6 : dyY y.2.2.2 (((k : Nat) : Int) + 1) come g 300 224 4 = τ 224 4 := (d3.1 4 (by omega)).trans i6
    rw [d1, i1, i2, i3]
    generalize dyY y.2.2.2 (((k : Nat) : Int) + 1) come g 300 = w9 at hR h5 h6 ⊢
    generalize dyV y.2.2.2 s (((k : Nat) : Int) + 1) come g 300 = v at d1 ⊢
    generalize zDay x.2.2.2 (((k : Nat) : Int) + 1) come g = w8 at hR ⊢
    by_cases c : y.1 < v
    · rw [if_pos c, if_neg (Int.not_le.mpr c), if_neg (Int.not_le.mpr c)]
      exact ⟨tup3, hR, h5, h6⟩
    · rw [if_neg c, if_pos (Int.not_lt.mp c), if_pos (Int.not_lt.mp c)]
      exact ⟨tup3, hR, h5, h6⟩
theorem days_g {n come g w : Int} (z : ¬ (wth n 1 30 ≠ 0 ∧ nIsD come g ≠ 0 ∧ wth w 0 2 ≠ 0)) : (if 1 ≤ n ∧ n ≤ 30 then none else gIA).or ((if nIsD come g ≠ 0 then none else gIA).or (if wth w 0 2 = 0 then gIA else none)) = gIA := by
  by_cases z1 : 1 ≤ n ∧ n ≤ 30
  · rw [if_pos z1, Option.none_or]
    by_cases z2 : nIsD come g ≠ 0
    · rw [if_pos z2, Option.none_or, if_pos]
      refine Decidable.byContradiction fun e => z ⟨?_, z2, e⟩
      unfold wth; rw [if_pos z1]; decide
    · rw [if_neg z2]; rfl
  · rw [if_neg z1]; rfl
theorem al_days (h : Rel σ τ) (s n come g w : Int) : Al (gDays σ s n come g w) eNI (if w = 0 then (zDays σ s n come g).1 else if w = 1 then (zDays σ s n come g).2.1 else (zDays σ s n come g).2.2.1) (nDs τ s n come g w 300).1 (zDays σ s n come g).2.2.2 σ (nDs τ s n come g w 300).2 := by
  unfold gDays nDs
  rw [h.sack, gStr_w, gWhat_w]
  by_cases q : nIsS τ s = 0
  · have e : dsV τ s n come g w = 1 := by unfold dsV; rw [if_pos q]
    rw [if_pos q, e, if_pos (show (0 : Int) < 1 by decide)]
    exact Al.th 0 rfl (thr_5 τ 1) (h.thr 1)
  rw [if_neg q, Option.none_or]
  by_cases z : wth n 1 30 ≠ 0 ∧ nIsD come g ≠ 0 ∧ wth w 0 2 ≠ 0
  · have e : dsV τ s n come g w = 0 := by unfold dsV; rw [if_neg q, if_pos z]
    have hn := wth_1 z.1
    rw [if_pos hn, Option.none_or, if_pos z.2.1, Option.none_or, if_neg z.2.2, e, if_neg (show ¬ (0 : Int) < 0 by decide)]
    have hs := (isS_1 h.tw).mp q
    have h0 := h.thr 0
    have key := days_key (s := s) (come := come) (g := g) h0 hs (nIsD_1 z.2.1).2
    obtain ⟨⟨k1, k2, k3⟩, k4, k5, _⟩ := key n.toNat
    unfold zDays nDsV
    generalize itr n.toNat (zDs s come g) (-1, -1, 0, σ) = x at k1 k2 k3 k4 ⊢
    generalize dsL (nThr τ 0) s come g 300 n.toNat = y at k1 k2 k3 k4 k5 ⊢
    rw [k1, k2, k3]
    exact Al.no _ k5 rfl k4
  · have e : dsV τ s n come g w = 2 := by unfold dsV; rw [if_neg q, if_neg z]
    rw [e, if_pos (show (0 : Int) < 2 by decide)]
    rw [days_g z]
    exact Al.th 1 rfl (thr_5 τ 2) (h.thr 2)
end AL
