/-! ALIKE, 17: the laws that fit -/
section AL
variable {σ τ : Sg}
/-- no piece stands twice in the run's row -/
def RUq (τ : Sg) : Prop := (∀ i : Nat, ((i : Nat) : Int) < τ 223 27 → 0 ≤ τ 235 i ∧ τ 235 i < τ 224 668 ∧ τ 232 (τ 235 i).toNat ≠ -1) ∧ ∀ i k : Nat, i < k → ((k : Nat) : Int) < τ 223 27 → τ 235 i ≠ τ 235 k
theorem nRu_RUq (hT : TW (τ 224)) : RUq (nRu τ) := by
  refine nRu_P (P := RUq) ?_ hT ?_
  · intro y p st mi hI hR hP h0 h1 h2 h3 hs0 hs1
    have hb := hI.b
    have h6 := hI.1.1.p60
    have hm1 : mi ≤ 100000 := by have := hR.1.2; omega
    have hv := vb_ok hI.1 h0 h1 hs0 hs1 hR.1.1 hm1
    have hm0 := hR.1.1
    have e27 : nBg y p st mi 223 27 = y 223 27 + 1 := by rw [nBg_27, wr_id (by unfold okI; omega)]
    have e5 : ∀ i, nBg y p st mi 235 i = if i = (y 223 27).toNat then p else y 235 i := fun i => by rw [nBg_235]
    have e2 : ∀ i, nBg y p st mi 232 i = if i = p.toNat then vbG y p st mi else y 232 i := fun i => by rw [nBg_232]
    obtain ⟨p1, p2⟩ := hP
    refine ⟨fun i hi => ?_, fun i k hik hk => ?_⟩
    · rw [e27] at hi
      rw [e5, e2, nBg_224]
      by_cases q : i = (y 223 27).toNat
      · rw [if_pos q, if_pos rfl]; omega
      · rw [if_neg q]
        obtain ⟨g1, g2, g3⟩ := p1 i (by omega)
        refine ⟨g1, g2, ?_⟩
        split
        · omega
        · exact g3
    · rw [e27] at hk
      rw [e5, e5, if_neg (show ¬ i = (y 223 27).toNat by omega)]
      by_cases q : k = (y 223 27).toNat
      · rw [if_pos q]
        obtain ⟨g1, g2, g3⟩ := p1 i (by omega)
        intro e
        rw [e] at g3
        exact g3 h2
      · rw [if_neg q]
        exact p2 i k hik (by omega)
  · have e27 : nFg τ 223 27 = 0 := by rw [nFg_at, if_neg (by omega), if_neg (by omega)]; rfl
    refine ⟨fun i hi => ?_, fun i k hik hk => ?_⟩
    · rw [e27] at hi; omega
    · rw [e27] at hk; omega
/-- the tray's place k is as the run's -/
def uC (τ : Sg) (t : Int) (k : Nat) : Prop := ((k : Nat) : Int) < τ 246 t.toNat ∧ ((k : Nat) : Int) < τ 224 668 ∧ τ 247 (60 * t + ((k : Nat) : Int)).toNat = τ 235 k
theorem nUnR_sp (τ : Sg) (t : Int) : ∀ n k : Nat, k + n = 60 → ∃ v : Nat, nUnR τ t n k = ((v : Nat) : Int) ∧ k ≤ v ∧ v ≤ 60 ∧ (∀ j, k ≤ j → j < v → uC τ t j) ∧ (v < 60 → ¬ uC τ t v) := by
  intro n
  induction n with
  | zero => intro k hk; exact ⟨k, by rw [nUnR], Nat.le_refl _, by omega, fun j h1 h2 => by omega, fun q => by omega⟩
  | succ n ih =>
    intro k hk
    rw [nUnR]
    by_cases q : ((k : Nat) : Int) < τ 246 t.toNat ∧ ((k : Nat) : Int) < τ 224 668 ∧ τ 247 (60 * t + ((k : Nat) : Int)).toNat = τ 235 k
    · rw [if_pos q]
      obtain ⟨v, v1, v2, v3, v4, v5⟩ := ih (k + 1) (by omega)
      refine ⟨v, v1, by omega, v3, fun j h1 h2 => ?_, v5⟩
      by_cases e : j = k
      · subst e; exact q
      · exact v4 j (by omega) h2
    · rw [if_neg q]
      exact ⟨k, rfl, Nat.le_refl _, by omega, fun j h1 h2 => by omega, fun _ => q⟩
theorem nUn_iff (h60 : 0 ≤ τ 224 668 ∧ τ 224 668 ≤ 60) {t : Nat} : nUn τ ((t : Nat) : Int) = -1 ↔ τ 246 t = τ 224 668 ∧ ∀ k : Nat, ((k : Nat) : Int) < τ 224 668 → τ 247 (60 * t + k) = τ 235 k := by
  obtain ⟨v, v1, v2, v3, v4, v5⟩ := nUnR_sp τ ((t : Nat) : Int) 60 0 rfl
  have et : ((t : Nat) : Int).toNat = t := rfl
  have e9 : ∀ k : Nat, (60 * ((t : Nat) : Int) + ((k : Nat) : Int)).toNat = 60 * t + k := fun k => by omega
  unfold nUn nUnP
  rw [v1, et]
  constructor
  · intro h
    by_cases q : ((v : Nat) : Int) = τ 246 t ∧ ((v : Nat) : Int) = τ 224 668
    · refine ⟨by omega, fun k hk => ?_⟩
      have := (v4 k (by omega) (by omega)).2.2
      rwa [e9] at this
    · rw [if_neg q] at h; omega
  · intro ⟨h1, h2⟩
    have e : ((v : Nat) : Int) = τ 224 668 := by
      apply Int.le_antisymm
      · refine Int.not_lt.mp fun q => ?_
        have := (v4 (τ 224 668).toNat (by omega) (by omega)).2.1
        omega
      · refine Int.not_lt.mp fun q => ?_
        have := v5 (by omega)
        unfold uC at this
        rw [et, e9] at this
        exact this ⟨by omega, q, h2 v q⟩
    rw [if_pos ⟨by omega, e⟩]
theorem ioL_iff (σ : Sg) (r w m : Nat) : ∀ n : Nat, (itr n (ioS σ r w m) 1 = 0 ∨ itr n (ioS σ r w m) 1 = 1) ∧ (itr n (ioS σ r w m) 1 ≠ 0 ↔ ∀ k : Nat, k < n → rAt σ (r + 14) 60 ((k : Nat) : Int) = rAt σ w m ((k : Nat) : Int)) := by
  intro n
  induction n with
  | zero => rw [itr_0]; exact ⟨Or.inr rfl, fun _ k hk => by omega, fun _ => by decide⟩
  | succ n ih =>
    obtain ⟨i1, i2⟩ := ih
    rw [itr_s, ioS]
    generalize itr n (ioS σ r w m) 1 = b at i1 i2 ⊢
    by_cases q : b = 0
    · rw [if_pos q]
      refine ⟨Or.inl rfl, fun e => absurd rfl e, fun e => ?_⟩
      exact absurd q (i2.mpr (fun k hk => e k (by omega)))
    · rw [if_neg q]
      have i3 := i2.mp q
      by_cases z : rAt σ (r + 14) 60 ((n : Nat) : Int) = rAt σ w m ((n : Nat) : Int)
      · rw [if_pos z]
        refine ⟨Or.inr rfl, fun _ k hk => ?_, fun _ => by decide⟩
        by_cases e : k = n
        · subst e; exact z
        · exact i3 k (by omega)
      · rw [if_neg z]
        exact ⟨Or.inl rfl, fun e => absurd rfl e, fun e => absurd (e n (by omega)) z⟩
theorem zRb_off (σ : Sg) (key : Int) : off 74 121 σ (zRb σ key) := by
  intro a ha j
  unfold zRb
  rw [go_off _ a (by omega) j, lAdd_off _ _ a (by omega) j]
  exact mCopy_off σ (m := 74) (f := 4) (Or.inl (by decide)) a (by omega) j
theorem cb_p (hT : TW (τ 224)) (key : Int) : nRu (cb2 τ key) 224 668 = τ 224 668 := by
  rw [nRu_224 (TW_key hT key), cb2, su_ne _ _ (Or.inr (by decide)), su_ne _ _ (Or.inr (by decide)), nCp_ne _ (by decide) (by decide)]
theorem cbY_235 (τ : Sg) (key : Int) : cbY τ key 235 = nRu (cb2 τ key) 235 := by rw [cbY, nCp_ne _ (by decide) (by decide)]
theorem cbY_un (hT : TW (τ 224)) (key : Int) {t : Nat} : nUn (cbY τ key) ((t : Nat) : Int) = -1 ↔ τ 246 t = τ 224 668 ∧ ∀ k : Nat, ((k : Nat) : Int) < τ 224 668 → τ 247 (60 * t + k) = nRu (cb2 τ key) 235 k := by
  have e1 : cbY τ key 224 668 = τ 224 668 := cbY_6 key 668 (by decide)
  have e2 : cbY τ key 246 = τ 246 := cbY_ne τ key (Or.inr (by decide))
  have e3 : cbY τ key 247 = τ 247 := cbY_ne τ key (Or.inr (by decide))
  have h := @nUn_iff (cbY τ key) (by rw [e1]; exact ⟨hT.p0, hT.p60⟩) t
  rw [e1, e2, e3, cbY_235] at h
  exact h
theorem fit_one (h : Rel σ τ) {key : Int} (hk : 0 ≤ key ∧ key ≤ 7) {t : Nat} (hl : ∀ k : Nat, ((k : Nat) : Int) < τ 224 668 → rAt σ 144 60 ((k : Nat) : Int) = τ 247 (60 * t + k)) (hp : τ 246 t = τ 224 668) : ioF (zRb σ key) 96 144 60 = 0 ↔ ¬ nUn (cbY τ key) ((t : Nat) : Int) = -1 := by
  have r := (rb_alike h hk).1
  have ep := cb_p h.tw key
  have h60 := h.tw.p60
  have h0 := h.tw.p0
  have e1 : zRb σ key 96 1 = τ 224 668 := by rw [← ep]; exact r.1.a.1
  have e2 : ∀ k : Nat, ((k : Nat) : Int) < τ 224 668 → rAt (zRb σ key) (96 + 14) 60 ((k : Nat) : Int) = nRu (cb2 τ key) 235 k := fun k hk2 => by
    rw [rAt_lt (by omega) (by omega)]
    exact r.1.b.2.2.1 k (by rw [r.2.2, ep]; exact hk2)
  have e3 : ∀ k : Nat, ((k : Nat) : Int) < τ 224 668 → rAt (zRb σ key) 144 60 ((k : Nat) : Int) = τ 247 (60 * t + k) := fun k hk2 => by
    rw [(zRb_off σ key).at (by omega)]; exact hl k hk2
  have g := (ioL_iff (zRb σ key) 96 144 60 (τ 224 668).toNat).2
  rw [cbY_un h.tw key]
  unfold ioF
  rw [e1]
  constructor
  · intro q ⟨_, z⟩
    exact absurd q (g.mpr (fun k hk2 => by rw [e2 k (by omega), e3 k (by omega)]; exact (z k (by omega)).symm))
  · intro q
    refine Decidable.byContradiction fun z => q ⟨hp, fun k hk2 => ?_⟩
    have := g.mp z k (by omega)
    rw [e2 k hk2, e3 k hk2] at this
    exact this.symm
theorem fiL_ft (τ : Sg) (t : Int) : ∀ n : Nat, Ft τ (fiL τ t n).2 ∧ (fiL τ t n).2 223 5 = τ 223 5 := by
  intro n
  induction n with
  | zero => exact ⟨Ft.rf τ, rfl⟩
  | succ n ih =>
    obtain ⟨i1, i2⟩ := ih
    rw [fiL_s, fiS]
    generalize (fiL τ t n).2 = y at i1 i2 ⊢
    have a1 := i1.trans (Ft_cb y ((n : Nat) : Int))
    have a2 := (cbY_5 y ((n : Nat) : Int)).trans i2
    generalize cbY y ((n : Nat) : Int) = w at a1 a2 ⊢
    exact ⟨a1, a2⟩
theorem fit_A (h : Rel σ τ) {t : Nat} (hl : ∀ k : Nat, ((k : Nat) : Int) < τ 224 668 → rAt σ 144 60 ((k : Nat) : Int) = τ 247 (60 * t + k)) (hp : τ 246 t = τ 224 668) : ∀ n : Nat, n ≤ 8 → (itr n zFiS (0, σ)).1 = (fiL τ ((t : Nat) : Int) n).1 ∧ Rel (itr n zFiS (0, σ)).2 (fiL τ ((t : Nat) : Int) n).2 ∧ rAt (itr n zFiS (0, σ)).2 144 60 = rAt σ 144 60 := by
  intro n
  induction n with
  | zero => intro _; rw [itr_0]; exact ⟨rfl, h, rfl⟩
  | succ n ih =>
    intro hn
    obtain ⟨i1, i2, i3⟩ := ih (by omega)
    obtain ⟨f1, _⟩ := fiL_ft τ ((t : Nat) : Int) n
    rw [itr_s, zFiS, fiL_s, fiS]
    generalize itr n zFiS (0, σ) = x at i1 i2 i3 ⊢
    generalize fiL τ ((t : Nat) : Int) n = y at i1 i2 f1 ⊢
    have g668 : y.2 224 668 = τ 224 668 := f1.1 668 (by decide)
    have g246 : y.2 246 = τ 246 := f1.2.2 246 (by omega)
    have g247 : y.2 247 = τ 247 := f1.2.2 247 (by omega)
    have key := fit_one i2 (key := ((n : Nat) : Int)) (by omega) (t := t) (fun k hk => by rw [i3, g247]; exact hl k (by rw [← g668]; exact hk)) (by rw [g246, g668]; exact hp)
    have fx := (rb_alike i2 (key := ((n : Nat) : Int)) (by omega)).2
    have hR := i2.fr fx (Ft_cb y.2 ((n : Nat) : Int))
    have h3 : rAt (zRb x.2 ((n : Nat) : Int)) 144 60 = rAt σ 144 60 := by
      rw [← i3]; funext k; exact (zRb_off x.2 _).at (by omega)
    generalize ioF (zRb x.2 ((n : Nat) : Int)) 96 144 60 = b at key ⊢
    generalize zRb x.2 ((n : Nat) : Int) = x2 at hR h3 ⊢
    generalize cbY y.2 ((n : Nat) : Int) = y2 at hR key ⊢
    refine ⟨?_, hR, h3⟩
    show wor x.1 (if b = 0 then 0 else wshl 1 ((n : Nat) : Int)) = wor y.1 (if nUn y2 ((t : Nat) : Int) = -1 then wshl 1 ((n : Nat) : Int) else 0)
    rw [i1]
    by_cases q : b = 0
    · rw [if_pos q, if_neg (key.mp q)]
    · rw [if_neg q, if_pos (Decidable.byContradiction fun z => q (key.mpr z))]
theorem fit_B (hT : TW (τ 224)) {t : Nat} (hn : ¬ (τ 246 t = τ 224 668 ∧ OP (fun k => τ 247 (60 * t + k)) (τ 224 668) (τ 224 668).toNat)) (key : Int) : ¬ nUn (cbY τ key) ((t : Nat) : Int) = -1 := by
  intro e
  obtain ⟨e1, e2⟩ := (cbY_un hT key).mp e
  have hT2 := TW_key hT key
  obtain ⟨u1, u2⟩ := nRu_RUq hT2
  obtain ⟨_, _, h27⟩ := nRu_end hT2
  have ep := cb_p hT key
  have ep2 : cb2 τ key 224 668 = τ 224 668 := by rw [cb2, su_ne _ _ (Or.inr (by decide)), su_ne _ _ (Or.inr (by decide)), nCp_ne _ (by decide) (by decide)]
  rw [h27, ep2] at u1 u2
  rw [ep] at u1
  refine hn ⟨e1, fun k hk => ?_, fun i k hik hk => ?_⟩
  · show 0 ≤ τ 247 (60 * t + k) ∧ τ 247 (60 * t + k) < _
    rw [e2 k (by omega)]
    have := u1 k (by omega)
    exact ⟨this.1, this.2.1⟩
  · show τ 247 (60 * t + i) ≠ τ 247 (60 * t + k)
    rw [e2 k (by omega), e2 i (by omega)]
    exact u2 i k hik (by omega)
theorem fit_0 (hT : TW (τ 224)) (hTr : TrW τ) {t : Nat} (hn : ¬ (τ 246 t = τ 224 668 ∧ OP (fun k => τ 247 (60 * t + k)) (τ 224 668) (τ 224 668).toNat)) : ∀ n : Nat, (fiL τ ((t : Nat) : Int) n).1 = 0 := by
  intro n
  induction n with
  | zero => rfl
  | succ n ih =>
    obtain ⟨f1, _⟩ := fiL_ft τ ((t : Nat) : Int) n
    have k1 := (fiL_kp hT hTr ((t : Nat) : Int) n).1
    rw [fiL_s, fiS]
    generalize fiL τ ((t : Nat) : Int) n = y at ih f1 k1 ⊢
    have g668 : y.2 224 668 = τ 224 668 := f1.1 668 (by decide)
    have g246 : y.2 246 = τ 246 := f1.2.2 246 (by omega)
    have g247 : y.2 247 = τ 247 := f1.2.2 247 (by omega)
    have g := fit_B (τ := y.2) (t := t) k1 (by rw [g246, g247, g668]; exact hn) ((n : Nat) : Int)
    show wor y.1 (if nUn (cbY y.2 ((n : Nat) : Int)) ((t : Nat) : Int) = -1 then wshl 1 ((n : Nat) : Int) else 0) = 0
    rw [if_neg g, ih]
    decide
theorem al_fits (h : Rel σ τ) (i : Int) : Al (gFull σ i) eNS (zFit σ (trT i)).1 (nFi τ i).1 (zFit σ (trT i)).2 σ (nFi τ i).2 := by
  unfold nFi
  rcases h.full i with ⟨g1, g2⟩ | ⟨g1, g2⟩ | ⟨g1, g2, t, ht, rfl, hR, h0, h1, _, _⟩
  · rw [g1, g2, if_pos (show (0 : Int) < 1 by decide)]
    exact Al.th 0 rfl (thr_5 τ 1) (h.thr 1)
  · rw [g1, g2, if_pos (show (0 : Int) < 2 by decide)]
    exact Al.th 1 rfl (thr_5 τ 2) (h.thr 2)
  · rw [g1, g2, if_neg (show ¬ (0 : Int) < 0 by decide), trT_t]
    have hh := h.thr 0
    have e24 : nThr τ 0 224 = τ 224 := funext fun j => su_ne _ _ (Or.inl (by decide))
    have e46 : nThr τ 0 246 = τ 246 := funext fun j => su_ne _ _ (Or.inl (by decide))
    have e47 : nThr τ 0 247 = τ 247 := funext fun j => su_ne _ _ (Or.inl (by decide))
    obtain ⟨z1, z2⟩ := zOr_alike h.tw h.mr ht hR
    obtain ⟨f1, f2⟩ := fiL_ft (nThr τ 0) ((t : Nat) : Int) 8
    have h5 := f2.trans (thr_5 τ 0)
    have hO := hh.fr (Fz_or σ (149 + 2 * t)) (Ft.rf _)
    unfold zFit
    by_cases q : (zOr σ (149 + 2 * t)).1 = 0
    · rw [if_pos q]
      have hv := fit_0 (τ := nThr τ 0) (t := t) hh.tw hh.trw (by rw [e24, e46, e47]; exact fun e => absurd q (z1.mpr e)) 8
      have hF := hO.fr (Fz.rf _) f1
      generalize fiL (nThr τ 0) ((t : Nat) : Int) 8 = w at hv hF h5 ⊢
      exact Al.no _ h5 hv.symm hF
    · rw [if_neg q]
      obtain ⟨k1, k2, _⟩ := fit_A hO (t := t) (fun k hk => by rw [e47]; exact z2 q k (by rw [← e24]; exact hk)) (by rw [e46, e24]; exact (z1.mp q).1) 8 (Nat.le_refl _)
      generalize fiL (nThr τ 0) ((t : Nat) : Int) 8 = w at k1 k2 h5 ⊢
      generalize itr 8 zFiS (0, (zOr σ (149 + 2 * t)).2) = w2 at k1 k2 ⊢
      exact Al.no _ h5 k1 k2
end AL
