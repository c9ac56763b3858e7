/-! ALIKE, 32: the best of ways so far -/
section BQ
variable {τ x0 : Sg} {s n : Int} {D D' : Nat → (Nat → Int) → Prop}
/-- ways that count -/
def bqV (τ : Sg) (s n : Int) (e : Nat) (v : Nat → Int) : Prop := wqV (nOf τ s 0) e v ∧ ((e : Nat) : Int) ≤ n ∧ Bs τ s + ((e : Nat) : Int) ≤ 60
/-- no worse than (e, v) -/
def bqL (τ : Sg) (s : Int) (m : Nat) (p : Int) (c : Nat → Int) (e : Nat) (v : Nat → Int) : Prop := p < pwP τ s e v ∨ (p = pwP τ s e v ∧ (m < e ∨ (m = e ∧ ¬ wqG e v c)))
/-- (m, c) with the price p is the best of those in D -/
def bqB (τ : Sg) (s n : Int) (D : Nat → (Nat → Int) → Prop) (m : Nat) (p : Int) (c : Nat → Int) : Prop := (bqV τ s n m c ∧ D m c ∧ p = pwP τ s m c) ∧ ∀ (e : Nat) (v : Nat → Int), bqV τ s n e v → D e v → bqL τ s m p c e v
theorem bqV.rg (hT : TW (τ 224)) (h0 : 0 ≤ s) (h1 : s < τ 224 4) (hn : n ≤ 6) {e : Nat} {v : Nat → Int} (h : bqV τ s n e v) : (1 ≤ e ∧ e ≤ 8) ∧ Bs τ s + ((e : Nat) : Int) ≤ 60 ∧ ∀ i, i < e → 1 ≤ v i ∧ v i ≤ 99 := by
  have ho := hT.of h0 h1
  obtain ⟨h2, h3, h4⟩ := h
  refine ⟨⟨?_, by omega⟩, h4, fun i hi => ⟨h2.1 i hi, ?_⟩⟩
  · refine Decidable.byContradiction fun q => ?_
    have : e = 0 := by omega
    subst this
    have := h2.2.2
    change (0 : Int) = nOf τ s 0 at this
    omega
  · have := h2.le hi
    omega
theorem bqV.cg {e : Nat} {v w : Nat → Int} (h : bqV τ s n e v) (he : wqE e v w) : bqV τ s n e w := ⟨h.1.cg he, h.2.1, h.2.2⟩
theorem bqB.cg {m : Nat} {p : Int} {c : Nat → Int} (h : bqB τ s n D m p c) (hD : ∀ e v, bqV τ s n e v → (D e v ↔ D' e v)) : bqB τ s n D' m p c := ⟨⟨h.1.1, (hD _ _ h.1.1).mp h.1.2.1, h.1.2.2⟩, fun e v h1 h2 => h.2 e v h1 ((hD _ _ h1).mpr h2)⟩
theorem bqB.uniq {m m' : Nat} {p p' : Int} {c c' : Nat → Int} (h : bqB τ s n (fun _ _ => True) m p c) (k : bqB τ s n (fun _ _ => True) m' p' c') : m = m' ∧ p = p' ∧ wqE m c c' := by
  have a := h.2 m' c' k.1.1 trivial
  have b := k.2 m c h.1.1 trivial
  unfold bqL at a b
  rw [← k.1.2.2] at a
  rw [← h.1.2.2] at b
  have ep : p = p' := by omega
  have em : m = m' := by omega
  subst ep em
  refine ⟨rfl, rfl, ?_⟩
  have a2 : ¬ wqG m c' c := by
    rcases a with a | ⟨_, a | ⟨_, a⟩⟩
    · omega
    · omega
    · exact a
  have b2 : ¬ wqG m c c' := by
    rcases b with b | ⟨_, b | ⟨_, b⟩⟩
    · omega
    · omega
    · exact b
  rcases wqG_tri c c' m with t | t | t
  · exact t
  · exact absurd t b2
  · exact absurd t a2
theorem bq_none (hT : TW (τ 224)) (h0 : 0 ≤ s) (h1 : s < τ 224 4) (hn : 1 ≤ n) : bqV τ s n 1 (wqF (nOf τ s 0) 1) := by
  have ho := hT.of h0 h1
  have h2 := pt_rg hT h0 h1
  have h6 := hT.p60
  exact ⟨wqF_v (by omega) (by omega), by omega, by unfold Bs; omega⟩
theorem bqE_p (hT : TW (τ 224)) (hK : KW (τ 224)) (hM : MR x0 74 (τ 224)) (h0 : 0 ≤ s) (h1 : s < τ 224 4) (hn : n ≤ 6) {d : Nat} {w v : Nat → Int} (hv : bqV τ s n d w) (he : wqE d w v) : pwW τ s d w = pwW τ s d v ∧ pwP τ s d w = pwP τ s d v := by
  have r := hv.rg hT h0 h1 hn
  exact pw_cg hT hK hM h0 h1 r.1 r.2.1 r.2.2 he
/-- a better way found -/
theorem bq_new (hT : TW (τ 224)) (hK : KW (τ 224)) (hM : MR x0 74 (τ 224)) (h0 : 0 ≤ s) (h1 : s < τ 224 4) (hn : n ≤ 6) {d : Nat} {w u : Nat → Int} (hw : bqV τ s n d w) (hu : wqE d u w)
    (ho : (∀ e v, bqV τ s n e v → ¬ D e v) ∨ ∃ (m : Nat) (p : Int) (c : Nat → Int), bqB τ s n D m p c ∧ (pwP τ s d w < p ∨ (pwP τ s d w = p ∧ d < m))) :
    bqB τ s n (fun e v => D e v ∨ (e = d ∧ wqE d v w)) d (pwP τ s d w) u := by
  have hu2 : bqV τ s n d u := hw.cg hu.sym
  refine ⟨⟨hu2, Or.inr ⟨rfl, hu⟩, (bqE_p hT hK hM h0 h1 hn hu2 hu).2.symm⟩, fun e v hv hD => ?_⟩
  rcases hD with hD | ⟨rfl, hD⟩
  · rcases ho with ho | ⟨m, p, c, hb, hp⟩
    · exact absurd hD (ho e v hv)
    · have := hb.2 e v hv hD
      unfold bqL at this ⊢
      rcases hp with hp | ⟨hp, hm⟩
      · exact Or.inl (by rcases this with t | ⟨t, _⟩ <;> omega)
      · rcases this with t | ⟨t, t2⟩
        · exact Or.inl (by omega)
        · exact Or.inr ⟨by omega, Or.inl (by rcases t2 with t2 | ⟨t2, _⟩ <;> omega)⟩
  · exact Or.inr ⟨(bqE_p hT hK hM h0 h1 hn hv hD).2.symm, Or.inr ⟨rfl, fun g => g.ne (fun i hi => by rw [hD i hi, hu i hi])⟩⟩
/-- none better: the elder stays -/
theorem bq_old (hT : TW (τ 224)) (hK : KW (τ 224)) (hM : MR x0 74 (τ 224)) (h0 : 0 ≤ s) (h1 : s < τ 224 4) (hn : n ≤ 6) {d m : Nat} {p : Int} {w c : Nat → Int} (hb : bqB τ s n D m p c) (hp : ¬ (pwP τ s d w < p ∨ (pwP τ s d w = p ∧ d < m))) (hD : ∀ v, bqV τ s n d v → D d v → wqG d v w) :
    bqB τ s n (fun e v => D e v ∨ (e = d ∧ wqE d v w)) m p c := by
  refine ⟨⟨hb.1.1, Or.inl hb.1.2.1, hb.1.2.2⟩, fun e v hv hE => ?_⟩
  rcases hE with hE | ⟨rfl, hE⟩
  · exact hb.2 e v hv hE
  · have ep := (bqE_p hT hK hM h0 h1 hn hv hE).2
    unfold bqL
    rw [ep]
    by_cases q : p < pwP τ s e w
    · exact Or.inl q
    · have q2 : p = pwP τ s e w := Decidable.byContradiction fun z => hp (Or.inl (by omega))
      refine Or.inr ⟨q2, ?_⟩
      by_cases q3 : m < e
      · exact Or.inl q3
      · have q4 : m = e := Decidable.byContradiction fun z => hp (Or.inr ⟨q2.symm, by omega⟩)
        subst q4
        have g := hD c hb.1.1 hb.1.2.1
        refine Or.inr ⟨rfl, fun g2 => ?_⟩
        exact g.asym (g2.cg hE (wqE.rf _ _))
/-- what the model's search keeps -/
def bqM (τ : Sg) (s n : Int) (D : Nat → (Nat → Int) → Prop) (y : Sg) : Prop := TW (y 224) ∧ (∃ (e : Nat) (v : Nat → Int), PtW τ s e v y) ∧ ((y 223 34 = -1 ∧ ∀ e v, bqV τ s n e v → ¬ D e v) ∨ ∃ m : Nat, y 223 34 = ((m : Nat) : Int) ∧ bqB τ s n D m (y 223 35) (y 243)) ∧ ∀ j : Nat, (j = 5 ∨ j = 7 ∨ j = 15 ∨ j = 16) → y 223 j = τ 223 j
theorem bqM.cg {y : Sg} (h : bqM τ s n D y) (hD : ∀ e v, bqV τ s n e v → (D e v ↔ D' e v)) : bqM τ s n D' y := by
  obtain ⟨h1, h2, h3, h5⟩ := h
  refine ⟨h1, h2, ?_, h5⟩
  rcases h3 with ⟨h3, h4⟩ | ⟨m, h3, h4⟩
  · exact Or.inl ⟨h3, fun e v hv hE => h4 e v hv ((hD e v hv).mpr hE)⟩
  · exact Or.inr ⟨m, h3, h4.cg hD⟩
theorem dqX_V {N : Int} {d e : Nat} {w v : Nat → Int} (hw : wqV N d w) (hv : wqV N e v) : dqX w d e v ↔ e = d ∧ wqE d v w := by
  constructor
  · rintro ⟨h1, h2⟩
    refine ⟨?_, fun i hi => h2 i hi⟩
    have h3 := hv.lo (k := d) h1
    have h4 := wqS_cg (w := v) (v := w) d (fun i hi => h2 i hi)
    have h5 := hw.2.2
    omega
  · rintro ⟨h1, h2⟩
    exact ⟨by omega, fun i hi => h2 i hi⟩
/-- one way more -/
theorem nJg_B (hT : TW (τ 224)) (hK : KW (τ 224)) (hM : MR x0 74 (τ 224)) (h0 : 0 ≤ s) (h1 : s < τ 224 4) (hn : n ≤ 6) {y : Sg} {d : Nat} {w : Nat → Int} (hw : wqV (nOf τ s 0) d w) (hdn : ((d : Nat) : Int) ≤ n) (hy : ∀ i, i < d → y 242 i = w i) (hI : bqM τ s n (dqB w d) y) : bqM τ s n (fun e v => dqB w d e v ∨ dqX w d e v) (nJg y s d) ∧ nJg y s d 242 = y 242 := by
  have ho := hT.of h0 h1
  obtain ⟨hY, ⟨e0, v0, hP⟩, hbest, hfr⟩ := hI
  obtain ⟨g1, g2, g3, g4, g5, g6⟩ := hP.had hT h0 h1
  have hd1 : 1 ≤ d := by
    refine Decidable.byContradiction fun q => ?_
    have : d = 0 := by omega
    subst this
    have := hw.2.2
    change (0 : Int) = nOf τ s 0 at this
    omega
  have hw9 : ∀ i, i < d → 1 ≤ w i ∧ w i ≤ 99 := fun i hi => ⟨hw.1 i hi, by have := hw.le hi; omega⟩
  have ht : Tr9 y d := fun i hi => by rw [hy i hi]; exact hw9 i hi
  have hy1 : s < y 224 4 := by rw [g3]; exact h1
  rw [nJg]
  by_cases q : 60 < y 224 668 - nOf y s 6 + ((d : Nat) : Int)
  · rw [if_pos q]
    refine ⟨bqM.cg ⟨hY, ⟨e0, v0, hP⟩, hbest, hfr⟩ (fun e v hv => ⟨fun z => Or.inl z, fun z => ?_⟩), rfl⟩
    rcases z with z | z
    · exact z
    · exfalso
      have e1 := ((dqX_V hw hv.1).mp z).1
      have e2 := hv.2.2
      subst e1
      rw [← g4] at e2
      unfold Bs at e2
      omega
  · rw [if_neg q]
    have hB : Bs τ s + ((d : Nat) : Int) ≤ 60 := by rw [← g4]; unfold Bs; omega
    have hV : bqV τ s n d w := ⟨hw, hdn, hB⟩
    have hd8 : 1 ≤ d ∧ d ≤ 8 := by omega
    have k1 := jg1_kp hY h0 hy1 hd8 ht (by omega)
    have k2 := jg2_kp hY h0 hy1 hd8 ht (by omega)
    -- the row laid
    have hrow : ∀ i, i < d → itr d jgS y 230 i = w i := fun i hi => by rw [jgS_at d y i hi, hy i hi]
    have hP1 : PtW τ s e0 v0 (itr d jgS y) := hP.of (jgS_ne d y (by decide))
    have e1 : itr d jgS y 224 = y 224 := jgS_ne d y (by decide)
    have hPw : PtW τ s d (itr d jgS y 230) (jg1 y s d) := by
      have := hP1.pts hT (by rw [e1]; exact hY) h0 h1 hd8 hB (itr d jgS y 230)
      rw [laW_id] at this
      exact this
    have hp := pw_price hT hK hM h0 h1 hd8 hB hw9 (fun i hi => (hrow i hi).symm) hPw k1.1
    change nPcO (jg2 y s d) s = _ at hp
    have e2 : jg2 y s d 224 = jg1 y s d 224 := nRu_224 k1.1
    have hp2 : itr d jgS y 224 668 - nOf (itr d jgS y) s 6 + ((d : Nat) : Int) ≤ 60 := by rw [nOf_of e1, e1]; omega
    have h12 : s < itr d jgS y 224 4 := by rw [e1]; exact hy1
    have hT2 : TW (itr d jgS y 224) := by rw [e1]; exact hY
    have f1 : ∀ j, (j ≠ 27 ∧ j ≠ 28) → jg2 y s d 223 j = y 223 j := fun j hj => by
      rw [jg2, nRu_223 _ hj, jg1, nPts_223 hT2 h0 h12 (by omega) hp2, jgS_ne d y (by decide)]
    have f2 : jg2 y s d 243 = y 243 := by rw [jg2, nRu_ne _ (by omega), jg1, nPts_ne hT2 h0 h12 (by omega) hp2 (by decide), jgS_ne d y (by decide)]
    have hDw : ∀ e v, bqV τ s n e v → (dqB w d e v ∨ (e = d ∧ wqE d v w) ↔ dqB w d e v ∨ dqX w d e v) := fun e v hv => by rw [dqX_V hw hv.1]
    rw [hp, f1 34 (by decide), f1 35 (by decide)]
    by_cases q2 : y 223 34 ≠ -1 ∧ (y 223 35 < pwP τ s d w ∨ (pwP τ s d w = y 223 35 ∧ y 223 34 ≤ ((d : Nat) : Int)))
    · rw [if_pos q2]
      refine ⟨⟨by rw [e2]; exact k1.1, ⟨d, _, hPw.of e2⟩, ?_, fun j hj => (f1 j (by omega)).trans (hfr j hj)⟩, k2.2.2⟩
      rw [f1 34 (by decide), f1 35 (by decide), f2]
      rcases hbest with ⟨hb, _⟩ | ⟨m, hm, hb⟩
      · exact absurd hb q2.1
      · refine Or.inr ⟨m, hm, (bq_old hT hK hM h0 h1 hn (d := d) (w := w) hb (by omega) (fun v hv hD => ?_)).cg hDw⟩
        obtain ⟨i, z1, z2, z3, z4⟩ := hD
        exact ⟨i, z1, z3, z4⟩
    · rw [if_neg q2]
      have j224 : jg3 (jg2 y s d) (pwP τ s d w) d 224 = jg2 y s d 224 := by rw [jg3, jbS_ne d _ (by decide)]; rfl
      have j34 : jg3 (jg2 y s d) (pwP τ s d w) d 223 34 = ((d : Nat) : Int) := by rw [jg3, jbS_ne d _ (by decide), su_same]
      have j35 : jg3 (jg2 y s d) (pwP τ s d w) d 223 35 = pwP τ s d w := by rw [jg3, jbS_ne d _ (by decide), su_ne _ _ (Or.inr (by decide)), su_same]
      have j243 : wqE d (jg3 (jg2 y s d) (pwP τ s d w) d 243) w := fun i hi => by
        rw [jg3, jbS_at d _ i hi]
        show jg2 y s d 242 i = w i
        rw [k2.2.2]; exact hy i hi
      have j242 : jg3 (jg2 y s d) (pwP τ s d w) d 242 = y 242 := by rw [jg3, jbS_ne d _ (by decide)]; exact k2.2.2
      have j223 : ∀ j : Nat, (j = 5 ∨ j = 7 ∨ j = 15 ∨ j = 16) → jg3 (jg2 y s d) (pwP τ s d w) d 223 j = τ 223 j := fun j hj => by
        rw [jg3, jbS_ne d _ (by decide), su_ne _ _ (Or.inr (by omega)), su_ne _ _ (Or.inr (by omega))]
        exact (f1 j (by omega)).trans (hfr j hj)
      refine ⟨⟨by rw [j224, e2]; exact k1.1, ⟨d, _, hPw.of (j224.trans e2)⟩, Or.inr ⟨d, j34, ?_⟩, j223⟩, j242⟩
      rw [j35]
      refine (bq_new hT hK hM h0 h1 hn hV j243 ?_).cg hDw
      rcases hbest with ⟨_, hb⟩ | ⟨m, hm, hb⟩
      · exact Or.inl hb
      · refine Or.inr ⟨m, _, _, hb, ?_⟩
        rw [hm] at q2
        omega
/-- the model's best parting -/
theorem nSe_B (hT : TW (τ 224)) (hK : KW (τ 224)) (hM : MR x0 74 (τ 224)) (h0 : 0 ≤ s) (h1 : s < τ 224 4) (hn : 1 ≤ n ∧ n ≤ 6) (hq : ¬ (1 < n ∧ 30 < nOf τ s 0)) : (nSe τ s n).1 = 1 ∧ ∃ m : Nat, (nSe τ s n).2 223 34 = ((m : Nat) : Int) ∧ bqB τ s n (fun _ _ => True) m ((nSe τ s n).2 223 35) ((nSe τ s n).2 243) ∧ ∀ j : Nat, (j = 5 ∨ j = 7 ∨ j = 15 ∨ j = 16) → (nSe τ s n).2 223 j = τ 223 j := by
  have ho := hT.of h0 h1
  have e := nSe_pre hT
  rw [nSe, if_neg hq]
  refine ⟨rfl, ?_⟩
  have i0 : bqM τ s n (fun _ _ => False) (nCp (nSe1 τ) 224 226) := by
    refine ⟨by rw [e]; exact hT, ⟨_, _, (PtW.rf hT h0 h1).of e⟩, Or.inl ⟨?_, fun _ _ _ z => z⟩, fun j hj => ?_⟩
    · rw [nCp_ne _ (by decide) (by decide)]
      exact su_same _ _ _ _
    · rw [nCp_ne _ (by decide) (by decide)]
      exact su_ne _ _ (Or.inr (by omega))
  have t := dq_top (L := fun d σ => nJg σ s d) (n := n) (N := nOf τ s 0) (Inv := bqM τ s n)
    (fun D D' x h hD => h.cg (fun e v hv => hD e v hv.1 hv.2.1))
    (fun D x k c h => by
      obtain ⟨a1, ⟨e0, v0, a2⟩, a3, a4⟩ := h
      exact ⟨a1, ⟨e0, v0, a2.of rfl⟩, a3, a4⟩)
    (fun x d w hw hd hx hI => nJg_B hT hK hM h0 h1 hn.2 hw hd hx hI)
    7 (nCp (nSe1 τ) 224 226) (by omega) (by omega) (by omega) i0
  have e2 : (nSe2 τ s n) = dqF (fun d σ => nJg σ s d) n 7 (nOf τ s 0) (nOf τ s 0) 0 (nCp (nSe1 τ) 224 226) := by unfold nSe2; rw [trF_dq]
  rw [← e2] at t
  obtain ⟨_, _, t3, t4⟩ := t
  have g223 : nCp (nSe2 τ s n) 226 224 223 = nSe2 τ s n 223 := nCp_ne _ (by decide) (by decide)
  have g243 : nCp (nSe2 τ s n) 226 224 243 = nSe2 τ s n 243 := nCp_ne _ (by decide) (by decide)
  generalize nCp (nSe2 τ s n) 226 224 = y at g223 g243 ⊢
  generalize nSe2 τ s n = x at g223 g243 t3 t4
  show ∃ m : Nat, y 223 34 = ((m : Nat) : Int) ∧ bqB τ s n (fun _ _ => True) m (y 223 35) (y 243) ∧ ∀ j : Nat, (j = 5 ∨ j = 7 ∨ j = 15 ∨ j = 16) → y 223 j = τ 223 j
  rw [g223, g243]
  rcases t3 with ⟨_, t3⟩ | ⟨m, t3, t5⟩
  · exact absurd trivial (t3 _ _ (bq_none hT h0 h1 hn.1))
  · exact ⟨m, t3, t5, t4⟩
/-- what the search leaves as it was -/
theorem nSe_Ft (hT : TW (τ 224)) (hK : KW (τ 224)) (hM : MR x0 74 (τ 224)) (h0 : 0 ≤ s) (h1 : s < τ 224 4) (hn : 1 ≤ n ∧ n ≤ 6) : Ft τ (nSe τ s n).2 ∧ (nSe τ s n).2 223 5 = τ 223 5 ∧ (nSe τ s n).2 244 = τ 244 := by
  have ho := hT.of h0 h1
  have e := nSe_pre hT
  have hne : ∀ a, (a = 244 ∨ a = 245 ∨ a = 246 ∨ a = 247 ∨ a = 227 ∨ a = 228 ∨ a = 229) → (nSe τ s n).2 a = τ a := by
    intro a ha
    rw [nSe]; split
    · funext j
      show nSe1 τ a j = _
      exact su_ne _ _ (Or.inl (by omega))
    · show nCp (nSe2 τ s n) 226 224 a = _
      rw [nCp_ne _ (by decide) (by omega), nSe2, trF_ne s n hn.2 7 _ _ 0 _ (by rw [e]; exact hT) (by rw [e]; exact ⟨h0, h1⟩) (by omega) (by omega) (by omega) (by omega) (fun k hk => by omega) (by omega), nCp_ne _ (by decide) (by omega)]
      funext j
      exact su_ne _ _ (Or.inl (by omega))
  have h223 : ∀ j : Nat, (j = 5 ∨ j = 7 ∨ j = 15 ∨ j = 16) → (nSe τ s n).2 223 j = τ 223 j := by
    by_cases q : 1 < n ∧ 30 < nOf τ s 0
    · intro j hj
      rw [nSe, if_pos q]
      exact su_ne _ _ (Or.inr (by omega))
    · obtain ⟨_, m, _, _, r⟩ := nSe_B hT hK hM h0 h1 hn q
      exact r
  exact ⟨⟨nSe_6 hT ⟨h0, h1⟩ hn.2, fun j hj => h223 j (by omega), fun a ha => hne a (by omega)⟩, h223 5 (by omega), hne 244 (by omega)⟩
end BQ
