/-! ALIKE, 34: the class's best parting -/
section SB
variable {τ x0 x x' z : Sg} {s n : Int} {D D' : Nat → (Nat → Int) → Prop} {d : Nat}
/-- the trial's mill is told's, the sack parted somehow -/
def trOK (τ : Sg) (s : Int) (x : Sg) : Prop := ∃ (e : Nat) (v : Nat → Int) (y : Sg), PtW τ s e v y ∧ TW (y 224) ∧ MR x 74 (y 224)
/-- the best so far, in the class -/
def bqK (τ : Sg) (s n : Int) (D : Nat → (Nat → Int) → Prop) (x : Sg) : Prop := (x 121 6 = 0 ∧ ∀ e v, bqV τ s n e v → ¬ D e v) ∨ ∃ m : Nat, x 121 6 = ((m : Nat) : Int) ∧ bqB τ s n D m (x 121 5) (x 125)
/-- the least wait so far of ways into e pieces -/
def lwB (τ : Sg) (s n : Int) (D : Nat → (Nat → Int) → Prop) (e : Nat) (L : Int) : Prop := (∀ v, bqV τ s n e v → D e v → L ≤ pwW τ s e v) ∧ (L = 1000000000 ∨ ∃ v, bqV τ s n e v ∧ D e v ∧ L = pwW τ s e v)
def icI (τ : Sg) (s n : Int) (z : Sg) (D : Nat → (Nat → Int) → Prop) (d : Nat) (x : Sg) : Prop := trOK τ s x ∧ bqK τ s n D x ∧ (∀ e : Nat, 1 ≤ e → e ≤ d → lwB τ s n D e (x 127 e)) ∧ (∀ a, (a < 74 ∨ 128 ≤ a) → x a = z a) ∧ x 121 7 = z 121 7
theorem lwB.cg {e : Nat} {L : Int} (h : lwB τ s n D e L) (hD : ∀ v, bqV τ s n e v → (D e v ↔ D' e v)) : lwB τ s n D' e L := by
  refine ⟨fun v h1 h2 => h.1 v h1 ((hD v h1).mpr h2), ?_⟩
  rcases h.2 with h | ⟨v, h1, h2, h3⟩
  · exact Or.inl h
  · exact Or.inr ⟨v, h1, (hD v h1).mp h2, h3⟩
theorem bqK.cg (h : bqK τ s n D x) (hD : ∀ e v, bqV τ s n e v → (D e v ↔ D' e v)) : bqK τ s n D' x := by
  rcases h with ⟨h3, h4⟩ | ⟨m, h3, h4⟩
  · exact Or.inl ⟨h3, fun e v hv hE => h4 e v hv ((hD e v hv).mpr hE)⟩
  · exact Or.inr ⟨m, h3, h4.cg hD⟩
theorem icI.cg (h : icI τ s n z D d x) (hD : ∀ e v, bqV τ s n e v → (D e v ↔ D' e v)) : icI τ s n z D' d x := ⟨h.1, h.2.1.cg hD, fun e h1 h2 => (h.2.2.1 e h1 h2).cg (hD e), h.2.2.2⟩
theorem trOK.of (h : trOK τ s x) (hf : ∀ a, 74 ≤ a → a < 96 → ∀ j, x' a j = x a j) : trOK τ s x' := by
  obtain ⟨e, v, y, h1, h2, h3⟩ := h
  exact ⟨e, v, y, h1, h2, h3.of hf⟩
/-- only the way has changed -/
theorem icI.w (h : icI τ s n z D d x) (hf : ∀ b, b ≠ 123 → ∀ i, x' b i = x b i) : icI τ s n z D d x' := by
  have hf2 : ∀ b, b ≠ 123 → x' b = x b := fun b hb => funext fun i => hf b hb i
  obtain ⟨h1, h2, h3, h4, h5⟩ := h
  refine ⟨h1.of (fun a h1 h2 j => hf a (by omega) j), ?_, fun e e1 e2 => by rw [hf2 127 (by decide)]; exact h3 e e1 e2, fun a ha => by rw [hf2 a (by omega)]; exact h4 a ha, by rw [hf2 121 (by decide)]; exact h5⟩
  unfold bqK
  rw [hf2 121 (by decide), hf2 125 (by decide)]; exact h2
/-- a way tried -/
theorem wg_B (hT : TW (τ 224)) (hK : KW (τ 224)) (hM : MR x0 74 (τ 224)) (h0 : 0 ≤ s) (h1 : s < τ 224 4) (hn : n ≤ 6) (hV : bqV τ s n d (x 123)) (hI : icI τ s n z D d x) (hDm : ∀ e v, bqV τ s n e v → D e v → e < d ∨ (e = d ∧ wqG d v (x 123))) :
    icI τ s n z (fun e v => D e v ∨ (e = d ∧ wqE d v (x 123))) d (wg (go (mWay x 74 123 8 s ((d : Nat) : Int)) 96 74) s ((d : Nat) : Int)) ∧ wg (go (mWay x 74 123 8 s ((d : Nat) : Int)) 96 74) s ((d : Nat) : Int) 123 = x 123 := by
  obtain ⟨r1, r2, r3⟩ := hV.rg hT h0 h1 hn
  obtain ⟨⟨e0, v0, y, p1, p2, p3⟩, i2, i3, i4, i5⟩ := hI
  have q1 := MR_wayW hT p1 p2 p3 h0 h1 r1 r2
  have q2 := p1.pts hT p2 h0 h1 r1 r2 (x 123)
  have q3 := PtW.tw hT p1 p2 h0 h1 r1 r2 r3
  have hc := pw_class hT hK hM h0 h1 r1 r2 r3 (wqE.rf d (x 123)) q2 q3 q1
  have f0 : ∀ a, a ≠ 93 → a ≠ 95 → ∀ j, mWay x 74 123 8 s ((d : Nat) : Int) a j = x a j := fun a h1 h2 j => mWay_ne _ _ _ _ _ _ h1 h2 j
  have f1 : ∀ a, (a < 96 ∨ 121 ≤ a) → ∀ j, go (mWay x 74 123 8 s ((d : Nat) : Int)) 96 74 a j = mWay x 74 123 8 s ((d : Nat) : Int) a j := fun a ha j => go_off _ a (by omega) j
  have f2 : ∀ a, (a < 74 ∨ 121 ≤ a) → ∀ j, go (mWay x 74 123 8 s ((d : Nat) : Int)) 96 74 a j = x a j := fun a ha j => (f1 a (by omega) j).trans (f0 a (by omega) (by omega) j)
  have q4 : MR (go (mWay x 74 123 8 s ((d : Nat) : Int)) 96 74) 74 (nPts (laW y (x 123)) s ((d : Nat) : Int) 224) := q1.of (fun a h1 h2 j => f1 a (by omega) j)
  generalize go (mWay x 74 123 8 s ((d : Nat) : Int)) 96 74 = g at hc f2 q4 ⊢
  have w1 : ∀ a, (a ≠ 127) → ∀ j, wg1 g s ((d : Nat) : Int) a j = g a j := fun a ha j => by unfold wg1; exact rPut_ne ha
  have w127 : ∀ j, wg1 g s ((d : Nat) : Int) 127 j = if j = d then min (x 127 d) (pwW τ s d (x 123)) else x 127 j := fun j => by
    unfold wg1
    rw [rPut_at (by omega) (by omega), rAt_nt (by omega), hc.1, f2 127 (by omega), f2 127 (by omega)]
    by_cases q : j = d
    · rw [if_pos (by omega), if_pos q]
    · rw [if_neg (by omega), if_neg q]
  have c6 : wg1 g s ((d : Nat) : Int) 121 6 = x 121 6 := by rw [w1 121 (by decide), f2 121 (by omega)]
  have c5 : wg1 g s ((d : Nat) : Int) 121 5 = x 121 5 := by rw [w1 121 (by decide), f2 121 (by omega)]
  have c7 : wg1 g s ((d : Nat) : Int) 121 7 = x 121 7 := by rw [w1 121 (by decide), f2 121 (by omega)]
  have L : ∀ e : Nat, 1 ≤ e → e ≤ d → lwB τ s n (fun e v => D e v ∨ (e = d ∧ wqE d v (x 123))) e (wg1 g s ((d : Nat) : Int) 127 e) := by
    intro e e1 e2
    have o := i3 e e1 e2
    rw [w127]
    by_cases q : e = d
    · rw [if_pos q]
      subst q
      refine ⟨fun v hv hE => ?_, ?_⟩
      · rcases hE with hE | ⟨_, hE⟩
        · have := o.1 v hv hE; omega
        · rw [(bqE_p hT hK hM h0 h1 hn hv hE).1]; omega
      · by_cases q2 : x 127 e ≤ pwW τ s e (x 123)
        · rw [show min (x 127 e) (pwW τ s e (x 123)) = x 127 e by omega]
          rcases o.2 with o | ⟨v, o1, o2, o3⟩
          · exact Or.inl o
          · exact Or.inr ⟨v, o1, Or.inl o2, o3⟩
        · rw [show min (x 127 e) (pwW τ s e (x 123)) = pwW τ s e (x 123) by omega]
          exact Or.inr ⟨x 123, hV, Or.inr ⟨rfl, wqE.rf _ _⟩, rfl⟩
    · rw [if_neg q]
      exact o.cg (fun v hv => ⟨fun z => Or.inl z, fun z => by rcases z with z | ⟨z, _⟩; exact z; exact absurd z q⟩)
  unfold wg
  rw [hc.2, c6, c5]
  by_cases q : x 121 6 = 0 ∨ pwP τ s d (x 123) < x 121 5
  · rw [if_pos q]
    have k : ∀ a, a ≠ 121 → a ≠ 125 → ∀ j, rCopy (su (su (wg1 g s ((d : Nat) : Int)) 121 5 (pwP τ s d (x 123))) 121 6 ((d : Nat) : Int)) 125 123 8 a j = wg1 g s ((d : Nat) : Int) a j := fun a h1 h2 j => by
      rw [rCopy_ne h2, su_ne _ _ (Or.inl h1), su_ne _ _ (Or.inl h1)]
    have k125 : wqE d (rCopy (su (su (wg1 g s ((d : Nat) : Int)) 121 5 (pwP τ s d (x 123))) 121 6 ((d : Nat) : Int)) 125 123 8 125) (x 123) := fun i hi => by
      rw [rCopy_at, if_pos ⟨rfl, by omega⟩, su_ne _ _ (Or.inl (by decide)), su_ne _ _ (Or.inl (by decide)), w1 123 (by decide), f2 123 (by omega)]
    have k6 : rCopy (su (su (wg1 g s ((d : Nat) : Int)) 121 5 (pwP τ s d (x 123))) 121 6 ((d : Nat) : Int)) 125 123 8 121 6 = ((d : Nat) : Int) := by rw [rCopy_ne (by decide), su_same]
    have k5 : rCopy (su (su (wg1 g s ((d : Nat) : Int)) 121 5 (pwP τ s d (x 123))) 121 6 ((d : Nat) : Int)) 125 123 8 121 5 = pwP τ s d (x 123) := by rw [rCopy_ne (by decide), su_ne _ _ (Or.inr (by decide)), su_same]
    have k7 : rCopy (su (su (wg1 g s ((d : Nat) : Int)) 121 5 (pwP τ s d (x 123))) 121 6 ((d : Nat) : Int)) 125 123 8 121 7 = x 121 7 := by rw [rCopy_ne (by decide), su_ne _ _ (Or.inr (by decide)), su_ne _ _ (Or.inr (by decide))]; exact c7
    generalize rCopy (su (su (wg1 g s ((d : Nat) : Int)) 121 5 (pwP τ s d (x 123))) 121 6 ((d : Nat) : Int)) 125 123 8 = u at k k125 k6 k5 k7 ⊢
    refine ⟨⟨⟨d, x 123, _, q2, q3, q4.of (fun a h1 h2 j => by rw [k a (by omega) (by omega), w1 a (by omega)])⟩, Or.inr ⟨d, k6, ?_⟩, fun e e1 e2 => by rw [k 127 (by decide) (by decide)]; exact L e e1 e2, fun a ha => ?_, k7.trans i5⟩, ?_⟩
    · rw [k5]
      refine bq_new hT hK hM h0 h1 hn hV k125 ?_
      rcases i2 with ⟨_, i2⟩ | ⟨m, i2, i6⟩
      · exact Or.inl i2
      · refine Or.inr ⟨m, _, _, i6, Or.inl ?_⟩
        rcases q with q | q
        · exfalso
          have := (i6.1.1.rg hT h0 h1 hn).1
          omega
        · exact q
    · rw [← i4 a ha]
      funext j
      rw [k a (by omega) (by omega), w1 a (by omega), f2 a (by omega)]
    · funext j
      rw [k 123 (by decide) (by decide), w1 123 (by decide), f2 123 (by omega)]
  · rw [if_neg q]
    refine ⟨⟨⟨d, x 123, _, q2, q3, q4.of (fun a h1 h2 j => by rw [w1 a (by omega)])⟩, Or.inr ?_, L, fun a ha => ?_, c7.trans i5⟩, ?_⟩
    · rcases i2 with ⟨i2, _⟩ | ⟨m, i2, i6⟩
      · exact absurd (Or.inl i2) q
      · refine ⟨m, by rw [c6]; exact i2, ?_⟩
        have c125 : wg1 g s ((d : Nat) : Int) 125 = x 125 := funext fun j => by rw [w1 125 (by decide), f2 125 (by omega)]
        rw [c5, c125]
        have hmd : m ≤ d := by rcases hDm m _ i6.1.1 i6.1.2.1 with t | ⟨t, _⟩ <;> omega
        refine bq_old hT hK hM h0 h1 hn i6 (fun t => ?_) (fun v hv hE => ?_)
        · rcases t with t | ⟨_, t⟩
          · exact q (Or.inr t)
          · omega
        · rcases hDm d v hv hE with t | ⟨_, t⟩
          · omega
          · exact t
    · rw [← i4 a ha]
      funext j
      rw [w1 a (by omega), f2 a (by omega)]
    · funext j
      rw [w1 123 (by decide), f2 123 (by omega)]
/-- after t ways -/
def icS (τ : Sg) (s n : Int) (z : Sg) (d t : Nat) (x : Int × Sg) : Prop :=
  (x.1 = 0 ∧ icI τ s n z (fun e _ => e ≤ d) d x.2) ∨ (x.1 = 1 ∧ bqV τ s n d (x.2 123) ∧ icI τ s n z (fun e v => e < d ∨ (e = d ∧ wqG d v (x.2 123))) d x.2 ∧ (d = 1 → t = 0) ∧ (nOf τ s 0 ≤ 30 → wqK d (x.2 123) + ((t : Nat) : Int) ≤ 400000))
theorem skW_B (hT : TW (τ 224)) (hK : KW (τ 224)) (hM : MR x0 74 (τ 224)) (h0 : 0 ≤ s) (h1 : s < τ 224 4) (hn : n ≤ 6) {t : Nat} {x : Int × Sg} (h : icS τ s n z d t x) (i : Nat) : icS τ s n z d (t + 1) (skW s ((d : Nat) : Int) i x) := by
  have ho := hT.of h0 h1
  rw [skW]
  rcases h with ⟨h2, h3⟩ | ⟨h2, hV, hI, h5, h6⟩
  · rw [if_pos h2]; exact Or.inl ⟨h2, h3⟩
  · rw [if_neg (by omega)]
    obtain ⟨r1, r2, r3⟩ := hV.rg hT h0 h1 hn
    obtain ⟨g1, g2⟩ := wg_B hT hK hM h0 h1 hn hV hI (fun e v _ hE => hE)
    generalize wg (go (mWay x.2 74 123 8 s ((d : Nat) : Int)) 96 74) s ((d : Nat) : Int) = u at g1 g2 ⊢
    have hv : wqV (nOf τ s 0) d (u 123) := by rw [g2]; exact hV.1
    rcases fnF_all r1 ho.1.2 hv with ⟨f1, f2, f3⟩ | ⟨f1, f2, f3, f4, f5, f6⟩
    · refine Or.inl ⟨f1, ?_⟩
      rw [f2]
      rw [g2] at f3
      refine g1.cg (fun e v hE => ⟨fun q => ?_, fun q => ?_⟩)
      · rcases q with (q | ⟨q, _⟩) | ⟨q, _⟩ <;> omega
      · by_cases q1 : e = d
        · subst q1
          rcases wqG_tri v (x.2 123) e with q2 | q2 | q2
          · exact Or.inr ⟨rfl, q2⟩
          · exact Or.inl (Or.inr ⟨rfl, q2⟩)
          · exact absurd q2 (f3 v hE.1)
        · exact Or.inl (Or.inl (by omega))
    · have g3 := g1.w f6
      rw [g2] at f4 f5
      generalize fnF u ((d : Nat) : Int) = r at f1 f3 f4 f5 f6 g3 ⊢
      refine Or.inr ⟨f1, ⟨f3, hV.2⟩, ?_, fun q => by omega, fun q => ?_⟩
      · refine g3.cg (fun e v hE => ⟨fun q => ?_, fun q => ?_⟩)
        · rcases q with (q | ⟨q, q2⟩) | ⟨q, q2⟩
          · exact Or.inl q
          · exact Or.inr ⟨q, q2.trans f4⟩
          · exact Or.inr ⟨q, f4.cg q2.sym (wqE.rf _ _)⟩
        · rcases q with q | ⟨q, q2⟩
          · exact Or.inl (Or.inl q)
          · subst q
            rcases wqG_tri v (x.2 123) e with q3 | q3 | q3
            · exact Or.inr ⟨rfl, q3⟩
            · exact Or.inl (Or.inr ⟨rfl, q3⟩)
            · exact absurd q2 (f5 v hE.1 q3)
      · have := wqK_lt hV.1 f3 q (by have := hV.2.1; omega) f4
        have := h6 q
        omega
/-- all ways into i + 1 pieces -/
theorem skS_B (hT : TW (τ 224)) (hK : KW (τ 224)) (hM : MR x0 74 (τ 224)) (h0 : 0 ≤ s) (h1 : s < τ 224 4) (hn : n ≤ 6) (hq : 1 < n → nOf τ s 0 ≤ 30) {M : Nat} (hMM : M = 1000000) {i : Nat} (hV : ((i + 1 : Nat) : Int) ≤ nOf τ s 0 ∧ ((i + 1 : Nat) : Int) ≤ n ∧ Bs τ s + ((i + 1 : Nat) : Int) ≤ 60) (hI : icI τ s n z (fun e _ => e ≤ i) i x) : icI τ s n z (fun e _ => e ≤ i + 1) (i + 1) (skS s M i x) := by
  have ho := hT.of h0 h1
  unfold skS skI
  have ed : ((i : Nat) : Int) + 1 = ((i + 1 : Nat) : Int) := by omega
  rw [ed]
  have hd8 : 1 ≤ i + 1 ∧ i + 1 ≤ 8 := by omega
  have hI0 := hI
  obtain ⟨⟨e0, v0, y, p1, p2, p3⟩, i2, i3, i4, i5⟩ := hI
  obtain ⟨g1, g2, g3, g4, g5, g6⟩ := p1.had hT h0 h1
  have f0 : ∀ a j, rPut x 127 9 ((i + 1 : Nat) : Int) 1000000000 a j = if a = 127 ∧ j = i + 1 then 1000000000 else x a j := fun a j => by
    rw [rPut_at (by omega) (by omega)]; rfl
  have hp : rAt (rPut x 127 9 ((i + 1 : Nat) : Int) 1000000000) 81 60 s = nOf τ s 0 := by
    rw [rAt_cg (σ := x) (fun j => by rw [f0, if_neg (by omega)]), (sk_at p2 p3 h0 (by rw [g3]; exact h1)).1]
    exact g6 0 (by decide) (by decide)
  rw [hp]
  obtain ⟨w1, w2⟩ := stF_at (x := rPut x 127 9 ((i + 1 : Nat) : Int) 1000000000) (d := i + 1) (N := nOf τ s 0) hd8 ⟨hV.1, ho.1.2⟩
  generalize hu : stF (rPut x 127 9 ((i + 1 : Nat) : Int) 1000000000) (nOf τ s 0) ((i + 1 : Nat) : Int) = u at w1 w2
  have f1 : ∀ a, a ≠ 123 → a ≠ 127 → u a = x a := fun a ha hb => funext fun j => by rw [w2 a ha, f0, if_neg (fun q => hb q.1)]
  have f127 : ∀ j, u 127 j = if j = i + 1 then 1000000000 else x 127 j := fun j => by
    rw [w2 127 (by decide), f0]
    by_cases q : j = i + 1
    · rw [if_pos ⟨rfl, q⟩, if_pos q]
    · rw [if_neg (fun t => q t.2), if_neg q]
  have hVu : bqV τ s n (i + 1) (u 123) := ⟨(wqF_v (by omega) hV.1).cg w1.sym, hV.2⟩
  have hDe : ∀ e v, bqV τ s n e v → (e ≤ i ↔ e < i + 1 ∨ (e = i + 1 ∧ wqG (i + 1) v (u 123))) := fun e v hE => ⟨fun q => Or.inl (by omega), fun q => by
    rcases q with q | ⟨q, q2⟩
    · omega
    · subst q
      exact absurd (q2.cg (wqE.rf _ _) w1) (wqF_1 hE.1)⟩
  have s0 : icS τ s n z (i + 1) 0 (1, u) := by
    refine Or.inr ⟨rfl, hVu, ⟨⟨e0, v0, y, p1, p2, p3.of (fun a h1 h2 j => by show u a j = x a j; rw [f1 a (by omega) (by omega)])⟩, ?_, fun e e1 e2 => ?_, fun a ha => by show u a = z a; rw [f1 a (by omega) (by omega)]; exact i4 a ha, by show u 121 7 = _; rw [f1 121 (by decide) (by decide)]; exact i5⟩, fun _ => rfl, fun q => ?_⟩
    · show bqK τ s n (fun e v => e < i + 1 ∨ (e = i + 1 ∧ wqG (i + 1) v (u 123))) u
      unfold bqK
      rw [f1 121 (by decide) (by decide), f1 125 (by decide) (by decide)]
      exact i2.cg hDe
    · show lwB τ s n (fun e v => e < i + 1 ∨ (e = i + 1 ∧ wqG (i + 1) v (u 123))) e (u 127 e)
      rw [f127]
      by_cases q : e = i + 1
      · rw [if_pos q]
        subst q
        refine ⟨fun v hv hE => ?_, Or.inl rfl⟩
        have := (hDe _ v hv).mpr hE
        omega
      · rw [if_neg q]
        exact (i3 e e1 (by omega)).cg (hDe e)
    · have := (wqK_rg hVu.1 q).2
      show wqK (i + 1) (u 123) + ((0 : Nat) : Int) ≤ _
      omega
  have key : ∀ t : Nat, icS τ s n z (i + 1) t (itr t (skW s ((i + 1 : Nat) : Int)) (1, u)) := by
    intro t
    induction t with
    | zero => exact s0
    | succ t ih => rw [itr_s]; exact skW_B hT hK hM h0 h1 hn ih t
  rcases key M with ⟨_, k⟩ | ⟨_, k1, _, k3, k4⟩
  · exact k
  · exfalso
    by_cases q : i + 1 = 1
    · have := k3 q; omega
    · have h30 := hq (by omega)
      have := k4 h30
      have := (wqK_rg k1.1 h30).1
      omega
/-- the class's best parting -/
theorem sk_B (hT : TW (τ 224)) (hK : KW (τ 224)) (hM : MR x0 74 (τ 224)) (h0 : 0 ≤ s) (h1 : s < τ 224 4) (hn : 1 ≤ n ∧ n ≤ 6) (hq : 1 < n → nOf τ s 0 ≤ 30) :
    trOK τ s (skF x0 s n) ∧ (∃ m : Nat, skF x0 s n 121 6 = ((m : Nat) : Int) ∧ bqB τ s n (fun _ _ => True) m (skF x0 s n 121 5) (skF x0 s n 125)) ∧ skF x0 s n 121 7 = min n (min (nOf τ s 0) (60 - Bs τ s)) ∧ (∀ e : Nat, 1 ≤ e → ((e : Nat) : Int) ≤ skF x0 s n 121 7 → lwB τ s n (fun _ _ => True) e (skF x0 s n 127 e)) ∧ ∀ a, (a < 74 ∨ 128 ≤ a) → skF x0 s n a = x0 a := by
  have ho := hT.of h0 h1
  have h2 := pt_rg hT h0 h1
  have h6 := hT.p60
  have hB : 0 ≤ Bs τ s ∧ Bs τ s ≤ 59 := by unfold Bs; omega
  have e7 : sk0 x0 s n 121 7 = min n (min (nOf τ s 0) (60 - Bs τ s)) := by
    rw [sk0, su_ne _ _ (Or.inr (by decide)), su_same, (sk_at hT hM h0 h1).1, mBes_at hT hM h0 h1, wr_id (by unfold okI; omega)]
  have f0 : ∀ a, a ≠ 121 → sk0 x0 s n a = x0 a := fun a ha => funext fun j => by rw [sk0, su_ne _ _ (Or.inl ha), su_ne _ _ (Or.inl ha)]
  have e6 : sk0 x0 s n 121 6 = 0 := by rw [sk0, su_same]
  unfold skF sk
  obtain ⟨M, hMM⟩ : ∃ M : Nat, M = skM := ⟨_, rfl⟩
  rw [← hMM]
  have hMM2 : M = 1000000 := hMM
  generalize hz : sk0 x0 s n = z at e7 f0 e6
  have i0 : icI τ s n z (fun e _ => e ≤ 0) 0 z := by
    refine ⟨⟨_, _, τ, PtW.rf hT h0 h1, hT, hM.of (fun a h1 h2 j => by rw [f0 a (by omega)])⟩, Or.inl ⟨e6, fun e v hv hE => ?_⟩, fun e e1 e2 => by omega, fun a _ => rfl, rfl⟩
    have := (hv.rg hT h0 h1 hn.2).1
    omega
  have key : ∀ i : Nat, ((i : Nat) : Int) ≤ z 121 7 → icI τ s n z (fun e _ => e ≤ i) i (itr i (skS s M) z) := by
    intro i
    induction i with
    | zero => intro _; exact i0
    | succ i ih =>
      intro hi
      rw [itr_s]
      exact skS_B hT hK hM h0 h1 hn.2 hq hMM2 (by omega) (ih (by omega))
  have k := key (z 121 7).toNat (by omega)
  have kk := k.cg (D' := fun _ _ => True) (fun e v hv => ⟨fun _ => trivial, fun _ => by
    have a1 := hv.1.lo (k := 0) (by omega)
    have a2 : wqS v 0 = 0 := rfl
    have a3 := hv.2
    show e ≤ (z 121 7).toNat
    omega⟩)
  generalize itr (z 121 7).toNat (skS s M) z = u at kk ⊢
  obtain ⟨k1, k2, k3, k4, k5⟩ := kk
  refine ⟨k1, ?_, k5.trans e7, fun e e1 e2 => k3 e e1 (by rw [k5] at e2; omega), fun a ha => by rw [k4 a ha, f0 a (by omega)]⟩
  rcases k2 with ⟨_, k2⟩ | k2
  · exact absurd trivial (k2 _ _ (bq_none hT h0 h1 hn.1))
  · exact k2
end SB
