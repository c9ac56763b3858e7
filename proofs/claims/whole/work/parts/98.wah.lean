/-! ALIKE, 36: the least fee -/
section FE
variable {σ τ x0 : Sg} {s n : Int} {D D' : Nat → (Nat → Int) → Prop} {d : Nat}
/-- a fee against a way -/
def cvF (τ : Sg) (s W : Int) (e : Nat) (v : Nat → Int) : Int := if 0 < W - nOf τ s 4 * pwW τ s e v then ((W - nOf τ s 4 * pwW τ s e v) + (((e : Nat) : Int) - 1) - 1).tdiv (((e : Nat) : Int) - 1) else 0
/-- the greatest fee so far -/
def fqB (τ : Sg) (s n W b : Int) (D : Nat → (Nat → Int) → Prop) (F : Int) : Prop := (b ≤ F ∧ ∀ e v, bqV τ s n e v → D e v → 2 ≤ e → cvF τ s W e v ≤ F) ∧ (F = b ∨ ∃ e v, bqV τ s n e v ∧ D e v ∧ 2 ≤ e ∧ F = cvF τ s W e v)
def fqM (τ : Sg) (s n W b : Int) (D : Nat → (Nat → Int) → Prop) (y : Sg) : Prop := TW (y 224) ∧ (∃ (e : Nat) (v : Nat → Int), PtW τ s e v y) ∧ fqB τ s n W b D (y 223 37) ∧ (∀ j : Nat, (j = 5 ∨ j = 7 ∨ j = 15 ∨ j = 16) → y 223 j = τ 223 j) ∧ ∀ a, (a = 244 ∨ a = 245 ∨ a = 246 ∨ a = 247 ∨ a = 227 ∨ a = 228 ∨ a = 229) → y a = τ a
theorem fqB.cg {W b F : Int} (h : fqB τ s n W b D F) (hD : ∀ e v, bqV τ s n e v → (D e v ↔ D' e v)) : fqB τ s n W b D' F := by
  refine ⟨⟨h.1.1, fun e v h1 h2 h3 => h.1.2 e v h1 ((hD e v h1).mpr h2) h3⟩, ?_⟩
  rcases h.2 with h | ⟨e, v, h1, h2, h3⟩
  · exact Or.inl h
  · exact Or.inr ⟨e, v, h1, (hD e v h1).mp h2, h3⟩
theorem mul_9w {a b : Int} (ha : 1 ≤ a ∧ a ≤ 9) (hb : 0 ≤ b ∧ b ≤ 100000) : 0 ≤ a * b ∧ a * b ≤ 900000 := by
  refine ⟨Int.mul_nonneg (by omega) hb.1, ?_⟩
  have := Int.mul_le_mul ha.2 hb.2 hb.1 (by decide : (0 : Int) ≤ 9)
  omega
theorem tdiv_rg {a b : Int} (ha : 0 ≤ a) (hb : 1 ≤ b) : 0 ≤ a.tdiv b ∧ a.tdiv b ≤ a := by
  rw [Int.tdiv_eq_ediv_of_nonneg ha]
  refine ⟨Int.ediv_nonneg ha (by omega), Int.ediv_le_self b ha⟩
theorem cvF_0 {W : Int} {e : Nat} {v : Nat → Int} (he : 2 ≤ e) : 0 ≤ cvF τ s W e v := by
  unfold cvF
  split
  · exact (tdiv_rg (by omega) (by omega)).1
  · exact Int.le_refl _
theorem feL_B (hT : TW (τ 224)) (hK : KW (τ 224)) (hM : MR x0 74 (τ 224)) (h0 : 0 ≤ s) (h1 : s < τ 224 4) (hn : n ≤ 3) (hB9 : Bs τ s ≤ 50) {W b : Int} (hW : 0 ≤ W ∧ W ≤ 900000) (hb : 0 ≤ b) {y : Sg} {w : Nat → Int} (hw : wqV (nOf τ s 0) d w) (hdn : ((d : Nat) : Int) ≤ n) (hy : ∀ i, i < d → y 242 i = w i) (hI : fqM τ s n W b (dqB w d) y) : fqM τ s n W b (fun e v => dqB w d e v ∨ dqX w d e v) (feL y s W d) ∧ feL y s W d 242 = y 242 := by
  have ho := hT.of h0 h1
  obtain ⟨hY, ⟨e0, v0, hP⟩, hbest, hfr, hfa⟩ := hI
  obtain ⟨g1, g2, g3, g4, g5, g6⟩ := hP.had hT h0 h1
  have hB : Bs τ s + ((d : Nat) : Int) ≤ 60 := by omega
  have hV : bqV τ s n d w := ⟨hw, hdn, hB⟩
  obtain ⟨hd8, _, hw9⟩ := hV.rg hT h0 h1 (by omega)
  have ht : Tr9 y d := fun i hi => by rw [hy i hi]; exact hw9 i hi
  have hy1 : s < y 224 4 := by rw [g3]; exact h1
  have hDw : ∀ e v, bqV τ s n e v → (dqB w d e v ∨ (e = d ∧ wqE d v w) ↔ dqB w d e v ∨ dqX w d e v) := fun e v hv => by rw [dqX_V hw hv.1]
  rw [feL]
  by_cases q : d = 1
  · rw [if_pos q]
    refine ⟨⟨hY, ⟨e0, v0, hP⟩, fqB.cg (D := fun e v => dqB w d e v ∨ (e = d ∧ wqE d v w)) ⟨⟨hbest.1.1, fun e v hv hE h2 => ?_⟩, ?_⟩ hDw, hfr, hfa⟩, rfl⟩
    · rcases hE with hE | ⟨hE, _⟩
      · exact hbest.1.2 e v hv hE h2
      · omega
    · rcases hbest.2 with t | ⟨e, v, t1, t2, t3⟩
      · exact Or.inl t
      · exact Or.inr ⟨e, v, t1, Or.inl t2, t3⟩
  · rw [if_neg q]
    have hy6 : y 224 668 - nOf y s 6 + ((d : Nat) : Int) ≤ 60 := by
      have : Bs y s + ((d : Nat) : Int) ≤ 60 := by rw [g4]; exact hB
      exact this
    have k1 := jg1_kp hY h0 hy1 hd8 ht hy6
    have k2 := jg2_kp hY h0 hy1 hd8 ht hy6
    have hrow : ∀ i, i < d → itr d jgS y 230 i = w i := fun i hi => by rw [jgS_at d y i hi, hy i hi]
    have hP1 : PtW τ s e0 v0 (itr d jgS y) := hP.of (jgS_ne d y (by decide))
    have e1 : itr d jgS y 224 = y 224 := jgS_ne d y (by decide)
    have hPw : PtW τ s d (itr d jgS y 230) (jg1 y s d) := by
      have := hP1.pts hT (by rw [e1]; exact hY) h0 h1 hd8 hB (itr d jgS y 230)
      rw [laW_id] at this
      exact this
    have hp := pw_at hT hK hM h0 h1 hd8 hB hw9 (fun i hi => (hrow i hi).symm) hPw k1.1
    change nWa (jg2 y s d) s = _ at hp
    have e2 : jg2 y s d 224 = jg1 y s d 224 := nRu_224 k1.1
    have hp2 : itr d jgS y 224 668 - nOf (itr d jgS y) s 6 + ((d : Nat) : Int) ≤ 60 := by rw [nOf_of e1, e1]; exact hy6
    have h12 : s < itr d jgS y 224 4 := by rw [e1]; exact hy1
    have hT2 : TW (itr d jgS y 224) := by rw [e1]; exact hY
    have f1 : ∀ j, (j ≠ 27 ∧ j ≠ 28) → jg2 y s d 223 j = y 223 j := fun j hj => by
      rw [jg2, nRu_223 _ hj, jg1, nPts_223 hT2 h0 h12 (by omega) hp2, jgS_ne d y (by decide)]
    have f2 : ∀ a, (a = 244 ∨ a = 245 ∨ a = 246 ∨ a = 247 ∨ a = 227 ∨ a = 228 ∨ a = 229) → jg2 y s d a = y a := fun a ha => by rw [jg2, nRu_ne _ (by omega), jg1, nPts_ne hT2 h0 h12 (by omega) hp2 (by omega), jgS_ne d y (by omega)]
    have eo4 : nOf (jg2 y s d) s 4 = nOf τ s 4 := by
      rw [nOf_of e2]
      exact (hPw.had hT h0 h1).2.2.2.2.2 4 (by decide) (by decide)
    have hwt := pw_rg hT h0 h1 hd8 hB hw9
    have hm := mul_9w ho.2.2.2.2.1 hwt
    have eG : feG (jg2 y s d) s W = W - nOf τ s 4 * pwW τ s d w := by
      unfold feG
      rw [hp, eo4, wr_id (show okI (nOf τ s 4 * pwW τ s d w) by unfold okI; omega), wr_id (by unfold okI; omega)]
    have hF0 : 0 ≤ y 223 37 := by have := hbest.1.1; omega
    have eF : feU (jg2 y s d) s W d 223 37 = max (y 223 37) (cvF τ s W d w) := by
      unfold feU cvF
      rw [eG]
      by_cases z : 0 < W - nOf τ s 4 * pwW τ s d w
      · rw [if_pos z, if_pos z, su_same, f1 37 (by decide)]
        have hr := tdiv_rg (a := (W - nOf τ s 4 * pwW τ s d w) + (((d : Nat) : Int) - 1) - 1) (b := ((d : Nat) : Int) - 1) (by omega) (by omega)
        rw [wr_id (show okI (W - nOf τ s 4 * pwW τ s d w + ((d : Nat) : Int)) by unfold okI; omega), wr_id (show okI (W - nOf τ s 4 * pwW τ s d w + ((d : Nat) : Int) - 2) by unfold okI; omega), show W - nOf τ s 4 * pwW τ s d w + ((d : Nat) : Int) - 2 = W - nOf τ s 4 * pwW τ s d w + (((d : Nat) : Int) - 1) - 1 by omega, wr_id (by unfold okI; omega)]
      · rw [if_neg z, if_neg z, f1 37 (by decide)]; omega
    have eN : ∀ j, j ≠ 37 → feU (jg2 y s d) s W d 223 j = jg2 y s d 223 j := fun j hj => by
      unfold feU; split
      · exact su_ne _ _ (Or.inr hj)
      · rfl
    have eA : ∀ a, a ≠ 223 → feU (jg2 y s d) s W d a = jg2 y s d a := fun a ha => feU_ne _ _ _ _ ha
    refine ⟨⟨by rw [eA 224 (by decide)]; exact k2.1, ⟨d, _, hPw.of ((eA 224 (by decide)).trans e2)⟩, ?_, fun j hj => by rw [eN j (by omega), f1 j (by omega)]; exact hfr j hj, fun a ha => by rw [eA a (by omega), f2 a ha]; exact hfa a ha⟩, by rw [eA 242 (by decide)]; exact k2.2.2⟩
    rw [eF]
    refine fqB.cg (D := fun e v => dqB w d e v ∨ (e = d ∧ wqE d v w)) ⟨⟨by have := hbest.1.1; omega, fun e v hv hE h2 => ?_⟩, ?_⟩ hDw
    · rcases hE with hE | ⟨rfl, hE⟩
      · have := hbest.1.2 e v hv hE h2; omega
      · have : cvF τ s W e v = cvF τ s W e w := by
          unfold cvF
          rw [(bqE_p hT hK hM h0 h1 (by omega) hv hE).1]
        omega
    · by_cases z : cvF τ s W d w ≤ y 223 37
      · rw [show max (y 223 37) (cvF τ s W d w) = y 223 37 by omega]
        rcases hbest.2 with t | ⟨e, v, t1, t2, t3⟩
        · exact Or.inl t
        · exact Or.inr ⟨e, v, t1, Or.inl t2, t3⟩
      · rw [show max (y 223 37) (cvF τ s W d w) = cvF τ s W d w by omega]
        exact Or.inr ⟨d, w, hV, Or.inr ⟨rfl, wqE.rf _ _⟩, by omega, rfl⟩
/-- the model's fee for one sack; Y: behind the run -/
theorem feF_B (hT : TW (τ 224)) (hK : KW (τ 224)) (hM : MR x0 74 (τ 224)) (h0 : 0 ≤ s) (h1 : s < τ 224 4) (hn : 2 ≤ n ∧ n ≤ 3) (hB9 : Bs τ s ≤ 50) {W : Int} (hW : 0 ≤ W ∧ W ≤ 900000) (hb : 0 ≤ τ 223 37) : fqM τ s n W (τ 223 37) (fun _ _ => True) (feF s n W 4 (nOf τ s 0) (nOf τ s 0) 0 τ) := by
  have ho := hT.of h0 h1
  have i0 : fqM τ s n W (τ 223 37) (fun _ _ => False) τ := ⟨hT, ⟨_, _, PtW.rf hT h0 h1⟩, ⟨⟨Int.le_refl _, fun _ _ _ z => z.elim⟩, Or.inl rfl⟩, fun _ _ => rfl, fun _ _ => rfl⟩
  rw [feF_dq]
  exact dq_top (L := fun d σ => feL σ s W d) (n := n) (N := nOf τ s 0) (Inv := fqM τ s n W (τ 223 37))
    (fun D D' x h hD => ⟨h.1, h.2.1, h.2.2.1.cg (fun e v hv => hD e v hv.1 hv.2.1), h.2.2.2⟩)
    (fun D x k c h => by
      obtain ⟨a1, ⟨e0, v0, a2⟩, a3, a4, a5⟩ := h
      exact ⟨a1, ⟨e0, v0, a2.of rfl⟩, a3, a4, fun a ha => (funext fun j => su_ne _ _ (Or.inl (by omega))).trans (a5 a ha)⟩)
    (fun x d w hw hd hx hI => feL_B hT hK hM h0 h1 hn.2 hB9 hW hb hw hd hx hI)
    4 τ (by omega) (by omega) (by omega) i0
/-- more to gain, more to pay -/
theorem tdiv_mono {a b c : Int} (h0 : 0 ≤ a) (h : a ≤ b) (hc : 1 ≤ c) : a.tdiv c ≤ b.tdiv c := by
  rw [Int.tdiv_eq_ediv_of_nonneg h0, Int.tdiv_eq_ediv_of_nonneg (by omega)]
  exact Int.ediv_le_ediv (by omega) h
theorem faF_all (x : Sg) (s : Int) (f : Nat → Int) : ∀ k : Nat, (∀ i, i < k → faS x s i = fun c => max c (f i)) → (0 ≤ itr k (faS x s) 0 ∧ ∀ i, i < k → f i ≤ itr k (faS x s) 0) ∧ (itr k (faS x s) 0 = 0 ∨ ∃ i, i < k ∧ itr k (faS x s) 0 = f i) := by
  intro k
  induction k with
  | zero => intro _; exact ⟨⟨Int.le_refl _, fun i hi => by omega⟩, Or.inl rfl⟩
  | succ k ih =>
    intro hf
    obtain ⟨⟨i1, i2⟩, i3⟩ := ih (fun i hi => hf i (by omega))
    rw [itr_s, hf k (by omega)]
    show (0 ≤ max (itr k (faS x s) 0) (f k) ∧ ∀ i, i < k + 1 → f i ≤ max (itr k (faS x s) 0) (f k)) ∧ (max (itr k (faS x s) 0) (f k) = 0 ∨ ∃ i, i < k + 1 ∧ max (itr k (faS x s) 0) (f k) = f i)
    generalize itr k (faS x s) 0 = c at i1 i2 i3 ⊢
    refine ⟨⟨by omega, fun i hi => ?_⟩, ?_⟩
    · by_cases z : i = k
      · rw [z]; omega
      · have := i2 i (by omega); omega
    · by_cases z : f k ≤ c
      · rw [show max c (f k) = c by omega]
        rcases i3 with i3 | ⟨i, i3, i4⟩
        · exact Or.inl i3
        · exact Or.inr ⟨i, by omega, i4⟩
      · exact Or.inr ⟨k, by omega, by omega⟩
theorem fe_ix {e : Nat} {m : Int} (h1 : 2 ≤ e) (h2 : ((e : Nat) : Int) ≤ m) : e - 2 < (m - 1).toNat := by omega
/-- the least fee of one sack, both -/
theorem fee_one (hT : TW (τ 224)) (hK : KW (τ 224)) (hM : MR x0 74 (τ 224)) (h0 : 0 ≤ s) (h1 : s < τ 224 4) (hn : 2 ≤ n ∧ n ≤ 3) (hB9 : Bs τ s ≤ 30) (h30 : nOf τ s 0 ≤ 30) {F : Int} {b : Int} (hb : 0 ≤ b) (hF : fqB τ s n (nOf τ s 4 * pwW τ s 1 (wqF (nOf τ s 0) 1)) b (fun _ _ => True) F) : max b (faF (skF x0 s n) s) = F := by
  have ho := hT.of h0 h1
  obtain ⟨⟨e0, v0, y, p1, p2, p3⟩, _, k4, k5, k6⟩ := sk_B (n := n) hT hK hM h0 h1 (by omega) (fun _ => h30)
  have hv1 := bq_none hT h0 h1 (show 1 ≤ n by omega)
  have ew : rAt (skF x0 s n) 89 60 s = nOf τ s 4 := by
    obtain ⟨g1, g2, g3, g4, g5, g6⟩ := p1.had hT h0 h1
    rw [← g6 4 (by decide) (by decide)]
    exact (sk_at p2 p3 h0 (by rw [g3]; exact h1)).2.2.2.2.1
  generalize skF x0 s n = x at k4 k5 ew ⊢
  have hm7 : 1 ≤ x 121 7 ∧ x 121 7 ≤ 3 := by omega
  -- the waits
  have L : ∀ e : Nat, 1 ≤ e → ((e : Nat) : Int) ≤ x 121 7 → (0 ≤ x 127 e ∧ x 127 e ≤ 100000) ∧ (∀ v, bqV τ s n e v → x 127 e ≤ pwW τ s e v) ∧ ∃ v, bqV τ s n e v ∧ x 127 e = pwW τ s e v := by
    intro e e1 e2
    have l := k5 e e1 e2
    have hv : bqV τ s n e (wqF (nOf τ s 0) e) := ⟨wqF_v e1 (by omega), by omega, by omega⟩
    have rg : ∀ v, bqV τ s n e v → 0 ≤ pwW τ s e v ∧ pwW τ s e v ≤ 100000 := fun v hv => by
      obtain ⟨r1, r2, r3⟩ := hv.rg hT h0 h1 (by omega)
      exact pw_rg hT h0 h1 r1 r2 r3
    have h3 := l.1 _ hv trivial
    have h4 := rg _ hv
    rcases l.2 with l2 | ⟨v, l2, _, l3⟩
    · omega
    · have := rg v l2
      exact ⟨by omega, fun v hv => l.1 v hv trivial, v, l2, l3⟩
  have L1 := L 1 (Nat.le_refl _) (by omega)
  have e1 : x 127 1 = pwW τ s 1 (wqF (nOf τ s 0) 1) := by
    obtain ⟨v, v1, v2⟩ := L1.2.2
    rw [v2]
    refine (bqE_p hT hK hM h0 h1 (by omega) v1 (fun i hi => ?_)).1
    have a := v1.1.2.2
    have c := hv1.1.2.2
    change (0 : Int) + v 0 = _ at a
    change (0 : Int) + wqF (nOf τ s 0) 1 0 = _ at c
    rw [show i = 0 by omega]; omega
  rw [← e1] at hF
  generalize hW : nOf τ s 4 * x 127 1 = W at hF
  have hWr := mul_9w ho.2.2.2.2.1 L1.1
  rw [hW] at hWr
  -- each length
  have step : ∀ i : Nat, i < (x 121 7 - 1).toNat → faS x s i = fun c => max c (if 0 < W - nOf τ s 4 * x 127 (i + 2) then ((W - nOf τ s 4 * x 127 (i + 2)) + (((i + 2 : Nat) : Int) - 1) - 1).tdiv (((i + 2 : Nat) : Int) - 1) else 0) := by
    intro i hi
    have l := L (i + 2) (by omega) (by omega)
    have hm := mul_9w ho.2.2.2.2.1 l.1
    funext c
    rw [faS, ew]
    congr 1
    have r1 : rAt x 127 9 1 = x 127 1 := rAt_lt (by omega) (by omega)
    have r2 : rAt x 127 9 (((i : Nat) : Int) + 2) = x 127 (i + 2) := by rw [rAt_lt (by omega) (by omega)]; rfl
    have ed : nOf τ s 4 * (x 127 1 - x 127 (i + 2)) = W - nOf τ s 4 * x 127 (i + 2) := by rw [Int.mul_sub, hW]
    rw [r1, r2, wr_id (show okI (x 127 1 - x 127 (i + 2)) by unfold okI; omega), ed, wr_id (show okI (W - nOf τ s 4 * x 127 (i + 2)) by unfold okI; omega), wr_id (show okI (((i : Nat) : Int) + 2 - 1) by unfold okI; omega)]
    generalize nOf τ s 4 * x 127 (i + 2) = M at hm ⊢
    unfold dvU
    by_cases z : 0 < W - M
    · have hr := tdiv_rg (a := W - M + (((i + 2 : Nat) : Int) - 1) - 1) (b := ((i + 2 : Nat) : Int) - 1) (by omega) (by omega)
      rw [if_pos (show 0 < ((i : Nat) : Int) + 2 - 1 ∧ 0 < W - M from ⟨by omega, z⟩), if_pos z, wr_id (show okI (W - M + (((i : Nat) : Int) + 2 - 1)) by unfold okI; omega), wr_id (show okI (W - M + (((i : Nat) : Int) + 2 - 1) - 1) by unfold okI; omega), show ((i : Nat) : Int) + 2 - 1 = ((i + 2 : Nat) : Int) - 1 by omega, wr_id (by unfold okI; omega)]
    · rw [if_neg (fun t => z t.2), if_neg z]
  obtain ⟨⟨a1, a2⟩, a3⟩ := faF_all x s _ _ step
  change 0 ≤ faF x s at a1
  change ∀ i, i < (x 121 7 - 1).toNat → _ ≤ faF x s at a2
  change faF x s = 0 ∨ ∃ i, i < (x 121 7 - 1).toNat ∧ faF x s = _ at a3
  apply Int.le_antisymm
  · rcases a3 with a3 | ⟨i, a3, a4⟩
    · have := hF.1.1; omega
    · obtain ⟨v, v1, v2⟩ := (L (i + 2) (by omega) (by omega)).2.2
      have := hF.1.2 (i + 2) v v1 trivial (by omega)
      unfold cvF at this
      rw [← v2] at this
      have := hF.1.1
      omega
  · rcases hF.2 with t | ⟨e, v, t1, _, t2, t3⟩
    · omega
    · have a := t1.1.lo (k := 0) (by omega)
      have a0 : wqS v 0 = 0 := rfl
      have a5 := t1.2
      have l := L e (by omega) (by omega)
      have hem : ((e : Nat) : Int) ≤ x 121 7 := by omega
      have h2 := a2 (e - 2) (fe_ix t2 hem)
      rw [show e - 2 + 2 = e by omega] at h2
      have l2 := l.2.1 v t1
      have hmm : nOf τ s 4 * x 127 e ≤ nOf τ s 4 * pwW τ s e v := Int.mul_le_mul_of_nonneg_left l2 (by omega)
      rw [t3]
      unfold cvF
      by_cases z : 0 < W - nOf τ s 4 * pwW τ s e v
      · rw [if_pos z]
        rw [if_pos (by omega)] at h2
        have := tdiv_mono (a := W - nOf τ s 4 * pwW τ s e v + (((e : Nat) : Int) - 1) - 1) (b := W - nOf τ s 4 * x 127 e + (((e : Nat) : Int) - 1) - 1) (c := ((e : Nat) : Int) - 1) (by omega) (by omega) (by omega)
        omega
      · rw [if_neg z]; omega
end FE
