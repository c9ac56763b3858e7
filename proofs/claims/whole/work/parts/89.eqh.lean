/-! ALIKE, 20: the draft and the row that is read afresh -/
section DRs
variable {σ σ' τ : Sg} {t t' : Nat → Int}
def DR (σ : Sg) (t : Nat → Int) : Prop :=
  (σ 51 1 = t 0 ∧ σ 51 2 = t 1 ∧ σ 51 3 = t 2 ∧ σ 51 4 = t 3 ∧ σ 51 5 = t 4) ∧
  (σ 52 1 = t 8 ∧ σ 52 2 = t 17 ∧ ∀ k : Nat, ((k : Nat) : Int) < t 8 → σ 54 k = t (9 + k)) ∧
  (∀ k : Nat, ((k : Nat) : Int) < t 1 → σ 56 k = t (5 + k)) ∧
  ∀ s : Nat, ((s : Nat) : Int) < t 4 → σ 58 s = t (20 + 7 * s + 0) ∧ σ 60 s = t (20 + 7 * s + 1) ∧ σ 62 s = t (20 + 7 * s + 2) ∧ σ 64 s = t (20 + 7 * s + 3) ∧ σ 66 s = t (20 + 7 * s + 4) ∧ σ 68 s = t (20 + 7 * s + 5) ∧ σ 70 s = t (20 + 7 * s + 6) ∧ σ 72 (8 * s) = t (608 + s)
/-- in bounds, every sack whole -/
def DW (t : Nat → Int) : Prop :=
  ((0 ≤ t 1 ∧ t 1 ≤ 3) ∧ (0 ≤ t 2 ∧ t 2 ≤ 60) ∧ (0 ≤ t 3 ∧ t 3 ≤ 99) ∧ (0 ≤ t 4 ∧ t 4 ≤ 24) ∧ (0 ≤ t 8 ∧ t 8 ≤ 8) ∧ (0 ≤ t 17 ∧ t 17 ≤ 99) ∧ t 668 = t 4) ∧
  (∀ k : Nat, ((k : Nat) : Int) < t 1 → 1 ≤ t (5 + k) ∧ t (5 + k) ≤ 9) ∧
  (∀ s : Nat, ((s : Nat) : Int) < t 4 → TSk t s ∧ tM t s = 1 ∧ 1 ≤ t (608 + s) ∧ t (608 + s) ≤ 99) ∧ KW t
theorem DW.pre (h : DW t) : ∀ n : Nat, ((n : Nat) : Int) ≤ t 4 → tPre t n = ((n : Nat) : Int) := by
  intro n
  induction n with
  | zero => intro _; rfl
  | succ n ih =>
    intro hn
    have e : tPre t (n + 1) = tPre t n + tM t n := rfl
    rw [e, ih (by omega), (h.2.2.1 n (by omega)).2.1]
    omega
theorem DW.tw (h : DW t) : TW t := by
  have hp := h.pre
  obtain ⟨⟨h1, h2, h3, h4, h8, h17, h668⟩, hp2, hs, hk⟩ := h
  refine ⟨h1, h2, h3, by omega, h8, h17, hp2, fun s q => (hs s q).1, ⟨?_, by omega⟩, fun p q => (hs p (by omega)).2.2⟩
  rw [hp _ (by omega)]; omega
/-- the draft with its stones stood up is a mill as the row tells -/
theorem DR.mr (h : DR σ t) (w : DW t) : MR (mStand σ 51) 51 t := by
  have hp := w.pre
  obtain ⟨⟨a1, a2, a3, a4, a5⟩, ⟨b1, b2, b3⟩, c, d⟩ := h
  obtain ⟨⟨h1, h2, h3, h4, h8, h17, h668⟩, hp2, hs, hk⟩ := w
  have e : ∀ a j : Nat, mStand σ 51 a j = if t 1 = 0 then (if a = 51 ∧ j = 2 then 1 else if a = 56 ∧ j = 0 then 1 else σ a j) else σ a j := by
    intro a j
    unfold mStand
    rw [a2]
    by_cases q : t 1 = 0
    · rw [if_pos q, if_pos q]
      unfold mStone
      rw [a2, q]
      have r : rPut σ (51 + 5) 3 0 1 51 2 = 0 := by rw [rPut_ne (by decide), a2, q]
      rw [r]
      by_cases z : a = 51 ∧ j = 2
      · rw [if_pos z, z.1, z.2, su_same]; decide
      · rw [if_neg z, su_ne _ _ (by omega), rPut_at (by decide) (by decide)]
        by_cases z2 : a = 56 ∧ j = 0
        · rw [if_pos z2, if_pos (show (a = 51 + 5 ∧ j = (0 : Int).toNat) from z2)]
        · rw [if_neg z2, if_neg (show ¬ (a = 51 + 5 ∧ j = (0 : Int).toNat) from z2)]
    · rw [if_neg q, if_neg q]
  have e2 : ∀ a j : Nat, a ≠ 51 → a ≠ 56 → mStand σ 51 a j = σ a j := fun a j q1 q2 => by
    rw [e, if_neg (show ¬ (a = 51 ∧ j = 2) by omega), if_neg (show ¬ (a = 56 ∧ j = 0) by omega)]
    split <;> rfl
  have e3 : ∀ j : Nat, j ≠ 2 → mStand σ 51 51 j = σ 51 j := fun j q1 => by
    rw [e, if_neg (show ¬ (51 = 51 ∧ j = 2) by omega), if_neg (show ¬ (51 = 56 ∧ j = 0) by omega)]
    split <;> rfl
  refine ⟨⟨by rw [e3 1 (by decide)]; exact a1, ?_, by rw [e3 3 (by decide)]; exact a3, by rw [e3 4 (by decide)]; exact a4, by rw [e3 5 (by decide)]; exact a5⟩, ⟨by rw [e2 _ _ (by decide) (by decide)]; exact b1, by rw [e2 _ _ (by decide) (by decide)]; exact b2, fun k hk2 => by rw [e2 _ _ (by decide) (by decide)]; exact b3 k hk2⟩, fun k hk2 => ?_, fun s q => ?_, fun s i q hi => ?_⟩
  · rw [e]
    by_cases q : t 1 = 0
    · rw [if_pos q, if_pos ⟨rfl, rfl⟩]; omega
    · rw [if_neg q, a2]; omega
  · show mStand σ 51 56 k = _
    rw [e]
    by_cases q : t 1 = 0
    · rw [if_pos q, if_pos q, if_neg (show ¬ (56 = 51 ∧ k = 2) by omega), if_pos (show 56 = 56 ∧ k = 0 by omega)]
    · rw [if_neg q, if_neg q]; exact c k (by omega)
  · have g := d s q
    rw [e2 _ _ (by decide) (by decide), e2 _ _ (by decide) (by decide), e2 _ _ (by decide) (by decide), e2 _ _ (by decide) (by decide), e2 _ _ (by decide) (by decide), e2 _ _ (by decide) (by decide), e2 _ _ (by decide) (by decide)]
    exact ⟨g.1, g.2.1, g.2.2.1, g.2.2.2.1, g.2.2.2.2.1, g.2.2.2.2.2.1, g.2.2.2.2.2.2.1⟩
  · rw [(hs s q).2.1] at hi
    obtain rfl : i = 0 := by omega
    rw [e2 _ _ (by decide) (by decide), hp s (by omega)]
    exact (d s q).2.2.2.2.2.2.2
theorem DR.of (h : DR σ t) (f : ∀ a, a ≠ 3 → ∀ j, σ' a j = σ a j) (g : ∀ j, t' j = t j) : DR σ' t' := by
  have e : t' = t := funext g
  subst e
  obtain ⟨⟨a1, a2, a3, a4, a5⟩, ⟨b1, b2, b3⟩, c, d⟩ := h
  refine ⟨⟨?_, ?_, ?_, ?_, ?_⟩, ⟨?_, ?_, fun k q => ?_⟩, fun k q => ?_, fun s q => ?_⟩
  · rw [f _ (by decide)]; exact a1
  · rw [f _ (by decide)]; exact a2
  · rw [f _ (by decide)]; exact a3
  · rw [f _ (by decide)]; exact a4
  · rw [f _ (by decide)]; exact a5
  · rw [f _ (by decide)]; exact b1
  · rw [f _ (by decide)]; exact b2
  · rw [f _ (by decide)]; exact b3 k q
  · rw [f _ (by decide)]; exact c k q
  · rw [f _ (by decide), f _ (by decide), f _ (by decide), f _ (by decide), f _ (by decide), f _ (by decide), f _ (by decide), f _ (by decide)]; exact d s q
theorem DW.of (h : DW t) (g : ∀ j, t' j = t j) : DW t' := by
  have e : t' = t := funext g
  subst e; exact h
/-- one more stone -/
theorem DR.stone (h : DR σ t) (w : DW t) (h3 : t 1 < 3) {v : Int} (hv : 1 ≤ v ∧ v ≤ 9) (g : ∀ j, t' j = if j = 1 then t 1 + 1 else if j = 5 + (t 1).toNat then v else t j) : DR (mStone σ 51 v) t' ∧ DW t' := by
  obtain ⟨⟨a1, a2, a3, a4, a5⟩, ⟨b1, b2, b3⟩, c, d⟩ := h
  obtain ⟨⟨h1, h2, h3b, h4, h8, h17, h668⟩, hp2, hs, hk⟩ := w
  have e : ∀ a j : Nat, mStone σ 51 v a j = if a = 51 ∧ j = 2 then t 1 + 1 else if a = 56 ∧ j = (t 1).toNat then v else σ a j := by
    intro a j
    unfold mStone
    rw [a2]
    have r : rPut σ (51 + 5) 3 (t 1) v 51 2 = t 1 := by rw [rPut_ne (by decide), a2]
    rw [r, wr_id (by unfold okI; omega)]
    by_cases z : a = 51 ∧ j = 2
    · rw [if_pos z, z.1, z.2, su_same]
    · rw [if_neg z, su_ne _ _ (by omega), rPut_at (by omega) (by omega)]
  have e2 : ∀ a j : Nat, ¬ (a = 51 ∧ j = 2) → a ≠ 56 → mStone σ 51 v a j = σ a j := fun a j q1 q2 => by
    rw [e, if_neg q1, if_neg (fun z => q2 z.1)]
  have gh : ∀ j, 8 ≤ j → t' j = t j := fun j q => by rw [g, if_neg (by omega), if_neg (by omega)]
  have gl : ∀ j, j ≠ 1 → j < 5 → t' j = t j := fun j q q2 => by rw [g, if_neg (by omega), if_neg (by omega)]
  have g1 : t' 1 = t 1 + 1 := by rw [g, if_pos rfl]
  have gp : ∀ k : Nat, k < 3 → t' (5 + k) = if k = (t 1).toNat then v else t (5 + k) := fun k q => by
    rw [g, if_neg (by omega)]
    by_cases z : k = (t 1).toNat
    · rw [if_pos z, if_pos (by omega)]
    · rw [if_neg z, if_neg (by omega)]
  constructor
  · refine ⟨⟨?_, ?_, ?_, ?_, ?_⟩, ⟨?_, ?_, fun k q => ?_⟩, fun k q => ?_, fun s q => ?_⟩
    · rw [e2 _ _ (by decide) (by decide), gl 0 (by decide) (by decide)]; exact a1
    · rw [e, if_pos ⟨rfl, rfl⟩, g1]
    · rw [e2 _ _ (by decide) (by decide), gl 2 (by decide) (by decide)]; exact a3
    · rw [e2 _ _ (by decide) (by decide), gl 3 (by decide) (by decide)]; exact a4
    · rw [e2 _ _ (by decide) (by decide), gl 4 (by decide) (by decide)]; exact a5
    · rw [e2 _ _ (by decide) (by decide), gh 8 (by decide)]; exact b1
    · rw [e2 _ _ (by decide) (by decide), gh 17 (by decide)]; exact b2
    · rw [gh 8 (by decide)] at q
      rw [e2 _ _ (by omega) (by decide), gh _ (by omega)]; exact b3 k q
    · rw [g1] at q
      rw [gp k (by omega), e, if_neg (show ¬ (56 = 51 ∧ k = 2) by omega)]
      by_cases z : k = (t 1).toNat
      · rw [if_pos z, if_pos ⟨rfl, z⟩]
      · rw [if_neg z, if_neg (fun z2 => z z2.2)]; exact c k (by omega)
    · rw [gl 4 (by decide) (by decide)] at q
      rw [e2 _ _ (by omega) (by decide), e2 _ _ (by omega) (by decide), e2 _ _ (by omega) (by decide), e2 _ _ (by omega) (by decide), e2 _ _ (by omega) (by decide), e2 _ _ (by omega) (by decide), e2 _ _ (by omega) (by decide), e2 _ _ (by omega) (by decide)]
      rw [gh _ (by omega), gh _ (by omega), gh _ (by omega), gh _ (by omega), gh _ (by omega), gh _ (by omega), gh _ (by omega), gh _ (by omega)]
      exact d s q
  · refine ⟨⟨by rw [g1]; omega, by rw [gl 2 (by decide) (by decide)]; exact h2, by rw [gl 3 (by decide) (by decide)]; exact h3b, by rw [gl 4 (by decide) (by decide)]; exact h4, by rw [gh 8 (by decide)]; exact h8, by rw [gh 17 (by decide)]; exact h17, by rw [gh 668 (by decide), gl 4 (by decide) (by decide)]; exact h668⟩, fun k q => ?_, fun s q => ?_, fun k q => ?_⟩
    · rw [g1] at q
      rw [gp k (by omega)]
      split
      · exact hv
      · exact hp2 k (by omega)
    · rw [gl 4 (by decide) (by decide)] at q
      obtain ⟨s1, s2, s3⟩ := hs s q
      unfold TSk tM at *
      rw [gh _ (by omega), gh _ (by omega), gh _ (by omega), gh _ (by omega), gh _ (by omega), gh _ (by omega), gh _ (by omega), gh _ (by omega)]
      exact ⟨s1, s2, s3⟩
    · rw [gh 8 (by decide)] at q
      rw [gh _ (by omega)]; exact hk k q
end DRs
