/-! ALIKE, 29: ways to part so many pounds; which comes ahead; the next one -/
/-- the first d numbers together -/
def wqS (w : Nat → Int) : Nat → Int
  | 0 => 0
  | d + 1 => wqS w d + w d
/-- a way to part N pounds into d pieces, none heavier than the one ahead of it -/
def wqV (N : Int) (d : Nat) (w : Nat → Int) : Prop := (∀ i, i < d → 1 ≤ w i) ∧ (∀ i, i + 1 < d → w (i + 1) ≤ w i) ∧ wqS w d = N
/-- the way w comes ahead of v -/
def wqG (d : Nat) (w v : Nat → Int) : Prop := ∃ i, i < d ∧ (∀ j, j < i → w j = v j) ∧ v i < w i
def wqE (d : Nat) (w v : Nat → Int) : Prop := ∀ i, i < d → w i = v i
section WQ
variable {w v u : Nat → Int} {d : Nat} {N h : Int}
theorem wqE.rf (d : Nat) (w : Nat → Int) : wqE d w w := fun _ _ => rfl
theorem wqE.sym (e : wqE d w v) : wqE d v w := fun i hi => (e i hi).symm
theorem wqE.lo {m : Nat} (e : wqE d w v) (hm : m ≤ d) : wqE m w v := fun i hi => e i (by omega)
theorem wqS_cg : ∀ d : Nat, wqE d w v → wqS w d = wqS v d := by
  intro d
  induction d with
  | zero => intro _; rfl
  | succ d ih => intro e; rw [wqS, wqS, ih (e.lo (by omega)), e d (by omega)]
theorem wqV.cg (a : wqV N d w) (e : wqE d w v) : wqV N d v := ⟨fun i hi => by rw [← e i hi]; exact a.1 i hi, fun i hi => by rw [← e i (by omega), ← e (i + 1) hi]; exact a.2.1 i hi, by rw [← wqS_cg d e]; exact a.2.2⟩
theorem wqG.cg {w' v' : Nat → Int} (g : wqG d w v) (e : wqE d w w') (f : wqE d v v') : wqG d w' v' := by
  obtain ⟨i, hi, ha, hb⟩ := g
  exact ⟨i, hi, fun j hj => by rw [← e j (by omega), ← f j (by omega)]; exact ha j hj, by rw [← e i hi, ← f i hi]; exact hb⟩
theorem wqG_tri (w v : Nat → Int) : ∀ d : Nat, wqE d w v ∨ wqG d w v ∨ wqG d v w := by
  intro d
  induction d with
  | zero => exact Or.inl (fun i hi => by omega)
  | succ d ih =>
    rcases ih with e | ⟨i, hi, ha, hb⟩ | ⟨i, hi, ha, hb⟩
    · by_cases q : w d = v d
      · refine Or.inl (fun i hi => ?_)
        by_cases z : i = d
        · rw [z]; exact q
        · exact e i (by omega)
      · by_cases q2 : v d < w d
        · exact Or.inr (Or.inl ⟨d, by omega, fun j hj => e j hj, q2⟩)
        · exact Or.inr (Or.inr ⟨d, by omega, fun j hj => (e j hj).symm, by omega⟩)
    · exact Or.inr (Or.inl ⟨i, by omega, ha, hb⟩)
    · exact Or.inr (Or.inr ⟨i, by omega, ha, hb⟩)
theorem wqG.asym (a : wqG d w v) : ¬ wqG d v w := by
  rintro ⟨k, hk, ka, kb⟩
  obtain ⟨i, hi, ha, hb⟩ := a
  by_cases q : i < k
  · have := ka i q; omega
  · by_cases q2 : k < i
    · have := ha k q2; omega
    · rw [show k = i by omega] at kb; omega
theorem wqG.ne (a : wqG d w v) : ¬ wqE d w v := by
  rintro e
  obtain ⟨i, hi, ha, hb⟩ := a
  have := e i hi; omega
theorem wqG.trans (a : wqG d w v) (b : wqG d v u) : wqG d w u := by
  obtain ⟨i, hi, ha, hb⟩ := a
  obtain ⟨k, hk, ka, kb⟩ := b
  by_cases q : i < k
  · exact ⟨i, hi, fun j hj => (ha j hj).trans (ka j (by omega)), by have := ka i q; omega⟩
  · by_cases q2 : k < i
    · exact ⟨k, hk, fun j hj => (ha j (by omega)).trans (ka j hj), by have := ha k q2; omega⟩
    · have e : k = i := by omega
      subst e
      exact ⟨k, hk, fun j hj => (ha j hj).trans (ka j hj), by omega⟩
/-- sums: no fewer than one each -/
theorem wqS_lo (a : Nat) : ∀ m : Nat, (∀ i, a ≤ i → i < a + m → 1 ≤ w i) → wqS w a + ((m : Nat) : Int) ≤ wqS w (a + m) := by
  intro m
  induction m with
  | zero => intro _; show wqS w a + 0 ≤ wqS w a; omega
  | succ m ih =>
    intro f
    have h1 := ih (fun i h1 h2 => f i h1 (by omega))
    have h2 := f (a + m) (by omega) (by omega)
    show _ ≤ wqS w (a + m) + w (a + m)
    omega
theorem mul_suc (h : Int) (m : Nat) : h * ((m + 1 : Nat) : Int) = h * ((m : Nat) : Int) + h := by
  rw [show ((m + 1 : Nat) : Int) = ((m : Nat) : Int) + 1 by omega, Int.mul_add, Int.mul_one]
/-- no more than h each -/
theorem wqS_hi (h : Int) (a : Nat) : ∀ m : Nat, (∀ i, a ≤ i → i < a + m → w i ≤ h) → wqS w (a + m) ≤ wqS w a + h * ((m : Nat) : Int) := by
  intro m
  induction m with
  | zero => intro _; show wqS w a ≤ wqS w a + h * 0; rw [Int.mul_zero]; omega
  | succ m ih =>
    intro f
    have h1 := ih (fun i h1 h2 => f i h1 (by omega))
    have h2 := f (a + m) (by omega) (by omega)
    show wqS w (a + m) + w (a + m) ≤ _
    rw [mul_suc]
    omega
theorem wqV.mono (a : wqV N d w) {i : Nat} : ∀ k : Nat, i ≤ k → k < d → w k ≤ w i := by
  intro k
  induction k with
  | zero => intro h1 _; rw [show i = 0 by omega]; exact Int.le_refl _
  | succ k ih =>
    intro h1 h2
    by_cases q : i = k + 1
    · rw [q]; exact Int.le_refl _
    · have := ih (by omega) (by omega)
      have := a.2.1 k h2
      omega
theorem wqV.lo (a : wqV N d w) {k : Nat} (hk : k ≤ d) : wqS w k + (((d : Nat) : Int) - ((k : Nat) : Int)) ≤ N := by
  have := wqS_lo (w := w) k (d - k) (fun i h1 h2 => a.1 i (by omega))
  rw [show k + (d - k) = d by omega, a.2.2] at this
  omega
theorem wqV.le (a : wqV N d w) {i : Nat} (hi : i < d) : w i ≤ N := by
  have h1 := a.lo (k := i + 1) (by omega)
  have h2 := wqS_lo (w := w) 0 i (fun j _ h2 => a.1 j (by omega))
  have h3 : wqS w (i + 1) = wqS w i + w i := rfl
  have h4 : wqS w 0 = 0 := rfl
  rw [show 0 + i = i by omega, h4] at h2
  omega
/-- two ways of as many pounds part ahead of the last piece -/
theorem wqG.at (a : wqV N d w) (b : wqV N d v) (g : wqG d w v) : ∃ i, i + 1 < d ∧ (∀ j, j < i → w j = v j) ∧ v i < w i := by
  obtain ⟨i, hi, ha, hb⟩ := g
  refine ⟨i, ?_, ha, hb⟩
  refine Decidable.byContradiction fun q => ?_
  have e : d = i + 1 := by omega
  subst e
  have h1 := a.2.2
  have h2 := b.2.2
  have h3 := wqS_cg (w := w) (v := v) i (fun j hj => ha j hj)
  change wqS w i + w i = N at h1
  change wqS v i + v i = N at h2
  omega
/-- the first way -/
def wqF (N : Int) (d : Nat) (i : Nat) : Int := if i = 0 then N - ((d : Nat) : Int) + 1 else 1
theorem wqF_s (N : Int) (d : Nat) : ∀ i : Nat, 1 ≤ i → wqS (wqF N d) i = N - ((d : Nat) : Int) + ((i : Nat) : Int) := by
  intro i
  induction i with
  | zero => intro h; omega
  | succ i ih =>
    intro _
    rw [wqS]
    by_cases q : i = 0
    · subst q; show (0 : Int) + (if (0 : Nat) = 0 then _ else _) = _; rw [if_pos rfl]; omega
    · rw [ih (by omega)]; show _ + (if i = 0 then _ else _) = _; rw [if_neg q]; omega
theorem wqF_v (hd : 1 ≤ d) (hN : ((d : Nat) : Int) ≤ N) : wqV N d (wqF N d) := by
  refine ⟨fun i hi => ?_, fun i hi => ?_, ?_⟩
  · unfold wqF; split <;> omega
  · unfold wqF; rw [if_neg (by omega)]; split <;> omega
  · rw [wqF_s N d d hd]; omega
theorem wqF_1 (b : wqV N d v) : ¬ wqG d v (wqF N d) := by
  rintro ⟨i, hi, ha, hb⟩
  have h1 := b.lo (k := i + 1) (by omega)
  have h2 : wqS v (i + 1) = wqS v i + v i := rfl
  by_cases q : i = 0
  · subst q
    unfold wqF at hb
    rw [if_pos rfl] at hb
    have h3 : wqS v 0 = 0 := rfl
    omega
  · have h3 := wqS_cg (w := v) (v := wqF N d) i (fun j hj => ha j hj)
    rw [wqF_s N d i (by omega)] at h3
    unfold wqF at hb
    rw [if_neg q] at hb
    omega
/-- from place j on a lesser way can go on -/
def wqC (N : Int) (d : Nat) (w : Nat → Int) (j : Nat) : Prop := 1 + N - wqS w (j + 1) ≤ (w j - 1) * (((d : Nat) : Int) - 1 - ((j : Nat) : Int))
theorem wqC_of (a : wqV N d w) (b : wqV N d v) {i : Nat} (hi : i + 1 < d) (ha : ∀ j, j < i → w j = v j) (hb : v i < w i) : wqC N d w i := by
  have h3 := wqS_cg (w := w) (v := v) i (fun j hj => ha j hj)
  have h1 : wqS w (i + 1) = wqS w i + w i := rfl
  have h2 : wqS v (i + 1) = wqS v i + v i := rfl
  have h4 := wqS_hi (w := v) (v i) (i + 1) (d - (i + 1)) (fun j h1 h2 => b.mono j (by omega) (by omega))
  rw [show i + 1 + (d - (i + 1)) = d by omega, b.2.2] at h4
  have e : (((d - (i + 1) : Nat)) : Int) = ((d : Nat) : Int) - 1 - ((i : Nat) : Int) := by omega
  rw [e] at h4
  have h5 : v i * (((d : Nat) : Int) - 1 - ((i : Nat) : Int)) ≤ (w i - 1) * (((d : Nat) : Int) - 1 - ((i : Nat) : Int)) := Int.mul_le_mul_of_nonneg_right (by omega) (by omega)
  unfold wqC
  omega
/-- the next way: one less at j, behind it as heavy as it goes -/
def wqN (N : Int) (d j : Nat) (w u : Nat → Int) : Prop := (∀ i, i < j → u i = w i) ∧ u j = w j - 1 ∧ ∀ l, j < l → l < d → u l = min (w j - 1) (N - wqS u l - (((d : Nat) : Int) - 1 - ((l : Nat) : Int)))
theorem wqN_rg (a : wqV N d w) {j : Nat} (hj : j + 1 < d) (c : wqC N d w j) (n : wqN N d j w u) : 1 ≤ w j - 1 ∧ ∀ m : Nat, j + 1 + m ≤ d → ((d : Nat) : Int) - ((j + 1 + m : Nat) : Int) ≤ N - wqS u (j + 1 + m) ∧ N - wqS u (j + 1 + m) ≤ (w j - 1) * (((d : Nat) : Int) - ((j + 1 + m : Nat) : Int)) := by
  have h0 := wqS_cg (w := u) (v := w) j (fun i hi => n.1 i hi)
  have h1 : wqS w (j + 1) = wqS w j + w j := rfl
  have h2 : wqS u (j + 1) = wqS u j + u j := rfl
  have h3 := n.2.1
  have h4 := a.lo (k := j + 1) (by omega)
  have hh : 1 ≤ w j - 1 := by
    refine Decidable.byContradiction fun q => ?_
    have : (w j - 1) * (((d : Nat) : Int) - 1 - ((j : Nat) : Int)) ≤ 0 := Int.mul_nonpos_of_nonpos_of_nonneg (by omega) (by omega)
    unfold wqC at c
    omega
  refine ⟨hh, ?_⟩
  intro m
  induction m with
  | zero =>
    intro _
    unfold wqC at c
    show _ ≤ N - wqS u (j + 1) ∧ N - wqS u (j + 1) ≤ (w j - 1) * (((d : Nat) : Int) - ((j + 1 : Nat) : Int))
    rw [show ((d : Nat) : Int) - ((j + 1 : Nat) : Int) = ((d : Nat) : Int) - 1 - ((j : Nat) : Int) by omega]
    exact ⟨by omega, by omega⟩
  | succ m ih =>
    intro hm
    obtain ⟨i1, i2⟩ := ih (by omega)
    have e := n.2.2 (j + 1 + m) (by omega) (by omega)
    have h5 : wqS u (j + 1 + (m + 1)) = wqS u (j + 1 + m) + u (j + 1 + m) := rfl
    have e2 : ((d : Nat) : Int) - ((j + 1 + m : Nat) : Int) = ((d - (j + 1 + (m + 1)) : Nat) : Int) + 1 := by omega
    have e3 : ((d : Nat) : Int) - ((j + 1 + (m + 1) : Nat) : Int) = ((d - (j + 1 + (m + 1)) : Nat) : Int) := by omega
    rw [e2, Int.mul_add, Int.mul_one] at i2
    rw [e3]
    have h6 : 1 * ((d - (j + 1 + (m + 1)) : Nat) : Int) ≤ (w j - 1) * ((d - (j + 1 + (m + 1)) : Nat) : Int) := Int.mul_le_mul_of_nonneg_right hh (by omega)
    rw [Int.one_mul] at h6
    generalize (w j - 1) * ((d - (j + 1 + (m + 1)) : Nat) : Int) = M at i2 h6 ⊢
    omega
theorem wqN_v (a : wqV N d w) {j : Nat} (hj : j + 1 < d) (c : wqC N d w j) (n : wqN N d j w u) : wqV N d u := by
  obtain ⟨hh, r⟩ := wqN_rg a hj c n
  have hb : ∀ l, j < l → l < d → ((d : Nat) : Int) - ((l : Nat) : Int) ≤ N - wqS u l := by
    intro l h1 h2
    have := (r (l - (j + 1)) (by omega)).1
    rwa [show j + 1 + (l - (j + 1)) = l by omega] at this
  refine ⟨fun i hi => ?_, fun i hi => ?_, ?_⟩
  · by_cases q : i < j
    · rw [n.1 i q]; exact a.1 i hi
    · by_cases q2 : i = j
      · rw [q2, n.2.1]; exact hh
      · have := hb i (by omega) hi
        rw [n.2.2 i (by omega) hi]; omega
  · by_cases q : i + 1 < j
    · rw [n.1 (i + 1) q, n.1 i (by omega)]; exact a.2.1 i hi
    · by_cases q2 : i + 1 = j
      · rw [q2, n.2.1, n.1 i (by omega)]
        have := a.2.1 i hi
        rw [q2] at this
        omega
      · rw [n.2.2 (i + 1) (by omega) hi]
        by_cases q3 : i = j
        · subst q3; rw [n.2.1]; omega
        · have e := n.2.2 i (by omega) (by omega)
          have b1 := hb i (by omega) (by omega)
          have h5 : wqS u (i + 1) = wqS u i + u i := rfl
          rw [h5]
          omega
  · have := r (d - (j + 1)) (by omega)
    rw [show j + 1 + (d - (j + 1)) = d by omega, show ((d : Nat) : Int) - ((d : Nat) : Int) = 0 by omega, Int.mul_zero] at this
    omega
/-- the next way is behind, and none lies between -/
theorem wqN_nx (a : wqV N d w) {j : Nat} (hj : j + 1 < d) (hc : ∀ l, j < l → l + 1 < d → ¬ wqC N d w l) (n : wqN N d j w u) : wqG d w u ∧ ∀ v, wqV N d v → wqG d w v → ¬ wqG d v u := by
  refine ⟨⟨j, by omega, fun i hi => (n.1 i hi).symm, by have := n.2.1; omega⟩, fun v b g => ?_⟩
  obtain ⟨i, hi, ha, hb⟩ := g.at a b
  have ci := wqC_of a b hi ha hb
  have hij : i ≤ j := Decidable.byContradiction fun q => hc i (by omega) hi ci
  rintro ⟨l, hl, la, lb⟩
  by_cases q : i < j
  · have e1 := n.1 i q
    by_cases q1 : l < i
    · have := ha l q1
      have := n.1 l (by omega)
      omega
    · by_cases q2 : i < l
      · have := la i q2; omega
      · rw [show l = i by omega] at lb; omega
  · have e : i = j := by omega
    subst e
    have e1 := n.2.1
    by_cases q1 : l < i
    · have := ha l q1
      have := n.1 l (by omega)
      omega
    · by_cases q2 : l = i
      · subst q2; omega
      · have e2 := la i (by omega)
        have e3 := n.2.2 l (by omega) hl
        have e4 := wqS_cg (w := v) (v := u) l (fun j hj => la j hj)
        have e5 := b.lo (k := l + 1) (by omega)
        have e6 : wqS v (l + 1) = wqS v l + v l := rfl
        have e7 := b.mono (i := i) l (by omega) hl
        omega
theorem wqN_no (a : wqV N d w) (hc : ∀ l, l + 1 < d → ¬ wqC N d w l) : ∀ v, wqV N d v → ¬ wqG d w v := by
  intro v b g
  obtain ⟨i, hi, ha, hb⟩ := g.at a b
  exact hc i hi (wqC_of a b hi ha hb)
/-- ways numbered, falling -/
def wqD (d : Nat) (w : Nat → Int) (l : Nat) : Int := if l + 1 < d then w l else 0
def wqK (d : Nat) (w : Nat → Int) : Int := wqD d w 0 * 9856 + wqD d w 1 * 616 + wqD d w 2 * 56 + wqD d w 3 * 7 + wqD d w 4
theorem wqD_rg (a : wqV N d w) (hN : N ≤ 30) (l : Nat) : 0 ≤ wqD d w l ∧ wqD d w l * ((l + 1 : Nat) : Int) ≤ 30 := by
  unfold wqD
  split
  · next q =>
    have h1 := a.1 l (by omega)
    refine ⟨by omega, ?_⟩
    have h2 : ∀ m : Nat, m ≤ l + 1 → w l * ((m : Nat) : Int) ≤ wqS w m := by
      intro m
      induction m with
      | zero => intro _; show w l * 0 ≤ 0; rw [Int.mul_zero]; omega
      | succ m ih =>
        intro hm
        rw [mul_suc, wqS]
        have := ih (by omega)
        have := a.mono (i := m) l (by omega) (by omega)
        omega
    have h3 := h2 (l + 1) (Nat.le_refl _)
    have h4 := a.lo (k := l + 1) (by omega)
    omega
  · rw [Int.zero_mul]; exact ⟨Int.le_refl _, by decide⟩
theorem wqK_rg (a : wqV N d w) (hN : N ≤ 30) : 0 ≤ wqK d w ∧ wqK d w ≤ 400000 := by
  have b0 := wqD_rg a hN 0
  have b1 := wqD_rg a hN 1
  have b2 := wqD_rg a hN 2
  have b3 := wqD_rg a hN 3
  have b4 := wqD_rg a hN 4
  unfold wqK
  generalize wqD d w 0 = x0 at *
  generalize wqD d w 1 = x1 at *
  generalize wqD d w 2 = x2 at *
  generalize wqD d w 3 = x3 at *
  generalize wqD d w 4 = x4 at *
  omega
theorem wqK_lt (a : wqV N d w) (b : wqV N d v) (hN : N ≤ 30) (hd : d ≤ 6) (g : wqG d w v) : wqK d v < wqK d w := by
  obtain ⟨i, hi, ha, hb⟩ := g.at a b
  have eq : ∀ l, l < i → wqD d w l = wqD d v l := fun l hl => by unfold wqD; rw [ha l hl]
  have lt : wqD d v i < wqD d w i := by unfold wqD; rw [if_pos hi, if_pos hi]; exact hb
  have b1 := wqD_rg b hN 1
  have b2 := wqD_rg b hN 2
  have b3 := wqD_rg b hN 3
  have b4 := wqD_rg b hN 4
  have c1 := wqD_rg a hN 1
  have c2 := wqD_rg a hN 2
  have c3 := wqD_rg a hN 3
  have c4 := wqD_rg a hN 4
  unfold wqK
  have hi5 : i = 0 ∨ i = 1 ∨ i = 2 ∨ i = 3 ∨ i = 4 := by omega
  rcases hi5 with rfl | rfl | rfl | rfl | rfl
  · generalize wqD d w 0 = x0 at *
    generalize wqD d v 0 = y0 at *
    omega
  · have e0 := eq 0 (by omega)
    omega
  · have e0 := eq 0 (by omega)
    have e1 := eq 1 (by omega)
    omega
  · have e0 := eq 0 (by omega)
    have e1 := eq 1 (by omega)
    have e2 := eq 2 (by omega)
    omega
  · have e0 := eq 0 (by omega)
    have e1 := eq 1 (by omega)
    have e2 := eq 2 (by omega)
    have e3 := eq 3 (by omega)
    omega
end WQ
