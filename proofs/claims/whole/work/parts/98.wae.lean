/-! ALIKE, 33: the class's search through the ways, one by one -/
section SK
variable {x : Sg} {d : Nat} {N : Int}
theorem mul_87 {a b : Int} (ha : 0 ≤ a ∧ a ≤ 98) (hb : 0 ≤ b ∧ b ≤ 7) : 0 ≤ a * b ∧ a * b ≤ 686 := by
  refine ⟨Int.mul_nonneg ha.1 hb.1, ?_⟩
  have := Int.mul_le_mul ha.2 hb.2 hb.1 (by decide : (0 : Int) ≤ 98)
  omega
theorem spT_all {j : Nat} {h left : Int} (hd : d ≤ 8) (hh : 1 ≤ h ∧ h ≤ 99) (hl : left = N - wqS (x 123) (j + 1)) (hb : ((d : Nat) : Int) - ((j + 1 : Nat) : Int) ≤ left ∧ left ≤ 99) : ∀ i : Nat, j + 1 + i ≤ d →
    ((itr i (spT ((d : Nat) : Int) h (((j : Nat) : Int) + 1)) (left, x)).1 = N - wqS ((itr i (spT ((d : Nat) : Int) h (((j : Nat) : Int) + 1)) (left, x)).2 123) (j + 1 + i) ∧
    (((d : Nat) : Int) - ((j + 1 + i : Nat) : Int) ≤ (itr i (spT ((d : Nat) : Int) h (((j : Nat) : Int) + 1)) (left, x)).1 ∧ (itr i (spT ((d : Nat) : Int) h (((j : Nat) : Int) + 1)) (left, x)).1 ≤ 99)) ∧
    (∀ l, l ≤ j → (itr i (spT ((d : Nat) : Int) h (((j : Nat) : Int) + 1)) (left, x)).2 123 l = x 123 l) ∧
    (∀ l, j < l → l < j + 1 + i → (itr i (spT ((d : Nat) : Int) h (((j : Nat) : Int) + 1)) (left, x)).2 123 l = min h (N - wqS ((itr i (spT ((d : Nat) : Int) h (((j : Nat) : Int) + 1)) (left, x)).2 123) l - (((d : Nat) : Int) - 1 - ((l : Nat) : Int)))) ∧
    ∀ a, a ≠ 123 → ∀ k, (itr i (spT ((d : Nat) : Int) h (((j : Nat) : Int) + 1)) (left, x)).2 a k = x a k := by
  intro i
  induction i with
  | zero => intro _; exact ⟨⟨hl, hb⟩, fun l _ => rfl, fun l h1 h2 => by omega, fun a _ k => rfl⟩
  | succ i ih =>
    intro hi
    obtain ⟨⟨i1, i2⟩, i3, i4, i5⟩ := ih (by omega)
    rw [itr_s]
    generalize itr i (spT ((d : Nat) : Int) h (((j : Nat) : Int) + 1)) (left, x) = y at i1 i2 i3 i4 i5 ⊢
    have eH : spH ((d : Nat) : Int) h (((j : Nat) : Int) + 1) y.1 i = min h (y.1 - (((d : Nat) : Int) - 1 - ((j + 1 + i : Nat) : Int))) := by
      unfold spH
      rw [wr_id (show okI (((d : Nat) : Int) - 1) by unfold okI; omega), wr_id (show okI (((d : Nat) : Int) - 1 - (((j : Nat) : Int) + 1 + ((i : Nat) : Int))) by unfold okI; omega), wr_id (by unfold okI; omega)]
      congr 1
    rw [spT, eH]
    have hc0 : 1 ≤ min h (y.1 - (((d : Nat) : Int) - 1 - ((j + 1 + i : Nat) : Int))) := by omega
    have hc1 : min h (y.1 - (((d : Nat) : Int) - 1 - ((j + 1 + i : Nat) : Int))) ≤ y.1 - (((d : Nat) : Int) - 1 - ((j + 1 + i : Nat) : Int)) := by omega
    have hcd : min h (y.1 - (((d : Nat) : Int) - 1 - ((j + 1 + i : Nat) : Int))) = min h (N - wqS (y.2 123) (j + 1 + i) - (((d : Nat) : Int) - 1 - ((j + 1 + i : Nat) : Int))) := by rw [i1]
    generalize min h (y.1 - (((d : Nat) : Int) - 1 - ((j + 1 + i : Nat) : Int))) = c at hc0 hc1 hcd ⊢
    have eP : ∀ a k, rPut y.2 123 8 (((j : Nat) : Int) + 1 + ((i : Nat) : Int)) c a k = if a = 123 ∧ k = j + 1 + i then c else y.2 a k := fun a k => by
      rw [rPut_at (by omega) (by omega)]
      by_cases q : a = 123 ∧ k = j + 1 + i
      · rw [if_pos q, if_pos (by omega)]
      · rw [if_neg q, if_neg (by omega)]
    have eQ : ∀ l, l ≤ j + 1 + i → wqS (rPut y.2 123 8 (((j : Nat) : Int) + 1 + ((i : Nat) : Int)) c 123) l = wqS (y.2 123) l := fun l hl => wqS_cg l (fun k hk => by rw [eP, if_neg (by omega)])
    refine ⟨⟨?_, ?_, ?_⟩, fun l hl => ?_, fun l h1 h2 => ?_, fun a ha k => ?_⟩
    · show wr (y.1 - c) = N - (wqS (rPut y.2 123 8 (((j : Nat) : Int) + 1 + ((i : Nat) : Int)) c 123) (j + 1 + i) + rPut y.2 123 8 (((j : Nat) : Int) + 1 + ((i : Nat) : Int)) c 123 (j + 1 + i))
      rw [eQ _ (Nat.le_refl _), eP, if_pos ⟨rfl, rfl⟩, wr_id (by unfold okI; omega)]
      omega
    · show _ ≤ wr (y.1 - c)
      rw [wr_id (by unfold okI; omega)]; omega
    · show wr (y.1 - c) ≤ 99
      rw [wr_id (by unfold okI; omega)]; omega
    · show rPut y.2 123 8 _ c 123 l = _
      rw [eP, if_neg (by omega)]; exact i3 l hl
    · show rPut y.2 123 8 _ c 123 l = min h (N - wqS (rPut y.2 123 8 _ c 123) l - _)
      rw [eQ l (by omega), eP]
      by_cases q : l = j + 1 + i
      · rw [if_pos ⟨rfl, q⟩, q]; exact hcd
      · rw [if_neg (by omega)]; exact i4 l h1 (by omega)
    · show rPut y.2 123 8 _ c a k = _
      rw [eP, if_neg (by omega)]; exact i5 a ha k
theorem fnR_all (hd : 1 ≤ d ∧ d ≤ 8) (hN : N ≤ 99) (a : wqV N d (x 123)) : ∀ j : Nat, j + 1 ≤ d → (∀ l, j ≤ l → l + 1 < d → ¬ wqC N d (x 123) l) →
    ((fnR x ((d : Nat) : Int) j (1 + N - wqS (x 123) j)).1 = 0 ∧ (fnR x ((d : Nat) : Int) j (1 + N - wqS (x 123) j)).2 = x ∧ ∀ l, l + 1 < d → ¬ wqC N d (x 123) l) ∨
    ((fnR x ((d : Nat) : Int) j (1 + N - wqS (x 123) j)).1 = 1 ∧ ∃ k : Nat, k + 1 < d ∧ wqC N d (x 123) k ∧ (∀ l, k < l → l + 1 < d → ¬ wqC N d (x 123) l) ∧ wqN N d k (x 123) ((fnR x ((d : Nat) : Int) j (1 + N - wqS (x 123) j)).2 123) ∧ ∀ b, b ≠ 123 → ∀ i, (fnR x ((d : Nat) : Int) j (1 + N - wqS (x 123) j)).2 b i = x b i) := by
  have hS0 : ∀ k : Nat, k ≤ d → 0 ≤ wqS (x 123) k ∧ wqS (x 123) k ≤ 99 := fun k hk => by
    have h1 := a.lo (k := k) hk
    have h2 := wqS_lo (w := x 123) 0 k (fun i _ h => a.1 i (by omega))
    rw [show 0 + k = k by omega] at h2
    have h3 : wqS (x 123) 0 = 0 := rfl
    omega
  intro j
  induction j with
  | zero => intro _ hc; exact Or.inl ⟨rfl, rfl, fun l hl => hc l (by omega) hl⟩
  | succ j ih =>
    intro hj hc
    have hs := hS0 (j + 1) (by omega)
    have hsj := hS0 j (by omega)
    have e1 : wqS (x 123) (j + 1) = wqS (x 123) j + x 123 j := rfl
    have hw := a.1 j (by omega)
    have hw9 := a.le (i := j) (by omega)
    have hlo := a.lo (k := j + 1) (by omega)
    have hN0 : 0 ≤ N := by omega
    have hm := mul_87 (a := x 123 j - 1) (b := ((d : Nat) : Int) - 1 - ((j : Nat) : Int)) (by omega) (by omega)
    have hC : wr (wr (rAt x 123 8 ((j : Nat) : Int) - 1) * wr (wr (((d : Nat) : Int) - 1) - ((j : Nat) : Int))) = (x 123 j - 1) * (((d : Nat) : Int) - 1 - ((j : Nat) : Int)) := by
      rw [rAt_nt (by omega), wr_id (show okI (x 123 j - 1) by unfold okI; omega), wr_id (show okI (((d : Nat) : Int) - 1) by unfold okI; omega), wr_id (show okI (((d : Nat) : Int) - 1 - ((j : Nat) : Int)) by unfold okI; omega), wr_id (by unfold okI; omega)]
    rw [fnR, hC]
    by_cases q : 1 + N - wqS (x 123) (j + 1) ≤ (x 123 j - 1) * (((d : Nat) : Int) - 1 - ((j : Nat) : Int))
    · rw [if_pos q]
      right
      refine ⟨rfl, j, by omega, q, fun l h1 h2 => hc l (by omega) h2, ?_⟩
      have hh : 1 ≤ x 123 j - 1 := by
        refine Decidable.byContradiction fun z => ?_
        have : (x 123 j - 1) * (((d : Nat) : Int) - 1 - ((j : Nat) : Int)) ≤ 0 := Int.mul_nonpos_of_nonpos_of_nonneg (by omega) (by omega)
        omega
      have eh : wr (rAt x 123 8 ((j : Nat) : Int) - 1) = x 123 j - 1 := by rw [rAt_nt (by omega), wr_id (by unfold okI; omega)]
      have ef : wr (((j : Nat) : Int) + 1) = ((j : Nat) : Int) + 1 := wr_id (by unfold okI; omega)
      have eP : ∀ b k, rPut x 123 8 ((j : Nat) : Int) (x 123 j - 1) b k = if b = 123 ∧ k = j then x 123 j - 1 else x b k := fun b k => by
        rw [rPut_at (by omega) (by omega)]; rfl
      have eQ : wqS (rPut x 123 8 ((j : Nat) : Int) (x 123 j - 1) 123) (j + 1) = wqS (x 123) (j + 1) - 1 := by
        rw [wqS, eP, if_pos ⟨rfl, rfl⟩, wqS_cg (w := rPut x 123 8 ((j : Nat) : Int) (x 123 j - 1) 123) (v := x 123) j (fun k hk => by rw [eP, if_neg (by omega)])]
        omega
      have r := spT_all (x := rPut x 123 8 ((j : Nat) : Int) (x 123 j - 1)) (d := d) (N := N) (j := j) (h := x 123 j - 1) (left := 1 + N - wqS (x 123) (j + 1)) hd.2 (by omega) (by rw [eQ]; omega) (by omega) (d - (j + 1)) (by omega)
      rw [show j + 1 + (d - (j + 1)) = d by omega] at r
      obtain ⟨_, r3, r4, r5⟩ := r
      rw [eh, ef]
      show wqN N d j (x 123) (spr (rPut x 123 8 ((j : Nat) : Int) (x 123 j - 1)) (((j : Nat) : Int) + 1) ((d : Nat) : Int) (1 + N - wqS (x 123) (j + 1)) (x 123 j - 1) 123) ∧ _
      unfold spr
      rw [show (((d : Nat) : Int) - (((j : Nat) : Int) + 1)).toNat = d - (j + 1) by omega]
      generalize itr (d - (j + 1)) (spT ((d : Nat) : Int) (x 123 j - 1) (((j : Nat) : Int) + 1)) (1 + N - wqS (x 123) (j + 1), rPut x 123 8 ((j : Nat) : Int) (x 123 j - 1)) = y at r3 r4 r5 ⊢
      refine ⟨⟨fun i hi => ?_, ?_, fun l h1 h2 => r4 l h1 h2⟩, fun b hb i => ?_⟩
      · rw [r3 i (by omega), eP, if_neg (by omega)]
      · rw [r3 j (Nat.le_refl _), eP, if_pos ⟨rfl, rfl⟩]
      · show y.2 b i = _
        rw [r5 b hb, eP, if_neg (fun z => hb z.1)]
    · rw [if_neg q]
      have eb : wr (1 + N - wqS (x 123) (j + 1) + rAt x 123 8 ((j : Nat) : Int)) = 1 + N - wqS (x 123) j := by
        rw [rAt_nt (by omega), wr_id (by unfold okI; omega)]; omega
      rw [eb]
      refine ih (by omega) (fun l h1 h2 => ?_)
      by_cases z : l = j
      · rw [z]; exact q
      · exact hc l (by omega) h2
/-- the next way, or none -/
theorem fnF_all (hd : 1 ≤ d ∧ d ≤ 8) (hN : N ≤ 99) (a : wqV N d (x 123)) :
    ((fnF x ((d : Nat) : Int)).1 = 0 ∧ (fnF x ((d : Nat) : Int)).2 = x ∧ ∀ v, wqV N d v → ¬ wqG d (x 123) v) ∨
    ((fnF x ((d : Nat) : Int)).1 = 1 ∧ 1 < d ∧ wqV N d ((fnF x ((d : Nat) : Int)).2 123) ∧ wqG d (x 123) ((fnF x ((d : Nat) : Int)).2 123) ∧ (∀ v, wqV N d v → wqG d (x 123) v → ¬ wqG d v ((fnF x ((d : Nat) : Int)).2 123)) ∧ ∀ b, b ≠ 123 → ∀ i, (fnF x ((d : Nat) : Int)).2 b i = x b i) := by
  have h1 := a.lo (k := d - 1) (by omega)
  have h2 := a.lo (k := d) (by omega)
  have h3 : wqS (x 123) (d - 1 + 1) = wqS (x 123) (d - 1) + x 123 (d - 1) := rfl
  rw [show d - 1 + 1 = d by omega, a.2.2] at h3
  have h4 := a.1 (d - 1) (by omega)
  have h5 := a.le (i := d - 1) (by omega)
  have e : fnF x ((d : Nat) : Int) = fnR x ((d : Nat) : Int) (d - 1) (1 + N - wqS (x 123) (d - 1)) := by
    unfold fnF
    rw [wr_id (show okI (((d : Nat) : Int) - 1) by unfold okI; omega), rAt_lt (by omega) (by omega), show (((d : Nat) : Int) - 1).toNat = d - 1 by omega, wr_id (by unfold okI; omega)]
    congr 1; omega
  rw [e]
  rcases fnR_all hd hN a (d - 1) (by omega) (fun l h1 h2 => by omega) with ⟨r1, r2, r3⟩ | ⟨r1, k, r2, r3, r4, r5, r6⟩
  · exact Or.inl ⟨r1, r2, wqN_no a r3⟩
  · have n := wqN_nx a r2 r4 r5
    exact Or.inr ⟨r1, by omega, wqN_v a r2 r3 r5, n.1, n.2, r6⟩
/-- the first way laid -/
theorem stF_at (hd : 1 ≤ d ∧ d ≤ 8) (hN : ((d : Nat) : Int) ≤ N ∧ N ≤ 99) : wqE d (stF x N ((d : Nat) : Int) 123) (wqF N d) ∧ ∀ b, b ≠ 123 → ∀ i, stF x N ((d : Nat) : Int) b i = x b i := by
  have e0 : wr (wr (N - ((d : Nat) : Int)) + 1) = N - ((d : Nat) : Int) + 1 := by rw [wr_id (show okI (N - ((d : Nat) : Int)) by unfold okI; omega), wr_id (by unfold okI; omega)]
  have key : ∀ i : Nat, i + 1 ≤ d → ∀ b k, itr i stS (rPut x 123 8 0 (N - ((d : Nat) : Int) + 1)) b k = if b = 123 ∧ k ≤ i then wqF N d k else x b k := by
    intro i
    induction i with
    | zero =>
      intro _ b k
      show rPut x 123 8 0 (N - ((d : Nat) : Int) + 1) b k = _
      rw [rPut_at (by omega) (by omega)]
      by_cases q : b = 123 ∧ k = 0
      · rw [if_pos (by omega), if_pos (by omega), q.2]; rfl
      · rw [if_neg (by omega), if_neg (by omega)]
    | succ i ih =>
      intro hi b k
      rw [itr_s, stS, rPut_at (by omega) (by omega), ih (by omega)]
      by_cases q : b = 123 ∧ k = i + 1
      · rw [if_pos (by omega), if_pos (by omega), q.2]; rfl
      · rw [if_neg (by omega)]
        by_cases q2 : b = 123 ∧ k ≤ i
        · rw [if_pos q2, if_pos (by omega)]
        · rw [if_neg q2, if_neg (by omega)]
  unfold stF
  rw [e0]
  refine ⟨fun k hk => ?_, fun b hb i => ?_⟩
  · rw [key _ (by omega), if_pos (by omega)]
  · rw [key _ (by omega), if_neg (by omega)]
end SK
