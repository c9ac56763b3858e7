/-! ALIKE, 26: orders by themselves -/
section OPs
variable {τ y : Sg} {f g : Nat → Nat} {P : Nat}
def oSk (τ : Sg) (p : Nat) : Int := nSo τ ((p : Nat) : Int)
def oCl (τ : Sg) (l s : Int) : Int := if l ≠ -1 ∧ l ≠ nOf τ s 3 then τ 224 2 else 0
/-- when all is done, the sort that was ground last -/
def oP (τ : Sg) (f : Nat → Nat) : Nat → Int × Int
  | 0 => (0, -1)
  | k + 1 => (wr (wr (max (oP τ f k).1 (nOf τ (oSk τ (f k)) 2) + oCl τ (oP τ f k).2 (oSk τ (f k))) + wr (nPa τ 0 * nPo τ ((f k : Nat) : Int))), nOf τ (oSk τ (f k)) 3)
/-- placed so far -/
def oU (f : Nat → Nat) : Nat → Nat → Int
  | 0, _ => 0
  | k + 1, p => if f k = p then 1 else oU f k p
/-- left of a sack -/
def oR (τ : Sg) (f : Nat → Nat) (s : Int) : Nat → Int
  | 0 => nOf τ s 6
  | k + 1 => if oSk τ (f k) = s then oR τ f s k - 1 else oR τ f s k
/-- the cost so far -/
def oC (τ : Sg) (f : Nat → Nat) : Nat → Int
  | 0 => 0
  | k + 1 => wr (oC τ f k + if oR τ f (oSk τ (f k)) (k + 1) = 0 then wr (nOf τ (oSk τ (f k)) 4 * wr ((oP τ f (k + 1)).1 - nOf τ (oSk τ (f k)) 2)) else 0)
/-- the end of a sack so far -/
def oD (τ : Sg) (f : Nat → Nat) (s : Int) : Nat → Int
  | 0 => 0
  | k + 1 => if oSk τ (f k) = s then (oP τ f (k + 1)).1 else oD τ f s k
def oV (f : Nat → Nat) (P n : Nat) : Prop := (∀ k, k < n → f k < P) ∧ ∀ i k, i < k → k < n → f i ≠ f k
theorem oP_cg : ∀ n : Nat, (∀ i, i < n → f i = g i) → oP τ f n = oP τ g n := by
  intro n
  induction n with
  | zero => intro _; rfl
  | succ n ih =>
    intro h
    rw [oP, oP, ih (fun i hi => h i (by omega)), h n (by omega)]
theorem oU_cg (p : Nat) : ∀ n : Nat, (∀ i, i < n → f i = g i) → oU f n p = oU g n p := by
  intro n
  induction n with
  | zero => intro _; rfl
  | succ n ih =>
    intro h
    rw [oU, oU, ih (fun i hi => h i (by omega)), h n (by omega)]
theorem oR_cg (s : Int) : ∀ n : Nat, (∀ i, i < n → f i = g i) → oR τ f s n = oR τ g s n := by
  intro n
  induction n with
  | zero => intro _; rfl
  | succ n ih =>
    intro h
    rw [oR, oR, ih (fun i hi => h i (by omega)), h n (by omega)]
theorem oC_cg : ∀ n : Nat, (∀ i, i < n → f i = g i) → oC τ f n = oC τ g n := by
  intro n
  induction n with
  | zero => intro _; rfl
  | succ n ih =>
    intro h
    rw [oC, oC, ih (fun i hi => h i (by omega)), oP_cg (n + 1) h, h n (by omega), oR_cg _ (n + 1) h]
theorem oV_cg {n : Nat} (h : ∀ i, i < n → f i = g i) (v : oV f P n) : oV g P n := ⟨fun k hk => by rw [← h k hk]; exact v.1 k hk, fun i k hi hk => by rw [← h k hk, ← h i (by omega)]; exact v.2 i k hi hk⟩
theorem oV.lo {n m : Nat} (v : oV f P n) (h : m ≤ n) : oV f P m := ⟨fun k hk => v.1 k (by omega), fun i k hi hk => v.2 i k hi (by omega)⟩
theorem oU_01 (f : Nat → Nat) (p : Nat) : ∀ n : Nat, oU f n p = 0 ∨ oU f n p = 1 := by
  intro n
  induction n with
  | zero => exact Or.inl rfl
  | succ n ih => rw [oU]; split; exact Or.inr rfl; exact ih
theorem oU_0 (f : Nat → Nat) (p : Nat) : ∀ n : Nat, oU f n p = 0 ↔ ∀ i, i < n → f i ≠ p := by
  intro n
  induction n with
  | zero => exact ⟨fun _ i hi => absurd hi (by omega), fun _ => rfl⟩
  | succ n ih =>
    rw [oU]
    by_cases q : f n = p
    · rw [if_pos q]
      exact ⟨fun e => absurd e (by decide), fun e => absurd q (e n (by omega))⟩
    · rw [if_neg q, ih]
      refine ⟨fun e i hi => ?_, fun e i hi => e i (by omega)⟩
      by_cases z : i = n
      · rw [z]; exact q
      · exact e i (by omega)
theorem oV.fresh {n k : Nat} (v : oV f P n) (h : k < n) : oU f k (f k) = 0 := (oU_0 f _ k).mpr (fun i hi => v.2 i k hi h)
/-- how many of n are not placed -/
def oX (f : Nat → Nat) (k : Nat) : Nat → Int
  | 0 => 0
  | n + 1 => oX f k n + if oU f k n = 0 then 1 else 0
theorem oX_0 (f : Nat → Nat) (n : Nat) : oX f 0 n = ((n : Nat) : Int) := by
  induction n with
  | zero => rfl
  | succ n ih => rw [oX, ih, if_pos (show oU f 0 n = 0 from rfl)]; omega
theorem oX_st {k : Nat} (hu : oU f k (f k) = 0) : ∀ n : Nat, oX f (k + 1) n = oX f k n - if f k < n then 1 else 0 := by
  intro n
  induction n with
  | zero => rw [if_neg (by omega)]; rfl
  | succ n ih =>
    rw [oX, oX, ih, oU]
    by_cases q : f k = n
    · rw [if_pos q, ← q, hu, if_neg (show ¬ f k < f k by omega), if_neg (show ¬ (1 : Int) = 0 by decide), if_pos (show (0 : Int) = 0 from rfl), if_pos (show f k < f k + 1 by omega)]; omega
    · rw [if_neg q]
      by_cases q2 : f k < n
      · rw [if_pos q2, if_pos (show f k < n + 1 by omega)]; omega
      · rw [if_neg q2, if_neg (show ¬ f k < n + 1 by omega)]; omega
theorem oX_k : ∀ k : Nat, oV f P k → oX f k P = ((P : Nat) : Int) - ((k : Nat) : Int) := by
  intro k
  induction k with
  | zero => intro _; rw [oX_0]; omega
  | succ k ih =>
    intro v
    rw [oX_st (v.fresh (by omega)), ih (v.lo (by omega)), if_pos (v.1 k (by omega))]; omega
theorem oX_nn (f : Nat → Nat) (k : Nat) : ∀ n p : Nat, p < n → oU f k p = 0 → 1 ≤ oX f k n := by
  have h0 : ∀ n, 0 ≤ oX f k n := by
    intro n
    induction n with
    | zero => exact Int.le_refl _
    | succ n ih => rw [oX]; split <;> omega
  intro n
  induction n with
  | zero => intro p hp; omega
  | succ n ih =>
    intro p hp hu
    rw [oX]
    by_cases q : p = n
    · rw [← q, if_pos hu]; have := h0 p; omega
    · have := ih p (by omega) hu
      split <;> omega
/-- an order of all places all -/
theorem oV.all (v : oV f P P) {p : Nat} (hp : p < P) : ∃ i, i < P ∧ f i = p := by
  have h := oX_k P v
  refine Decidable.byContradiction fun e => ?_
  have : oU f P p = 0 := (oU_0 f p P).mpr (fun i hi q => e ⟨i, hi, q⟩)
  have := oX_nn f P P p hp this
  omega
/-- how many pieces of a sack are not placed -/
def oW (τ : Sg) (f : Nat → Nat) (s : Int) (k : Nat) : Nat → Int
  | 0 => 0
  | n + 1 => oW τ f s k n + if oSk τ n = s ∧ oU f k n = 0 then 1 else 0
theorem oW_nn (τ : Sg) (f : Nat → Nat) (s : Int) (k : Nat) : ∀ n : Nat, 0 ≤ oW τ f s k n := by
  intro n
  induction n with
  | zero => exact Int.le_refl _
  | succ n ih => rw [oW]; split <;> omega
theorem oW_st (s : Int) {k : Nat} (hu : oU f k (f k) = 0) : ∀ n : Nat, oW τ f s (k + 1) n = oW τ f s k n - if oSk τ (f k) = s ∧ f k < n then 1 else 0 := by
  intro n
  induction n with
  | zero => rw [if_neg (fun e => by omega)]; rfl
  | succ n ih =>
    rw [oW, oW, ih, oU]
    by_cases q : f k = n
    · rw [if_pos q, ← q, hu, if_neg (show ¬ (oSk τ (f k) = s ∧ f k < f k) from fun e => by omega), if_neg (show ¬ (oSk τ (f k) = s ∧ (1 : Int) = 0) from fun e => absurd e.2 (by decide))]
      by_cases z : oSk τ (f k) = s
      · rw [if_pos (show oSk τ (f k) = s ∧ (0 : Int) = 0 from ⟨z, rfl⟩), if_pos (show oSk τ (f k) = s ∧ f k < f k + 1 from ⟨z, by omega⟩)]; omega
      · rw [if_neg (show ¬ (oSk τ (f k) = s ∧ (0 : Int) = 0) from fun e => z e.1), if_neg (show ¬ (oSk τ (f k) = s ∧ f k < f k + 1) from fun e => z e.1)]; omega
    · rw [if_neg q]
      by_cases q2 : oSk τ (f k) = s ∧ f k < n
      · rw [if_pos q2, if_pos (show oSk τ (f k) = s ∧ f k < n + 1 from ⟨q2.1, by omega⟩)]; omega
      · rw [if_neg q2, if_neg (show ¬ (oSk τ (f k) = s ∧ f k < n + 1) from fun e => q2 ⟨e.1, by omega⟩)]; omega
theorem oW_0 (hT : TW (τ 224)) {s : Nat} (hs : ((s : Nat) : Int) < τ 224 4) (f : Nat → Nat) : ∀ n : Nat, ((n : Nat) : Int) ≤ τ 224 668 → oW τ f ((s : Nat) : Int) 0 n = if ((n : Nat) : Int) ≤ tPre (τ 224) s then 0 else if ((n : Nat) : Int) ≤ tPre (τ 224) (s + 1) then ((n : Nat) : Int) - tPre (τ 224) s else tPre (τ 224) (s + 1) - tPre (τ 224) s := by
  have hm := hT.many s hs
  have h0 := tPre_nn hT (a := s) (by omega)
  have e1 : tPre (τ 224) (s + 1) = tPre (τ 224) s + tM (τ 224) s := rfl
  intro n
  induction n with
  | zero => intro _; rw [if_pos (by omega)]; rfl
  | succ n ih =>
    intro hn
    rw [oW, ih (by omega)]
    have hu : oU f 0 n = 0 := rfl
    have key : oSk τ n = ((s : Nat) : Int) ↔ tPre (τ 224) s ≤ ((n : Nat) : Int) ∧ ((n : Nat) : Int) < tPre (τ 224) (s + 1) := by
      constructor
      · intro e
        have r := nSo_rg hT (p := ((n : Nat) : Int)) (by omega) (by omega)
        unfold oSk at e
        rw [e] at r
        exact r.2
      · intro e
        exact nSo_eq hT hs e.1 e.2
    by_cases q : tPre (τ 224) s ≤ ((n : Nat) : Int) ∧ ((n : Nat) : Int) < tPre (τ 224) (s + 1)
    · rw [if_pos (show oSk τ n = ((s : Nat) : Int) ∧ oU f 0 n = 0 from ⟨key.mpr q, hu⟩)]
      rw [if_neg (show ¬ ((n + 1 : Nat) : Int) ≤ tPre (τ 224) s by omega), if_pos (show ((n + 1 : Nat) : Int) ≤ tPre (τ 224) (s + 1) by omega)]
      by_cases z : ((n : Nat) : Int) ≤ tPre (τ 224) s
      · rw [if_pos z]; omega
      · rw [if_neg z, if_pos (by omega)]; omega
    · rw [if_neg (show ¬ (oSk τ n = ((s : Nat) : Int) ∧ oU f 0 n = 0) from fun e => q (key.mp e.1))]
      by_cases z : ((n + 1 : Nat) : Int) ≤ tPre (τ 224) s
      · rw [if_pos z, if_pos (by omega)]; rfl
      · rw [if_neg z, if_neg (show ¬ ((n : Nat) : Int) ≤ tPre (τ 224) s by omega), if_neg (show ¬ ((n + 1 : Nat) : Int) ≤ tPre (τ 224) (s + 1) by omega)]
        by_cases z2 : ((n : Nat) : Int) ≤ tPre (τ 224) (s + 1)
        · rw [if_pos z2]; omega
        · rw [if_neg z2]; omega
theorem oR_at (hT : TW (τ 224)) (hP : τ 224 668 = ((P : Nat) : Int)) {s : Nat} (hs : ((s : Nat) : Int) < τ 224 4) : ∀ k : Nat, oV f P k → oR τ f ((s : Nat) : Int) k = oW τ f ((s : Nat) : Int) k P := by
  intro k
  induction k with
  | zero =>
    intro _
    have hm := hT.many s hs
    have hl := tPre_le hT (a := s + 1) (by omega)
    have e1 : tPre (τ 224) (s + 1) = tPre (τ 224) s + tM (τ 224) s := rfl
    rw [oR, oW_0 hT hs f P (by omega), if_neg (by omega), nOf_n τ s (by decide)]
    have em : tM (τ 224) s = τ 224 (20 + 7 * s + 6) := rfl
    by_cases z : ((P : Nat) : Int) ≤ tPre (τ 224) (s + 1)
    · rw [if_pos z]; show τ 224 (20 + 7 * s + 6) = _; omega
    · rw [if_neg z]; show τ 224 (20 + 7 * s + 6) = _; omega
  | succ k ih =>
    intro v
    rw [oR, oW_st _ (v.fresh (by omega)), ih (v.lo (by omega))]
    have := v.1 k (by omega)
    by_cases q : oSk τ (f k) = ((s : Nat) : Int)
    · rw [if_pos q, if_pos ⟨q, this⟩]
    · rw [if_neg q, if_neg (fun e => q e.1)]; omega
theorem oR_all (hT : TW (τ 224)) (hP : τ 224 668 = ((P : Nat) : Int)) {s : Nat} (hs : ((s : Nat) : Int) < τ 224 4) (v : oV f P P) : oR τ f ((s : Nat) : Int) P = 0 := by
  rw [oR_at hT hP hs P v]
  have h : ∀ n : Nat, n ≤ P → oW τ f ((s : Nat) : Int) P n = 0 := by
    intro n
    induction n with
    | zero => intro _; rfl
    | succ n ih =>
      intro hn
      rw [oW, ih (by omega), if_neg (fun e => by
        obtain ⟨i, hi, hf⟩ := v.all (p := n) (by omega)
        exact (oU_0 f n P).mp e.2 i hi hf)]; rfl
  exact h P (Nat.le_refl _)
theorem oSk_rg (hT : TW (τ 224)) (hP : τ 224 668 = ((P : Nat) : Int)) {p : Nat} (hp : p < P) : 0 ≤ oSk τ p ∧ oSk τ p < τ 224 4 := (nSo_rg hT (p := ((p : Nat) : Int)) (by omega) (by omega)).1
/-- each step's end -/
theorem oP_st (hT : TW (τ 224)) (hP : τ 224 668 = ((P : Nat) : Int)) {k : Nat} (hk : k < 60) (hf : f k < P) (hb : 0 ≤ (oP τ f k).1 ∧ (oP τ f k).1 ≤ 600 + 951 * ((k : Nat) : Int)) :
    (oP τ f k).1 ≤ (oP τ f (k + 1)).1 ∧ nOf τ (oSk τ (f k)) 2 ≤ (oP τ f (k + 1)).1 ∧ 0 ≤ (oP τ f (k + 1)).1 ∧ (oP τ f (k + 1)).1 ≤ 600 + 951 * ((k + 1 : Nat) : Int) := by
  have hs := oSk_rg hT hP hf
  have hS := hT.sacks
  have ho := hT.of hs.1 hs.2
  have hc := hT.clean
  have hst := hT.stones
  have hm := mul_rg (hT.pa (s := 0) (by omega) (by omega)) (hT.po (p := ((f k : Nat) : Int)) (by omega) (by omega))
  have hcl : 0 ≤ oCl τ (oP τ f k).2 (oSk τ (f k)) ∧ oCl τ (oP τ f k).2 (oSk τ (f k)) ≤ 60 := by unfold oCl; split <;> omega
  have e : (oP τ f (k + 1)).1 = max (oP τ f k).1 (nOf τ (oSk τ (f k)) 2) + oCl τ (oP τ f k).2 (oSk τ (f k)) + nPa τ 0 * nPo τ ((f k : Nat) : Int) := by
    show wr (wr (max (oP τ f k).1 (nOf τ (oSk τ (f k)) 2) + oCl τ (oP τ f k).2 (oSk τ (f k))) + wr (nPa τ 0 * nPo τ ((f k : Nat) : Int))) = _
    rw [wr_id (show okI (nPa τ 0 * nPo τ ((f k : Nat) : Int)) by unfold okI; omega), wr_id (show okI (max (oP τ f k).1 (nOf τ (oSk τ (f k)) 2) + oCl τ (oP τ f k).2 (oSk τ (f k))) by unfold okI; omega), wr_id (by unfold okI; omega)]
  have ho2 := ho.2.2.1
  rw [e]
  omega
theorem oP_rg (hT : TW (τ 224)) (hP : τ 224 668 = ((P : Nat) : Int)) : ∀ k : Nat, k ≤ 60 → oV f P k → 0 ≤ (oP τ f k).1 ∧ (oP τ f k).1 ≤ 600 + 951 * ((k : Nat) : Int) := by
  intro k
  induction k with
  | zero => intro _ _; exact ⟨Int.le_refl _, by show (0 : Int) ≤ _; omega⟩
  | succ k ih =>
    intro hk v
    exact (oP_st hT hP (by omega) (v.1 k (by omega)) (ih (by omega) (v.lo (by omega)))).2.2
theorem oP_mono (hT : TW (τ 224)) (hP : τ 224 668 = ((P : Nat) : Int)) {i : Nat} : ∀ k : Nat, i ≤ k → k ≤ 60 → oV f P k → (oP τ f i).1 ≤ (oP τ f k).1 := by
  intro k
  induction k with
  | zero => intro h _ _; rw [show i = 0 by omega]; exact Int.le_refl _
  | succ k ih =>
    intro h hk v
    by_cases q : i = k + 1
    · rw [q]; exact Int.le_refl _
    · exact Int.le_trans (ih (by omega) (by omega) (v.lo (by omega))) (oP_st hT hP (by omega) (v.1 k (by omega)) (oP_rg hT hP k (by omega) (v.lo (by omega)))).1
theorem mul9 {a b : Int} (ha : 1 ≤ a ∧ a ≤ 9) (hb : 0 ≤ b ∧ b ≤ 57660) : 0 ≤ a * b ∧ a * b ≤ 518940 := by
  refine ⟨Int.mul_nonneg (by omega) hb.1, ?_⟩
  have := Int.mul_le_mul ha.2 hb.2 hb.1 (by decide : (0 : Int) ≤ 9)
  omega
/-- what the cost becomes -/
theorem oC_st (hT : TW (τ 224)) (hP : τ 224 668 = ((P : Nat) : Int)) {k : Nat} (hk : k < 60) (v : oV f P (k + 1)) (hb : 0 ≤ oC τ f k ∧ oC τ f k ≤ 518940 * ((k : Nat) : Int)) :
    oC τ f (k + 1) = oC τ f k + (if oR τ f (oSk τ (f k)) (k + 1) = 0 then nOf τ (oSk τ (f k)) 4 * ((oP τ f (k + 1)).1 - nOf τ (oSk τ (f k)) 2) else 0) ∧ oC τ f k ≤ oC τ f (k + 1) ∧ oC τ f (k + 1) ≤ 518940 * ((k + 1 : Nat) : Int) := by
  have hf := v.1 k (by omega)
  have hs := oSk_rg hT hP hf
  have ho := hT.of hs.1 hs.2
  have st := oP_st hT hP hk hf (oP_rg hT hP k (by omega) (v.lo (by omega)))
  have ho2 := ho.2.2.1
  rw [oC]
  generalize (oP τ f (k + 1)).1 = E at st ⊢
  generalize nOf τ (oSk τ (f k)) 2 = c at ho2 st ⊢
  have m := mul9 ho.2.2.2.2.1 (show 0 ≤ E - c ∧ E - c ≤ 57660 by omega)
  rw [wr_id (show okI (E - c) by unfold okI; omega)]
  generalize nOf τ (oSk τ (f k)) 4 * (E - c) = M at m ⊢
  rw [wr_id (show okI M by unfold okI; omega)]
  split
  · rw [wr_id (by unfold okI; omega)]; omega
  · rw [wr_id (by unfold okI; omega)]; omega
theorem oC_rg (hT : TW (τ 224)) (hP : τ 224 668 = ((P : Nat) : Int)) : ∀ k : Nat, k ≤ 60 → oV f P k → 0 ≤ oC τ f k ∧ oC τ f k ≤ 518940 * ((k : Nat) : Int) := by
  intro k
  induction k with
  | zero => intro _ _; exact ⟨Int.le_refl _, by show (0 : Int) ≤ _; omega⟩
  | succ k ih =>
    intro hk v
    have h := ih (by omega) (v.lo (by omega))
    have st := oC_st hT hP (by omega) v h
    omega
/-- the cost, sack by sack -/
def gC (τ : Sg) (f : Nat → Nat) (k : Nat) : Nat → Int
  | 0 => 0
  | n + 1 => gC τ f k n + if oR τ f ((n : Nat) : Int) k = 0 then nOf τ ((n : Nat) : Int) 4 * (oD τ f ((n : Nat) : Int) k - nOf τ ((n : Nat) : Int) 2) else 0
theorem gC_st {k : Nat} (s0 : Nat) (hs : oSk τ (f k) = ((s0 : Nat) : Int)) (h1 : oR τ f ((s0 : Nat) : Int) k ≠ 0) : ∀ n : Nat, gC τ f (k + 1) n = gC τ f k n + if s0 < n ∧ oR τ f ((s0 : Nat) : Int) (k + 1) = 0 then nOf τ ((s0 : Nat) : Int) 4 * ((oP τ f (k + 1)).1 - nOf τ ((s0 : Nat) : Int) 2) else 0 := by
  intro n
  induction n with
  | zero => rw [if_neg (fun e => by omega)]; rfl
  | succ n ih =>
    rw [gC, gC, ih]
    by_cases q : s0 = n
    · subst q
      have eD : oD τ f ((s0 : Nat) : Int) (k + 1) = (oP τ f (k + 1)).1 := by rw [oD, if_pos hs]
      rw [eD, if_neg (show ¬ (s0 < s0 ∧ oR τ f ((s0 : Nat) : Int) (k + 1) = 0) from fun e => by omega), if_neg h1]
      by_cases z : oR τ f ((s0 : Nat) : Int) (k + 1) = 0
      · rw [if_pos z, if_pos (show s0 < s0 + 1 ∧ oR τ f ((s0 : Nat) : Int) (k + 1) = 0 from ⟨by omega, z⟩), Int.add_zero]
      · rw [if_neg z, if_neg (show ¬ (s0 < s0 + 1 ∧ oR τ f ((s0 : Nat) : Int) (k + 1) = 0) from fun e => z e.2)]
    · have eD : oD τ f ((n : Nat) : Int) (k + 1) = oD τ f ((n : Nat) : Int) k := by rw [oD, if_neg (by rw [hs]; omega)]
      have eR : oR τ f ((n : Nat) : Int) (k + 1) = oR τ f ((n : Nat) : Int) k := by rw [oR, if_neg (by rw [hs]; omega)]
      rw [eD, eR]
      by_cases z : s0 < n ∧ oR τ f ((s0 : Nat) : Int) (k + 1) = 0
      · rw [if_pos z, if_pos (show s0 < n + 1 ∧ oR τ f ((s0 : Nat) : Int) (k + 1) = 0 from ⟨by omega, z.2⟩)]; omega
      · rw [if_neg z, if_neg (show ¬ (s0 < n + 1 ∧ oR τ f ((s0 : Nat) : Int) (k + 1) = 0) from fun e => z ⟨by omega, e.2⟩)]; omega
theorem gC_0 (hT : TW (τ 224)) : ∀ n : Nat, ((n : Nat) : Int) ≤ τ 224 4 → gC τ f 0 n = 0 := by
  intro n
  induction n with
  | zero => intro _; rfl
  | succ n ih =>
    intro hn
    have ho := hT.of (s := ((n : Nat) : Int)) (by omega) (by omega)
    have h6 := ho.2.2.2.2.2.2
    rw [gC, ih (by omega), oR, if_neg (by omega)]; rfl
theorem oC_gC (hT : TW (τ 224)) (hP : τ 224 668 = ((P : Nat) : Int)) (hP60 : P ≤ 60) : ∀ k : Nat, k ≤ P → oV f P k → oC τ f k = gC τ f k (τ 224 4).toNat := by
  have hS := hT.sacks
  intro k
  induction k with
  | zero => intro _ _; rw [gC_0 hT _ (by omega)]; rfl
  | succ k ih =>
    intro hk v
    have hf := v.1 k (by omega)
    have hs := oSk_rg hT hP hf
    obtain ⟨s0, e0⟩ : ∃ s0 : Nat, oSk τ (f k) = ((s0 : Nat) : Int) := ⟨(oSk τ (f k)).toNat, by omega⟩
    have hr := oR_at (f := f) hT hP (s := s0) (by omega) (k + 1) v
    have hn := oW_nn τ f ((s0 : Nat) : Int) (k + 1) P
    have hr2 : oR τ f ((s0 : Nat) : Int) (k + 1) = oR τ f ((s0 : Nat) : Int) k - 1 := by rw [oR, if_pos e0]
    rw [(oC_st hT hP (by omega) v (oC_rg hT hP k (by omega) (v.lo (by omega)))).1, ih (by omega) (v.lo (by omega)), gC_st s0 e0 (by omega), e0]
    by_cases z : oR τ f ((s0 : Nat) : Int) (k + 1) = 0
    · rw [if_pos z, if_pos ⟨by omega, z⟩]
    · rw [if_neg z, if_neg (fun e => z e.2)]
/-- the model's run of an order -/
theorem coo_at (hT : TW (τ 224)) (hP : τ 224 668 = ((P : Nat) : Int)) (h224 : y 224 = τ 224) : ∀ k : Nat, oV f P k → (∀ i, i < k → y 240 i = ((f i : Nat) : Int)) →
    (nCooL y k 236 0 = (oP τ f k).1 ∧ nCooL y k 237 0 = (oP τ f k).2) ∧ (∀ i, i < k → nCooL y k 233 (f i) = (oP τ f (i + 1)).1) ∧ (∀ p, p < P → nCooL y k 231 p = oSk τ p) ∧ nCooL y k 224 = τ 224 ∧ nCooL y k 240 = y 240 := by
  intro k
  induction k with
  | zero =>
    intro _ _
    refine ⟨⟨?_, ?_⟩, fun i hi => absurd hi (by omega), fun p hp => ?_, ?_, ?_⟩
    · show nFg y 236 0 = 0
      rw [nFg_at, if_neg (by omega), if_neg (by omega)]; rfl
    · show nFg y 237 0 = -1
      rw [nFg_at, if_neg (by omega), if_neg (by omega)]; rfl
    · show nFg y 231 p = _
      rw [nFg_231 y (by rw [h224]; omega), nSo_of h224]; rfl
    · show nFg y 224 = _
      rw [nFg_224, h224]
    · show nFg y 240 = _
      rw [nFg_240 y (by decide) (by decide)]
  | succ k ih =>
    intro v h
    obtain ⟨⟨i1, i2⟩, i3, i4, i5, i6⟩ := ih (v.lo (by omega)) (fun i hi => h i (by omega))
    have hf := v.1 k (by omega)
    have e240 : nCooL y k 240 k = ((f k : Nat) : Int) := by rw [i6, h k (by omega)]
    have eN : nCooL y (k + 1) = nBg (nCooL y k) ((f k : Nat) : Int) 0 (max (nCooL y k 236 0) (nOf (nCooL y k) (nCooL y k 231 (f k)) 2)) := by rw [nCooL_s, cooS, e240]; rfl
    rw [eN, i4 _ hf, i1, nOf_of i5]
    have eC : vbC (nCooL y k) ((f k : Nat) : Int) 0 = oCl τ (oP τ f k).2 (oSk τ (f k)) := by
      unfold vbC oCl
      show (if nCooL y k 237 0 ≠ -1 ∧ nCooL y k 237 0 ≠ nOf (nCooL y k) (nCooL y k 231 (f k)) 3 then nCooL y k 224 2 else 0) = _
      rw [i2, i4 _ hf, nOf_of i5, i5]
    have eD : vbD (nCooL y k) ((f k : Nat) : Int) 0 (max (oP τ f k).1 (nOf τ (oSk τ (f k)) 2)) = (oP τ f (k + 1)).1 := by
      unfold vbD vbG
      rw [eC, nPa_of i5, nPo_of i5]; rfl
    generalize nCooL y k = z at i1 i2 i3 i4 i5 i6 eC eD ⊢
    refine ⟨⟨?_, ?_⟩, fun i hi => ?_, fun p hp => ?_, ?_, ?_⟩
    · rw [nBg_236]
      show (if 0 = (0 : Int).toNat then _ else _) = _
      rw [if_pos (show 0 = (0 : Int).toNat from rfl), eD]
    · rw [nBg_237]
      show (if 0 = (0 : Int).toNat then nOf z (z 231 (f k)) 3 else _) = _
      rw [if_pos (show 0 = (0 : Int).toNat from rfl), i4 _ hf, nOf_of i5]; rfl
    · rw [nBg_233]
      show (if f i = f k then _ else z 233 (f i)) = _
      by_cases q : i = k
      · rw [q, if_pos rfl, eD]
      · rw [if_neg (v.2 i k (by omega) (by omega)), i3 i (by omega)]
    · rw [nBg_231]; exact i4 p hp
    · rw [nBg_224]; exact i5
    · have : nBg z ((f k : Nat) : Int) 0 (max (oP τ f k).1 (nOf τ (oSk τ (f k)) 2)) 240 = z 240 := funext fun j => nBg_ne _ _ _ _ (by omega) j
      rw [this]; exact i6
theorem oD_pr (τ : Sg) (f : Nat → Nat) (s : Int) : ∀ k : Nat, oD τ f s k = 0 ∨ ∃ i, i < k ∧ oSk τ (f i) = s ∧ oD τ f s k = (oP τ f (i + 1)).1 := by
  intro k
  induction k with
  | zero => exact Or.inl rfl
  | succ k ih =>
    rw [oD]
    by_cases q : oSk τ (f k) = s
    · rw [if_pos q]; exact Or.inr ⟨k, by omega, q, rfl⟩
    · rw [if_neg q]
      rcases ih with h | ⟨i, h1, h2, h3⟩
      · exact Or.inl h
      · exact Or.inr ⟨i, by omega, h2, h3⟩
theorem oD_ge (hT : TW (τ 224)) (hP : τ 224 668 = ((P : Nat) : Int)) (s : Int) : ∀ k : Nat, k ≤ 60 → oV f P k → 0 ≤ oD τ f s k ∧ oD τ f s k ≤ 57660 ∧ ∀ i, i < k → oSk τ (f i) = s → (oP τ f (i + 1)).1 ≤ oD τ f s k := by
  intro k
  induction k with
  | zero => intro _ _; exact ⟨Int.le_refl _, by show (0 : Int) ≤ _; omega, fun i hi => absurd hi (by omega)⟩
  | succ k ih =>
    intro hk v
    obtain ⟨i1, i2, i3⟩ := ih (by omega) (v.lo (by omega))
    have hr := oP_rg hT hP (k + 1) hk v
    rw [oD]
    by_cases q : oSk τ (f k) = s
    · rw [if_pos q]
      exact ⟨hr.1, by omega, fun i hi _ => oP_mono hT hP (k + 1) (by omega) hk v⟩
    · rw [if_neg q]
      refine ⟨i1, i2, fun i hi h2 => ?_⟩
      by_cases z : i = k
      · rw [z] at h2; exact absurd h2 q
      · exact i3 i (by omega) h2
/-- the cost of an order, as the model and as the class have it -/
theorem coo_cost (hT : TW (τ 224)) (hP : τ 224 668 = ((P : Nat) : Int)) (h224 : y 224 = τ 224) (v : oV f P P) (h240 : ∀ i, i < P → y 240 i = ((f i : Nat) : Int)) : nCo (nCoo y) = oC τ f P := by
  have h60 := hT.p60
  have hS := hT.sacks
  obtain ⟨_, c2, c3, c4, _⟩ := coo_at hT hP h224 P v h240
  have eP : nCoo y = nCooL y P := by unfold nCoo; rw [h224, hP]; rfl
  rw [eP, oC_gC hT hP (by omega) P (Nat.le_refl _) v]
  generalize nCooL y P = z at c2 c3 c4 ⊢
  have eE : ∀ s : Nat, ((s : Nat) : Int) < τ 224 4 → nEo z ((s : Nat) : Int) = oD τ f ((s : Nat) : Int) P := by
    intro s hs
    have hd := oD_ge (f := f) hT hP ((s : Nat) : Int) P (by omega) v
    have hp := nEo_pr z ((s : Nat) : Int) (z 224 668).toNat
    unfold nEo
    rw [c4, hP] at hp ⊢
    rw [show (((P : Nat) : Int)).toNat = P from rfl] at hp ⊢
    obtain ⟨p1, p2, p3⟩ := hp
    have a : itr P (nEoS z ((s : Nat) : Int)) 0 ≤ oD τ f ((s : Nat) : Int) P := by
      rcases p3 with h | ⟨p, h1, h2, h3⟩
      · rw [h]; exact hd.1
      · obtain ⟨i, hi, hf⟩ := v.all h1
        rw [← h3, ← hf, c2 i hi]
        exact hd.2.2 i hi (by rw [hf, ← c3 p h1]; exact h2)
    have b : oD τ f ((s : Nat) : Int) P ≤ itr P (nEoS z ((s : Nat) : Int)) 0 := by
      rcases oD_pr τ f ((s : Nat) : Int) P with h | ⟨i, h1, h2, h3⟩
      · rw [h]; exact p1
      · rw [h3, ← c2 i h1]
        exact p2 (f i) (v.1 i h1) (by rw [c3 _ (v.1 i h1)]; exact h2)
    omega
  have key : ∀ n : Nat, ((n : Nat) : Int) ≤ τ 224 4 → itr n (ncS z) 0 = gC τ f P n ∧ -518940 * ((n : Nat) : Int) ≤ gC τ f P n ∧ gC τ f P n ≤ 518940 * ((n : Nat) : Int) := by
    intro n
    induction n with
    | zero => intro _; exact ⟨rfl, by show _ ≤ (0 : Int); omega, by show (0 : Int) ≤ _; omega⟩
    | succ n ih =>
      intro hn
      obtain ⟨i1, i2, i3⟩ := ih (by omega)
      have hd := oD_ge (f := f) hT hP ((n : Nat) : Int) P (by omega) v
      have ho := hT.of (s := ((n : Nat) : Int)) (by omega) (by omega)
      have ho2 := ho.2.2.1
      have ho4 := ho.2.2.2.2.1
      rw [itr_s, i1, gC, if_pos (oR_all hT hP (by omega) v)]
      unfold ncS nWa
      rw [eE n (by omega), nOf_of c4, nOf_of c4]
      generalize oD τ f ((n : Nat) : Int) P = E at hd ⊢
      generalize nOf τ ((n : Nat) : Int) 2 = c at ho2 ⊢
      generalize nOf τ ((n : Nat) : Int) 4 = w at ho4 ⊢
      have m : -518940 ≤ w * (E - c) ∧ w * (E - c) ≤ 518940 := by
        by_cases z : 0 ≤ E - c
        · have := mul9 ho4 (show 0 ≤ E - c ∧ E - c ≤ 57660 by omega)
          omega
        · have := mul9 ho4 (show 0 ≤ c - E ∧ c - E ≤ 57660 by omega)
          have e : w * (E - c) = -(w * (c - E)) := by rw [← Int.mul_neg]; congr 1; omega
          omega
      rw [wr_id (show okI (E - c) by unfold okI; omega)]
      generalize w * (E - c) = M at m ⊢
      rw [wr_id (show okI M by unfold okI; omega), wr_id (show okI (gC τ f P n + M) by unfold okI; omega)]
      omega
  unfold nCo
  rw [c4]
  exact (key _ (by omega)).1
end OPs
