/-! ALIKE, 27: the search through the orders, the class's and the model's -/
section OPs
variable {σ τ y : Sg} {f g : Nat → Nat} {P : Nat}
def oup (f : Nat → Nat) (d p : Nat) : Nat → Nat := fun i => if i = d then p else f i
theorem oup_lo {d p i : Nat} (h : i < d) : f i = oup f d p i := by unfold oup; rw [if_neg (by omega)]
theorem oup_at (f : Nat → Nat) (d p : Nat) : oup f d p d = p := by unfold oup; rw [if_pos rfl]
theorem oV_up {d p : Nat} (v : oV f P d) (hp : p < P) (hu : oU f d p = 0) : oV (oup f d p) P (d + 1) := by
  refine ⟨fun k hk => ?_, fun i k hi hk => ?_⟩
  · by_cases q : k = d
    · rw [q, oup_at]; exact hp
    · rw [← oup_lo (by omega)]; exact v.1 k (by omega)
  · rw [← oup_lo (i := i) (by omega)]
    by_cases q : k = d
    · rw [q, oup_at]; exact (oU_0 f p d).mp hu i (by omega)
    · rw [← oup_lo (by omega)]; exact v.2 i k hi (by omega)
/-- the best so far (1000000000: none) and how it goes -/
abbrev oBs : Type := Int × (Nat → Nat)
def oL (τ : Sg) (f : Nat → Nat) (P : Nat) (x : oBs) : oBs := if oC τ f P < x.1 then (oC τ f P, f) else x
def oSt (rec : (Nat → Nat) → Nat → oBs → oBs) (f : Nat → Nat) (d p : Nat) (x : oBs) : oBs := if oU f d p = 0 then rec (oup f d p) (d + 1) x else x
def oS (τ : Sg) (P : Nat) : Nat → (Nat → Nat) → Nat → oBs → oBs
  | 0, _, _, x => x
  | n + 1, f, d, x => if d = P then oL τ f P x else itr P (oSt (oS τ P n) f d) x
theorem oS_mono (τ : Sg) (P : Nat) : ∀ (n : Nat) (f : Nat → Nat) (d : Nat) (x : oBs), (oS τ P n f d x).1 ≤ x.1 := by
  intro n
  induction n with
  | zero => intro f d x; exact Int.le_refl _
  | succ n ih =>
    intro f d x
    rw [oS]; split
    · rw [oL]; split
      · next q => exact Int.le_of_lt q
      · exact Int.le_refl _
    · refine itr_inv (fun _ (y : oBs) => y.1 ≤ x.1) _ _ x (Int.le_refl _) (fun p y hp hy => ?_)
      rw [oSt]; split
      · exact Int.le_trans (ih _ _ _) hy
      · exact hy
theorem oC_up (hT : TW (τ 224)) (hP : τ 224 668 = ((P : Nat) : Int)) (hP60 : P ≤ 60) {d p : Nat} (hd : d < P) (v : oV f P d) (hp : p < P) (hu : oU f d p = 0) : oC τ f d ≤ oC τ (oup f d p) (d + 1) := by
  have v2 := oV_up v hp hu
  rw [oC_cg (τ := τ) (g := oup f d p) d (fun i hi => oup_lo hi)]
  exact (oC_st hT hP (by omega) v2 (oC_rg hT hP d (by omega) (v2.lo (by omega)))).2.1
/-- what costs too much brings nothing -/
theorem oS_pr (hT : TW (τ 224)) (hP : τ 224 668 = ((P : Nat) : Int)) (hP60 : P ≤ 60) : ∀ (n : Nat) (f : Nat → Nat) (d : Nat) (x : oBs), d ≤ P → oV f P d → x.1 ≤ oC τ f d → oS τ P n f d x = x := by
  intro n
  induction n with
  | zero => intro f d x _ _ _; rfl
  | succ n ih =>
    intro f d x hd v hx
    rw [oS]; split
    · next q => rw [oL, if_neg (by rw [← q]; omega)]
    · next q =>
      refine itr_inv (fun _ (y : oBs) => y = x) _ _ x rfl (fun p y hp hy => ?_)
      rw [hy, oSt]; split
      · next hu => exact ih _ _ _ (by omega) (oV_up v hp hu) (Int.le_trans hx (oC_up hT hP hP60 (by omega) v hp hu))
      · rfl
/-- some order there is -/
theorem oS_some (hT : TW (τ 224)) (hP : τ 224 668 = ((P : Nat) : Int)) (hP60 : P ≤ 60) : ∀ (n : Nat) (f : Nat → Nat) (d : Nat) (x : oBs), d ≤ P → P < n + d → oV f P d → (oS τ P n f d x).1 < 1000000000 := by
  intro n
  induction n with
  | zero => intro f d x h1 h2 _; omega
  | succ n ih =>
    intro f d x hd hn v
    rw [oS]; split
    · next q =>
      have hr := oC_rg hT hP P hP60 (by have h := v; rw [q] at h; exact h)
      rw [oL]; split
      · show oC τ f P < _; omega
      · omega
    · next q =>
      have hx := oX_k d v
      have hex : ∃ p, p < P ∧ oU f d p = 0 := by
        refine Decidable.byContradiction fun e => ?_
        have : ∀ m : Nat, m ≤ P → oX f d m = 0 := by
          intro m
          induction m with
          | zero => intro _; rfl
          | succ m ihm => intro hm; rw [oX, ihm (by omega), if_neg (fun z => e ⟨m, by omega, z⟩)]; rfl
        have := this P (Nat.le_refl _)
        omega
      obtain ⟨p0, hp0, hu0⟩ := hex
      have key : ∀ m : Nat, m ≤ P → p0 < m → (itr m (oSt (oS τ P n) f d) x).1 < 1000000000 := by
        intro m
        induction m with
        | zero => intro _ h; omega
        | succ m ihm =>
          intro hm hpm
          rw [itr_s, oSt]
          by_cases z : m = p0
          · rw [z, if_pos hu0]
            exact ih _ _ _ (by omega) (by omega) (oV_up v hp0 hu0)
          · have := ihm (by omega) (by omega)
            split
            · have := oS_mono τ P n (oup f d m) (d + 1) (itr m (oSt (oS τ P n) f d) x); omega
            · exact this
      exact key P (Nat.le_refl _) hp0
/-! the class -/
/-- what the search reads and doesn't change -/
def oF (σ τ : Sg) (P : Nat) : Prop := σ 26 1 = ((P : Nat) : Int) ∧ (∀ p : Nat, p < P → σ 28 p = oSk τ p ∧ σ 30 p = nPo τ ((p : Nat) : Int)) ∧ MR σ 4 (τ 224)
theorem oF.off {σ' : Sg} (h : oF σ τ P) (k : off 128 143 σ σ') : oF σ' τ P := ⟨by rw [k 26 (by omega)]; exact h.1, fun p hp => by rw [k 28 (by omega), k 30 (by omega)]; exact h.2.1 p hp, h.2.2.of (fun a h1 h2 j => k a (by omega) j)⟩
/-- the rows of the search, at a depth -/
def oZ (σ τ : Sg) (P : Nat) (f : Nat → Nat) (d : Nat) (x : oBs) : Prop :=
  (∀ k : Nat, k ≤ d → σ 136 k = (oP τ f k).1 ∧ σ 138 k = (oP τ f k).2 ∧ σ 140 k = oC τ f k) ∧ (∀ k : Nat, k < d → σ 130 k = ((f k : Nat) : Int)) ∧ (∀ p : Nat, p < P → σ 132 p = oU f d p) ∧ (∀ s : Nat, ((s : Nat) : Int) < τ 224 4 → σ 134 s = oR τ f ((s : Nat) : Int) d) ∧ σ 128 9 = x.1 ∧ (x.1 ≠ 1000000000 → ∀ i : Nat, i < P → σ 142 i = ((x.2 i : Nat) : Int))
theorem oR_b (τ : Sg) (f : Nat → Nat) (s : Int) : ∀ k : Nat, nOf τ s 6 - ((k : Nat) : Int) ≤ oR τ f s k ∧ oR τ f s k ≤ nOf τ s 6 := by
  intro k
  induction k with
  | zero => rw [oR]; omega
  | succ k ih => rw [oR]; split <;> omega
theorem oZ_pl (hT : TW (τ 224)) (hP : τ 224 668 = ((P : Nat) : Int)) (hP8 : P ≤ 8) {d p : Nat} {x : oBs} (hF : oF σ τ P) (hZ : oZ σ τ P f d x) (hd : d < P) (hp : p < P) (hu : oU f d p = 0) (v : oV f P d) : oZ (pl σ ((d : Nat) : Int) ((p : Nat) : Int)) τ P (oup f d p) (d + 1) x := by
  obtain ⟨f1, f2, f3⟩ := hF
  obtain ⟨z1, z2, z3, z4, z5, z6⟩ := hZ
  have hs := oSk_rg hT hP hp
  have hn := hT.p_nn
  obtain ⟨s0, e0⟩ : ∃ s0 : Nat, oSk τ p = ((s0 : Nat) : Int) := ⟨(oSk τ p).toNat, by omega⟩
  have hk := f3.sk (s := s0) (by omega)
  have hst := hT.stones
  have v2 := oV_up v hp hu
  have cgP := oP_cg (τ := τ) (f := f) (g := oup f d p) d (fun i hi => oup_lo hi)
  have cgC := oC_cg (τ := τ) (f := f) (g := oup f d p) d (fun i hi => oup_lo hi)
  have cgR : ∀ s, oR τ f s d = oR τ (oup f d p) s d := fun s => oR_cg (τ := τ) (f := f) (g := oup f d p) s d (fun i hi => oup_lo hi)
  have cgU : ∀ q, oU f d q = oU (oup f d p) d q := fun q => oU_cg (f := f) (g := oup f d p) q d (fun i hi => oup_lo hi)
  have a28 : rAt σ 28 60 ((p : Nat) : Int) = ((s0 : Nat) : Int) := by rw [rAt_nt (by omega), (f2 p hp).1, e0]
  have a30 : rAt σ 30 60 ((p : Nat) : Int) = nPo τ ((p : Nat) : Int) := by rw [rAt_nt (by omega), (f2 p hp).2]
  have a17 : rAt σ 17 60 ((s0 : Nat) : Int) = nOf τ ((s0 : Nat) : Int) 3 := by rw [rAt_nt (by omega), nOf_n τ s0 (by decide)]; exact hk.2.2.2.1
  have a15 : rAt σ 15 60 ((s0 : Nat) : Int) = nOf τ ((s0 : Nat) : Int) 2 := by rw [rAt_nt (by omega), nOf_n τ s0 (by decide)]; exact hk.2.2.1
  have a19 : ∀ y : Sg, y 19 = σ 19 → rAt y 19 60 ((s0 : Nat) : Int) = nOf τ ((s0 : Nat) : Int) 4 := fun y hy => by rw [rAt_nt (by omega), nOf_n τ s0 (by decide), hy]; exact hk.2.2.2.2.1
  have a138 : rAt σ 138 9 ((d : Nat) : Int) = (oP τ f d).2 := by rw [rAt_nt (by omega)]; exact (z1 d (by omega)).2.1
  have a136 : rAt σ 136 9 ((d : Nat) : Int) = (oP τ f d).1 := by rw [rAt_nt (by omega)]; exact (z1 d (by omega)).1
  have a9 : rAt σ 9 3 0 = nPa τ 0 := by
    rw [rAt_lt (by omega) (by omega)]
    have := f3.pace (k := 0) (by omega)
    rw [show (0 : Int).toNat = 0 from rfl, this]
    unfold nPa
    rfl
  have eCl : (if (oP τ f d).2 = -1 ∨ (oP τ f d).2 = nOf τ ((s0 : Nat) : Int) 3 then 0 else σ 4 3) = oCl τ (oP τ f d).2 ((s0 : Nat) : Int) := by
    unfold oCl
    rw [f3.clean]
    by_cases q : (oP τ f d).2 = -1 ∨ (oP τ f d).2 = nOf τ ((s0 : Nat) : Int) 3
    · rw [if_pos q, if_neg (by omega)]
    · rw [if_neg q, if_pos (by omega)]
  have eE : wr (wr (max (oP τ f d).1 (nOf τ ((s0 : Nat) : Int) 2) + oCl τ (oP τ f d).2 ((s0 : Nat) : Int)) + wr (nPa τ 0 * nPo τ ((p : Nat) : Int))) = (oP τ (oup f d p) (d + 1)).1 := by
    rw [oP, ← cgP, oup_at, e0]
  have eD : wr (((d : Nat) : Int) + 1) = ((d + 1 : Nat) : Int) := by rw [wr_id (by unfold okI; omega)]; omega
  have b0 := oR_b τ f ((s0 : Nat) : Int) d
  have ho := hT.of (s := ((s0 : Nat) : Int)) (by omega) (by omega)
  have h134 : σ 134 s0 = oR τ f ((s0 : Nat) : Int) d := z4 s0 (by omega)
  have eL : wr (rAt (rPut (rPut σ 130 8 ((d : Nat) : Int) ((p : Nat) : Int)) 132 8 ((p : Nat) : Int) 1) 134 8 ((s0 : Nat) : Int) - 1) = oR τ (oup f d p) ((s0 : Nat) : Int) (d + 1) := by
    rw [rAt_nt (by omega), rPut_ne (by decide), rPut_ne (by decide), h134, wr_id (by unfold okI; omega), oR, oup_at, e0, if_pos rfl, cgR]
  have eP : ∀ a j : Nat, pl σ ((d : Nat) : Int) ((p : Nat) : Int) a j = if a = 140 ∧ j = d + 1 then oC τ (oup f d p) (d + 1) else if a = 138 ∧ j = d + 1 then nOf τ ((s0 : Nat) : Int) 3 else if a = 136 ∧ j = d + 1 then (oP τ (oup f d p) (d + 1)).1 else if a = 134 ∧ j = s0 then oR τ (oup f d p) ((s0 : Nat) : Int) (d + 1) else if a = 132 ∧ j = p then 1 else if a = 130 ∧ j = d then ((p : Nat) : Int) else σ a j := by
    intro a j
    unfold pl
    rw [a28, a17, a15, a138, a136, a9, a30, eCl, eE, eD, eL]
    have e5 : rAt (rPut (rPut (rPut (rPut (rPut σ 130 8 ((d : Nat) : Int) ((p : Nat) : Int)) 132 8 ((p : Nat) : Int) 1) 134 8 ((s0 : Nat) : Int) (oR τ (oup f d p) ((s0 : Nat) : Int) (d + 1))) 136 9 ((d + 1 : Nat) : Int) (oP τ (oup f d p) (d + 1)).1) 138 9 ((d + 1 : Nat) : Int) (nOf τ ((s0 : Nat) : Int) 3)) 134 8 ((s0 : Nat) : Int) = oR τ (oup f d p) ((s0 : Nat) : Int) (d + 1) := by
      rw [rAt_nt (by omega), rPut_ne (by decide), rPut_ne (by decide), rPut_at (by omega) (by omega), if_pos ⟨rfl, rfl⟩]
    have e6 : rAt (rPut (rPut (rPut (rPut (rPut σ 130 8 ((d : Nat) : Int) ((p : Nat) : Int)) 132 8 ((p : Nat) : Int) 1) 134 8 ((s0 : Nat) : Int) (oR τ (oup f d p) ((s0 : Nat) : Int) (d + 1))) 136 9 ((d + 1 : Nat) : Int) (oP τ (oup f d p) (d + 1)).1) 138 9 ((d + 1 : Nat) : Int) (nOf τ ((s0 : Nat) : Int) 3)) 140 9 ((d : Nat) : Int) = oC τ f d := by
      rw [rAt_nt (by omega), rPut_ne (by decide), rPut_ne (by decide), rPut_ne (by decide), rPut_ne (by decide), rPut_ne (by decide), (z1 d (by omega)).2.2]
    rw [e5, e6, a19 _ (funext fun j => by rw [rPut_ne (by decide), rPut_ne (by decide), rPut_ne (by decide), rPut_ne (by decide), rPut_ne (by decide)])]
    have e7 : wr (oC τ f d + if oR τ (oup f d p) ((s0 : Nat) : Int) (d + 1) = 0 then wr (nOf τ ((s0 : Nat) : Int) 4 * wr ((oP τ (oup f d p) (d + 1)).1 - nOf τ ((s0 : Nat) : Int) 2)) else 0) = oC τ (oup f d p) (d + 1) := by
      rw [oC, oup_at, e0, ← cgC]
    rw [e7, rPut_at (by omega) (by omega), rPut_at (by omega) (by omega), rPut_at (by omega) (by omega), rPut_at (by omega) (by omega), rPut_at (by omega) (by omega), rPut_at (by omega) (by omega)]
    rfl
  refine ⟨fun k hk => ?_, fun k hk => ?_, fun q hq => ?_, fun s hs2 => ?_, ?_, fun hx i hi => ?_⟩
  · rw [eP, eP, eP]
    by_cases q : k = d + 1
    · subst q
      rw [if_neg (by omega), if_neg (by omega), if_pos ⟨rfl, rfl⟩, if_neg (by omega), if_pos ⟨rfl, rfl⟩, if_pos ⟨rfl, rfl⟩]
      refine ⟨rfl, ?_, rfl⟩
      rw [oP, oup_at, e0]
    · have hk2 : k ≤ d := by omega
      have c1 := oP_cg (τ := τ) (f := f) (g := oup f d p) k (fun i hi => oup_lo (by omega))
      have c2 := oC_cg (τ := τ) (f := f) (g := oup f d p) k (fun i hi => oup_lo (by omega))
      rw [← c1, ← c2]
      (repeat rw [if_neg (by omega)])
      exact z1 k hk2
  · rw [eP]
    by_cases q : k = d
    · subst q
      rw [if_neg (by omega), if_neg (by omega), if_neg (by omega), if_neg (by omega), if_neg (by omega), if_pos ⟨rfl, rfl⟩, oup_at]
    · rw [← oup_lo (i := k) (by omega)]
      (repeat rw [if_neg (by omega)])
      exact z2 k (by omega)
  · rw [eP, oU, oup_at]
    by_cases z : q = p
    · subst z
      rw [if_neg (by omega), if_neg (by omega), if_neg (by omega), if_neg (by omega), if_pos ⟨rfl, rfl⟩, if_pos rfl]
    · rw [if_neg (show ¬ p = q by omega), ← cgU]
      (repeat rw [if_neg (by omega)])
      exact z3 q hq
  · rw [eP]
    by_cases z : s = s0
    · subst z
      rw [if_neg (by omega), if_neg (by omega), if_neg (by omega), if_pos ⟨rfl, rfl⟩]
    · (repeat rw [if_neg (by omega)])
      rw [oR, oup_at, e0, if_neg (by omega), ← cgR]
      exact z4 s hs2
  · rw [eP]
    (repeat rw [if_neg (by omega)])
    exact z5
  · rw [eP]
    (repeat rw [if_neg (by omega)])
    exact z6 hx i hi
theorem oZ_tb (hT : TW (τ 224)) (hP : τ 224 668 = ((P : Nat) : Int)) (hP8 : P ≤ 8) {d p : Nat} {x : oBs} (hF : oF σ τ P) (hZ : oZ σ τ P (oup f d p) (d + 1) x) (hd : d < P) (hp : p < P) (hu : oU f d p = 0) : oZ (tb σ ((p : Nat) : Int)) τ P f d x := by
  obtain ⟨f1, f2, f3⟩ := hF
  obtain ⟨z1, z2, z3, z4, z5, z6⟩ := hZ
  have hs := oSk_rg hT hP hp
  have hn := hT.p_nn
  obtain ⟨s0, e0⟩ : ∃ s0 : Nat, oSk τ p = ((s0 : Nat) : Int) := ⟨(oSk τ p).toNat, by omega⟩
  have cgR : ∀ s, oR τ f s d = oR τ (oup f d p) s d := fun s => oR_cg (τ := τ) (f := f) (g := oup f d p) s d (fun i hi => oup_lo hi)
  have cgU : ∀ q, oU f d q = oU (oup f d p) d q := fun q => oU_cg (f := f) (g := oup f d p) q d (fun i hi => oup_lo hi)
  have a28 : rAt σ 28 60 ((p : Nat) : Int) = ((s0 : Nat) : Int) := by rw [rAt_nt (by omega), (f2 p hp).1, e0]
  have b0 := oR_b τ f ((s0 : Nat) : Int) d
  have ho := hT.of (s := ((s0 : Nat) : Int)) (by omega) (by omega)
  have h134 : σ 134 s0 = oR τ f ((s0 : Nat) : Int) d - 1 := by rw [z4 s0 (by omega), oR, oup_at, e0, if_pos rfl, cgR]
  have eL : wr (rAt (rPut σ 132 8 ((p : Nat) : Int) 0) 134 8 ((s0 : Nat) : Int) + 1) = oR τ f ((s0 : Nat) : Int) d := by
    rw [rAt_nt (by omega), rPut_ne (by decide), h134, wr_id (by unfold okI; omega)]; omega
  have eT : ∀ a j : Nat, tb σ ((p : Nat) : Int) a j = if a = 134 ∧ j = s0 then oR τ f ((s0 : Nat) : Int) d else if a = 132 ∧ j = p then 0 else σ a j := by
    intro a j
    unfold tb
    rw [a28, eL, rPut_at (by omega) (by omega), rPut_at (by omega) (by omega)]
    rfl
  refine ⟨fun k hk => ?_, fun k hk => ?_, fun q hq => ?_, fun s hs2 => ?_, ?_, fun hx i hi => ?_⟩
  · rw [eT, eT, eT]
    have c1 := oP_cg (τ := τ) (f := f) (g := oup f d p) k (fun i hi => oup_lo (by omega))
    have c2 := oC_cg (τ := τ) (f := f) (g := oup f d p) k (fun i hi => oup_lo (by omega))
    rw [c1, c2]
    (repeat rw [if_neg (by omega)])
    exact z1 k (by omega)
  · rw [eT, if_neg (by omega), if_neg (by omega), z2 k (by omega), ← oup_lo hk]
  · rw [eT, if_neg (by omega)]
    by_cases z : q = p
    · subst z; rw [if_pos ⟨rfl, rfl⟩, hu]
    · rw [if_neg (by omega), z3 q hq, oU, oup_at, if_neg (by omega), cgU]
  · rw [eT]
    by_cases z : s = s0
    · subst z; rw [if_pos ⟨rfl, rfl⟩]
    · rw [if_neg (by omega), if_neg (by omega), z4 s hs2, oR, oup_at, e0, if_neg (by omega), cgR]
  · rw [eT, if_neg (by omega), if_neg (by omega)]; exact z5
  · rw [eT, if_neg (by omega), if_neg (by omega)]; exact z6 hx i hi
/-- the class's search is the search -/
theorem exF_alike (hT : TW (τ 224)) (hP : τ 224 668 = ((P : Nat) : Int)) (hP8 : P ≤ 8) : ∀ (n : Nat) (f : Nat → Nat) (d : Nat) (σ : Sg) (x : oBs), n + d = 9 → d ≤ P → oV f P d → oF σ τ P → oZ σ τ P f d x → oZ (exF n d σ) τ P f d (oS τ P n f d x) := by
  intro n
  induction n with
  | zero => intro f d σ x h1 h2 _ _ _; omega
  | succ n ih =>
    intro f d σ x hn hd v hF hZ
    have a140 : rAt σ 140 9 ((d : Nat) : Int) = oC τ f d := by rw [rAt_nt (by omega)]; exact (hZ.1 d (by omega)).2.2
    rw [exF, a140, hZ.2.2.2.2.1]
    by_cases q : x.1 ≤ oC τ f d
    · rw [if_pos q, oS_pr hT hP (by omega) _ _ _ _ hd v q]; exact hZ
    · rw [if_neg q, hF.1, oS]
      by_cases q2 : d = P
      · rw [if_pos (by omega), if_pos q2, oL, if_pos (by rw [← q2]; omega)]
        obtain ⟨z1, z2, z3, z4, z5, z6⟩ := hZ
        have e : ∀ a j : Nat, rCopy (su σ 128 9 (oC τ f d)) 142 130 8 a j = if a = 142 ∧ j < 8 then σ 130 j else if a = 128 ∧ j = 9 then oC τ f d else σ a j := by
          intro a j
          rw [rCopy_at]
          by_cases z : a = 142 ∧ j < 8
          · rw [if_pos z, if_pos z, su_ne _ _ (Or.inl (by decide))]
          · rw [if_neg z, if_neg z]; rfl
        refine ⟨fun k hk => ?_, fun k hk => ?_, fun p hp => ?_, fun s hs2 => ?_, ?_, fun hx i hi => ?_⟩
        · rw [e, e, e]; (repeat rw [if_neg (by omega)]); exact z1 k hk
        · rw [e]; (repeat rw [if_neg (by omega)]); exact z2 k hk
        · rw [e]; (repeat rw [if_neg (by omega)]); exact z3 p hp
        · rw [e]; (repeat rw [if_neg (by omega)]); exact z4 s hs2
        · rw [e, if_neg (by omega), if_pos ⟨rfl, rfl⟩, q2]
        · rw [e, if_pos ⟨rfl, by omega⟩]; exact z2 i (by omega)
      · rw [if_neg (by omega), if_neg q2, show (((P : Nat) : Int)).toNat = P from rfl]
        have key : ∀ m : Nat, m ≤ P → off 128 143 σ (itr m (exS (exF n) d) σ) ∧ oZ (itr m (exS (exF n) d) σ) τ P f d (itr m (oSt (oS τ P n) f d) x) := by
          intro m
          induction m with
          | zero => intro _; exact ⟨off.rf _ _ _, hZ⟩
          | succ m ihm =>
            intro hm
            obtain ⟨i1, i2⟩ := ihm (by omega)
            rw [itr_s, itr_s]
            generalize itr m (exS (exF n) d) σ = z at i1 i2 ⊢
            generalize itr m (oSt (oS τ P n) f d) x = w at i2 ⊢
            refine ⟨i1.trans (exS_off (fun d σ => exF_off n d σ) d m z), ?_⟩
            have hFz := hF.off i1
            have a132 : rAt z 132 8 ((m : Nat) : Int) = oU f d m := by rw [rAt_nt (by omega)]; exact i2.2.2.1 m (by omega)
            rw [exS, a132, oSt]
            by_cases q3 : oU f d m = 0
            · rw [if_pos q3, if_pos q3]
              have h1 := oZ_pl hT hP hP8 hFz i2 (by omega) (by omega) q3 v
              have h2 := ih (oup f d m) (d + 1) _ _ (by omega) (by omega) (oV_up v (by omega) q3) (hFz.off (pl_off z _ _)) h1
              exact oZ_tb hT hP hP8 ((hFz.off (pl_off z _ _)).off (exF_off n (d + 1) _)) h2 (by omega) (by omega) q3
            · rw [if_neg q3, if_neg q3]; exact i2
        exact (key P (Nat.le_refl _)).2
end OPs
