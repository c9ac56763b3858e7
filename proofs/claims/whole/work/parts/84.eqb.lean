/-! ALIKE, 15: a run's steps one by one; nobody waits less than no time -/
section AL
variable {σ τ : Sg}
/-- what each piece begun keeps, the run keeps -/
theorem nSl_P {P : Sg → Prop} (hP : ∀ (y : Sg) (p st mi : Int), RI y → RT y mi → P y → 0 ≤ p → p < y 224 668 → y 232 p.toNat = -1 → nOf y (y 231 p.toNat) 2 ≤ mi → 0 ≤ st → st < max 1 (y 224 1) → P (nBg y p st mi)) {mi : Int} (h : RI τ) (ht : RT τ mi) (h0 : P τ) : ∀ n : Nat, n ≤ (max 1 (τ 224 1)).toNat → P (itr n (rnS mi) τ) := by
  intro n
  induction n with
  | zero => intro _; exact h0
  | succ n ih =>
    intro hn
    have hi := ih (by omega)
    obtain ⟨⟨i1, i2, i3, i4⟩, _⟩ := nSl_inv h ht n (by omega)
    rw [itr_s]
    generalize itr n (rnS mi) τ = y at hi i1 i2 i3 i4 ⊢
    rw [rnS]
    split
    · rcases nFt_rg y mi ((n : Nat) : Int) with hf | hf
      · rw [if_pos hf]; exact hi
      · rw [if_neg (by omega)]
        exact hP y _ _ mi i1 i2 hi hf.1 hf.2.1 hf.2.2.1 hf.2.2.2 (by omega) (by rw [i3]; omega)
    · exact hi
theorem nRuR_P {P : Sg → Prop} (hP : ∀ (y : Sg) (p st mi : Int), RI y → RT y mi → P y → 0 ≤ p → p < y 224 668 → y 232 p.toNat = -1 → nOf y (y 231 p.toNat) 2 ≤ mi → 0 ≤ st → st < max 1 (y 224 1) → P (nBg y p st mi)) : ∀ (n : Nat) {τ : Sg} {mi : Int}, RI τ → (τ 223 27 < τ 224 668 → RT τ mi) → P τ → P (nRuR n τ mi) := by
  intro n
  induction n with
  | zero => intro τ mi _ _ h0; exact h0
  | succ n ih =>
    intro τ mi h ht h0
    rw [nRuR]
    split
    · next q =>
      obtain ⟨s1, s2, s3, s4⟩ := run_step h (ht q)
      exact ih s1 (fun q2 => (s4 q2).2) (nSl_P hP h (ht q) h0 _ (Nat.le_refl _))
    · exact h0
theorem nRu_P {P : Sg → Prop} (hP : ∀ (y : Sg) (p st mi : Int), RI y → RT y mi → P y → 0 ≤ p → p < y 224 668 → y 232 p.toNat = -1 → nOf y (y 231 p.toNat) 2 ≤ mi → 0 ≤ st → st < max 1 (y 224 1) → P (nBg y p st mi)) (hT : TW (τ 224)) (h0 : P (nFg τ)) : P (nRu τ) := by
  obtain ⟨h1, h2⟩ := nFg_RI hT
  exact nRuR_P hP nRuM h1 (fun _ => h2) h0
theorem nRu_231 (hT : TW (τ 224)) : nRu τ 231 = nFg τ 231 := by
  obtain ⟨h1, h2⟩ := nFg_RI hT
  exact (nRuR_end nRuM h1 (mi := 0) (fun _ => ⟨h2, by show (58000 : Int) - 0 < ((60000 : Nat) : Int); omega⟩)).2.2.1
theorem nFg_231 (τ : Sg) {p : Nat} (hp : ((p : Nat) : Int) < τ 224 668) : nFg τ 231 p = nSo τ ((p : Nat) : Int) := by rw [nFg_at, if_neg (by omega), if_pos ⟨rfl, by omega⟩]
theorem nFg_232 (τ : Sg) {p : Nat} (hp : ((p : Nat) : Int) < τ 224 668) : nFg τ 232 p = -1 := by rw [nFg_at, if_pos ⟨rfl, by omega⟩]
/-- a piece ends when its sack has come -/
def RC (τ : Sg) : Prop := ∀ p : Nat, ((p : Nat) : Int) < τ 224 668 → τ 232 p ≠ -1 → nOf τ (τ 231 p) 2 ≤ τ 233 p ∧ τ 233 p ≤ 2147483647
theorem nRu_RC (hT : TW (τ 224)) : RC (nRu τ) := by
  refine nRu_P (P := RC) ?_ hT ?_
  · intro y p st mi hI hR hP h0 h1 h2 h3 hs0 hs1 q hq hn
    have hb := hI.b
    have h6 := hI.1.1.p60
    have hm1 : mi ≤ 100000 := by have := hR.1.2; omega
    have hv := vb_ok hI.1 h0 h1 hs0 hs1 hR.1.1 hm1
    rw [nBg_232] at hn
    rw [nOf_of (nBg_224 y p st mi), nBg_231, nBg_233]
    change (if q = p.toNat then vbG y p st mi else y 232 q) ≠ -1 at hn
    show nOf y (y 231 q) 2 ≤ (if q = p.toNat then vbD y p st mi else y 233 q) ∧ (if q = p.toNat then vbD y p st mi else y 233 q) ≤ _
    by_cases e : q = p.toNat
    · rw [if_pos e, e]; omega
    · rw [if_neg e] at hn
      rw [if_neg e]
      exact hP q hq hn
  · intro p hp hn
    rw [nFg_224] at hp
    exact absurd (nFg_232 τ hp) hn
theorem wait_0 (hT : TW (τ 224)) {s : Int} (h0 : 0 ≤ s) (h1 : s < τ 224 4) : 0 ≤ nWa (nRu τ) s := by
  obtain ⟨k, rfl⟩ : ∃ k : Nat, s = ((k : Nat) : Int) := ⟨s.toNat, by omega⟩
  have hC := nRu_RC hT
  obtain ⟨hI, h224, h27⟩ := nRu_end hT
  have h231 := nRu_231 hT
  have hof := hT.of h0 h1
  have hp0 : 0 ≤ tPre (τ 224) k ∧ tPre (τ 224) (k + 1) ≤ τ 224 668 := ⟨by have := tPre_nn hT (a := k) (by omega); omega, tPre_le hT (by omega)⟩
  have hmk := hT.many k h1
  have hp1 : tPre (τ 224) (k + 1) = tPre (τ 224) k + tM (τ 224) k := rfl
  have e := nSo_eq (σ := τ) hT (s := k) (p := tPre (τ 224) k) h1 (Int.le_refl _) (by omega)
  have hq : (((tPre (τ 224) k).toNat : Nat) : Int) = tPre (τ 224) k := by omega
  have e2 : nRu τ 231 (tPre (τ 224) k).toNat = ((k : Nat) : Int) := by
    rw [h231, nFg_231 τ (by omega), hq, e]
  have hall : nRu τ 232 (tPre (τ 224) k).toNat ≠ -1 := by
    have h2 := hI.2
    rw [h27] at h2
    exact cntB_full (nRu τ 232) (nRu τ 224 668).toNat (by rw [h224] at h2 ⊢; omega) (by rw [h224]; omega)
  have hc := hC (tPre (τ 224) k).toNat (by rw [h224]; omega) hall
  rw [e2, nOf_of h224] at hc
  obtain ⟨f1, f2, f3⟩ := nEo_pr (nRu τ) ((k : Nat) : Int) (nRu τ 224 668).toNat
  change 0 ≤ nEo (nRu τ) ((k : Nat) : Int) at f1
  change ∀ p : Nat, p < (nRu τ 224 668).toNat → nRu τ 231 p = ((k : Nat) : Int) → nRu τ 233 p ≤ nEo (nRu τ) ((k : Nat) : Int) at f2
  change nEo (nRu τ) ((k : Nat) : Int) = 0 ∨ ∃ p : Nat, p < (nRu τ 224 668).toNat ∧ nRu τ 231 p = ((k : Nat) : Int) ∧ nRu τ 233 p = nEo (nRu τ) ((k : Nat) : Int) at f3
  have g1 := f2 (tPre (τ 224) k).toNat (by rw [h224]; omega) e2
  have g2 : nEo (nRu τ) ((k : Nat) : Int) ≤ 2147483647 := by
    rcases f3 with f3 | ⟨p, p1, p2, p3⟩
    · omega
    · rw [← p3]
      have h2 := hI.2
      rw [h27] at h2
      have hl : ((p : Nat) : Int) < nRu τ 224 668 := by omega
      exact (hC p hl (cntB_full (nRu τ 232) (nRu τ 224 668).toNat (by rw [h224] at h2 ⊢; omega) p1)).2
  unfold nWa
  rw [nOf_of h224]
  generalize nEo (nRu τ) ((k : Nat) : Int) = E at g1 g2
  generalize nRu τ 233 (tPre (τ 224) k).toNat = D at g1 hc
  rw [wr_id (by unfold okI; omega)]
  omega
end AL
