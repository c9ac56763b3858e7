/-! ALIKE, 30: a search through all ways, the greatest first -/
def dqF (L : Nat → Sg → Sg) (n : Int) : Nat → Int → Int → Nat → Sg → Sg
  | 0, _, _, _, σ => σ
  | f + 1, left, most, d, σ => if left = 0 then L d σ else if ((d : Nat) : Int) < n then itr (min left most).toNat (trS (dqF L n f) left (min left most) d) σ else σ
theorem trF_dq (s n : Int) : ∀ f : Nat, trF s n f = dqF (fun d σ => nJg σ s d) n f := by
  intro f
  induction f with
  | zero => rfl
  | succ f ih =>
    funext left most d σ
    rw [trF, dqF, ih]
theorem feF_dq (s n whole : Int) : ∀ f : Nat, feF s n whole f = dqF (fun d σ => feL σ s whole d) n f := by
  intro f
  induction f with
  | zero => rfl
  | succ f ih =>
    funext left most d σ
    rw [feF, dqF, ih]
    rfl
def iup (u : Nat → Int) (d : Nat) (c : Int) (i : Nat) : Int := if i = d then c else u i
theorem iup_at (u : Nat → Int) (d : Nat) (c : Int) : iup u d c d = c := by unfold iup; rw [if_pos rfl]
theorem iup_lo {u : Nat → Int} {d : Nat} {c : Int} {i : Nat} (h : i < d) : iup u d c i = u i := by unfold iup; rw [if_neg (by omega)]
/-- a way goes ahead of all that begin as u does -/
def dqB (u : Nat → Int) (d : Nat) (e : Nat) (v : Nat → Int) : Prop := ∃ i, i < d ∧ i < e ∧ (∀ j, j < i → v j = u j) ∧ u i < v i
/-- a way begins as u does -/
def dqX (u : Nat → Int) (d : Nat) (e : Nat) (v : Nat → Int) : Prop := d ≤ e ∧ ∀ j, j < d → v j = u j
theorem dqB_up (u : Nat → Int) (d : Nat) (c : Int) (e : Nat) (v : Nat → Int) : dqB (iup u d c) (d + 1) e v ↔ dqB u d e v ∨ (dqX u d e v ∧ d < e ∧ c < v d) := by
  constructor
  · rintro ⟨i, h1, h2, h3, h4⟩
    by_cases q : i = d
    · subst q
      rw [iup_at] at h4
      exact Or.inr ⟨⟨by omega, fun j hj => by rw [h3 j hj, iup_lo hj]⟩, h2, h4⟩
    · rw [iup_lo (by omega)] at h4
      exact Or.inl ⟨i, by omega, h2, fun j hj => by rw [h3 j hj, iup_lo (by omega)], h4⟩
  · rintro (⟨i, h1, h2, h3, h4⟩ | ⟨⟨h1, h2⟩, h3, h4⟩)
    · exact ⟨i, by omega, h2, fun j hj => by rw [h3 j hj, iup_lo (by omega)], by rw [iup_lo h1]; exact h4⟩
    · exact ⟨d, by omega, h3, fun j hj => by rw [h2 j hj, iup_lo hj], by rw [iup_at]; exact h4⟩
theorem dqX_up (u : Nat → Int) (d : Nat) (c : Int) (e : Nat) (v : Nat → Int) : dqX (iup u d c) (d + 1) e v ↔ dqX u d e v ∧ d < e ∧ v d = c := by
  constructor
  · rintro ⟨h1, h2⟩
    have h3 := h2 d (by omega)
    rw [iup_at] at h3
    exact ⟨⟨by omega, fun j hj => by rw [h2 j (by omega), iup_lo hj]⟩, by omega, h3⟩
  · rintro ⟨⟨h1, h2⟩, h3, h4⟩
    refine ⟨by omega, fun j hj => ?_⟩
    by_cases q : j = d
    · rw [q, iup_at]; exact h4
    · rw [iup_lo (by omega)]; exact h2 j (by omega)
section DQ
variable {L : Nat → Sg → Sg} {n N : Int} {Inv : (Nat → (Nat → Int) → Prop) → Sg → Prop}
theorem dq_all (hcg : ∀ D D' x, Inv D x → (∀ (e : Nat) (v : Nat → Int), wqV N e v → ((e : Nat) : Int) ≤ n → (D e v ↔ D' e v)) → Inv D' x)
    (hsu : ∀ D x (k : Nat) (c : Int), Inv D x → Inv D (su x 242 k c))
    (hL : ∀ (x : Sg) (d : Nat) (w : Nat → Int), wqV N d w → ((d : Nat) : Int) ≤ n → (∀ i, i < d → x 242 i = w i) → Inv (dqB w d) x → Inv (fun e v => dqB w d e v ∨ dqX w d e v) (L d x) ∧ L d x 242 = x 242) :
    ∀ (f : Nat) (left most : Int) (d : Nat) (x : Sg) (u : Nat → Int), n + 1 ≤ ((f : Nat) : Int) + ((d : Nat) : Int) → ((d : Nat) : Int) ≤ n → (∀ i, i < d → 1 ≤ u i) → (∀ i, i + 1 < d → u (i + 1) ≤ u i) → wqS u d + left = N → 0 ≤ left → 0 ≤ most → (∀ i, i + 1 = d → most ≤ u i) → (∀ (e : Nat) (v : Nat → Int), wqV N e v → dqX u d e v → d < e → v d ≤ most) → (∀ i, i < d → x 242 i = u i) → Inv (dqB u d) x →
      Inv (fun e v => dqB u d e v ∨ dqX u d e v) (dqF L n f left most d x) ∧ ∀ i, i < d → dqF L n f left most d x 242 i = u i := by
  intro f
  induction f with
  | zero => intro left most d x u hf hd; omega
  | succ f ih =>
    intro left most d x u hf hd u1 u2 hs h0 hm hu hmost hx hI
    rw [dqF]
    by_cases q : left = 0
    · rw [if_pos q]
      obtain ⟨r1, r2⟩ := hL x d u ⟨u1, u2, by omega⟩ hd hx hI
      exact ⟨r1, fun i hi => by rw [r2]; exact hx i hi⟩
    · rw [if_neg q]
      -- a way that begins so goes on
      have go_on : ∀ (e : Nat) (v : Nat → Int), wqV N e v → dqX u d e v → d < e := by
        intro e v hv hX
        refine Decidable.byContradiction fun z => ?_
        have e1 : e = d := by have := hX.1; omega
        subst e1
        have h1 := wqS_cg (w := v) (v := u) e (fun i hi => hX.2 i hi)
        have h2 := hv.2.2
        omega
      by_cases q2 : ((d : Nat) : Int) < n
      · rw [if_pos q2]
        have hP0 : 0 ≤ min left most := by omega
        have hPl : min left most ≤ left := by omega
        have hPm : min left most ≤ most := by omega
        have hPv : ∀ (e : Nat) (v : Nat → Int), wqV N e v → dqX u d e v → v d ≤ min left most := by
          intro e v hv hX
          have h1 := go_on e v hv hX
          have h2 := hmost e v hv hX h1
          have h3 := wqS_cg (w := v) (v := u) d (fun i hi => hX.2 i hi)
          have h4 := hv.lo (k := d + 1) (by omega)
          have h5 : wqS v (d + 1) = wqS v d + v d := rfl
          omega
        generalize min left most = P at hP0 hPl hPm hPv ⊢
        have key : ∀ m : Nat, ((m : Nat) : Int) ≤ P → Inv (fun e v => dqB u d e v ∨ (dqX u d e v ∧ d < e ∧ P - ((m : Nat) : Int) < v d)) (itr m (trS (dqF L n f) left P d) x) ∧ ∀ i, i < d → itr m (trS (dqF L n f) left P d) x 242 i = u i := by
          intro m
          induction m with
          | zero =>
            intro _
            refine ⟨hcg _ _ _ hI (fun e v hv hn => ⟨fun z => Or.inl z, fun z => ?_⟩), hx⟩
            rcases z with z | ⟨z1, z2, z3⟩
            · exact z
            · have := hPv e v hv z1
              omega
          | succ m ihm =>
            intro hm2
            obtain ⟨i1, i2⟩ := ihm (by omega)
            rw [itr_s]
            generalize itr m (trS (dqF L n f) left P d) x = y at i1 i2 ⊢
            rw [trS]
            have hc : ((m + 1 : Nat) : Int) = ((m : Nat) : Int) + 1 := by omega
            have r := ih (left - (P - ((m : Nat) : Int))) (P - ((m : Nat) : Int)) (d + 1) (su y 242 d (P - ((m : Nat) : Int))) (iup u d (P - ((m : Nat) : Int))) (by omega) (by omega)
              (fun i hi => by
                by_cases z : i = d
                · rw [z, iup_at]; omega
                · rw [iup_lo (by omega)]; exact u1 i (by omega))
              (fun i hi => by
                by_cases z : i + 1 = d
                · rw [z, iup_at, iup_lo (by omega)]
                  have := hu i z
                  omega
                · rw [iup_lo (by omega), iup_lo (by omega)]; exact u2 i (by omega))
              (by
                rw [wqS, iup_at, wqS_cg (w := iup u d (P - ((m : Nat) : Int))) (v := u) d (fun i hi => iup_lo hi)]
                omega)
              (by omega) (by omega)
              (fun i hi => by rw [show i = d by omega, iup_at]; exact Int.le_refl _)
              (fun e v hv hX he => by
                have h1 := hv.2.1 d he
                have h2 := ((dqX_up u d _ e v).mp hX).2.2
                omega)
              (fun i hi => by
                by_cases z : i = d
                · rw [z, su_same, iup_at]
                · rw [su_ne _ _ (Or.inr z), iup_lo (by omega)]; exact i2 i (by omega))
              (hcg _ _ _ (hsu _ _ _ _ i1) (fun e v _ _ => (dqB_up u d _ e v).symm))
            obtain ⟨r1, r2⟩ := r
            refine ⟨hcg _ _ _ r1 (fun e v hv hn => ?_), fun i hi => by rw [r2 i (by omega), iup_lo hi]⟩
            constructor
            · rintro (z | z)
              · rcases (dqB_up u d _ e v).mp z with z | ⟨z1, z2, z3⟩
                · exact Or.inl z
                · exact Or.inr ⟨z1, z2, by omega⟩
              · obtain ⟨z1, z2, z3⟩ := (dqX_up u d _ e v).mp z
                exact Or.inr ⟨z1, z2, by omega⟩
            · rintro (z | ⟨z1, z2, z3⟩)
              · exact Or.inl ((dqB_up u d _ e v).mpr (Or.inl z))
              · by_cases z4 : v d = P - ((m : Nat) : Int)
                · exact Or.inr ((dqX_up u d _ e v).mpr ⟨z1, z2, z4⟩)
                · exact Or.inl ((dqB_up u d _ e v).mpr (Or.inr ⟨z1, z2, by omega⟩))
        obtain ⟨k1, k2⟩ := key P.toNat (by omega)
        refine ⟨hcg _ _ _ k1 (fun e v hv hn => ⟨fun z => ?_, fun z => ?_⟩), k2⟩
        · rcases z with z | ⟨z1, _, _⟩
          · exact Or.inl z
          · exact Or.inr z1
        · rcases z with z | z
          · exact Or.inl z
          · have h1 := go_on e v hv z
            have h2 := hv.1 d h1
            exact Or.inr ⟨z, h1, by omega⟩
      · rw [if_neg q2]
        refine ⟨hcg _ _ _ hI (fun e v hv hn => ⟨fun z => Or.inl z, fun z => ?_⟩), hx⟩
        rcases z with z | z
        · exact z
        · have := go_on e v hv z
          omega
/-- all ways gone through -/
theorem dq_top (hcg : ∀ D D' x, Inv D x → (∀ (e : Nat) (v : Nat → Int), wqV N e v → ((e : Nat) : Int) ≤ n → (D e v ↔ D' e v)) → Inv D' x)
    (hsu : ∀ D x (k : Nat) (c : Int), Inv D x → Inv D (su x 242 k c))
    (hL : ∀ (x : Sg) (d : Nat) (w : Nat → Int), wqV N d w → ((d : Nat) : Int) ≤ n → (∀ i, i < d → x 242 i = w i) → Inv (dqB w d) x → Inv (fun e v => dqB w d e v ∨ dqX w d e v) (L d x) ∧ L d x 242 = x 242)
    (f : Nat) (x : Sg) (hf : n + 1 ≤ ((f : Nat) : Int)) (hn : 0 ≤ n) (hN : 0 ≤ N) (h0 : Inv (fun _ _ => False) x) : Inv (fun _ _ => True) (dqF L n f N N 0 x) := by
  have r := dq_all hcg hsu hL f N N 0 x (fun _ => 0) (by omega) (by omega) (fun i hi => by omega) (fun i hi => by omega) (by show (0 : Int) + N = N; omega) hN hN (fun i hi => by omega) (fun e v hv _ he => hv.le he) (fun i hi => by omega) (hcg _ _ _ h0 (fun e v _ _ => ⟨fun z => z.elim, fun ⟨i, hi, _⟩ => by omega⟩))
  exact hcg _ _ _ r.1 (fun e v _ _ => ⟨fun _ => trivial, fun _ => Or.inr ⟨by omega, fun j hj => by omega⟩⟩)
end DQ
