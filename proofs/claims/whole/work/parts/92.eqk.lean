/-! ALIKE, 23: lines and rules read -/
section LNs
variable {σ σ' τ : Sg} {t t' : Nat → Int}
theorem set_alike (h : RE σ τ) (hd : DR σ (τ 225)) (hw : DW (τ 225)) {c k : Nat} {lo hi : Int} (hk : (k = 2 ∧ c = 3 ∧ lo = 0 ∧ hi = 60) ∨ (k = 3 ∧ c = 4 ∧ lo = 0 ∧ hi = 99)) : Qd (su (rNum σ lo hi).2 51 c (rNum σ lo hi).1) (su (nNm2 τ lo hi) 225 k (nNum τ lo hi)) := by
  have hr := nNum_rg τ (show lo ≤ hi by omega)
  rcases h.num lo hi with ⟨k1, k2⟩ | k1
  · rw [k2]
    have hd2 : DR (rNum σ lo hi).2 (τ 225) := hd.of (fun a ha j => num_3 σ lo hi ha j) (fun _ => rfl)
    have e5 : ∀ j, nNm2 τ lo hi 225 j = τ 225 j := fun j => nNm2_ne _ _ _ (by decide) j
    generalize nNm2 τ lo hi = y at k1 e5 ⊢
    generalize nNum τ lo hi = v at hr ⊢
    generalize (rNum σ lo hi).2 = x at k1 hd2 ⊢
    have st := DR.set (t' := su y 225 k v 225) (c := c) (k := k) (v := v) hd2 hw (by omega) (fun j => by rw [su_at, e5])
    refine Or.inl ⟨(k1.cls (fun a j ha => ?_)).mod (fun a j ha => ?_), st.1, st.2⟩
    · exact su_ne _ _ (Or.inl (by omega))
    · exact su_ne _ _ (Or.inl (by omega))
  · refine Or.inr ((k1.cls (fun j => ?_)).mod (fun j => ?_))
    · exact su_ne _ _ (Or.inl (by decide))
    · exact su_ne _ _ (Or.inl (by decide))
def tLb (σ : Sg) : Sg :=
  if rSp σ 0 ≠ 0 then tStone σ
  else if rSp σ 1 ≠ 0 then su (rNum (rTak σ 1) 0 60).2 51 3 (rNum (rTak σ 1) 0 60).1
  else if rSp (rTak σ 1) 2 ≠ 0 then su (rNum (rTak (rTak σ 1) 2) 0 99).2 51 4 (rNum (rTak (rTak σ 1) 2) 0 99).1
  else if rSp (rTak (rTak σ 1) 2) 3 ≠ 0 then tSack (rTak (rTak σ 1) 2)
  else rFail (rTak (rTak σ 1) 2) 2
theorem tLine_b (σ : Sg) : tLine σ = rEnd (tLb σ) := rfl
theorem tak_q (h : RE σ τ) (hd : DR σ (τ 225)) (hw : DW (τ 225)) (j : Nat) : RE (rTak σ j) (nTak τ j) ∧ DR (rTak σ j) (nTak τ j 225) ∧ DW (nTak τ j 225) :=
  ⟨h.tak j, hd.of (fun _ ha i => tak_3 σ j ha i) (fun i => nTak_ne τ j (by decide) i), hw.of (fun i => nTak_ne τ j (by decide) i)⟩
theorem lb_alike (h : RE σ τ) (hd : DR σ (τ 225)) (hw : DW (τ 225)) : Qd (tLb σ) (nLb τ) := by
  obtain ⟨h1, d1, w1⟩ := tak_q h hd hw 1
  obtain ⟨h2, d2, w2⟩ := tak_q h1 d1 w1 2
  unfold tLb nLb
  rw [h.sp 0, h.sp 1, h1.sp 2, h2.sp 3]
  by_cases q0 : nSp τ 0 ≠ 0
  · rw [if_pos q0, if_pos q0]; exact stone_alike h hd hw
  rw [if_neg q0, if_neg q0]
  by_cases q1 : nSp τ 1 ≠ 0
  · rw [if_pos q1, if_pos q1]; exact set_alike h1 d1 w1 (Or.inl ⟨rfl, rfl, rfl, rfl⟩)
  rw [if_neg q1, if_neg q1]
  by_cases q2 : nSp (nTak τ 1) 2 ≠ 0
  · rw [if_pos q2, if_pos q2]; exact set_alike h2 d2 w2 (Or.inr ⟨rfl, rfl, rfl, rfl⟩)
  rw [if_neg q2, if_neg q2]
  by_cases q3 : nSp (nTak (nTak τ 1) 2) 3 ≠ 0
  · rw [if_pos q3, if_pos q3]; exact sack_alike h2 d2 w2
  rw [if_neg q3, if_neg q3]
  exact Or.inr (h2.fail (by decide))
theorem Qd.end_ (h : Qd σ τ) : Qd (rEnd σ) (nEnds τ) := by
  rcases h with ⟨h, hd, hw⟩ | h
  · rcases h.end_ with k | k
    · exact Or.inl ⟨k, hd.of (fun _ ha j => rend_3 σ ha j) (fun j => nEnds_ne τ (by decide) j), hw.of (fun j => nEnds_ne τ (by decide) j)⟩
    · exact Or.inr k
  · exact Or.inr h.end_
/-- one more line -/
theorem DR.line (h : DR σ t) (w : DW t) {v : Int} (g : ∀ j, t' j = if j = 0 then v else t j) : DR (su σ 51 1 v) t' ∧ DW t' := by
  obtain ⟨⟨a1, a2, a3, a4, a5⟩, ⟨b1, b2, b3⟩, cc, d⟩ := h
  obtain ⟨⟨h1, h2, h3b, h4, h8, h17, h668⟩, hp2, hs, hkk⟩ := w
  have gn : ∀ j, j ≠ 0 → t' j = t j := fun j q => by rw [g, if_neg q]
  have e2 : ∀ a j : Nat, ¬ (a = 51 ∧ j = 1) → su σ 51 1 v a j = σ a j := fun a j q => su_ne _ _ (by omega)
  constructor
  · refine ⟨⟨?_, ?_, ?_, ?_, ?_⟩, ⟨?_, ?_, fun k q => ?_⟩, fun k q => ?_, fun s q => ?_⟩
    · rw [g, if_pos rfl, su_same]
    · rw [e2 _ _ (by omega), gn _ (by omega)]; exact a2
    · rw [e2 _ _ (by omega), gn _ (by omega)]; exact a3
    · rw [e2 _ _ (by omega), gn _ (by omega)]; exact a4
    · rw [e2 _ _ (by omega), gn _ (by omega)]; exact a5
    · rw [e2 _ _ (by omega), gn _ (by omega)]; exact b1
    · rw [e2 _ _ (by omega), gn _ (by omega)]; exact b2
    · rw [gn _ (by omega)] at q
      rw [e2 _ _ (by omega), gn _ (by omega)]; exact b3 k q
    · rw [gn _ (by omega)] at q
      rw [e2 _ _ (by omega), gn _ (by omega)]; exact cc k q
    · rw [gn _ (by omega)] at q
      rw [e2 _ _ (by omega), e2 _ _ (by omega), e2 _ _ (by omega), e2 _ _ (by omega), e2 _ _ (by omega), e2 _ _ (by omega), e2 _ _ (by omega), e2 _ _ (by omega)]
      rw [gn _ (by omega), gn _ (by omega), gn _ (by omega), gn _ (by omega), gn _ (by omega), gn _ (by omega), gn _ (by omega), gn _ (by omega)]
      exact d s q
  · refine ⟨⟨by rw [gn _ (by omega)]; exact h1, by rw [gn _ (by omega)]; exact h2, by rw [gn _ (by omega)]; exact h3b, by rw [gn _ (by omega)]; exact h4, by rw [gn _ (by omega)]; exact h8, by rw [gn _ (by omega)]; exact h17, by rw [gn _ (by omega), gn _ (by omega)]; exact h668⟩, fun k q => ?_, fun s q => ?_, fun k q => ?_⟩
    · rw [gn _ (by omega)] at q
      rw [gn _ (by omega)]; exact hp2 k q
    · rw [gn _ (by omega)] at q
      obtain ⟨s1, s2, s3⟩ := hs s q
      unfold TSk tM at *
      rw [gn _ (by omega), gn _ (by omega), gn _ (by omega), gn _ (by omega), gn _ (by omega), gn _ (by omega), gn _ (by omega), gn _ (by omega)]
      exact ⟨s1, s2, s3⟩
    · rw [gn _ (by omega)] at q
      rw [gn _ (by omega)]; exact hkk k q
theorem line_alike (h : RE σ τ) (hd : DR σ (τ 225)) (hw : DW (τ 225)) : Qd (tMillS σ) (nLn τ) := by
  have q := (lb_alike h hd hw).end_
  unfold tMillS nLn
  rw [tLine_b]
  generalize rEnd (tLb σ) = x at q ⊢
  generalize nEnds (nLb τ) = y at q ⊢
  rcases q with ⟨q, qd, qw⟩ | q
  · rw [if_pos q.good, qd.1.1]
    have st := DR.line (t' := su y 225 0 (wr (y 225 0 + 1)) 225) (v := wr (y 225 0 + 1)) qd qw (fun j => su_at _ _ _ _ _)
    refine Or.inl ⟨(q.cls (fun a j ha => ?_)).mod (fun a j ha => ?_), st.1, st.2⟩
    · exact su_ne _ _ (Or.inl (by omega))
    · exact su_ne _ _ (Or.inl (by omega))
  · rw [if_neg q.bad]
    exact Or.inr (q.cls (fun j => su_ne _ _ (Or.inl (by decide))))
theorem RE.go (h : RE σ τ) : rGo σ = 0 ↔ ¬ (τ 223 13 = 0 ∧ τ 223 11 ≠ 0) := by
  unfold rGo
  rw [h.2.1.2.1, h.1.1, h.1.2]
  by_cases q : τ 223 11 = 0
  · rw [if_neg (fun e => e.2 q)]; exact ⟨fun _ e => e.2 q, fun _ => rfl⟩
  · rw [if_pos ⟨rfl, q⟩]; exact ⟨fun e => absurd e (by decide), fun e => absurd ⟨rfl, q⟩ e⟩
theorem RB.go (h : RB σ τ) : rGo σ = 0 := by
  unfold rGo
  rw [if_neg (fun e => h.1 e.1)]
/-- the lines of a mill's text -/
theorem mlL_alike : ∀ (n m : Nat) {σ τ : Sg}, n ≤ m → Qd σ τ → (τ 223 13 = 0 → Hd τ ∧ (τ 223 11 ≠ 0 → 900 - τ 223 10 ≤ ((n : Nat) : Int))) → Qd (tMillL n σ) (nMlL m τ) := by
  intro n
  induction n with
  | zero =>
    intro m σ τ hm hq hb
    have e : nMlL m τ = τ := nMlL_x m τ (fun q => by
      obtain ⟨b1, b2⟩ := hb q.1
      have b3 := b2 q.2
      have b4 := b1.2 q.2
      have b5 := b1.1.2.2.1
      omega)
    rw [e]; exact hq
  | succ n ih =>
    intro m σ τ hm hq hb
    rcases hq with ⟨h, hd, hw⟩ | h
    · by_cases q : τ 223 13 = 0 ∧ τ 223 11 ≠ 0
      · obtain ⟨b1, b2⟩ := hb q.1
        have b3 := b2 q.2
        obtain ⟨m', rfl⟩ : ∃ m', m = m' + 1 := ⟨m - 1, by omega⟩
        rw [tMillL, if_neg (fun e => h.go.mp e q), nMlL, if_pos q]
        refine ih m' (by omega) (line_alike h hd hw) (fun hg => ?_)
        obtain ⟨c1, c2⟩ := Hd_ln b1 q.2 hg
        exact ⟨c1, fun _ => by omega⟩
      · rw [tMillL, if_pos (h.go.mpr q), nMlL_x m τ q]
        exact Or.inl ⟨h, hd, hw⟩
    · rw [tMillL, if_pos h.go, nMlL_x m τ (fun e => h.bad e.1)]
      exact Or.inr h
/-- the law that is read -/
def LD (σ : Sg) (t : Nat → Int) : Prop := (σ 52 1 = t 8 ∧ σ 52 2 = t 17 ∧ ∀ k : Nat, ((k : Nat) : Int) < t 8 → σ 54 k = t (9 + k)) ∧ ((0 ≤ t 8 ∧ t 8 ≤ 8) ∧ 0 ≤ t 17 ∧ t 17 ≤ 99) ∧ KW t
def Ql (σ τ : Sg) : Prop := (RE σ τ ∧ LD σ (τ 225)) ∨ RB σ τ
theorem LD.of (h : LD σ t) (f : ∀ a, a ≠ 3 → ∀ j, σ' a j = σ a j) (g : ∀ j, t' j = t j) : LD σ' t' := by
  have e : t' = t := funext g
  subst e
  obtain ⟨⟨b1, b2, b3⟩, c⟩ := h
  refine ⟨⟨?_, ?_, fun k q => ?_⟩, c⟩
  · rw [f _ (by decide)]; exact b1
  · rw [f _ (by decide)]; exact b2
  · rw [f _ (by decide)]; exact b3 k q
theorem LD.key (h : LD σ t) (h8 : t 8 < 8) {v : Int} (hv : 0 ≤ v ∧ v ≤ 7) (g : ∀ j, t' j = if j = 8 then t 8 + 1 else if j = 9 + (t 8).toNat then v else t j) : LD (lAdd σ 52 v) t' := by
  obtain ⟨⟨b1, b2, b3⟩, ⟨c1, c2⟩, d⟩ := h
  have e : ∀ a j : Nat, lAdd σ 52 v a j = if a = 52 ∧ j = 1 then t 8 + 1 else if a = 54 ∧ j = (t 8).toNat then v else σ a j := by
    intro a j
    unfold lAdd
    rw [b1]
    have r : rPut σ (52 + 2) 8 (t 8) v 52 1 = t 8 := by rw [rPut_ne (by decide), b1]
    rw [r, wr_id (by unfold okI; omega)]
    by_cases z : a = 52 ∧ j = 1
    · rw [if_pos z, z.1, z.2, su_same]
    · rw [if_neg z, su_ne _ _ (by omega), rPut_at (by omega) (by omega)]
  have g8 : t' 8 = t 8 + 1 := by rw [g, if_pos rfl]
  have gp : ∀ k : Nat, t' (9 + k) = if k = (t 8).toNat then v else t (9 + k) := fun k => by
    rw [g, if_neg (by omega)]
    by_cases z : k = (t 8).toNat
    · rw [if_pos z, if_pos (by omega)]
    · rw [if_neg z, if_neg (by omega)]
  have g17 : t' 17 = t 17 := by rw [g, if_neg (by omega), if_neg (by omega)]
  refine ⟨⟨?_, ?_, fun k q => ?_⟩, ⟨by rw [g8]; omega, by rw [g17]; exact c2⟩, fun k q => ?_⟩
  · rw [g8, e, if_pos ⟨rfl, rfl⟩]
  · rw [g17, e, if_neg (by omega), if_neg (by omega)]; exact b2
  · rw [g8] at q
    rw [gp, e, if_neg (show ¬ (54 = 52 ∧ k = 1) by omega)]
    by_cases z : k = (t 8).toNat
    · rw [if_pos z, if_pos ⟨rfl, z⟩]
    · rw [if_neg z, if_neg (fun z2 => z z2.2)]; exact b3 k (by omega)
  · rw [g8] at q
    rw [gp]
    split
    · exact hv
    · exact d k (by omega)
theorem LD.set (h : LD σ t) {v : Int} (hv : 0 ≤ v ∧ v ≤ 99) (g : ∀ j, t' j = if j = 17 then v else t j) : LD (su σ 52 2 v) t' := by
  obtain ⟨⟨b1, b2, b3⟩, ⟨c1, c2⟩, d⟩ := h
  have gn : ∀ j, j ≠ 17 → t' j = t j := fun j q => by rw [g, if_neg q]
  have g17 : t' 17 = v := by rw [g, if_pos rfl]
  have r1 : su σ 52 2 v 52 1 = σ 52 1 := su_ne _ _ (Or.inr (by decide))
  have r3 : ∀ k : Nat, su σ 52 2 v 54 k = σ 54 k := fun k => su_ne _ _ (Or.inl (by decide))
  refine ⟨⟨?_, ?_, fun k q => ?_⟩, ⟨by rw [gn _ (by decide)]; exact c1, by rw [g17]; exact hv⟩, fun k q => ?_⟩
  · rw [r1, gn _ (by decide)]; exact b1
  · rw [g17, su_same]
  · rw [gn _ (by decide)] at q
    rw [r3, gn _ (by omega)]; exact b3 k q
  · rw [gn _ (by decide)] at q
    rw [gn _ (by omega)]; exact d k q
theorem RE.key (h : RE σ τ) : kHere σ = nKey τ := by
  unfold kHere nKey
  rw [h.sp 12, h.sp 13, h.sp 14, h.sp 15, h.sp 16, h.sp 17, h.sp 18, h.sp 19]
theorem nKey_rg (τ : Sg) : -1 ≤ nKey τ ∧ nKey τ ≤ 7 := by
  unfold nKey
  (repeat' split) <;> omega
theorem nRk_ba {τ : Sg} (h : τ 223 13 ≠ 0) : nRk τ = τ := by
  have e1 : nRk1 τ = τ := by
    unfold nRk1 nBl
    split
    · first | rfl | rw [if_pos h]
    · rfl
  have e2 : nRk2 τ = τ := by
    unfold nRk2
    rw [e1]
    unfold nBl
    split
    · first | rfl | rw [if_pos h]
    · rfl
  unfold nRk
  rw [e2, if_pos h]
theorem key_alike (h : RE σ τ) (l : LD σ (τ 225)) : Ql (tKey σ) (nRk τ) := by
  have g := h.good
  have hr := nKey_rg τ
  have l8 := l.2.1.1
  unfold tKey nRk
  rw [h.key, l.1.1]
  by_cases q : nKey τ = -1
  · have e1 : nRk1 τ = nBl τ 2 := by unfold nRk1; rw [if_pos q]
    have eb := nBl_bad τ (show (2 : Int) ≠ 0 by decide)
    have e2 : nRk2 τ = nBl τ 2 := by
      unfold nRk2
      rw [e1]
      split
      · show nBl (nBl τ 2) 4 = _
        generalize nBl τ 2 = y at eb ⊢
        unfold nBl
        rw [if_pos eb]
      · rfl
    rw [if_pos q, e2, if_pos eb]
    exact Or.inr (h.fail (by decide))
  · have e1 : nRk1 τ = τ := by unfold nRk1; rw [if_neg q]
    rw [if_neg q]
    by_cases q8 : τ 225 8 = 8
    · have e2 : nRk2 τ = nBl τ 4 := by unfold nRk2; rw [e1, if_pos q8]
      rw [if_pos (show 8 ≤ τ 225 8 by omega), e2, if_pos (nBl_bad τ (by decide))]
      exact Or.inr (h.fail (by decide))
    · have e2 : nRk2 τ = τ := by unfold nRk2; rw [e1, if_neg q8]
      rw [if_neg (show ¬ 8 ≤ τ 225 8 by omega), e2, if_neg (show ¬ τ 223 13 ≠ 0 from fun e => e g)]
      have e3 : nRk3 τ = su τ 225 (9 + τ 225 8).toNat (nKey τ) := by unfold nRk3; rw [e2]
      have r8 : su τ 225 (9 + τ 225 8).toNat (nKey τ) 225 8 = τ 225 8 := su_ne _ _ (Or.inr (by omega))
      have e4 : nRk4 τ = su (su τ 225 (9 + τ 225 8).toNat (nKey τ)) 225 8 (τ 225 8 + 1) := by
        unfold nRk4; rw [e3, r8, wr_id (by unfold okI; omega)]
      rw [e4]
      have st := LD.key (t' := su (su τ 225 (9 + τ 225 8).toNat (nKey τ)) 225 8 (τ 225 8 + 1) 225) l (by omega) (v := nKey τ) (by omega) (fun j => by
        rw [su_at, su_at, show (9 + τ 225 8).toNat = 9 + (τ 225 8).toNat by omega])
      have hc : RE (lAdd σ 52 (nKey τ)) (su (su τ 225 (9 + τ 225 8).toNat (nKey τ)) 225 8 (τ 225 8 + 1)) := by
        refine (h.cls (fun a j ha => ?_)).mod (fun a j ha => ?_)
        · unfold lAdd; rw [su_ne _ _ (Or.inl (by omega)), rPut_ne (by omega)]
        · rw [su_ne _ _ (Or.inl (by omega)), su_ne _ _ (Or.inl (by omega))]
      exact Or.inl ⟨hc.rd, st.of (fun _ ha j => adv_3 _ ha j) (fun j => nRd_ne _ (by decide) j)⟩
theorem tak_l (h : RE σ τ) (l : LD σ (τ 225)) (j : Nat) : RE (rTak σ j) (nTak τ j) ∧ LD (rTak σ j) (nTak τ j 225) :=
  ⟨h.tak j, l.of (fun _ ha i => tak_3 σ j ha i) (fun i => nTak_ne τ j (by decide) i)⟩
theorem nSp_tk {τ : Sg} {j : Nat} (h : nSp τ j ≠ 0) : τ 223 11 = 1 := by
  have h0 : nSp0 τ j ≠ 0 := fun e => h (nSpS_z τ j _ e)
  unfold nSp0 at h0
  split at h0
  · next q => exact q.1.2
  · exact absurd rfl h0
theorem th_alike : ∀ (n m : Nat) {σ τ : Sg}, n < m → Ql σ τ → (τ 223 13 = 0 → 900 - τ 223 10 ≤ ((n : Nat) : Int)) → Ql (tThen n σ) (nTh m τ) := by
  intro n
  induction n with
  | zero =>
    intro m σ τ hm hq hb
    obtain ⟨m', rfl⟩ : ∃ m', m = m' + 1 := ⟨m - 1, by omega⟩
    have e0 : nSp τ 10 = 0 := by
      rcases hq with ⟨h, l⟩ | h
      · refine Decidable.byContradiction fun e => ?_
        have b1 := hb h.good
        have b2 := nTak_10 h.2.2.2.1.1 (j := 10) (by decide) e
        have b3 := (Rk_tak h.2.2.2.1.1 10).2.1
        have b4 := (Rk_tak h.2.2.2.1.1 10).2.2.1
        omega
      · exact h.nosp 10
    have e1 : nTak τ 10 = τ := by unfold nTak; rw [if_pos e0]
    rw [nTh, if_pos e0, e1]; exact hq
  | succ n ih =>
    intro m σ τ hm hq hb
    obtain ⟨m', rfl⟩ : ∃ m', m = m' + 1 := ⟨m - 1, by omega⟩
    rcases hq with ⟨h, l⟩ | h
    · by_cases q : nSp τ 10 = 0
      · have e1 : nTak τ 10 = τ := by unfold nTak; rw [if_pos q]
        have e2 : rTak σ 10 = σ := by unfold rTak; rw [h.sp 10, if_pos q]
        rw [tThen, h.sp 10, if_pos q, e2, ite_self, nTh, if_pos q, e1]; exact Or.inl ⟨h, l⟩
      · have b1 := hb h.good
        have b2 := nTak_10 h.2.2.2.1.1 (j := 10) (by decide) q
        obtain ⟨k1, k2⟩ := tak_l h l 10
        have b3 := nRk_10 k1.2.2.2.1.1
        have tk := nSp_tk q
        rw [tThen, h.sp 10, if_neg (fun e => h.go.mp e ⟨h.good, by omega⟩), if_neg q, nTh, if_neg q]
        exact ih m' (by omega) (key_alike k1 k2) (fun _ => by omega)
    · have q := h.nosp 10
      have e1 : nTak τ 10 = τ := by unfold nTak; rw [if_pos q]
      rw [tThen, if_pos h.go, nTh, if_pos q, e1]; exact Or.inr h
def tRb (σ : Sg) : Sg :=
  if rSp σ 9 ≠ 0 then tThen 900 (tKey (rTak σ 9))
  else if rSp (rTak σ 9) 11 ≠ 0 then su (rNum (rTak (rTak σ 9) 11) 0 99).2 52 2 (rNum (rTak (rTak σ 9) 11) 0 99).1
  else rFail (rTak (rTak σ 9) 11) 2
theorem tRule_b (σ : Sg) : tRule σ = rEnd (tRb σ) := rfl
theorem rlb_alike (h : RE σ τ) (l : LD σ (τ 225)) : Ql (tRb σ) (nRb τ) := by
  obtain ⟨h1, l1⟩ := tak_l h l 9
  obtain ⟨h2, l2⟩ := tak_l h1 l1 11
  unfold tRb nRb
  rw [h.sp 9, h1.sp 11]
  by_cases q : nSp τ 9 ≠ 0
  · rw [if_pos q, if_pos q]
    refine th_alike 900 901 (by decide) (key_alike h1 l1) (fun _ => ?_)
    have b1 := nRk_10 h1.2.2.2.1.1
    have b2 := h1.2.2.2.1.1.1
    omega
  rw [if_neg q, if_neg q]
  by_cases q1 : nSp (nTak τ 9) 11 ≠ 0
  · rw [if_pos q1, if_pos q1]
    have hr := nNum_rg (nTak (nTak τ 9) 11) (show (0 : Int) ≤ 99 by decide)
    rcases h2.num 0 99 with ⟨k1, k2⟩ | k1
    · rw [k2]
      have e5 : ∀ j, nNm2 (nTak (nTak τ 9) 11) 0 99 225 j = nTak (nTak τ 9) 11 225 j := fun j => nNm2_ne _ _ _ (by decide) j
      have hd2 : LD (rNum (rTak (rTak σ 9) 11) 0 99).2 (nNm2 (nTak (nTak τ 9) 11) 0 99 225) := l2.of (fun a ha j => num_3 _ 0 99 ha j) e5
      generalize nNm2 (nTak (nTak τ 9) 11) 0 99 = y at k1 hd2 ⊢
      generalize nNum (nTak (nTak τ 9) 11) 0 99 = v at hr ⊢
      generalize (rNum (rTak (rTak σ 9) 11) 0 99).2 = x at k1 hd2 ⊢
      have st := LD.set (t' := su y 225 17 v 225) hd2 hr (fun j => su_at _ _ _ _ _)
      refine Or.inl ⟨(k1.cls (fun a j ha => ?_)).mod (fun a j ha => ?_), st⟩
      · exact su_ne _ _ (Or.inl (by omega))
      · exact su_ne _ _ (Or.inl (by omega))
    · refine Or.inr ((k1.cls (fun j => ?_)).mod (fun j => ?_))
      · exact su_ne _ _ (Or.inl (by decide))
      · exact su_ne _ _ (Or.inl (by decide))
  rw [if_neg q1, if_neg q1]
  exact Or.inr (h2.fail (by decide))
theorem Ql.end_ (h : Ql σ τ) : Ql (rEnd σ) (nEnds τ) := by
  rcases h with ⟨h, l⟩ | h
  · rcases h.end_ with k | k
    · exact Or.inl ⟨k, l.of (fun _ ha j => rend_3 σ ha j) (fun j => nEnds_ne τ (by decide) j)⟩
    · exact Or.inr k
  · exact Or.inr h.end_
theorem rule_alike (h : RE σ τ) (l : LD σ (τ 225)) : Ql (tRule σ) (nRl τ) := by
  rw [tRule_b]; exact (rlb_alike h l).end_
/-- the rules of a law's text -/
theorem lwL_alike : ∀ (n m : Nat) {σ τ : Sg}, n ≤ m → Ql σ τ → (τ 223 13 = 0 → Hd τ ∧ (τ 223 11 ≠ 0 → 900 - τ 223 10 ≤ ((n : Nat) : Int))) → Ql (tLawL n σ) (nLwL m τ) := by
  intro n
  induction n with
  | zero =>
    intro m σ τ hm hq hb
    have e : nLwL m τ = τ := nLwL_x m τ (fun q => by
      obtain ⟨b1, b2⟩ := hb q.1
      have b3 := b2 q.2
      have b4 := b1.2 q.2
      have b5 := b1.1.2.2.1
      omega)
    rw [e]; exact hq
  | succ n ih =>
    intro m σ τ hm hq hb
    rcases hq with ⟨h, l⟩ | h
    · by_cases q : τ 223 13 = 0 ∧ τ 223 11 ≠ 0
      · obtain ⟨b1, b2⟩ := hb q.1
        have b3 := b2 q.2
        obtain ⟨m', rfl⟩ : ∃ m', m = m' + 1 := ⟨m - 1, by omega⟩
        rw [tLawL, if_neg (fun e => h.go.mp e q), nLwL, if_pos q]
        refine ih m' (by omega) (rule_alike h l) (fun hg => ?_)
        obtain ⟨c1, c2⟩ := Hd_rl b1 q.2 hg
        exact ⟨c1, fun _ => by omega⟩
      · rw [tLawL, if_pos (h.go.mpr q), nLwL_x m τ q]
        exact Or.inl ⟨h, l⟩
    · rw [tLawL, if_pos h.go, nLwL_x m τ (fun e => h.bad e.1)]
      exact Or.inr h
end LNs
