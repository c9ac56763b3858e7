/-! ALIKE, 24: what a text that is read leaves -/
section MLf
variable {P : Nat → Prop} {σ σ' σ'' τ τ' τ'' : Sg} {t t' : Nat → Int}
/-- the class's world while a text is read: only P changes; without a fault no place of one -/
def Zf (P : Nat → Prop) (x x' : Sg) : Prop := (∀ a j : Nat, ¬ P a → x' a j = x a j) ∧ ((x 3 6 = 0 → x 3 7 = -1) → x' 3 6 = 0 → x' 3 7 = -1)
theorem Zf.rf (σ : Sg) : Zf P σ σ := ⟨fun _ _ _ => rfl, fun h => h⟩
theorem Zf.tr (h : Zf P σ σ') (k : Zf P σ' σ'') : Zf P σ σ'' := ⟨fun a j q => (k.1 a j q).trans (h.1 a j q), fun e => k.2 (h.2 e)⟩
theorem Zf.of (h : ∀ a j : Nat, ¬ P a → σ' a j = σ a j) (h3 : ∀ j, σ' 3 j = σ 3 j) : Zf P σ σ' := ⟨h, fun e => by rw [h3, h3]; exact e⟩
theorem adv_67 (σ : Sg) : advF σ 3 6 = σ 3 6 ∧ advF σ 3 7 = σ 3 7 := ⟨rfl, rfl⟩
theorem Zf.adv (hp : P 3) (σ : Sg) : Zf P σ (advF σ) := ⟨fun a j q => adv_3 σ (fun e => q (by rw [e]; exact hp)) j, fun h => by rw [(adv_67 σ).1, (adv_67 σ).2]; exact h⟩
theorem Zf.fail (hp : P 3) (σ : Sg) {w : Int} (hw : w ≠ 0) : Zf P σ (rFail σ w) := by
  refine ⟨fun a j q => fail_3 σ w (fun e => q (by rw [e]; exact hp)) j, fun h h2 => ?_⟩
  unfold rFail at h2 ⊢
  by_cases z : σ 3 6 = 0
  · rw [if_pos z, su_ne _ _ (Or.inr (by decide)), su_same] at h2
    exfalso
    split at h2
    · exact absurd h2 (by decide)
    · exact hw h2
  · rw [if_neg z]; rw [if_neg z] at h2; exact h h2
theorem Zf.tak (hp : P 3) (σ : Sg) (j : Nat) : Zf P σ (rTak σ j) := by unfold rTak; split; exact Zf.rf σ; exact Zf.adv hp σ
theorem Zf.exp (hp : P 3) (σ : Sg) (j : Nat) : Zf P σ (rExp σ j) := by unfold rExp; split; exact Zf.fail hp σ (by decide); exact Zf.adv hp σ
theorem Zf.num (hp : P 3) (σ : Sg) (lo hi : Int) : Zf P σ (rNum σ lo hi).2 := by
  unfold rNum; split
  · exact Zf.fail hp σ (by decide)
  · split
    · exact Zf.fail hp σ (by decide)
    · exact Zf.adv hp σ
theorem Zf.end_ (hp : P 3) (σ : Sg) : Zf P σ (rEnd σ) := by unfold rEnd; split; exact Zf.adv hp σ; exact Zf.fail hp σ (by decide)
theorem Zf.opt (hp : P 3) (σ : Sg) (j : Nat) (lo hi df : Int) : Zf P σ (rOpt σ j lo hi df).2 := by
  unfold rOpt; split
  · exact Zf.tak hp σ j
  · exact (Zf.tak hp σ j).tr (Zf.num hp _ lo hi)
theorem Zf.hsu (σ : Sg) {a : Nat} (k : Nat) (v : Int) (h : P a) (h3 : a ≠ 3) : Zf P σ (su σ a k v) := Zf.of (fun b j q => su_ne _ _ (Or.inl (fun e => q (e ▸ h)))) (fun j => su_ne _ _ (Or.inl (fun e => h3 e.symm)))
theorem Zf.put (σ : Sg) {c : Nat} (n : Nat) (i v : Int) (h : P c) (h3 : c ≠ 3) : Zf P σ (rPut σ c n i v) := by
  unfold rPut; split
  · exact Zf.hsu σ _ v h h3
  · exact Zf.rf σ
/-- what the reading of a mill changes -/
def Pm (a : Nat) : Prop := a = 3 ∨ (51 ≤ a ∧ a < 73)
theorem Zf.stone (σ : Sg) (v : Int) : Zf Pm σ (mStone σ 51 v) := (Zf.put σ 3 (σ 51 2) v (show Pm (51 + 5) from Or.inr (by decide)) (by decide)).tr (Zf.hsu _ 2 _ (show Pm 51 from Or.inr (by decide)) (by decide))
theorem mSack_off (σ : Sg) (w p c s v o : Int) (a j : Nat) (ha : a < 51 ∨ 73 ≤ a) : mSack σ 51 w p c s v o a j = σ a j := by
  unfold mSack mWhole
  rw [su_ne _ _ (Or.inl (by omega)), rPut_ne (by omega), rPut_ne (by omega), rPut_ne (by omega), rPut_ne (by omega), rPut_ne (by omega), rPut_ne (by omega), rPut_ne (by omega), rPut_ne (by omega)]
theorem Zf.sack (σ : Sg) (w p c s v o : Int) : Zf Pm σ (mSack σ 51 w p c s v o) := Zf.of (fun a j q => mSack_off σ w p c s v o a j (by unfold Pm at q; omega)) (fun j => mSack_off σ w p c s v o 3 j (by decide))
theorem Pm_3 : Pm 3 := Or.inl rfl
theorem Zf.hsk6 (σ : Sg) : Zf Pm σ (sk6 σ).2 := by
  have h1 : Zf Pm σ (sk1 σ).2 := (Zf.adv Pm_3 σ).tr (Zf.num Pm_3 _ _ _)
  have h2 : Zf Pm σ (sk2 σ).2 := h1.tr ((Zf.exp Pm_3 _ _).tr (Zf.num Pm_3 _ _ _))
  have h3 : Zf Pm σ (sk3 σ).2 := h2.tr ((Zf.exp Pm_3 _ _).tr (Zf.num Pm_3 _ _ _))
  have h4 : Zf Pm σ (sk4 σ).2 := h3.tr (Zf.opt Pm_3 _ _ _ _ _)
  have h5 : Zf Pm σ (sk5 σ).2 := h4.tr (Zf.opt Pm_3 _ _ _ _ _)
  exact h5.tr (Zf.opt Pm_3 _ _ _ _ _)
theorem Zf.hStone (σ : Sg) : Zf Pm σ (tStone σ) := by
  unfold tStone
  split
  · exact Zf.fail Pm_3 σ (by decide)
  · exact ((Zf.adv Pm_3 σ).tr (Zf.num Pm_3 _ _ _)).tr (Zf.stone _ _)
theorem Zf.hSack (σ : Sg) : Zf Pm σ (tSack σ) := by
  unfold tSack
  split
  · exact Zf.fail Pm_3 σ (by decide)
  · exact (Zf.hsk6 σ).tr (Zf.sack _ _ _ _ _ _ _)
theorem Zf.hMillS (σ : Sg) : Zf Pm σ (tMillS σ) := by
  have h1 := Zf.tak Pm_3 σ 1
  have h2 := h1.tr (Zf.tak Pm_3 _ 2)
  have hb : Zf Pm σ (tLb σ) := by
    unfold tLb
    split
    · exact Zf.hStone σ
    · split
      · exact h1.tr ((Zf.num Pm_3 _ _ _).tr (Zf.hsu _ _ _ (Or.inr (by decide)) (by decide)))
      · split
        · exact h2.tr ((Zf.num Pm_3 _ _ _).tr (Zf.hsu _ _ _ (Or.inr (by decide)) (by decide)))
        · split
          · exact h2.tr (Zf.hSack _)
          · exact h2.tr (Zf.fail Pm_3 _ (by decide))
  exact (hb.tr (Zf.end_ Pm_3 _)).tr (Zf.hsu _ _ _ (Or.inr (by decide)) (by decide))
theorem Zf.hMillL : ∀ (n : Nat) (σ : Sg), Zf Pm σ (tMillL n σ) := by
  intro n
  induction n with
  | zero => exact fun σ => Zf.rf σ
  | succ n ih =>
    intro σ
    rw [tMillL]
    split
    · exact Zf.rf σ
    · exact (Zf.hMillS σ).tr (ih _)
theorem Zf.stand (σ : Sg) : Zf Pm σ (mStand σ 51) := by
  unfold mStand; split
  · exact Zf.stone σ 1
  · exact Zf.rf σ
/-- and that of a law -/
def Pl (a : Nat) : Prop := a = 3 ∨ a = 52 ∨ a = 54
theorem Pl_3 : Pl 3 := Or.inl rfl
theorem Zf.key (σ : Sg) : Zf Pl σ (tKey σ) := by
  unfold tKey; split
  · exact Zf.fail Pl_3 σ (by decide)
  · split
    · exact Zf.fail Pl_3 σ (by decide)
    · exact ((Zf.put σ 8 _ _ (show Pl (52 + 2) from Or.inr (Or.inr rfl)) (by decide)).tr (Zf.hsu _ 1 _ (show Pl 52 from Or.inr (Or.inl rfl)) (by decide))).tr (Zf.adv Pl_3 _)
theorem Zf.hThen : ∀ (n : Nat) (σ : Sg), Zf Pl σ (tThen n σ) := by
  intro n
  induction n with
  | zero => exact fun σ => Zf.rf σ
  | succ n ih =>
    intro σ
    rw [tThen]
    split
    · exact Zf.rf σ
    · split
      · exact Zf.tak Pl_3 σ 10
      · exact ((Zf.tak Pl_3 σ 10).tr (Zf.key _)).tr (ih _)
theorem Zf.hRule (σ : Sg) : Zf Pl σ (tRule σ) := by
  have h1 := Zf.tak Pl_3 σ 9
  have h2 := h1.tr (Zf.tak Pl_3 _ 11)
  have hb : Zf Pl σ (tRb σ) := by
    unfold tRb
    split
    · exact (h1.tr (Zf.key _)).tr (Zf.hThen 900 _)
    · split
      · exact h2.tr ((Zf.num Pl_3 _ _ _).tr (Zf.hsu _ _ _ (Or.inr (Or.inl rfl)) (by decide)))
      · exact h2.tr (Zf.fail Pl_3 _ (by decide))
  exact hb.tr (Zf.end_ Pl_3 _)
theorem Zf.hLawL : ∀ (n : Nat) (σ : Sg), Zf Pl σ (tLawL n σ) := by
  intro n
  induction n with
  | zero => exact fun σ => Zf.rf σ
  | succ n ih =>
    intro σ
    rw [tLawL]
    split
    · exact Zf.rf σ
    · exact (Zf.hRule σ).tr (ih _)
/-- the model's world while a text is read -/
def Nf (y y' : Sg) : Prop := ∀ a j : Nat, (a ≠ 225 ∧ (a ≠ 223 ∨ j < 8)) → y' a j = y a j
theorem Nf.rf (τ : Sg) : Nf τ τ := fun _ _ _ => rfl
theorem Nf.tr (h : Nf τ τ') (k : Nf τ' τ'') : Nf τ τ'' := fun a j q => (k a j q).trans (h a j q)
theorem mk4_lo (σ : Sg) (t bg tk v : Int) {a j : Nat} (q : a ≠ 223 ∨ j < 8) : mk4 σ t bg tk v a j = σ a j := by
  unfold mk4
  by_cases z : a = 223
  · subst z; rw [if_pos rfl, if_neg (by omega), if_neg (by omega), if_neg (by omega), if_neg (by omega)]
  · rw [if_neg z]
theorem Nf.rd (τ : Sg) : Nf τ (nRd τ) := fun a j q => by
  unfold nRd
  (repeat' split) <;> exact mk4_lo τ _ _ _ _ q.2
theorem Nf.bl (τ : Sg) (w : Int) : Nf τ (nBl τ w) := fun a j q => nBl_ne _ _ (by omega)
theorem Nf.hsu (τ : Sg) (k : Nat) (v : Int) : Nf τ (su τ 225 k v) := fun a j q => su_ne _ _ (Or.inl q.1)
theorem Nf.tak (τ : Sg) (j : Nat) : Nf τ (nTak τ j) := by unfold nTak; split; exact Nf.rf τ; exact Nf.rd τ
theorem Nf.nm1 (τ : Sg) (lo hi : Int) : Nf τ (nNm1 τ lo hi) := by
  unfold nNm1; split
  · exact Nf.bl τ _
  · split
    · exact Nf.bl τ _
    · exact Nf.rf τ
theorem Nf.num (τ : Sg) (lo hi : Int) : Nf τ (nNm2 τ lo hi) := by
  unfold nNm2; split
  · exact (Nf.nm1 τ lo hi).tr (Nf.rd _)
  · exact Nf.nm1 τ lo hi
theorem Nf.beh (τ : Sg) (j : Nat) : Nf τ (nBeh1 τ j) := by
  unfold nBeh1; split
  · exact (Nf.tak τ j).tr (Nf.bl _ _)
  · exact Nf.tak τ j
theorem Nf.ends (τ : Sg) : Nf τ (nEnds τ) := by
  have h1 : Nf τ (nEnd1 τ) := by
    unfold nEnd1; split
    · exact Nf.bl τ _
    · exact Nf.rf τ
  unfold nEnds; split
  · exact h1.tr (Nf.rd _)
  · exact h1
theorem Nf.op (τ : Sg) (j : Nat) (lo hi df : Int) : Nf τ (nOp τ j lo hi df).2 := by
  unfold nOp; split
  · exact Nf.tak τ j
  · exact (Nf.tak τ j).tr (Nf.num _ lo hi)
theorem Nf.stn (τ : Sg) : Nf τ (nStn τ) := by
  have h1 : Nf τ (nStn1 τ) := by
    unfold nStn1; split
    · exact Nf.bl τ _
    · exact Nf.rf τ
  have h2 : Nf τ (nStn2 τ) := h1.tr ((Nf.rd _).tr (Nf.num _ _ _))
  unfold nStn
  split
  · exact h1
  · split
    · exact h2
    · exact h2.tr ((Nf.hsu _ _ _).tr (Nf.hsu _ _ _))
theorem Nf.q6 (τ : Sg) : Nf τ (nq0 τ) ∧ Nf τ (nq6 τ).2 := by
  have h0 : Nf τ (nq0 τ) := by
    unfold nq0; split
    · exact Nf.bl τ _
    · exact Nf.rf τ
  have h1 : Nf τ (nq1 τ) := h0.tr ((Nf.rd _).tr (Nf.num _ _ _))
  have h2 : Nf τ (nq2 τ) := h1.tr ((Nf.beh _ _).tr (Nf.num _ _ _))
  have h3 : Nf τ (nq3 τ) := h2.tr ((Nf.beh _ _).tr (Nf.num _ _ _))
  have h4 : Nf τ (nq4 τ).2 := h3.tr (Nf.op _ _ _ _ _)
  have h5 : Nf τ (nq5 τ).2 := h4.tr (Nf.op _ _ _ _ _)
  exact ⟨h0, h5.tr (Nf.op _ _ _ _ _)⟩
theorem Nf.sk (τ : Sg) : Nf τ (nSk τ) := by
  obtain ⟨h0, h6⟩ := Nf.q6 τ
  unfold nSk
  split
  · exact h0
  · split
    · exact h6
    · exact fun a j q => (nz10_ne τ q.1 j).trans (h6 a j q)
theorem Nf.ln (τ : Sg) : Nf τ (nLn τ) := by
  have h1 := Nf.tak τ 1
  have h2 := h1.tr (Nf.tak _ 2)
  have hb : Nf τ (nLb τ) := by
    unfold nLb
    split
    · exact Nf.stn τ
    · split
      · exact h1.tr ((Nf.num _ _ _).tr (Nf.hsu _ _ _))
      · split
        · exact h2.tr ((Nf.num _ _ _).tr (Nf.hsu _ _ _))
        · split
          · exact h2.tr (Nf.sk _)
          · exact h2.tr (Nf.bl _ _)
  unfold nLn
  split
  · exact (hb.tr (Nf.ends _)).tr (Nf.hsu _ _ _)
  · exact hb.tr (Nf.ends _)
theorem Nf.mlL : ∀ (n : Nat) (τ : Sg), Nf τ (nMlL n τ) := by
  intro n
  induction n with
  | zero => exact fun τ => Nf.rf τ
  | succ n ih =>
    intro τ
    rw [nMlL]
    split
    · exact (Nf.ln τ).tr (ih _)
    · exact Nf.rf τ
theorem Nf.rk (τ : Sg) : Nf τ (nRk τ) := by
  have h1 : Nf τ (nRk1 τ) := by
    unfold nRk1; split
    · exact Nf.bl τ _
    · exact Nf.rf τ
  have h2 : Nf τ (nRk2 τ) := by
    unfold nRk2; split
    · exact h1.tr (Nf.bl _ _)
    · exact h1
  unfold nRk
  split
  · exact h2
  · exact (h2.tr ((Nf.hsu _ _ _).tr (Nf.hsu _ _ _))).tr (Nf.rd _)
theorem Nf.th : ∀ (n : Nat) (τ : Sg), Nf τ (nTh n τ) := by
  intro n
  induction n with
  | zero => exact fun τ => Nf.rf τ
  | succ n ih =>
    intro τ
    rw [nTh]
    split
    · exact Nf.tak τ 10
    · exact ((Nf.tak τ 10).tr (Nf.rk _)).tr (ih _)
theorem Nf.rl (τ : Sg) : Nf τ (nRl τ) := by
  have h1 := Nf.tak τ 9
  have h2 := h1.tr (Nf.tak _ 11)
  have hb : Nf τ (nRb τ) := by
    unfold nRb
    split
    · exact (h1.tr (Nf.rk _)).tr (Nf.th 901 _)
    · split
      · exact h2.tr ((Nf.num _ _ _).tr (Nf.hsu _ _ _))
      · exact h2.tr (Nf.bl _ _)
  exact hb.tr (Nf.ends _)
theorem Nf.lwL : ∀ (n : Nat) (τ : Sg), Nf τ (nLwL n τ) := by
  intro n
  induction n with
  | zero => exact fun τ => Nf.rf τ
  | succ n ih =>
    intro τ
    rw [nLwL]
    split
    · exact (Nf.rl τ).tr (ih _)
    · exact Nf.rf τ
/-- two readers that begin -/
theorem RE.open_ {x y : Sg} (g : x 3 6 = 0 ∧ y 223 13 = 0) (h1 : x 3 1 = y 223 8) (h4 : x 3 4 = 0 ∧ y 223 9 = 0) (h8 : 0 ≤ y 223 8 ∧ y 223 8 ≤ 900) (ht : ∀ i : Int, 0 ≤ i → i < y 223 8 → tAt x i = tpF y i) : RE (advF x) (nRd y) := by
  have a : RE (su (su x 3 2 0) 3 3 0) (su (su y 223 10 0) 223 11 0) := by
    refine ⟨⟨g.1, g.2⟩, ⟨h1, rfl, rfl, h4.1.trans h4.2.symm⟩, fun e => absurd (show (0 : Int) = 2 from e) (by decide), ⟨⟨?_, ?_, ?_, ?_⟩, ?_⟩, ht⟩
    · show (0 : Int) ≤ 0; decide
    · show (0 : Int) ≤ y 223 9; omega
    · show y 223 9 ≤ 900; omega
    · show y 223 8 ≤ 900; omega
    · show y 223 9 ≤ y 223 8; omega
  have b := a.rd
  have e1 : ∀ c j : Nat, (c = 2 ∨ c = 3) → advF x c j = advF (su (su x 3 2 0) 3 3 0) c j := by
    intro c j hc
    have et : tokF (su (su x 3 2 0) 3 3 0) = tokF x := rfl
    unfold advF
    rw [et]
    generalize tokF x = T
    unfold mk3
    by_cases z : c = 3
    · rw [if_pos z, if_pos z]
      by_cases z2 : j = 2
      · rw [if_pos z2, if_pos z2]
      rw [if_neg z2, if_neg z2]
      by_cases z3 : j = 3
      · rw [if_pos z3, if_pos z3]
      rw [if_neg z3, if_neg z3, su_ne _ _ (Or.inr z3), su_ne _ _ (Or.inr z2)]
    · rw [if_neg z, if_neg z, su_ne _ _ (Or.inl z), su_ne _ _ (Or.inl z)]
  have e2 : ∀ c j : Nat, (c = 223 ∨ c = 229) → nRd y c j = nRd (su (su y 223 10 0) 223 11 0) c j := by
    intro c j hc
    have m4 : ∀ t bg tk v : Int, mk4 y t bg tk v c j = mk4 (su (su y 223 10 0) 223 11 0) t bg tk v c j := by
      intro t bg tk v
      unfold mk4
      by_cases z : c = 223
      · rw [if_pos z, if_pos z]
        by_cases z9 : j = 9
        · rw [if_pos z9, if_pos z9]
        rw [if_neg z9, if_neg z9]
        by_cases z10 : j = 10
        · rw [if_pos z10, if_pos z10]
        rw [if_neg z10, if_neg z10]
        by_cases z11 : j = 11
        · rw [if_pos z11, if_pos z11]
        rw [if_neg z11, if_neg z11]
        by_cases z12 : j = 12
        · rw [if_pos z12, if_pos z12]
        rw [if_neg z12, if_neg z12, su_ne _ _ (Or.inr z11), su_ne _ _ (Or.inr z10)]
      · rw [if_neg z, if_neg z, su_ne _ _ (Or.inl z), su_ne _ _ (Or.inl z)]
    have w1 : nWs (su (su y 223 10 0) 223 11 0) = nWs y := rfl
    have w2 : nLt (su (su y 223 10 0) 223 11 0) = nLt y := rfl
    have w3 : nDg (su (su y 223 10 0) 223 11 0) = nDg y := rfl
    have w4 : tpF (su (su y 223 10 0) 223 11 0) = tpF y := rfl
    have w5 : su (su y 223 10 0) 223 11 0 223 8 = y 223 8 := rfl
    have w6 : su (su y 223 10 0) 223 11 0 223 12 = y 223 12 := rfl
    unfold nRd
    rw [w1, w2, w3, w4, w5, w6]
    split
    · exact m4 _ _ _ _
    · split
      · exact m4 _ _ _ _
      · split
        · exact m4 _ _ _ _
        · exact m4 _ _ _ _
  exact (b.cls e1).mod e2
theorem nMc_at (x : Sg) (n j : Nat) : itr n nMc x 225 j = if j < n then (if 8 ≤ j ∧ j ≤ 17 then x 224 j else 0) else x 225 j := by
  induction n with
  | zero => rw [itr_0, if_neg (by omega)]
  | succ n ih =>
    have e4 := nMc_ne n x (a := 224) (by decide) n
    rw [itr_s]
    generalize itr n nMc x = y at ih e4 ⊢
    unfold nMc
    rw [su_at, ih, e4]
    by_cases z : j = n
    · subst z
      rw [if_pos rfl, if_pos (show j < j + 1 by omega)]
      by_cases z2 : 8 ≤ j ∧ j ≤ 17
      · rw [if_pos z2, if_neg (show ¬ wth ((j : Nat) : Int) 8 17 = 0 by rw [wth_0]; omega)]
      · rw [if_neg z2, if_pos (show wth ((j : Nat) : Int) 8 17 = 0 by rw [wth_0]; omega)]
    · rw [if_neg z]
      by_cases z2 : j < n
      · rw [if_pos z2, if_pos (show j < n + 1 by omega)]
      · rw [if_neg z2, if_neg (show ¬ j < n + 1 by omega)]
theorem nLcS_at (x : Sg) (n j : Nat) : itr n nLcS x 225 j = if 8 ≤ j ∧ j < 8 + n then 0 else x 225 j := by
  induction n with
  | zero => rw [itr_0, if_neg (by omega)]
  | succ n ih =>
    rw [itr_s]
    generalize itr n nLcS x = y at ih ⊢
    unfold nLcS
    rw [su_at, ih]
    by_cases z : j = 8 + n
    · rw [if_pos z, if_pos (by omega)]
    · rw [if_neg z]
      by_cases z2 : 8 ≤ j ∧ j < 8 + n
      · rw [if_pos z2, if_pos (by omega)]
      · rw [if_neg z2, if_neg (by omega)]
theorem nLkS_at (x : Sg) (n a j : Nat) : itr n nLkS x a j = if a = 224 ∧ (8 ≤ j ∧ j < 8 + n) then x 225 j else x a j := by
  induction n generalizing a j with
  | zero => rw [itr_0, if_neg (by omega)]
  | succ n ih =>
    have e := ih 225 (8 + n)
    rw [if_neg (by omega)] at e
    have ih2 := ih a j
    rw [itr_s]
    generalize itr n nLkS x = y at ih2 e ⊢
    unfold nLkS
    rw [e]
    by_cases z : a = 224 ∧ j = 8 + n
    · rw [if_pos (by omega), z.1, z.2, su_same]
    · rw [su_ne _ _ (by omega), ih2]
      by_cases z2 : a = 224 ∧ (8 ≤ j ∧ j < 8 + n)
      · rw [if_pos z2, if_pos (by omega)]
      · rw [if_neg z2, if_neg (by omega)]
/-- another law for the same mill -/
theorem tPre_law (g : ∀ j : Nat, j < 672 → (j < 8 ∨ 18 ≤ j) → t' j = t j) : ∀ n : Nat, n ≤ 60 → tPre t' n = tPre t n := by
  intro n
  induction n with
  | zero => intro _; rfl
  | succ n ih =>
    intro hn
    have e3 : ∀ t, tPre t (n + 1) = tPre t n + tM t n := fun t => rfl
    rw [e3, e3, ih (by omega)]
    show _ + t' (20 + 7 * n + 6) = _ + t (20 + 7 * n + 6)
    rw [g _ (by omega) (by omega)]
theorem TW_law (hT : TW t) (g : ∀ j : Nat, j < 672 → (j < 8 ∨ 18 ≤ j) → t' j = t j) (h8 : 0 ≤ t' 8 ∧ t' 8 ≤ 8) (h17 : 0 ≤ t' 17 ∧ t' 17 ≤ 99) : TW t' := by
  have hS := hT.sacks
  have h60 := hT.p60
  have hst := hT.stones
  refine ⟨?_, ?_, ?_, ?_, h8, h17, ?_, ?_, ⟨?_, ?_⟩, ?_⟩
  · rw [g _ (by omega) (by omega)]; exact hT.stones
  · rw [g _ (by omega) (by omega)]; exact hT.clean
  · rw [g _ (by omega) (by omega)]; exact hT.fee
  · rw [g _ (by omega) (by omega)]; exact hT.sacks
  · intro k hk; rw [g 1 (by omega) (by omega)] at hk; rw [g _ (by omega) (by omega)]; exact hT.pace k hk
  · intro k hk
    rw [g 4 (by omega) (by omega)] at hk
    have h5 := hT.sk k hk
    unfold TSk
    rw [g _ (by omega) (by omega), g _ (by omega) (by omega), g _ (by omega) (by omega), g _ (by omega) (by omega), g _ (by omega) (by omega), g _ (by omega) (by omega), g _ (by omega) (by omega)]
    exact h5
  · rw [g 668 (by omega) (by omega), g 4 (by omega) (by omega), tPre_law g _ (by omega)]; exact hT.sum
  · rw [g 668 (by omega) (by omega)]; exact h60
  · intro p hp; rw [g 668 (by omega) (by omega)] at hp; rw [g _ (by omega) (by omega)]; exact hT.pound p hp
theorem MR.law {m : Nat} (hT : TW t) (h : MR σ m t) (f : ∀ a j : Nat, m ≤ a → a < m + 22 → a ≠ m + 1 → a ≠ m + 3 → σ' a j = σ a j) (g : ∀ j : Nat, j < 672 → (j < 8 ∨ 18 ≤ j) → t' j = t j) (l : σ' (m + 1) 1 = t' 8 ∧ σ' (m + 1) 2 = t' 17 ∧ ∀ k : Nat, ((k : Nat) : Int) < t' 8 → σ' (m + 3) k = t' (9 + k)) : MR σ' m t' := by
  have hS := hT.sacks
  have h60 := hT.p60
  have hst := hT.stones
  have hc : ∀ s i : Nat, ((s : Nat) : Int) < t 4 → ((i : Nat) : Int) < tM t s → (tPre t s).toNat + i < 60 := fun s i hs hi => by
    have g1 := tPre_nn hT (a := s) (by omega)
    have g2 := tPre_le hT (a := s + 1) (by omega)
    have e3 : tPre t (s + 1) = tPre t s + tM t s := rfl
    omega
  refine ⟨⟨?_, ?_, ?_, ?_, ?_⟩, l, fun k hk => ?_, fun s hs => ?_, fun s i hs hi => ?_⟩
  · rw [f _ _ (by omega) (by omega) (by omega) (by omega), g _ (by omega) (by omega)]; exact h.lines
  · rw [f _ _ (by omega) (by omega) (by omega) (by omega), g _ (by omega) (by omega)]; exact h.stones
  · rw [f _ _ (by omega) (by omega) (by omega) (by omega), g _ (by omega) (by omega)]; exact h.clean
  · rw [f _ _ (by omega) (by omega) (by omega) (by omega), g _ (by omega) (by omega)]; exact h.fee
  · rw [f _ _ (by omega) (by omega) (by omega) (by omega), g _ (by omega) (by omega)]; exact h.sacks
  · rw [g 1 (by omega) (by omega)] at hk
    rw [f _ _ (by omega) (by omega) (by omega) (by omega), g 1 (by omega) (by omega), g _ (by omega) (by omega)]; exact h.pace hk
  · rw [g 4 (by omega) (by omega)] at hs
    have e := h.sk hs
    rw [f _ _ (by omega) (by omega) (by omega) (by omega), f _ _ (by omega) (by omega) (by omega) (by omega), f _ _ (by omega) (by omega) (by omega) (by omega), f _ _ (by omega) (by omega) (by omega) (by omega), f _ _ (by omega) (by omega) (by omega) (by omega), f _ _ (by omega) (by omega) (by omega) (by omega), f _ _ (by omega) (by omega) (by omega) (by omega)]
    rw [g _ (by omega) (by omega), g _ (by omega) (by omega), g _ (by omega) (by omega), g _ (by omega) (by omega), g _ (by omega) (by omega), g _ (by omega) (by omega), g _ (by omega) (by omega)]
    exact e
  · rw [g 4 (by omega) (by omega)] at hs
    have hmk : tM t' s = tM t s := g _ (by omega) (by omega)
    rw [hmk] at hi
    have := hc s i hs hi
    rw [f _ _ (by omega) (by omega) (by omega) (by omega), tPre_law g _ (by omega), g _ (by omega) (by omega)]; exact h.cut hs hi
end MLf
