/-! THE LAW, 1: what a call of the class, what a call of the model leaves as it was -/
def Oz (σ σ' : Sg) : Prop := ∀ a, 223 ≤ a → ∀ j, σ' a j = σ a j
def On (σ σ' : Sg) : Prop := ∀ a, (a < 223 ∨ 248 ≤ a) → ∀ j, σ' a j = σ a j
section OO
variable {σ σ' σ'' x : Sg}
theorem Oz.rf (σ : Sg) : Oz σ σ := fun _ _ _ => rfl
theorem Oz.tr (h : Oz σ σ') (k : Oz σ' σ'') : Oz σ σ'' := fun a ha j => (k a ha j).trans (h a ha j)
theorem Oz.off {lo hi : Nat} (h : off lo hi σ σ') (hh : hi ≤ 223) : Oz σ σ' := fun a ha j => h a (by omega) j
theorem Oz.hsu (h : Oz σ σ') {c k : Nat} {v : Int} (hc : c < 223) : Oz σ (su σ' c k v) := fun a ha j => (su_ne _ _ (Or.inl (by omega))).trans (h a ha j)
theorem Oz.hput (h : Oz σ σ') {c n : Nat} {i v : Int} (hc : c < 223) : Oz σ (rPut σ' c n i v) := fun a ha j => (rPut_ne (by omega)).trans (h a ha j)
theorem Oz.hfill (h : Oz σ σ') {c k : Nat} {v : Int} (hc : c < 223) : Oz σ (rFill σ' c k v) := fun a ha j => (rFill_ne (by omega)).trans (h a ha j)
theorem Oz.hcopy (h : Oz σ σ') {c e k : Nat} (hc : c < 223) : Oz σ (rCopy σ' c e k) := fun a ha j => (rCopy_ne (by omega)).trans (h a ha j)
theorem Oz.hitr {f : Nat → Sg → Sg} (hf : ∀ k x, Oz x (f k x)) (n : Nat) (σ : Sg) : Oz σ (itr n f σ) := by
  induction n with
  | zero => exact Oz.rf σ
  | succ n ih => rw [itr_s]; exact ih.tr (hf _ _)
theorem Oz.hitr2 {α : Type} {f : Nat → α × Sg → α × Sg} (hf : ∀ k x, Oz x.2 (f k x).2) (n : Nat) (x : α × Sg) : Oz x.2 (itr n f x).2 := by
  induction n with
  | zero => exact Oz.rf _
  | succ n ih => rw [itr_s]; exact ih.tr (hf _ _)
theorem Oz.hitr3 {α β : Type} {f : Nat → α × β × Sg → α × β × Sg} (hf : ∀ k x, Oz x.2.2 (f k x).2.2) (n : Nat) (x : α × β × Sg) : Oz x.2.2 (itr n f x).2.2 := by
  induction n with
  | zero => exact Oz.rf _
  | succ n ih => rw [itr_s]; exact ih.tr (hf _ _)
theorem Oz.hitr4 {α β γ : Type} {f : Nat → α × β × γ × Sg → α × β × γ × Sg} (hf : ∀ k x, Oz x.2.2.2 (f k x).2.2.2) (n : Nat) (x : α × β × γ × Sg) : Oz x.2.2.2 (itr n f x).2.2.2 := by
  induction n with
  | zero => exact Oz.rf _
  | succ n ih => rw [itr_s]; exact ih.tr (hf _ _)
theorem oz_go (σ : Sg) {r m : Nat} (h : r + 25 ≤ 223) : Oz σ (go σ r m) := Oz.off (go_off σ) h
theorem oz_go1 (σ : Sg) : Oz σ (go σ 26 4) := oz_go σ (by decide)
theorem oz_go2 (σ : Sg) : Oz σ (go σ 96 74) := oz_go σ (by decide)
theorem oz_ly (σ : Sg) : Oz σ (ly σ 26 4) := Oz.off (ly_off σ) (by decide)
theorem oz_cp (σ : Sg) {m f : Nat} (h : f + 22 ≤ m ∨ m + 22 ≤ f) (h2 : m + 22 ≤ 223) : Oz σ (mCopy σ m f) := Oz.off (mCopy_off σ h) h2
theorem oz_74 (σ : Sg) : Oz σ (mCopy σ 74 4) := oz_cp σ (Or.inl (by decide)) (by decide)
theorem oz_51 (σ : Sg) : Oz σ (mCopy σ 51 4) := oz_cp σ (Or.inl (by decide)) (by decide)
theorem oz_tk (σ : Sg) (f : Int) : Oz σ (tTake σ f) := by
  unfold tTake
  refine Oz.hitr (fun k x => ?_) _ _
  unfold tTakeS
  split
  · exact ((Oz.rf x).hsu (by decide)).hsu (by decide)
  · exact Oz.rf x
theorem oz_feed (σ : Sg) (a b c d e : Int) : Oz σ (zFeed σ a b c d e).2 := by
  unfold zFeed
  split
  · exact Oz.rf σ
  · exact (((oz_tk σ a).tr (oz_tk _ b)).tr (oz_tk _ c)).tr ((oz_tk _ d).tr (oz_tk _ e))
theorem oz_td (σ : Sg) : Oz σ (zTd σ).2 := by
  unfold zTd
  split
  · exact (Oz.rf σ).hsu (by decide)
  · exact ((Oz.rf σ).hsu (by decide)).tr (oz_cp _ (Or.inr (by decide)) (by decide))
theorem oz_open (σ : Sg) (n : Int) : Oz σ (rOpen σ n) := fun a ha j => (rOpen_at σ n).2.2 a j (by omega)
theorem oz_mill (σ : Sg) (n : Int) : Oz σ (zMill σ n).2 := by
  show Oz σ (zTd (tMill (mCopy σ 51 4) n)).2
  refine ((oz_51 σ).tr ?_).tr (oz_td _)
  generalize mCopy σ 51 4 = x
  unfold tMill
  have h1 : Oz x (mClear x 51) := by
    unfold mClear
    exact (((((Oz.rf x).hsu (by decide)).hsu (by decide)).hsu (by decide)).hsu (by decide)).hsu (by decide)
  have h2 := h1.tr (oz_open (mClear x 51) n)
  generalize rOpen (mClear x 51) n = y at h2 ⊢
  have h3 : Oz y (tMillL 900 y) := fun a ha j => (Zf.hMillL 900 y).1 a j (by unfold Pm; omega)
  have h4 := h2.tr h3
  generalize tMillL 900 y = z at h4 ⊢
  exact h4.tr (fun a ha j => stand_off z a j (by omega))
theorem oz_law (σ : Sg) (n : Int) : Oz σ (zLaw σ n).2 := by
  show Oz σ (zTd (tLaw (mCopy σ 51 4) n)).2
  refine ((oz_51 σ).tr ?_).tr (oz_td _)
  generalize mCopy σ 51 4 = x
  unfold tLaw
  have h1 : Oz x (su (su x 52 1 0) 52 2 0) := ((Oz.rf x).hsu (by decide)).hsu (by decide)
  have h2 := h1.tr (oz_open (su (su x 52 1 0) 52 2 0) n)
  generalize rOpen (su (su x 52 1 0) 52 2 0) n = y at h2 ⊢
  exact h2.tr (fun a ha j => (Zf.hLawL 900 y).1 a j (by unfold Pl; omega))
theorem oz_way (σ : Sg) (m w n : Nat) (s many : Int) (h : m + 22 ≤ 223) : Oz σ (mWay σ m w n s many) := fun a ha j => mWay_ne _ _ _ _ _ _ (by omega) (by omega) j
theorem oz_part (σ : Sg) (s : Int) (t : Nat) : Oz σ (zPart σ s t) := by
  unfold zPart
  refine Oz.tr ?_ (oz_way _ _ _ _ _ _ (by decide))
  unfold zTold
  exact Oz.hitr (fun k x => by unfold zToS; exact (Oz.rf x).hput (by decide)) _ _
theorem oz_whole (σ : Sg) (m : Nat) (h : m + 22 ≤ 223) : Oz σ (mMk σ m).2 := Oz.off (mMk_off σ m) h
theorem oz_mw (σ : Sg) (s v : Int) : Oz σ (mWhole σ 74 s v) := Oz.off (mWhole_off σ 74 s v) (by decide)
theorem oz_or (σ : Sg) (t : Nat) : Oz σ (zOr σ t).2 := fun a ha j => zOr_off σ t (by omega) (by omega) j
theorem oz_tc (σ : Sg) : Oz σ (zTc σ) := Oz.off (fl_off σ) (by decide)
theorem oz_cost (σ : Sg) (t : Nat) : Oz σ (zCost σ t).2 := by
  unfold zCost
  split
  · exact oz_or σ t
  · exact (oz_or σ t).tr (oz_tc _)
theorem oz_swap (σ : Sg) (t : Nat) (k : Int) : Oz σ (zSwap σ t k).2 := by
  unfold zSwap
  split
  · exact oz_or σ t
  · refine (((oz_or σ t).tr (oz_tc _)).tr ?_).tr (oz_tc _)
    unfold zSw1
    exact ((Oz.rf _).hput (by decide)).hput (by decide)
theorem oz_seek (σ : Sg) : Oz σ (seek σ) := by
  unfold seek
  refine Oz.tr ?_ (Oz.off (exF_off 9 0 _) (by decide))
  unfold ss1
  refine Oz.hsu (Oz.hput (Oz.hput (Oz.hput ?_ (by decide)) (by decide)) (by decide)) (by decide)
  refine Oz.tr ?_ (Oz.hitr (fun k x => by unfold ssS; exact (Oz.rf x).hput (by decide)) _ _)
  unfold ss0
  exact (oz_ly σ).hfill (by decide)
theorem oz_best (σ : Sg) (k : Int) : Oz σ (zBest σ k).2 := by
  unfold zBest
  split
  · exact Oz.rf σ
  · exact oz_seek σ
theorem oz_gap (σ : Sg) : Oz σ (zGap σ).2 := by
  unfold zGap
  split
  · exact Oz.rf σ
  · split
    · exact Oz.rf σ
    · exact (oz_seek σ).tr (oz_go1 _)
theorem oz_wg (σ : Sg) (s k : Int) : Oz σ (wg σ s k) := by
  have h : Oz σ (wg1 σ s k) := by unfold wg1; exact (Oz.rf σ).hput (by decide)
  unfold wg
  split
  · exact ((h.hsu (by decide)).hsu (by decide)).hcopy (by decide)
  · exact h
theorem oz_sk (σ : Sg) (s n : Int) (N : Nat) : Oz σ (sk σ s n N) := by
  unfold sk
  have h0 : Oz σ (sk0 σ s n) := by unfold sk0; exact ((Oz.rf σ).hsu (by decide)).hsu (by decide)
  refine h0.tr (Oz.hitr (fun i x => ?_) _ _)
  unfold skS skI
  have h1 : Oz x (stF (rPut x 127 9 (((i : Nat) : Int) + 1) 1000000000) (rAt (rPut x 127 9 (((i : Nat) : Int) + 1) 1000000000) 81 60 s) (((i : Nat) : Int) + 1)) := by
    unfold stF
    refine Oz.tr ?_ (Oz.hitr (fun k y => by unfold stS; exact (Oz.rf y).hput (by decide)) _ _)
    exact ((Oz.rf x).hput (by decide)).hput (by decide)
  refine h1.tr (Oz.hitr2 (f := skW s (((i : Nat) : Int) + 1)) (fun k y => ?_) N _)
  unfold skW
  split
  · exact Oz.rf _
  · have h3 := ((oz_way y.2 74 123 8 s (((i : Nat) : Int) + 1) (by decide)).tr (oz_go2 _)).tr (oz_wg _ s (((i : Nat) : Int) + 1))
    refine h3.tr ?_
    unfold fnF
    exact fun a ha j => fnR_ne _ _ (by omega) j _ _
theorem oz_skF (σ : Sg) (s n : Int) : Oz σ (skF σ s n) := oz_sk σ s n skM
theorem oz_pg (σ : Sg) (s n : Int) : Oz σ (zPg σ s n) := (oz_74 σ).tr (oz_skF _ s n)
theorem oz_par (σ : Sg) (s n w : Int) : Oz σ (zPar σ s n w).2 := by
  unfold zPar
  split
  · exact Oz.rf σ
  · exact oz_pg σ s n
theorem oz_seF (n : Int) : ∀ (f r : Nat) (x : Sg), Oz x (zSe n f r x).2 := by
  intro f
  induction f with
  | zero => intro r x; exact oz_cp x (Or.inr (by decide)) (by decide)
  | succ f ih =>
    intro r x
    have h : Oz x (zSeR n x).2 := by
      unfold zSeR
      refine Oz.hitr2 (f := zSeS n) (fun k y => ?_) _ (0, x)
      have hb : Oz y.2 (zSeB n k y.2) := by unfold zSeB; exact (oz_go1 _).tr (oz_pg _ _ _)
      unfold zSeS
      split
      · exact hb.tr (oz_way _ _ _ _ _ _ (by decide))
      · exact hb
    rw [zSe]
    split
    · exact h
    · exact h.tr (ih _ _)
theorem oz_settle (σ : Sg) (n : Int) : Oz σ (zSettle σ n).2 := by
  unfold zSettle
  split
  · exact Oz.rf σ
  · exact (oz_51 σ).tr (oz_seF n 10 0 _)
theorem oz_fee (σ : Sg) (n : Int) : Oz σ (zFee σ n).2 := by
  unfold zFee
  have h0 : Oz σ (zFe0 σ) := by unfold zFe0; exact (oz_74 σ).tr (oz_whole _ 74 (by decide))
  refine h0.tr (Oz.hitr2 (f := zFeS n) (fun k x => ?_) _ (0, zFe0 σ))
  unfold zFeS
  split
  · exact (oz_skF _ _ _).tr (oz_mw _ _ _)
  · exact Oz.rf _
theorem oz_ln (s : Int) : ∀ (n : Nat) (x : Sg), Oz x (zLn s n x).2 := by
  intro n
  induction n with
  | zero => intro x; exact Oz.rf x
  | succ n ih =>
    intro x
    have h : Oz x (go (rPut x 85 60 s ((n : Nat) : Int)) 96 74) := ((Oz.rf x).hput (by decide)).tr (oz_go2 _)
    rw [zLn]
    split
    · exact h
    · exact h.tr (ih _)
theorem oz_fl (x : Sg) (s : Int) : Oz x (zFl x s).2.2 := by
  have hf : ∀ (k : Nat) (y : Int × Int × Sg), Oz y.2.2 (zFlS s k y).2.2 := fun k y => by
    have h : Oz y.2.2 (go (rPut y.2.2 85 60 s ((k : Nat) : Int)) 96 74) := ((Oz.rf _).hput (by decide)).tr (oz_go2 _)
    unfold zFlS
    split <;> exact h
  have r := Oz.hitr3 hf 601 (-1, 0, x)
  unfold zFl
  exact r
theorem pr_22 (p : Int × Int × Sg) : ((p.1, p.2.2) : Int × Sg).2 = p.2.2 := rfl
theorem oz_when (σ : Sg) (s w : Int) : Oz σ (zWhen σ s w).2 := by
  have h := oz_fl (mCopy σ 74 4) s
  have h2 := oz_ln s 601 (mCopy σ 74 4)
  have h3 := oz_74 σ
  unfold zWhen
  generalize zFl (mCopy σ 74 4) s = p at h ⊢
  split
  · exact h3.tr h2
  · rw [pr_22]
    exact h3.tr h
theorem oz_hv (s : Int) : ∀ (n : Nat) (x : Sg), Oz x (zHv s n x).2 := by
  intro n
  induction n with
  | zero => intro x; exact Oz.rf x
  | succ n ih =>
    intro x
    have h : Oz x (go (mWhole x 74 s (((n : Nat) : Int) + 1)) 96 74) := (oz_mw x s _).tr (oz_go2 _)
    rw [zHv]
    split
    · exact h
    · exact h.tr (ih _)
theorem oz_lend (σ : Sg) (s t n : Int) : Oz σ (zLend σ s t n) := by
  unfold zLend
  exact ((((oz_74 σ).tr (oz_mw _ _ _)).tr (oz_mw _ _ _)).tr (oz_go2 _)).tr (oz_go1 _)
theorem oz_rb (σ : Sg) (key : Int) : Oz σ (zRb σ key) := Oz.off (zRb_off σ key) (by decide)
theorem oz_bl (σ : Sg) : Oz σ (zBl σ).2.2 := by
  unfold zBl
  refine Oz.hitr3 (f := zBlS) (fun k y => ?_) 8 (0, 1000000000, σ)
  unfold zBlS
  split <;> exact oz_rb _ _
theorem oz_fit (σ : Sg) (t : Nat) : Oz σ (zFit σ t).2 := by
  unfold zFit
  split
  · exact oz_or σ t
  · have hf : ∀ (k : Nat) (y : Int × Sg), Oz y.2 (zFiS k y).2 := fun k y => by unfold zFiS; exact oz_rb _ _
    have r := Oz.hitr2 hf 8 (0, (zOr σ t).2)
    have h := oz_or σ t
    generalize (zOr σ t).2 = x at r h ⊢
    exact h.tr r
theorem oz_sack (σ : Sg) (w p c s v o : Int) : Oz σ (mSack σ 74 w p c s v o) := by
  unfold mSack
  refine Oz.hsu (Oz.tr ?_ (oz_mw _ _ _)) (by decide)
  exact (((((Oz.rf σ).hput (by decide)).hput (by decide)).hput (by decide)).hput (by decide)).hput (by decide)
theorem oz_str (σ : Sg) (seed come g : Int) : Oz σ (mStr σ 74 seed come g) := by
  unfold mStr
  refine Oz.hitr2 (f := mStrS 74 come g) (fun k y => ?_) 300 (seed, σ)
  unfold mStrS
  dsimp only
  split
  · exact oz_sack _ _ _ _ _ _ _
  · exact Oz.rf _
theorem oz_day (σ : Sg) (seed come g : Int) : Oz σ (zDay σ seed come g) := by
  unfold zDay
  exact ((oz_74 σ).tr (oz_str _ _ _ _)).tr (oz_go2 _)
theorem oz_days (σ : Sg) (s n come g : Int) : Oz σ (zDays σ s n come g).2.2.2 := by
  unfold zDays
  refine Oz.hitr4 (f := zDs s come g) (fun k y => ?_) _ (-1, -1, 0, σ)
  unfold zDs
  split <;> exact oz_day _ _ _ _
theorem oz_yput (σ : Sg) {t : Nat} (ht : t + 1 < 223) (i v : Int) : Oz σ (yPut σ t i v) := by
  unfold yPut
  split
  · exact (Oz.rf σ).hsu ht
  · exact Oz.rf σ
theorem trT_lt {i : Int} (h : gTray i = none) : trT i + 2 < 223 := by
  have := gTray_n h
  unfold trT; omega
theorem imT_lt {i : Int} (h : gImg i = none) : 157 ≤ imT i ∧ imT i + 22 ≤ 223 := by
  have := gImg_n h
  unfold imT; omega
theorem oz_tray (σ : Sg) {i s n : Int} (h : gTray i = none) : Oz σ (yFill (su (su σ (trT i) 1 s) (trT i) 2 n) (trT i + 1) 60) := by
  have ht := trT_lt h
  have h1 : Oz σ (su (su σ (trT i) 1 s) (trT i) 2 n) := ((Oz.rf σ).hsu (by omega)).hsu (by omega)
  refine h1.tr (fun a ha j => ?_)
  unfold yFill
  rw [if_neg (by omega)]
theorem oz_pour (σ : Sg) {i : Int} (h : gTray i = none) : Oz σ (zPour (go σ 26 4) (trT i)) := by
  have ht := trT_lt h
  refine (oz_go1 σ).tr ?_
  unfold zPour
  exact Oz.hitr (fun k x => by unfold zPoS; exact oz_yput x (by omega) _ _) _ _
theorem oz_image (σ : Sg) {i : Int} (h : gImg i = none) : Oz σ (su (mCopy σ (imT i) 4) (imT i) 6 1) := by
  have ht := imT_lt h
  exact (oz_cp σ (Or.inl (by omega)) (by omega)).hsu (by omega)
theorem oz_rest (σ : Sg) {i : Int} (h : gImg i = none) : Oz σ (mCopy σ 4 (imT i)) := by
  have ht := imT_lt h
  exact oz_cp σ (Or.inr (by omega)) (by decide)
end OO
