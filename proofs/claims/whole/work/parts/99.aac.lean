/-! THE LAW, 3: what a call of the model leaves as it was, the rest -/
section OO
variable {σ σ' σ'' x : Sg}
theorem on_tc (σ : Sg) (t : Int) : On σ (nTC σ t).2 := by
  have h := (on_thr σ (nTf σ t)).tr (on_nio _ t)
  have h2 := h.tr (on_coo _)
  unfold nTC
  split
  · exact on_thr σ _
  · split
    · exact h
    · exact h2
theorem on_swap (σ : Sg) (t k : Int) : On σ (nSw σ t k).2 := by
  have h := (on_thr σ (swV σ t k)).tr (on_nio _ t)
  have h2 := h.tr (on_coo _)
  unfold nSw
  generalize nio (nThr σ (swV σ t k)) t = p at h h2 ⊢
  split
  · exact on_thr σ _
  · split
    · exact h
    · have h3 : On (nCoo p.2) (sw1 (nCoo p.2) k) := by
        unfold sw1
        exact ((On.rf _).hsu (by decide)).hsu (by decide)
      exact (h2.tr h3).tr (on_coo _)
theorem on_orF : ∀ (n : Nat) (used : Int) (d : Nat) (x : Sg), On x (orF n used d x) := by
  intro n
  induction n with
  | zero => intro used d x; exact On.rf x
  | succ n ih =>
    intro used d x
    rw [orF]
    split
    · have h := on_coo x
      unfold orL
      split
      · exact h
      · exact (h.hsu (by decide)).tr (On.hitr (fun k y => by unfold obS; exact (On.rf y).hsu (by decide)) _ _)
    · refine On.hitr (fun p y => ?_) _ _
      unfold orS
      split
      · exact On.rf y
      · have h : On y (su y 240 d ((p : Nat) : Int)) := (On.rf y).hsu (by decide)
        exact h.tr (ih _ _ _)
theorem on_sk0 (σ : Sg) : On σ (nSk0 σ) := by
  have h : On σ (su σ 223 31 (-1)) := (On.rf σ).hsu (by decide)
  unfold nSk0
  exact h.tr (on_orF _ _ _ _)
theorem on_best (σ : Sg) (k : Int) : On σ (nBs σ k).2 := by
  have h := (on_t0 σ).tr (on_sk0 _)
  unfold nBs
  split
  · exact on_t0 σ
  · exact h
theorem on_gap (σ : Sg) : On σ (nGp σ).2 := by
  have h := ((on_t0 σ).tr (on_sk0 _)).tr (on_ru _)
  unfold nGp
  split
  · exact on_t0 σ
  · split
    · exact on_t0 σ
    · exact h
theorem on_jg2 (x : Sg) (s : Int) (d : Nat) : On x (jg2 x s d) := by
  have h : On x (itr d jgS x) := On.hitr (fun k y => by unfold jgS; exact (On.rf y).hsu (by decide)) _ _
  unfold jg2 jg1
  exact (h.tr (on_pts _ _ _)).tr (on_ru _)
theorem on_jg (x : Sg) (s : Int) (d : Nat) : On x (nJg x s d) := by
  have h := on_jg2 x s d
  unfold nJg
  generalize jg2 x s d = y at h ⊢
  split
  · exact On.rf x
  · split
    · exact h
    · unfold jg3
      exact ((h.hsu (by decide)).hsu (by decide)).tr (On.hitr (fun k z => by unfold jbS; exact (On.rf z).hsu (by decide)) _ _)
theorem on_dqF {L : Nat → Sg → Sg} (hL : ∀ d y, On y (L d y)) (n : Int) : ∀ (f : Nat) (left most : Int) (d : Nat) (x : Sg), On x (dqF L n f left most d x) := by
  intro f
  induction f with
  | zero => intro left most d x; exact On.rf x
  | succ f ih =>
    intro left most d x
    rw [dqF]
    split
    · exact hL d x
    · split
      · refine On.hitr (fun k y => ?_) _ _
        unfold trS
        have h : On y (su y 242 d (min left most - ((k : Nat) : Int))) := (On.rf y).hsu (by decide)
        exact h.tr (ih _ _ _ _)
      · exact On.rf x
theorem on_se (σ : Sg) (s n : Int) : On σ (nSe σ s n).2 := by
  have h1 : On σ (nSe1 σ) := by unfold nSe1; exact (On.rf σ).hsu (by decide)
  have h2 : On σ (nSe2 σ s n) := by
    unfold nSe2
    rw [trF_dq]
    exact (h1.tr (on_cp _ (by decide) (by decide))).tr (on_dqF (fun d y => on_jg y s d) n 7 _ _ 0 _)
  have h3 := h2.tr (on_cp (nSe2 σ s n) (s := 226) (d := 224) (by decide) (by decide))
  unfold nSe
  split
  · exact h1
  · exact h3
theorem on_parting (σ : Sg) (s n w : Int) : On σ (nPg σ s n w).2 := by
  have h := (on_thr σ (pgV σ s n w)).tr (on_se _ s n)
  unfold nPg
  split
  · exact on_thr σ _
  · unfold nPgA
    generalize nSe (nThr σ (pgV σ s n w)) s n = p at h ⊢
    split
    · exact h
    · exact h
theorem on_sgF (n : Int) : ∀ (f r : Nat) (x : Sg), On x (sgF n f r x).2 := by
  have hs : ∀ (s : Nat) (x : Int × Sg), On x.2 (sgS n s x).2 := fun s x => by
    have h : On x.2 (sgY n s x.2) := by unfold sgY; exact on_se _ _ _
    have h2 := h.tr (on_ru _)
    unfold sgS sgP
    generalize nRu (sgY n s x.2) = z at h2 ⊢
    split
    · exact h
    · split
      · exact h2
      · have h3 : On z (sgL z) := by unfold sgL; exact On.hitr (fun k y => by unfold slS; exact (On.rf y).hsu (by decide)) _ _
        exact (h2.tr h3).tr (on_pts _ _ _)
  intro f
  induction f with
  | zero => intro r x; exact on_cp x (by decide) (by decide)
  | succ f ih =>
    intro r x
    have h : On x (sgR n x (x 224 4).toNat).2 := by
      have r := On.hitr2 hs (x 224 4).toNat (0, x)
      unfold sgR
      exact r
    rw [sgF]
    split
    · exact h
    · exact h.tr (ih _ _)
theorem on_settle (σ : Sg) (n : Int) : On σ (nStl σ n).2 := by
  unfold nStl
  split
  · exact on_thr σ _
  · refine (on_thr σ (seV n)).tr ?_
    generalize nThr σ (seV n) = x
    unfold nStlA
    split
    · exact On.rf x
    · exact (on_cp x (by decide) (by decide)).tr (on_sgF n 10 0 _)
theorem on_feL (x : Sg) (s W : Int) (d : Nat) : On x (feL x s W d) := by
  unfold feL
  split
  · exact On.rf x
  · refine (on_jg2 x s d).tr (On.of (fun a ha => feU_ne _ _ _ _ (by omega)))
theorem on_fee (σ : Sg) (n : Int) : On σ (nFe σ n).2 := by
  unfold nFe
  split
  · exact on_thr σ _
  · refine (on_thr σ (feVt n)).tr ?_
    generalize nThr σ (feVt n) = x
    have h0 : On x (nFe0 x) := by
      unfold nFe0
      rw [fwL_wh]
      exact ((on_cp x (by decide) (by decide)).tr (on_whL _ _)).hsu (by decide)
    have hf : ∀ (s : Nat) (y : Sg), On y (feN n s y) := fun s y => by
      unfold feN
      split
      · exact On.rf y
      · refine (on_ru y).tr (On.tr ?_ (on_wy _ _))
        rw [feF_dq]
        exact on_dqF (fun d z => on_feL z _ _ d) n 4 _ _ 0 _
    have h1 : On x (nFe1 x n) := by
      unfold nFe1 fnN
      exact h0.tr (On.hitr hf _ _)
    have h2 := h1.tr (on_cp (nFe1 x n) (s := 244) (d := 224) (by decide) (by decide))
    unfold nFeA
    exact h2
theorem on_when (σ : Sg) (s w : Int) (N : Nat) : On σ (nWhn σ s w N).2 := by
  unfold nWhn
  split
  · exact on_thr σ _
  · refine (on_thr σ (whV σ s w)).tr ?_
    generalize nThr σ (whV σ s w) = x
    have hf : ∀ (m : Nat) (y : Int × Int × Int × Sg), On y.2.2.2 (whS s m y).2.2.2 := fun m y => by
      unfold whS whZ
      exact (on_sets _ _ _ _).tr (on_ru _)
    have r := On.hitr4 hf N (-1, 0, -1, x)
    have r2 : On x (whL x s N).2.2.2 := by unfold whL; exact r
    have r3 := r2.tr (on_sets _ s 2 (nOf x s 2))
    unfold nWhnA
    exact r3
theorem on_hv (σ : Sg) (s : Int) (N : Nat) : On σ (nHv σ s N).2 := by
  unfold nHv
  split
  · exact on_thr σ _
  · refine (on_thr σ (hvV σ s)).tr ?_
    generalize nThr σ (hvV σ s) = x
    have hf : ∀ (m : Nat) (y : Int × Sg), On y.2 (hvS s m y).2 := fun m y => by
      unfold hvS hvZ
      exact ((on_sets _ _ _ _).tr (on_wy _ _)).tr (on_ru _)
    have r := On.hitr2 hf N (-1, nCp x 224 226)
    have r0 : On x (nCp x 224 226) := on_cp x (by decide) (by decide)
    have r2 : On x (hvL (nCp x 224 226) s N).2 := r0.tr (by unfold hvL; exact r)
    have r3 := r2.tr (on_cp (hvL (nCp x 224 226) s N).2 (s := 226) (d := 224) (by decide) (by decide))
    unfold nHvA
    exact r3
theorem on_lend (σ : Sg) (s t n : Int) : On σ (nLd σ s t n).2 := by
  have h0 := on_t0 σ
  have h9 := fun k => h0.tr (on_thr (nT0 σ) k)
  unfold nLd
  generalize nT0 σ = x at h0 h9 ⊢
  have h1 : On x (nRu (ld6 x s t n)) := by
    have a : On x (ld1 x) := by unfold ld1; exact (on_ru x).tr (on_cp _ (by decide) (by decide))
    unfold ld6 ld4 ld3
    exact ((((a.tr (on_sets _ _ _ _)).tr (on_sets _ _ _ _)).tr (on_wy _ _)).tr (on_wy _ _)).tr (on_ru _)
  have h2 := h0.tr (h1.tr (on_cp (nRu (ld6 x s t n)) (s := 226) (d := 224) (by decide) (by decide)))
  split
  · exact h9 1
  · split
    · exact h9 2
    · split
      · exact h9 3
      · unfold nLdA
        exact h2
theorem on_cbY (x : Sg) (key : Int) : On x (cbY x key) := by
  have h : On x (cb2 x key) := by unfold cb2; exact ((on_cp x (by decide) (by decide)).hsu (by decide)).hsu (by decide)
  unfold cbY
  exact (h.tr (on_ru _)).tr (on_cp _ (by decide) (by decide))
theorem on_by (σ : Sg) (key : Int) : On σ (nByO σ key).2 := by
  have h := (on_thr σ (byV key)).tr (on_cbY _ key)
  unfold nByO
  split
  · exact on_thr σ _
  · exact h
theorem on_bl (x : Sg) (n : Nat) : On x (blL x n).2 := by
  have hf : ∀ (m : Nat) (y : Int × Sg), On y.2 (blS m y).2 := fun m y => by
    have h := (on_cbY y.2 (((m : Nat) : Int) + 1)).tr (on_cbY _ y.1)
    unfold blS blY
    exact h
  have r := On.hitr2 hf n (0, x)
  unfold blL
  exact r
theorem on_fits (σ : Sg) (t : Int) : On σ (nFi σ t).2 := by
  unfold nFi
  split
  · exact on_thr σ _
  · refine (on_thr σ (nTf σ t)).tr ?_
    generalize nThr σ (nTf σ t) = x
    have hf : ∀ (m : Nat) (y : Int × Sg), On y.2 (fiS t m y).2 := fun m y => by
      have h := on_cbY y.2 ((m : Nat) : Int)
      unfold fiS
      exact h
    have r := On.hitr2 hf 8 (0, x)
    unfold fiL
    exact r
theorem on_dyY (x : Sg) (seed come g : Int) (N : Nat) : On x (dyY x seed come g N) := by
  have h0 : On x (dy0 x seed) := by unfold dy0; exact (on_cp x (by decide) (by decide)).hsu (by decide)
  have hx : ∀ y : Sg, On y (nDrX y) := fun y => by unfold nDrX; exact (On.rf y).hsu (by decide)
  have hf : ∀ (m : Nat) (y : Sg), On y (dyS come g m y) := fun m y => by
    unfold dyS
    split
    · exact hx y
    · unfold dyC dyB dyA
      have h2 := (hx y).tr (hx _)
      generalize nDrX (nDrX y) = z at h2 ⊢
      have h3 : On z (su z 224 4 (wr (z 224 4 + 1))) := (On.rf z).hsu (by decide)
      exact ((h2.tr (((((((h3.tr (on_sets _ _ _ _)).tr (on_sets _ _ _ _)).tr (on_sets _ _ _ _)).tr (on_sets _ _ _ _)).tr (on_sets _ _ _ _)).tr (on_sets _ _ _ _)).tr (on_sets _ _ _ _))).hsu (by decide)).hsu (by decide)
  unfold dyY dyR dyL
  exact ((h0.tr (On.hitr hf N _)).tr (on_ru _)).tr (on_cp _ (by decide) (by decide))
theorem on_day (σ : Sg) (s seed come g : Int) (N : Nat) : On σ (nDy σ s seed come g N).2 := by
  have h := (on_thr σ (dvV σ s come g)).tr (on_dyY _ seed come g N)
  unfold nDy
  split
  · exact on_thr σ _
  · exact h
theorem on_days (σ : Sg) (s n come g w : Int) (N : Nat) : On σ (nDs σ s n come g w N).2 := by
  have h0 := on_thr σ (dsV σ s n come g w)
  unfold nDs
  generalize nThr σ (dsV σ s n come g w) = x at h0 ⊢
  have hf : ∀ (m : Nat) (y : Int × Int × Int × Sg), On y.2.2.2 (dsS s come g N m y).2.2.2 := fun m y => by
    have h := on_dyY y.2.2.2 (((m : Nat) : Int) + 1) come g N
    unfold dsS
    exact h
  have r := On.hitr4 hf n.toNat (-1, -1, 0, x)
  have r2 : On x (dsL x s come g N n.toNat).2.2.2 := by unfold dsL; exact r
  generalize dsL x s come g N n.toNat = p at r2 ⊢
  split
  · exact h0
  · exact h0.tr r2
theorem on_tray (σ : Sg) (i s n : Int) (N : Nat) : On σ (nTr σ i s n N) := by
  have hf : ∀ (m : Nat) (y : Sg), On y (ntS i m y) := fun m y => by unfold ntS; exact (On.rf y).hsu (by decide)
  unfold nTr ntX
  split
  · exact on_thr σ _
  · exact (((on_thr σ _).hsu (by decide)).hsu (by decide)).tr (On.hitr hf N _)
theorem on_cut (x : Sg) (t p v : Int) : On x (nCut x t p v) := by unfold nCut; exact (On.rf x).hsu (by decide)
theorem on_write (σ : Sg) (t p v : Int) : On σ (nWr σ t p v).2 := by
  unfold nWr
  split
  · exact on_thr σ _
  · refine (on_thr σ (nTf σ t)).tr ?_
    generalize nThr σ (nTf σ t) = x
    unfold nWrA
    split
    · exact on_thr x _
    · exact on_cut x _ _ _
theorem on_pour (σ : Sg) (t : Int) : On σ (nPu σ t).2 := by
  have h := on_rk σ (nTf σ t)
  have hf : ∀ (m : Nat) (y : Sg), On y (npS t m y) := fun m y => by unfold npS; exact on_cut y _ _ _
  unfold nPu
  generalize nRu (nThr σ (nTf σ t)) = x at h ⊢
  split
  · exact on_thr σ _
  · exact h.tr (On.hitr hf _ _)
theorem on_image (σ : Sg) (i : Int) (N : Nat) : On σ (nIm σ i N) := by
  have hf : ∀ (m : Nat) (y : Sg), On y (nImS i m y) := fun m y => by unfold nImS; exact (On.rf y).hsu (by decide)
  unfold nIm
  split
  · exact on_thr σ _
  · exact ((on_thr σ _).hsu (by decide)).tr (On.hitr hf N _)
theorem on_rest (σ : Sg) (i : Int) (N : Nat) : On σ (nRe σ i N) := by
  have hf : ∀ (m : Nat) (y : Sg), On y (nReS i m y) := fun m y => by unfold nReS; exact (On.rf y).hsu (by decide)
  unfold nRe
  split
  · exact on_thr σ _
  · exact (on_thr σ _).tr (On.hitr hf N _)
end OO
