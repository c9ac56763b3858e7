/-! THE LAW, 2: what a call of the model leaves as it was -/
section OO
variable {σ σ' σ'' x : Sg}
theorem On.rf (σ : Sg) : On σ σ := fun _ _ _ => rfl
theorem On.tr (h : On σ σ') (k : On σ' σ'') : On σ σ'' := fun a ha j => (k a ha j).trans (h a ha j)
theorem On.hsu (h : On σ σ') {c k : Nat} {v : Int} (hc : 223 ≤ c ∧ c < 248) : On σ (su σ' c k v) := fun a ha j => (su_ne _ _ (Or.inl (by omega))).trans (h a ha j)
theorem On.of (h : ∀ a, (a < 223 ∨ 248 ≤ a) → σ' a = σ a) : On σ σ' := fun a ha j => by rw [h a ha]
theorem On.hitr {f : Nat → Sg → Sg} (hf : ∀ k x, On x (f k x)) (n : Nat) (σ : Sg) : On σ (itr n f σ) := by
  induction n with
  | zero => exact On.rf σ
  | succ n ih => rw [itr_s]; exact ih.tr (hf _ _)
theorem On.hitr2 {α : Type} {f : Nat → α × Sg → α × Sg} (hf : ∀ k x, On x.2 (f k x).2) (n : Nat) (x : α × Sg) : On x.2 (itr n f x).2 := by
  induction n with
  | zero => exact On.rf _
  | succ n ih => rw [itr_s]; exact ih.tr (hf _ _)
theorem On.hitr3 {α β : Type} {f : Nat → α × β × Sg → α × β × Sg} (hf : ∀ k x, On x.2.2 (f k x).2.2) (n : Nat) (x : α × β × Sg) : On x.2.2 (itr n f x).2.2 := by
  induction n with
  | zero => exact On.rf _
  | succ n ih => rw [itr_s]; exact ih.tr (hf _ _)
theorem On.hitr4 {α β γ : Type} {f : Nat → α × β × γ × Sg → α × β × γ × Sg} (hf : ∀ k x, On x.2.2.2 (f k x).2.2.2) (n : Nat) (x : α × β × γ × Sg) : On x.2.2.2 (itr n f x).2.2.2 := by
  induction n with
  | zero => exact On.rf _
  | succ n ih => rw [itr_s]; exact ih.tr (hf _ _)
theorem on_thr (σ : Sg) (k : Int) : On σ (nThr σ k) := by unfold nThr; exact (On.rf σ).hsu (by decide)
theorem on_t0 (σ : Sg) : On σ (nT0 σ) := on_thr σ 0
theorem on_ru (σ : Sg) : On σ (nRu σ) := On.of (fun a ha => nRu_ne σ (by omega))
theorem on_coo (σ : Sg) : On σ (nCoo σ) := On.of (fun a ha => nCoo_ne σ (by omega))
theorem on_fg (σ : Sg) : On σ (nFg σ) := On.of (fun a ha => nFg_240 σ (by omega) (by omega))
theorem on_cp (σ : Sg) {s d : Nat} (hsd : s ≠ d) (hd : 223 ≤ d ∧ d < 248) : On σ (nCp σ s d) := On.of (fun a ha => nCp_ne σ hsd (by omega))
theorem on_sets (σ : Sg) (s w v : Int) : On σ (nSets σ s w v) := by unfold nSets; exact (On.rf σ).hsu (by decide)
theorem on_pts (σ : Sg) (s many : Int) : On σ (nPts σ s many) := by
  have h1 : On σ (pt1 σ s many) := by
    unfold pt1
    split
    · exact On.hitr (fun k x => by unfold ptU; exact (On.rf x).hsu (by decide)) _ _
    · exact On.hitr (fun k x => by unfold ptD; exact (On.rf x).hsu (by decide)) _ _
  have h2 : On σ (pt2 σ s many) := by
    unfold pt2
    exact h1.tr (On.hitr (fun k x => by unfold ptL; exact (On.rf x).hsu (by decide)) _ _)
  unfold nPts pt3
  exact (h2.tr (on_sets _ _ _ _)).hsu (by decide)
theorem on_wy (σ : Sg) (s : Int) : On σ (nWy σ s) := by
  have h : On σ (wyA σ s) := by unfold wyA; exact (On.rf σ).hsu (by decide)
  unfold nWy
  exact h.tr (on_pts _ _ _)
theorem on_feed (σ : Sg) (a b c d e : Int) : On σ (nFeed σ a b c d e).2 := by
  have h : On σ (su σ 223 5 0) := (On.rf σ).hsu (by decide)
  have hf : ∀ (k : Nat) (x : Sg), On x (nFeS a b c d e k x) := fun k x => by
    unfold nFeS
    exact ((On.rf x).hsu (by decide)).hsu (by decide)
  have h2 := h.tr (On.hitr hf 20 _)
  unfold nFeed
  generalize itr 20 (nFeS a b c d e) (su σ 223 5 0) = y at h2 ⊢
  split
  · exact h
  · exact h2
theorem on_nf {y y' : Sg} (h : Nf y y') : On y y' := fun a ha j => h a j ⟨by omega, Or.inl (by omega)⟩
theorem on_en (y : Sg) : On y (nEn y) := fun a ha j => nEn_ne y (Or.inl (by omega))
theorem on_st (y : Sg) (n : Int) : On y (nSt y n) := fun a ha j => nSt_lo y n (Or.inl (by omega))
theorem on_mill (σ : Sg) (n : Int) : On σ (nMl σ n 672).2 := by
  unfold nMl
  split
  · exact (on_t0 σ).tr (on_thr _ _)
  · have h1 : On σ (nMl0 σ n 672) := (on_t0 σ).tr ((on_st _ n).tr (fun a ha j => (nMl0_at σ n).1 a j (by omega)))
    have h2 : On σ (nMl1 σ n 672) := h1.tr (on_nf (Nf.mlL 902 _))
    have h3 : On σ (nMl2 σ n 672) := by
      unfold nMl2
      split
      · exact h2.tr (on_cp _ (by decide) (by decide))
      · exact h2
    exact h3.tr (on_en _)
theorem on_law (σ : Sg) (n : Int) : On σ (nLw σ n).2 := by
  unfold nLw
  split
  · exact (on_t0 σ).tr (on_thr _ _)
  · have h0 : ∀ (k : Nat) (x : Sg), On x (nLcS k x) := fun k x => by unfold nLcS; exact (On.rf x).hsu (by decide)
    have h9 : ∀ (k : Nat) (x : Sg), On x (nLkS k x) := fun k x => by unfold nLkS; exact (On.rf x).hsu (by decide)
    have h1 : On σ (nLw0 σ n) := by
      unfold nLw0
      exact ((on_t0 σ).tr (on_st _ n)).tr (On.hitr h0 10 _)
    have h2 : On σ (nLw1 σ n) := h1.tr (on_nf (Nf.lwL nMlM _))
    have h3 : On σ (nLw2 σ n) := by
      unfold nLw2
      split
      · exact h2.tr (On.hitr h9 10 _)
      · exact h2
    exact h3.tr (on_en _)
theorem on_sack (σ : Sg) (s w : Int) : On σ (nSaW (nT0 σ) s w) := by
  unfold nSaW
  split
  · exact (on_t0 σ).tr (on_thr _ _)
  · split
    · exact (on_t0 σ).tr (on_thr _ _)
    · exact on_t0 σ
theorem on_r0 (σ : Sg) : On σ (nRu (nT0 σ)) := (on_t0 σ).tr (on_ru _)
theorem on_rk (σ : Sg) (k : Int) : On σ (nRu (nThr σ k)) := (on_thr σ k).tr (on_ru _)
theorem on_piece (σ : Sg) (p w : Int) : On σ (nPi σ p w).2 := by
  have h := on_r0 σ
  unfold nPi
  split
  · exact (on_t0 σ).tr (on_thr _ _)
  · split
    · exact (on_t0 σ).tr (on_thr _ _)
    · exact h
theorem on_end (σ : Sg) (s : Int) : On σ (nEd σ s).2 := by
  have h := on_r0 σ
  unfold nEd
  split
  · exact (on_t0 σ).tr (on_thr _ _)
  · exact h
theorem on_waits (σ : Sg) (s : Int) : On σ (nWt σ s).2 := by
  have h := on_r0 σ
  unfold nWt
  split
  · exact (on_t0 σ).tr (on_thr _ _)
  · exact h
theorem on_home (σ : Sg) (q : Int) : On σ (nHm σ q).2 := by
  have h := on_r0 σ
  unfold nHm
  split
  · exact (on_t0 σ).tr (on_thr _ _)
  · exact h
theorem on_stands (σ : Sg) (mi w : Int) : On σ (nSta σ mi w).2 := by
  have h := on_rk σ (saV mi w)
  unfold nSta
  split
  · exact on_thr σ _
  · exact h
theorem on_ahead (σ : Sg) (p q : Int) : On σ (nAh σ p q).2 := by
  have h := (on_t0 σ).tr (on_fg _)
  unfold nAh
  split
  · exact (on_t0 σ).tr (on_thr _ _)
  · exact h
theorem on_judge (σ : Sg) (t w : Int) : On σ (nJd σ t w).2 := by
  have h := on_rk σ (jdV σ t w)
  unfold nJd
  split
  · exact on_thr σ _
  · exact h
theorem on_gd (σ : Sg) (s t : Int) : On σ (gd σ s t).2.2 := by
  have hf : ∀ (k : Nat) (x : Int × Int × Sg), On x.2.2 (gdS t k x).2.2 := fun k x => by
    unfold gdS
    split
    · exact On.rf _
    · exact (On.rf _).hsu (by decide)
  have r := On.hitr3 hf (σ 246 t.toNat).toNat (gd0 σ s t, 0, σ)
  unfold gd gdL
  exact r
theorem on_part (σ : Sg) (s t : Int) : On σ (nPr σ s t).2 := by
  unfold nPr
  split
  · exact on_thr σ _
  · refine (on_thr σ (ptV σ s t)).tr ?_
    generalize nThr σ (ptV σ s t) = x
    have h := on_gd x s t
    unfold nPrA
    generalize gd x s t = g at h ⊢
    split
    · exact h.tr (on_thr _ _)
    · exact h.tr (on_pts _ _ _)
theorem on_whL (σ : Sg) (n : Nat) : On σ (nWhL σ n).2 := by
  have hf : ∀ (k : Nat) (x : Int × Sg), On x.2 (nWhS k x).2 := fun k x => by unfold nWhS; exact on_wy _ _
  have r := On.hitr2 hf n (0, σ)
  unfold nWhL
  exact r
theorem on_whole (σ : Sg) : On σ (nWh σ).2 := by
  unfold nWh
  exact (on_t0 σ).tr (on_whL _ _)
theorem on_nio (σ : Sg) (t : Int) : On σ (nio σ t).2 := by
  have hf : ∀ (k : Nat) (x : Int × Sg), On x.2 (nioS t k x).2 := fun k x => by
    unfold nioS
    split
    · exact On.rf _
    · unfold nioW
      exact (On.rf _).hsu (by decide)
  have r := On.hitr2 hf (σ 246 t.toNat).toNat (nio0 σ t, σ)
  unfold nio nioL
  exact r
end OO
