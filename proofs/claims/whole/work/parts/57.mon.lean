/-! The model, 13: trays, orders, images -/
theorem su_su (σ : Sg) (o k : Nat) (v w : Int) : su (su σ o k v) o k w = su σ o k w := by
  funext a j
  simp only [su]
  split <;> rfl
theorem gw_cgJ {X : Cx} {F : Fr} {G : Gl} {Z : State → Prop} {kc ks : Nat} {M : Mem} {σ σ' : Sg} {pc : Nat} {ls : List (Option AV)} {st : List AV} {v v' : Int} (e : σ = σ') (ev : v = v') (k : gw_W X F G Z kc ks M σ' pc ls (vJ v' :: st)) : gw_W X F G Z kc ks M σ pc ls (vJ v :: st) := by rw [e, ev]; exact k
def TrW (σ : Sg) : Prop := ∀ i : Nat, i < 4 → (-1 ≤ σ 245 i ∧ σ 245 i ≤ 3) ∧ (0 ≤ σ 246 i ∧ σ 246 i ≤ 60)
theorem TrW.at {σ : Sg} (h : TrW σ) {t : Int} (h0 : 0 ≤ t) (h1 : t ≤ 3) : (-1 ≤ σ 245 t.toNat ∧ σ 245 t.toNat ≤ 3) ∧ (0 ≤ σ 246 t.toNat ∧ σ 246 t.toNat ≤ 60) := h t.toNat (by omega)
theorem nTf_0 {σ : Sg} {t : Int} (h : nTf σ t ≤ 0) : (0 ≤ t ∧ t ≤ 3) ∧ σ 245 t.toNat ≠ -1 := by
  unfold nTf at h
  split at h
  · omega
  · next q =>
    split at h
    · omega
    · next q2 => exact ⟨wth_1 q, q2⟩
theorem ix60 {t k : Int} (h : 0 ≤ t ∧ t ≤ 3) (hk : 0 ≤ k ∧ k ≤ 60) : wr (wr (60 * t) + k) = 60 * t + k := by
  rw [wr_id (show okI (60 * t) by unfold okI; omega), wr_id (by unfold okI; omega)]
def nUnR (σ : Sg) (t : Int) : Nat → Nat → Int
  | 0, k => (k : Nat)
  | n + 1, k => if ((k : Nat) : Int) < σ 246 t.toNat ∧ ((k : Nat) : Int) < σ 224 668 ∧ σ 247 (60 * t + ((k : Nat) : Int)).toNat = σ 235 k then nUnR σ t n (k + 1) else (k : Nat)
theorem nUnR_x (σ : Sg) (t : Int) (n k : Nat) (h : ¬ (((k : Nat) : Int) < σ 246 t.toNat ∧ ((k : Nat) : Int) < σ 224 668 ∧ σ 247 (60 * t + ((k : Nat) : Int)).toNat = σ 235 k)) : nUnR σ t n k = (k : Nat) := by
  cases n with
  | zero => rfl
  | succ n => rw [nUnR, if_neg h]
def nUnP (σ : Sg) (t : Int) : Int := nUnR σ t 60 0
def nUn (σ : Sg) (t : Int) : Int := if nUnP σ t = σ 246 t.toNat ∧ nUnP σ t = σ 224 668 then -1 else nUnP σ t
theorem nUnR_nn (σ : Sg) (t : Int) : ∀ n k : Nat, 0 ≤ nUnR σ t n k := by
  intro n
  induction n with
  | zero => intro k; rw [nUnR]; omega
  | succ n ih => intro k; rw [nUnR]; split; exact ih _; omega
theorem nUn_nn (σ : Sg) (t : Int) (h : nUn σ t ≠ -1) : 0 ≤ nUn σ t := by
  unfold nUn at h ⊢
  split
  · next q => rw [if_pos q] at h; exact absurd rfl h
  · exact nUnR_nn σ t 60 0
def jdV (σ : Sg) (t w : Int) : Int := if nTf σ t ≠ 0 ∨ wth w 0 1 ≠ 0 then nTf σ t else 3
def jdA (σ : Sg) (t w : Int) : Int := if w = 0 ∨ nUn σ t = -1 then nUn σ t else if nUn σ t < σ 224 668 then σ 235 (nUn σ t).toNat else -1
def nJd (σ : Sg) (t w : Int) : Int × Sg := if 0 < jdV σ t w then (0, nThr σ (jdV σ t w)) else (jdA (nRu (nThr σ (jdV σ t w))) t w, nRu (nThr σ (jdV σ t w)))
theorem jdV_0 {σ : Sg} {t w : Int} (h : jdV σ t w ≤ 0) : nTf σ t ≤ 0 := by
  unfold jdV at h; split at h <;> omega
def niI (y : Sg) (k : Nat) (i : Nat) (b : Int) : Int := if b = 0 then 0 else if y 240 i = y 240 k then 0 else 1
def nioW (t : Int) (k : Nat) (σ : Sg) : Sg := su σ 240 k (wr (σ 247 (60 * t + ((k : Nat) : Int)).toNat))
def nioB (t : Int) (k : Nat) (σ : Sg) : Int := itr k (niI (nioW t k σ) k) (nIsP σ (σ 247 (60 * t + ((k : Nat) : Int)).toNat))
def nioS (t : Int) (k : Nat) (x : Int × Sg) : Int × Sg := if x.1 = 0 then x else (nioB t k x.2, nioW t k x.2)
def nio0 (σ : Sg) (t : Int) : Int := if σ 246 t.toNat = σ 224 668 then 1 else 0
def nioL (σ : Sg) (t : Int) (n : Nat) : Int × Sg := itr n (nioS t) (nio0 σ t, σ)
def nio (σ : Sg) (t : Int) : Int × Sg := nioL σ t (σ 246 t.toNat).toNat
theorem nioL_s (σ : Sg) (t : Int) (n : Nat) : nioL σ t (n + 1) = if (nioL σ t n).1 = 0 then nioL σ t n else (nioB t n (nioL σ t n).2, nioW t n (nioL σ t n).2) := rfl
theorem nioL_z (σ : Sg) (t : Int) (k : Nat) (h : (nioL σ t k).1 = 0) : ∀ m, nioL σ t (k + m) = nioL σ t k := by
  intro m
  induction m with
  | zero => rfl
  | succ m ih => rw [← Nat.add_assoc, nioL_s, ih, if_pos h]
theorem nioL_ne (σ : Sg) (t : Int) (k : Nat) {a : Nat} (h : a ≠ 240) : (nioL σ t k).2 a = σ a := by
  induction k with
  | zero => rfl
  | succ k ih =>
    rw [nioL_s]; split
    · exact ih
    · funext j
      show nioW t k _ a j = _
      rw [nioW, su_ne _ _ (Or.inl h), ih]
theorem niI_z (y : Sg) (k : Nat) (n : Nat) {b : Int} (h : itr n (niI y k) b ≠ 0) : b ≠ 0 ∧ ∀ i, i < n → y 240 i ≠ y 240 k := by
  induction n with
  | zero => exact ⟨h, fun i hi => by omega⟩
  | succ n ih =>
    rw [itr_s, niI] at h
    split at h
    · omega
    · next q =>
      split at h
      · omega
      · next q2 =>
        obtain ⟨h1, h2⟩ := ih q
        refine ⟨h1, fun i hi => ?_⟩
        by_cases e : i = n
        · subst e; exact q2
        · exact h2 i (by omega)
theorem nIsP_of {σ σ' : Sg} (h : σ' 224 = σ 224) (p : Int) : nIsP σ' p = nIsP σ p := by unfold nIsP; rw [h]
/-- an order that was found to be one -/
theorem nioL_1 {σ : Sg} (hT : TW (σ 224)) (t : Int) (n : Nat) (h : (nioL σ t n).1 ≠ 0) : σ 246 t.toNat = σ 224 668 ∧ (∀ k, k < n → (nioL σ t n).2 240 k = σ 247 (60 * t + ((k : Nat) : Int)).toNat ∧ 0 ≤ σ 247 (60 * t + ((k : Nat) : Int)).toNat ∧ σ 247 (60 * t + ((k : Nat) : Int)).toNat < σ 224 668) ∧ ∀ i k, i < k → k < n → σ 247 (60 * t + ((i : Nat) : Int)).toNat ≠ σ 247 (60 * t + ((k : Nat) : Int)).toNat := by
  induction n with
  | zero =>
    refine ⟨?_, fun k hk => by omega, fun i k _ hk => by omega⟩
    change nio0 σ t ≠ 0 at h
    unfold nio0 at h
    split at h
    · assumption
    · exact absurd rfl h
  | succ n ih =>
    rw [nioL_s] at h ⊢
    by_cases q : (nioL σ t n).1 = 0
    · rw [if_pos q] at h; exact absurd q h
    · rw [if_neg q] at h ⊢
      obtain ⟨h1, h2, h3⟩ := ih q
      change nioB t n (nioL σ t n).2 ≠ 0 at h
      unfold nioB at h
      obtain ⟨h4, h5⟩ := niI_z _ _ _ h
      rw [nIsP_of (nioL_ne σ t n (by decide)), nioL_ne σ t n (by decide)] at h4
      have h6 := (isP_1 hT).mp h4
      have h7 := hT.p60
      have e : ∀ k, nioW t n (nioL σ t n).2 240 k = if k = n then σ 247 (60 * t + ((n : Nat) : Int)).toNat else (nioL σ t n).2 240 k := by
        intro k
        unfold nioW
        rw [nioL_ne σ t n (show 247 ≠ 240 by decide), wr_id (by unfold okI; omega)]
        by_cases e1 : k = n
        · subst e1; rw [su_same, if_pos rfl]
        · rw [su_ne _ _ (Or.inr e1), if_neg e1]
      refine ⟨h1, fun k hk => ?_, fun i k hik hk => ?_⟩
      · show nioW t n (nioL σ t n).2 240 k = _ ∧ _
        rw [e]
        by_cases e1 : k = n
        · subst e1; rw [if_pos rfl]; exact ⟨rfl, h6⟩
        · rw [if_neg e1]; exact h2 k (by omega)
      · by_cases e1 : k = n
        · subst e1
          have h8 := h5 i hik
          rw [e, e, if_neg (by omega), if_pos rfl, (h2 i hik).1] at h8
          exact h8
        · exact h3 i k hik (by omega)
theorem nio_b (σ : Sg) (t : Int) (n : Nat) : (nioL σ t n).1 = 0 ∨ (nioL σ t n).1 = 1 := by
  induction n with
  | zero => show nio0 σ t = 0 ∨ nio0 σ t = 1; unfold nio0; split; exact Or.inr rfl; exact Or.inl rfl
  | succ n ih =>
    rw [nioL_s]; split
    · exact ih
    · show nioB t n _ = 0 ∨ nioB t n _ = 1
      unfold nioB
      cases n with
      | zero => exact wth_b _ _ _
      | succ n => rw [itr_s, niI]; (repeat' split) <;> first | exact Or.inl rfl | exact Or.inr rfl
def cooS (k : Nat) (σ : Sg) : Sg := nBg σ (σ 240 k) 0 (max (σ 236 0) (nOf σ (σ 231 (σ 240 k).toNat) 2))
def nCooL (σ : Sg) (k : Nat) : Sg := itr k cooS (nFg σ)
theorem nCooL_s (σ : Sg) (k : Nat) : nCooL σ (k + 1) = cooS k (nCooL σ k) := rfl
def nCoo (σ : Sg) : Sg := nCooL σ (σ 224 668).toNat
def OrW (σ : Sg) : Prop := ∀ k : Nat, ((k : Nat) : Int) < σ 224 668 → 0 ≤ σ 240 k ∧ σ 240 k < σ 224 668
theorem nFg_240 (σ : Sg) {a : Nat} (h : a ≠ 223 ∧ a ≠ 236 ∧ a ≠ 237 ∧ a ≠ 238) (h2 : a ≠ 231 ∧ a ≠ 232) : nFg σ a = σ a := funext fun j => fgD_ne σ _ h h2 j
theorem nCooL_k {σ : Sg} (hT : TW (σ 224)) : ∀ k : Nat, ((k : Nat) : Int) ≤ σ 224 668 → RS (nCooL σ k) ∧ nCooL σ k 224 = σ 224 ∧ nCooL σ k 223 27 = (k : Nat) ∧ nCooL σ k 240 = σ 240 := by
  intro k
  induction k with
  | zero =>
    intro _
    refine ⟨(nFg_RI hT).1.1, nFg_224 σ, ?_, nFg_240 σ (a := 240) (by decide) (by decide)⟩
    have h1 := (nFg_RI hT).1.2
    show nFg σ 223 27 = 0
    rw [nFg_at, if_neg (by omega), if_neg (by omega)]
    rfl
  | succ k ih =>
    intro hk
    obtain ⟨h1, h2, h3, h4⟩ := ih (by omega)
    have h5 := hT.p60
    refine ⟨RS_bg h1 _ _ _, h2, ?_, ?_⟩
    · rw [nCooL_s, cooS, nBg_27, h3, wr_id (by unfold okI; omega)]; omega
    · funext j
      rw [nCooL_s, cooS, nBg_ne _ _ _ _ (by omega), h4]
theorem nCoo_224 {σ : Sg} (hT : TW (σ 224)) : nCoo σ 224 = σ 224 := (nCooL_k hT _ (by have := hT.p0; omega)).2.1
theorem nCoo_240 {σ : Sg} (hT : TW (σ 224)) : nCoo σ 240 = σ 240 := (nCooL_k hT _ (by have := hT.p0; omega)).2.2.2
theorem TW_coo {σ : Sg} (hT : TW (σ 224)) : TW (nCoo σ 224) := by rw [nCoo_224 hT]; exact hT
theorem OrW_io {σ : Sg} (hT : TW (σ 224)) {t : Int} (h : (nio σ t).1 ≠ 0) : OrW (nio σ t).2 := by
  intro k hk
  have h1 := nioL_1 hT t _ h
  have e : (nio σ t).2 224 = σ 224 := nioL_ne σ t _ (by decide)
  rw [e] at hk ⊢
  have h2 := h1.2.1 k (by rw [h1.1]; omega)
  rw [show (nio σ t).2 = (nioL σ t (σ 246 t.toNat).toNat).2 from rfl, h2.1]
  exact h2.2
theorem TW_io {σ : Sg} (hT : TW (σ 224)) (t : Int) : TW ((nio σ t).2 224) := by rw [show (nio σ t).2 224 = σ 224 from nioL_ne σ t _ (by decide)]; exact hT
def nTC (σ : Sg) (t : Int) : Int × Sg :=
  if 0 < nTf σ t then (0, nThr σ (nTf σ t))
  else if (nio (nThr σ (nTf σ t)) t).1 = 0 then (-1, (nio (nThr σ (nTf σ t)) t).2)
  else (nCo (nCoo (nio (nThr σ (nTf σ t)) t).2), nCoo (nio (nThr σ (nTf σ t)) t).2)
def swV (σ : Sg) (t k : Int) : Int := if nTf σ t ≠ 0 ∨ wth k 0 (wr (σ 246 t.toNat - 2)) ≠ 0 then nTf σ t else 3
theorem swV_0 {σ : Sg} {t k : Int} (h : swV σ t k ≤ 0) : nTf σ t ≤ 0 ∧ wth k 0 (wr (σ 246 t.toNat - 2)) ≠ 0 := by
  unfold swV at h
  have h9 : 0 ≤ nTf σ t := by unfold nTf; (repeat' split) <;> omega
  split at h
  · next q =>
    have h8 : nTf σ t = 0 := by omega
    exact ⟨by omega, by omega⟩
  · omega
def sw1 (y : Sg) (k : Int) : Sg := su (su y 240 k.toNat (y 240 (k + 1).toNat)) 240 (k + 1).toNat (y 240 k.toNat)
def nSw (σ : Sg) (t k : Int) : Int × Sg :=
  if 0 < swV σ t k then (0, nThr σ (swV σ t k))
  else if (nio (nThr σ (swV σ t k)) t).1 = 0 then (0, (nio (nThr σ (swV σ t k)) t).2)
  else (wr (nCo (nCoo (sw1 (nCoo (nio (nThr σ (swV σ t k)) t).2) k)) - nCo (nCoo (nio (nThr σ (swV σ t k)) t).2)), nCoo (sw1 (nCoo (nio (nThr σ (swV σ t k)) t).2) k))
theorem OrW_sw {y : Sg} (h : OrW y) {k : Int} (h0 : 0 ≤ k) (h1 : k + 1 < y 224 668) : OrW (sw1 y k) := by
  intro i hi
  change ((i : Nat) : Int) < y 224 668 at hi
  show 0 ≤ (if (240 : Nat) = 240 ∧ i = (k + 1).toNat then y 240 k.toNat else (if (240 : Nat) = 240 ∧ i = k.toNat then y 240 (k + 1).toNat else y 240 i)) ∧ (if (240 : Nat) = 240 ∧ i = (k + 1).toNat then y 240 k.toNat else (if (240 : Nat) = 240 ∧ i = k.toNat then y 240 (k + 1).toNat else y 240 i)) < y 224 668
  split
  · exact h k.toNat (by omega)
  · split
    · exact h (k + 1).toNat (by omega)
    · exact h i hi
theorem OrW_coo {σ : Sg} (hT : TW (σ 224)) (h : OrW σ) : OrW (nCoo σ) := by
  intro k hk
  rw [nCoo_224 hT] at hk ⊢
  rw [nCoo_240 hT]
  exact h k hk
def ntV (i s n : Int) : Int := if wth i 0 3 = 0 then 1 else if wth s 0 3 = 0 ∨ wth n 0 60 = 0 then 2 else 0
theorem ntV_0 {i s n : Int} (h : ntV i s n ≤ 0) : (0 ≤ i ∧ i ≤ 3) ∧ (0 ≤ s ∧ s ≤ 3) ∧ (0 ≤ n ∧ n ≤ 60) := by
  unfold ntV at h
  split at h
  · omega
  · next q =>
    split at h
    · omega
    · next q2 => exact ⟨wth_1 q, wth_1 (fun e => q2 (Or.inl e)), wth_1 (fun e => q2 (Or.inr e))⟩
def ntS (i : Int) (k : Nat) (x : Sg) : Sg := su x 247 (60 * i + ((k : Nat) : Int)).toNat 0
def ntX (σ : Sg) (i s n : Int) : Sg := su (su (nThr σ (ntV i s n)) 245 i.toNat s) 246 i.toNat n
def nTr (σ : Sg) (i s n : Int) (N : Nat) : Sg := if 0 < ntV i s n then nThr σ (ntV i s n) else itr N (ntS i) (ntX σ i s n)
def ncLs (σ : Sg) (t : Int) : Int := wr (64 - wshl 8 (σ 245 t.toNat))
def ncV (σ : Sg) (t v : Int) : Int := ljshr (ljshl v (ncLs σ t)) (ncLs σ t)
def nCut (σ : Sg) (t p v : Int) : Sg := su σ 247 (60 * t + p).toNat (ncV σ t v)
def nWrA (x : Sg) (t p v : Int) : Int × Sg := if wth p 0 (wr (x 246 t.toNat - 1)) = 0 then (0, nThr x 3) else (ncV x t v, nCut x t p v)
def nWr (σ : Sg) (t p v : Int) : Int × Sg := if 0 < nTf σ t then (0, nThr σ (nTf σ t)) else nWrA (nThr σ (nTf σ t)) t p v
def npS (t : Int) (k : Nat) (x : Sg) : Sg := nCut x t ((k : Nat) : Int) (x 235 k)
theorem npS_ne (t : Int) (n : Nat) (x : Sg) {a : Nat} (h : a ≠ 247) : itr n (npS t) x a = x a := by
  induction n with
  | zero => rfl
  | succ n ih =>
    funext j
    rw [itr_s, npS, nCut, su_ne _ _ (Or.inl h), ih]
def npN (x : Sg) (t : Int) : Int := min (x 246 t.toNat) (x 224 668)
def nPu (σ : Sg) (t : Int) : Int × Sg :=
  if 0 < nTf σ t then (0, nThr σ (nTf σ t)) else (npN (nRu (nThr σ (nTf σ t))) t, itr (npN (nRu (nThr σ (nTf σ t))) t).toNat (npS t) (nRu (nThr σ (nTf σ t))))
def nImV (i : Int) : Int := if wth i 0 2 = 0 then 1 else 0
def nImS (i : Int) (k : Nat) (x : Sg) : Sg := su x 227 (672 * i + ((k : Nat) : Int)).toNat (x 224 k)
def nIm (σ : Sg) (i : Int) (N : Nat) : Sg := if 0 < nImV i then nThr σ (nImV i) else itr N (nImS i) (su (nThr σ (nImV i)) 228 i.toNat 1)
def nReV (σ : Sg) (i : Int) : Int := if wth i 0 2 = 0 then 1 else if σ 228 i.toNat = 0 then 2 else 0
def nReS (i : Int) (k : Nat) (x : Sg) : Sg := su x 224 k (x 227 (672 * i + ((k : Nat) : Int)).toNat)
def nRe (σ : Sg) (i : Int) (N : Nat) : Sg := if 0 < nReV σ i then nThr σ (nReV σ i) else itr N (nReS i) (nThr σ (nReV σ i))
def nDrX (σ : Sg) : Sg := su σ 223 38 (wr (wr (1103515245 * σ 223 38) + 12345))
def nDr (σ : Sg) (n : Int) : Int := wr ((wushr (nDrX σ 223 38) 16).tmod n)
theorem ix672 {i : Int} (h : 0 ≤ i ∧ i ≤ 2) {k : Nat} (hk : k ≤ 672) : wr (wr (672 * i) + ((k : Nat) : Int)) = 672 * i + ((k : Nat) : Int) := by
  rw [wr_id (show okI (672 * i) by unfold okI; omega), wr_id (by unfold okI; omega)]
theorem nReV_0 {σ : Sg} {i : Int} (h : nReV σ i ≤ 0) : 0 ≤ i ∧ i ≤ 2 := by
  unfold nReV at h
  split at h
  · omega
  · next q => exact wth_1 q
theorem nImV_0 {i : Int} (h : nImV i ≤ 0) : 0 ≤ i ∧ i ≤ 2 := by
  unfold nImV at h
  split at h
  · omega
  · next q => exact wth_1 q
