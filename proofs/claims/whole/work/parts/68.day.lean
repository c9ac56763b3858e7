/-! The model: when, with whom, by what, days: what they keep -/
theorem wushr16 (x : Int) : 0 ≤ wushr x 16 ∧ wushr x 16 ≤ 65535 := by
  unfold wushr
  rw [show ((Int32.ofInt 16).toUInt32 &&& Int32.toUInt32 31) = 16 by decide]
  have h2 := UInt32.toNat_lt (Int32.ofInt x).toUInt32
  have h1 : ((Int32.ofInt x).toUInt32 >>> 16).toNat = (Int32.ofInt x).toUInt32.toNat / 65536 := by
    simp [UInt32.toNat_shiftRight, Nat.shiftRight_eq_div_pow]
  have h3 : ((Int32.ofInt x).toUInt32 >>> 16).toInt32.toInt = (((Int32.ofInt x).toUInt32 >>> 16).toNat : Int) := by
    show ((Int32.ofInt x).toUInt32 >>> 16).toBitVec.toInt = _
    rw [BitVec.toInt_eq_toNat_of_lt]
    · rfl
    · show 2 * ((Int32.ofInt x).toUInt32 >>> 16).toNat < 2 ^ 32
      omega
  rw [h3, h1]; omega
theorem nDr_rg (σ : Sg) {n : Int} (h : 1 ≤ n ∧ n ≤ 1000) : 0 ≤ nDr σ n ∧ nDr σ n < n := by
  unfold nDr
  have h1 := wushr16 (nDrX σ 223 38)
  have h2 := Int.tmod_nonneg n h1.1
  have h3 := Int.tmod_lt_of_pos (wushr (nDrX σ 223 38) 16) (show 0 < n by omega)
  rw [wr_id (by unfold okI; omega)]; omega
/-! when -/
def whV (σ : Sg) (s w : Int) : Int := if nIsS σ s = 0 then 1 else if wth w 0 1 ≠ 0 then 0 else 2
theorem whV_0 {σ : Sg} (hT : TW (σ 224)) {s w : Int} (h : whV σ s w ≤ 0) : 0 ≤ s ∧ s < σ 224 4 := by
  unfold whV at h
  split at h
  · omega
  · next q => exact (isS_1 hT).mp q
def whZ (s : Int) (m : Nat) (σ : Sg) : Sg := nRu (nSets σ s 2 ((m : Nat) : Int))
def whC (s : Int) (m : Nat) (x : Int × Int × Int × Sg) : Prop := x.2.2.1 ≠ -1 ∧ x.2.2.1 ≤ nWa (whZ s m x.2.2.2) s
def whS (s : Int) (m : Nat) (x : Int × Int × Int × Sg) : Int × Int × Int × Sg :=
  (if nLa (whZ s m x.2.2.2) s = 0 then ((m : Nat) : Int) else x.1,
   if x.2.2.1 ≠ -1 ∧ x.2.2.1 ≤ nWa (whZ s m x.2.2.2) s then x.2.1 else ((m : Nat) : Int),
   if x.2.2.1 ≠ -1 ∧ x.2.2.1 ≤ nWa (whZ s m x.2.2.2) s then x.2.2.1 else nWa (whZ s m x.2.2.2) s,
   whZ s m x.2.2.2)
def whL (σ : Sg) (s : Int) (n : Nat) : Int × Int × Int × Sg := itr n (whS s) (-1, 0, -1, σ)
theorem whL_s (σ : Sg) (s : Int) (n : Nat) : whL σ s (n + 1) = whS s n (whL σ s n) := rfl
theorem whZ_kp {σ : Sg} (hT : TW (σ 224)) {s : Int} (hs : 0 ≤ s ∧ s < σ 224 4) {m : Nat} (hm : m ≤ 600) : TW (whZ s m σ 224) ∧ whZ s m σ 224 4 = σ 224 4 := by
  have h := TW_sets hT (w := 2) (v := ((m : Nat) : Int)) hs.1 hs.2 (by omega)
  exact ⟨TW_ru h.1, by rw [whZ, nRu_224 h.1, h.2]⟩
theorem whL_kp {σ : Sg} (hT : TW (σ 224)) {s : Int} (hs : 0 ≤ s ∧ s < σ 224 4) : ∀ n : Nat, n ≤ 601 → TW ((whL σ s n).2.2.2 224) ∧ (whL σ s n).2.2.2 224 4 = σ 224 4 := by
  intro n
  induction n with
  | zero => intro _; exact ⟨hT, rfl⟩
  | succ n ih =>
    intro hn
    obtain ⟨h1, h2⟩ := ih (by omega)
    have h3 := whZ_kp h1 (s := s) (by omega) (m := n) (by omega)
    exact ⟨h3.1, h3.2.trans h2⟩
def nWhnA (x : Sg) (s w : Int) (N : Nat) : Int × Sg := (if w = 0 then (whL x s N).1 else (whL x s N).2.1, nSets (whL x s N).2.2.2 s 2 (nOf x s 2))
def nWhn (σ : Sg) (s w : Int) (N : Nat) : Int × Sg := if 0 < whV σ s w then (0, nThr σ (whV σ s w)) else nWhnA (nThr σ (whV σ s w)) s w N
/-! heaviest -/
def hvV (σ : Sg) (s : Int) : Int := if nIsS σ s = 0 then 1 else 0
theorem hvV_0 {σ : Sg} (hT : TW (σ 224)) {s : Int} (h : hvV σ s ≤ 0) : 0 ≤ s ∧ s < σ 224 4 := by
  unfold hvV at h
  split at h
  · omega
  · next q => exact (isS_1 hT).mp q
def hvZ (s : Int) (i : Nat) (σ : Sg) : Sg := nRu (nWy (nSets σ s 0 (((i : Nat) : Int) + 1)) s)
def hvS (s : Int) (i : Nat) (x : Int × Sg) : Int × Sg := (if nLa (hvZ s i x.2) s = 0 then ((i : Nat) : Int) + 1 else x.1, hvZ s i x.2)
def hvL (σ : Sg) (s : Int) (n : Nat) : Int × Sg := itr n (hvS s) (-1, σ)
theorem hvL_s (σ : Sg) (s : Int) (n : Nat) : hvL σ s (n + 1) = hvS s n (hvL σ s n) := rfl
theorem hvY_kp {σ : Sg} (hT : TW (σ 224)) {s : Int} (hs : 0 ≤ s ∧ s < σ 224 4) {i : Nat} (hi : i < 99) : TW (nWy (nSets σ s 0 (((i : Nat) : Int) + 1)) s 224) ∧ nWy (nSets σ s 0 (((i : Nat) : Int) + 1)) s 224 4 = σ 224 4 := by
  have h := TW_sets hT (w := 0) (v := ((i : Nat) : Int) + 1) hs.1 hs.2 (by omega)
  have h2 := TW_wy h.1 (s := s) hs.1 (by omega)
  exact ⟨h2.1, h2.2.trans h.2⟩
theorem hvL_kp {σ : Sg} (hT : TW (σ 224)) {s : Int} (hs : 0 ≤ s ∧ s < σ 224 4) : ∀ n : Nat, n ≤ 99 → TW ((hvL σ s n).2 224) ∧ (hvL σ s n).2 224 4 = σ 224 4 := by
  intro n
  induction n with
  | zero => intro _; exact ⟨hT, rfl⟩
  | succ n ih =>
    intro hn
    obtain ⟨h1, h2⟩ := ih (by omega)
    have h3 := hvY_kp h1 (s := s) (by omega) (i := n) (by omega)
    refine ⟨TW_ru h3.1, ?_⟩
    show nRu (nWy (nSets (hvL σ s n).2 s 0 (((n : Nat) : Int) + 1)) s) 224 4 = _
    rw [nRu_224 h3.1, h3.2, h2]
def nHvA (x : Sg) (s : Int) (N : Nat) : Int × Sg := ((hvL (nCp x 224 226) s N).1, nCp (hvL (nCp x 224 226) s N).2 226 224)
def nHv (σ : Sg) (s : Int) (N : Nat) : Int × Sg := if 0 < hvV σ s then (0, nThr σ (hvV σ s)) else nHvA (nThr σ (hvV σ s)) s N
/-! lend -/
def ld1 (x : Sg) : Sg := nCp (nRu x) 224 226
def ld3 (x : Sg) (s n : Int) : Sg := nSets (ld1 x) s 0 (nOf x s 0 - n)
def ld4 (x : Sg) (s t n : Int) : Sg := nSets (ld3 x s n) t 0 (nOf x t 0 + n)
def ld6 (x : Sg) (s t n : Int) : Sg := nWy (nWy (ld4 x s t n) s) t
def nLdA (x : Sg) (s t n : Int) : Int × Sg := (wr (nCo (nRu (ld6 x s t n)) - nCo (nRu x)), nCp (nRu (ld6 x s t n)) 226 224)
def nLd (σ : Sg) (s t n : Int) : Int × Sg :=
  if nIsS (nT0 σ) s = 0 ∨ nIsS (nT0 σ) t = 0 then (0, nThr (nT0 σ) 1)
  else if 1 < nOf (nT0 σ) s 6 ∨ 1 < nOf (nT0 σ) t 6 then (0, nThr (nT0 σ) 2)
  else if s = t ∨ n < 1 ∨ nOf (nT0 σ) s 0 ≤ n ∨ 99 < nOf (nT0 σ) t 0 + n then (0, nThr (nT0 σ) 3)
  else nLdA (nT0 σ) s t n
theorem ld1_224 {x : Sg} (hT : TW (x 224)) : ld1 x 224 = x 224 := by rw [ld1, nCp_ne _ (by decide) (by decide), nRu_224 hT]
theorem ld_kp {x : Sg} (hT : TW (x 224)) {s t n : Int} (hs : 0 ≤ s ∧ s < x 224 4) (ht : 0 ≤ t ∧ t < x 224 4) (hst : s ≠ t) (hn : 1 ≤ n ∧ n < nOf x s 0 ∧ nOf x t 0 + n ≤ 99) : (TW (ld3 x s n 224) ∧ ld3 x s n 224 4 = x 224 4) ∧ (TW (ld4 x s t n 224) ∧ ld4 x s t n 224 4 = x 224 4) ∧ (TW (nWy (ld4 x s t n) s 224) ∧ nWy (ld4 x s t n) s 224 4 = x 224 4) ∧ (TW (ld6 x s t n 224) ∧ ld6 x s t n 224 4 = x 224 4) ∧ nOf (ld3 x s n) t 0 = nOf x t 0 := by
  have e1 := ld1_224 hT
  have hT1 : TW (ld1 x 224) := by rw [e1]; exact hT
  have h1 := hT.of hs.1 hs.2
  have h2 := hT.of ht.1 ht.2
  have a3 := TW_sets hT1 (s := s) (w := 0) (v := nOf x s 0 - n) hs.1 (by rw [e1]; exact hs.2) (by omega)
  have a3b : ld3 x s n 224 4 = x 224 4 := a3.2.trans (by rw [e1])
  have a4 := TW_sets (σ := ld3 x s n) a3.1 (s := t) (w := 0) (v := nOf x t 0 + n) ht.1 (by rw [a3b]; exact ht.2) (by omega)
  have a4b : ld4 x s t n 224 4 = x 224 4 := a4.2.trans a3b
  have a5 := TW_wy (σ := ld4 x s t n) a4.1 (s := s) hs.1 (by rw [a4b]; exact hs.2)
  have a5b := a5.2.trans a4b
  have a6 := TW_wy a5.1 (s := t) ht.1 (by rw [a5b]; exact ht.2)
  refine ⟨⟨a3.1, a3b⟩, ⟨a4.1, a4b⟩, ⟨a5.1, a5b⟩, ⟨a6.1, a6.2.trans a5b⟩, ?_⟩
  rw [nOf, ld3, nSets, su_ne _ _ (Or.inr (by omega)), e1]; rfl
/-! by one key -/
def cb2 (x : Sg) (key : Int) : Sg := su (su (nCp x 224 226) 224 8 1) 224 9 key
def cbV (x : Sg) (key : Int) : Int := nCo (nRu (cb2 x key))
def cbY (x : Sg) (key : Int) : Sg := nCp (nRu (cb2 x key)) 226 224
theorem TW_key {x : Sg} (hT : TW (x 224)) (key : Int) : TW (cb2 x key 224) := by
  have hS := hT.sacks
  have e : ∀ j : Nat, j ≠ 8 → j ≠ 9 → cb2 x key 224 j = x 224 j := fun j h8 h9 => by
    rw [cb2, su_ne _ _ (Or.inr h9), su_ne _ _ (Or.inr h8), nCp_ne _ (by decide) (by decide)]
  have e8 : cb2 x key 224 8 = 1 := by rw [cb2, su_ne _ _ (Or.inr (by decide)), su_same]
  have hp : ∀ n : Nat, tPre (cb2 x key 224) n = tPre (x 224) n := by
    intro n
    induction n with
    | zero => rfl
    | succ n ih =>
      have e3 : ∀ t, tPre t (n + 1) = tPre t n + tM t n := fun t => rfl
      rw [e3, e3, ih]
      show _ + cb2 x key 224 (20 + 7 * n + 6) = _ + x 224 (20 + 7 * n + 6)
      rw [e _ (by omega) (by omega)]
  have hst := hT.stones
  refine ⟨?_, ?_, ?_, ?_, ?_, ?_, ?_, ?_, ⟨?_, ?_⟩, ?_⟩
  · rw [e _ (by omega) (by omega)]; exact hT.stones
  · rw [e _ (by omega) (by omega)]; exact hT.clean
  · rw [e _ (by omega) (by omega)]; exact hT.fee
  · rw [e _ (by omega) (by omega)]; exact hT.sacks
  · rw [e8]; omega
  · rw [e _ (by omega) (by omega)]; exact hT.small
  · intro k hk; rw [e _ (by omega) (by omega)] at hk; rw [e _ (by omega) (by omega)]; exact hT.pace k hk
  · intro k hk
    rw [e _ (by omega) (by omega)] at hk
    have h5 := hT.sk k hk
    unfold TSk at h5 ⊢
    rw [e _ (by omega) (by omega), e _ (by omega) (by omega), e _ (by omega) (by omega), e _ (by omega) (by omega), e _ (by omega) (by omega), e _ (by omega) (by omega), e _ (by omega) (by omega)]
    exact h5
  · rw [e _ (by omega) (by omega), e _ (by omega) (by omega), hp]; exact hT.sum
  · rw [e _ (by omega) (by omega)]; exact hT.p60
  · intro p hpp; rw [e _ (by omega) (by omega)] at hpp; rw [e _ (by omega) (by omega)]; exact hT.pound p hpp
theorem cbY_6 {x : Sg} (key : Int) : Eq6 (x 224) (cbY x key 224) := by
  intro j hj
  rw [cbY, nCp_lo _ (by decide) hj, nRu_ne _ (by omega), cb2, su_ne _ _ (Or.inl (by decide)), su_ne _ _ (Or.inl (by decide)), nCp_lo _ (by decide) hj]
theorem TW_cb {x : Sg} (hT : TW (x 224)) (key : Int) : TW (cbY x key 224) := TW_cg (cbY_6 key) hT
theorem cbY_ne (x : Sg) (key : Int) {a : Nat} (h : a < 223 ∨ 239 < a) : cbY x key a = x a := by
  rw [cbY, nCp_ne _ (by decide) (by omega), nRu_ne _ (by omega)]
  funext j
  rw [cb2, su_ne _ _ (Or.inl (by omega)), su_ne _ _ (Or.inl (by omega)), nCp_ne _ (by decide) (by omega)]
def byV (key : Int) : Int := if wth key 0 7 = 0 then 1 else 0
def nByO (σ : Sg) (key : Int) : Int × Sg := if 0 < byV key then (0, nThr σ (byV key)) else (cbV (nThr σ (byV key)) key, cbY (nThr σ (byV key)) key)
def blY (i : Nat) (x : Int × Sg) : Sg := cbY (cbY x.2 (((i : Nat) : Int) + 1)) x.1
def blS (i : Nat) (x : Int × Sg) : Int × Sg := (if cbV x.2 (((i : Nat) : Int) + 1) < cbV (cbY x.2 (((i : Nat) : Int) + 1)) x.1 then ((i : Nat) : Int) + 1 else x.1, blY i x)
def blL (σ : Sg) (n : Nat) : Int × Sg := itr n blS (0, σ)
theorem blL_s (σ : Sg) (n : Nat) : blL σ (n + 1) = blS n (blL σ n) := rfl
theorem TW_bl {σ : Sg} (hT : TW (σ 224)) : ∀ n, TW ((blL σ n).2 224) := by
  intro n
  induction n with
  | zero => exact hT
  | succ n ih => exact TW_cb (TW_cb ih _) _
def fiS (t : Int) (key : Nat) (x : Int × Sg) : Int × Sg := (wor x.1 (if nUn (cbY x.2 ((key : Nat) : Int)) t = -1 then wshl 1 ((key : Nat) : Int) else 0), cbY x.2 ((key : Nat) : Int))
def fiL (σ : Sg) (t : Int) (n : Nat) : Int × Sg := itr n (fiS t) (0, σ)
theorem fiL_s (σ : Sg) (t : Int) (n : Nat) : fiL σ t (n + 1) = fiS t n (fiL σ t n) := rfl
theorem fiL_kp {σ : Sg} (hT : TW (σ 224)) (hTr : TrW σ) (t : Int) : ∀ n, TW ((fiL σ t n).2 224) ∧ TrW (fiL σ t n).2 := by
  intro n
  induction n with
  | zero => exact ⟨hT, hTr⟩
  | succ n ih =>
    refine ⟨TW_cb ih.1 _, fun i hi => ?_⟩
    rw [show (fiL σ t (n + 1)).2 = cbY (fiL σ t n).2 ((n : Nat) : Int) from rfl, cbY_ne _ _ (show (245 : Nat) < 223 ∨ 239 < 245 by decide), cbY_ne _ _ (show (246 : Nat) < 223 ∨ 239 < 246 by decide)]
    exact ih.2 i hi
def nFi (σ : Sg) (t : Int) : Int × Sg := if 0 < nTf σ t then (0, nThr σ (nTf σ t)) else fiL (nThr σ (nTf σ t)) t 8
/-! days -/
def dyA (n minute pounds : Int) (x : Sg) : Sg := nSets (nSets (nSets (nSets (nSets (nSets (nSets (su x 224 4 (wr (x 224 4 + 1))) n 0 pounds) n 1 7) n 2 minute) n 3 0) n 4 1) n 5 (-1)) n 6 1
def dyB (n minute pounds : Int) (x : Sg) : Sg := su (dyA n minute pounds x) 224 (608 + dyA n minute pounds x 224 668).toNat pounds
def dyC (n minute pounds : Int) (x : Sg) : Sg := su (dyB n minute pounds x) 224 668 (wr (dyB n minute pounds x 224 668 + 1))
theorem dyA_at {x : Sg} {n : Nat} (hn : n < 60) (h4 : x 224 4 = ((n : Nat) : Int)) (minute pounds : Int) (j : Nat) : dyA ((n : Nat) : Int) minute pounds x 224 j = if j = 4 then ((n : Nat) : Int) + 1 else if j = 20 + 7 * n + 0 then pounds else if j = 20 + 7 * n + 1 then 7 else if j = 20 + 7 * n + 2 then minute else if j = 20 + 7 * n + 3 then 0 else if j = 20 + 7 * n + 4 then 1 else if j = 20 + 7 * n + 5 then -1 else if j = 20 + 7 * n + 6 then 1 else x 224 j := by
  unfold dyA nSets
  rw [h4, wr_id (by unfold okI; omega), show (20 + 7 * ((n : Nat) : Int) + 0).toNat = 20 + 7 * n + 0 by omega, show (20 + 7 * ((n : Nat) : Int) + 1).toNat = 20 + 7 * n + 1 by omega, show (20 + 7 * ((n : Nat) : Int) + 2).toNat = 20 + 7 * n + 2 by omega, show (20 + 7 * ((n : Nat) : Int) + 3).toNat = 20 + 7 * n + 3 by omega, show (20 + 7 * ((n : Nat) : Int) + 4).toNat = 20 + 7 * n + 4 by omega, show (20 + 7 * ((n : Nat) : Int) + 5).toNat = 20 + 7 * n + 5 by omega, show (20 + 7 * ((n : Nat) : Int) + 6).toNat = 20 + 7 * n + 6 by omega]
  have r : ∀ (x : Sg) (k : Nat) (v : Int), su x 224 k v 224 j = if j = k then v else x 224 j := fun x k v => by
    by_cases q : j = k
    · subst q; rw [su_same, if_pos rfl]
    · rw [su_ne _ _ (Or.inr q), if_neg q]
  rw [r, r, r, r, r, r, r, r]
  by_cases q0 : j = 4
  · (repeat first | rw [if_pos (by omega)] | rw [if_neg (by omega)])
  by_cases q1 : j = 20 + 7 * n + 0
  · (repeat first | rw [if_pos (by omega)] | rw [if_neg (by omega)])
  by_cases q2 : j = 20 + 7 * n + 1
  · (repeat first | rw [if_pos (by omega)] | rw [if_neg (by omega)])
  by_cases q3 : j = 20 + 7 * n + 2
  · (repeat first | rw [if_pos (by omega)] | rw [if_neg (by omega)])
  by_cases q4 : j = 20 + 7 * n + 3
  · (repeat first | rw [if_pos (by omega)] | rw [if_neg (by omega)])
  by_cases q5 : j = 20 + 7 * n + 4
  · (repeat first | rw [if_pos (by omega)] | rw [if_neg (by omega)])
  by_cases q6 : j = 20 + 7 * n + 5
  · (repeat first | rw [if_pos (by omega)] | rw [if_neg (by omega)])
  by_cases q7 : j = 20 + 7 * n + 6
  · (repeat first | rw [if_pos (by omega)] | rw [if_neg (by omega)])
  (repeat first | rw [if_pos (by omega)] | rw [if_neg (by omega)])
theorem dyC_at {x : Sg} {n p : Nat} (hn : n < 60) (hp : p < 60) (h4 : x 224 4 = ((n : Nat) : Int)) (h6 : x 224 668 = ((p : Nat) : Int)) (minute pounds : Int) (j : Nat) : dyC ((n : Nat) : Int) minute pounds x 224 j = if j = 668 then ((p : Nat) : Int) + 1 else if j = 608 + p then pounds else if j = 4 then ((n : Nat) : Int) + 1 else if j = 20 + 7 * n + 0 then pounds else if j = 20 + 7 * n + 1 then 7 else if j = 20 + 7 * n + 2 then minute else if j = 20 + 7 * n + 3 then 0 else if j = 20 + 7 * n + 4 then 1 else if j = 20 + 7 * n + 5 then -1 else if j = 20 + 7 * n + 6 then 1 else x 224 j := by
  have e6 : dyA ((n : Nat) : Int) minute pounds x 224 668 = ((p : Nat) : Int) := by
    rw [dyA_at hn h4]
    (repeat rw [if_neg (by omega)])
    exact h6
  have e7 : dyB ((n : Nat) : Int) minute pounds x 224 668 = ((p : Nat) : Int) := by
    rw [dyB, e6, su_ne _ _ (Or.inr (by omega)), e6]
  rw [dyC, e7, wr_id (by unfold okI; omega)]
  by_cases q : j = 668
  · subst q; rw [su_same, if_pos rfl]
  · rw [su_ne _ _ (Or.inr q), if_neg q, dyB, e6]
    by_cases q2 : j = 608 + p
    · rw [if_pos q2, show (608 + ((p : Nat) : Int)).toNat = j by omega, su_same]
    · rw [if_neg q2, su_ne _ _ (Or.inr (by omega)), dyA_at hn h4]
theorem dyC_ne (n minute pounds : Int) (x : Sg) {a : Nat} (h : a ≠ 224) : dyC n minute pounds x a = x a := by
  funext j
  unfold dyC dyB dyA nSets
  rw [su_ne _ _ (Or.inl h), su_ne _ _ (Or.inl h), su_ne _ _ (Or.inl h), su_ne _ _ (Or.inl h), su_ne _ _ (Or.inl h), su_ne _ _ (Or.inl h), su_ne _ _ (Or.inl h), su_ne _ _ (Or.inl h), su_ne _ _ (Or.inl h), su_ne _ _ (Or.inl h)]
theorem TW_dyC {x : Sg} (hT : TW (x 224)) (hp : x 224 668 < 60) {minute pounds : Int} (hm : 0 ≤ minute ∧ minute ≤ 600) (hw : 1 ≤ pounds ∧ pounds ≤ 99) : TW (dyC (x 224 4) minute pounds x 224) ∧ dyC (x 224 4) minute pounds x 224 4 = x 224 4 + 1 := by
  have hS := hT.sacks
  have hP0 := hT.p0
  have hpn := hT.p_nn
  have hst := hT.stones
  obtain ⟨n, hn⟩ : ∃ n : Nat, x 224 4 = ((n : Nat) : Int) := ⟨(x 224 4).toNat, by omega⟩
  obtain ⟨p, hpp⟩ : ∃ p : Nat, x 224 668 = ((p : Nat) : Int) := ⟨(x 224 668).toNat, by omega⟩
  rw [hn]
  have e := dyC_at (x := x) (n := n) (p := p) (by omega) (by omega) hn hpp minute pounds
  generalize dyC ((n : Nat) : Int) minute pounds x = y at e
  have lo : ∀ {j : Nat}, (j < 20 ∧ j ≠ 4) → y 224 j = x 224 j := fun {j} hj => by
    rw [e]; (repeat rw [if_neg (by omega)])
  have e4 : y 224 4 = ((n : Nat) : Int) + 1 := by rw [e, if_neg (by omega), if_neg (by omega), if_pos rfl]
  have e6 : y 224 668 = ((p : Nat) : Int) + 1 := by rw [e, if_pos rfl]
  have sk : ∀ k : Nat, k < n → ∀ w : Nat, w < 7 → y 224 (20 + 7 * k + w) = x 224 (20 + 7 * k + w) := fun k hk w hw => by
    rw [e]; (repeat rw [if_neg (by omega)])
  have hpre : ∀ k : Nat, k ≤ n → tPre (y 224) k = tPre (x 224) k := by
    intro k
    induction k with
    | zero => intro _; rfl
    | succ k ih =>
      intro hk
      have e3 : ∀ t, tPre t (k + 1) = tPre t k + tM t k := fun t => rfl
      rw [e3, e3, ih (by omega)]
      show _ + y 224 (20 + 7 * k + 6) = _ + x 224 (20 + 7 * k + 6)
      rw [sk k (by omega) 6 (by omega)]
  refine ⟨⟨?_, ?_, ?_, ?_, ?_, ?_, ?_, ?_, ⟨?_, ?_⟩, ?_⟩, by rw [e4]⟩
  · rw [lo (by omega)]; exact hT.stones
  · rw [lo (by omega)]; exact hT.clean
  · rw [lo (by omega)]; exact hT.fee
  · rw [e4]; omega
  · rw [lo (by omega)]; exact hT.keys
  · rw [lo (by omega)]; exact hT.small
  · intro k hk; rw [lo (by omega)] at hk; rw [lo (by omega)]; exact hT.pace k hk
  · intro k hk
    rw [e4] at hk
    by_cases q : k = n
    · subst q
      have v0 : y 224 (20 + 7 * k + 0) = pounds := by rw [e]; (repeat first | rw [if_pos (by omega)] | rw [if_neg (by omega)])
      have v1 : y 224 (20 + 7 * k + 1) = 7 := by rw [e]; (repeat first | rw [if_pos (by omega)] | rw [if_neg (by omega)])
      have v2 : y 224 (20 + 7 * k + 2) = minute := by rw [e]; (repeat first | rw [if_pos (by omega)] | rw [if_neg (by omega)])
      have v3 : y 224 (20 + 7 * k + 3) = 0 := by rw [e]; (repeat first | rw [if_pos (by omega)] | rw [if_neg (by omega)])
      have v4 : y 224 (20 + 7 * k + 4) = 1 := by rw [e]; (repeat first | rw [if_pos (by omega)] | rw [if_neg (by omega)])
      have v5 : y 224 (20 + 7 * k + 5) = -1 := by rw [e]; (repeat first | rw [if_pos (by omega)] | rw [if_neg (by omega)])
      have v6 : y 224 (20 + 7 * k + 6) = 1 := by rw [e]; (repeat first | rw [if_pos (by omega)] | rw [if_neg (by omega)])
      unfold TSk
      rw [v0, v1, v2, v3, v4, v5, v6]
      omega
    · have h5 := hT.sk k (by omega)
      unfold TSk at h5 ⊢
      rw [sk k (by omega) 0 (by omega), sk k (by omega) 1 (by omega), sk k (by omega) 2 (by omega), sk k (by omega) 3 (by omega), sk k (by omega) 4 (by omega), sk k (by omega) 5 (by omega), sk k (by omega) 6 (by omega)]
      exact h5
  · rw [e6, e4, show (((n : Nat) : Int) + 1).toNat = n + 1 by omega]
    have e3 : tPre (y 224) (n + 1) = tPre (y 224) n + tM (y 224) n := rfl
    have e8 : tM (y 224) n = 1 := by
      show y 224 (20 + 7 * n + 6) = 1
      rw [e]; (repeat rw [if_neg (by omega)]); rw [if_pos rfl]
    have h9 := hT.sum
    rw [hn, show (((n : Nat) : Int)).toNat = n from rfl] at h9
    rw [e3, e8, hpre n (Nat.le_refl _), ← h9, hpp]
  · rw [e6]; omega
  · intro i hi
    rw [e6] at hi
    rw [e]
    by_cases q : i = p
    · rw [if_neg (by omega), if_pos (by omega)]; exact hw
    · (repeat rw [if_neg (by omega)])
      exact hT.pound i (by omega)
def dyP (g : Int) (x : Sg) : Int := wr (nDr (nDrX x) g + 1)
def dyS (come g : Int) (minute : Nat) (x : Sg) : Sg := if come ≤ nDr x 100 ∨ 60 ≤ nDrX x 224 668 then nDrX x else dyC (x 224 4) ((minute : Nat) : Int) (dyP g x) (nDrX (nDrX x))
def dyL (σ : Sg) (come g : Int) (n : Nat) : Sg := itr n (dyS come g) σ
theorem dyL_s (σ : Sg) (come g : Int) (n : Nat) : dyL σ come g (n + 1) = dyS come g n (dyL σ come g n) := rfl
theorem nDrX_224 (x : Sg) : nDrX x 224 = x 224 := rfl
theorem dyL_kp {σ : Sg} (hT : TW (σ 224)) (come : Int) {g : Int} (hg : 1 ≤ g ∧ g ≤ 99) : ∀ n : Nat, n ≤ 300 → TW (dyL σ come g n 224) ∧ σ 224 4 ≤ dyL σ come g n 224 4 := by
  intro n
  induction n with
  | zero => intro _; exact ⟨hT, Int.le_refl _⟩
  | succ n ih =>
    intro hn
    obtain ⟨h1, h2⟩ := ih (by omega)
    rw [dyL_s, dyS]; split
    · exact ⟨h1, h2⟩
    · next q =>
      have hd := nDr_rg (nDrX (dyL σ come g n)) (n := g) (by omega)
      have hp : dyP g (dyL σ come g n) = nDr (nDrX (dyL σ come g n)) g + 1 := by unfold dyP; exact wr_id (by unfold okI; omega)
      have h3 := TW_dyC (x := nDrX (nDrX (dyL σ come g n))) h1 (by show dyL σ come g n 224 668 < 60; have : ¬ 60 ≤ dyL σ come g n 224 668 := fun e => q (Or.inr e); omega) (minute := ((n : Nat) : Int)) (pounds := dyP g (dyL σ come g n)) (by omega) (by omega)
      refine ⟨h3.1, ?_⟩
      have h4 : dyC (dyL σ come g n 224 4) ((n : Nat) : Int) (dyP g (dyL σ come g n)) (nDrX (nDrX (dyL σ come g n))) 224 4 = dyL σ come g n 224 4 + 1 := h3.2
      rw [h4]; omega
theorem dyL_ne (σ : Sg) (come g : Int) (n : Nat) {a : Nat} (h : a ≠ 223 ∧ a ≠ 224) : dyL σ come g n a = σ a := by
  induction n with
  | zero => rfl
  | succ n ih =>
    rw [dyL_s, dyS]; split
    · funext j; rw [nDrX, su_ne _ _ (Or.inl h.1), ih]
    · rw [dyC_ne _ _ _ _ h.2]
      funext j; rw [nDrX, su_ne _ _ (Or.inl h.1), nDrX, su_ne _ _ (Or.inl h.1), ih]
def dy0 (σ : Sg) (seed : Int) : Sg := su (nCp σ 224 226) 223 38 seed
def dyR (σ : Sg) (seed come g : Int) (N : Nat) : Sg := nRu (dyL (dy0 σ seed) come g N)
def dyV (σ : Sg) (s seed come g : Int) (N : Nat) : Int := nWa (dyR σ seed come g N) s
def dyY (σ : Sg) (seed come g : Int) (N : Nat) : Sg := nCp (dyR σ seed come g N) 226 224
theorem dy0_224 (σ : Sg) (seed : Int) : dy0 σ seed 224 = σ 224 := by
  funext j
  rw [dy0, su_ne _ _ (Or.inl (by decide)), nCp_ne _ (by decide) (by decide)]
theorem dyY_6 (σ : Sg) (seed come g : Int) (N : Nat) : Eq6 (σ 224) (dyY σ seed come g N 224) := by
  intro j hj
  rw [dyY, nCp_lo _ (by decide) hj, dyR, nRu_ne _ (by omega), dyL_ne _ _ _ _ (by decide), dy0, su_ne _ _ (Or.inl (by decide)), nCp_lo _ (by decide) hj]
def dvV (σ : Sg) (s come g : Int) : Int := if nIsS σ s = 0 then 1 else if nIsD come g ≠ 0 then 0 else 2
theorem nIsD_1 {a b : Int} (h : nIsD a b ≠ 0) : (0 ≤ a ∧ a ≤ 100) ∧ 1 ≤ b ∧ b ≤ 99 := by
  unfold nIsD at h
  split at h
  · next q => exact ⟨wth_1 q.1, wth_1 q.2⟩
  · exact absurd rfl h
theorem dvV_0 {σ : Sg} (hT : TW (σ 224)) {s come g : Int} (h : dvV σ s come g ≤ 0) : (0 ≤ s ∧ s < σ 224 4) ∧ 1 ≤ g ∧ g ≤ 99 := by
  unfold dvV at h
  split at h
  · omega
  · next q =>
    split at h
    · next q2 => exact ⟨(isS_1 hT).mp q, (nIsD_1 q2).2⟩
    · omega
def nDy (σ : Sg) (s seed come g : Int) (N : Nat) : Int × Sg := if 0 < dvV σ s come g then (0, nThr σ (dvV σ s come g)) else (dyV (nThr σ (dvV σ s come g)) s seed come g N, dyY (nThr σ (dvV σ s come g)) seed come g N)
def dsV (σ : Sg) (s n come g w : Int) : Int := if nIsS σ s = 0 then 1 else if wth n 1 30 ≠ 0 ∧ nIsD come g ≠ 0 ∧ wth w 0 2 ≠ 0 then 0 else 2
theorem dsV_0 {σ : Sg} (hT : TW (σ 224)) {s n come g w : Int} (h : dsV σ s n come g w ≤ 0) : (0 ≤ s ∧ s < σ 224 4) ∧ (1 ≤ g ∧ g ≤ 99) ∧ (1 ≤ n ∧ n ≤ 30) := by
  unfold dsV at h
  split at h
  · omega
  · next q =>
    split at h
    · next q2 => exact ⟨(isS_1 hT).mp q, (nIsD_1 q2.2.1).2, wth_1 q2.1⟩
    · omega
/-- days: the longest wait, its seed, all together -/
def dsS (s come g : Int) (N : Nat) (i : Nat) (x : Int × Int × Int × Sg) : Int × Int × Int × Sg :=
  (if dyV x.2.2.2 s (((i : Nat) : Int) + 1) come g N ≤ x.1 then x.1 else dyV x.2.2.2 s (((i : Nat) : Int) + 1) come g N,
   if dyV x.2.2.2 s (((i : Nat) : Int) + 1) come g N ≤ x.1 then x.2.1 else ((i : Nat) : Int) + 1,
   wr (x.2.2.1 + dyV x.2.2.2 s (((i : Nat) : Int) + 1) come g N), dyY x.2.2.2 (((i : Nat) : Int) + 1) come g N)
def dsL (σ : Sg) (s come g : Int) (N n : Nat) : Int × Int × Int × Sg := itr n (dsS s come g N) (-1, -1, 0, σ)
theorem dsL_s (σ : Sg) (s come g : Int) (N n : Nat) : dsL σ s come g N (n + 1) = dsS s come g N n (dsL σ s come g N n) := rfl
theorem dsL_6 (σ : Sg) (s come g : Int) (N : Nat) : ∀ n, Eq6 (σ 224) ((dsL σ s come g N n).2.2.2 224) := by
  intro n
  induction n with
  | zero => intro j _; rfl
  | succ n ih => intro j hj; exact (dyY_6 _ _ _ _ _ j hj).trans (ih j hj)
def nDsV (x : Int × Int × Int × Sg) (w : Int) : Int := if w = 0 then x.1 else if w = 1 then x.2.1 else x.2.2.1
def nDs (σ : Sg) (s n come g w : Int) (N : Nat) : Int × Sg := if 0 < dsV σ s n come g w then (0, nThr σ (dsV σ s n come g w)) else (nDsV (dsL (nThr σ (dsV σ s n come g w)) s come g N n.toNat) w, (dsL (nThr σ (dsV σ s n come g w)) s come g N n.toNat).2.2.2)
