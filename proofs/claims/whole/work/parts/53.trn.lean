/-! The model's run: its steps as functions, what they keep, that it ends -/
theorem itr_inv {α : Type} (P : Nat → α → Prop) (n : Nat) (f : Nat → α → α) (x : α) (h0 : P 0 x) (hs : ∀ k y, k < n → P k y → P (k + 1) (f k y)) : P n (itr n f x) := by
  have h : ∀ m, m ≤ n → P m (itr m f x) := by
    intro m
    induction m with
    | zero => intro _; exact h0
    | succ m ih => intro hm; rw [itr_s]; exact hs m _ (by omega) (ih (by omega))
  exact h n (Nat.le_refl _)
def fgA (σ : Sg) : Sg := su (su σ 223 27 0) 223 28 0
def fgB (σ : Sg) (k : Nat) : Sg := rFill (fgA σ) 238 k 0
def fgC (σ : Sg) (k : Nat) : Sg := rFill (rFill (fgB σ 8) 236 k 0) 237 k (-1)
def fgD (σ : Sg) (k : Nat) : Sg := fun a j => if a = 232 ∧ j < k then -1 else if a = 231 ∧ j < k then nSo σ ((j : Nat) : Int) else fgC σ 3 a j
def nFg (σ : Sg) : Sg := fgD σ (σ 224 668).toNat
theorem nFg_at (σ : Sg) (a j : Nat) : nFg σ a j = if a = 232 ∧ j < (σ 224 668).toNat then -1 else if a = 231 ∧ j < (σ 224 668).toNat then nSo σ ((j : Nat) : Int) else fgC σ 3 a j := rfl
theorem fgC_s (σ : Sg) (k : Nat) : su (su (fgC σ k) 236 k 0) 237 k (-1) = fgC σ (k + 1) := by
  funext a j
  simp only [fgC, rFill, su]
  (repeat' split) <;> first | rfl | (exfalso; omega)
theorem fgD_s (σ : Sg) (k : Nat) : su (su (fgD σ k) 232 k (-1)) 231 k (nSo σ ((k : Nat) : Int)) = fgD σ (k + 1) := by
  funext a j
  simp only [fgD, su]
  by_cases h3 : j = k
  · subst h3; (repeat' split) <;> first | rfl | (exfalso; omega)
  · (repeat' split) <;> first | rfl | (exfalso; omega)
theorem fgD_0 (σ : Sg) : fgD σ 0 = fgC σ 3 := by
  funext a j
  simp only [fgD]
  (repeat' split) <;> first | rfl | (exfalso; omega)
theorem fgC_0 (σ : Sg) : fgC σ 0 = fgB σ 8 := by unfold fgC; rw [rFill_0, rFill_0]
theorem fgB_0 (σ : Sg) : fgB σ 0 = fgA σ := by unfold fgB; rw [rFill_0]
theorem fgC_ne (σ : Sg) (k : Nat) {a : Nat} (h : a ≠ 223 ∧ a ≠ 236 ∧ a ≠ 237 ∧ a ≠ 238) (j : Nat) : fgC σ k a j = σ a j := by
  rw [fgC, rFill_ne h.2.2.1, rFill_ne h.2.1, fgB, rFill_ne h.2.2.2, fgA, su_ne _ _ (Or.inl h.1), su_ne _ _ (Or.inl h.1)]
theorem fgD_ne (σ : Sg) (k : Nat) {a : Nat} (h : a ≠ 223 ∧ a ≠ 236 ∧ a ≠ 237 ∧ a ≠ 238) (h2 : a ≠ 231 ∧ a ≠ 232) (j : Nat) : fgD σ k a j = σ a j := by
  simp only [fgD]; rw [if_neg (by omega), if_neg (by omega), fgC_ne σ 3 h]
theorem nFg_224 (σ : Sg) : nFg σ 224 = σ 224 := funext fun j => fgD_ne σ _ (by decide) (by decide) j
theorem fgD_224 (σ : Sg) (k : Nat) : fgD σ k 224 = σ 224 := funext fun j => fgD_ne σ _ (by decide) (by decide) j
theorem nSo_of {σ σ' : Sg} (h : σ' 224 = σ 224) (p : Int) : nSo σ' p = nSo σ p := by unfold nSo; rw [h]
theorem nOf_of {σ σ' : Sg} (h : σ' 224 = σ 224) (s w : Int) : nOf σ' s w = nOf σ s w := by unfold nOf; rw [h]
theorem nPo_of {σ σ' : Sg} (h : σ' 224 = σ 224) (p : Int) : nPo σ' p = nPo σ p := by unfold nPo; rw [h]
theorem nPa_of {σ σ' : Sg} (h : σ' 224 = σ 224) (p : Int) : nPa σ' p = nPa σ p := by unfold nPa; rw [h]
def vbC (σ : Sg) (p st : Int) : Int := if σ 237 st.toNat ≠ -1 ∧ σ 237 st.toNat ≠ nOf σ (σ 231 p.toNat) 3 then σ 224 2 else 0
def vbG (σ : Sg) (p st mi : Int) : Int := wr (mi + vbC σ p st)
def vbD (σ : Sg) (p st mi : Int) : Int := wr (vbG σ p st mi + wr (nPa σ st * nPo σ p))
def vb1 (σ : Sg) (p st : Int) : Sg := su σ 223 28 (wr (σ 223 28 + vbC σ p st))
def vb2 (σ : Sg) (p st : Int) : Sg := su (vb1 σ p st) 237 st.toNat (nOf σ (σ 231 p.toNat) 3)
def vb3 (σ : Sg) (p st mi : Int) : Sg := su (vb2 σ p st) 239 p.toNat mi
def vb4 (σ : Sg) (p st mi : Int) : Sg := su (vb3 σ p st mi) 232 p.toNat (vbG σ p st mi)
def vb5 (σ : Sg) (p st mi : Int) : Sg := su (vb4 σ p st mi) 233 p.toNat (vbD σ p st mi)
def vb6 (σ : Sg) (p st mi : Int) : Sg := su (vb5 σ p st mi) 234 p.toNat st
def vb7 (σ : Sg) (p st mi : Int) : Sg := su (vb6 σ p st mi) 236 st.toNat (vbD σ p st mi)
def vb8 (σ : Sg) (p st mi : Int) : Sg := su (vb7 σ p st mi) 238 (nOf σ (σ 231 p.toNat) 1).toNat (wr (σ 238 (nOf σ (σ 231 p.toNat) 1).toNat + 1))
def vb9 (σ : Sg) (p st mi : Int) : Sg := su (vb8 σ p st mi) 235 (σ 223 27).toNat p
def nBg (σ : Sg) (p st mi : Int) : Sg := su (vb9 σ p st mi) 223 27 (wr (σ 223 27 + 1))
section NBG
variable (σ : Sg) (p st mi : Int)
theorem nBg_224 : nBg σ p st mi 224 = σ 224 := rfl
theorem nBg_231 : nBg σ p st mi 231 = σ 231 := rfl
theorem nBg_27 : nBg σ p st mi 223 27 = wr (σ 223 27 + 1) := rfl
theorem nBg_28 : nBg σ p st mi 223 28 = wr (σ 223 28 + vbC σ p st) := rfl
theorem nBg_232 : nBg σ p st mi 232 = fun j => if j = p.toNat then vbG σ p st mi else σ 232 j := by
  funext j; simp [nBg, vb9, vb8, vb7, vb6, vb5, vb4, vb3, vb2, vb1, su]
theorem nBg_233 : nBg σ p st mi 233 = fun j => if j = p.toNat then vbD σ p st mi else σ 233 j := by
  funext j; simp [nBg, vb9, vb8, vb7, vb6, vb5, vb4, vb3, vb2, vb1, su]
theorem nBg_234 : nBg σ p st mi 234 = fun j => if j = p.toNat then st else σ 234 j := by
  funext j; simp [nBg, vb9, vb8, vb7, vb6, vb5, vb4, vb3, vb2, vb1, su]
theorem nBg_235 : nBg σ p st mi 235 = fun j => if j = (σ 223 27).toNat then p else σ 235 j := by
  funext j; simp [nBg, vb9, vb8, vb7, vb6, vb5, vb4, vb3, vb2, vb1, su]
theorem nBg_236 : nBg σ p st mi 236 = fun j => if j = st.toNat then vbD σ p st mi else σ 236 j := by
  funext j; simp [nBg, vb9, vb8, vb7, vb6, vb5, vb4, vb3, vb2, vb1, su]
theorem nBg_237 : nBg σ p st mi 237 = fun j => if j = st.toNat then nOf σ (σ 231 p.toNat) 3 else σ 237 j := by
  funext j; simp [nBg, vb9, vb8, vb7, vb6, vb5, vb4, vb3, vb2, vb1, su]
theorem nBg_238 : nBg σ p st mi 238 = fun j => if j = (nOf σ (σ 231 p.toNat) 1).toNat then wr (σ 238 (nOf σ (σ 231 p.toNat) 1).toNat + 1) else σ 238 j := by
  funext j; simp [nBg, vb9, vb8, vb7, vb6, vb5, vb4, vb3, vb2, vb1, su]
theorem nBg_239 : nBg σ p st mi 239 = fun j => if j = p.toNat then mi else σ 239 j := by
  funext j; simp [nBg, vb9, vb8, vb7, vb6, vb5, vb4, vb3, vb2, vb1, su]
theorem nBg_ne {a : Nat} (h : a < 223 ∨ 239 < a ∨ (223 < a ∧ a < 232)) (j : Nat) : nBg σ p st mi a j = σ a j := by
  rw [nBg, su_ne _ _ (Or.inl (by omega)), vb9, su_ne _ _ (Or.inl (by omega)), vb8, su_ne _ _ (Or.inl (by omega)), vb7, su_ne _ _ (Or.inl (by omega)), vb6, su_ne _ _ (Or.inl (by omega)), vb5, su_ne _ _ (Or.inl (by omega)), vb4, su_ne _ _ (Or.inl (by omega)), vb3, su_ne _ _ (Or.inl (by omega)), vb2, su_ne _ _ (Or.inl (by omega)), vb1, su_ne _ _ (Or.inl (by omega))]
theorem nBg_f {j : Nat} (h : j ≠ 27 ∧ j ≠ 28) : nBg σ p st mi 223 j = σ 223 j := by
  rw [nBg, su_ne _ _ (Or.inr h.1), vb9, su_ne _ _ (Or.inl (by omega)), vb8, su_ne _ _ (Or.inl (by omega)), vb7, su_ne _ _ (Or.inl (by omega)), vb6, su_ne _ _ (Or.inl (by omega)), vb5, su_ne _ _ (Or.inl (by omega)), vb4, su_ne _ _ (Or.inl (by omega)), vb3, su_ne _ _ (Or.inl (by omega)), vb2, su_ne _ _ (Or.inl (by omega)), vb1, su_ne _ _ (Or.inr h.2)]
end NBG
def ftS (σ : Sg) (mi st : Int) (p : Nat) (c : Int) : Int := if σ 232 p ≠ -1 ∨ mi < nOf σ (σ 231 p) 2 then c else if c = -1 ∨ nIa σ ((p : Nat) : Int) c (σ 237 st.toNat) ≠ 0 then ((p : Nat) : Int) else c
def nFt (σ : Sg) (mi st : Int) : Int := itr (σ 224 668).toNat (ftS σ mi st) (-1)
def rnS (mi : Int) (st : Nat) (σ : Sg) : Sg := if σ 236 st ≤ mi then (if nFt σ mi ((st : Nat) : Int) = -1 then σ else nBg σ (nFt σ mi ((st : Nat) : Int)) ((st : Nat) : Int) mi) else σ
def nSl (σ : Sg) (mi : Int) : Sg := itr (max 1 (σ 224 1)).toNat (rnS mi) σ
def nxA (σ : Sg) (mi : Int) (st : Nat) (c : Int) : Int := if mi < σ 236 st then min c (σ 236 st) else c
def nxB (σ : Sg) (mi : Int) (s : Nat) (c : Int) : Int := if mi < nOf σ ((s : Nat) : Int) 2 then min c (nOf σ ((s : Nat) : Int) 2) else c
def nxC (σ : Sg) (mi : Int) : Int := itr (max 1 (σ 224 1)).toNat (nxA σ mi) 1000000
def nNx (σ : Sg) (mi : Int) : Int := itr (σ 224 4).toNat (nxB σ mi) (nxC σ mi)
def nRuR : Nat → Sg → Int → Sg
  | 0, σ, _ => σ
  | n + 1, σ, mi => if σ 223 27 < σ 224 668 then nRuR n (nSl σ mi) (nNx (nSl σ mi) mi) else σ
def nRuM : Nat := 60000
def nRu (σ : Sg) : Sg := nRuR nRuM (nFg σ) 0
/-- how many of n are begun -/
def cntB (f : Nat → Int) : Nat → Int
  | 0 => 0
  | n + 1 => cntB f n + (if f n = -1 then 0 else 1)
theorem cntB_rg (f : Nat → Int) (n : Nat) : 0 ≤ cntB f n ∧ cntB f n ≤ n := by
  induction n with
  | zero => exact ⟨Int.le_refl _, Int.le_refl _⟩
  | succ n ih => rw [cntB]; split <;> omega
theorem cntB_lt (f : Nat → Int) {p : Nat} (hp : f p = -1) : ∀ n, p < n → cntB f n < n := by
  intro n
  induction n with
  | zero => intro h; omega
  | succ n ih =>
    intro h
    have h1 := cntB_rg f n
    rw [cntB]
    by_cases q : p = n
    · subst q; rw [if_pos hp]; omega
    · have := ih (by omega)
      split <;> omega
theorem cntB_ex (f : Nat → Int) : ∀ n : Nat, cntB f n < n → ∃ p, p < n ∧ f p = -1 := by
  intro n
  induction n with
  | zero => intro h; exact absurd h (by show ¬ ((0 : Int) < 0); omega)
  | succ n ih =>
    intro h
    rw [cntB] at h
    by_cases q : f n = -1
    · exact ⟨n, by omega, q⟩
    · rw [if_neg q] at h
      obtain ⟨p, h1, h2⟩ := ih (by omega)
      exact ⟨p, by omega, h2⟩
theorem cntB_full (f : Nat → Int) (n : Nat) (h : (n : Int) ≤ cntB f n) {p : Nat} (hp : p < n) : f p ≠ -1 := fun q => by
  have := cntB_lt f q n hp; omega
theorem cntB_su (f : Nat → Int) {p : Nat} (hp : f p = -1) {v : Int} (hv : v ≠ -1) : ∀ n, cntB (fun j => if j = p then v else f j) n = cntB f n + (if p < n then 1 else 0) := by
  intro n
  induction n with
  | zero => simp [cntB]
  | succ n ih =>
    rw [cntB, cntB, ih]
    by_cases q : n = p
    · subst q
      simp [hp, hv]
    · simp only [if_neg q]
      by_cases q2 : p < n
      · rw [if_pos q2, if_pos (show p < n + 1 by omega)]; omega
      · rw [if_neg q2, if_neg (show ¬ p < n + 1 by omega)]; omega
theorem cntB_0 {f : Nat → Int} {n : Nat} (h : ∀ p, p < n → f p = -1) : cntB f n = 0 := by
  induction n with
  | zero => rfl
  | succ n ih => rw [cntB, ih (fun p hp => h p (by omega)), if_pos (h n (by omega))]; rfl
/-- in the run: what is begun is counted -/
def RI (σ : Sg) : Prop := RS σ ∧ σ 223 27 = cntB (σ 232) (σ 224 668).toNat
def RT (σ : Sg) (mi : Int) : Prop := (0 ≤ mi ∧ mi ≤ 600 + 951 * σ 223 27) ∧ ∀ st : Nat, st < 3 → 0 ≤ σ 236 st ∧ σ 236 st ≤ 600 + 951 * σ 223 27
theorem RI.b {σ : Sg} (h : RI σ) : 0 ≤ σ 223 27 ∧ σ 223 27 ≤ σ 224 668 := by
  have h1 := cntB_rg (σ 232) (σ 224 668).toNat
  have h2 := h.1.1.p0
  rw [h.2]; omega
theorem RI.lt {σ : Sg} (h : RI σ) {p : Int} (h0 : 0 ≤ p) (h1 : p < σ 224 668) (hp : σ 232 p.toNat = -1) : σ 223 27 < σ 224 668 := by
  have h2 := cntB_lt (σ 232) hp (σ 224 668).toNat (by omega)
  rw [h.2]; omega
theorem nFt_rg (σ : Sg) (mi st : Int) : nFt σ mi st = -1 ∨ (0 ≤ nFt σ mi st ∧ nFt σ mi st < σ 224 668 ∧ σ 232 (nFt σ mi st).toNat = -1 ∧ nOf σ (σ 231 (nFt σ mi st).toNat) 2 ≤ mi) := by
  unfold nFt
  have h := itr_inv (fun (k : Nat) (c : Int) => c = -1 ∨ (0 ≤ c ∧ c < (k : Nat) ∧ σ 232 c.toNat = -1 ∧ nOf σ (σ 231 c.toNat) 2 ≤ mi)) (σ 224 668).toNat (ftS σ mi st) (-1) (Or.inl rfl) (by
    intro k y hk hy
    rw [ftS]
    split
    · rcases hy with hy | hy
      · exact Or.inl hy
      · exact Or.inr ⟨hy.1, by omega, hy.2.2⟩
    · next hc =>
      split
      · refine Or.inr ⟨by omega, by omega, ?_, ?_⟩
        · show σ 232 k = -1
          exact Decidable.byContradiction fun q => hc (Or.inl q)
        · show nOf σ (σ 231 k) 2 ≤ mi
          exact Int.not_lt.mp fun q => hc (Or.inr q)
      · rcases hy with hy | hy
        · exact Or.inl hy
        · exact Or.inr ⟨hy.1, by omega, hy.2.2⟩)
  rcases h with h | h
  · exact Or.inl h
  · exact Or.inr ⟨h.1, by omega, h.2.2⟩
theorem nFt_no {σ : Sg} {mi st : Int} (h : nFt σ mi st = -1) : ∀ p : Nat, ((p : Nat) : Int) < σ 224 668 → σ 232 p = -1 → mi < nOf σ (σ 231 p) 2 := by
  have h9 := itr_inv (fun (k : Nat) (c : Int) => -1 ≤ c ∧ (c = -1 → ∀ p : Nat, p < k → σ 232 p = -1 → mi < nOf σ (σ 231 p) 2)) (σ 224 668).toNat (ftS σ mi st) (-1) ⟨by omega, fun _ p hp => by omega⟩ (by
    intro k y hk hy
    rw [ftS]
    split
    · next hc =>
      refine ⟨hy.1, fun q p hp h2 => ?_⟩
      by_cases e : p = k
      · subst e
        rcases hc with hc | hc
        · exact absurd h2 hc
        · exact hc
      · exact hy.2 q p (by omega) h2
    · next hc =>
      split
      · exact ⟨by omega, fun q => by omega⟩
      · next hd =>
        exact ⟨hy.1, fun q => absurd (Or.inl q) hd⟩)
  intro p hp h2
  exact h9.2 h p (by omega) h2
theorem vbC_rg {σ : Sg} (h : RS σ) (p st : Int) : 0 ≤ vbC σ p st ∧ vbC σ p st ≤ 60 := by
  have := h.1.clean
  unfold vbC; split <;> omega
theorem mul_rg {a b : Int} (ha : 1 ≤ a ∧ a ≤ 9) (hb : 1 ≤ b ∧ b ≤ 99) : 1 ≤ a * b ∧ a * b ≤ 891 := by
  have h1 : 1 * 1 ≤ a * b := Int.mul_le_mul ha.1 hb.1 (by omega) (by omega)
  have h2 : a * b ≤ 9 * 99 := Int.mul_le_mul ha.2 hb.2 (by omega) (by omega)
  omega
theorem vb_ok {σ : Sg} (h : RS σ) {p st mi : Int} (h0 : 0 ≤ p) (h1 : p < σ 224 668) (hs0 : 0 ≤ st) (hs1 : st < max 1 (σ 224 1)) (hm0 : 0 ≤ mi) (hm1 : mi ≤ 100000) : vbG σ p st mi = mi + vbC σ p st ∧ vbD σ p st mi = mi + vbC σ p st + nPa σ st * nPo σ p ∧ 1 ≤ nPa σ st * nPo σ p ∧ nPa σ st * nPo σ p ≤ 891 ∧ 0 ≤ vbC σ p st ∧ vbC σ p st ≤ 60 := by
  have h2 := vbC_rg h p st
  have h3 := mul_rg (h.1.pa hs0 hs1) (h.1.po h0 h1)
  have e1 : vbG σ p st mi = mi + vbC σ p st := by unfold vbG; exact wr_id (by unfold okI; omega)
  refine ⟨e1, ?_, h3.1, h3.2, h2.1, h2.2⟩
  unfold vbD
  rw [e1, wr_id (show okI (nPa σ st * nPo σ p) by unfold okI; omega), wr_id (by unfold okI; omega)]
theorem RS_bg {σ : Sg} (h : RS σ) (p st mi : Int) : RS (nBg σ p st mi) := h
theorem RI_bg {σ : Sg} (h : RI σ) {p st mi : Int} (h0 : 0 ≤ p) (h1 : p < σ 224 668) (hp : σ 232 p.toNat = -1) (hs0 : 0 ≤ st) (hs1 : st < max 1 (σ 224 1)) (hm0 : 0 ≤ mi) (hm1 : mi ≤ 100000) : RI (nBg σ p st mi) ∧ nBg σ p st mi 223 27 = σ 223 27 + 1 := by
  have hv := vb_ok h.1 h0 h1 hs0 hs1 hm0 hm1
  have hb := h.b
  have h6 := h.1.1.p60
  have e : nBg σ p st mi 223 27 = σ 223 27 + 1 := by rw [nBg_27, wr_id (by unfold okI; omega)]
  refine ⟨⟨RS_bg h.1 p st mi, ?_⟩, e⟩
  rw [e, nBg_224, nBg_232, cntB_su (σ 232) hp (by omega), if_pos (by omega), h.2]
theorem RT_bg {σ : Sg} (h : RI σ) {p st mi : Int} (ht : RT σ mi) (h0 : 0 ≤ p) (h1 : p < σ 224 668) (hp : σ 232 p.toNat = -1) (hs0 : 0 ≤ st) (hs1 : st < max 1 (σ 224 1)) : RT (nBg σ p st mi) mi := by
  have hb := h.b
  have h6 := h.1.1.p60
  have hv := vb_ok h.1 h0 h1 hs0 hs1 ht.1.1 (by have := ht.1.2; omega)
  have e := (RI_bg h h0 h1 hp hs0 hs1 ht.1.1 (by have := ht.1.2; omega)).2
  have ht1 := ht.1
  refine ⟨by rw [e]; omega, fun k hk => ?_⟩
  have h3 := ht.2 k hk
  rw [e, nBg_236]
  show 0 ≤ (if k = st.toNat then vbD σ p st mi else σ 236 k) ∧ (if k = st.toNat then vbD σ p st mi else σ 236 k) ≤ _
  split <;> omega
/-- through the stones at a minute -/
theorem nSl_inv {σ : Sg} {mi : Int} (h : RI σ) (ht : RT σ mi) : ∀ n : Nat, n ≤ (max 1 (σ 224 1)).toNat → (RI (itr n (rnS mi) σ) ∧ RT (itr n (rnS mi) σ) mi ∧ itr n (rnS mi) σ 224 = σ 224 ∧ itr n (rnS mi) σ 231 = σ 231) ∧ (1 ≤ n → mi < itr n (rnS mi) σ 236 0 ∨ ∀ p : Nat, ((p : Nat) : Int) < σ 224 668 → itr n (rnS mi) σ 232 p = -1 → mi < nOf σ (σ 231 p) 2) := by
  intro n
  induction n with
  | zero => intro _; exact ⟨⟨h, ht, rfl, rfl⟩, fun q => by omega⟩
  | succ n ih =>
    intro hn
    obtain ⟨⟨i1, i2, i3, i4⟩, i5⟩ := ih (by omega)
    rw [itr_s]
    generalize itr n (rnS mi) σ = y at i1 i2 i3 i4 i5 ⊢
    have hof : ∀ s w, nOf y s w = nOf σ s w := nOf_of i3
    rw [rnS]
    split
    · next hc =>
      rcases nFt_rg y mi ((n : Nat) : Int) with hf | hf
      · rw [if_pos hf]
        refine ⟨⟨i1, i2, i3, i4⟩, fun _ => ?_⟩
        right
        intro p hp h2
        have := nFt_no hf p (by rw [i3]; exact hp) h2
        rwa [hof, i4] at this
      · rw [if_neg (by omega)]
        have hs1 : ((n : Nat) : Int) < max 1 (y 224 1) := by rw [i3]; omega
        have hb := i1.b
        have h6 := i1.1.1.p60
        have hm1 : mi ≤ 100000 := by have := i2.1.2; omega
        have hv := vb_ok i1.1 hf.1 hf.2.1 (by omega) hs1 i2.1.1 hm1
        refine ⟨⟨(RI_bg i1 hf.1 hf.2.1 hf.2.2.1 (by omega) hs1 i2.1.1 hm1).1, RT_bg i1 i2 hf.1 hf.2.1 hf.2.2.1 (by omega) hs1, i3, i4⟩, fun _ => ?_⟩
        rw [nBg_236, nBg_232]
        by_cases q : n = 0
        · left
          show mi < if 0 = ((n : Nat) : Int).toNat then vbD y (nFt y mi ↑n) ↑n mi else y 236 0
          rw [if_pos (by omega)]; omega
        · rcases i5 (by omega) with h5 | h5
          · left
            show mi < if 0 = ((n : Nat) : Int).toNat then vbD y (nFt y mi ↑n) ↑n mi else y 236 0
            rw [if_neg (by omega)]; exact h5
          · right
            intro p hp h2
            refine h5 p hp ?_
            have h3 : (if p = (nFt y mi ((n : Nat) : Int)).toNat then vbG y (nFt y mi ((n : Nat) : Int)) ((n : Nat) : Int) mi else y 232 p) = -1 := h2
            split at h3
            · have := i2.1.1; omega
            · exact h3
    · next hc =>
      refine ⟨⟨i1, i2, i3, i4⟩, fun _ => ?_⟩
      by_cases q : n = 0
      · subst q; left; omega
      · exact i5 (by omega)
theorem nxA_lo (σ : Sg) (mi : Int) (n : Nat) (c : Int) (hc : mi < c) : mi < itr n (nxA σ mi) c ∧ itr n (nxA σ mi) c ≤ c ∧ ∀ k : Nat, k < n → mi < σ 236 k → itr n (nxA σ mi) c ≤ σ 236 k := by
  induction n with
  | zero => exact ⟨hc, Int.le_refl _, fun k hk => by omega⟩
  | succ n ih =>
    rw [itr_s, nxA]
    split
    · refine ⟨by omega, by omega, fun k hk h2 => ?_⟩
      by_cases q : k = n
      · subst q; omega
      · have := ih.2.2 k (by omega) h2; omega
    · refine ⟨ih.1, ih.2.1, fun k hk h2 => ?_⟩
      by_cases q : k = n
      · subst q; omega
      · exact ih.2.2 k (by omega) h2
theorem nxB_lo (σ : Sg) (mi : Int) (n : Nat) (c : Int) (hc : mi < c) : mi < itr n (nxB σ mi) c ∧ itr n (nxB σ mi) c ≤ c ∧ ∀ k : Nat, k < n → mi < nOf σ ((k : Nat) : Int) 2 → itr n (nxB σ mi) c ≤ nOf σ ((k : Nat) : Int) 2 := by
  induction n with
  | zero => exact ⟨hc, Int.le_refl _, fun k hk => by omega⟩
  | succ n ih =>
    rw [itr_s, nxB]
    split
    · refine ⟨by omega, by omega, fun k hk h2 => ?_⟩
      by_cases q : k = n
      · subst q; omega
      · have := ih.2.2 k (by omega) h2; omega
    · refine ⟨ih.1, ih.2.1, fun k hk h2 => ?_⟩
      by_cases q : k = n
      · subst q; omega
      · exact ih.2.2 k (by omega) h2
theorem nNx_lo (σ : Sg) (mi : Int) (hc : mi < 1000000) : mi < nNx σ mi ∧ (∀ k : Nat, ((k : Nat) : Int) < max 1 (σ 224 1) → mi < σ 236 k → nNx σ mi ≤ σ 236 k) ∧ ∀ k : Nat, ((k : Nat) : Int) < σ 224 4 → mi < nOf σ ((k : Nat) : Int) 2 → nNx σ mi ≤ nOf σ ((k : Nat) : Int) 2 := by
  have h1 := nxA_lo σ mi (max 1 (σ 224 1)).toNat 1000000 hc
  have h2 := nxB_lo σ mi (σ 224 4).toNat (nxC σ mi) h1.1
  refine ⟨h2.1, fun k hk h3 => ?_, fun k hk h3 => h2.2.2 k (by omega) h3⟩
  have h4 := h1.2.2 k (by omega) h3
  have h5 := h2.2.1
  show itr _ _ (nxC σ mi) ≤ _
  have h6 : nxC σ mi ≤ σ 236 k := h4
  omega
/-- a round of the run: the minute goes on, or all is begun -/
theorem run_step {σ : Sg} {mi : Int} (h : RI σ) (ht : RT σ mi) : RI (nSl σ mi) ∧ nSl σ mi 224 = σ 224 ∧ nSl σ mi 231 = σ 231 ∧ (nSl σ mi 223 27 < nSl σ mi 224 668 → mi < nNx (nSl σ mi) mi ∧ RT (nSl σ mi) (nNx (nSl σ mi) mi)) := by
  have hst := h.1.1.stones
  obtain ⟨⟨i1, i2, i3, i4⟩, i5⟩ := nSl_inv h ht (max 1 (σ 224 1)).toNat (Nat.le_refl _)
  have i5 := i5 (by omega)
  change RI (nSl σ mi) at i1
  change RT (nSl σ mi) mi at i2
  change nSl σ mi 224 = σ 224 at i3
  change nSl σ mi 231 = σ 231 at i4
  change mi < nSl σ mi 236 0 ∨ ∀ p : Nat, ((p : Nat) : Int) < σ 224 668 → nSl σ mi 232 p = -1 → mi < nOf σ (σ 231 p) 2 at i5
  refine ⟨i1, i3, i4, fun hlt => ?_⟩
  generalize nSl σ mi = y at i1 i2 i3 i4 i5 hlt ⊢
  have hb := i1.b
  have h6 := i1.1.1.p60
  have hm := i2.1
  obtain ⟨n1, n2, n3⟩ := nNx_lo y mi (by omega)
  refine ⟨n1, ⟨by omega, ?_⟩, i2.2⟩
  rcases i5 with h5 | h5
  · have := n2 0 (by omega) h5
    have := (i2.2 0 (by omega)).2
    omega
  · obtain ⟨p, hp1, hp2⟩ := cntB_ex (y 232) (y 224 668).toNat (by rw [← i1.2]; omega)
    have hp3 : ((p : Nat) : Int) < σ 224 668 := by rw [← i3]; omega
    have h7 := h5 p hp3 hp2
    have h8 := h.1.2 p hp3
    have h9 := n3 (σ 231 p).toNat (by rw [i3]; omega) (by rw [nOf_of i3, Int.toNat_of_nonneg h8.1]; exact h7)
    rw [nOf_of i3, Int.toNat_of_nonneg h8.1] at h9
    have h10 := (h.1.1.of h8.1 h8.2).2.2.1
    omega
theorem nFg_RI {σ : Sg} (h : TW (σ 224)) : RI (nFg σ) ∧ RT (nFg σ) 0 := by
  have e27 : nFg σ 223 27 = 0 := by
    rw [nFg_at, if_neg (by omega), if_neg (by omega)]
    rfl
  have e232 : ∀ p : Nat, ((p : Nat) : Int) < σ 224 668 → nFg σ 232 p = -1 := by
    intro p hp
    rw [nFg_at, if_pos ⟨rfl, by omega⟩]
  have e231 : ∀ p : Nat, ((p : Nat) : Int) < σ 224 668 → nFg σ 231 p = nSo σ ((p : Nat) : Int) := by
    intro p hp
    rw [nFg_at, if_neg (by omega), if_pos ⟨rfl, by omega⟩]
  have e236 : ∀ k : Nat, k < 3 → nFg σ 236 k = 0 := by
    intro k hk
    rw [nFg_at, if_neg (by omega), if_neg (by omega), fgC, rFill_ne (by omega), rFill, if_pos ⟨rfl, hk⟩]
  refine ⟨⟨⟨by rw [nFg_224]; exact h, fun p hp => ?_⟩, ?_⟩, ⟨⟨Int.le_refl _, by omega⟩, fun k hk => ?_⟩⟩
  · rw [nFg_224] at hp ⊢
    rw [e231 p hp]
    exact (nSo_rg h (by omega) hp).1
  · rw [e27, nFg_224, cntB_0 (fun p hp => e232 p (by omega))]
  · rw [e236 k hk, e27]; omega
/-- the run's rounds: enough of them, and all is begun -/
theorem nRuR_end : ∀ (n : Nat) {σ : Sg} {mi : Int}, RI σ → (σ 223 27 < σ 224 668 → RT σ mi ∧ 58000 - mi < n) → RI (nRuR n σ mi) ∧ nRuR n σ mi 224 = σ 224 ∧ nRuR n σ mi 231 = σ 231 ∧ nRuR n σ mi 223 27 = σ 224 668 := by
  intro n
  induction n with
  | zero =>
    intro σ mi h ht
    have hb := h.b
    have h6 := h.1.1.p60
    refine ⟨h, rfl, rfl, ?_⟩
    by_cases q : σ 223 27 < σ 224 668
    · have h1 := ht q
      have := h1.1.1
      omega
    · show σ 223 27 = _
      omega
  | succ n ih =>
    intro σ mi h ht
    rw [nRuR]
    have hb := h.b
    split
    · next q =>
      obtain ⟨h1, h2⟩ := ht q
      obtain ⟨s1, s2, s3, s4⟩ := run_step h h1
      obtain ⟨r1, r2, r3, r4⟩ := ih s1 (mi := nNx (nSl σ mi) mi) (fun q2 => ⟨(s4 q2).2, by have := (s4 q2).1; omega⟩)
      exact ⟨r1, r2.trans s2, r3.trans s3, by rw [r4, s2]⟩
    · exact ⟨h, rfl, rfl, by omega⟩
theorem nRu_end {σ : Sg} (h : TW (σ 224)) : RI (nRu σ) ∧ nRu σ 224 = σ 224 ∧ nRu σ 223 27 = σ 224 668 := by
  obtain ⟨h1, h2⟩ := nFg_RI h
  obtain ⟨r1, r2, r3, r4⟩ := nRuR_end nRuM h1 (mi := 0) (fun _ => ⟨h2, by show (58000 : Int) - 0 < ((60000 : Nat) : Int); omega⟩)
  exact ⟨r1, r2.trans (nFg_224 σ), by rw [show nRu σ = nRuR nRuM (nFg σ) 0 from rfl, r4, nFg_224]⟩
