/-! TOLD (array 224 of the model) as a row t: when it is well-formed; sums of pieces -/
def tM (t : Nat → Int) (s : Nat) : Int := t (20 + 7 * s + 6)
def tPre (t : Nat → Int) : Nat → Int
  | 0 => 0
  | s + 1 => tPre t s + tM t s
def TSk (t : Nat → Int) (s : Nat) : Prop :=
  (1 ≤ t (20 + 7 * s + 0) ∧ t (20 + 7 * s + 0) ≤ 99) ∧ (0 ≤ t (20 + 7 * s + 1) ∧ t (20 + 7 * s + 1) ≤ 7) ∧ (0 ≤ t (20 + 7 * s + 2) ∧ t (20 + 7 * s + 2) ≤ 600) ∧ (0 ≤ t (20 + 7 * s + 3) ∧ t (20 + 7 * s + 3) ≤ 3) ∧ (1 ≤ t (20 + 7 * s + 4) ∧ t (20 + 7 * s + 4) ≤ 9) ∧ (-1 ≤ t (20 + 7 * s + 5) ∧ t (20 + 7 * s + 5) ≤ 999) ∧ (1 ≤ t (20 + 7 * s + 6) ∧ t (20 + 7 * s + 6) ≤ 8)
def TW (t : Nat → Int) : Prop :=
  (0 ≤ t 1 ∧ t 1 ≤ 3) ∧ (0 ≤ t 2 ∧ t 2 ≤ 60) ∧ (0 ≤ t 3 ∧ t 3 ≤ 99) ∧ (0 ≤ t 4 ∧ t 4 ≤ 60) ∧ (0 ≤ t 8 ∧ t 8 ≤ 8) ∧ (0 ≤ t 17 ∧ t 17 ≤ 99) ∧ (∀ k : Nat, ((k : Nat) : Int) < t 1 → 1 ≤ t (5 + k) ∧ t (5 + k) ≤ 9) ∧ (∀ s : Nat, ((s : Nat) : Int) < t 4 → TSk t s) ∧ (t 668 = tPre t (t 4).toNat ∧ t 668 ≤ 60) ∧ (∀ p : Nat, ((p : Nat) : Int) < t 668 → 1 ≤ t (608 + p) ∧ t (608 + p) ≤ 99)
section TWs
variable {t : Nat → Int}
theorem TW.stones (h : TW t) : 0 ≤ t 1 ∧ t 1 ≤ 3 := h.1
theorem TW.clean (h : TW t) : 0 ≤ t 2 ∧ t 2 ≤ 60 := h.2.1
theorem TW.fee (h : TW t) : 0 ≤ t 3 ∧ t 3 ≤ 99 := h.2.2.1
theorem TW.sacks (h : TW t) : 0 ≤ t 4 ∧ t 4 ≤ 60 := h.2.2.2.1
theorem TW.keys (h : TW t) : 0 ≤ t 8 ∧ t 8 ≤ 8 := h.2.2.2.2.1
theorem TW.small (h : TW t) : 0 ≤ t 17 ∧ t 17 ≤ 99 := h.2.2.2.2.2.1
theorem TW.pace (h : TW t) : ∀ k : Nat, ((k : Nat) : Int) < t 1 → 1 ≤ t (5 + k) ∧ t (5 + k) ≤ 9 := h.2.2.2.2.2.2.1
theorem TW.sk (h : TW t) : ∀ s : Nat, ((s : Nat) : Int) < t 4 → TSk t s := h.2.2.2.2.2.2.2.1
theorem TW.sum (h : TW t) : t 668 = tPre t (t 4).toNat := h.2.2.2.2.2.2.2.2.1.1
theorem TW.p60 (h : TW t) : t 668 ≤ 60 := h.2.2.2.2.2.2.2.2.1.2
theorem TW.pound (h : TW t) : ∀ p : Nat, ((p : Nat) : Int) < t 668 → 1 ≤ t (608 + p) ∧ t (608 + p) ≤ 99 := h.2.2.2.2.2.2.2.2.2
theorem TW.many (h : TW t) (s : Nat) (hs : ((s : Nat) : Int) < t 4) : 1 ≤ tM t s ∧ tM t s ≤ 8 := (h.sk s hs).2.2.2.2.2.2
theorem tPre_add (h : TW t) (a : Nat) : ∀ b : Nat, ((a + b : Nat) : Int) ≤ t 4 → tPre t a + b ≤ tPre t (a + b) := by
  intro b
  induction b with
  | zero => intro _; simp
  | succ b ih =>
    intro hb
    have h1 := ih (by omega)
    have h2 := h.many (a + b) (by omega)
    have e : tPre t (a + (b + 1)) = tPre t (a + b) + tM t (a + b) := rfl
    omega
theorem tPre_mono (h : TW t) {a b : Nat} (hab : a ≤ b) (hb : ((b : Nat) : Int) ≤ t 4) : tPre t a + (b - a : Nat) ≤ tPre t b := by
  have := tPre_add h a (b - a) (by omega)
  rwa [show a + (b - a) = b by omega] at this
theorem tPre_nn (h : TW t) {a : Nat} (ha : ((a : Nat) : Int) ≤ t 4) : (a : Int) ≤ tPre t a := by
  have := tPre_mono h (Nat.zero_le a) ha
  have e : tPre t 0 = 0 := rfl
  omega
theorem tPre_le (h : TW t) {a : Nat} (ha : ((a : Nat) : Int) ≤ t 4) : tPre t a ≤ t 668 := by
  have h1 := h.sacks
  have := tPre_mono h (a := a) (b := (t 4).toNat) (by omega) (by omega)
  rw [← h.sum] at this; omega
theorem TW.p_nn (h : TW t) : t 4 ≤ t 668 := by
  have h1 := h.sacks
  have := tPre_nn h (a := (t 4).toNat) (by omega)
  rw [← h.sum] at this; omega
theorem TW.p0 (h : TW t) : 0 ≤ t 668 := by have := h.p_nn; have := h.sacks; omega
end TWs
theorem nOf_t (σ : Sg) {s w : Int} (hs : 0 ≤ s) (hw : 0 ≤ w) : nOf σ s w = σ 224 (20 + 7 * s.toNat + w.toNat) := by
  unfold nOf; congr 1; omega
theorem nOf_n (σ : Sg) (s : Nat) {w : Int} (hw : 0 ≤ w) : nOf σ ((s : Nat) : Int) w = σ 224 (20 + 7 * s + w.toNat) := nOf_t σ (by omega) hw
theorem nPo_t (σ : Sg) {p : Int} (hp : 0 ≤ p) : nPo σ p = σ 224 (608 + p.toNat) := by
  unfold nPo; congr 1; omega
/-- what a sack's numbers are bounded by -/
theorem TW.of {σ : Sg} (h : TW (σ 224)) {s : Int} (h0 : 0 ≤ s) (h1 : s < σ 224 4) : (1 ≤ nOf σ s 0 ∧ nOf σ s 0 ≤ 99) ∧ (0 ≤ nOf σ s 1 ∧ nOf σ s 1 ≤ 7) ∧ (0 ≤ nOf σ s 2 ∧ nOf σ s 2 ≤ 600) ∧ (0 ≤ nOf σ s 3 ∧ nOf σ s 3 ≤ 3) ∧ (1 ≤ nOf σ s 4 ∧ nOf σ s 4 ≤ 9) ∧ (-1 ≤ nOf σ s 5 ∧ nOf σ s 5 ≤ 999) ∧ (1 ≤ nOf σ s 6 ∧ nOf σ s 6 ≤ 8) := by
  have h2 := h.sk s.toNat (by omega)
  rw [nOf_t σ h0 (by decide), nOf_t σ h0 (by decide), nOf_t σ h0 (by decide), nOf_t σ h0 (by decide), nOf_t σ h0 (by decide), nOf_t σ h0 (by decide), nOf_t σ h0 (by decide)]
  exact h2
theorem TW.po {σ : Sg} (h : TW (σ 224)) {p : Int} (h0 : 0 ≤ p) (h1 : p < σ 224 668) : 1 ≤ nPo σ p ∧ nPo σ p ≤ 99 := by
  rw [nPo_t σ h0]; exact h.pound p.toNat (by omega)
theorem TW.pa {σ : Sg} (h : TW (σ 224)) {s : Int} (h0 : 0 ≤ s) (h1 : s < max 1 (σ 224 1)) : 1 ≤ nPa σ s ∧ nPa σ s ≤ 9 := by
  unfold nPa; split
  · omega
  · have := h.stones
    have h3 := h.pace s.toNat (by omega)
    rwa [show (5 + s).toNat = 5 + s.toNat by omega]
theorem nFo_pre {σ : Sg} (h : TW (σ 224)) {s : Nat} (hs : ((s : Nat) : Int) ≤ σ 224 4) : nFo σ ((s : Nat) : Int) = tPre (σ 224) s := by
  unfold nFo
  rw [show ((s : Nat) : Int).toNat = s from rfl]
  induction s with
  | zero => rfl
  | succ s ih =>
    have h1 := ih (by omega)
    have h2 := tPre_le h hs
    have h3 := tPre_nn h hs
    have h4 := h.p60
    rw [itr_s, h1, nFoS, nOf_n σ s (by decide)]
    have e : tPre (σ 224) (s + 1) = tPre (σ 224) s + σ 224 (20 + 7 * s + Int.toNat 6) := rfl
    rw [← e, wr_id (by unfold okI; omega)]
/-- the sack of a piece -/
def nSoR (t : Nat → Int) : Nat → Nat → Int → Int
  | 0, s, _ => (s : Nat)
  | n + 1, s, left => if tM t s ≤ left then nSoR t n (s + 1) (left - tM t s) else (s : Nat)
def nSo (σ : Sg) (p : Int) : Int := nSoR (σ 224) 61 0 p
theorem nSoR_rg {t : Nat → Int} (h : TW t) {p : Int} (h0 : 0 ≤ p) (h1 : p < t 668) : ∀ n s : Nat, ((s : Nat) : Int) ≤ t 4 → (t 4).toNat < n + s → tPre t s ≤ p → (0 ≤ nSoR t n s (p - tPre t s) ∧ nSoR t n s (p - tPre t s) < t 4) ∧ tPre t (nSoR t n s (p - tPre t s)).toNat ≤ p ∧ p < tPre t ((nSoR t n s (p - tPre t s)).toNat + 1) := by
  intro n
  induction n with
  | zero => intro s hs hn hp; omega
  | succ n ih =>
    intro s hs hn hp
    have hlt : ((s : Nat) : Int) < t 4 := by
      by_cases q : ((s : Nat) : Int) < t 4
      · exact q
      · exfalso
        have h5 := h.sum
        rw [show (t 4).toNat = s by omega] at h5
        omega
    have e : tPre t (s + 1) = tPre t s + tM t s := rfl
    rw [nSoR]
    split
    · rw [show p - tPre t s - tM t s = p - tPre t (s + 1) by omega]
      exact ih (s + 1) (by omega) (by omega) (by omega)
    · rw [show (((s : Nat) : Int)).toNat = s from rfl]
      omega
theorem nSo_rg {σ : Sg} (h : TW (σ 224)) {p : Int} (h0 : 0 ≤ p) (h1 : p < σ 224 668) : (0 ≤ nSo σ p ∧ nSo σ p < σ 224 4) ∧ tPre (σ 224) (nSo σ p).toNat ≤ p ∧ p < tPre (σ 224) ((nSo σ p).toNat + 1) := by
  have h2 := h.sacks
  have h3 := nSoR_rg h h0 h1 61 0 (by omega) (by omega) (by show (0 : Int) ≤ p; exact h0)
  rw [show p - tPre (σ 224) 0 = p by show p - 0 = p; omega] at h3
  exact h3
/-- sacks told of pieces are there -/
def RS (σ : Sg) : Prop := TW (σ 224) ∧ ∀ p : Nat, ((p : Nat) : Int) < σ 224 668 → 0 ≤ σ 231 p ∧ σ 231 p < σ 224 4
theorem RS.so {σ : Sg} (h : RS σ) {p : Int} (h0 : 0 ≤ p) (h1 : p < σ 224 668) : 0 ≤ σ 231 p.toNat ∧ σ 231 p.toNat < σ 224 4 := h.2 p.toNat (by omega)
def nDu (σ : Sg) (p : Int) : Int := if nOf σ (σ 231 p.toNat) 5 = -1 then 1000000 else nOf σ (σ 231 p.toNat) 5
def nBk (σ : Sg) (key p q last : Int) : Int :=
  if key = 0 then wr (nSm σ q - nSm σ p)
  else if key = 1 then wr (nSm σ p - nSm σ q)
  else if key = 2 then wr (nOf σ (σ 231 q.toNat) 2 - nOf σ (σ 231 p.toNat) 2)
  else if key = 3 then wr (nOf σ (σ 231 p.toNat) 2 - nOf σ (σ 231 q.toNat) 2)
  else if key = 4 then wr (wr (nOf σ (σ 231 p.toNat) 4 * nPo σ q) - wr (nOf σ (σ 231 q.toNat) 4 * nPo σ p))
  else if key = 5 then wr (nDu σ q - nDu σ p)
  else if key = 6 then wr (σ 238 (nOf σ (σ 231 q.toNat) 1).toNat - σ 238 (nOf σ (σ 231 p.toNat) 1).toNat)
  else wr ((if nOf σ (σ 231 p.toNat) 3 = last then 1 else 0) - if nOf σ (σ 231 q.toNat) 3 = last then 1 else 0)
def nKf (σ : Sg) (p q last : Int) (i : Nat) : Int := nBk σ (σ 224 (9 + i)) p q last
/-- the first of n places from i on at which f isn't 0: f there -/
def fnz (f : Nat → Int) : Nat → Nat → Int
  | 0, _ => 0
  | n + 1, i => if f i ≠ 0 then f i else fnz f n (i + 1)
def nIaV (v p q : Int) : Int := if v = 0 then (if p < q then 1 else 0) else if 0 < v then 1 else 0
def nIa (σ : Sg) (p q last : Int) : Int := nIaV (fnz (nKf σ p q last) (σ 224 8).toNat 0) p q
theorem nIaV_b (v p q : Int) : nIaV v p q = 0 ∨ nIaV v p q = 1 := by unfold nIaV; (repeat' split) <;> first | exact Or.inl rfl | exact Or.inr rfl
