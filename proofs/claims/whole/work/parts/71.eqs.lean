/-! ALIKE, 2: margins, who stands first, a piece begun -/
section AL
variable {σ τ : Sg} {r m : Nat}
/-- all that both runs stand on -/
def RX (σ : Sg) (r m : Nat) (τ : Sg) : Prop := (m + 22 ≤ r ∧ RS τ ∧ KW (τ 224) ∧ MR σ m (τ 224)) ∧ RRa σ r τ ∧ RRb σ r τ
theorem RX.mr (h : RX σ r m τ) : m + 22 ≤ r := h.1.1
theorem RX.rs (h : RX σ r m τ) : RS τ := h.1.2.1
theorem RX.tw (h : RX σ r m τ) : TW (τ 224) := h.1.2.1.1
theorem RX.kw (h : RX σ r m τ) : KW (τ 224) := h.1.2.2.1
theorem RX.mill (h : RX σ r m τ) : MR σ m (τ 224) := h.1.2.2.2
theorem RX.a (h : RX σ r m τ) : RRa σ r τ := h.2.1
theorem RX.b (h : RX σ r m τ) : RRb σ r τ := h.2.2
theorem sk_at (hT : TW (τ 224)) (hM : MR σ m (τ 224)) {s : Int} (h0 : 0 ≤ s) (h1 : s < τ 224 4) : rAt σ (m + 7) 60 s = nOf τ s 0 ∧ rAt σ (m + 9) 60 s = nOf τ s 1 ∧ rAt σ (m + 11) 60 s = nOf τ s 2 ∧ rAt σ (m + 13) 60 s = nOf τ s 3 ∧ rAt σ (m + 15) 60 s = nOf τ s 4 ∧ rAt σ (m + 17) 60 s = nOf τ s 5 ∧ rAt σ (m + 19) 60 s = nOf τ s 6 := by
  have hS := hT.sacks
  have h := hM.sk (s := s.toNat) (by omega)
  rw [rAt_lt h0 (by omega), rAt_lt h0 (by omega), rAt_lt h0 (by omega), rAt_lt h0 (by omega), rAt_lt h0 (by omega), rAt_lt h0 (by omega), rAt_lt h0 (by omega), nOf_t τ h0 (by decide), nOf_t τ h0 (by decide), nOf_t τ h0 (by decide), nOf_t τ h0 (by decide), nOf_t τ h0 (by decide), nOf_t τ h0 (by decide), nOf_t τ h0 (by decide)]
  exact h
theorem RX.so (h : RX σ r m τ) {p : Int} (h0 : 0 ≤ p) (h1 : p < τ 224 668) : rAt σ (r + 2) 60 p = τ 231 p.toNat ∧ rAt σ (r + 4) 60 p = nPo τ p := by
  have h60 := h.tw.p60
  have h2 := h.a.2.1 p.toNat (by omega)
  rw [rAt_lt h0 (by omega), rAt_lt h0 (by omega), nPo_t τ h0]
  exact h2
theorem RX.come (h : RX σ r m τ) {p : Int} (h0 : 0 ≤ p) (h1 : p < τ 224 668) : uCome σ r m p = nOf τ (τ 231 p.toNat) 2 := by
  have hs := h.rs.so h0 h1
  unfold uCome
  rw [(h.so h0 h1).1]
  exact (sk_at h.tw h.mill hs.1 hs.2).2.2.1
theorem RX.due (h : RX σ r m τ) {s : Int} (h0 : 0 ≤ s) (h1 : s < τ 224 4) : rAt σ (r + 18) 60 s = dH (nOf τ s 5) := by
  have hS := h.tw.sacks
  rw [rAt_lt h0 (by omega), h.a.2.2 s.toNat (by omega), nOf_t τ h0 (by decide)]
  rfl
theorem RX.st (h : RX σ r m τ) {st : Int} (h0 : 0 ≤ st) (h1 : st < 3) : rAt σ (r + 20) 3 st = τ 236 st.toNat ∧ rAt σ (r + 22) 3 st = τ 237 st.toNat := by
  rw [rAt_lt h0 (by omega), rAt_lt h0 (by omega)]
  exact h.b.2.2.2.1 st.toNat (by omega)
theorem RX.turn (h : RX σ r m τ) {q : Int} (h0 : 0 ≤ q) (h1 : q ≤ 7) : rAt σ (r + 24) 8 q = τ 238 q.toNat := by
  rw [rAt_lt h0 (by omega)]
  exact h.b.2.2.2.2.1 q.toNat (by omega)
theorem RX.untaken (h : RX σ r m τ) {p : Nat} (hp : ((p : Nat) : Int) < τ 224 668) : rAt σ (r + 6) 60 ((p : Nat) : Int) = -1 ↔ τ 232 p = -1 := by
  have h60 := h.tw.p60
  rw [rAt_nt (by omega), h.b.1 p hp]
  constructor
  · intro q
    by_cases e : τ 232 p = -1
    · exact e
    · rw [if_neg e] at q
      have := (h.b.2.1 p hp e).2.2.2
      omega
  · intro q; rw [if_pos q]
def sg2 (x y : Int) : Prop := (x = 0 ↔ y = 0) ∧ (0 < x ↔ 0 < y)
theorem sg2.rf (x : Int) : sg2 x x := ⟨Iff.rfl, Iff.rfl⟩
theorem mg_def (σ : Sg) (r m : Nat) (key p q st : Int) : mg σ r m key p q st =
  (if key = 0 then wr (max (rAt σ (r + 4) 60 q) (σ (m + 1) 2) - max (rAt σ (r + 4) 60 p) (σ (m + 1) 2))
  else if key = 1 then wr (max (rAt σ (r + 4) 60 p) (σ (m + 1) 2) - max (rAt σ (r + 4) 60 q) (σ (m + 1) 2))
  else if key = 2 then wr (rAt σ (m + 11) 60 (rAt σ (r + 2) 60 q) - rAt σ (m + 11) 60 (rAt σ (r + 2) 60 p))
  else if key = 3 then wr (rAt σ (m + 11) 60 (rAt σ (r + 2) 60 p) - rAt σ (m + 11) 60 (rAt σ (r + 2) 60 q))
  else if key = 4 then wr (wr (rAt σ (m + 15) 60 (rAt σ (r + 2) 60 p) * rAt σ (r + 4) 60 q) - wr (rAt σ (m + 15) 60 (rAt σ (r + 2) 60 q) * rAt σ (r + 4) 60 p))
  else if key = 5 then wr (rAt σ (r + 18) 60 (rAt σ (r + 2) 60 q) - rAt σ (r + 18) 60 (rAt σ (r + 2) 60 p))
  else if key = 6 then wr (rAt σ (r + 24) 8 (rAt σ (m + 9) 60 (rAt σ (r + 2) 60 q)) - rAt σ (r + 24) 8 (rAt σ (m + 9) 60 (rAt σ (r + 2) 60 p)))
  else if key = 7 then wr ((if rAt σ (m + 13) 60 (rAt σ (r + 2) 60 p) = rAt σ (r + 22) 3 st then 1 else 0) - if rAt σ (m + 13) 60 (rAt σ (r + 2) 60 q) = rAt σ (r + 22) 3 st then 1 else 0)
  else 0) := rfl
theorem mg_alike (h : RX σ r m τ) {key p q st : Int} (hk : 0 ≤ key ∧ key ≤ 7) (hp : 0 ≤ p ∧ p < τ 224 668) (hq : 0 ≤ q ∧ q < τ 224 668) (hst : 0 ≤ st ∧ st < 3) : sg2 (mg σ r m key p q st) (nBk τ key p q (τ 237 st.toNat)) := by
  have hT := h.tw
  have hs := h.rs.so hp.1 hp.2
  have ht := h.rs.so hq.1 hq.2
  have as := sk_at hT h.mill hs.1 hs.2
  have at_ := sk_at hT h.mill ht.1 ht.2
  have bs := hT.of hs.1 hs.2
  have bt := hT.of ht.1 ht.2
  have ep := h.so hp.1 hp.2
  have eq := h.so hq.1 hq.2
  unfold nBk
  rw [mg_def, ep.1, ep.2, eq.1, eq.2, (h.st hst.1 hst.2).2, h.mill.small]
  rw [as.2.1, as.2.2.1, as.2.2.2.1, as.2.2.2.2.1, at_.2.1, at_.2.2.1, at_.2.2.2.1, at_.2.2.2.2.1, h.due hs.1 hs.2, h.due ht.1 ht.2, h.turn (by omega) (by omega), h.turn (by omega) (by omega)]
  by_cases k0 : key = 0
  · rw [if_pos k0, if_pos k0]; exact sg2.rf _
  rw [if_neg k0, if_neg k0]
  by_cases k1 : key = 1
  · rw [if_pos k1, if_pos k1]; exact sg2.rf _
  rw [if_neg k1, if_neg k1]
  by_cases k2 : key = 2
  · rw [if_pos k2, if_pos k2]; exact sg2.rf _
  rw [if_neg k2, if_neg k2]
  by_cases k3 : key = 3
  · rw [if_pos k3, if_pos k3]; exact sg2.rf _
  rw [if_neg k3, if_neg k3]
  by_cases k4 : key = 4
  · rw [if_pos k4, if_pos k4]; exact sg2.rf _
  rw [if_neg k4, if_neg k4]
  by_cases k5 : key = 5
  · rw [if_pos k5, if_pos k5]
    unfold nDu dH sg2
    have b5 := bs.2.2.2.2.2.1
    have c5 := bt.2.2.2.2.2.1
    (repeat' split) <;> (rw [wr_id (by unfold okI; omega)]; (try rw [wr_id (by unfold okI; omega)]); constructor <;> constructor <;> intro _ <;> omega)
  rw [if_neg k5, if_neg k5]
  by_cases k6 : key = 6
  · rw [if_pos k6, if_pos k6]; exact sg2.rf _
  rw [if_neg k6, if_neg k6, if_pos (show key = 7 by omega)]
  exact sg2.rf _
theorem ldR_alike {f g : Nat → Int} : ∀ n i : Nat, i + n ≤ 8 → (∀ k, i ≤ k → k < i + n → sg2 (f k) (g k)) → (ldR f n i = 0 ↔ fnz g n i = 0) ∧ (0 < ldR f n i ↔ 0 < fnz g n i) := by
  intro n
  induction n with
  | zero => intro i _ _; exact ⟨Iff.rfl, Iff.rfl⟩
  | succ n ih =>
    intro i hi hs
    have h0 := hs i (Nat.le_refl _) (by omega)
    rw [ldR, fnz]
    by_cases q : f i = 0
    · rw [if_neg (fun e => e q), if_neg (fun e => e (h0.1.mp q))]
      exact ih (i + 1) (by omega) (fun k h1 h2 => hs k (by omega) (by omega))
    · rw [if_pos q, if_pos (fun e => q (h0.1.mpr e))]
      have q2 : g i ≠ 0 := fun e => q (h0.1.mpr e)
      have e1 : wr (((i : Nat) : Int) + 1) = ((i : Nat) : Int) + 1 := wr_id (by unfold okI; omega)
      have e2 : wr (wr (-((i : Nat) : Int)) - 1) = -((i : Nat) : Int) - 1 := by rw [wr_id (show okI (-((i : Nat) : Int)) by unfold okI; omega), wr_id (by unfold okI; omega)]
      have h2 := h0.2
      rw [e1, e2]
      by_cases q3 : 0 < f i
      · rw [if_pos q3]; have := h2.mp q3
        exact ⟨⟨fun e => by omega, fun e => absurd e q2⟩, ⟨fun _ => this, fun _ => by omega⟩⟩
      · rw [if_neg q3]
        have : ¬ 0 < g i := fun e => q3 (h2.mpr e)
        exact ⟨⟨fun e => by omega, fun e => absurd e q2⟩, ⟨fun e => by omega, fun e => absurd e this⟩⟩
/-- the same list of first places that differ, told alike -/
theorem ldR_same {f g : Nat → Int} : ∀ n i : Nat, (∀ k, i ≤ k → k < i + n → sg2 (f k) (g k)) → ldR f n i = ldR g n i := by
  intro n
  induction n with
  | zero => intro i _; rfl
  | succ n ih =>
    intro i hs
    have h0 := hs i (Nat.le_refl _) (by omega)
    rw [ldR, ldR]
    by_cases q : f i = 0
    · rw [if_neg (fun e => e q), if_neg (fun e => e (h0.1.mp q))]
      exact ih (i + 1) (fun k h1 h2 => hs k (by omega) (by omega))
    · rw [if_pos q, if_pos (fun e => q (h0.1.mpr e))]
      by_cases q3 : 0 < f i
      · rw [if_pos q3, if_pos (h0.2.mp q3)]
      · rw [if_neg q3, if_neg (fun e => q3 (h0.2.mpr e))]
theorem ldF_alike (h : RX σ r m τ) {p q st : Int} (hp : 0 ≤ p ∧ p < τ 224 668) (hq : 0 ≤ q ∧ q < τ 224 668) (hst : 0 ≤ st ∧ st < 3) {k : Nat} (hk : ((k : Nat) : Int) < τ 224 8) : sg2 (ldF σ r m p q st k) (nKf τ p q (τ 237 st.toNat) k) := by
  have hK := h.tw.keys
  have e : rAt σ (m + 3) 8 ((k : Nat) : Int) = τ 224 (9 + k) := by rw [rAt_nt (by omega)]; exact h.mill.key hk
  unfold ldF nKf
  rw [e]
  exact mg_alike h (h.kw k hk) hp hq hst
theorem ld_alike (h : RX σ r m τ) {p q st : Int} (hp : 0 ≤ p ∧ p < τ 224 668) (hq : 0 ≤ q ∧ q < τ 224 668) (hst : 0 ≤ st ∧ st < 3) : 0 < ld σ r m p q st ↔ 0 < fnz (nKf τ p q (τ 237 st.toNat)) (τ 224 8).toNat 0 := by
  have hK := h.tw.keys
  unfold ld
  rw [h.mill.keys]
  exact (ldR_alike (τ 224 8).toNat 0 (by omega) (fun k _ hk => ldF_alike h hp hq hst (by omega))).2
/-- who stands there first -/
theorem sd_alike (h : RX σ r m τ) {st mi : Int} (hst : 0 ≤ st ∧ st < 3) : sdF σ r m st mi = nFt τ mi st := by
  have hP0 := h.tw.p0
  unfold sdF nFt
  rw [h.a.1]
  have key : ∀ n : Nat, ((n : Nat) : Int) ≤ τ 224 668 → itr n (sdS σ r m st mi) (-1) = itr n (ftS τ mi st) (-1) := by
    intro n
    induction n with
    | zero => intro _; rfl
    | succ n ih =>
      intro hn
      rw [itr_s, itr_s, ih (by omega)]
      have hc := ft_rg τ mi st n
      generalize itr n (ftS τ mi st) (-1) = c at hc ⊢
      rw [sdS, ftS, h.come (by omega) (by omega), show ((n : Nat) : Int).toNat = n from rfl]
      have hu := h.untaken (p := n) (by omega)
      by_cases q1 : τ 232 n = -1
      · by_cases q2 : mi < nOf τ (τ 231 n) 2
        · rw [if_neg (fun e => by omega), if_pos (Or.inr q2)]
        · rw [if_neg (show ¬ (τ 232 n ≠ -1 ∨ mi < nOf τ (τ 231 n) 2) by omega)]
          by_cases q3 : c = -1
          · rw [if_pos ⟨hu.mpr q1, by omega, Or.inl q3⟩, if_pos (Or.inl q3)]
          · have hl := ld_alike h (p := ((n : Nat) : Int)) (q := c) (st := st) (by omega) (by omega) hst
            have hv : nIa τ ((n : Nat) : Int) c (τ 237 st.toNat) ≠ 0 ↔ 0 < fnz (nKf τ ((n : Nat) : Int) c (τ 237 st.toNat)) (τ 224 8).toNat 0 := by
              unfold nIa nIaV
              generalize fnz (nKf τ ((n : Nat) : Int) c (τ 237 st.toNat)) (τ 224 8).toNat 0 = v
              by_cases z : v = 0
              · rw [if_pos z, if_neg (by omega)]; constructor
                · intro e; exact absurd rfl e
                · intro e; omega
              · rw [if_neg z]
                by_cases z2 : 0 < v
                · rw [if_pos z2]; exact ⟨fun _ => z2, fun _ => by decide⟩
                · rw [if_neg z2]; exact ⟨fun e => absurd rfl e, fun e => absurd e z2⟩
            by_cases q4 : 0 < ld σ r m ((n : Nat) : Int) c st
            · rw [if_pos ⟨hu.mpr q1, by omega, Or.inr q4⟩, if_pos (Or.inr (hv.mpr (hl.mp q4)))]
            · rw [if_neg (fun e => by rcases e.2.2 with e | e; exact q3 e; exact q4 e), if_neg (fun e => by rcases e with e | e; exact q3 e; exact q4 (hl.mpr (hv.mp e)))]
      · rw [if_neg (fun e => q1 (hu.mp e.1)), if_pos (Or.inl q1)]
  exact key (τ 224 668).toNat (by omega)
/-- a piece begun, on the class's side -/
theorem bg_def (σ : Sg) (r m : Nat) (k p st mi : Int) (s sort person cl e : Int) (h1 : rAt σ (r + 2) 60 p = s) (h2 : rAt σ (m + 13) 60 s = sort) (h3 : rAt σ (m + 9) 60 s = person) (h4 : (if rAt σ (r + 22) 3 st = -1 ∨ rAt σ (r + 22) 3 st = sort then 0 else σ m 3) = cl) (h5 : wr (wr (mi + cl) + wr (rAt σ (m + 5) 3 st * rAt σ (r + 4) 60 p)) = e) :
    ∃ σ5 σ8 σ9 : Sg, σ5 = rPut (rPut (rPut (rPut (rPut σ (r + 14) 60 k p) (r + 6) 60 p mi) (r + 8) 60 p (wr (mi + cl))) (r + 10) 60 p e) (r + 12) 60 p st ∧
      σ8 = rPut (rPut (rPut σ5 (r + 16) 60 s (max (rAt σ5 (r + 16) 60 s) e)) (r + 20) 3 st e) (r + 22) 3 st sort ∧
      σ9 = rPut σ8 (r + 24) 8 person (wr (rAt σ8 (r + 24) 8 person + 1)) ∧ bg σ r m k p st mi = su σ9 r 2 (wr (σ9 r 2 + cl)) := by
  subst h1; subst h2; subst h3; subst h4; subst h5
  exact ⟨_, _, _, rfl, rfl, rfl, rfl⟩
theorem bg_at (h : RX σ r m τ) {k p st mi : Int} (hk : 0 ≤ k ∧ k < 60) (hp : 0 ≤ p ∧ p < τ 224 668) (hst : 0 ≤ st ∧ st < max 1 (τ 224 1)) (a j : Nat) : bg σ r m k p st mi a j =
    if a = r ∧ j = 2 then wr (σ r 2 + vbC τ p st)
    else if a = r + 24 ∧ j = (nOf τ (τ 231 p.toNat) 1).toNat then wr (τ 238 (nOf τ (τ 231 p.toNat) 1).toNat + 1)
    else if a = r + 22 ∧ j = st.toNat then nOf τ (τ 231 p.toNat) 3
    else if a = r + 20 ∧ j = st.toNat then vbD τ p st mi
    else if a = r + 16 ∧ j = (τ 231 p.toNat).toNat then max (σ (r + 16) (τ 231 p.toNat).toNat) (vbD τ p st mi)
    else if a = r + 12 ∧ j = p.toNat then st
    else if a = r + 10 ∧ j = p.toNat then vbD τ p st mi
    else if a = r + 8 ∧ j = p.toNat then vbG τ p st mi
    else if a = r + 6 ∧ j = p.toNat then mi
    else if a = r + 14 ∧ j = k.toNat then p
    else σ a j := by
  have hT := h.tw
  have h60 := hT.p60
  have hS := hT.sacks
  have hst3 := hT.stones
  have hs := h.rs.so hp.1 hp.2
  have as := sk_at hT h.mill hs.1 hs.2
  have bs := hT.of hs.1 hs.2
  have ep := h.so hp.1 hp.2
  have est := h.st (st := st) hst.1 (by omega)
  have etn := h.turn (q := nOf τ (τ 231 p.toNat) 1) (by omega) (by omega)
  have epa : rAt σ (m + 5) 3 st = nPa τ st := by
    rw [rAt_lt hst.1 (by omega), h.mill.pace (k := st.toNat) (by omega)]
    unfold nPa
    split
    · rfl
    · congr 1; omega
  have ecl : (if rAt σ (r + 22) 3 st = -1 ∨ rAt σ (r + 22) 3 st = nOf τ (τ 231 p.toNat) 3 then 0 else σ m 3) = vbC τ p st := by
    rw [est.2, h.mill.clean]
    unfold vbC
    by_cases q : τ 237 st.toNat = -1 ∨ τ 237 st.toNat = nOf τ (τ 231 p.toNat) 3
    · rw [if_pos q, if_neg (by omega)]
    · rw [if_neg q, if_pos (by omega)]
  have e16 : ∀ x : Sg, rAt x (r + 16) 60 (τ 231 p.toNat) = x (r + 16) (τ 231 p.toNat).toNat := fun x => rAt_lt hs.1 (by omega)
  have e24 : ∀ x : Sg, rAt x (r + 24) 8 (nOf τ (τ 231 p.toNat) 1) = x (r + 24) (nOf τ (τ 231 p.toNat) 1).toNat := fun x => rAt_lt (by omega) (by omega)
  have e238 : σ (r + 24) (nOf τ (τ 231 p.toNat) 1).toNat = τ 238 (nOf τ (τ 231 p.toNat) 1).toNat := by rw [← e24 σ]; exact etn
  obtain ⟨σ5, σ8, σ9, d5, d8, d9, db⟩ := bg_def σ r m k p st mi (τ 231 p.toNat) (nOf τ (τ 231 p.toNat) 3) (nOf τ (τ 231 p.toNat) 1) (vbC τ p st) (vbD τ p st mi) ep.1 as.2.2.2.1 as.2.1 ecl (by rw [epa, ep.2]; rfl)
  have P : ∀ (x : Sg) (c n : Nat) (i v : Int) (a j : Nat), 0 ≤ i → i < ((n : Nat) : Int) → rPut x c n i v a j = if a = c ∧ j = i.toNat then v else x a j := fun x c n i v a j h0 h1 => rPut_at h0 h1 a j
  have b1 : (0 : Int) ≤ nOf τ (τ 231 p.toNat) 1 ∧ nOf τ (τ 231 p.toNat) 1 < ((8 : Nat) : Int) := ⟨by omega, by omega⟩
  have b2 : st < ((3 : Nat) : Int) := by omega
  have b3 : τ 231 p.toNat < ((60 : Nat) : Int) := by omega
  have b4 : p < ((60 : Nat) : Int) := by omega
  have b5 : k < ((60 : Nat) : Int) := by omega
  have f5 : ∀ a j, σ5 a j = if a = r + 12 ∧ j = p.toNat then st else if a = r + 10 ∧ j = p.toNat then vbD τ p st mi else if a = r + 8 ∧ j = p.toNat then vbG τ p st mi else if a = r + 6 ∧ j = p.toNat then mi else if a = r + 14 ∧ j = k.toNat then p else σ a j := by
    intro a j
    rw [d5, P _ _ _ _ _ _ _ hp.1 b4, P _ _ _ _ _ _ _ hp.1 b4, P _ _ _ _ _ _ _ hp.1 b4, P _ _ _ _ _ _ _ hp.1 b4, P _ _ _ _ _ _ _ hk.1 b5]
    rfl
  have g16 : rAt σ5 (r + 16) 60 (τ 231 p.toNat) = σ (r + 16) (τ 231 p.toNat).toNat := by
    rw [e16, f5]; (repeat rw [if_neg (by omega)])
  have f8 : ∀ a j, σ8 a j = if a = r + 22 ∧ j = st.toNat then nOf τ (τ 231 p.toNat) 3 else if a = r + 20 ∧ j = st.toNat then vbD τ p st mi else if a = r + 16 ∧ j = (τ 231 p.toNat).toNat then max (σ (r + 16) (τ 231 p.toNat).toNat) (vbD τ p st mi) else σ5 a j := by
    intro a j
    rw [d8, g16, P _ _ _ _ _ _ _ hst.1 b2, P _ _ _ _ _ _ _ hst.1 b2, P _ _ _ _ _ _ _ hs.1 b3]
  have g24 : rAt σ8 (r + 24) 8 (nOf τ (τ 231 p.toNat) 1) = τ 238 (nOf τ (τ 231 p.toNat) 1).toNat := by
    rw [e24, f8, f5]; (repeat rw [if_neg (by omega)]); exact e238
  have f9 : ∀ a j, σ9 a j = if a = r + 24 ∧ j = (nOf τ (τ 231 p.toNat) 1).toNat then wr (τ 238 (nOf τ (τ 231 p.toNat) 1).toNat + 1) else σ8 a j := by
    intro a j
    rw [d9, g24, P _ _ _ _ _ _ _ b1.1 b1.2]
  have g2 : σ9 r 2 = σ r 2 := by
    rw [f9, f8, f5]; (repeat rw [if_neg (by omega)])
  rw [db, g2]
  by_cases q : a = r ∧ j = 2
  · obtain ⟨rfl, rfl⟩ := q
    rw [su_same, if_pos ⟨rfl, rfl⟩]
  · rw [su_ne _ _ (by omega), if_neg q, f9, f8, f5]
end AL
