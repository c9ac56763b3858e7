/-! The model's best order, partings, fees: recursions as functions, what they keep -/
theorem nCp_at (σ : Sg) {s d : Nat} (hsd : s ≠ d) (a j : Nat) : nCp σ s d a j = if a = d ∧ j < 672 then σ s j else σ a j := by
  have h : ∀ n a j, itr n (nCpS s d) σ a j = if a = d ∧ j < n then σ s j else σ a j := by
    intro n
    induction n with
    | zero => intro a j; rw [if_neg (by omega)]; rfl
    | succ n ih =>
      intro a j
      rw [itr_s, nCpS, ih s n, if_neg (fun q => hsd q.1)]
      by_cases q : a = d ∧ j = n
      · obtain ⟨rfl, rfl⟩ := q
        rw [su_same, if_pos ⟨rfl, by omega⟩]
      · rw [su_ne _ _ (by omega), ih a j]
        by_cases q3 : a = d ∧ j < n
        · rw [if_pos q3, if_pos ⟨q3.1, by omega⟩]
        · rw [if_neg q3, if_neg (by omega)]
  exact h 672 a j
theorem nCp_ne (σ : Sg) {s d : Nat} (hsd : s ≠ d) {a : Nat} (ha : a ≠ d) : nCp σ s d a = σ a := by
  funext j; rw [nCp_at σ hsd, if_neg (fun q => ha q.1)]
theorem nCp_lo (σ : Sg) {s d : Nat} (hsd : s ≠ d) {j : Nat} (hj : j < 672) : nCp σ s d d j = σ s j := by
  rw [nCp_at σ hsd, if_pos ⟨rfl, hj⟩]
theorem tPre_cg {t t' : Nat → Int} : ∀ n : Nat, n ≤ 90 → (∀ j, j < 672 → t' j = t j) → tPre t' n = tPre t n := by
  intro n
  induction n with
  | zero => intro _ _; rfl
  | succ n ih =>
    intro hn h
    have e3 : ∀ t, tPre t (n + 1) = tPre t n + tM t n := fun t => rfl
    rw [e3, e3, ih (by omega) h]
    show _ + t' _ = _ + t _
    rw [h _ (by omega)]
theorem TW_cg {t t' : Nat → Int} (h : ∀ j, j < 672 → t' j = t j) (hT : TW t) : TW t' := by
  have hS := hT.sacks
  have h60 := hT.p60
  have hst := hT.stones
  refine ⟨?_, ?_, ?_, ?_, ?_, ?_, ?_, ?_, ⟨?_, ?_⟩, ?_⟩
  · rw [h _ (by omega)]; exact hT.stones
  · rw [h _ (by omega)]; exact hT.clean
  · rw [h _ (by omega)]; exact hT.fee
  · rw [h _ (by omega)]; exact hT.sacks
  · rw [h _ (by omega)]; exact hT.keys
  · rw [h _ (by omega)]; exact hT.small
  · intro k hk; rw [h _ (by omega)] at hk ⊢; exact hT.pace k hk
  · intro k hk
    rw [h _ (by omega)] at hk
    have h5 := hT.sk k hk
    unfold TSk
    rw [h _ (by omega), h _ (by omega), h _ (by omega), h _ (by omega), h _ (by omega), h _ (by omega), h _ (by omega)]
    exact h5
  · rw [h _ (by omega), h _ (by omega), tPre_cg _ (by omega) h]; exact hT.sum
  · rw [h _ (by omega)]; exact h60
  · intro p hp; rw [h _ (by omega)] at hp ⊢; exact hT.pound p hp
/-- a row kept apart, and put back -/
def Eq6 (t t' : Nat → Int) : Prop := ∀ j, j < 672 → t' j = t j
theorem nOf_6 {σ σ' : Sg} (h : Eq6 (σ 224) (σ' 224)) {s w : Int} (hs : 0 ≤ s ∧ s ≤ 90) (hw : 0 ≤ w ∧ w ≤ 6) : nOf σ' s w = nOf σ s w := by unfold nOf; exact h _ (by omega)
/-! orders -/
def obS (k : Nat) (x : Sg) : Sg := su x 241 k (x 240 k)
def orL (σ : Sg) (d : Nat) : Sg := if nCoo σ 223 31 ≠ -1 ∧ nCoo σ 223 31 ≤ nCo (nCoo σ) then nCoo σ else itr d obS (su (nCoo σ) 223 31 (nCo (nCoo σ)))
def orS (rec : Int → Nat → Sg → Sg) (used : Int) (d : Nat) (p : Nat) (x : Sg) : Sg := if wand (wshr used ((p : Nat) : Int)) 1 = 1 then x else rec (wor used (wshl 1 ((p : Nat) : Int))) (d + 1) (su x 240 d ((p : Nat) : Int))
def orF : Nat → Int → Nat → Sg → Sg
  | 0, _, _, σ => σ
  | n + 1, used, d, σ => if ((d : Nat) : Int) = σ 224 668 then orL σ d else itr (σ 224 668).toNat (orS (orF n) used d) σ
theorem obS_ne (n : Nat) (x : Sg) {a : Nat} (h : a ≠ 241) : itr n obS x a = x a := by
  induction n with
  | zero => rfl
  | succ n ih => funext j; rw [itr_s, obS, su_ne _ _ (Or.inl h), ih]
theorem orL_ne {σ : Sg} (hT : TW (σ 224)) (d : Nat) : orL σ d 224 = σ 224 ∧ orL σ d 240 = σ 240 := by
  rw [orL]; split
  · exact ⟨nCoo_224 hT, nCoo_240 hT⟩
  · rw [obS_ne _ _ (by decide), obS_ne _ _ (by decide)]
    exact ⟨nCoo_224 hT, nCoo_240 hT⟩
theorem orF_kp : ∀ (n : Nat) (used : Int) (d : Nat) (σ : Sg), TW (σ 224) → orF n used d σ 224 = σ 224 ∧ ∀ k, k < d → orF n used d σ 240 k = σ 240 k := by
  intro n
  induction n with
  | zero => intro used d σ _; exact ⟨rfl, fun k _ => rfl⟩
  | succ n ih =>
    intro used d σ hT
    rw [orF]; split
    · have h := orL_ne hT d
      exact ⟨h.1, fun k _ => by rw [h.2]⟩
    · refine itr_inv (fun _ (x : Sg) => x 224 = σ 224 ∧ ∀ k, k < d → x 240 k = σ 240 k) _ _ σ ⟨rfl, fun k _ => rfl⟩ (fun p y hp hy => ?_)
      rw [orS]; split
      · exact hy
      · have h := ih (wor used (wshl 1 ((p : Nat) : Int))) (d + 1) (su y 240 d ((p : Nat) : Int)) (show TW (y 224) by rw [hy.1]; exact hT)
        refine ⟨h.1.trans hy.1, fun k hk => ?_⟩
        rw [h.2 k (by omega), su_ne _ _ (Or.inr (by omega))]; exact hy.2 k hk
theorem orI_kp (n : Nat) (used : Int) (d : Nat) {σ : Sg} (hT : TW (σ 224)) (m : Nat) : itr m (orS (orF n) used d) σ 224 = σ 224 ∧ ∀ k, k < d → itr m (orS (orF n) used d) σ 240 k = σ 240 k := by
  refine itr_inv (fun _ (x : Sg) => x 224 = σ 224 ∧ ∀ k, k < d → x 240 k = σ 240 k) _ _ σ ⟨rfl, fun k _ => rfl⟩ (fun p y hp hy => ?_)
  rw [orS]; split
  · exact hy
  · have h := orF_kp n (wor used (wshl 1 ((p : Nat) : Int))) (d + 1) (su y 240 d ((p : Nat) : Int)) (show TW (y 224) by rw [hy.1]; exact hT)
    refine ⟨h.1.trans hy.1, fun k hk => ?_⟩
    rw [h.2 k (by omega), su_ne _ _ (Or.inr (by omega))]; exact hy.2 k hk
def nSk0 (σ : Sg) : Sg := orF 9 0 0 (su σ 223 31 (-1))
theorem nSk0_224 {σ : Sg} (hT : TW (σ 224)) : nSk0 σ 224 = σ 224 := (orF_kp 9 0 0 (su σ 223 31 (-1)) hT).1
def nBsV (x : Sg) (k : Int) : Int := if k = -1 then x 223 31 else if wth k 0 (wr (x 224 668 - 1)) = 0 then -1 else x 241 k.toNat
def nBs (σ : Sg) (k : Int) : Int × Sg := if 8 < σ 224 668 then (-2, nT0 σ) else (nBsV (nSk0 (nT0 σ)) k, nSk0 (nT0 σ))
def nGp (σ : Sg) : Int × Sg := if 1 < max 1 (σ 224 1) then (-1, nT0 σ) else if 8 < σ 224 668 then (-2, nT0 σ) else (wr (nCo (nRu (nSk0 (nT0 σ))) - nRu (nSk0 (nT0 σ)) 223 31), nRu (nSk0 (nT0 σ)))
/-! partings -/
def nPcO (x : Sg) (s : Int) : Int := wr (wr (nOf x s 4 * nWa x s) + wr (x 224 3 * nOf x s 6))
def jgS (k : Nat) (x : Sg) : Sg := su x 230 k (x 242 k)
def jbS (k : Nat) (x : Sg) : Sg := su x 243 k (x 242 k)
def jg1 (σ : Sg) (s : Int) (n : Nat) : Sg := nPts (itr n jgS σ) s ((n : Nat) : Int)
def jg2 (σ : Sg) (s : Int) (n : Nat) : Sg := nRu (jg1 σ s n)
def jgB (y : Sg) (v many : Int) : Prop := y 223 34 ≠ -1 ∧ (y 223 35 < v ∨ (v = y 223 35 ∧ y 223 34 ≤ many))
def jg3 (y : Sg) (v : Int) (n : Nat) : Sg := itr n jbS (su (su y 223 35 v) 223 34 ((n : Nat) : Int))
def nJg (σ : Sg) (s : Int) (n : Nat) : Sg :=
  if 60 < σ 224 668 - nOf σ s 6 + ((n : Nat) : Int) then σ
  else if jg2 σ s n 223 34 ≠ -1 ∧ (jg2 σ s n 223 35 < nPcO (jg2 σ s n) s ∨ (nPcO (jg2 σ s n) s = jg2 σ s n 223 35 ∧ jg2 σ s n 223 34 ≤ ((n : Nat) : Int))) then jg2 σ s n
  else jg3 (jg2 σ s n) (nPcO (jg2 σ s n) s) n
theorem jgS_ne (n : Nat) (x : Sg) {a : Nat} (h : a ≠ 230) : itr n jgS x a = x a := by
  induction n with
  | zero => rfl
  | succ n ih => funext j; rw [itr_s, jgS, su_ne _ _ (Or.inl h), ih]
theorem jgS_at (n : Nat) (x : Sg) (k : Nat) (hk : k < n) : itr n jgS x 230 k = x 242 k := by
  induction n with
  | zero => omega
  | succ n ih =>
    rw [itr_s, jgS, jgS_ne n x (by decide)]
    by_cases q : k = n
    · subst q; rw [su_same]
    · rw [su_ne _ _ (Or.inr q)]; exact ih (by omega)
theorem jbS_ne (n : Nat) (x : Sg) {a : Nat} (h : a ≠ 243) : itr n jbS x a = x a := by
  induction n with
  | zero => rfl
  | succ n ih => funext j; rw [itr_s, jbS, su_ne _ _ (Or.inl h), ih]
/-- pounds tried, in bounds -/
def Tr9 (σ : Sg) (n : Nat) : Prop := ∀ k : Nat, k < n → 1 ≤ σ 242 k ∧ σ 242 k ≤ 99
/-- what the partings of a sack keep of what is told -/
def Kp (σ x : Sg) : Prop := TW (x 224) ∧ x 224 4 = σ 224 4 ∧ ∀ k, k < 8 → x 242 k = σ 242 k
theorem nRu_242 (σ : Sg) : nRu σ 242 = σ 242 := nRu_ne σ (by omega)
theorem jg1_kp {σ : Sg} (hT : TW (σ 224)) {s : Int} (h0 : 0 ≤ s) (h1 : s < σ 224 4) {n : Nat} (hn : 1 ≤ n ∧ n ≤ 8) (ht : Tr9 σ n) (hp : σ 224 668 - nOf σ s 6 + ((n : Nat) : Int) ≤ 60) : TW (jg1 σ s n 224) ∧ jg1 σ s n 224 4 = σ 224 4 ∧ jg1 σ s n 242 = σ 242 := by
  have e : itr n jgS σ 224 = σ 224 := jgS_ne n σ (by decide)
  have hT2 : TW (itr n jgS σ 224) := by rw [e]; exact hT
  have hp2 : itr n jgS σ 224 668 - nOf (itr n jgS σ) s 6 + ((n : Nat) : Int) ≤ 60 := by rw [nOf_of e, e]; exact hp
  have h12 : s < itr n jgS σ 224 4 := by rw [e]; exact h1
  refine ⟨TW_pts hT2 h0 h12 (by omega) hp2 (fun k hk => ?_), ?_, ?_⟩
  · rw [jgS_at n σ k (by omega)]; exact ht k (by omega)
  · rw [jg1, nPts_4 hT2 h0 h12 (by omega) hp2, e]
  · rw [jg1, nPts_ne hT2 h0 h12 (by omega) hp2 (by decide), jgS_ne n σ (by decide)]
theorem jg2_kp {σ : Sg} (hT : TW (σ 224)) {s : Int} (h0 : 0 ≤ s) (h1 : s < σ 224 4) {n : Nat} (hn : 1 ≤ n ∧ n ≤ 8) (ht : Tr9 σ n) (hp : σ 224 668 - nOf σ s 6 + ((n : Nat) : Int) ≤ 60) : TW (jg2 σ s n 224) ∧ jg2 σ s n 224 4 = σ 224 4 ∧ jg2 σ s n 242 = σ 242 := by
  obtain ⟨k1, k2, k3⟩ := jg1_kp hT h0 h1 hn ht hp
  refine ⟨TW_ru k1, ?_, ?_⟩
  · rw [jg2, nRu_224 k1, k2]
  · rw [jg2, nRu_242, k3]
theorem nJg_kp {σ : Sg} (hT : TW (σ 224)) {s : Int} (h0 : 0 ≤ s) (h1 : s < σ 224 4) {n : Nat} (hn : 1 ≤ n ∧ n ≤ 8) (ht : Tr9 σ n) : TW (nJg σ s n 224) ∧ nJg σ s n 224 4 = σ 224 4 ∧ nJg σ s n 242 = σ 242 := by
  rw [nJg]; split
  · exact ⟨hT, rfl, rfl⟩
  · next q =>
    have h := jg2_kp hT h0 h1 hn ht (by omega)
    split
    · exact h
    · rw [jg3, jbS_ne _ _ (by decide), jbS_ne _ _ (by decide)]
      exact h
def trS (rec : Int → Int → Nat → Sg → Sg) (left P : Int) (d : Nat) (i : Nat) (x : Sg) : Sg := rec (left - (P - ((i : Nat) : Int))) (P - ((i : Nat) : Int)) (d + 1) (su x 242 d (P - ((i : Nat) : Int)))
def trF (s n : Int) : Nat → Int → Int → Nat → Sg → Sg
  | 0, _, _, _, σ => σ
  | f + 1, left, most, d, σ => if left = 0 then nJg σ s d else if ((d : Nat) : Int) < n then itr (min left most).toNat (trS (trF s n f) left (min left most) d) σ else σ
/-- what the search through the partings keeps -/
def KT (σ x : Sg) (d : Nat) : Prop := TW (x 224) ∧ x 224 4 = σ 224 4 ∧ ∀ k, k < d → x 242 k = σ 242 k
theorem trI_kp (s n : Int) (f : Nat) (ih : ∀ (left most : Int) (d : Nat) (σ : Sg), TW (σ 224) → 0 ≤ s ∧ s < σ 224 4 → 0 ≤ left → left ≤ 99 → (left = 0 → 1 ≤ d) → d ≤ 7 → Tr9 σ d → KT σ (trF s n f left most d σ) d) {left most : Int} {d : Nat} {σ : Sg} (hT : TW (σ 224)) (hs : 0 ≤ s ∧ s < σ 224 4) (h9 : left ≤ 99) (hd : d ≤ 6) (ht : Tr9 σ d) (m : Nat) (hm : ((m : Nat) : Int) ≤ min left most) : KT σ (itr m (trS (trF s n f) left (min left most) d) σ) d := by
  refine itr_inv (fun _ (x : Sg) => KT σ x d) _ _ σ ⟨hT, rfl, fun k _ => rfl⟩ (fun i y hi hy => ?_)
  have hPi : 1 ≤ min left most - ((i : Nat) : Int) ∧ min left most - ((i : Nat) : Int) ≤ left := by omega
  have ht2 : Tr9 (su y 242 d (min left most - ((i : Nat) : Int))) (d + 1) := by
    intro k hk
    by_cases e : k = d
    · subst e; rw [su_same]; omega
    · rw [su_ne _ _ (Or.inr e), hy.2.2 k (by omega)]; exact ht k (by omega)
  have h := ih (left - (min left most - ((i : Nat) : Int))) (min left most - ((i : Nat) : Int)) (d + 1) (su y 242 d (min left most - ((i : Nat) : Int))) hy.1 (by show 0 ≤ s ∧ s < y 224 4; rw [hy.2.1]; exact hs) (by omega) (by omega) (by omega) (by omega) ht2
  refine ⟨h.1, h.2.1.trans hy.2.1, fun k hk => ?_⟩
  rw [trS, h.2.2 k (by omega), su_ne _ _ (Or.inr (by omega))]; exact hy.2.2 k hk
theorem trF_kp (s n : Int) (hn : n ≤ 6) : ∀ (f : Nat) (left most : Int) (d : Nat) (σ : Sg), TW (σ 224) → 0 ≤ s ∧ s < σ 224 4 → 0 ≤ left → left ≤ 99 → (left = 0 → 1 ≤ d) → d ≤ 7 → Tr9 σ d → KT σ (trF s n f left most d σ) d := by
  intro f
  induction f with
  | zero => intro left most d σ hT _ _ _ _ _ _; exact ⟨hT, rfl, fun k _ => rfl⟩
  | succ f ih =>
    intro left most d σ hT hs h0 h9 hz hd ht
    rw [trF]; split
    · next q =>
      have h := nJg_kp hT hs.1 hs.2 (n := d) ⟨hz q, by omega⟩ ht
      exact ⟨h.1, h.2.1, fun k _ => by rw [h.2.2]⟩
    · next q =>
      split
      · by_cases q2 : 0 ≤ min left most
        · exact trI_kp s n f ih hT hs h9 (by omega) ht _ (by omega)
        · rw [show (min left most).toNat = 0 by omega]; exact ⟨hT, rfl, fun k _ => rfl⟩
      · exact ⟨hT, rfl, fun k _ => rfl⟩
/-- the best parting sought; what is told is put back -/
def nSe1 (σ : Sg) : Sg := su σ 223 34 (-1)
def nSe2 (σ : Sg) (s n : Int) : Sg := trF s n 7 (nOf σ s 0) (nOf σ s 0) 0 (nCp (nSe1 σ) 224 226)
def nSe (σ : Sg) (s n : Int) : Int × Sg := if 1 < n ∧ 30 < nOf σ s 0 then (0, nSe1 σ) else (1, nCp (nSe2 σ s n) 226 224)
theorem jgS_226 (n : Nat) (x : Sg) : itr n jgS x 226 = x 226 := jgS_ne n x (by decide)
theorem nJg_ne {σ : Sg} (hT : TW (σ 224)) {s : Int} (h0 : 0 ≤ s) (h1 : s < σ 224 4) {n : Nat} (hn : 1 ≤ n ∧ n ≤ 8) {a : Nat} (ha : a = 226 ∨ a = 244 ∨ a = 245 ∨ a = 246 ∨ a = 247 ∨ a = 227 ∨ a = 228 ∨ a = 229 ∨ a = 225 ∨ a = 240 ∨ a = 241 ∨ a < 223) : nJg σ s n a = σ a := by
  have e : itr n jgS σ 224 = σ 224 := jgS_ne n σ (by decide)
  have hT2 : TW (itr n jgS σ 224) := by rw [e]; exact hT
  rw [nJg]; split
  · rfl
  · next q =>
    have hp2 : itr n jgS σ 224 668 - nOf (itr n jgS σ) s 6 + ((n : Nat) : Int) ≤ 60 := by rw [nOf_of e, e]; omega
    have h12 : s < itr n jgS σ 224 4 := by rw [e]; exact h1
    have g : jg2 σ s n a = σ a := by
      rw [jg2, nRu_ne _ (by omega), jg1, nPts_ne hT2 h0 h12 (by omega) hp2 (by omega), jgS_ne n σ (by omega)]
    split
    · exact g
    · rw [jg3, jbS_ne _ _ (by omega)]
      funext j
      rw [su_ne _ _ (Or.inl (by omega)), su_ne _ _ (Or.inl (by omega)), g]
theorem trF_ne (s n : Int) (hn : n ≤ 6) : ∀ (f : Nat) (left most : Int) (d : Nat) (σ : Sg), TW (σ 224) → 0 ≤ s ∧ s < σ 224 4 → 0 ≤ left → left ≤ 99 → (left = 0 → 1 ≤ d) → d ≤ 7 → Tr9 σ d → ∀ {a : Nat}, (a = 226 ∨ a = 244 ∨ a = 245 ∨ a = 246 ∨ a = 247 ∨ a = 227 ∨ a = 228 ∨ a = 229 ∨ a = 225 ∨ a = 240 ∨ a = 241 ∨ a < 223) → trF s n f left most d σ a = σ a := by
  intro f
  induction f with
  | zero => intro left most d σ hT _ _ _ _ _ _ a _; rfl
  | succ f ih =>
    intro left most d σ hT hs h0 h9 hz hd ht a ha
    rw [trF]; split
    · next q => exact nJg_ne hT hs.1 hs.2 (n := d) ⟨hz q, by omega⟩ ha
    · next q =>
      split
      · next qn =>
        refine (itr_inv (fun k (x : Sg) => KT σ x d ∧ x a = σ a) _ _ σ ⟨⟨hT, rfl, fun k _ => rfl⟩, rfl⟩ (fun i y hi hy => ?_)).2
        obtain ⟨hy, hya⟩ := hy
        have hPi : 1 ≤ min left most - ((i : Nat) : Int) ∧ min left most - ((i : Nat) : Int) ≤ left := by omega
        have ht2 : Tr9 (su y 242 d (min left most - ((i : Nat) : Int))) (d + 1) := by
          intro k hk
          by_cases e : k = d
          · subst e; rw [su_same]; omega
          · rw [su_ne _ _ (Or.inr e), hy.2.2 k (by omega)]; exact ht k (by omega)
        have hs2 : 0 ≤ s ∧ s < y 224 4 := by rw [hy.2.1]; exact hs
        have h := trF_kp s n hn f (left - (min left most - ((i : Nat) : Int))) (min left most - ((i : Nat) : Int)) (d + 1) (su y 242 d (min left most - ((i : Nat) : Int))) hy.1 hs2 (by omega) (by omega) (by omega) (by omega) ht2
        have h2 := ih (left - (min left most - ((i : Nat) : Int))) (min left most - ((i : Nat) : Int)) (d + 1) (su y 242 d (min left most - ((i : Nat) : Int))) hy.1 hs2 (by omega) (by omega) (by omega) (by omega) ht2 ha
        refine ⟨⟨h.1, h.2.1.trans hy.2.1, fun k hk => ?_⟩, ?_⟩
        · rw [trS, h.2.2 k (by omega), su_ne _ _ (Or.inr (by omega))]; exact hy.2.2 k hk
        · rw [trS, h2]; funext j; rw [su_ne _ _ (Or.inl (by omega)), hya]
      · rfl
theorem nSe_pre {σ : Sg} (hT : TW (σ 224)) : nCp (nSe1 σ) 224 226 224 = σ 224 := nCp_ne _ (by decide) (by decide)
/-- behind a search what is told is as it was -/
theorem nSe_6 {σ : Sg} (hT : TW (σ 224)) {s n : Int} (hs : 0 ≤ s ∧ s < σ 224 4) (hn : n ≤ 6) : Eq6 (σ 224) ((nSe σ s n).2 224) := by
  intro j hj
  rw [nSe]; split
  · rfl
  · have hh := (hT.of hs.1 hs.2).1
    have e := nSe_pre hT
    show nCp (nSe2 σ s n) 226 224 224 j = _
    rw [nCp_lo _ (by decide) hj, nSe2, trF_ne s n hn 7 _ _ 0 _ (by rw [e]; exact hT) (by rw [e]; exact hs) (by omega) (by omega) (by omega) (by omega) (fun k hk => by omega) (Or.inl rfl), nCp_lo _ (by decide) hj]
    rfl
theorem nSe2_kp {σ : Sg} (hT : TW (σ 224)) {s n : Int} (hs : 0 ≤ s ∧ s < σ 224 4) (hn : n ≤ 6) : TW (nSe2 σ s n 224) := by
  have hh := (hT.of hs.1 hs.2).1
  have e := nSe_pre hT
  exact (trF_kp s n hn 7 _ _ 0 _ (by rw [e]; exact hT) (by rw [e]; exact hs) (by omega) (by omega) (by omega) (by omega) (fun k hk => by omega)).1
theorem TW_se {σ : Sg} (hT : TW (σ 224)) {s n : Int} (hs : 0 ≤ s ∧ s < σ 224 4) (hn : n ≤ 6) : TW ((nSe σ s n).2 224) := TW_cg (nSe_6 hT hs hn) hT
