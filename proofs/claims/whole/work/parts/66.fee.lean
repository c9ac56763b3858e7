/-! The model's settling, fees, changes of one number, strangers: what they keep -/
theorem TW_sets {σ : Sg} (hT : TW (σ 224)) {s w v : Int} (h0 : 0 ≤ s) (h1 : s < σ 224 4) (hw : (w = 0 ∧ 1 ≤ v ∧ v ≤ 99) ∨ (w = 2 ∧ 0 ≤ v ∧ v ≤ 600)) : TW (nSets σ s w v 224) ∧ nSets σ s w v 224 4 = σ 224 4 := by
  have hS := hT.sacks
  have h60 := hT.p60
  have hst := hT.stones
  have e : ∀ j : Nat, nSets σ s w v 224 j = if ((j : Nat) : Int) = 20 + 7 * s + w then v else σ 224 j := by
    intro j
    rw [nSets]
    by_cases q : ((j : Nat) : Int) = 20 + 7 * s + w
    · rw [if_pos q, show (20 + 7 * s + w).toNat = j by omega, su_same]
    · rw [if_neg q, su_ne _ _ (Or.inr (by omega))]
  have lo : ∀ {j : Nat}, (j < 20 ∨ 600 ≤ j) → nSets σ s w v 224 j = σ 224 j := fun {j} hj => by rw [e, if_neg (by omega)]
  have hp : ∀ n : Nat, tPre (nSets σ s w v 224) n = tPre (σ 224) n := by
    intro n
    induction n with
    | zero => rfl
    | succ n ih =>
      have e3 : ∀ t, tPre t (n + 1) = tPre t n + tM t n := fun t => rfl
      rw [e3, e3, ih]
      show _ + nSets σ s w v 224 (20 + 7 * n + 6) = _ + σ 224 (20 + 7 * n + 6)
      rw [e, if_neg (by omega)]
  refine ⟨⟨?_, ?_, ?_, ?_, ?_, ?_, ?_, ?_, ⟨?_, ?_⟩, ?_⟩, ?_⟩
  · rw [lo (by omega)]; exact hT.stones
  · rw [lo (by omega)]; exact hT.clean
  · rw [lo (by omega)]; exact hT.fee
  · rw [lo (by omega)]; exact hT.sacks
  · rw [lo (by omega)]; exact hT.keys
  · rw [lo (by omega)]; exact hT.small
  · intro k hk; rw [lo (by omega)] at hk; rw [lo (by omega)]; exact hT.pace k hk
  · intro k hk
    rw [lo (by omega)] at hk
    have h5 := hT.sk k hk
    unfold TSk at h5 ⊢
    rw [e, e, e, e, e, e, e]
    refine ⟨?_, ?_, ?_, ?_, ?_, ?_, ?_⟩
    · split
      · omega
      · exact h5.1
    · rw [if_neg (by omega)]; exact h5.2.1
    · split
      · omega
      · exact h5.2.2.1
    · rw [if_neg (by omega)]; exact h5.2.2.2.1
    · rw [if_neg (by omega)]; exact h5.2.2.2.2.1
    · rw [if_neg (by omega)]; exact h5.2.2.2.2.2.1
    · rw [if_neg (by omega)]; exact h5.2.2.2.2.2.2
  · rw [lo (by omega), lo (by omega), hp]; exact hT.sum
  · rw [lo (by omega)]; exact h60
  · intro p hpp; rw [lo (by omega)] at hpp; rw [lo (by omega)]; exact hT.pound p hpp
  · exact lo (by omega)
/-- what a found parting is bounded by -/
def Bq (B : Int) (n : Int) (x : Sg) : Prop := x 223 34 = -1 ∨ ((1 ≤ x 223 34 ∧ x 223 34 ≤ n) ∧ B + x 223 34 ≤ 60 ∧ ∀ k : Nat, ((k : Nat) : Int) < x 223 34 → 1 ≤ x 243 k ∧ x 243 k ≤ 99)
def Bs (x : Sg) (s : Int) : Int := x 224 668 - nOf x s 6
theorem Bs_pts {σ : Sg} (hT : TW (σ 224)) {s many : Int} (h0 : 0 ≤ s) (h1 : s < σ 224 4) (hm : 1 ≤ many ∧ many ≤ 8) (hp : σ 224 668 - nOf σ s 6 + many ≤ 60) : Bs (nPts σ s many) s = Bs σ s := by
  have hS := hT.sacks
  unfold Bs
  rw [nPts_all hT h0 h1 hm hp, nOf_t (nPts σ s many) h0 (by decide), nPts_lo hT h0 h1 hm hp (by show 20 + 7 * s.toNat + 6 < 608; omega), if_pos (by show ((20 + 7 * s.toNat + 6 : Nat) : Int) = _; omega)]
  omega
theorem Bs_of {σ x : Sg} (h : x 224 = σ 224) (s : Int) : Bs x s = Bs σ s := by unfold Bs; rw [nOf_of h, h]
theorem jbS_at (n : Nat) (x : Sg) (k : Nat) (hk : k < n) : itr n jbS x 243 k = x 242 k := by
  induction n with
  | zero => omega
  | succ n ih =>
    rw [itr_s, jbS, jbS_ne n x (by decide)]
    by_cases q : k = n
    · subst q; rw [su_same]
    · rw [su_ne _ _ (Or.inr q)]; exact ih (by omega)
theorem nRu_223 (σ : Sg) {j : Nat} (hj : j ≠ 27 ∧ j ≠ 28) : nRu σ 223 j = σ 223 j := by
  have h1 : ∀ (n : Nat) (x : Sg) (mi : Int), nRuR n x mi 223 j = x 223 j := by
    intro n
    induction n with
    | zero => intro x mi; rfl
    | succ n ih =>
      intro x mi
      rw [nRuR]; split
      · rw [ih]
        have h2 : ∀ k, itr k (rnS mi) x 223 j = x 223 j := by
          intro k
          induction k with
          | zero => rfl
          | succ k ih2 =>
            rw [itr_s, rnS]; (repeat' split) <;> first | exact ih2 | (rw [nBg_f _ _ _ _ hj]; exact ih2)
        exact h2 _
      · rfl
  rw [nRu, h1, nFg_at, if_neg (by omega), if_neg (by omega), fgC, rFill_ne (by decide), rFill_ne (by decide), fgB, rFill_ne (by decide), fgA, su_ne _ _ (Or.inr hj.2), su_ne _ _ (Or.inr hj.1)]
theorem nPts_223 {σ : Sg} (hT : TW (σ 224)) {s many : Int} (h0 : 0 ≤ s) (h1 : s < σ 224 4) (hm : 1 ≤ many ∧ many ≤ 8) (hp : σ 224 668 - nOf σ s 6 + many ≤ 60) : nPts σ s many 223 = σ 223 := nPts_ne hT h0 h1 hm hp (by decide)
theorem nJg_bq {σ : Sg} (hT : TW (σ 224)) {s : Int} (h0 : 0 ≤ s) (h1 : s < σ 224 4) {d : Nat} (hd : 1 ≤ d ∧ d ≤ 8) (ht : Tr9 σ d) {B n : Int} (hB : Bs σ s = B) (hn : ((d : Nat) : Int) ≤ n) (hq : Bq B n σ) : Bs (nJg σ s d) s = B ∧ Bq B n (nJg σ s d) := by
  have e : itr d jgS σ 224 = σ 224 := jgS_ne d σ (by decide)
  have hT2 : TW (itr d jgS σ 224) := by rw [e]; exact hT
  have h12 : s < itr d jgS σ 224 4 := by rw [e]; exact h1
  rw [nJg]; split
  · exact ⟨hB, hq⟩
  · next q =>
    have hp2 : itr d jgS σ 224 668 - nOf (itr d jgS σ) s 6 + ((d : Nat) : Int) ≤ 60 := by rw [nOf_of e, e]; omega
    have k := jg1_kp hT h0 h1 hd ht (by omega)
    have b1 : Bs (jg2 σ s d) s = B := by
      rw [jg2, Bs_of (nRu_224 k.1), jg1, Bs_pts hT2 h0 h12 (by omega) hp2, Bs_of e, hB]
    have f1 : ∀ j, (j ≠ 27 ∧ j ≠ 28) → jg2 σ s d 223 j = σ 223 j := fun j hj => by
      rw [jg2, nRu_223 _ hj, jg1, nPts_223 hT2 h0 h12 (by omega) hp2, jgS_ne d σ (by decide)]
    have f2 : jg2 σ s d 243 = σ 243 := by rw [jg2, nRu_ne _ (by omega), jg1, nPts_ne hT2 h0 h12 (by omega) hp2 (by decide), jgS_ne d σ (by decide)]
    have f3 := (jg2_kp hT h0 h1 hd ht (by omega)).2.2
    split
    · refine ⟨b1, ?_⟩
      unfold Bq
      rw [f1 34 (by decide), f2]; exact hq
    · refine ⟨?_, Or.inr ?_⟩
      · rw [jg3, Bs_of (jbS_ne d _ (by decide))]; exact b1
      · have e34 : jg3 (jg2 σ s d) (nPcO (jg2 σ s d) s) d 223 34 = ((d : Nat) : Int) := by rw [jg3, jbS_ne d _ (by decide), su_same]
        rw [e34]
        refine ⟨by omega, by unfold Bs at hB; omega, fun i hi => ?_⟩
        rw [jg3, jbS_at d _ i (by omega), su_ne _ _ (Or.inl (by decide)), su_ne _ _ (Or.inl (by decide)), f3]
        exact ht i (by omega)
theorem trF_bq (s n : Int) (hn : n ≤ 6) (B : Int) : ∀ (f : Nat) (left most : Int) (d : Nat) (σ : Sg), TW (σ 224) → 0 ≤ s ∧ s < σ 224 4 → 0 ≤ left → left ≤ 99 → (left = 0 → 1 ≤ d ∧ ((d : Nat) : Int) ≤ n) → d ≤ 7 → Tr9 σ d → Bs σ s = B → Bq B n σ → Bs (trF s n f left most d σ) s = B ∧ Bq B n (trF s n f left most d σ) := by
  intro f
  induction f with
  | zero => intro left most d σ hT _ _ _ _ _ _ hB hq; exact ⟨hB, hq⟩
  | succ f ih =>
    intro left most d σ hT hs h0 h9 hz hd ht hB hq
    rw [trF]; split
    · next q => exact nJg_bq hT hs.1 hs.2 (d := d) ⟨(hz q).1, by omega⟩ ht hB (hz q).2 hq
    · next q =>
      split
      · next qn =>
        refine (itr_inv (fun k (x : Sg) => KT σ x d ∧ Bs x s = B ∧ Bq B n x) _ _ σ ⟨⟨hT, rfl, fun k _ => rfl⟩, hB, hq⟩ (fun i y hi hy => ?_)).2
        obtain ⟨hy, hyB, hyq⟩ := hy
        have hPi : 1 ≤ min left most - ((i : Nat) : Int) ∧ min left most - ((i : Nat) : Int) ≤ left := by omega
        have ht2 : Tr9 (su y 242 d (min left most - ((i : Nat) : Int))) (d + 1) := by
          intro k hk
          by_cases e : k = d
          · subst e; rw [su_same]; omega
          · rw [su_ne _ _ (Or.inr e), hy.2.2 k (by omega)]; exact ht k (by omega)
        have hs2 : 0 ≤ s ∧ s < y 224 4 := by rw [hy.2.1]; exact hs
        have h := trF_kp s n hn f (left - (min left most - ((i : Nat) : Int))) (min left most - ((i : Nat) : Int)) (d + 1) (su y 242 d (min left most - ((i : Nat) : Int))) hy.1 hs2 (by omega) (by omega) (by omega) (by omega) ht2
        have h2 := ih (left - (min left most - ((i : Nat) : Int))) (min left most - ((i : Nat) : Int)) (d + 1) (su y 242 d (min left most - ((i : Nat) : Int))) hy.1 hs2 (by omega) (by omega) (fun _ => by omega) (by omega) ht2 hyB hyq
        refine ⟨⟨h.1, h.2.1.trans hy.2.1, fun k hk => ?_⟩, h2⟩
        rw [trS, h.2.2 k (by omega), su_ne _ _ (Or.inr (by omega))]; exact hy.2.2 k hk
      · exact ⟨hB, hq⟩
theorem nSe_bq {σ : Sg} (hT : TW (σ 224)) {s n : Int} (hs : 0 ≤ s ∧ s < σ 224 4) (hn : 1 ≤ n ∧ n ≤ 6) : Bq (Bs σ s) n (nSe σ s n).2 := by
  have hh := (hT.of hs.1 hs.2).1
  have e := nSe_pre hT
  rw [nSe]; split
  · exact Or.inl (show nSe1 σ 223 34 = -1 from su_same _ _ _ _)
  · have h := (trF_bq s n hn.2 (Bs σ s) 7 (nOf σ s 0) (nOf σ s 0) 0 (nCp (nSe1 σ) 224 226) (by rw [e]; exact hT) (by rw [e]; exact hs) (by omega) (by omega) (fun q => by omega) (by omega) (fun k hk => by omega) (Bs_of e s) (Or.inl (by rw [nCp_ne _ (by decide) (by decide)]; exact su_same _ _ _ _))).2
    show Bq (Bs σ s) n (nCp (nSe2 σ s n) 226 224)
    unfold Bq
    rw [nCp_ne _ (by decide) (show (223 : Nat) ≠ 224 by decide), nCp_ne _ (by decide) (show (243 : Nat) ≠ 224 by decide)]
    exact h
/-! settling -/
def csS (σ : Sg) (s : Nat) (b : Int) : Int := if b = 0 then 0 else if 30 < nOf σ ((s : Nat) : Int) 0 then 0 else 1
def csF (σ : Sg) : Int := itr (σ 224 4).toNat (csS σ) 1
theorem csS_z (σ : Sg) (k : Nat) (h : itr k (csS σ) 1 = 0) : ∀ m, itr (k + m) (csS σ) 1 = 0 := by
  intro m
  induction m with
  | zero => exact h
  | succ m ih => rw [← Nat.add_assoc, itr_s, csS, if_pos ih]
def nCs (σ : Sg) : Int := if csF σ = 0 then 0 else if σ 224 4 ≤ 12 then 1 else 0
def slS (k : Nat) (x : Sg) : Sg := su x 230 k (x 243 k)
theorem slS_ne (n : Nat) (x : Sg) {a : Nat} (h : a ≠ 230) : itr n slS x a = x a := by
  induction n with
  | zero => rfl
  | succ n ih => funext j; rw [itr_s, slS, su_ne _ _ (Or.inl h), ih]
theorem slS_at (n : Nat) (x : Sg) (k : Nat) (hk : k < n) : itr n slS x 230 k = x 243 k := by
  induction n with
  | zero => omega
  | succ n ih =>
    rw [itr_s, slS, slS_ne n x (by decide)]
    by_cases q : k = n
    · subst q; rw [su_same]
    · rw [su_ne _ _ (Or.inr q)]; exact ih (by omega)
def sgY (n : Int) (s : Nat) (x : Sg) : Sg := (nSe x ((s : Nat) : Int) n).2
def sgL (y : Sg) : Sg := itr (y 223 34).toNat slS y
def sgP (n : Int) (s : Nat) (x : Sg) : Sg := nPts (sgL (nRu (sgY n s x))) ((s : Nat) : Int) (nRu (sgY n s x) 223 34)
def sgS (n : Int) (s : Nat) (x : Int × Sg) : Int × Sg :=
  if sgY n s x.2 223 34 = -1 then (x.1, sgY n s x.2)
  else if nPcO (nRu (sgY n s x.2)) ((s : Nat) : Int) ≤ sgY n s x.2 223 35 then (x.1, nRu (sgY n s x.2))
  else (1, sgP n s x.2)
def sgR (n : Int) (x : Sg) (k : Nat) : Int × Sg := itr k (sgS n) (0, x)
theorem sgP_pre {n : Int} (hn : 1 ≤ n ∧ n ≤ 6) {s : Nat} {x : Sg} (hT : TW (x 224)) (hs : ((s : Nat) : Int) < x 224 4) (hb : sgY n s x 223 34 ≠ -1) :
    TW (sgL (nRu (sgY n s x)) 224) ∧ ((s : Nat) : Int) < sgL (nRu (sgY n s x)) 224 4 ∧ (1 ≤ nRu (sgY n s x) 223 34 ∧ nRu (sgY n s x) 223 34 ≤ 8) ∧ sgL (nRu (sgY n s x)) 224 668 - nOf (sgL (nRu (sgY n s x))) ((s : Nat) : Int) 6 + nRu (sgY n s x) 223 34 ≤ 60 ∧ ∀ k : Nat, ((k : Nat) : Int) < nRu (sgY n s x) 223 34 → 1 ≤ sgL (nRu (sgY n s x)) 230 k ∧ sgL (nRu (sgY n s x)) 230 k ≤ 99 := by
  have hTy : TW (sgY n s x 224) := TW_se hT ⟨by omega, hs⟩ hn.2
  have e6 := nSe_6 hT (s := ((s : Nat) : Int)) (n := n) ⟨by omega, hs⟩ hn.2
  have e1 : sgL (nRu (sgY n s x)) 224 = sgY n s x 224 := (slS_ne _ _ (by decide)).trans (nRu_224 hTy)
  have e4 : sgY n s x 224 4 = x 224 4 := e6 4 (by omega)
  have e34 : nRu (sgY n s x) 223 34 = sgY n s x 223 34 := nRu_223 _ (by decide)
  have hq := nSe_bq hT (s := ((s : Nat) : Int)) (n := n) ⟨by omega, hs⟩ hn
  have hS := hT.sacks
  rcases hq with q | ⟨q1, q2, q3⟩
  · exact absurd q hb
  · change 1 ≤ sgY n s x 223 34 ∧ sgY n s x 223 34 ≤ n at q1
    change Bs x ((s : Nat) : Int) + sgY n s x 223 34 ≤ 60 at q2
    refine ⟨by rw [e1]; exact hTy, by rw [e1, e4]; exact hs, by omega, ?_, fun k hk => ?_⟩
    · rw [nOf_of e1, e1, e34]
      have e7 : nOf (sgY n s x) ((s : Nat) : Int) 6 = nOf x ((s : Nat) : Int) 6 := nOf_6 e6 (by omega) (by omega)
      have e8 : sgY n s x 224 668 = x 224 668 := e6 668 (by omega)
      rw [e7, e8]; exact q2
    · rw [e34] at hk
      have e9 : nRu (sgY n s x) 243 = sgY n s x 243 := nRu_ne _ (by omega)
      rw [sgL, slS_at _ _ k (by omega), e9]
      exact q3 k hk
theorem sgS_kp {n : Int} (hn : 1 ≤ n ∧ n ≤ 6) {s : Nat} {x : Int × Sg} (hT : TW (x.2 224)) (hs : ((s : Nat) : Int) < x.2 224 4) : TW ((sgS n s x).2 224) ∧ (sgS n s x).2 224 4 = x.2 224 4 := by
  have hTy : TW (sgY n s x.2 224) := TW_se hT ⟨by omega, hs⟩ hn.2
  have e4 : sgY n s x.2 224 4 = x.2 224 4 := nSe_6 hT (s := ((s : Nat) : Int)) (n := n) ⟨by omega, hs⟩ hn.2 4 (by omega)
  rw [sgS]; split
  · exact ⟨hTy, e4⟩
  · next q =>
    split
    · exact ⟨TW_ru hTy, by show nRu (sgY n s x.2) 224 4 = _; rw [nRu_224 hTy, e4]⟩
    · obtain ⟨p1, p2, p3, p4, p5⟩ := sgP_pre hn hT hs q
      refine ⟨TW_pts p1 (by omega) p2 p3 p4 p5, ?_⟩
      show sgP n s x.2 224 4 = _
      rw [sgP, nPts_4 p1 (by omega) p2 p3 p4, sgL, slS_ne _ _ (by decide), nRu_224 hTy, e4]
theorem sgR_kp {n : Int} (hn : 1 ≤ n ∧ n ≤ 6) {x : Sg} (hT : TW (x 224)) : ∀ k : Nat, ((k : Nat) : Int) ≤ x 224 4 → TW ((sgR n x k).2 224) ∧ (sgR n x k).2 224 4 = x 224 4 := by
  intro k
  induction k with
  | zero => intro _; exact ⟨hT, rfl⟩
  | succ k ih =>
    intro hk
    obtain ⟨h1, h2⟩ := ih (by omega)
    have h3 := sgS_kp hn h1 (s := k) (by omega)
    exact ⟨h3.1, h3.2.trans h2⟩
def sgF (n : Int) : Nat → Nat → Sg → Int × Sg
  | 0, _, x => (-2, nCp x 244 224)
  | f + 1, r, x => if (sgR n x (x 224 4).toNat).1 = 0 then (((r : Nat) : Int) + 1, (sgR n x (x 224 4).toNat).2) else sgF n f (r + 1) (sgR n x (x 224 4).toNat).2
def seV (n : Int) : Int := if wth n 1 3 = 0 then 1 else 0
def nStlA (x : Sg) (n : Int) : Int × Sg := if nCs x = 0 then (-2, x) else sgF n 10 0 (nCp x 224 244)
def nStl (σ : Sg) (n : Int) : Int × Sg := if 0 < seV n then (0, nThr σ (seV n)) else nStlA (nThr σ (seV n)) n
/-! fees -/
def feG (σ : Sg) (s whole : Int) : Int := wr (whole - wr (nOf σ s 4 * nWa σ s))
def feU (σ : Sg) (s whole : Int) (d : Nat) : Sg := if 0 < feG σ s whole then su σ 223 37 (max (σ 223 37) (wr ((wr (wr (feG σ s whole + ((d : Nat) : Int)) - 2)).tdiv (((d : Nat) : Int) - 1)))) else σ
def feL (σ : Sg) (s whole : Int) (d : Nat) : Sg := if d = 1 then σ else feU (jg2 σ s d) s whole d
def feS (rec : Int → Int → Nat → Sg → Sg) (left P : Int) (d : Nat) (i : Nat) (x : Sg) : Sg := rec (left - (P - ((i : Nat) : Int))) (P - ((i : Nat) : Int)) (d + 1) (su x 242 d (P - ((i : Nat) : Int)))
def feF (s n whole : Int) : Nat → Int → Int → Nat → Sg → Sg
  | 0, _, _, _, σ => σ
  | f + 1, left, most, d, σ => if left = 0 then feL σ s whole d else if ((d : Nat) : Int) < n then itr (min left most).toNat (feS (feF s n whole f) left (min left most) d) σ else σ
theorem feU_ne (σ : Sg) (s whole : Int) (d : Nat) {a : Nat} (h : a ≠ 223) : feU σ s whole d a = σ a := by
  rw [feU]; split
  · funext j; rw [su_ne _ _ (Or.inl h)]
  · rfl
/-- what the search for fees keeps -/
def KF (σ x : Sg) (s : Int) (d : Nat) : Prop := KT σ x d ∧ Bs x s = Bs σ s
theorem feL_kp {σ : Sg} (hT : TW (σ 224)) {s : Int} (h0 : 0 ≤ s) (h1 : s < σ 224 4) (whole : Int) {d : Nat} (hd : 1 ≤ d ∧ d ≤ 8) (ht : Tr9 σ d) (hB : Bs σ s + ((d : Nat) : Int) ≤ 60) : TW (feL σ s whole d 224) ∧ feL σ s whole d 224 4 = σ 224 4 ∧ feL σ s whole d 242 = σ 242 ∧ Bs (feL σ s whole d) s = Bs σ s := by
  rw [feL]; split
  · exact ⟨hT, rfl, rfl, rfl⟩
  · have k := jg2_kp hT h0 h1 hd ht hB
    have k1 := jg1_kp hT h0 h1 hd ht hB
    have e : itr d jgS σ 224 = σ 224 := jgS_ne d σ (by decide)
    refine ⟨by rw [feU_ne _ _ _ _ (by decide)]; exact k.1, by rw [feU_ne _ _ _ _ (by decide)]; exact k.2.1, by rw [feU_ne _ _ _ _ (by decide)]; exact k.2.2, ?_⟩
    rw [Bs_of (feU_ne _ _ _ _ (by decide)), jg2, Bs_of (nRu_224 k1.1), jg1, Bs_pts (by rw [e]; exact hT) h0 (by rw [e]; exact h1) (by omega) (by rw [nOf_of e, e]; exact hB), Bs_of e]
theorem feI_kp (s n whole : Int) (f : Nat) (ih : ∀ (left most : Int) (d : Nat) (σ : Sg), TW (σ 224) → 0 ≤ s ∧ s < σ 224 4 → 0 ≤ left → left ≤ 99 → (left = 0 → 1 ≤ d) → d ≤ 4 → Tr9 σ d → Bs σ s ≤ 50 → KF σ (feF s n whole f left most d σ) s d) {left most : Int} {d : Nat} {σ : Sg} (hT : TW (σ 224)) (hs : 0 ≤ s ∧ s < σ 224 4) (h9 : left ≤ 99) (hd : d ≤ 3) (ht : Tr9 σ d) (hB : Bs σ s ≤ 50) (m : Nat) (hm : ((m : Nat) : Int) ≤ min left most) : KF σ (itr m (feS (feF s n whole f) left (min left most) d) σ) s d := by
  refine itr_inv (fun _ (x : Sg) => KF σ x s d) _ _ σ ⟨⟨hT, rfl, fun k _ => rfl⟩, rfl⟩ (fun i y hi hy => ?_)
  obtain ⟨hy, hyB⟩ := hy
  have hPi : 1 ≤ min left most - ((i : Nat) : Int) ∧ min left most - ((i : Nat) : Int) ≤ left := by omega
  have ht2 : Tr9 (su y 242 d (min left most - ((i : Nat) : Int))) (d + 1) := by
    intro k hk
    by_cases e : k = d
    · subst e; rw [su_same]; omega
    · rw [su_ne _ _ (Or.inr e), hy.2.2 k (by omega)]; exact ht k (by omega)
  have hB2 : Bs (su y 242 d (min left most - ((i : Nat) : Int))) s ≤ 50 := by rw [show Bs (su y 242 d (min left most - ((i : Nat) : Int))) s = Bs y s from rfl, hyB]; exact hB
  have h := ih (left - (min left most - ((i : Nat) : Int))) (min left most - ((i : Nat) : Int)) (d + 1) (su y 242 d (min left most - ((i : Nat) : Int))) hy.1 (by show 0 ≤ s ∧ s < y 224 4; rw [hy.2.1]; exact hs) (by omega) (by omega) (by omega) (by omega) ht2 hB2
  refine ⟨⟨h.1.1, h.1.2.1.trans hy.2.1, fun k hk => ?_⟩, h.2.trans hyB⟩
  rw [feS, h.1.2.2 k (by omega), su_ne _ _ (Or.inr (by omega))]; exact hy.2.2 k hk
theorem feF_kp (s n whole : Int) (hn : n ≤ 3) : ∀ (f : Nat) (left most : Int) (d : Nat) (σ : Sg), TW (σ 224) → 0 ≤ s ∧ s < σ 224 4 → 0 ≤ left → left ≤ 99 → (left = 0 → 1 ≤ d) → d ≤ 4 → Tr9 σ d → Bs σ s ≤ 50 → KF σ (feF s n whole f left most d σ) s d := by
  intro f
  induction f with
  | zero => intro left most d σ hT _ _ _ _ _ _ _; exact ⟨⟨hT, rfl, fun k _ => rfl⟩, rfl⟩
  | succ f ih =>
    intro left most d σ hT hs h0 h9 hz hd ht hB
    rw [feF]; split
    · next q =>
      have h := feL_kp hT hs.1 hs.2 whole (d := d) ⟨hz q, by omega⟩ ht (by omega)
      exact ⟨⟨h.1, h.2.1, fun k _ => by rw [h.2.2.1]⟩, h.2.2.2⟩
    · next q =>
      split
      · by_cases q2 : 0 ≤ min left most
        · exact feI_kp s n whole f ih hT hs h9 (by omega) ht hB _ (by omega)
        · rw [show (min left most).toNat = 0 by omega]; exact ⟨⟨hT, rfl, fun k _ => rfl⟩, rfl⟩
      · exact ⟨⟨hT, rfl, fun k _ => rfl⟩, rfl⟩
/-- all whole: as many pieces as sacks -/
def AW (σ x : Sg) : Prop := TW (x 224) ∧ x 224 4 = σ 224 4 ∧ x 224 668 = x 224 4
theorem wy_all {σ : Sg} (hT : TW (σ 224)) {s : Int} (h0 : 0 ≤ s) (h1 : s < σ 224 4) : nWy σ s 224 668 = Bs σ s + 1 := by
  have hp := wy_p hT h0 h1
  rw [nWy, nPts_all (σ := wyA σ s) hT h0 h1 (by omega) hp]
  show σ 224 668 + 1 - nOf σ s 6 = σ 224 668 - nOf σ s 6 + 1
  omega
theorem whL_pre {σ : Sg} (hT : TW (σ 224)) : ∀ k : Nat, ((k : Nat) : Int) ≤ σ 224 4 → (nWhL σ k).2 224 668 = σ 224 668 - tPre (σ 224) k + ((k : Nat) : Int) ∧ ∀ i : Nat, k ≤ i → ((i : Nat) : Int) < σ 224 4 → tM ((nWhL σ k).2 224) i = tM (σ 224) i := by
  have hS := hT.sacks
  intro k
  induction k with
  | zero => intro _; exact ⟨by show σ 224 668 = σ 224 668 - 0 + ((0 : Nat) : Int); omega, fun i _ _ => rfl⟩
  | succ k ih =>
    intro hk
    obtain ⟨i1, i2⟩ := ih (by omega)
    obtain ⟨t1, t2⟩ := TW_wh hT k (by omega)
    have e : (nWhL σ (k + 1)).2 = nWy (nWhL σ k).2 ((k : Nat) : Int) := rfl
    have hp := wy_p t1 (s := ((k : Nat) : Int)) (by omega) (by omega)
    refine ⟨?_, fun i hi1 hi2 => ?_⟩
    · rw [e, wy_all t1 (by omega) (by omega)]
      unfold Bs
      rw [i1, nOf_n _ _ (by decide), show (nWhL σ k).2 224 (20 + 7 * k + Int.toNat 6) = tM ((nWhL σ k).2 224) k from rfl, i2 k (Nat.le_refl _) (by omega)]
      have e3 : tPre (σ 224) (k + 1) = tPre (σ 224) k + tM (σ 224) k := rfl
      omega
    · rw [← i2 i (by omega) hi2, e]
      show nWy (nWhL σ k).2 ((k : Nat) : Int) 224 (20 + 7 * i + 6) = (nWhL σ k).2 224 (20 + 7 * i + 6)
      rw [nWy, nPts_lo (σ := wyA (nWhL σ k).2 ((k : Nat) : Int)) t1 (by omega) (by show _ < (nWhL σ k).2 224 4; omega) (by omega) hp (by omega), if_neg (by omega)]
      rfl
theorem AW_wh {σ : Sg} (hT : TW (σ 224)) : AW σ (nWhL σ (σ 224 4).toNat).2 := by
  have hS := hT.sacks
  obtain ⟨t1, t2⟩ := TW_wh hT (σ 224 4).toNat (by omega)
  refine ⟨t1, t2, ?_⟩
  rw [(whL_pre hT (σ 224 4).toNat (by omega)).1, t2, ← hT.sum]; omega
def feN (n : Int) (s : Nat) (x : Sg) : Sg := if 30 < nOf x ((s : Nat) : Int) 0 then x else nWy (feF ((s : Nat) : Int) n (wr (nOf (nRu x) ((s : Nat) : Int) 4 * nWa (nRu x) ((s : Nat) : Int))) 4 (nOf x ((s : Nat) : Int) 0) (nOf x ((s : Nat) : Int) 0) 0 (nRu x)) ((s : Nat) : Int)
theorem feN_kp {n : Int} (hn : n ≤ 3) {σ : Sg} (h24 : σ 224 4 ≤ 24) {s : Nat} {x : Sg} (h : AW σ x) (hs : ((s : Nat) : Int) < σ 224 4) : AW σ (feN n s x) := by
  obtain ⟨hT, h4, hp⟩ := h
  have hTr := TW_ru hT
  have e224 := nRu_224 hT
  have hh := hT.of (s := ((s : Nat) : Int)) (by omega) (by omega)
  rw [feN]; split
  · exact ⟨hT, h4, hp⟩
  · have k := feF_kp ((s : Nat) : Int) n (wr (nOf (nRu x) ((s : Nat) : Int) 4 * nWa (nRu x) ((s : Nat) : Int))) hn 4 (nOf x ((s : Nat) : Int) 0) (nOf x ((s : Nat) : Int) 0) 0 (nRu x) hTr (by rw [e224]; omega) (by omega) (by omega) (by omega) (by omega) (fun k hk => by omega) (by rw [Bs_of e224]; unfold Bs; omega)
    generalize feF ((s : Nat) : Int) n (wr (nOf (nRu x) ((s : Nat) : Int) 4 * nWa (nRu x) ((s : Nat) : Int))) 4 (nOf x ((s : Nat) : Int) 0) (nOf x ((s : Nat) : Int) 0) 0 (nRu x) = y at k ⊢
    obtain ⟨⟨k1, k2, _⟩, k3⟩ := k
    rw [e224] at k2
    rw [Bs_of e224] at k3
    have w := TW_wy k1 (s := ((s : Nat) : Int)) (by omega) (by omega)
    refine ⟨w.1, by rw [w.2, k2, h4], ?_⟩
    rw [wy_all k1 (by omega) (by omega), w.2, k3, k2]
    unfold Bs
    have m1 : nOf x ((s : Nat) : Int) 6 = 1 := by
      have a1 := hT.many
      have b1 := tPre_mono hT (a := s + 1) (b := (x 224 4).toNat) (by omega) (by omega)
      have b2 := tPre_nn hT (a := s) (by omega)
      have b3 := hT.sum
      have e3 : tPre (x 224) (s + 1) = tPre (x 224) s + tM (x 224) s := rfl
      have e5 : nOf x ((s : Nat) : Int) 6 = tM (x 224) s := nOf_n x s (by decide)
      have := a1 s (by omega)
      omega
    omega
def fnN (n : Int) (x : Sg) (k : Nat) : Sg := itr k (feN n) x
theorem fnN_kp {n : Int} (hn : n ≤ 3) {σ x : Sg} (h24 : σ 224 4 ≤ 24) (h : AW σ x) : ∀ k : Nat, ((k : Nat) : Int) ≤ σ 224 4 → AW σ (fnN n x k) := by
  intro k
  induction k with
  | zero => intro _; exact h
  | succ k ih => intro hk; exact feN_kp hn h24 (ih (by omega)) (by omega)
def fwL (σ : Sg) (k : Nat) : Sg := itr k (fun (s : Nat) (x : Sg) => nWy x ((s : Nat) : Int)) σ
theorem fwL_wh (σ : Sg) (k : Nat) : fwL σ k = (nWhL σ k).2 := by
  induction k with
  | zero => rfl
  | succ k ih => show nWy (fwL σ k) _ = nWy (nWhL σ k).2 _; rw [ih]
def feVt (n : Int) : Int := if wth n 2 3 = 0 then 1 else 0
def nFe0 (x : Sg) : Sg := su (fwL (nCp x 224 244) (x 224 4).toNat) 223 37 0
def nFe1 (x : Sg) (n : Int) : Sg := fnN n (nFe0 x) (x 224 4).toNat
def nFeA (x : Sg) (n : Int) : Int × Sg := (nCp (nFe1 x n) 244 224 223 37, nCp (nFe1 x n) 244 224)
def nFe (σ : Sg) (n : Int) : Int × Sg := if 0 < feVt n then (0, nThr σ (feVt n)) else nFeA (nThr σ (feVt n)) n
