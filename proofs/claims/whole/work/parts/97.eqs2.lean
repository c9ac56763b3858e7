/-! ALIKE, 28: the model's search; BEST, GAP -/
theorem bv_1 (v : BitVec 32) : (v &&& 1#32).toInt = if v.getLsbD 0 then 1 else 0 := by
  rw [BitVec.and_one_eq_setWidth_ofBool_getLsbD]
  cases v.getLsbD 0 <;> rfl
theorem bit_at (u q : Int) (n : Nat) (h1 : ((Int32.ofInt q &&& 31).toBitVec.smod 32).toNat = n) (hn : n < 32) : wand (wshr u q) 1 = if (Int32.ofInt u).toBitVec.getLsbD n then 1 else 0 := by
  unfold wand wshr
  rw [of_toI]
  show ((Int32.ofInt u >>> (Int32.ofInt q &&& 31)) &&& Int32.ofInt 1).toBitVec.toInt = _
  rw [Int32.toBitVec_and, Int32.toBitVec_shiftRight]
  show ((Int32.ofInt u).toBitVec.sshiftRight ((Int32.ofInt q &&& 31).toBitVec.smod 32).toNat &&& 1#32).toInt = _
  rw [h1, bv_1, BitVec.getLsbD_sshiftRight]
  simp [hn]
theorem bit_l : ∀ n : Nat, n < 8 → ((Int32.ofInt ((n : Nat) : Int) &&& 31).toBitVec.smod 32).toNat = n := by decide +kernel
theorem bit_o : ∀ p : Nat, p < 8 → ∀ q : Nat, q < 8 → (Int32.ofInt (wshl 1 ((p : Nat) : Int))).toBitVec.getLsbD q = decide (p = q) := by decide +kernel
theorem bit_sh (u : Int) {q : Nat} (hq : q < 8) : wand (wshr u ((q : Nat) : Int)) 1 = if (Int32.ofInt u).toBitVec.getLsbD q then 1 else 0 := bit_at u _ q (bit_l q hq) (by omega)
theorem bit_or (u : Int) {p q : Nat} (hp : p < 8) (hq : q < 8) : wand (wshr (wor u (wshl 1 ((p : Nat) : Int))) ((q : Nat) : Int)) 1 = if p = q then 1 else wand (wshr u ((q : Nat) : Int)) 1 := by
  rw [bit_sh _ hq, bit_sh _ hq]
  unfold wor
  rw [of_toI, Int32.toBitVec_or, BitVec.getLsbD_or, bit_o p hp q hq]
  by_cases z : p = q
  · rw [if_pos z, decide_eq_true z, Bool.or_true, if_pos rfl]
  · rw [if_neg z, decide_eq_false z, Bool.or_false]
section OPs
variable {σ τ y : Sg} {f g : Nat → Nat} {P : Nat}
def oBt (used : Int) (f : Nat → Nat) (d : Nat) : Prop := ∀ q : Nat, q < 8 → wand (wshr used ((q : Nat) : Int)) 1 = oU f d q
theorem oBt_up {used : Int} {d p : Nat} (h : oBt used f d) (hp : p < 8) : oBt (wor used (wshl 1 ((p : Nat) : Int))) (oup f d p) (d + 1) := by
  intro q hq
  rw [bit_or used hp hq, oU, oup_at, h q hq, oU_cg (f := f) (g := oup f d p) q d (fun i hi => oup_lo hi)]
/-- what the model knows, at a depth -/
def oN (y τ : Sg) (P : Nat) (f : Nat → Nat) (d : Nat) (x : oBs) : Prop :=
  y 224 = τ 224 ∧ (∀ k : Nat, k < d → y 240 k = ((f k : Nat) : Int)) ∧ ((y 223 31 = -1 ∧ x.1 = 1000000000) ∨ (y 223 31 = x.1 ∧ (0 ≤ x.1 ∧ x.1 < 1000000000) ∧ ∀ i : Nat, i < P → y 241 i = ((x.2 i : Nat) : Int)))
theorem obS_at (n : Nat) (x : Sg) (k : Nat) (hk : k < n) : itr n obS x 241 k = x 240 k := by
  induction n with
  | zero => omega
  | succ n ih =>
    rw [itr_s, obS, obS_ne n x (by decide)]
    by_cases q : k = n
    · subst q; rw [su_same]
    · rw [su_ne _ _ (Or.inr q)]; exact ih (by omega)
theorem orL_alike (hT : TW (τ 224)) (hP : τ 224 668 = ((P : Nat) : Int)) (hP60 : P ≤ 60) {x : oBs} (hN : oN y τ P f P x) (v : oV f P P) : oN (orL y P) τ P f P (oL τ f P x) := by
  obtain ⟨n1, n2, n3⟩ := hN
  have hTy : TW (y 224) := by rw [n1]; exact hT
  have hc := coo_cost hT hP n1 v n2
  have hr := oC_rg hT hP P hP60 v
  have k31 : nCoo y 223 31 = y 223 31 := nCooL_223 y _ (by decide)
  have k224 := nCoo_224 hTy
  have k240 := nCoo_240 hTy
  have k241 : nCoo y 241 = y 241 := nCoo_ne y (by decide)
  rw [orL, oL, hc, k31]
  rcases n3 with ⟨h1, h2⟩ | ⟨h1, h2, h3⟩
  · rw [if_neg (by omega), if_pos (by omega)]
    refine ⟨by rw [obS_ne _ _ (by decide)]; exact k224.trans n1, fun k hk => ?_, Or.inr ⟨?_, ⟨hr.1, ?_⟩, fun i hi => ?_⟩⟩
    · rw [obS_ne _ _ (by decide), su_ne _ _ (Or.inl (by decide)), k240]; exact n2 k hk
    · rw [obS_ne _ _ (by decide), su_same]
    · show oC τ f P < _; omega
    · rw [obS_at _ _ _ hi, su_ne _ _ (Or.inl (by decide)), k240]; exact n2 i hi
  · by_cases q : oC τ f P < x.1
    · rw [if_neg (by omega), if_pos q]
      refine ⟨by rw [obS_ne _ _ (by decide)]; exact k224.trans n1, fun k hk => ?_, Or.inr ⟨?_, ⟨hr.1, ?_⟩, fun i hi => ?_⟩⟩
      · rw [obS_ne _ _ (by decide), su_ne _ _ (Or.inl (by decide)), k240]; exact n2 k hk
      · rw [obS_ne _ _ (by decide), su_same]
      · show oC τ f P < _; omega
      · rw [obS_at _ _ _ hi, su_ne _ _ (Or.inl (by decide)), k240]; exact n2 i hi
    · rw [if_pos (by omega), if_neg q]
      refine ⟨k224.trans n1, fun k hk => by rw [k240]; exact n2 k hk, Or.inr ⟨by rw [k31]; exact h1, h2, fun i hi => by rw [k241]; exact h3 i hi⟩⟩
theorem orF_alike (hT : TW (τ 224)) (hP : τ 224 668 = ((P : Nat) : Int)) (hP8 : P ≤ 8) : ∀ (n : Nat) (f : Nat → Nat) (d : Nat) (used : Int) (y : Sg) (x : oBs), n + d = 9 → d ≤ P → oV f P d → oBt used f d → oN y τ P f d x → oN (orF n used d y) τ P f d (oS τ P n f d x) := by
  intro n
  induction n with
  | zero => intro f d used y x h1 h2 _ _ _; omega
  | succ n ih =>
    intro f d used y x hn hd v hB hN
    rw [orF, oS, hN.1, hP]
    by_cases q : d = P
    · subst q
      rw [if_pos rfl, if_pos rfl]
      exact orL_alike hT hP (by omega) hN v
    · rw [if_neg (by omega), if_neg q, show (((P : Nat) : Int)).toNat = P from rfl]
      have key : ∀ m : Nat, m ≤ P → oN (itr m (orS (orF n) used d) y) τ P f d (itr m (oSt (oS τ P n) f d) x) := by
        intro m
        induction m with
        | zero => intro _; exact hN
        | succ m ihm =>
          intro hm
          have i1 := ihm (by omega)
          rw [itr_s, itr_s]
          generalize itr m (orS (orF n) used d) y = z at i1 ⊢
          generalize itr m (oSt (oS τ P n) f d) x = w at i1 ⊢
          have hb := hB m (by omega)
          have h01 := oU_01 f m d
          rw [orS, hb, oSt]
          by_cases q3 : oU f d m = 0
          · rw [if_neg (by omega), if_pos q3]
            obtain ⟨j1, j2, j3⟩ := i1
            have hN2 : oN (su z 240 d ((m : Nat) : Int)) τ P (oup f d m) (d + 1) w := by
              refine ⟨j1, fun k hk => ?_, j3⟩
              by_cases q4 : k = d
              · subst q4; rw [su_same, oup_at]
              · rw [su_ne _ _ (Or.inr q4), ← oup_lo (i := k) (by omega)]; exact j2 k (by omega)
            obtain ⟨r1, r2, r3⟩ := ih (oup f d m) (d + 1) _ _ w (by omega) (by omega) (oV_up v (by omega) q3) (oBt_up hB (by omega)) hN2
            exact ⟨r1, fun k hk => by rw [r2 k (by omega), ← oup_lo hk], r3⟩
          · rw [if_pos (by omega), if_neg q3]; exact i1
      exact key P (Nat.le_refl _)
theorem orL_fr {x : Sg} (d : Nat) {a : Nat} (ha : a = 227 ∨ a = 228 ∨ a = 229 ∨ a = 245 ∨ a = 246 ∨ a = 247) : orL x d a = x a := by
  rw [orL]; split
  · exact nCoo_ne x (by omega)
  · rw [obS_ne _ _ (by omega)]
    funext j
    rw [su_ne _ _ (Or.inl (by omega)), nCoo_ne x (by omega)]
theorem orL_223 {x : Sg} (d : Nat) {j : Nat} (hj : j = 5 ∨ j = 7 ∨ j = 15 ∨ j = 16) : orL x d 223 j = x 223 j := by
  rw [orL]; split
  · exact nCooL_223 x _ (by omega)
  · rw [obS_ne _ _ (by omega), su_ne _ _ (Or.inr (by omega))]
    exact nCooL_223 x _ (by omega)
theorem orF_fr : ∀ (n : Nat) (used : Int) (d : Nat) (x : Sg), (∀ a, (a = 227 ∨ a = 228 ∨ a = 229 ∨ a = 245 ∨ a = 246 ∨ a = 247) → orF n used d x a = x a) ∧ ∀ j, (j = 5 ∨ j = 7 ∨ j = 15 ∨ j = 16) → orF n used d x 223 j = x 223 j := by
  intro n
  induction n with
  | zero => intro used d x; exact ⟨fun a _ => rfl, fun j _ => rfl⟩
  | succ n ih =>
    intro used d x
    rw [orF]; split
    · exact ⟨fun a ha => orL_fr d ha, fun j hj => orL_223 d hj⟩
    · refine itr_inv (fun _ (y : Sg) => (∀ a, (a = 227 ∨ a = 228 ∨ a = 229 ∨ a = 245 ∨ a = 246 ∨ a = 247) → y a = x a) ∧ ∀ j, (j = 5 ∨ j = 7 ∨ j = 15 ∨ j = 16) → y 223 j = x 223 j) _ _ x ⟨fun a _ => rfl, fun j _ => rfl⟩ (fun p y hp hy => ?_)
      rw [orS]; split
      · exact hy
      · obtain ⟨r1, r2⟩ := ih (wor used (wshl 1 ((p : Nat) : Int))) (d + 1) (su y 240 d ((p : Nat) : Int))
        refine ⟨fun a ha => ?_, fun j hj => ?_⟩
        · rw [r1 a ha]
          funext j
          rw [su_ne _ _ (Or.inl (by omega)), hy.1 a ha]
        · rw [r2 j hj, su_ne _ _ (Or.inl (by decide))]; exact hy.2 j hj
theorem nSk0_fr (hT : TW (τ 224)) : Ft τ (nSk0 τ) ∧ nSk0 τ 223 5 = τ 223 5 := by
  obtain ⟨r1, r2⟩ := orF_fr 9 0 0 (su τ 223 31 (-1))
  refine ⟨⟨fun j _ => by rw [nSk0_224 hT], fun j hj => ?_, fun a ha => ?_⟩, ?_⟩
  · unfold nSk0; rw [r2 j (by omega), su_ne _ _ (Or.inr (by omega))]
  · unfold nSk0; rw [r1 a ha]; funext j; rw [su_ne _ _ (Or.inl (by omega))]
  · unfold nSk0; rw [r2 5 (by omega), su_ne _ _ (Or.inr (by omega))]
/-- both searches have found the same -/
theorem seek_alike (h : Rel σ τ) (hP8 : τ 224 668 ≤ 8) (k : Int) : off 26 143 σ (seek σ) ∧ seek σ 128 9 = nSk0 (nThr τ k) 223 31 ∧ ∀ i : Nat, ((i : Nat) : Int) < τ 224 668 → seek σ 142 i = nSk0 (nThr τ k) 241 i := by
  have hT := h.tw
  have hP0 := hT.p0
  have hn := hT.p_nn
  have hS := hT.sacks
  obtain ⟨P, hP⟩ : ∃ P : Nat, τ 224 668 = ((P : Nat) : Int) := ⟨(τ 224 668).toNat, by omega⟩
  have hM := h.mr
  have o1 : off 26 51 σ (ly σ 26 4) := ly_off σ
  obtain ⟨⟨l1, l2, _⟩, _⟩ := ly_alike (σ := σ) (r := 26) (m := 4) (τ := τ) (by decide) hT hM
  rw [nFg_224] at l1 l2
  have hM2 : MR (ly σ 26 4) 4 (τ 224) := MR.of hM (fun a h1 h2 j => o1 a (by omega) j)
  have i224 : (τ 224 4).toNat = (σ 4 5).toNat := by rw [hM.sacks]
  have eI : ∀ n : Nat, ((n : Nat) : Int) ≤ τ 224 4 → ∀ a j : Nat, itr n (ssS σ) (ss0 σ) a j = if a = 134 ∧ j < n then nOf τ ((j : Nat) : Int) 6 else if a = 132 ∧ j < 8 then 0 else ly σ 26 4 a j := by
    intro n
    induction n with
    | zero =>
      intro _ a j
      rw [if_neg (by omega)]
      rfl
    | succ n ih =>
      intro hn2 a j
      rw [itr_s, ssS, rPut_at (by omega) (by omega), rAt_nt (by omega), show σ 23 n = _ from (hM.sk (s := n) (by omega)).2.2.2.2.2.2, ih (by omega)]
      by_cases q : a = 134 ∧ j = n
      · rw [if_pos (by omega), if_pos (by omega), nOf_n τ j (by decide), q.2]; rfl
      · rw [if_neg (by omega)]
        by_cases q2 : a = 134 ∧ j < n
        · rw [if_pos q2, if_pos (by omega)]
        · rw [if_neg q2, if_neg (show ¬ (a = 134 ∧ j < n + 1) by omega)]
  have eS : ∀ a j : Nat, ss1 σ a j = if a = 128 ∧ j = 9 then 1000000000 else if a = 140 ∧ j = 0 then 0 else if a = 138 ∧ j = 0 then -1 else if a = 136 ∧ j = 0 then 0 else if a = 134 ∧ j < (τ 224 4).toNat then nOf τ ((j : Nat) : Int) 6 else if a = 132 ∧ j < 8 then 0 else ly σ 26 4 a j := by
    intro a j
    unfold ss1
    rw [← i224]
    by_cases q : a = 128 ∧ j = 9
    · obtain ⟨rfl, rfl⟩ := q
      rw [su_same, if_pos ⟨rfl, rfl⟩]
    · rw [su_ne _ _ (by omega), if_neg q, rPut_at (by omega) (by omega), rPut_at (by omega) (by omega), rPut_at (by omega) (by omega), eI _ (by omega)]
      rfl
  have oS1 : off 26 143 σ (ss1 σ) := by
    intro a ha j
    rw [eS]
    (repeat rw [if_neg (by omega)])
    exact o1 a (by omega) j
  have oS2 : off 128 143 (ly σ 26 4) (ss1 σ) := by
    intro a ha j
    rw [eS]
    (repeat rw [if_neg (by omega)])
  have hF : oF (ss1 σ) τ P := by
    refine oF.off ⟨by rw [l1, hP], fun p hp => ?_, hM2⟩ oS2
    have a1 := l2 p (by omega)
    rw [a1.1, a1.2, nPo_t τ (by omega)]
    refine ⟨?_, rfl⟩
    rw [nFg_at, if_neg (by omega), if_pos ⟨rfl, by omega⟩]; rfl
  have hZ : oZ (ss1 σ) τ P (fun _ => 0) 0 (1000000000, fun _ => 0) := by
    refine ⟨fun k hk => ?_, fun k hk => absurd hk (by omega), fun p hp => ?_, fun s hs2 => ?_, ?_, fun hx => absurd rfl hx⟩
    · rw [show k = 0 by omega, eS, eS, eS]
      refine ⟨?_, ?_, ?_⟩
      · (repeat rw [if_neg (by omega)]); rw [if_pos ⟨rfl, rfl⟩]; rfl
      · (repeat rw [if_neg (by omega)]); rw [if_pos ⟨rfl, rfl⟩]; rfl
      · rw [if_neg (by omega), if_pos ⟨rfl, rfl⟩]; rfl
    · rw [eS]; (repeat rw [if_neg (by omega)]); rw [if_pos (by omega)]; rfl
    · rw [eS]; (repeat rw [if_neg (by omega)]); rw [if_pos (by omega)]; rfl
    · rw [eS, if_pos ⟨rfl, rfl⟩]
  have v0 : oV (fun _ => 0) P 0 := ⟨fun k hk => absurd hk (by omega), fun i k hi hk => absurd hk (by omega)⟩
  have hc := exF_alike hT hP (by omega) 9 (fun _ => 0) 0 (ss1 σ) (1000000000, fun _ => 0) (by decide) (by omega) v0 hF hZ
  have hN : oN (su (nThr τ k) 223 31 (-1)) τ P (fun _ => 0) 0 (1000000000, fun _ => 0) := by
    refine ⟨?_, fun k hk => absurd hk (by omega), Or.inl ⟨su_same _ _ _ _, rfl⟩⟩
    funext j
    rw [su_ne _ _ (Or.inl (by decide))]
    exact su_ne _ _ (Or.inl (by decide))
  have hb0 : oBt 0 (fun _ => 0) 0 := by
    intro q hq
    rw [bit_sh _ hq]
    show (if (Int32.ofInt 0).toBitVec.getLsbD q then (1 : Int) else 0) = 0
    rw [show (Int32.ofInt 0).toBitVec = 0#32 from rfl, BitVec.getLsbD_zero]
    rfl
  have hm := orF_alike hT hP (by omega) 9 (fun _ => 0) 0 0 (su (nThr τ k) 223 31 (-1)) (1000000000, fun _ => 0) (by decide) (by omega) v0 hb0 hN
  have hs := oS_some hT hP (by omega) 9 (fun _ => 0) 0 (1000000000, fun _ => 0) (by omega) (by omega) v0
  refine ⟨oS1.trans (fun a ha j => exF_off 9 0 (ss1 σ) a (by omega) j), ?_, fun i hi => ?_⟩
  · have h1 : seek σ 128 9 = _ := hc.2.2.2.2.1
    rw [h1]
    rcases hm.2.2 with ⟨_, h3⟩ | ⟨h2, _, _⟩
    · omega
    · exact h2.symm
  · have h1 : seek σ 142 i = _ := hc.2.2.2.2.2 (by omega) i (by omega)
    rw [h1]
    rcases hm.2.2 with ⟨_, h3⟩ | ⟨_, _, h4⟩
    · omega
    · exact (h4 i (by omega)).symm
theorem al_best (h : Rel σ τ) (k : Int) : Al none [] (zBest σ k).1 (nBs τ k).1 (zBest σ k).2 σ (nBs τ k).2 := by
  have hT := h.tw
  have hP0 := hT.p0
  have eP : mPcs σ 4 = τ 224 668 := mPcs_at hT h.mr
  unfold zBest nBs
  rw [eP]
  by_cases q : 8 < τ 224 668
  · rw [if_pos q, if_pos q]
    exact Al.no _ (thr_5 τ 0) rfl h.t0
  · rw [if_neg q, if_neg q]
    obtain ⟨s1, s2, s3⟩ := seek_alike h (by omega) 0
    have hT0 : TW (nThr τ 0 224) := hT
    obtain ⟨t1, t2⟩ := nSk0_fr hT0
    have hR : Rel (seek σ) (nSk0 (nThr τ 0)) := h.fr (s1.fr (by decide) (by decide)) ((Ft_thr τ 0).trans t1)
    have e224 : nSk0 (nThr τ 0) 224 = τ 224 := nSk0_224 hT0
    refine Al.no _ (t2.trans (thr_5 τ 0)) ?_ hR
    show (if k = -1 then seek σ 128 9 else if 0 ≤ k ∧ k < mPcs (seek σ) 4 then rAt (seek σ) 142 8 k else -1) = nBsV (nSk0 (nThr τ 0)) k
    unfold nBsV
    have eP2 : mPcs (seek σ) 4 = τ 224 668 := by rw [mPcs_at hR.tw hR.mr, e224]
    rw [s2, eP2, e224, wr_id (show okI (τ 224 668 - 1) by unfold okI; omega)]
    by_cases z : k = -1
    · rw [if_pos z, if_pos z]
    · rw [if_neg z, if_neg z]
      unfold wth
      by_cases z2 : 0 ≤ k ∧ k < τ 224 668
      · rw [if_pos z2, if_pos (show 0 ≤ k ∧ k ≤ τ 224 668 - 1 by omega), if_neg (by decide), rAt_lt z2.1 (by omega), s3 k.toNat (by omega)]
      · rw [if_neg z2, if_neg (show ¬ (0 ≤ k ∧ k ≤ τ 224 668 - 1) by omega), if_pos rfl]
theorem al_gap (h : Rel σ τ) : Al none [] (zGap σ).1 (nGp τ).1 (zGap σ).2 σ (nGp τ).2 := by
  have hT := h.tw
  have hP0 := hT.p0
  have eP : mPcs σ 4 = τ 224 668 := mPcs_at hT h.mr
  unfold zGap nGp
  rw [eP, h.mr.stones]
  by_cases q0 : 1 < max 1 (τ 224 1)
  · rw [if_pos q0, if_pos q0]
    exact Al.no _ (thr_5 τ 0) rfl h.t0
  rw [if_neg q0, if_neg q0]
  by_cases q : 8 < τ 224 668
  · rw [if_pos q, if_pos q]
    exact Al.no _ (thr_5 τ 0) rfl h.t0
  · rw [if_neg q, if_neg q]
    obtain ⟨s1, s2, s3⟩ := seek_alike h (by omega) 0
    have hT0 : TW (nThr τ 0 224) := hT
    obtain ⟨t1, t2⟩ := nSk0_fr hT0
    have hR : Rel (seek σ) (nSk0 (nThr τ 0)) := h.fr (s1.fr (by decide) (by decide)) ((Ft_thr τ 0).trans t1)
    have hRD := RD.go (r := 26) (m := 4) (by decide) hR.tw hR.kw hR.mr
    refine Al.no _ ?_ ?_ (hR.fr ((go_off _).fr (by decide) (by decide)) (Ft_ru hR.tw))
    · show nRu (nSk0 (nThr τ 0)) 223 5 = 0
      rw [nRu_223 _ (by decide)]
      exact t2.trans (thr_5 τ 0)
    · show wr (coF (go (seek σ) 26 4) 26 4 - go (seek σ) 26 4 128 9) = wr (nCo (nRu (nSk0 (nThr τ 0))) - nRu (nSk0 (nThr τ 0)) 223 31)
      rw [hRD.cost, nRu_223 _ (by decide), show go (seek σ) 26 4 128 9 = seek σ 128 9 from go_off (seek σ) 128 (by omega) 9, s2]
end OPs
