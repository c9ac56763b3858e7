/-! ALIKE, 31: a sack parted some way; how long it waits then, what that costs -/
/-- a row laid where parts are taken from -/
def laW (y : Sg) (w : Nat → Int) : Sg := fun a j => if a = 230 then w j else y a j
theorem laW_ne {y : Sg} {w : Nat → Int} {a : Nat} (ha : a ≠ 230) : laW y w a = y a := funext fun j => by unfold laW; rw [if_neg ha]
theorem laW_at (y : Sg) (w : Nat → Int) : laW y w 230 = w := funext fun j => by unfold laW; rw [if_pos rfl]
theorem laW_id (y : Sg) : laW y (y 230) = y := by
  funext a j
  unfold laW
  by_cases q : a = 230
  · rw [if_pos q, q]
  · rw [if_neg q]
/-- y tells what τ tells, but the sack s is parted into d pieces w -/
def PtW (τ : Sg) (s : Int) (d : Nat) (w : Nat → Int) (y : Sg) : Prop :=
  (∀ j : Nat, j < 608 → y 224 j = if ((j : Nat) : Int) = 26 + 7 * s then ((d : Nat) : Int) else τ 224 j) ∧ y 224 668 = τ 224 668 + ((d : Nat) : Int) - nOf τ s 6 ∧
  ∀ p : Nat, ((p : Nat) : Int) < y 224 668 → y 224 (608 + p) = if ((p : Nat) : Int) < nFo τ s then τ 224 (608 + p) else if ((p : Nat) : Int) < nFo τ s + ((d : Nat) : Int) then w (((p : Nat) : Int) - nFo τ s).toNat else τ 224 (608 + (((p : Nat) : Int) + nOf τ s 6 - ((d : Nat) : Int)).toNat)
theorem MR.cgw {σ : Sg} {m : Nat} {t t' : Nat → Int} (hT : TW t) (h1 : ∀ j, j < 608 → t' j = t j) (h2 : ∀ p : Nat, ((p : Nat) : Int) < t 668 → t' (608 + p) = t (608 + p)) (hM : MR σ m t) : MR σ m t' := by
  have hS := hT.sacks
  have hst := hT.stones
  have hKk := hT.keys
  have hpre : ∀ n : Nat, n ≤ 60 → tPre t' n = tPre t n := by
    intro n
    induction n with
    | zero => intro _; rfl
    | succ n ih =>
      intro hn
      have e3 : ∀ t, tPre t (n + 1) = tPre t n + tM t n := fun t => rfl
      rw [e3, e3, ih (by omega)]
      show _ + t' (20 + 7 * n + 6) = _ + t (20 + 7 * n + 6)
      rw [h1 _ (by omega)]
  refine ⟨⟨?_, ?_, ?_, ?_, ?_⟩, ⟨?_, ?_, fun k hk => ?_⟩, fun k hk => ?_, fun k hk => ?_, fun k i hk hi => ?_⟩
  · rw [h1 _ (by omega)]; exact hM.lines
  · rw [h1 _ (by omega)]; exact hM.stones
  · rw [h1 _ (by omega)]; exact hM.clean
  · rw [h1 _ (by omega)]; exact hM.fee
  · rw [h1 _ (by omega)]; exact hM.sacks
  · rw [h1 _ (by omega)]; exact hM.keys
  · rw [h1 _ (by omega)]; exact hM.small
  · rw [h1 _ (by omega)] at hk
    rw [h1 _ (by omega)]; exact hM.key hk
  · rw [h1 _ (by omega)] at hk
    rw [h1 _ (by omega), h1 _ (by omega)]; exact hM.pace hk
  · rw [h1 _ (by omega)] at hk
    rw [h1 _ (by omega), h1 _ (by omega), h1 _ (by omega), h1 _ (by omega), h1 _ (by omega), h1 _ (by omega), h1 _ (by omega)]
    exact hM.sk hk
  · rw [h1 _ (by omega)] at hk
    have hmk : tM t' k = tM t k := h1 _ (by omega)
    rw [hmk] at hi
    have g1 := tPre_nn hT (a := k) (by omega)
    have g2 := tPre_le hT (a := k + 1) (by omega)
    have e3 : tPre t (k + 1) = tPre t k + tM t k := rfl
    rw [hpre k (by omega), h2 _ (by omega)]; exact hM.cut hk hi
section PT
variable {τ y z : Sg} {s : Int} {d e : Nat} {w v : Nat → Int}
theorem PtW.had (h : PtW τ s d w y) (hT : TW (τ 224)) (h0 : 0 ≤ s) (h1 : s < τ 224 4) : nOf y s 6 = ((d : Nat) : Int) ∧ nFo y s = nFo τ s ∧ y 224 4 = τ 224 4 ∧ Bs y s = Bs τ s ∧ y 224 3 = τ 224 3 ∧ ∀ k : Int, 0 ≤ k → k < 6 → nOf y s k = nOf τ s k := by
  have hS := hT.sacks
  have e4 : y 224 4 = τ 224 4 := by rw [h.1 4 (by omega), if_neg (by omega)]
  have e3 : y 224 3 = τ 224 3 := by rw [h.1 3 (by omega), if_neg (by omega)]
  have e6 : nOf y s 6 = ((d : Nat) : Int) := by rw [nOf_t y h0 (by decide), h.1 _ (by show 20 + 7 * s.toNat + 6 < 608; omega), if_pos (by show ((20 + 7 * s.toNat + 6 : Nat) : Int) = _; omega)]
  refine ⟨e6, ?_, e4, ?_, e3, fun k hk0 hk => ?_⟩
  · unfold nFo
    refine itr_cg _ (fun k c hk => ?_)
    rw [nFoS, nFoS, nOf_n y k (by decide), nOf_n τ k (by decide), h.1 _ (by show 20 + 7 * k + 6 < 608; omega), if_neg (by show ¬ ((20 + 7 * k + 6 : Nat) : Int) = _; omega)]
  · unfold Bs
    rw [e6, h.2.1]; omega
  · rw [nOf_t y h0 hk0, nOf_t τ h0 hk0, h.1 _ (by omega), if_neg (by omega)]
theorem PtW.rf (hT : TW (τ 224)) (h0 : 0 ≤ s) (h1 : s < τ 224 4) : PtW τ s (nOf τ s 6).toNat (fun i => τ 224 (608 + ((nFo τ s).toNat + i))) τ := by
  have hS := hT.sacks
  obtain ⟨e1, e2, h2, h3⟩ := pt_rg hT h0 h1
  have ed : (((nOf τ s 6).toNat : Nat) : Int) = nOf τ s 6 := by omega
  refine ⟨fun j hj => ?_, by omega, fun p hp => ?_⟩
  · by_cases q : ((j : Nat) : Int) = 26 + 7 * s
    · rw [if_pos q, ed, nOf_t τ h0 (by decide)]
      congr 1
      show j = 20 + 7 * s.toNat + 6
      omega
    · rw [if_neg q]
  · rw [ed]
    by_cases q : ((p : Nat) : Int) < nFo τ s
    · rw [if_pos q]
    · rw [if_neg q]
      by_cases q2 : ((p : Nat) : Int) < nFo τ s + nOf τ s 6
      · rw [if_pos q2]; congr 1; omega
      · rw [if_neg q2]; congr 1; omega
theorem PtW.of (h : PtW τ s d w y) (hz : z 224 = y 224) : PtW τ s d w z := by unfold PtW; rw [hz]; exact h
theorem PtW.pts (h : PtW τ s e v y) (hT : TW (τ 224)) (hY : TW (y 224)) (h0 : 0 ≤ s) (h1 : s < τ 224 4) (hd : 1 ≤ d ∧ d ≤ 8) (hB : Bs τ s + ((d : Nat) : Int) ≤ 60) (w : Nat → Int) : PtW τ s d w (nPts (laW y w) s ((d : Nat) : Int)) := by
  have hS := hT.sacks
  obtain ⟨g1, g2, g3, g4, _, _⟩ := h.had hT h0 h1
  obtain ⟨e1, e2, h2, h3⟩ := pt_rg hT h0 h1
  have hl : laW y w 224 = y 224 := laW_ne (by decide)
  have hL : TW (laW y w 224) := by rw [hl]; exact hY
  have h6 : nOf (laW y w) s 6 = ((e : Nat) : Int) := by rw [nOf_of hl]; exact g1
  have hF : nFo (laW y w) s = nFo τ s := by
    rw [← g2]
    unfold nFo
    exact itr_cg _ (fun k c hk => by rw [nFoS, nFoS, nOf_of hl])
  have hs1 : s < laW y w 224 4 := by rw [hl, g3]; exact h1
  have hp : laW y w 224 668 - nOf (laW y w) s 6 + ((d : Nat) : Int) ≤ 60 := by
    rw [hl, h6, ← g1]
    have : Bs y s + ((d : Nat) : Int) ≤ 60 := by rw [g4]; exact hB
    exact this
  have hall : nPts (laW y w) s ((d : Nat) : Int) 224 668 = τ 224 668 + ((d : Nat) : Int) - nOf τ s 6 := by
    rw [nPts_all hL h0 hs1 (by omega) hp, hl, h6, h.2.1]; omega
  refine ⟨fun j hj => ?_, hall, fun p hpp => ?_⟩
  · rw [nPts_lo hL h0 hs1 (by omega) hp hj]
    by_cases q : ((j : Nat) : Int) = 26 + 7 * s
    · rw [if_pos q, if_pos q]
    · rw [if_neg q, if_neg q, hl, h.1 j hj, if_neg q]
  · rw [hall] at hpp
    have hB2 : τ 224 668 - nOf τ s 6 + ((d : Nat) : Int) ≤ 60 := hB
    rw [nPts_at hL h0 hs1 (by omega) hp, if_pos rfl, if_neg (by omega), if_neg (by omega), hF, h6, hl, laW_at]
    by_cases q : ((p : Nat) : Int) < nFo τ s
    · rw [if_neg (by omega), if_neg (by omega), if_pos q, h.2.2 p (by rw [h.2.1]; omega), if_pos q]
    · rw [if_neg q]
      by_cases q2 : ((p : Nat) : Int) < nFo τ s + ((d : Nat) : Int)
      · rw [if_pos (by omega), if_pos q2]; congr 1; omega
      · rw [if_neg (by omega), if_neg q2, if_pos (by rw [h.2.1]; omega)]
        have h5 := h.2.2 (((p : Nat) : Int) + ((e : Nat) : Int) - ((d : Nat) : Int)).toNat (by rw [h.2.1]; omega)
        rw [if_neg (by omega), if_neg (by omega)] at h5
        rw [show (((608 + p : Nat) : Int) + ((e : Nat) : Int) - ((d : Nat) : Int)).toNat = 608 + (((p : Nat) : Int) + ((e : Nat) : Int) - ((d : Nat) : Int)).toNat by omega, h5]
        congr 1; omega
theorem PtW.mr {σ : Sg} {m : Nat} (h : PtW τ s d w y) (k : PtW τ s d v z) (he : wqE d w v) (hY : TW (y 224)) (hM : MR σ m (y 224)) : MR σ m (z 224) := by
  have e668 : z 224 668 = y 224 668 := by rw [h.2.1, k.2.1]
  refine MR.cgw hY (fun j hj => by rw [k.1 j hj, h.1 j hj]) (fun p hp => ?_) hM
  rw [k.2.2 p (by rw [e668]; exact hp), h.2.2 p hp]
  by_cases q : ((p : Nat) : Int) < nFo τ s
  · rw [if_pos q, if_pos q]
  · rw [if_neg q, if_neg q]
    by_cases q2 : ((p : Nat) : Int) < nFo τ s + ((d : Nat) : Int)
    · rw [if_pos q2, if_pos q2]; exact (he _ (by omega)).symm
    · rw [if_neg q2, if_neg q2]
theorem PtW.kw (h : PtW τ s d w y) (hT : TW (τ 224)) (h0 : 0 ≤ s) (hK : KW (τ 224)) : KW (y 224) := by
  have hk8 := hT.keys
  intro k hk
  rw [h.1 8 (by omega), if_neg (by omega)] at hk
  rw [h.1 (9 + k) (by omega), if_neg (by omega)]; exact hK k hk
theorem PtW.tw (hT : TW (τ 224)) (h : PtW τ s e v y) (hY : TW (y 224)) (h0 : 0 ≤ s) (h1 : s < τ 224 4) (hd : 1 ≤ d ∧ d ≤ 8) (hB : Bs τ s + ((d : Nat) : Int) ≤ 60) (hw : ∀ i, i < d → 1 ≤ w i ∧ w i ≤ 99) : TW (nPts (laW y w) s ((d : Nat) : Int) 224) := by
  obtain ⟨g1, g2, g3, g4, _, _⟩ := h.had hT h0 h1
  have hl : laW y w 224 = y 224 := laW_ne (by decide)
  refine TW_pts (by rw [hl]; exact hY) h0 (by rw [hl, g3]; exact h1) (by omega) ?_ (fun k hk => by rw [laW_at]; exact hw k (by omega))
  rw [nOf_of hl, hl]
  have : Bs y s + ((d : Nat) : Int) ≤ 60 := by rw [g4]; exact hB
  exact this
/-- how long the sack waits if it is parted so -/
def pwW (τ : Sg) (s : Int) (d : Nat) (w : Nat → Int) : Int := nWa (nRu (nPts (laW τ w) s ((d : Nat) : Int))) s
def pwP (τ : Sg) (s : Int) (d : Nat) (w : Nat → Int) : Int := wr (wr (nOf τ s 4 * pwW τ s d w) + wr (τ 224 3 * ((d : Nat) : Int)))
/-- the trial's mill parted: as told -/
theorem MR_wayW {x : Sg} (hT : TW (τ 224)) (h : PtW τ s e v y) (hY : TW (y 224)) (hM : MR x 74 (y 224)) (h0 : 0 ≤ s) (h1 : s < τ 224 4) (hd : 1 ≤ d ∧ d ≤ 8) (hB : Bs τ s + ((d : Nat) : Int) ≤ 60) : MR (mWay x 74 123 8 s ((d : Nat) : Int)) 74 (nPts (laW y (x 123)) s ((d : Nat) : Int) 224) := by
  obtain ⟨g1, g2, g3, g4, _, _⟩ := h.had hT h0 h1
  have hl : laW y (x 123) 224 = y 224 := laW_ne (by decide)
  refine MR_way (τ := laW y (x 123)) (by rw [hl]; exact hY) (by rw [hl]; exact hM) (Or.inr (by decide)) h0 (by rw [hl, g3]; exact h1) (by omega) ?_ (fun i hi => ?_)
  · rw [nOf_of hl, hl]
    have : Bs y s + ((d : Nat) : Int) ≤ 60 := by rw [g4]; exact hB
    exact this
  · rw [rAt_nt (by omega), laW_at]
theorem pw_like {x0 : Sg} (hT : TW (τ 224)) (hK : KW (τ 224)) (hM : MR x0 74 (τ 224)) (h0 : 0 ≤ s) (h1 : s < τ 224 4) (hd : 1 ≤ d ∧ d ≤ 8) (hB : Bs τ s + ((d : Nat) : Int) ≤ 60) (hw : ∀ i, i < d → 1 ≤ w i ∧ w i ≤ 99) (hy : PtW τ s d w y) (hY : TW (y 224)) (he : wqE d w v) (hz : PtW τ s d v z) (hZ : TW (z 224)) : nWa (nRu y) s = nWa (nRu z) s := by
  have hx1 : MR (fun a j => if a = 123 then w j else x0 a j) 74 (τ 224) := hM.of (fun a h1 h2 j => by rw [if_neg (by omega)])
  have a1 := MR_wayW hT (PtW.rf hT h0 h1) hT hx1 h0 h1 hd hB
  have a2 : PtW τ s d w (nPts (laW τ ((fun (a j : Nat) => if a = 123 then w j else x0 a j) 123)) s ((d : Nat) : Int)) := (PtW.rf hT h0 h1).pts hT hT h0 h1 hd hB w
  have a3 : TW (nPts (laW τ ((fun (a j : Nat) => if a = 123 then w j else x0 a j) 123)) s ((d : Nat) : Int) 224) := PtW.tw hT (PtW.rf hT h0 h1) hT h0 h1 hd hB (w := w) hw
  generalize mWay (fun a j => if a = 123 then w j else x0 a j) 74 123 8 s ((d : Nat) : Int) = x1 at a1
  generalize nPts (laW τ ((fun (a j : Nat) => if a = 123 then w j else x0 a j) 123)) s ((d : Nat) : Int) = t at a1 a2 a3
  have b1 := a2.mr hy (wqE.rf d w) a3 a1
  have b2 := a2.mr hz he a3 a1
  have c1 := RD.go (r := 96) (m := 74) (by decide) hY (hy.kw hT h0 hK) b1
  have c2 := RD.go (r := 96) (m := 74) (by decide) hZ (hz.kw hT h0 hK) b2
  have hy4 := (hy.had hT h0 h1).2.2.1
  have hz4 := (hz.had hT h0 h1).2.2.1
  rw [← c1.wait h0 (by rw [nRu_224 hY, hy4]; exact h1), ← c2.wait h0 (by rw [nRu_224 hZ, hz4]; exact h1)]
section PW
variable {x0 : Sg}
theorem pw_at (hT : TW (τ 224)) (hK : KW (τ 224)) (hM : MR x0 74 (τ 224)) (h0 : 0 ≤ s) (h1 : s < τ 224 4) (hd : 1 ≤ d ∧ d ≤ 8) (hB : Bs τ s + ((d : Nat) : Int) ≤ 60) (hw : ∀ i, i < d → 1 ≤ w i ∧ w i ≤ 99) (he : wqE d w v) (hz : PtW τ s d v z) (hZ : TW (z 224)) : nWa (nRu z) s = pwW τ s d w :=
  (pw_like hT hK hM h0 h1 hd hB hw ((PtW.rf hT h0 h1).pts hT hT h0 h1 hd hB w) (PtW.tw hT (PtW.rf hT h0 h1) hT h0 h1 hd hB hw) he hz hZ).symm
theorem pw_cg (hT : TW (τ 224)) (hK : KW (τ 224)) (hM : MR x0 74 (τ 224)) (h0 : 0 ≤ s) (h1 : s < τ 224 4) (hd : 1 ≤ d ∧ d ≤ 8) (hB : Bs τ s + ((d : Nat) : Int) ≤ 60) (hw : ∀ i, i < d → 1 ≤ w i ∧ w i ≤ 99) (he : wqE d w v) : pwW τ s d w = pwW τ s d v ∧ pwP τ s d w = pwP τ s d v := by
  have e : pwW τ s d w = pwW τ s d v := (pw_at hT hK hM h0 h1 hd hB hw he ((PtW.rf hT h0 h1).pts hT hT h0 h1 hd hB v) (PtW.tw hT (PtW.rf hT h0 h1) hT h0 h1 hd hB (fun i hi => by rw [← he i hi]; exact hw i hi))).symm
  refine ⟨e, ?_⟩
  unfold pwP
  rw [e]
/-- the model's price -/
theorem pw_price (hT : TW (τ 224)) (hK : KW (τ 224)) (hM : MR x0 74 (τ 224)) (h0 : 0 ≤ s) (h1 : s < τ 224 4) (hd : 1 ≤ d ∧ d ≤ 8) (hB : Bs τ s + ((d : Nat) : Int) ≤ 60) (hw : ∀ i, i < d → 1 ≤ w i ∧ w i ≤ 99) (he : wqE d w v) (hz : PtW τ s d v z) (hZ : TW (z 224)) : nPcO (nRu z) s = pwP τ s d w := by
  obtain ⟨g1, g2, g3, g4, g5, g6⟩ := hz.had hT h0 h1
  unfold nPcO pwP
  rw [pw_at hT hK hM h0 h1 hd hB hw he hz hZ, nOf_of (nRu_224 hZ), nOf_of (nRu_224 hZ), nRu_224 hZ, g1, g5, g6 4 (by decide) (by decide)]
/-- the class's -/
theorem pw_class {x : Sg} (hT : TW (τ 224)) (hK : KW (τ 224)) (hM : MR x0 74 (τ 224)) (h0 : 0 ≤ s) (h1 : s < τ 224 4) (hd : 1 ≤ d ∧ d ≤ 8) (hB : Bs τ s + ((d : Nat) : Int) ≤ 60) (hw : ∀ i, i < d → 1 ≤ w i ∧ w i ≤ 99) (he : wqE d w v) (hz : PtW τ s d v z) (hZ : TW (z 224)) (hx : MR x 74 (z 224)) : uW (go x 96 74) 96 74 s = pwW τ s d w ∧ wgP (go x 96 74) s ((d : Nat) : Int) = pwP τ s d w := by
  obtain ⟨g1, g2, g3, g4, g5, g6⟩ := hz.had hT h0 h1
  have c2 := RD.go (r := 96) (m := 74) (by decide) hZ (hz.kw hT h0 hK) hx
  have e1 : uW (go x 96 74) 96 74 s = pwW τ s d w := by
    rw [c2.wait h0 (by rw [nRu_224 hZ, g3]; exact h1)]
    exact pw_at hT hK hM h0 h1 hd hB hw he hz hZ
  refine ⟨e1, ?_⟩
  have hx2 : MR (go x 96 74) 74 (z 224) := hx.of (fun a h1 h2 j => go_off x a (by omega) j)
  have a := sk_at hZ hx2 h0 (by rw [g3]; exact h1)
  unfold wgP pwP
  rw [e1, a.2.2.2.2.1, hx2.fee, g5, g6 4 (by decide) (by decide)]
end PW
/-- nobody waits for ever -/
def RC6 (τ : Sg) : Prop := ∀ p : Nat, ((p : Nat) : Int) < τ 224 668 → τ 232 p ≠ -1 → τ 233 p ≤ 100000
theorem nRu_RC6 (hT : TW (τ 224)) : RC6 (nRu τ) := by
  refine nRu_P (P := RC6) ?_ hT ?_
  · intro y p st mi hI hR hP h0 h1 h2 h3 hs0 hs1 q hq hn
    have hb := hI.b
    have h6 := hI.1.1.p60
    have hm1 : mi ≤ 57660 := by have := hR.1.2; omega
    have hv := vb_ok hI.1 h0 h1 hs0 hs1 hR.1.1 (by omega)
    rw [nBg_232] at hn
    rw [nBg_233]
    change (if q = p.toNat then vbG y p st mi else y 232 q) ≠ -1 at hn
    show (if q = p.toNat then vbD y p st mi else y 233 q) ≤ _
    by_cases e : q = p.toNat
    · rw [if_pos e]; omega
    · rw [if_neg e] at hn
      rw [if_neg e]
      exact hP q hq hn
  · intro p hp hn
    rw [nFg_224] at hp
    exact absurd (nFg_232 τ hp) hn
theorem wait_6 (hT : TW (τ 224)) (h0 : 0 ≤ s) (h1 : s < τ 224 4) : nWa (nRu τ) s ≤ 100000 := by
  have hC := nRu_RC6 hT
  obtain ⟨hI, h224, h27⟩ := nRu_end hT
  have hof := hT.of h0 h1
  have hP0 := hT.p0
  obtain ⟨f1, f2, f3⟩ := nEo_pr (nRu τ) s (nRu τ 224 668).toNat
  change 0 ≤ nEo (nRu τ) s at f1
  change nEo (nRu τ) s = 0 ∨ ∃ p : Nat, p < (nRu τ 224 668).toNat ∧ nRu τ 231 p = s ∧ nRu τ 233 p = nEo (nRu τ) s at f3
  have g2 : nEo (nRu τ) s ≤ 100000 := by
    rcases f3 with f3 | ⟨p, p1, p2, p3⟩
    · omega
    · rw [← p3]
      have h2 := hI.2
      rw [h27] at h2
      have hl : ((p : Nat) : Int) < nRu τ 224 668 := by omega
      exact hC p hl (cntB_full (nRu τ 232) (nRu τ 224 668).toNat (by rw [h224] at h2 ⊢; omega) p1)
  unfold nWa
  rw [nOf_of h224]
  generalize nEo (nRu τ) s = E at f1 g2
  rw [wr_id (by unfold okI; omega)]
  omega
theorem pw_rg (hT : TW (τ 224)) (h0 : 0 ≤ s) (h1 : s < τ 224 4) (hd : 1 ≤ d ∧ d ≤ 8) (hB : Bs τ s + ((d : Nat) : Int) ≤ 60) (hw : ∀ i, i < d → 1 ≤ w i ∧ w i ≤ 99) : 0 ≤ pwW τ s d w ∧ pwW τ s d w ≤ 100000 := by
  have a3 := PtW.tw hT (PtW.rf hT h0 h1) hT h0 h1 hd hB hw
  have a2 := (PtW.rf hT h0 h1).pts hT hT h0 h1 hd hB w
  have a4 := (a2.had hT h0 h1).2.2.1
  exact ⟨wait_0 a3 h0 (by rw [a4]; exact h1), wait_6 a3 h0 (by rw [a4]; exact h1)⟩
end PT
