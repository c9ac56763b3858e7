/-! ALIKE, 25: a mill, a law told -/
section ML
variable {σ σ' τ τ' : Sg} {t t' : Nat → Int}
theorem Rel.read (h : Rel σ τ) (m : MR σ' 4 (τ' 224) ∧ TW (τ' 224) ∧ KW (τ' 224) ∧ τ' 224 4 ≤ 24) (t1 : σ' 1 1 = 0) (t2 : τ' 223 7 = 0) (f1 : σ' 3 6 = τ' 223 15) (f2 : σ' 3 7 = τ' 223 16) (fz : ∀ a j : Nat, 147 ≤ a → σ' a j = σ a j) (ft : ∀ a j : Nat, (a = 227 ∨ a = 228 ∨ a = 245 ∨ a = 246 ∨ a = 247) → τ' a j = τ a j) : Rel σ' τ' := by
  obtain ⟨_, _, _, ⟨d1, d2⟩, e⟩ := h
  have g227 : τ' 227 = τ 227 := funext fun j => ft 227 j (by omega)
  have g228 : τ' 228 = τ 228 := funext fun j => ft 228 j (by omega)
  have g245 : τ' 245 = τ 245 := funext fun j => ft 245 j (by omega)
  have g246 : τ' 246 = τ 246 := funext fun j => ft 246 j (by omega)
  have g247 : τ' 247 = τ 247 := funext fun j => ft 247 j (by omega)
  refine ⟨m, ⟨by omega, by omega, by omega, fun i hi hi2 => by omega⟩, ⟨f1, f2⟩, ⟨fun i hi => ?_, fun i hi => ⟨fun q => ?_, fun q => ?_⟩⟩, fun i hi => ⟨?_, fun q => ?_⟩⟩
  · rw [g245, g246]; exact d1 i hi
  · rw [g245] at q
    rw [fz _ _ (by omega)]; exact (d2 i hi).1 q
  · rw [g245] at q
    have t := (d2 i hi).2 q
    refine ⟨?_, ?_, fun k hk => ?_⟩
    · rw [fz _ _ (by omega), g245]; exact t.1
    · rw [fz _ _ (by omega), g246]; exact t.2.1
    · rw [fz _ _ (by omega), g247]; exact t.2.2 k hk
  · rw [fz _ _ (by omega), g228]; exact (e i hi).1
  · rw [g228] at q
    have t := (e i hi).2 q
    rw [g227]
    exact ⟨t.1.of (fun a h1 h2 j => fz a j (by omega)), t.2⟩
theorem nEn_15 (y : Sg) : nEn y 223 15 = y 223 13 := by
  unfold nEn nEn1; rw [su_ne _ _ (Or.inr (by decide)), su_same]
theorem nEn_13 (y : Sg) : nEn y 223 13 = y 223 13 := by
  unfold nEn nEn1; rw [su_ne _ _ (Or.inr (by decide)), su_ne _ _ (Or.inr (by decide))]
theorem nEn_16 (y : Sg) : nEn y 223 16 = if y 223 13 = 0 then -1 else y 223 14 := by
  unfold nEn nEn1; rw [su_same, su_ne _ _ (Or.inr (by decide)), su_ne _ _ (Or.inr (by decide))]
theorem nEn_ne (y : Sg) {a j : Nat} (h : a ≠ 223 ∨ (j ≠ 15 ∧ j ≠ 16)) : nEn y a j = y a j := by
  unfold nEn nEn1; rw [su_ne _ _ (by omega), su_ne _ _ (by omega)]
theorem nEnV_at (y : Sg) (a : Int) : nEnV y a = if y 223 13 = 0 then a else wr (-10 - y 223 13) := by
  unfold nEnV; rw [nEn_13]
/-- the end of both texts' readings -/
theorem Rel.bad (h : Rel σ τ) {x y : Sg} (hb : RB x y) (fx : ∀ a j : Nat, a < 51 → a ≠ 3 → x a j = σ a j) (fx2 : ∀ a j : Nat, 147 ≤ a → x a j = σ a j) (fy : ∀ a j : Nat, a ≠ 225 → a ≠ 223 → y a j = τ a j) (f5 : y 223 5 = 0) (f7 : y 223 7 = 0) (v w : Int) :
    Al none eI (if (zTd x).1 = 0 then wr (-10 - (zTd x).2 3 6) else v) (nEnV y w) (zTd x).2 σ (nEn y) := by
  obtain ⟨b1, b2, b3⟩ := hb
  have hy : y 223 13 ≠ 0 := fun e => b1 (b2.trans e)
  have e3 : ∀ j, su x 1 1 0 3 j = x 3 j := fun j => su_ne _ _ (Or.inl (by decide))
  have ez : zTd x = (0, su x 1 1 0) := by unfold zTd; rw [if_pos (by rw [e3]; exact b1)]
  rw [ez, nEnV_at, if_pos rfl, if_neg hy]
  show Al none eI (wr (-10 - su x 1 1 0 3 6)) (wr (-10 - y 223 13)) (su x 1 1 0) σ (nEn y)
  rw [e3, b2]
  refine Al.no _ ?_ rfl (h.read ⟨?_, ?_, ?_, ?_⟩ (su_same _ _ _ _) ?_ ?_ ?_ (fun a j ha => ?_) (fun a j ha => ?_))
  · rw [nEn_ne _ (Or.inr (by decide))]; exact f5
  · have e224 : nEn y 224 = τ 224 := funext fun j => by rw [nEn_ne _ (Or.inl (by decide))]; exact fy 224 j (by decide) (by decide)
    rw [e224]
    exact h.mr.of (fun a h1 h2 j => by rw [su_ne _ _ (Or.inl (by omega))]; exact fx a j (by omega) (by omega))
  · have e224 : nEn y 224 = τ 224 := funext fun j => by rw [nEn_ne _ (Or.inl (by decide))]; exact fy 224 j (by decide) (by decide)
    rw [e224]; exact h.tw
  · have e224 : nEn y 224 = τ 224 := funext fun j => by rw [nEn_ne _ (Or.inl (by decide))]; exact fy 224 j (by decide) (by decide)
    rw [e224]; exact h.kw
  · rw [nEn_ne _ (Or.inl (by decide)), fy 224 4 (by decide) (by decide)]; exact h.s24
  · rw [nEn_ne _ (Or.inr (by decide))]; exact f7
  · rw [nEn_15, e3]; exact b2
  · rw [nEn_16, if_neg hy, e3]; exact b3
  · rw [su_ne _ _ (Or.inl (by omega))]; exact fx2 a j ha
  · rw [nEn_ne _ (Or.inl (by omega))]; exact fy a j (by omega) (by omega)
theorem gBytes_w (h : Rel σ τ) (n : Int) : gBytes σ n = if wth n 0 (τ 223 7) = 0 then gIA else none := by
  unfold gBytes wth
  rw [h.tape.1]
  by_cases q : 0 ≤ n ∧ n ≤ τ 223 7
  · rw [if_pos q, if_pos q, if_neg (by decide)]
  · rw [if_neg q, if_neg q, if_pos rfl]
theorem stand_off (σ : Sg) (a j : Nat) (h : a < 51 ∨ 73 ≤ a) : mStand σ 51 a j = σ a j := by
  unfold mStand; split
  · unfold mStone
    rw [su_ne _ _ (Or.inl (by omega)), rPut_ne (by omega)]
  · rfl
theorem rOpen_at (σ : Sg) (n : Int) : rOpen σ n 3 6 = 0 ∧ rOpen σ n 3 7 = -1 ∧ ∀ a j : Nat, a ≠ 3 → rOpen σ n a j = σ a j := by
  refine ⟨rfl, rfl, fun a j ha => ?_⟩
  unfold rOpen
  rw [adv_3 _ ha, su_ne _ _ (Or.inl ha), su_ne _ _ (Or.inl ha), su_ne _ _ (Or.inl ha), su_ne _ _ (Or.inl ha)]
theorem Rel.opened (h : Rel σ τ) {x y : Sg} {n : Int} (hn : 0 ≤ n ∧ n ≤ τ 223 7) (fx : ∀ j : Nat, x 2 j = σ 2 j) (fy : ∀ j : Nat, y 229 j = τ 229 j) : RE (rOpen x n) (nSt y n) := by
  obtain ⟨t1, t2, t3, t4⟩ := h.tape
  unfold rOpen nSt
  have e8 : su (su (su (su y 223 8 n) 223 7 0) 223 9 0) 223 13 0 223 8 = n := rfl
  refine RE.open_ ⟨rfl, rfl⟩ rfl ⟨rfl, rfl⟩ (by rw [e8]; omega) (fun i h0 hi => ?_)
  rw [e8] at hi
  have a := t4 i.toNat (by omega) (by omega)
  have e : tAt (su (su (su (su x 3 1 n) 3 4 0) 3 6 0) 3 7 (-1)) i = wand (x 2 i.toNat) 255 := by unfold tAt; rw [if_pos (by omega)]; rfl
  have e2 : tpF (su (su (su (su y 223 8 n) 223 7 0) 223 9 0) 223 13 0) i = y 229 i.toNat := rfl
  rw [e, e2, fx, fy]; exact a
theorem clear_at (σ : Sg) (a j : Nat) : mClear σ 51 a j = if a = 51 ∧ (1 ≤ j ∧ j ≤ 5) then 0 else σ a j := by
  unfold mClear
  by_cases z : a = 51 ∧ (1 ≤ j ∧ j ≤ 5)
  · rw [if_pos z]
    obtain ⟨rfl, z1, z2⟩ := z
    rw [su_at, su_at, su_at, su_at, su_at]
    by_cases z5 : j = 5
    · rw [if_pos z5]
    rw [if_neg z5]
    by_cases z4 : j = 4
    · rw [if_pos z4]
    rw [if_neg z4]
    by_cases z3 : j = 3
    · rw [if_pos z3]
    rw [if_neg z3]
    by_cases z2 : j = 2
    · rw [if_pos z2]
    rw [if_neg z2, if_pos (by omega)]
  · rw [if_neg z, su_ne _ _ (by omega), su_ne _ _ (by omega), su_ne _ _ (by omega), su_ne _ _ (by omega), su_ne _ _ (by omega)]
theorem nMl0_at (τ : Sg) (n : Int) : (∀ a j : Nat, a ≠ 225 → nMl0 τ n 672 a j = nSt (nT0 τ) n a j) ∧ ∀ j : Nat, j < 672 → nMl0 τ n 672 225 j = if 8 ≤ j ∧ j ≤ 17 then nSt (nT0 τ) n 224 j else 0 := by
  unfold nMl0
  refine ⟨fun a j ha => nMc_ne _ _ ha j, fun j hj => ?_⟩
  rw [nMc_at, if_pos hj]
theorem nSt_lo (y : Sg) (n : Int) {a j : Nat} (h : a ≠ 223 ∨ (j < 7)) : nSt y n a j = y a j := by
  unfold nSt
  by_cases z : a = 225
  · subst z
    rw [nRd_ne _ (by decide), su_ne _ _ (Or.inl (by decide)), su_ne _ _ (Or.inl (by decide)), su_ne _ _ (Or.inl (by decide)), su_ne _ _ (Or.inl (by decide))]
  · rw [Nf.rd _ a j ⟨z, by omega⟩, su_ne _ _ (by omega), su_ne _ _ (by omega), su_ne _ _ (by omega), su_ne _ _ (by omega)]
theorem nSt_7 (y : Sg) (n : Int) : nSt y n 223 7 = 0 := by
  unfold nSt
  rw [Nf.rd _ 223 7 ⟨by decide, Or.inr (by decide)⟩, su_ne _ _ (Or.inr (by decide)), su_ne _ _ (Or.inr (by decide)), su_same]
/-- the mill's text -/
theorem al_mill (h : Rel σ τ) (n : Int) : Al (gBytes σ n) eI (zMill σ n).1 (nMl τ n 672).1 (zMill σ n).2 σ (nMl τ n 672).2 := by
  rw [gBytes_w h]
  unfold nMl
  by_cases q : wth n 0 (τ 223 7) = 0
  · rw [if_pos q, if_pos q]
    exact Al.th 0 rfl (thr_5 (nT0 τ) 1) (h.t0.thr 1)
  rw [if_neg q, if_neg q]
  have hn : 0 ≤ n ∧ n ≤ τ 223 7 := by
    have : ¬ (n < 0 ∨ τ 223 7 < n) := fun e => q (wth_0.mpr e)
    omega
  have hT := h.tw
  have hap : 4 + 22 ≤ 51 ∨ 51 + 22 ≤ 4 := Or.inl (by decide)
  have c0 := MR_copy (σ := σ) (m := 51) (f := 4) hap hT h.mr
  have c1 := mCopy_off σ (m := 51) (f := 4) hap
  have c2 := clear_at (mCopy σ 51 4)
  obtain ⟨o1, o2, o3⟩ := rOpen_at (mClear (mCopy σ 51 4) 51) n
  have hre : RE (rOpen (mClear (mCopy σ 51 4) 51) n) (nSt (nT0 τ) n) := h.opened hn (fun j => by rw [c2, if_neg (by omega), c1 2 (by omega) j]) (fun j => by unfold nT0; exact su_ne _ _ (Or.inl (by decide)))
  obtain ⟨m1, m2⟩ := nMl0_at τ n
  have hre0 : RE (rOpen (mClear (mCopy σ 51 4) 51) n) (nMl0 τ n 672) := hre.mod (fun a j ha => m1 a j (by omega))
  have ht224 : ∀ j, nSt (nT0 τ) n 224 j = τ 224 j := fun j => by rw [nSt_lo _ _ (Or.inl (by decide))]; unfold nT0; exact su_ne _ _ (Or.inl (by decide))
  have r5 : nMl0 τ n 672 223 5 = 0 := by rw [m1 _ _ (by decide), nSt_lo _ _ (Or.inr (by decide))]; exact thr_5 τ 0
  have r7 : nMl0 τ n 672 223 7 = 0 := by rw [m1 _ _ (by decide), nSt_7]
  have hhd : Hd (nMl0 τ n 672) := Hd_of (fun j => m1 223 j (by decide)) (Hd_st (nT0 τ) (by have := h.tape.2.2.1; omega))
  have ry : ∀ a j : Nat, a ≠ 225 → a ≠ 223 → nMl0 τ n 672 a j = τ a j := fun a j h1 h2 => by
    rw [m1 a j h1, nSt_lo _ _ (Or.inl h2)]; unfold nT0; exact su_ne _ _ (Or.inl h2)
  have row : ∀ j : Nat, j < 672 → nMl0 τ n 672 225 j = if 8 ≤ j ∧ j ≤ 17 then τ 224 j else 0 := fun j hj => by rw [m2 j hj, ht224]
  have hkk := hT.keys
  have hkw := h.kw
  have hd : DR (rOpen (mClear (mCopy σ 51 4) 51) n) (nMl0 τ n 672 225) := by
    have ez : ∀ j : Nat, 1 ≤ j → j ≤ 5 → rOpen (mClear (mCopy σ 51 4) 51) n 51 j = 0 := fun j h1 h2 => by rw [o3 _ _ (by decide), c2, if_pos ⟨rfl, h1, h2⟩]
    have en : ∀ a j : Nat, a ≠ 51 → a ≠ 3 → rOpen (mClear (mCopy σ 51 4) 51) n a j = mCopy σ 51 4 a j := fun a j h1 h2 => by rw [o3 _ _ h2, c2, if_neg (by omega)]
    have z : ∀ j : Nat, j < 8 ∨ (18 ≤ j ∧ j < 672) → nMl0 τ n 672 225 j = 0 := fun j hj => by rw [row j (by omega), if_neg (by omega)]
    refine ⟨⟨?_, ?_, ?_, ?_, ?_⟩, ⟨?_, ?_, fun k hk => ?_⟩, fun k hk => ?_, fun s hs => ?_⟩
    · rw [ez _ (by decide) (by decide), z _ (by decide)]
    · rw [ez _ (by decide) (by decide), z _ (by decide)]
    · rw [ez _ (by decide) (by decide), z _ (by decide)]
    · rw [ez _ (by decide) (by decide), z _ (by decide)]
    · rw [ez _ (by decide) (by decide), z _ (by decide)]
    · rw [en _ _ (by decide) (by decide), row _ (by decide), if_pos (by decide)]; exact c0.keys
    · rw [en _ _ (by decide) (by decide), row _ (by decide), if_pos (by decide)]; exact c0.small
    · rw [row _ (by decide), if_pos (by decide)] at hk
      rw [en _ _ (by decide) (by decide), row _ (by omega), if_pos (by omega)]; exact c0.key hk
    · rw [z _ (by decide)] at hk; omega
    · rw [z _ (by decide)] at hs; omega
  have hw : DW (nMl0 τ n 672 225) := by
    have z : ∀ j : Nat, j < 8 ∨ (18 ≤ j ∧ j < 672) → nMl0 τ n 672 225 j = 0 := fun j hj => by rw [row j (by omega), if_neg (by omega)]
    refine ⟨⟨?_, ?_, ?_, ?_, ?_, ?_, ?_⟩, fun k hk => ?_, fun s hs => ?_, fun k hk => ?_⟩
    · rw [z _ (by decide)]; omega
    · rw [z _ (by decide)]; omega
    · rw [z _ (by decide)]; omega
    · rw [z _ (by decide)]; omega
    · rw [row _ (by decide), if_pos (by decide)]; exact hT.keys
    · rw [row _ (by decide), if_pos (by decide)]; exact hT.small
    · rw [z _ (by decide), z _ (by decide)]
    · rw [z _ (by decide)] at hk; omega
    · rw [z _ (by decide)] at hs; omega
    · rw [row _ (by decide), if_pos (by decide)] at hk
      rw [row _ (by omega), if_pos (by omega)]; exact hkw k hk
  have hq := mlL_alike 900 902 (by decide) (Or.inl ⟨hre0, hd, hw⟩) (fun _ => ⟨hhd, fun _ => by have := hhd.1.1; omega⟩)
  have zf := Zf.hMillL 900 (rOpen (mClear (mCopy σ 51 4) 51) n)
  have nf := Nf.mlL 902 (nMl0 τ n 672)
  have fx : ∀ a j : Nat, a < 51 ∨ 73 ≤ a → a ≠ 3 → tMillL 900 (rOpen (mClear (mCopy σ 51 4) 51) n) a j = σ a j := fun a j h1 h2 => by
    rw [zf.1 a j (by unfold Pm; omega), o3 _ _ h2, c2, if_neg (by omega), c1 a (by omega) j]
  have f7 := zf.2 (fun _ => o2)
  have fy : ∀ a j : Nat, a ≠ 225 → a ≠ 223 → nMlL 902 (nMl0 τ n 672) a j = τ a j := fun a j h1 h2 => by
    rw [nf a j ⟨h1, Or.inl h2⟩]; exact ry a j h1 h2
  have f5 : nMlL 902 (nMl0 τ n 672) 223 5 = 0 := by rw [nf 223 5 ⟨by decide, Or.inr (by decide)⟩]; exact r5
  have f77 : nMlL 902 (nMl0 τ n 672) 223 7 = 0 := by rw [nf 223 7 ⟨by decide, Or.inr (by decide)⟩]; exact r7
  have e1 : tMill (mCopy σ 51 4) n = mStand (tMillL 900 (rOpen (mClear (mCopy σ 51 4) 51) n)) 51 := rfl
  have e2 : nMl1 τ n 672 = nMlL 902 (nMl0 τ n 672) := rfl
  unfold zMill nMl2
  rw [e1, e2]
  clear m1 m2 hre hre0 r5 r7 hhd ry row hd hw zf nf e1 e2 c2 o1 o2 o3 c0 c1 ht224
  generalize tMillL 900 (rOpen (mClear (mCopy σ 51 4) 51) n) = x at hq fx f7 ⊢
  generalize nMlL 902 (nMl0 τ n 672) = y at hq fy f5 f77 ⊢
  have sx := stand_off x
  show Al none eI (if (zTd (mStand x 51)).1 = 0 then wr (-10 - (zTd (mStand x 51)).2 3 6) else (zTd (mStand x 51)).2 4 1) (nEnV (if y 223 13 = 0 then nCp y 225 224 else y) ((if y 223 13 = 0 then nCp y 225 224 else y) 224 0)) (zTd (mStand x 51)).2 σ (nEn (if y 223 13 = 0 then nCp y 225 224 else y))
  rcases hq with ⟨k, kd, kw⟩ | k
  · have hM := kd.mr kw
    have tw := kw.tw
    generalize mStand x 51 = z at sx hM ⊢
    have g13 := k.good
    have z36 : z 3 6 = 0 := by rw [sx 3 6 (by decide)]; exact k.1.1
    have ez : zTd z = (1, mCopy (su z 1 1 0) 4 51) := by unfold zTd; rw [if_neg (by rw [su_ne _ _ (Or.inl (by decide)), z36]; decide)]
    have hM1 : MR (su z 1 1 0) 51 (y 225) := hM.of (fun a h1 h2 j => su_ne _ _ (Or.inl (by omega)))
    have hap2 : 51 + 22 ≤ 4 ∨ 4 + 22 ≤ 51 := Or.inr (by decide)
    have hM2 := MR_copy (σ := su z 1 1 0) (m := 4) (f := 51) hap2 tw hM1
    have ho := mCopy_off (su z 1 1 0) (m := 4) (f := 51) hap2
    have ez1 : (zTd z).1 = 1 := by rw [ez]
    have ez2 : (zTd z).2 = mCopy (su z 1 1 0) 4 51 := by rw [ez]
    rw [ez1, ez2, if_neg (show ¬ (1 : Int) = 0 by decide), if_pos g13]
    have cpo : ∀ a, a ≠ 224 → nCp y 225 224 a = y a := fun a ha => nCp_ne y (by decide) ha
    have e6 : Eq6 (y 225) (nCp y 225 224 224) := fun j hj => nCp_lo y (by decide) hj
    generalize nCp y 225 224 = u at cpo e6 ⊢
    generalize mCopy (su z 1 1 0) 4 51 = v at hM2 ho ⊢
    have u13 : u 223 13 = 0 := by rw [cpo _ (by decide)]; exact g13
    have e62 : Eq6 (y 225) (nEn u 224) := fun j hj => by rw [nEn_ne _ (Or.inl (by decide))]; exact e6 j hj
    have k24 := kw.1.2.2.2.1.2
    rw [nEnV_at, if_pos u13]
    refine Al.no _ ?_ ?_ (h.read ⟨?_, ?_, ?_, ?_⟩ ?_ ?_ ?_ ?_ (fun a j ha => ?_) (fun a j ha => ?_))
    · rw [nEn_ne _ (Or.inr (by decide)), cpo _ (by decide)]; exact f5
    · rw [e6 0 (by decide)]; exact hM2.lines
    · exact hM2.cg tw e62
    · exact TW_cg e62 tw
    · exact kw.2.2.2.cg tw e62
    · rw [e62 4 (by decide)]; exact k24
    · rw [ho 1 (by decide), su_same]
    · rw [nEn_ne _ (Or.inr (by decide)), cpo _ (by decide)]; exact f77
    · rw [nEn_15, u13, ho 3 (by decide), su_ne _ _ (Or.inl (by decide)), z36]
    · rw [nEn_16, if_pos u13, ho 3 (by decide), su_ne _ _ (Or.inl (by decide)), sx 3 7 (by decide)]; exact f7 k.1.1
    · rw [ho a (by omega), su_ne _ _ (Or.inl (by omega)), sx a j (by omega)]; exact fx a j (by omega) (by omega)
    · rw [nEn_ne _ (Or.inl (by omega)), cpo _ (by omega)]; exact fy a j (by omega) (by omega)
  · rw [if_neg k.bad]
    exact h.bad (k.cls (fun j => sx 3 j (by decide))) (fun a j h1 h2 => by rw [sx a j (by omega)]; exact fx a j (by omega) h2) (fun a j h1 => by rw [sx a j (by omega)]; exact fx a j (by omega) (by omega)) fy f5 f77 _ _
/-- the law's text -/
theorem al_law (h : Rel σ τ) (n : Int) : Al (gBytes σ n) eI (zLaw σ n).1 (nLw τ n).1 (zLaw σ n).2 σ (nLw τ n).2 := by
  rw [gBytes_w h]
  unfold nLw
  by_cases q : wth n 0 (τ 223 7) = 0
  · rw [if_pos q, if_pos q]
    exact Al.th 0 rfl (thr_5 (nT0 τ) 1) (h.t0.thr 1)
  rw [if_neg q, if_neg q]
  have hn : 0 ≤ n ∧ n ≤ τ 223 7 := by
    have : ¬ (n < 0 ∨ τ 223 7 < n) := fun e => q (wth_0.mpr e)
    omega
  have hT := h.tw
  have hap : 4 + 22 ≤ 51 ∨ 51 + 22 ≤ 4 := Or.inl (by decide)
  have c0 := MR_copy (σ := σ) (m := 51) (f := 4) hap hT h.mr
  have c1 := mCopy_off σ (m := 51) (f := 4) hap
  have c2 : ∀ a j : Nat, su (su (mCopy σ 51 4) 52 1 0) 52 2 0 a j = if a = 52 ∧ (j = 1 ∨ j = 2) then 0 else mCopy σ 51 4 a j := by
    intro a j
    by_cases z : a = 52
    · subst z
      rw [su_at, su_at]
      by_cases z2 : j = 2
      · rw [if_pos z2, if_pos (by omega)]
      rw [if_neg z2]
      by_cases z1 : j = 1
      · rw [if_pos z1, if_pos (by omega)]
      · rw [if_neg z1, if_neg (by omega)]
    · rw [su_ne _ _ (Or.inl z), su_ne _ _ (Or.inl z), if_neg (by omega)]
  obtain ⟨o1, o2, o3⟩ := rOpen_at (su (su (mCopy σ 51 4) 52 1 0) 52 2 0) n
  have hre : RE (rOpen (su (su (mCopy σ 51 4) 52 1 0) 52 2 0) n) (nSt (nT0 τ) n) := h.opened hn (fun j => by rw [c2, if_neg (by omega), c1 2 (by omega) j]) (fun j => by unfold nT0; exact su_ne _ _ (Or.inl (by decide)))
  have m1 : ∀ a j : Nat, a ≠ 225 → nLw0 τ n a j = nSt (nT0 τ) n a j := fun a j ha => by unfold nLw0; exact nLcS_ne _ _ ha j
  have m2 : ∀ j : Nat, 8 ≤ j → j ≤ 17 → nLw0 τ n 225 j = 0 := fun j h1 h2 => by unfold nLw0; rw [nLcS_at, if_pos (by omega)]
  have hre0 : RE (rOpen (su (su (mCopy σ 51 4) 52 1 0) 52 2 0) n) (nLw0 τ n) := hre.mod (fun a j ha => m1 a j (by omega))
  have r5 : nLw0 τ n 223 5 = 0 := by rw [m1 _ _ (by decide), nSt_lo _ _ (Or.inr (by decide))]; exact thr_5 τ 0
  have r7 : nLw0 τ n 223 7 = 0 := by rw [m1 _ _ (by decide), nSt_7]
  have hhd : Hd (nLw0 τ n) := Hd_of (fun j => m1 223 j (by decide)) (Hd_st (nT0 τ) (by have := h.tape.2.2.1; omega))
  have ry : ∀ a j : Nat, a ≠ 225 → a ≠ 223 → nLw0 τ n a j = τ a j := fun a j h1 h2 => by
    rw [m1 a j h1, nSt_lo _ _ (Or.inl h2)]; unfold nT0; exact su_ne _ _ (Or.inl h2)
  have hl : LD (rOpen (su (su (mCopy σ 51 4) 52 1 0) 52 2 0) n) (nLw0 τ n 225) := by
    have z8 := m2 8 (by decide) (by decide)
    have z17 := m2 17 (by decide) (by decide)
    refine ⟨⟨?_, ?_, fun k hk => ?_⟩, ⟨?_, ?_⟩, fun k hk => ?_⟩
    · rw [z8, o3 _ _ (by decide), c2, if_pos (by decide)]
    · rw [z17, o3 _ _ (by decide), c2, if_pos (by decide)]
    · rw [z8] at hk; omega
    · rw [z8]; omega
    · rw [z17]; omega
    · rw [z8] at hk; omega
  have hq := lwL_alike 900 902 (by decide) (Or.inl ⟨hre0, hl⟩) (fun _ => ⟨hhd, fun _ => by have := hhd.1.1; omega⟩)
  have zf := Zf.hLawL 900 (rOpen (su (su (mCopy σ 51 4) 52 1 0) 52 2 0) n)
  have nf := Nf.lwL 902 (nLw0 τ n)
  have fx : ∀ a j : Nat, a < 51 ∨ 73 ≤ a → a ≠ 3 → tLawL 900 (rOpen (su (su (mCopy σ 51 4) 52 1 0) 52 2 0) n) a j = σ a j := fun a j h1 h2 => by
    rw [zf.1 a j (by unfold Pl; omega), o3 _ _ h2, c2, if_neg (by omega), c1 a (by omega) j]
  have fd : ∀ a j : Nat, 51 ≤ a → a < 51 + 22 → a ≠ 51 + 1 → a ≠ 51 + 3 → tLawL 900 (rOpen (su (su (mCopy σ 51 4) 52 1 0) 52 2 0) n) a j = mCopy σ 51 4 a j := fun a j h1 h2 h3 h4 => by
    rw [zf.1 a j (by unfold Pl; omega), o3 _ _ (by omega), c2, if_neg (by omega)]
  have f7 := zf.2 (fun _ => o2)
  have fy : ∀ a j : Nat, a ≠ 225 → a ≠ 223 → nLwL 902 (nLw0 τ n) a j = τ a j := fun a j h1 h2 => by
    rw [nf a j ⟨h1, Or.inl h2⟩]; exact ry a j h1 h2
  have f5 : nLwL 902 (nLw0 τ n) 223 5 = 0 := by rw [nf 223 5 ⟨by decide, Or.inr (by decide)⟩]; exact r5
  have f77 : nLwL 902 (nLw0 τ n) 223 7 = 0 := by rw [nf 223 7 ⟨by decide, Or.inr (by decide)⟩]; exact r7
  have e1 : tLaw (mCopy σ 51 4) n = tLawL 900 (rOpen (su (su (mCopy σ 51 4) 52 1 0) 52 2 0) n) := rfl
  have e2 : nLw1 τ n = nLwL 902 (nLw0 τ n) := rfl
  unfold zLaw nLw2
  rw [e1, e2]
  clear m1 m2 hre hre0 r5 r7 hhd ry hl zf nf e1 e2 c2 o1 o2 o3 c1
  generalize tLawL 900 (rOpen (su (su (mCopy σ 51 4) 52 1 0) 52 2 0) n) = x at hq fx f7 fd ⊢
  generalize nLwL 902 (nLw0 τ n) = y at hq fy f5 f77 ⊢
  show Al none eI (if (zTd x).1 = 0 then wr (-10 - (zTd x).2 3 6) else (zTd x).2 5 1) (nEnV (if y 223 13 = 0 then itr 10 nLkS y else y) ((if y 223 13 = 0 then itr 10 nLkS y else y) 224 8)) (zTd x).2 σ (nEn (if y 223 13 = 0 then itr 10 nLkS y else y))
  rcases hq with ⟨k, kl⟩ | k
  · have g13 := k.good
    have ez : zTd x = (1, mCopy (su x 1 1 0) 4 51) := by unfold zTd; rw [if_neg (by rw [su_ne _ _ (Or.inl (by decide)), k.1.1]; decide)]
    have e := nLkS_at y 10
    have ez1 : (zTd x).1 = 1 := by rw [ez]
    have ez2 : (zTd x).2 = mCopy (su x 1 1 0) 4 51 := by rw [ez]
    rw [ez1, ez2, if_neg (show ¬ (1 : Int) = 0 by decide), if_pos g13]
    generalize itr 10 nLkS y = u at e ⊢
    have eo : ∀ a j : Nat, a ≠ 224 → u a j = y a j := fun a j ha => by rw [e, if_neg (by omega)]
    have el : ∀ j : Nat, 8 ≤ j → j < 18 → u 224 j = y 225 j := fun j h1 h2 => by rw [e, if_pos (by omega)]
    have eh : ∀ j : Nat, j < 672 → (j < 8 ∨ 18 ≤ j) → u 224 j = τ 224 j := fun j h1 h2 => by rw [e, if_neg (by omega)]; exact fy 224 j (by decide) (by decide)
    have u13 : u 223 13 = 0 := by rw [eo _ _ (by decide)]; exact g13
    have e224 : nEn u 224 = u 224 := funext fun j => nEn_ne _ (Or.inl (by decide))
    have tw : TW (u 224) := TW_law hT eh (by rw [el 8 (by decide) (by decide)]; exact kl.2.1.1) (by rw [el 17 (by decide) (by decide)]; exact kl.2.1.2)
    have hM1 : MR (su x 1 1 0) 51 (u 224) := c0.law hT (fun a j h1 h2 h3 h4 => by rw [su_ne _ _ (Or.inl (by omega))]; exact fd a j h1 h2 h3 h4) eh ⟨by rw [el 8 (by decide) (by decide), su_ne _ _ (Or.inl (by decide))]; exact kl.1.1, by rw [el 17 (by decide) (by decide), su_ne _ _ (Or.inl (by decide))]; exact kl.1.2.1, fun k hk => by
      have b8 := kl.2.1.1
      rw [el 8 (by decide) (by decide)] at hk
      rw [el _ (by omega) (by omega), su_ne _ _ (Or.inl (by decide))]; exact kl.1.2.2 k hk⟩
    have hap2 : 51 + 22 ≤ 4 ∨ 4 + 22 ≤ 51 := Or.inr (by decide)
    have hM2 := MR_copy (σ := su x 1 1 0) (m := 4) (f := 51) hap2 tw hM1
    have ho := mCopy_off (su x 1 1 0) (m := 4) (f := 51) hap2
    generalize mCopy (su x 1 1 0) 4 51 = v at hM2 ho ⊢
    rw [nEnV_at, if_pos u13]
    refine Al.no _ ?_ ?_ (h.read ⟨?_, ?_, ?_, ?_⟩ ?_ ?_ ?_ ?_ (fun a j ha => ?_) (fun a j ha => ?_))
    · rw [nEn_ne _ (Or.inr (by decide)), eo _ _ (by decide)]; exact f5
    · exact hM2.keys
    · rw [e224]; exact hM2
    · rw [e224]; exact tw
    · rw [e224]
      intro k hk
      have b8 := kl.2.1.1
      rw [el 8 (by decide) (by decide)] at hk
      rw [el _ (by omega) (by omega)]; exact kl.2.2 k hk
    · rw [e224, eh 4 (by decide) (by decide)]; exact h.s24
    · rw [ho 1 (by decide), su_same]
    · rw [nEn_ne _ (Or.inr (by decide)), eo _ _ (by decide)]; exact f77
    · rw [nEn_15, u13, ho 3 (by decide), su_ne _ _ (Or.inl (by decide)), k.1.1]
    · rw [nEn_16, if_pos u13, ho 3 (by decide), su_ne _ _ (Or.inl (by decide))]; exact f7 k.1.1
    · rw [ho a (by omega), su_ne _ _ (Or.inl (by omega))]; exact fx a j (by omega) (by omega)
    · rw [nEn_ne _ (Or.inl (by omega)), eo _ _ (by omega)]; exact fy a j (by omega) (by omega)
  · rw [if_neg k.bad]
    exact h.bad k (fun a j h1 h2 => fx a j (by omega) h2) (fun a j h1 => fx a j (by omega) (by omega)) fy f5 f77 _ _
end ML
