/-! ALIKE, 18: feeding -/
theorem b255 : ∀ i : Nat, i < 32 → 8 ≤ i → (255#32).getLsbD i = false := by decide
theorem bv_byte (v : BitVec 32) (s : Nat) (hs : s ≤ 24) : ((v.sshiftRight s).signExtend 8).signExtend 32 &&& 255#32 = (v >>> s) &&& 255#32 := by
  apply BitVec.eq_of_getLsbD_eq
  intro i hi
  rw [BitVec.getLsbD_and, BitVec.getLsbD_and]
  by_cases q : i < 8
  · rw [BitVec.getLsbD_signExtend, BitVec.getLsbD_signExtend, BitVec.getLsbD_sshiftRight, BitVec.getLsbD_ushiftRight]
    have h1 : s + i < 32 := by omega
    have h2 : ¬ 32 ≤ i := by omega
    simp [q, hi, h1, h2]
  · rw [b255 i hi (by omega), Bool.and_false, Bool.and_false]
theorem byte_at (f : Int) (s : Int) (n : Nat) (hn : n ≤ 24) (h1 : ((Int32.ofInt s &&& 31).toBitVec.smod 32).toNat = n) (h2 : (((Int32.ofInt s).toUInt32 &&& Int32.toUInt32 31).toBitVec % 32).toNat = n) : wand (wb8 (wshr f s)) 255 = wand (wushr f s) 255 := by
  unfold wand wb8 wshr wushr
  rw [of_toI, of_toI, of_toI]
  congr 1
  apply Int32.toBitVec_inj.mp
  rw [Int32.toBitVec_and, Int32.toBitVec_and, Int8.toBitVec_toInt32, Int32.toBitVec_toInt8, Int32.toBitVec_shiftRight]
  have g := bv_byte (Int32.ofInt f).toBitVec n hn
  have e1 : (Int32.ofInt f).toBitVec.sshiftRight' ((Int32.ofInt s &&& 31).toBitVec.smod 32) = (Int32.ofInt f).toBitVec.sshiftRight n := by
    show (Int32.ofInt f).toBitVec.sshiftRight ((Int32.ofInt s &&& 31).toBitVec.smod 32).toNat = _
    rw [h1]
  have e2 : (((Int32.ofInt f).toUInt32 >>> ((Int32.ofInt s).toUInt32 &&& Int32.toUInt32 31)).toInt32).toBitVec = (Int32.ofInt f).toBitVec >>> n := by
    show ((Int32.ofInt f).toUInt32 >>> ((Int32.ofInt s).toUInt32 &&& Int32.toUInt32 31)).toBitVec = _
    rw [UInt32.toBitVec_shiftRight]
    show (Int32.ofInt f).toBitVec >>> (((Int32.ofInt s).toUInt32 &&& Int32.toUInt32 31).toBitVec % 32).toNat = _
    rw [h2]
  rw [e1, e2]
  exact g
theorem byte_k (f : Int) : ∀ k : Nat, k < 4 → wand (wb8 (wshr f (24 - 8 * ((k : Nat) : Int)))) 255 = wand (wushr f (24 - 8 * ((k : Nat) : Int))) 255
  | 0, _ => byte_at f 24 24 (by decide) (by decide) (by decide)
  | 1, _ => byte_at f 16 16 (by decide) (by decide) (by decide)
  | 2, _ => byte_at f 8 8 (by decide) (by decide) (by decide)
  | 3, _ => byte_at f 0 0 (by decide) (by decide) (by decide)
  | k + 4, h => by omega
theorem fe_sh : ∀ k : Nat, k < 20 → wr (24 - wr (8 * wand ((k : Nat) : Int) 3)) = 24 - 8 * ((k % 4 : Nat) : Int) := by decide +kernel
section AL
variable {σ τ : Sg}
def hF (a b c d e : Int) (k : Nat) : Sg → Sg := tTakeS (nFeW a b c d e k) (k % 4)
theorem hF_at (a b c d e f : Int) (n j : Nat) (hn : n % 4 = 0) (hj : j < 4) (h : nFeW a b c d e (n + j) = f) : hF a b c d e (n + j) = tTakeS f j := by
  unfold hF
  rw [h, show (n + j) % 4 = j by omega]
theorem hF_tk (σ : Sg) (a b c d e f : Int) (n : Nat) (hn : n % 4 = 0) (h : ∀ j : Nat, j < 4 → nFeW a b c d e (n + j) = f) : tTake (itr n (hF a b c d e) σ) f = itr (n + 4) (hF a b c d e) σ := by
  generalize hX : itr n (hF a b c d e) σ = X
  have e1 : itr (n + 1) (hF a b c d e) σ = tTakeS f 0 X := by rw [itr_s, hX, ← hF_at a b c d e f n 0 hn (by decide) (h 0 (by decide))]; rfl
  have e2 : itr (n + 2) (hF a b c d e) σ = tTakeS f 1 (tTakeS f 0 X) := by rw [itr_s (n + 1), e1, hF_at a b c d e f n 1 hn (by decide) (h 1 (by decide))]
  have e3 : itr (n + 3) (hF a b c d e) σ = tTakeS f 2 (tTakeS f 1 (tTakeS f 0 X)) := by rw [itr_s (n + 2), e2, hF_at a b c d e f n 2 hn (by decide) (h 2 (by decide))]
  have e4 : itr (n + 4) (hF a b c d e) σ = tTakeS f 3 (tTakeS f 2 (tTakeS f 1 (tTakeS f 0 X))) := by rw [itr_s (n + 3), e3, hF_at a b c d e f n 3 hn (by decide) (h 3 (by decide))]
  rw [e4]
  unfold tTake
  rw [itr_s 3, itr_s 2, itr_s 1, itr_s 0, itr_0]
theorem hF_20 (σ : Sg) (a b c d e : Int) : tTake (tTake (tTake (tTake (tTake σ a) b) c) d) e = itr 20 (hF a b c d e) σ := by
  have e0 : tTake σ a = itr 4 (hF a b c d e) σ := by
    have := hF_tk σ a b c d e a 0 (by decide) (fun j hj => by unfold nFeW; rw [if_pos (by omega)])
    rw [itr_0] at this
    exact this
  rw [e0, hF_tk σ a b c d e b 4 (by decide) (fun j hj => by unfold nFeW; rw [if_neg (by omega), if_pos (by omega)])]
  rw [hF_tk σ a b c d e c (4 + 4) (by decide) (fun j hj => by unfold nFeW; rw [if_neg (by omega), if_neg (by omega), if_pos (by omega)])]
  rw [hF_tk σ a b c d e d (4 + 4 + 4) (by decide) (fun j hj => by unfold nFeW; rw [if_neg (by omega), if_neg (by omega), if_neg (by omega), if_pos (by omega)])]
  rw [hF_tk σ a b c d e e (4 + 4 + 4 + 4) (by decide) (fun j hj => by unfold nFeW; rw [if_neg (by omega), if_neg (by omega), if_neg (by omega), if_neg (by omega)])]
theorem feed_k (h : Rel σ τ) (a b c d e : Int) (h9 : τ 223 7 ≤ 880) : ∀ n : Nat, n ≤ 20 →
    ((itr n (hF a b c d e) σ 1 1 = τ 223 7 + ((n : Nat) : Int) ∧ itr n (nFeS a b c d e) τ 223 7 = τ 223 7 + ((n : Nat) : Int)) ∧
    (∀ i : Nat, i < 900 → ((i : Nat) : Int) < τ 223 7 + ((n : Nat) : Int) → wand (itr n (hF a b c d e) σ 2 i) 255 = itr n (nFeS a b c d e) τ 229 i)) ∧
    (∀ x j : Nat, ¬ (x = 2 ∨ (x = 1 ∧ j = 1)) → itr n (hF a b c d e) σ x j = σ x j) ∧ (∀ x j : Nat, ¬ (x = 229 ∨ (x = 223 ∧ j = 7)) → itr n (nFeS a b c d e) τ x j = τ x j) := by
  obtain ⟨t1, t2, t3, t4⟩ := h.tape
  intro n
  induction n with
  | zero =>
    intro _
    rw [itr_0, itr_0]
    exact ⟨⟨⟨by omega, by omega⟩, fun i hi h2 => t4 i hi (by omega)⟩, fun _ _ _ => rfl, fun _ _ _ => rfl⟩
  | succ n ih =>
    intro hn
    obtain ⟨⟨⟨i1, i2⟩, i3⟩, i4, i5⟩ := ih (by omega)
    rw [itr_s, itr_s]
    generalize itr n (hF a b c d e) σ = x at i1 i3 i4 ⊢
    generalize itr n (nFeS a b c d e) τ = y at i2 i3 i5 ⊢
    have hk : n % 4 < 4 := Nat.mod_lt _ (by decide)
    have e1 : hF a b c d e n x = su (su x 2 (x 1 1).toNat (wb8 (wshr (nFeW a b c d e n) (24 - 8 * ((n % 4 : Nat) : Int))))) 1 1 (wr (x 1 1 + 1)) := by
      unfold hF tTakeS
      rw [if_pos (by omega), su_ne _ _ (Or.inl (by decide))]
    have e2 : nFeS a b c d e n y = su (su y 229 (y 223 7).toNat (wand (wushr (nFeW a b c d e n) (24 - 8 * ((n % 4 : Nat) : Int))) 255)) 223 7 (wr (y 223 7 + 1)) := by
      unfold nFeS
      rw [fe_sh n (by omega), su_ne _ _ (Or.inl (by decide))]
    have hb := byte_k (nFeW a b c d e n) (n % 4) hk
    rw [e1, e2]
    generalize wb8 (wshr (nFeW a b c d e n) (24 - 8 * ((n % 4 : Nat) : Int))) = B at hb ⊢
    generalize wand (wushr (nFeW a b c d e n) (24 - 8 * ((n % 4 : Nat) : Int))) 255 = C at hb ⊢
    have w1 : wr (x 1 1 + 1) = τ 223 7 + ((n + 1 : Nat) : Int) := by rw [i1, wr_id (by unfold okI; omega)]; omega
    have w2 : wr (y 223 7 + 1) = τ 223 7 + ((n + 1 : Nat) : Int) := by rw [i2, wr_id (by unfold okI; omega)]; omega
    rw [w1, w2]
    refine ⟨⟨⟨su_same _ _ _ _, su_same _ _ _ _⟩, fun i hi h2 => ?_⟩, fun a j q => ?_, fun a j q => ?_⟩
    · have r1 : ∀ w : Int, su (su x 2 (x 1 1).toNat B) 1 1 w 2 i = su x 2 (x 1 1).toNat B 2 i := fun w => su_ne _ _ (Or.inl (by decide))
      have r2 : ∀ w : Int, su (su y 229 (y 223 7).toNat C) 223 7 w 229 i = su y 229 (y 223 7).toNat C 229 i := fun w => su_ne _ _ (Or.inl (by decide))
      rw [r1, r2]
      by_cases z : i = (x 1 1).toNat
      · rw [show (y 223 7).toNat = (x 1 1).toNat by omega, z, su_same, su_same, hb]
      · have r3 : su x 2 (x 1 1).toNat B 2 i = x 2 i := su_ne _ _ (Or.inr z)
        have r4 : su y 229 (y 223 7).toNat C 229 i = y 229 i := su_ne _ _ (Or.inr (show i ≠ (y 223 7).toNat by omega))
        rw [r3, r4]
        exact i3 i hi (by omega)
    · have r1 : ∀ w : Int, su (su x 2 (x 1 1).toNat B) 1 1 w a j = su x 2 (x 1 1).toNat B a j := fun w => su_ne _ _ (by omega)
      have r3 : su x 2 (x 1 1).toNat B a j = x a j := su_ne _ _ (by omega)
      rw [r1, r3]; exact i4 a j q
    · have r1 : ∀ w : Int, su (su y 229 (y 223 7).toNat C) 223 7 w a j = su y 229 (y 223 7).toNat C a j := fun w => su_ne _ _ (by omega)
      have r3 : su y 229 (y 223 7).toNat C a j = y a j := su_ne _ _ (by omega)
      rw [r1, r3]; exact i5 a j q
theorem Rel.fed {σ' τ' : Sg} (h : Rel σ τ) (b1 : σ' 1 1 = τ' 223 7) (b2 : 0 ≤ τ' 223 7) (b3 : τ' 223 7 ≤ 900) (b4 : ∀ i : Nat, i < 900 → ((i : Nat) : Int) < τ' 223 7 → wand (σ' 2 i) 255 = τ' 229 i)
    (f : ∀ x j : Nat, ¬ (x = 2 ∨ (x = 1 ∧ j = 1)) → σ' x j = σ x j) (g : ∀ x j : Nat, ¬ (x = 229 ∨ (x = 223 ∧ j = 7)) → τ' x j = τ x j) : Rel σ' τ' := by
  obtain ⟨⟨a1, a2, a3, a4⟩, _, ⟨c1, c2⟩, ⟨d1, d2⟩, e⟩ := h
  have g224 : τ' 224 = τ 224 := funext fun j => g 224 j (by omega)
  have g227 : τ' 227 = τ 227 := funext fun j => g 227 j (by omega)
  have g228 : τ' 228 = τ 228 := funext fun j => g 228 j (by omega)
  have g245 : τ' 245 = τ 245 := funext fun j => g 245 j (by omega)
  have g246 : τ' 246 = τ 246 := funext fun j => g 246 j (by omega)
  have g247 : τ' 247 = τ 247 := funext fun j => g 247 j (by omega)
  refine ⟨⟨?_, by rw [g224]; exact a2, by rw [g224]; exact a3, by rw [g224]; exact a4⟩, ⟨b1, b2, b3, b4⟩, ⟨?_, ?_⟩, ⟨fun i hi => ?_, fun i hi => ⟨fun q => ?_, fun q => ?_⟩⟩, fun i hi => ⟨?_, fun q => ?_⟩⟩
  · rw [g224]; exact a1.of (fun a h1 h2 j => f a j (by omega))
  · rw [f 3 _ (by omega), g 223 15 (by omega)]; exact c1
  · rw [f 3 _ (by omega), g 223 16 (by omega)]; exact c2
  · rw [g245, g246]; exact d1 i hi
  · rw [g245] at q
    rw [f _ _ (by omega)]; exact (d2 i hi).1 q
  · rw [g245] at q
    have t := (d2 i hi).2 q
    refine ⟨?_, ?_, fun k hk => ?_⟩
    · rw [f _ _ (by omega), g245]; exact t.1
    · rw [f _ _ (by omega), g246]; exact t.2.1
    · rw [f _ _ (by omega), g247]; exact t.2.2 k hk
  · rw [f _ _ (by omega), g228]; exact (e i hi).1
  · rw [g228] at q
    have t := (e i hi).2 q
    rw [g227]
    exact ⟨t.1.of (fun a h1 h2 j => f a j (by omega)), t.2⟩
theorem al_feed (h : Rel σ τ) (a b c d e : Int) : Al none [] (zFeed σ a b c d e).1 (nFeed τ a b c d e).1 (zFeed σ a b c d e).2 σ (nFeed τ a b c d e).2 := by
  have h0 := h.thr 0
  have e7 : nThr τ 0 223 7 = τ 223 7 := su_ne _ _ (Or.inr (by decide))
  obtain ⟨t1, t2, t3, t4⟩ := h.tape
  unfold zFeed nFeed
  change Al none [] _ (if 900 < wr (nThr τ 0 223 7 + 20) then (-1, nThr τ 0) else ((itr 20 (nFeS a b c d e) (nThr τ 0)) 223 7, itr 20 (nFeS a b c d e) (nThr τ 0))).1 _ σ (if 900 < wr (nThr τ 0 223 7 + 20) then (-1, nThr τ 0) else ((itr 20 (nFeS a b c d e) (nThr τ 0)) 223 7, itr 20 (nFeS a b c d e) (nThr τ 0))).2
  rw [e7, wr_id (show okI (τ 223 7 + 20) by unfold okI; omega), hF_20]
  by_cases q : 880 < σ 1 1
  · rw [if_pos q, if_pos (show 900 < τ 223 7 + 20 by omega)]
    exact Al.no _ (thr_5 τ 0) rfl h0
  · rw [if_neg q, if_neg (show ¬ 900 < τ 223 7 + 20 by omega)]
    obtain ⟨⟨⟨k1, k2⟩, k3⟩, k4, k5⟩ := feed_k h0 a b c d e (by omega) 20 (Nat.le_refl _)
    have h5 := (k5 223 5 (by omega)).trans (thr_5 τ 0)
    generalize itr 20 (hF a b c d e) σ = x at k1 k3 k4 ⊢
    generalize itr 20 (nFeS a b c d e) (nThr τ 0) = y at k2 k3 k5 h5 ⊢
    have hR : Rel x y := h0.fed (k1.trans k2.symm) (by omega) (by omega) (fun i hi h2 => k3 i hi (by omega)) k4 k5
    exact Al.no _ h5 (k1.trans k2.symm) hR
end AL
