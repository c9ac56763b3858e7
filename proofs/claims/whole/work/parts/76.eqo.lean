/-! ALIKE, 7: told orders -/
section AL
variable {σ τ : Sg} {r m : Nat}
/-- a told order is followed alike -/
theorem fl_alike {w n : Nat} (hmr : m + 22 ≤ r) (hwr : w < r ∨ r + 25 ≤ w) (hT : TW (τ 224)) (hK : KW (τ 224)) (hM : MR σ m (τ 224)) (ho : ∀ k : Nat, ((k : Nat) : Int) < τ 224 668 → rAt σ w n ((k : Nat) : Int) = τ 240 k) (hO : OrW τ) (hd : ∀ i k : Nat, i < k → ((k : Nat) : Int) < τ 224 668 → τ 240 i ≠ τ 240 k) : RD (fl σ r m w n) r m (nCoo τ) := by
  obtain ⟨l1, l2⟩ := ly_alike hmr hT hM
  obtain ⟨f1, f2⟩ := nFg_RI hT
  have hP0 := hT.p0
  have h60 := hT.p60
  have e224 := nFg_224 τ
  have e27 : nFg τ 223 27 = 0 := by rw [nFg_at, if_neg (by omega), if_neg (by omega)]; rfl
  have hX : RX (ly σ r m) r m (nFg τ) := ⟨⟨hmr, f1.1, by rw [e224]; exact hK, by rw [e224]; exact hM.of (fun a h1 h2 j => ly_off σ a (by omega) j)⟩, l1, l2⟩
  have hrow : ∀ (x : Sg), off r (r + 25) σ x → ∀ k : Nat, ((k : Nat) : Int) < τ 224 668 → rAt x w n ((k : Nat) : Int) = τ 240 k := fun x hx k hk => by rw [hx.at hwr]; exact ho k hk
  have key : ∀ k : Nat, ((k : Nat) : Int) ≤ τ 224 668 → (RX (itr k (flS r m w n) (ly σ r m)) r m (nCooL τ k) ∧ off r (r + 25) σ (itr k (flS r m w n) (ly σ r m))) ∧ (RI (nCooL τ k) ∧ nCooL τ k 223 27 = ((k : Nat) : Int)) ∧ (∀ st : Nat, st < 3 → 0 ≤ nCooL τ k 236 st ∧ nCooL τ k 236 st ≤ 600 + 951 * ((k : Nat) : Int)) ∧ ∀ p : Nat, ((p : Nat) : Int) < τ 224 668 → (∀ i : Nat, i < k → τ 240 i ≠ ((p : Nat) : Int)) → nCooL τ k 232 p = -1 := by
    intro k
    induction k with
    | zero =>
      intro _
      refine ⟨⟨hX, ly_off σ⟩, ⟨f1, e27⟩, fun st hst => ?_, fun p hp _ => ?_⟩
      · have := f2.2 st hst
        rw [e27] at this
        show 0 ≤ nFg τ 236 st ∧ nFg τ 236 st ≤ _
        omega
      · show nFg τ 232 p = -1
        rw [nFg_at, if_pos ⟨rfl, by omega⟩]
    | succ k ih =>
      intro hk
      obtain ⟨⟨i1, i2⟩, ⟨i3, i4⟩, i5, i6⟩ := ih (by omega)
      obtain ⟨c1, c2, c3, c4⟩ := nCooL_k hT k (by omega)
      have hok := hO k (by omega)
      have e240 : nCooL τ k 240 k = τ 240 k := by rw [c4]
      have e668 : nCooL τ k 224 668 = τ 224 668 := by rw [c2]
      have hu : nCooL τ k 232 (τ 240 k).toNat = -1 := i6 (τ 240 k).toNat (by omega) (fun i hi => by
        have := hd i k hi (by omega)
        omega)
      have hst := i1.tw.stones
      have hso := i1.rs.so (p := τ 240 k) hok.1 (by omega)
      have hco := (i1.tw.of hso.1 hso.2).2.2.1
      have g5 := i5 0 (by omega)
      have hs0 : (0 : Int) ≤ 0 ∧ (0 : Int) < max 1 (nCooL τ k 224 1) := by omega
      have hmi : 0 ≤ max (nCooL τ k 236 0) (nOf (nCooL τ k) (nCooL τ k 231 (τ 240 k).toNat) 2) ∧ max (nCooL τ k 236 0) (nOf (nCooL τ k) (nCooL τ k 231 (τ 240 k).toNat) 2) ≤ 600 + 951 * ((k : Nat) : Int) := by omega
      have hp9 : 0 ≤ τ 240 k ∧ τ 240 k < nCooL τ k 224 668 := by omega
      have hb := begin_alike i1 i3 hp9 hu hs0 hmi.1 (by omega)
      have hRI := RI_bg i3 hp9.1 hp9.2 hu hs0.1 hs0.2 hmi.1 (by omega)
      have hRT := RT_bg (mi := max (nCooL τ k 236 0) (nOf (nCooL τ k) (nCooL τ k 231 (τ 240 k).toNat) 2)) i3 ⟨by rw [i4]; exact hmi, fun st hst => by rw [i4]; exact i5 st hst⟩ hp9.1 hp9.2 hu hs0.1 hs0.2
      have eS : itr (k + 1) (flS r m w n) (ly σ r m) = bg (itr k (flS r m w n) (ly σ r m)) r m (nCooL τ k 223 27) (τ 240 k) 0 (max (nCooL τ k 236 0) (nOf (nCooL τ k) (nCooL τ k 231 (τ 240 k).toNat) 2)) := by
        rw [itr_s, flS, hrow _ i2 k (by omega), i4]
        have e1 := (i1.st (st := 0) (by omega) (by omega)).1
        have e2 := i1.come hp9.1 hp9.2
        rw [e1, e2]; rfl
      have eN : nCooL τ (k + 1) = nBg (nCooL τ k) (τ 240 k) 0 (max (nCooL τ k 236 0) (nOf (nCooL τ k) (nCooL τ k 231 (τ 240 k).toNat) 2)) := by rw [nCooL_s, cooS, e240]
      have hv := vb_of i1 hp9 hs0 hmi.1 (by omega)
      rw [eS, eN]
      refine ⟨⟨hb, i2.trans (bg_off _ _ _ _ _)⟩, ⟨hRI.1, by rw [hRI.2, i4]; omega⟩, fun st hst => ?_, fun p hp hne => ?_⟩
      · have := hRT.2 st hst
        rw [hRI.2, i4] at this
        omega
      · rw [nBg_232]
        show (if p = (τ 240 k).toNat then _ else nCooL τ k 232 p) = -1
        rw [if_neg (fun e => hne k (by omega) (by omega))]
        exact i6 p hp (fun i hi => hne i (by omega))
  obtain ⟨⟨k1, _⟩, ⟨k3, k4⟩, _, _⟩ := key (τ 224 668).toNat (by omega)
  have e1 : ly σ r m r 1 = τ 224 668 := by rw [l1.1, e224]
  unfold fl nCoo
  rw [e1]
  refine ⟨k1, k3, ?_⟩
  rw [k4, show nCooL τ (τ 224 668).toNat 224 668 = τ 224 668 by rw [(nCooL_k hT (τ 224 668).toNat (by omega)).2.1]]
  omega
/-- a tray that is there, alike -/
def TR (σ : Sg) (τ : Sg) (i : Nat) : Prop := σ (149 + 2 * i) 1 = τ 245 i ∧ σ (149 + 2 * i) 2 = τ 246 i ∧ ∀ k : Nat, k < 60 → σ (150 + 2 * i) k = τ 247 (60 * i + k)
/-- numbers that are an order -/
def OP (f : Nat → Int) (P : Int) (n : Nat) : Prop := (∀ k : Nat, k < n → 0 ≤ f k ∧ f k < P) ∧ ∀ i k : Nat, i < k → k < n → f i ≠ f k
theorem niI_nz (y : Sg) (k : Nat) {b : Int} (hb : b ≠ 0) : ∀ n : Nat, (∀ i, i < n → y 240 i ≠ y 240 k) → itr n (niI y k) b ≠ 0 := by
  intro n
  induction n with
  | zero => intro _; exact hb
  | succ n ih =>
    intro h
    rw [itr_s, niI, if_neg (ih (fun i hi => h i (by omega))), if_neg (h n (by omega))]; decide
theorem nio_flag (hT : TW (τ 224)) {t : Nat} (ht : t < 4) (hTr : TrW τ) : (nio τ ((t : Nat) : Int)).1 ≠ 0 ↔ τ 246 t = τ 224 668 ∧ OP (fun k => τ 247 (60 * t + k)) (τ 224 668) (τ 224 668).toNat := by
  have h60 := hT.p60
  have hP0 := hT.p0
  have e9 : ∀ k : Nat, (60 * ((t : Nat) : Int) + ((k : Nat) : Int)).toNat = 60 * t + k := fun k => by omega
  have et : ((t : Nat) : Int).toNat = t := rfl
  constructor
  · intro h
    have h1 := nioL_1 hT ((t : Nat) : Int) _ h
    rw [et] at h1
    rw [h1.1] at h1
    refine ⟨(nioL_1 hT ((t : Nat) : Int) _ h).1, fun k hk => ?_, fun i k hik hk => ?_⟩
    · have := (h1.2.1 k hk).2
      rw [e9] at this; exact this
    · have := h1.2.2 i k hik hk
      rw [e9, e9] at this; exact this
  · intro ⟨h1, h2, h3⟩
    have key : ∀ n : Nat, ((n : Nat) : Int) ≤ τ 224 668 → (nioL τ ((t : Nat) : Int) n).1 ≠ 0 := by
      intro n
      induction n with
      | zero =>
        intro _
        show nio0 τ ((t : Nat) : Int) ≠ 0
        unfold nio0; rw [et, if_pos h1]; decide
      | succ n ih =>
        intro hn
        have hp := ih (by omega)
        have hq := nioL_1 hT ((t : Nat) : Int) n hp
        rw [nioL_s, if_neg hp]
        show nioB ((t : Nat) : Int) n (nioL τ ((t : Nat) : Int) n).2 ≠ 0
        unfold nioB
        have e247 : (nioL τ ((t : Nat) : Int) n).2 247 = τ 247 := nioL_ne τ _ n (by decide)
        have hn2 := h2 n (by omega)
        refine niI_nz _ _ ?_ n (fun i hi => ?_)
        · rw [nIsP_of (nioL_ne τ _ n (by decide)), e247, e9]
          exact (isP_1 hT).mpr hn2
        · unfold nioW
          rw [su_ne _ _ (Or.inr (by omega)), su_same, (hq.2.1 i hi).1, e247, e9, e9, wr_id (by unfold okI; dsimp only at hn2; omega)]
          exact h3 i n hi (by omega)
    show (nioL τ ((t : Nat) : Int) (τ 246 ((t : Nat) : Int).toNat).toNat).1 ≠ 0
    rw [et, h1]
    exact key _ (by omega)
theorem nio_240 (hT : TW (τ 224)) {t : Nat} (h : (nio τ ((t : Nat) : Int)).1 ≠ 0) {k : Nat} (hk : ((k : Nat) : Int) < τ 224 668) : (nio τ ((t : Nat) : Int)).2 240 k = τ 247 (60 * t + k) := by
  have h1 := nioL_1 hT ((t : Nat) : Int) _ h
  have h2 := (h1.2.1 k (by rw [h1.1]; omega)).1
  rw [show (60 * ((t : Nat) : Int) + ((k : Nat) : Int)).toNat = 60 * t + k by omega] at h2
  exact h2
theorem zOr_ne (σ : Sg) (c : Nat) (P : Int) (x : Int × Sg) (n : Nat) {a : Nat} (h1 : a ≠ 144) (h2 : a ≠ 146) (j : Nat) : (itr n (zOrS c P) x).2 a j = x.2 a j := by
  induction n with
  | zero => rfl
  | succ n ih =>
    rw [itr_s, zOrS]; split
    · exact ih
    · show rPut _ 144 60 _ _ a j = _
      rw [rPut_ne h1, rPut_ne h2]; exact ih
/-- the class tells an order as the model does -/
theorem zOr_alike (hT : TW (τ 224)) (hM : MR σ 4 (τ 224)) {t : Nat} (ht : t < 4) (hR : TR σ τ t) : ((zOr σ (149 + 2 * t)).1 ≠ 0 ↔ τ 246 t = τ 224 668 ∧ OP (fun k => τ 247 (60 * t + k)) (τ 224 668) (τ 224 668).toNat) ∧ ((zOr σ (149 + 2 * t)).1 ≠ 0 → ∀ k : Nat, ((k : Nat) : Int) < τ 224 668 → rAt (zOr σ (149 + 2 * t)).2 144 60 ((k : Nat) : Int) = τ 247 (60 * t + k)) := by
  have h60 := hT.p60
  have hP0 := hT.p0
  have ep := mPcs_at hT hM
  have key : ∀ n : Nat, ((n : Nat) : Int) ≤ τ 224 668 → ((itr n (zOrS (150 + 2 * t) (τ 224 668)) (zOr0 σ (149 + 2 * t))).1 ≠ 0 ↔ τ 246 t = τ 224 668 ∧ OP (fun k => τ 247 (60 * t + k)) (τ 224 668) n) ∧ ((itr n (zOrS (150 + 2 * t) (τ 224 668)) (zOr0 σ (149 + 2 * t))).1 ≠ 0 → (∀ k : Nat, k < n → (itr n (zOrS (150 + 2 * t) (τ 224 668)) (zOr0 σ (149 + 2 * t))).2 144 k = τ 247 (60 * t + k)) ∧ ∀ p : Nat, ((p : Nat) : Int) < τ 224 668 → ((itr n (zOrS (150 + 2 * t) (τ 224 668)) (zOr0 σ (149 + 2 * t))).2 146 p = 0 ↔ ∀ k : Nat, k < n → τ 247 (60 * t + k) ≠ ((p : Nat) : Int))) := by
    intro n
    induction n with
    | zero =>
      intro _
      refine ⟨?_, fun _ => ⟨fun k hk => by omega, fun p hp => ?_⟩⟩
      · show (if σ (149 + 2 * t) 2 = mPcs σ 4 then (1 : Int) else 0) ≠ 0 ↔ _
        rw [ep, hR.2.1]
        by_cases q : τ 246 t = τ 224 668
        · rw [if_pos q]; exact ⟨fun _ => ⟨q, fun k hk => by omega, fun i k _ hk => by omega⟩, fun _ => by decide⟩
        · rw [if_neg q]; exact ⟨fun e => absurd rfl e, fun e => absurd e.1 q⟩
      · show rFill σ 146 60 0 146 p = 0 ↔ _
        rw [rFill, if_pos ⟨rfl, by omega⟩]
        exact ⟨fun _ k hk => by omega, fun _ => rfl⟩
    | succ n ih =>
      intro hn
      obtain ⟨i1, i2⟩ := ih (by omega)
      have hc : ∀ j, (itr n (zOrS (150 + 2 * t) (τ 224 668)) (zOr0 σ (149 + 2 * t))).2 (150 + 2 * t) j = σ (150 + 2 * t) j := fun j => by
        rw [zOr_ne σ _ _ _ n (by omega) (by omega)]
        show rFill σ 146 60 0 (150 + 2 * t) j = _
        exact rFill_ne (by omega)
      rw [itr_s]
      generalize itr n (zOrS (150 + 2 * t) (τ 224 668)) (zOr0 σ (149 + 2 * t)) = x at i1 i2 hc ⊢
      have hnum : yAt x.2 (150 + 2 * t) ((n : Nat) : Int) = τ 247 (60 * t + n) := by
        unfold yAt
        rw [if_pos (by omega)]
        show x.2 (150 + 2 * t) n = _
        rw [hc]; exact hR.2.2 n (by omega)
      by_cases q : x.1 = 0
      · rw [zOrS, if_pos q]
        refine ⟨⟨fun e => absurd q e, fun e => absurd q (i1.mpr ⟨e.1, fun k hk => e.2.1 k (by omega), fun i k hik hk => e.2.2 i k hik (by omega)⟩)⟩, fun e => absurd q e⟩
      · obtain ⟨j1, j2⟩ := i2 q
        obtain ⟨g1, g2, g3⟩ := i1.mp q
        rw [zOrS, if_neg q]
        unfold zOrP
        rw [hnum]
        by_cases q2 : 0 ≤ τ 247 (60 * t + n) ∧ τ 247 (60 * t + n) < τ 224 668
        · rw [if_pos q2, wr_id (by unfold okI; omega)]
          have hs := j2 (τ 247 (60 * t + n)).toNat (by omega)
          have e146 : rAt x.2 146 60 (τ 247 (60 * t + n)) = x.2 146 (τ 247 (60 * t + n)).toNat := rAt_lt q2.1 (by omega)
          rw [e146]
          refine ⟨?_, fun e => ⟨fun k hk => ?_, fun p hp => ?_⟩⟩
          · by_cases q3 : x.2 146 (τ 247 (60 * t + n)).toNat = 0
            · have h9 := hs.mp q3
              dsimp only
              rw [if_pos ⟨by omega, q3⟩]
              refine ⟨fun _ => ⟨g1, fun k hk => ?_, fun i k hik hk => ?_⟩, fun _ => by decide⟩
              · by_cases z : k = n
                · rw [z]; exact q2
                · exact g2 k (by omega)
              · by_cases z : k = n
                · rw [z]
                  have := h9 i (by omega)
                  show τ 247 (60 * t + i) ≠ τ 247 (60 * t + n)
                  omega
                · exact g3 i k hik (by omega)
            · dsimp only
              rw [if_neg (fun e => q3 e.2)]
              refine ⟨fun e => absurd rfl e, fun e => absurd (hs.mpr (fun k hk => ?_)) q3⟩
              have h8 : τ 247 (60 * t + k) ≠ τ 247 (60 * t + n) := e.2.2 k n hk (by omega)
              omega
          · show rPut (rPut x.2 146 60 _ 1) 144 60 ((n : Nat) : Int) _ 144 k = _
            rw [rPut_at (by omega) (by omega)]
            by_cases z : k = n
            · rw [if_pos ⟨rfl, z⟩, z]
            · rw [if_neg (fun e => z e.2), rPut_ne (by decide)]; exact j1 k (by omega)
          · show rPut (rPut x.2 146 60 _ 1) 144 60 ((n : Nat) : Int) _ 146 p = 0 ↔ _
            rw [rPut_ne (by decide), rPut_at q2.1 (by omega)]
            by_cases z : p = (τ 247 (60 * t + n)).toNat
            · rw [if_pos ⟨rfl, z⟩]
              exact ⟨fun e => by omega, fun e => absurd (show τ 247 (60 * t + n) = ((p : Nat) : Int) by omega) (e n (by omega))⟩
            · rw [if_neg (fun e => z e.2), j2 p hp]
              constructor
              · intro e k hk
                by_cases z2 : k = n
                · rw [z2]; omega
                · exact e k (by omega)
              · intro e k hk
                exact e k (by omega)
        · rw [if_neg q2]
          dsimp only
          rw [if_neg (fun e => absurd rfl e.1)]
          exact ⟨⟨fun e => absurd rfl e, fun e => absurd (e.2.1 n (by omega)) q2⟩, fun e => absurd rfl e⟩
  obtain ⟨k1, k2⟩ := key (τ 224 668).toNat (by omega)
  have eZ : zOr σ (149 + 2 * t) = itr (τ 224 668).toNat (zOrS (150 + 2 * t) (τ 224 668)) (zOr0 σ (149 + 2 * t)) := by
    unfold zOr
    rw [ep, show 149 + 2 * t + 1 = 150 + 2 * t by omega]
  rw [eZ]
  refine ⟨k1, fun e k hk => ?_⟩
  rw [rAt_nt (by omega)]
  exact (k2 e).1 k (by omega)
/-- both tell orders alike -/
theorem or_alike (hT : TW (τ 224)) (hTr : TrW τ) (hM : MR σ 4 (τ 224)) {t : Nat} (ht : t < 4) (hR : TR σ τ t) : ((zOr σ (149 + 2 * t)).1 = 0 ↔ (nio τ ((t : Nat) : Int)).1 = 0) ∧ ((zOr σ (149 + 2 * t)).1 ≠ 0 → (∀ k : Nat, ((k : Nat) : Int) < τ 224 668 → rAt (zOr σ (149 + 2 * t)).2 144 60 ((k : Nat) : Int) = (nio τ ((t : Nat) : Int)).2 240 k) ∧ ∀ i k : Nat, i < k → ((k : Nat) : Int) < τ 224 668 → (nio τ ((t : Nat) : Int)).2 240 i ≠ (nio τ ((t : Nat) : Int)).2 240 k) := by
  obtain ⟨h1, h2⟩ := zOr_alike hT hM ht hR
  have h3 := nio_flag hT ht hTr
  refine ⟨?_, fun e => ?_⟩
  · constructor
    · intro e
      exact Decidable.byContradiction fun q => absurd e (h1.mpr (h3.mp q))
    · intro e
      exact Decidable.byContradiction fun q => absurd e (h3.mpr (h1.mp q))
  · have hn := h3.mpr (h1.mp e)
    refine ⟨fun k hk => ?_, fun i k hik hk => ?_⟩
    · rw [h2 e k hk, nio_240 hT hn hk]
    · rw [nio_240 hT hn (by omega), nio_240 hT hn hk]
      exact (h1.mp e).2.2 i k hik (by omega)
theorem zOr_off (σ : Sg) (t : Nat) {a : Nat} (h1 : a ≠ 144) (h2 : a ≠ 146) (j : Nat) : (zOr σ t).2 a j = σ a j := by
  unfold zOr
  rw [zOr_ne σ _ _ _ _ h1 h2]
  exact rFill_ne h2
end AL
