/-! ALIKE, 3: the run, piece by piece and minute by minute -/
section AL
variable {σ τ : Sg} {r m : Nat}
theorem vb_of (h : RX σ r m τ) {p st mi : Int} (hp : 0 ≤ p ∧ p < τ 224 668) (hst : 0 ≤ st ∧ st < max 1 (τ 224 1)) (hm0 : 0 ≤ mi) (hm1 : mi ≤ 100000) : vbG τ p st mi = mi + vbC τ p st ∧ vbD τ p st mi = mi + vbC τ p st + nPa τ st * nPo τ p ∧ 1 ≤ nPa τ st * nPo τ p ∧ nPa τ st * nPo τ p ≤ 891 ∧ 0 ≤ vbC τ p st ∧ vbC τ p st ≤ 60 := vb_ok h.rs hp.1 hp.2 hst.1 hst.2 hm0 hm1
/-- begun alike, one piece more -/
theorem begin_alike (h : RX σ r m τ) (hI : RI τ) {p st mi : Int} (hp : 0 ≤ p ∧ p < τ 224 668) (hu : τ 232 p.toNat = -1) (hst : 0 ≤ st ∧ st < max 1 (τ 224 1)) (hm0 : 0 ≤ mi) (hm1 : mi ≤ 100000) : RX (bg σ r m (τ 223 27) p st mi) r m (nBg τ p st mi) := by
  have hT := h.tw
  have h60 := hT.p60
  have hS := hT.sacks
  have hst3 := hT.stones
  have hs := h.rs.so hp.1 hp.2
  have bs := hT.of hs.1 hs.2
  have hb := hI.b
  have hlt := hI.lt hp.1 hp.2 hu
  have hv := vb_of h hp hst hm0 hm1
  have e := bg_at h (k := τ 223 27) (p := p) (st := st) (mi := mi) ⟨hb.1, by omega⟩ hp hst
  have hmr := h.mr
  obtain ⟨a1, a2, a3⟩ := h.a
  obtain ⟨b1, b2, b3, b4, b5, b6, b7⟩ := h.b
  generalize bg σ r m (τ 223 27) p st mi = x at e
  have x27 : nBg τ p st mi 223 27 = τ 223 27 + 1 := by rw [nBg_27, wr_id (by unfold okI; omega)]
  refine ⟨⟨hmr, RS_bg h.rs p st mi, h.kw, h.mill.of (fun a h1 h2 j => by rw [e]; (repeat rw [if_neg (by omega)]))⟩, ⟨?_, fun q hq => ?_, fun s hs' => ?_⟩, fun q hq => ?_, fun q hq hb' => ?_, fun i hi => ?_, fun k hk => ?_, fun q hq => ?_, ?_, fun s hs' => ?_⟩
  · rw [e]; (repeat rw [if_neg (by omega)]); exact a1
  · rw [e, e]; (repeat rw [if_neg (by omega)]); exact a2 q hq
  · rw [e]; (repeat rw [if_neg (by omega)]); exact a3 s hs'
  · change ((q : Nat) : Int) < τ 224 668 at hq
    by_cases z : q = p.toNat
    · have v1 : nBg τ p st mi 232 q = vbG τ p st mi := by rw [nBg_232]; exact if_pos z
      have v2 : nBg τ p st mi 239 q = mi := by rw [nBg_239]; exact if_pos z
      rw [v1, v2, e]; (repeat rw [if_neg (by omega)]); rw [if_pos ⟨rfl, z⟩, if_neg (by omega)]
    · have v1 : nBg τ p st mi 232 q = τ 232 q := by rw [nBg_232]; exact if_neg z
      have v2 : nBg τ p st mi 239 q = τ 239 q := by rw [nBg_239]; exact if_neg z
      rw [v1, v2, e]
      have g := b1 q hq
      rw [if_neg (by omega), if_neg (by omega), if_neg (by omega), if_neg (by omega), if_neg (by omega), if_neg (by omega), if_neg (by omega), if_neg (by omega), if_neg (by omega), if_neg (by omega)]
      exact g
  · change ((q : Nat) : Int) < τ 224 668 at hq
    rw [nBg_232] at hb' ⊢
    rw [nBg_233, nBg_234, nBg_239]; dsimp only at hb' ⊢
    rw [e, e, e]
    by_cases z : q = p.toNat
    · rw [if_pos z, if_pos z, if_pos z, if_pos z]
      refine ⟨?_, ?_, ?_, hm0⟩
      · (repeat rw [if_neg (by omega)]); rw [if_pos ⟨rfl, z⟩]
      · (repeat rw [if_neg (by omega)]); rw [if_pos ⟨rfl, z⟩]
      · (repeat rw [if_neg (by omega)]); rw [if_pos ⟨rfl, z⟩]
    · rw [if_neg z] at hb'
      rw [if_neg z, if_neg z, if_neg z, if_neg z]
      have g := b2 q hq hb'
      refine ⟨?_, ?_, ?_, g.2.2.2⟩
      · (repeat rw [if_neg (by omega)]); exact g.1
      · (repeat rw [if_neg (by omega)]); exact g.2.1
      · (repeat rw [if_neg (by omega)]); exact g.2.2.1
  · rw [x27] at hi
    rw [e, nBg_235]; dsimp only
    by_cases z : i = (τ 223 27).toNat
    · rw [if_pos z]; (repeat rw [if_neg (by omega)]); rw [if_pos ⟨rfl, z⟩]
    · rw [if_neg z]; (repeat rw [if_neg (by omega)]); exact b3 i (by omega)
  · rw [e, e, nBg_236, nBg_237]; dsimp only
    by_cases z : k = st.toNat
    · rw [if_pos z, if_pos z]
      constructor
      · (repeat rw [if_neg (by omega)]); rw [if_pos ⟨rfl, z⟩]
      · (repeat rw [if_neg (by omega)]); rw [if_pos ⟨rfl, z⟩]
    · rw [if_neg z, if_neg z]
      constructor
      · (repeat rw [if_neg (by omega)]); exact (b4 k hk).1
      · (repeat rw [if_neg (by omega)]); exact (b4 k hk).2
  · rw [e, nBg_238]; dsimp only
    by_cases z : q = (nOf τ (τ 231 p.toNat) 1).toNat
    · rw [if_pos z, if_neg (by omega), if_pos ⟨rfl, z⟩]
    · rw [if_neg z]; (repeat rw [if_neg (by omega)]); exact b5 q hq
  · rw [e, if_pos ⟨rfl, rfl⟩, nBg_28, b6]
  · change ((s : Nat) : Int) < τ 224 4 at hs'
    have g := b7 s hs'
    have ex : x (r + 16) s = if s = (τ 231 p.toNat).toNat then max (σ (r + 16) s) (vbD τ p st mi) else σ (r + 16) s := by
      rw [e]
      by_cases z : s = (τ 231 p.toNat).toNat
      · rw [if_pos z]; (repeat rw [if_neg (by omega)]); rw [if_pos ⟨rfl, z⟩, z]
      · rw [if_neg z]; (repeat rw [if_neg (by omega)])
    obtain ⟨g1, g2, g3⟩ := g
    have hp232 : ∀ q : Nat, nBg τ p st mi 232 q = if q = p.toNat then vbG τ p st mi else τ 232 q := fun q => by rw [nBg_232]
    have hp233 : ∀ q : Nat, nBg τ p st mi 233 q = if q = p.toNat then vbD τ p st mi else τ 233 q := fun q => by rw [nBg_233]
    unfold EP
    rw [ex]
    refine ⟨by split <;> omega, fun q hq hb' hsq => ?_, ?_⟩
    · change ((q : Nat) : Int) < τ 224 668 at hq
      change τ 231 q = ((s : Nat) : Int) at hsq
      rw [hp232] at hb'
      rw [hp233]
      by_cases z : q = p.toNat
      · rw [if_pos z]
        subst z
        rw [if_pos (by omega)]; omega
      · rw [if_neg z] at hb' ⊢
        have := g2 q hq hb' hsq
        split <;> omega
    · by_cases z : s = (τ 231 p.toNat).toNat
      · rw [if_pos z]
        right
        by_cases z2 : σ (r + 16) s ≤ vbD τ p st mi
        · refine ⟨p.toNat, by show ((p.toNat : Nat) : Int) < τ 224 668; omega, by rw [hp232, if_pos rfl]; omega, by show τ 231 p.toNat = _; omega, ?_⟩
          rw [hp233, if_pos rfl]; omega
        · rcases g3 with g3 | ⟨q, q1, q2, q3, q4⟩
          · omega
          · have nz : q ≠ p.toNat := fun e9 => by rw [e9] at q2; exact q2 hu
            refine ⟨q, q1, by rw [hp232, if_neg nz]; exact q2, q3, ?_⟩
            rw [hp233, if_neg nz]; omega
      · rw [if_neg z]
        rcases g3 with g3 | ⟨q, q1, q2, q3, q4⟩
        · exact Or.inl g3
        · have nz : q ≠ p.toNat := fun e9 => by rw [e9] at q2; exact q2 hu
          right
          refine ⟨q, q1, by rw [hp232, if_neg nz]; exact q2, q3, ?_⟩
          rw [hp233, if_neg nz]; exact q4
/-- the first that comes of those not begun -/
theorem fc_alike (h : RX σ r m τ) : (∀ p : Nat, ((p : Nat) : Int) < τ 224 668 → τ 232 p = -1 → fcF σ r m ≤ nOf τ (τ 231 p) 2) ∧ (fcF σ r m = 1000000000 ∨ ∃ p : Nat, ((p : Nat) : Int) < τ 224 668 ∧ τ 232 p = -1 ∧ fcF σ r m = nOf τ (τ 231 p) 2) := by
  have hP0 := h.tw.p0
  unfold fcF
  rw [h.a.1]
  have key : ∀ n : Nat, ((n : Nat) : Int) ≤ τ 224 668 → (∀ p : Nat, p < n → τ 232 p = -1 → itr n (fcS σ r m) 1000000000 ≤ nOf τ (τ 231 p) 2) ∧ (itr n (fcS σ r m) 1000000000 = 1000000000 ∨ ∃ p : Nat, p < n ∧ τ 232 p = -1 ∧ itr n (fcS σ r m) 1000000000 = nOf τ (τ 231 p) 2) := by
    intro n
    induction n with
    | zero => intro _; exact ⟨fun p hp => by omega, Or.inl rfl⟩
    | succ n ih =>
      intro hn
      obtain ⟨i1, i2⟩ := ih (by omega)
      rw [itr_s]
      generalize itr n (fcS σ r m) 1000000000 = c at i1 i2 ⊢
      have hu := h.untaken (p := n) (by omega)
      have hc : uCome σ r m ((n : Nat) : Int) = nOf τ (τ 231 n) 2 := h.come (by omega) (by omega)
      rw [fcS, hc]
      by_cases q : τ 232 n = -1
      · rw [if_pos (hu.mpr q)]
        refine ⟨fun p hp h2 => ?_, ?_⟩
        · by_cases e : p = n
          · subst e; omega
          · have := i1 p (by omega) h2; omega
        · by_cases z : c ≤ nOf τ (τ 231 n) 2
          · rw [show min c (nOf τ (τ 231 n) 2) = c by omega]
            rcases i2 with i2 | ⟨p, p1, p2, p3⟩
            · exact Or.inl i2
            · exact Or.inr ⟨p, by omega, p2, p3⟩
          · exact Or.inr ⟨n, by omega, q, by omega⟩
      · rw [if_neg (fun e => q (hu.mp e))]
        refine ⟨fun p hp h2 => ?_, ?_⟩
        · by_cases e : p = n
          · subst e; exact absurd h2 q
          · exact i1 p (by omega) h2
        · rcases i2 with i2 | ⟨p, p1, p2, p3⟩
          · exact Or.inl i2
          · exact Or.inr ⟨p, by omega, p2, p3⟩
  obtain ⟨k1, k2⟩ := key (τ 224 668).toNat (by omega)
  refine ⟨fun p hp => k1 p (by omega), ?_⟩
  rcases k2 with k2 | ⟨p, p1, p2, p3⟩
  · exact Or.inl k2
  · exact Or.inr ⟨p, by omega, p2, p3⟩
/-- the first stone that is free first -/
theorem fs_first (h : RX σ r m τ) {come : Int} {st : Nat} (hst : ((st : Nat) : Int) < max 1 (τ 224 1)) (h1 : ∀ k : Nat, ((k : Nat) : Int) < max 1 (τ 224 1) → max (τ 236 st) come ≤ max (τ 236 k) come ∧ (k < st → max (τ 236 st) come < max (τ 236 k) come)) : fsF σ r m come = ((st : Nat) : Int) := by
  have hs3 := h.tw.stones
  unfold fsF
  rw [h.mill.stones]
  have key : ∀ n : Nat, n ≤ (max 1 (τ 224 1) - 1).toNat → ∃ f : Nat, itr n (fsS σ r come) 0 = ((f : Nat) : Int) ∧ f ≤ n ∧ ∀ k : Nat, k ≤ n → max (τ 236 f) come ≤ max (τ 236 k) come ∧ (k < f → max (τ 236 f) come < max (τ 236 k) come) := by
    intro n
    induction n with
    | zero => intro _; exact ⟨0, rfl, Nat.le_refl _, fun k hk => by rw [show k = 0 by omega]; exact ⟨Int.le_refl _, fun q => by omega⟩⟩
    | succ n ih =>
      intro hn
      obtain ⟨f, f1, f2, f3⟩ := ih (by omega)
      rw [itr_s, f1, fsS]
      have e1 : rAt σ (r + 20) 3 (((n : Nat) : Int) + 1) = τ 236 (n + 1) := by
        have := (h.st (st := ((n : Nat) : Int) + 1) (by omega) (by omega)).1
        rwa [show (((n : Nat) : Int) + 1).toNat = n + 1 by omega] at this
      have e2 : rAt σ (r + 20) 3 ((f : Nat) : Int) = τ 236 f := (h.st (st := ((f : Nat) : Int)) (by omega) (by omega)).1
      rw [e1, e2]
      by_cases q : max (τ 236 (n + 1)) come < max (τ 236 f) come
      · rw [if_pos q]
        refine ⟨n + 1, by omega, Nat.le_refl _, fun k hk => ?_⟩
        by_cases e : k = n + 1
        · subst e; exact ⟨Int.le_refl _, fun q => by omega⟩
        · have := (f3 k (by omega)).1; omega
      · rw [if_neg q]
        refine ⟨f, rfl, by omega, fun k hk => ?_⟩
        by_cases e : k = n + 1
        · subst e; exact ⟨by omega, fun q => by omega⟩
        · exact f3 k (by omega)
  obtain ⟨f, f1, f2, f3⟩ := key (max 1 (τ 224 1) - 1).toNat (Nat.le_refl _)
  rw [f1]
  have g1 := h1 f (by omega)
  have g2 := f3 st (by omega)
  have : f = st := by omega
  rw [this]
/-- what the minute-by-minute run has seen to, at a minute, of the stones ahead of one -/
def Lx (τ : Sg) (mi : Int) (n : Nat) : Prop := ∀ st p : Nat, ((st : Nat) : Int) < max 1 (τ 224 1) → ((p : Nat) : Int) < τ 224 668 → τ 232 p = -1 → mi ≤ max (τ 236 st) (nOf τ (τ 231 p) 2) ∧ (st < n → mi < max (τ 236 st) (nOf τ (τ 231 p) 2))
/-- the class begins that which the model begins -/
theorem goS_alike (h : RX σ r m τ) {mi : Int} {st : Nat} (hx : Lx τ mi st) (hst : ((st : Nat) : Int) < max 1 (τ 224 1)) (hf : τ 236 st ≤ mi) (hp : nFt τ mi ((st : Nat) : Int) ≠ -1) : goS r m (τ 223 27).toNat σ = bg σ r m (((τ 223 27).toNat : Nat) : Int) (nFt τ mi ((st : Nat) : Int)) ((st : Nat) : Int) mi := by
  have hs3 := h.tw.stones
  have hS := h.tw.sacks
  have hst9 : 0 ≤ ((st : Nat) : Int) ∧ ((st : Nat) : Int) < 3 := ⟨by omega, by omega⟩
  rcases nFt_rg τ mi ((st : Nat) : Int) with q | ⟨p0, p1, p2, p3⟩
  · exact absurd q hp
  · obtain ⟨c1, c2⟩ := fc_alike h
    have hle := c1 (nFt τ mi ((st : Nat) : Int)).toNat (by omega) p2
    have hc : ∃ p : Nat, ((p : Nat) : Int) < τ 224 668 ∧ τ 232 p = -1 ∧ fcF σ r m = nOf τ (τ 231 p) 2 := by
      rcases c2 with c2 | c2
      · exfalso
        have hso := h.rs.so p0 p1
        have := (h.tw.of hso.1 hso.2).2.2.1
        omega
      · exact c2
    obtain ⟨pc, pc1, pc2, pc3⟩ := hc
    have hfs : fsF σ r m (fcF σ r m) = ((st : Nat) : Int) := by
      refine fs_first h hst (fun k hk => ?_)
      have g1 := hx st pc hst pc1 pc2
      have g2 := hx k pc hk pc1 pc2
      rw [← pc3] at g1 g2
      exact ⟨by omega, fun q => by have := g2.2 q; omega⟩
    have hmx : max (rAt σ (r + 20) 3 ((st : Nat) : Int)) (fcF σ r m) = mi := by
      rw [(h.st (st := ((st : Nat) : Int)) (by omega) (by omega)).1]
      have g1 := hx st pc hst pc1 pc2
      rw [← pc3] at g1
      show max (τ 236 st) (fcF σ r m) = mi
      omega
    unfold goS
    rw [hfs, hmx, sd_alike h hst9]
/-- both runs as far as the model's is begun -/
def RG (σ0 : Sg) (r m : Nat) (τ : Sg) : Prop := RX (itr (τ 223 27).toNat (goS r m) (ly σ0 r m)) r m τ ∧ RI τ
theorem rnS_alike {σ0 : Sg} {mi : Int} {st : Nat} (h : RG σ0 r m τ) (ht : RT τ mi) (hst : ((st : Nat) : Int) < max 1 (τ 224 1)) (hx : Lx τ mi st) : (RG σ0 r m (rnS mi st τ) ∧ RT (rnS mi st τ) mi ∧ rnS mi st τ 224 = τ 224) ∧ Lx (rnS mi st τ) mi (st + 1) := by
  obtain ⟨hX, hI⟩ := h
  have hb := hI.b
  have h60 := hI.1.1.p60
  have htm := ht.1
  rw [rnS]
  split
  · next hf =>
    split
    · next hn =>
      refine ⟨⟨⟨hX, hI⟩, ht, rfl⟩, fun k p hk hp hu => ?_⟩
      have g := hx k p hk hp hu
      refine ⟨g.1, fun q => ?_⟩
      by_cases e : k = st
      · subst e; have := nFt_no hn p hp hu; omega
      · exact g.2 (by omega)
    · next hn =>
      rcases nFt_rg τ mi ((st : Nat) : Int) with q | ⟨p0, p1, p2, p3⟩
      · exact absurd q hn
      · have hlt := hI.lt p0 p1 p2
        have e27 := (RI_bg hI p0 p1 p2 (st := ((st : Nat) : Int)) (mi := mi) (by omega) hst htm.1 (by omega)).2
        have hv := vb_of hX ⟨p0, p1⟩ (st := ((st : Nat) : Int)) (mi := mi) ⟨by omega, hst⟩ htm.1 (by omega)
        refine ⟨⟨⟨?_, (RI_bg hI p0 p1 p2 (by omega) hst htm.1 (by omega)).1⟩, RT_bg hI ht p0 p1 p2 (by omega) hst, rfl⟩, fun k p hk hp hu => ?_⟩
        · have hb9 := begin_alike hX hI ⟨p0, p1⟩ p2 (st := ((st : Nat) : Int)) (mi := mi) ⟨by omega, hst⟩ htm.1 (by omega)
          rw [e27, show (τ 223 27 + 1).toNat = (τ 223 27).toNat + 1 by omega, itr_s, goS_alike hX hx hst hf hn, show (((τ 223 27).toNat : Nat) : Int) = τ 223 27 by omega]
          exact hb9
        · change ((k : Nat) : Int) < max 1 (τ 224 1) at hk
          change ((p : Nat) : Int) < τ 224 668 at hp
          rw [nBg_232] at hu
          have hu : (if p = (nFt τ mi ((st : Nat) : Int)).toNat then vbG τ (nFt τ mi ((st : Nat) : Int)) ((st : Nat) : Int) mi else τ 232 p) = -1 := hu
          rw [nBg_236]
          show mi ≤ max (if k = ((st : Nat) : Int).toNat then vbD τ (nFt τ mi ((st : Nat) : Int)) ((st : Nat) : Int) mi else τ 236 k) (nOf τ (τ 231 p) 2) ∧ (k < st + 1 → mi < max (if k = ((st : Nat) : Int).toNat then vbD τ (nFt τ mi ((st : Nat) : Int)) ((st : Nat) : Int) mi else τ 236 k) (nOf τ (τ 231 p) 2))
          by_cases e9 : p = (nFt τ mi ((st : Nat) : Int)).toNat
          · rw [if_pos e9] at hu; omega
          · rw [if_neg e9] at hu
            have g := hx k p hk hp hu
            by_cases e : k = st
            · rw [if_pos (by omega)]; omega
            · rw [if_neg (by omega)]
              exact ⟨g.1, fun q => g.2 (by omega)⟩
  · next hf =>
    refine ⟨⟨⟨hX, hI⟩, ht, rfl⟩, fun k p hk hp hu => ?_⟩
    have g := hx k p hk hp hu
    refine ⟨g.1, fun q => ?_⟩
    by_cases e : k = st
    · subst e; omega
    · exact g.2 (by omega)
theorem nSl_alike {σ0 : Sg} {mi : Int} (h : RG σ0 r m τ) (ht : RT τ mi) (hx : Lx τ mi 0) : RG σ0 r m (nSl τ mi) ∧ RT (nSl τ mi) mi ∧ nSl τ mi 224 = τ 224 ∧ Lx (nSl τ mi) mi (max 1 (τ 224 1)).toNat := by
  have key : ∀ n : Nat, n ≤ (max 1 (τ 224 1)).toNat → (RG σ0 r m (itr n (rnS mi) τ) ∧ RT (itr n (rnS mi) τ) mi ∧ itr n (rnS mi) τ 224 = τ 224) ∧ Lx (itr n (rnS mi) τ) mi n := by
    intro n
    induction n with
    | zero => intro _; exact ⟨⟨h, ht, rfl⟩, hx⟩
    | succ n ih =>
      intro hn
      obtain ⟨⟨i1, i2, i3⟩, i4⟩ := ih (by omega)
      rw [itr_s]
      obtain ⟨⟨j1, j2, j3⟩, j4⟩ := rnS_alike i1 i2 (st := n) (by rw [i3]; omega) i4
      exact ⟨⟨j1, j2, j3.trans i3⟩, j4⟩
  obtain ⟨⟨k1, k2, k3⟩, k4⟩ := key _ (Nat.le_refl _)
  exact ⟨k1, k2, k3, k4⟩
theorem Lx_next {mi : Int} (hR : RS τ) (hm : mi < 1000000) (hx : Lx τ mi (max 1 (τ 224 1)).toNat) : Lx τ (nNx τ mi) 0 := by
  intro st p hst hp hu
  have g := (hx st p hst hp hu).2 (by omega)
  obtain ⟨n1, n2, n3⟩ := nNx_lo τ mi hm
  refine ⟨?_, fun q => by omega⟩
  by_cases z : mi < τ 236 st
  · have := n2 st hst z; omega
  · have hso := hR.2 p hp
    have h3 := n3 (τ 231 p).toNat (by omega) (by rw [Int.toNat_of_nonneg hso.1]; omega)
    rw [Int.toNat_of_nonneg hso.1] at h3; omega
theorem nRuR_alike {σ0 : Sg} : ∀ (n : Nat) {τ : Sg} {mi : Int}, RG σ0 r m τ → (τ 223 27 < τ 224 668 → (RT τ mi ∧ Lx τ mi 0) ∧ 58000 - mi < ((n : Nat) : Int)) → RG σ0 r m (nRuR n τ mi) ∧ nRuR n τ mi 224 = τ 224 ∧ nRuR n τ mi 223 27 = τ 224 668 := by
  intro n
  induction n with
  | zero =>
    intro τ mi h ht
    have hb := h.2.b
    have h6 := h.2.1.1.p60
    refine ⟨h, rfl, ?_⟩
    by_cases q : τ 223 27 < τ 224 668
    · have h1 := ht q
      have := h1.1.1.1
      omega
    · show τ 223 27 = _
      omega
  | succ n ih =>
    intro τ mi h ht
    rw [nRuR]
    have hb := h.2.b
    have h6 := h.2.1.1.p60
    split
    · next q =>
      obtain ⟨⟨h1, hx⟩, h2⟩ := ht q
      obtain ⟨s1, s2, s3, s4⟩ := run_step h.2 h1
      obtain ⟨a1, a2, a3, a4⟩ := nSl_alike h h1 hx
      have hm := h1.1
      obtain ⟨r1, r2, r3⟩ := ih a1 (mi := nNx (nSl τ mi) mi) (fun q2 => ⟨⟨(s4 q2).2, Lx_next a1.2.1 (by omega) (by rw [show max 1 (nSl τ mi 224 1) = max 1 (τ 224 1) by rw [a3]]; exact a4)⟩, by have := (s4 q2).1; omega⟩)
      exact ⟨r1, r2.trans s2, by rw [r3, s2]⟩
    · exact ⟨h, rfl, by omega⟩
/-- THE RUN: both are alike -/
theorem go_alike (hmr : m + 22 ≤ r) (hT : TW (τ 224)) (hK : KW (τ 224)) (hM : MR σ m (τ 224)) : RX (go σ r m) r m (nRu τ) ∧ RI (nRu τ) ∧ nRu τ 224 = τ 224 ∧ nRu τ 223 27 = τ 224 668 := by
  obtain ⟨l1, l2⟩ := ly_alike hmr hT hM
  obtain ⟨f1, f2⟩ := nFg_RI hT
  have e224 := nFg_224 τ
  have e27 : nFg τ 223 27 = 0 := by rw [nFg_at, if_neg (by omega), if_neg (by omega)]; rfl
  have hX : RX (ly σ r m) r m (nFg τ) := ⟨⟨hmr, f1.1, by rw [e224]; exact hK, by rw [e224]; exact hM.of (fun a h1 h2 j => ly_off σ a (by omega) j)⟩, l1, l2⟩
  have hG : RG σ r m (nFg τ) := ⟨by rw [e27]; exact hX, f1⟩
  have hL : Lx (nFg τ) 0 0 := by
    intro st p hst hp hu
    have hst3 := hT.stones
    rw [e224] at hst
    have := (f2.2 st (by omega)).1
    exact ⟨by omega, fun q => by omega⟩
  obtain ⟨r1, r2, r3⟩ := nRuR_alike nRuM hG (mi := 0) (fun _ => ⟨⟨f2, hL⟩, by show (58000 : Int) - 0 < ((60000 : Nat) : Int); omega⟩)
  have e1 : ly σ r m r 1 = τ 224 668 := by rw [l1.1, e224]
  rw [e224] at r2 r3
  refine ⟨?_, r1.2, r2, r3⟩
  have := r1.1
  rw [show nRuR nRuM (nFg τ) 0 = nRu τ from rfl] at this
  rw [show nRu τ 223 27 = τ 224 668 from r3] at this
  unfold go
  rw [e1]
  exact this
end AL
