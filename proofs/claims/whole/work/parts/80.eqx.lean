/-! ALIKE, 11: trays changed, images, sacks made whole and parted -/
section AL
variable {σ τ : Sg}
/-- one tray changed alike -/
theorem Rel.chg {σ' τ' : Sg} (h : Rel σ τ) {t : Nat} (ht : t < 4) (f : ∀ a, a ≠ 149 + 2 * t → a ≠ 150 + 2 * t → ∀ j, σ' a j = σ a j) (g1 : Eq6 (τ 224) (τ' 224)) (g2 : ∀ j, (j = 7 ∨ j = 15 ∨ j = 16) → τ' 223 j = τ 223 j) (g3 : ∀ a, (a = 227 ∨ a = 228 ∨ a = 229) → τ' a = τ a) (g4 : ∀ i : Nat, i < 4 → i ≠ t → τ' 245 i = τ 245 i ∧ τ' 246 i = τ 246 i ∧ ∀ k : Nat, k < 60 → τ' 247 (60 * i + k) = τ 247 (60 * i + k)) (g5 : (0 ≤ τ' 245 t ∧ τ' 245 t ≤ 3) ∧ (0 ≤ τ' 246 t ∧ τ' 246 t ≤ 60) ∧ TR σ' τ' t) : Rel σ' τ' := by
  obtain ⟨⟨a1, a2, a3, a4⟩, ⟨b1, b2, b3, b4⟩, ⟨c1, c2⟩, ⟨d1, d2⟩, e⟩ := h
  refine ⟨⟨?_, TW_cg g1 a2, a3.cg a2 g1, by rw [g1 4 (by omega)]; exact a4⟩, ⟨?_, ?_, ?_, fun i hi hi2 => ?_⟩, ⟨?_, ?_⟩, ⟨fun i hi => ?_, fun i hi => ⟨fun q => ?_, fun q => ?_⟩⟩, fun i hi => ⟨?_, fun q => ?_⟩⟩
  · exact (a1.of (fun a h1 h2 j => f a (by omega) (by omega) j)).cg a2 g1
  · rw [f 1 (by omega) (by omega), g2 7 (by omega)]; exact b1
  · rw [g2 7 (by omega)]; exact b2
  · rw [g2 7 (by omega)]; exact b3
  · rw [g2 7 (by omega)] at hi2
    rw [f 2 (by omega) (by omega), g3 229 (by omega)]; exact b4 i hi hi2
  · rw [f 3 (by omega) (by omega), g2 15 (by omega)]; exact c1
  · rw [f 3 (by omega) (by omega), g2 16 (by omega)]; exact c2
  · by_cases z : i = t
    · rw [z]; exact ⟨⟨by omega, g5.1.2⟩, g5.2.1⟩
    · rw [(g4 i hi z).1, (g4 i hi z).2.1]; exact d1 i hi
  · by_cases z : i = t
    · rw [z] at q; omega
    · rw [(g4 i hi z).1] at q
      rw [f _ (by omega) (by omega)]; exact (d2 i hi).1 q
  · by_cases z : i = t
    · rw [z]; exact g5.2.2
    · obtain ⟨w1, w2, w3⟩ := g4 i hi z
      rw [w1] at q
      have u := (d2 i hi).2 q
      refine ⟨?_, ?_, fun k hk => ?_⟩
      · rw [f _ (by omega) (by omega), w1]; exact u.1
      · rw [f _ (by omega) (by omega), w2]; exact u.2.1
      · rw [f _ (by omega) (by omega), w3 k hk]; exact u.2.2 k hk
  · rw [f _ (by omega) (by omega), g3 228 (by omega)]; exact (e i hi).1
  · rw [g3 228 (by omega)] at q
    have u := (e i hi).2 q
    rw [g3 227 (by omega)]
    exact ⟨u.1.of (fun a h1 h2 j => f a (by omega) (by omega) j), u.2⟩
theorem ntS_at (t : Nat) (x : Sg) (n : Nat) (a j : Nat) : itr n (ntS ((t : Nat) : Int)) x a j = if a = 247 ∧ (60 * t ≤ j ∧ j < 60 * t + n) then 0 else x a j := by
  induction n with
  | zero => rw [itr_0, if_neg (by omega)]
  | succ n ih =>
    rw [itr_s, ntS]
    by_cases q : a = 247 ∧ j = (60 * ((t : Nat) : Int) + ((n : Nat) : Int)).toNat
    · obtain ⟨rfl, q2⟩ := q
      rw [q2, su_same, if_pos (by omega)]
    · rw [su_ne _ _ (by omega), ih]
      by_cases z : a = 247 ∧ (60 * t ≤ j ∧ j < 60 * t + n)
      · rw [if_pos z, if_pos (by omega)]
      · rw [if_neg z, if_neg (by omega)]
theorem al_tray (h : Rel σ τ) (i s n : Int) : Al (gRow i s n) eNI 0 0 (yFill (su (su σ (trT i) 1 s) (trT i) 2 n) (trT i + 1) 60) σ (nTr τ i s n 60) := by
  unfold gRow gTray nTr
  by_cases q : 0 ≤ i ∧ i < 4
  · rw [if_pos q, Option.none_or]
    by_cases q2 : (0 ≤ s ∧ s ≤ 3) ∧ (0 ≤ n ∧ n ≤ 60)
    · have e : ntV i s n = 0 := by
        unfold ntV wth
        rw [if_pos (show 0 ≤ i ∧ i ≤ 3 by omega), if_pos q2.1, if_pos q2.2]; rfl
      rw [if_pos q2, e, if_neg (show ¬ (0 : Int) < 0 by decide)]
      obtain ⟨t, rfl⟩ : ∃ t : Nat, i = ((t : Nat) : Int) := ⟨i.toNat, by omega⟩
      rw [trT_t]
      have g := ntS_at t (ntX τ ((t : Nat) : Int) s n) 60
      have x : ∀ a j, ntX τ ((t : Nat) : Int) s n a j = if a = 246 ∧ j = t then n else if a = 245 ∧ j = t then s else if a = 223 ∧ j = 5 then 0 else τ a j := by
        intro a j
        unfold ntX
        rw [e]
        rfl
      generalize itr 60 (ntS ((t : Nat) : Int)) (ntX τ ((t : Nat) : Int) s n) = y at g ⊢
      have y5 : y 223 5 = 0 := by rw [g, if_neg (by omega), x]; rfl
      refine Al.no _ y5 rfl (h.chg (t := t) (by omega) (fun a h1 h2 j => ?_) (fun j _ => ?_) (fun j hj => ?_) (fun a ha => funext fun j => ?_) (fun k hk hkt => ⟨?_, ?_, fun b hb => ?_⟩) ⟨?_, ?_, ?_, ?_, fun k hk => ?_⟩)
      · show (if a = 149 + 2 * t + 1 ∧ j < 60 then 0 else su (su σ (149 + 2 * t) 1 s) (149 + 2 * t) 2 n a j) = _
        rw [if_neg (by omega), su_ne _ _ (Or.inl (by omega)), su_ne _ _ (Or.inl (by omega))]
      · rw [g, if_neg (by omega), x]; (repeat rw [if_neg (by omega)])
      · rw [g, if_neg (by omega), x]; (repeat rw [if_neg (by omega)])
      · rw [g, if_neg (by omega), x]; (repeat rw [if_neg (by omega)])
      · rw [g, if_neg (by omega), x]; (repeat rw [if_neg (by omega)])
      · rw [g, if_neg (by omega), x]; (repeat rw [if_neg (by omega)])
      · rw [g, if_neg (by omega), x]; (repeat rw [if_neg (by omega)])
      · rw [g, if_neg (by omega), x, if_neg (by omega), if_pos ⟨rfl, rfl⟩]; exact q2.1
      · rw [g, if_neg (by omega), x, if_pos ⟨rfl, rfl⟩]; exact q2.2
      · rw [g, if_neg (by omega), x, if_neg (by omega), if_pos ⟨rfl, rfl⟩]
        show (if 149 + 2 * t = 149 + 2 * t + 1 ∧ 1 < 60 then 0 else su (su σ (149 + 2 * t) 1 s) (149 + 2 * t) 2 n (149 + 2 * t) 1) = _
        rw [if_neg (by omega), su_ne _ _ (Or.inr (by decide)), su_same]
      · rw [g, if_neg (by omega), x, if_pos ⟨rfl, rfl⟩]
        show (if 149 + 2 * t = 149 + 2 * t + 1 ∧ 2 < 60 then 0 else su (su σ (149 + 2 * t) 1 s) (149 + 2 * t) 2 n (149 + 2 * t) 2) = _
        rw [if_neg (by omega), su_same]
      · rw [g, if_pos (by omega)]
        show (if 150 + 2 * t = 149 + 2 * t + 1 ∧ k < 60 then 0 else su (su σ (149 + 2 * t) 1 s) (149 + 2 * t) 2 n (150 + 2 * t) k) = _
        rw [if_pos (by omega)]
    · have e : ntV i s n = 2 := by
        unfold ntV wth
        rw [if_pos (show 0 ≤ i ∧ i ≤ 3 by omega), if_neg (by decide), if_pos]
        by_cases z : 0 ≤ s ∧ s ≤ 3
        · exact Or.inr (if_neg (fun e => q2 ⟨z, e⟩))
        · exact Or.inl (if_neg z)
      rw [if_neg q2, e, if_pos (show (0 : Int) < 2 by decide)]
      exact Al.th 1 rfl (thr_5 τ 2) (h.thr 2)
  · have e : ntV i s n = 1 := by
      unfold ntV wth
      rw [if_neg (show ¬ (0 ≤ i ∧ i ≤ 3) by omega), if_pos rfl]
    rw [if_neg q, e, if_pos (show (0 : Int) < 1 by decide)]
    exact Al.th 0 rfl (thr_5 τ 1) (h.thr 1)
/-- a number comes to a tray: alike -/
theorem TR.put {t p : Nat} {v : Int} (h : Rel σ τ) (ht : t < 4) (hR : TR σ τ t) (hs : 0 ≤ τ 245 t ∧ τ 245 t ≤ 3) (hm : 0 ≤ τ 246 t ∧ τ 246 t ≤ 60) (hp : p < 60) (hv : okJ v) : Rel (yPut σ (149 + 2 * t) ((p : Nat) : Int) v) (nCut τ ((t : Nat) : Int) ((p : Nat) : Int) v) ∧ TR (yPut σ (149 + 2 * t) ((p : Nat) : Int) v) (nCut τ ((t : Nat) : Int) ((p : Nat) : Int) v) t ∧ yAt (yPut σ (149 + 2 * t) ((p : Nat) : Int) v) (149 + 2 * t + 1) ((p : Nat) : Int) = ncV τ ((t : Nat) : Int) v ∧ nCut τ ((t : Nat) : Int) ((p : Nat) : Int) v 223 5 = τ 223 5 := by
  have ec : ncV τ ((t : Nat) : Int) v = yCut (σ (149 + 2 * t) 1) v := by
    unfold ncV ncLs
    rw [hR.1]
    exact cut_alike hs hv
  have e : ∀ a j, yPut σ (149 + 2 * t) ((p : Nat) : Int) v a j = if a = 150 + 2 * t ∧ j = p then ncV τ ((t : Nat) : Int) v else σ a j := by
    intro a j
    unfold yPut
    rw [if_pos (by omega), ec, show ((p : Nat) : Int).toNat = p from rfl, show 149 + 2 * t + 1 = 150 + 2 * t by omega]
    rfl
  have f : ∀ a j, nCut τ ((t : Nat) : Int) ((p : Nat) : Int) v a j = if a = 247 ∧ j = 60 * t + p then ncV τ ((t : Nat) : Int) v else τ a j := by
    intro a j
    unfold nCut
    rw [show (60 * ((t : Nat) : Int) + ((p : Nat) : Int)).toNat = 60 * t + p by omega]
    rfl
  have hT : TR (yPut σ (149 + 2 * t) ((p : Nat) : Int) v) (nCut τ ((t : Nat) : Int) ((p : Nat) : Int) v) t := by
    refine ⟨?_, ?_, fun k hk => ?_⟩
    · rw [e, f, if_neg (by omega), if_neg (by omega)]; exact hR.1
    · rw [e, f, if_neg (by omega), if_neg (by omega)]; exact hR.2.1
    · rw [e, f]
      by_cases z : k = p
      · rw [if_pos (by omega), if_pos (by omega)]
      · rw [if_neg (by omega), if_neg (by omega)]; exact hR.2.2 k hk
  refine ⟨h.chg ht (fun a h1 h2 j => ?_) (fun j _ => ?_) (fun j hj => ?_) (fun a ha => funext fun j => ?_) (fun k hk hkt => ⟨?_, ?_, fun b hb => ?_⟩) ⟨?_, ?_, hT⟩, hT, ?_, ?_⟩
  · rw [e, if_neg (by omega)]
  · rw [f, if_neg (by omega)]
  · rw [f, if_neg (by omega)]
  · rw [f, if_neg (by omega)]
  · rw [f, if_neg (by omega)]
  · rw [f, if_neg (by omega)]
  · rw [f, if_neg (by omega)]
  · rw [f, if_neg (by omega)]; exact hs
  · rw [f, if_neg (by omega)]; exact hm
  · unfold yAt
    rw [if_pos (by omega), e, if_pos (by constructor; omega; rfl)]
  · rw [f, if_neg (by omega)]
theorem al_write (h : Rel σ τ) (i k v : Int) (hv : okJ v) : Al (gWrite σ i k) eNSO (yAt (yPut σ (trT i) k v) (trT i + 1) k) (nWr τ i k v).1 (yPut σ (trT i) k v) σ (nWr τ i k v).2 := by
  unfold gWrite nWr
  rcases h.full i with ⟨g1, g2⟩ | ⟨g1, g2⟩ | ⟨g1, g2, t, ht, rfl, hR, h0, h1, h2, h3⟩
  · rw [g1, g2, if_pos (show (0 : Int) < 1 by decide)]
    exact Al.th 0 rfl (thr_5 τ 1) (h.thr 1)
  · rw [g1, g2, if_pos (show (0 : Int) < 2 by decide)]
    exact Al.th 1 rfl (thr_5 τ 2) (h.thr 2)
  · rw [g1, g2, if_neg (show ¬ (0 : Int) < 0 by decide), Option.none_or, trT_t, hR.2.1]
    unfold nWrA
    have e246 : nThr τ 0 246 ((t : Nat) : Int).toNat = τ 246 t := rfl
    rw [e246, wr_id (show okI (τ 246 t - 1) by unfold okI; omega)]
    by_cases q : 0 ≤ k ∧ k < τ 246 t
    · rw [if_pos q, if_neg (by unfold wth; rw [if_pos (by omega)]; decide)]
      obtain ⟨p, rfl⟩ : ∃ p : Nat, k = ((p : Nat) : Int) := ⟨k.toNat, by omega⟩
      obtain ⟨p1, p2, p3, p4⟩ := TR.put (h.thr 0) ht (hR.of2 (Ft_thr τ 0)) ⟨h2, h3⟩ ⟨h0, h1⟩ (p := p) (by omega) hv
      exact Al.no _ (p4.trans (thr_5 τ 0)) p3 p1
    · rw [if_neg q, if_pos (by unfold wth; rw [if_neg (by omega)])]
      exact Al.th 2 rfl (thr_5 (nThr τ 0) 3) ((h.thr 0).thr 3)
/-- pieces in the run's row are pieces -/
def RW (τ : Sg) : Prop := ∀ i : Nat, ((i : Nat) : Int) < τ 223 27 → 0 ≤ τ 235 i ∧ τ 235 i < τ 224 668
theorem RW_bg (hI : RI τ) (hw : RW τ) {p st mi : Int} (h0 : 0 ≤ p) (h1 : p < τ 224 668) : RW (nBg τ p st mi) := by
  have hb := hI.b
  have h6 := hI.1.1.p60
  intro i hi
  rw [nBg_27, wr_id (by unfold okI; omega)] at hi
  rw [nBg_235]
  show 0 ≤ (if i = (τ 223 27).toNat then p else τ 235 i) ∧ (if i = (τ 223 27).toNat then p else τ 235 i) < τ 224 668
  split
  · exact ⟨h0, h1⟩
  · exact hw i (by omega)
theorem RW_sl {mi : Int} (hI : RI τ) (ht : RT τ mi) (hw : RW τ) : ∀ n : Nat, n ≤ (max 1 (τ 224 1)).toNat → RW (itr n (rnS mi) τ) := by
  intro n
  induction n with
  | zero => intro _; exact hw
  | succ n ih =>
    intro hn
    have i1 := (nSl_inv hI ht n (by omega)).1.1
    have i2 := ih (by omega)
    rw [itr_s]
    generalize itr n (rnS mi) τ = y at i1 i2 ⊢
    rw [rnS]
    split
    · split
      · exact i2
      · next hn2 =>
        rcases nFt_rg y mi ((n : Nat) : Int) with q | q
        · exact absurd q hn2
        · exact RW_bg i1 i2 q.1 q.2.1
    · exact i2
theorem RW_ruR : ∀ (n : Nat) {τ : Sg} {mi : Int}, RI τ → (τ 223 27 < τ 224 668 → RT τ mi) → RW τ → RW (nRuR n τ mi) := by
  intro n
  induction n with
  | zero => intro τ mi _ _ hw; exact hw
  | succ n ih =>
    intro τ mi h ht hw
    rw [nRuR]
    split
    · next q =>
      have h1 := ht q
      obtain ⟨s1, s2, s3, s4⟩ := run_step h h1
      exact ih s1 (fun q2 => (s4 q2).2) (RW_sl h h1 hw _ (Nat.le_refl _))
    · exact hw
theorem RW_ru (hT : TW (τ 224)) : RW (nRu τ) := by
  obtain ⟨h1, h2⟩ := nFg_RI hT
  refine RW_ruR nRuM h1 (mi := 0) (fun _ => h2) (fun i hi => ?_)
  have e27 : nFg τ 223 27 = 0 := by rw [nFg_at, if_neg (by omega), if_neg (by omega)]; rfl
  omega
theorem al_pour (h : Rel σ τ) (i : Int) : Al (gFull σ i) eNS (min (go σ 26 4 (trT i) 2) (go σ 26 4 26 1)) (nPu τ i).1 (zPour (go σ 26 4) (trT i)) σ (nPu τ i).2 := by
  unfold nPu
  rcases h.full i with ⟨g1, g2⟩ | ⟨g1, g2⟩ | ⟨g1, g2, t, ht, rfl, hR, h0, h1, h2, h3⟩
  · rw [g1, g2, if_pos (show (0 : Int) < 1 by decide)]
    exact Al.th 0 rfl (thr_5 τ 1) (h.thr 1)
  · rw [g1, g2, if_pos (show (0 : Int) < 2 by decide)]
    exact Al.th 1 rfl (thr_5 τ 2) (h.thr 2)
  · rw [g1, g2, if_neg (show ¬ (0 : Int) < 0 by decide), trT_t]
    obtain ⟨r1, r2, r3, r4⟩ := h.run 0
    have hR2 : TR (go σ 26 4) (nRu (nThr τ 0)) t := (hR.of ht ((go_off σ).fr (by decide) (by decide))).of2 ((Ft_thr τ 0).trans (Ft_ru (τ := nThr τ 0) h.tw))
    have e246 : nRu (nThr τ 0) 246 = τ 246 := by rw [nRu_ne _ (by omega)]; rfl
    have e245 : nRu (nThr τ 0) 245 = τ 245 := by rw [nRu_ne _ (by omega)]; rfl
    have hw := RW_ru (τ := nThr τ 0) h.tw
    generalize nRu (nThr τ 0) = y at r1 r2 r3 r4 hR2 e246 e245 hw
    generalize go σ 26 4 = x at r1 r2 hR2 ⊢
    have hN : npN y ((t : Nat) : Int) = min (y 246 t) (y 224 668) := rfl
    have hN2 : min (x (149 + 2 * t) 2) (x 26 1) = min (y 246 t) (y 224 668) := by rw [hR2.2.1, show x 26 1 = y 224 668 from r1.1.a.1]
    have h60 := r1.1.tw.p60
    have hP0 := r1.1.tw.p0
    have key : ∀ n : Nat, ((n : Nat) : Int) ≤ min (y 246 t) (y 224 668) → (Rel (itr n (zPoS (149 + 2 * t)) x) (itr n (npS ((t : Nat) : Int)) y) ∧ TR (itr n (zPoS (149 + 2 * t)) x) (itr n (npS ((t : Nat) : Int)) y) t) ∧ itr n (npS ((t : Nat) : Int)) y 223 5 = 0 ∧ ∀ j, itr n (zPoS (149 + 2 * t)) x 40 j = x 40 j := by
      intro n
      induction n with
      | zero => intro _; exact ⟨⟨r2, hR2⟩, r3, fun j => rfl⟩
      | succ n ih =>
        intro hn
        obtain ⟨⟨i1, i2⟩, i3, i4⟩ := ih (by omega)
        have e5 : itr n (npS ((t : Nat) : Int)) y 245 = y 245 := npS_ne _ n y (by decide)
        have e6 : itr n (npS ((t : Nat) : Int)) y 246 = y 246 := npS_ne _ n y (by decide)
        have e35 : itr n (npS ((t : Nat) : Int)) y 235 = y 235 := npS_ne _ n y (by decide)
        rw [itr_s, itr_s, zPoS, npS, e35]
        have er : rAt (itr n (zPoS (149 + 2 * t)) x) 40 60 ((n : Nat) : Int) = y 235 n := by
          rw [rAt_cg i4]; exact r1.row (by omega)
        rw [er]
        have hv : okJ (y 235 n) := by
          have := hw n (by rw [r1.2.2]; omega)
          unfold okJ; omega
        generalize itr n (zPoS (149 + 2 * t)) x = x2 at i1 i2 i4 er ⊢
        generalize itr n (npS ((t : Nat) : Int)) y = y2 at i1 i2 i3 e5 e6 e35 ⊢
        obtain ⟨p1, p2, p3, p4⟩ := TR.put i1 ht i2 (by rw [e5, e245]; exact ⟨h2, h3⟩) (by rw [e6, e246]; exact ⟨h0, h1⟩) (p := n) (by omega) hv
        refine ⟨⟨p1, p2⟩, p4.trans i3, fun j => ?_⟩
        unfold yPut
        rw [if_pos (by omega), su_ne _ _ (Or.inl (by omega))]; exact i4 j
    obtain ⟨⟨k1, k2⟩, k3, k4⟩ := key (min (y 246 t) (y 224 668)).toNat (by rw [e246]; omega)
    rw [hN2, hN]
    unfold zPour
    rw [hN2]
    exact Al.no _ k3 rfl k1
end AL
