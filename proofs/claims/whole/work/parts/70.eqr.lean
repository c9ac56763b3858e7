/-! ALIKE, 1: a mill of the class and what the model is told; both runs -/
theorem rAt_lt {σ : Sg} {c n : Nat} {i : Int} (h0 : 0 ≤ i) (h1 : i < ((n : Nat) : Int)) : rAt σ c n i = σ c i.toNat := by unfold rAt; rw [if_pos ⟨h0, h1⟩]
theorem rAt_nt {σ : Sg} {c n : Nat} {i : Nat} (h1 : i < n) : rAt σ c n ((i : Nat) : Int) = σ c i := by rw [rAt_lt (by omega) (by omega)]; rfl
theorem rPut_at {σ : Sg} {c n : Nat} {i v : Int} (h0 : 0 ≤ i) (h1 : i < ((n : Nat) : Int)) (a j : Nat) : rPut σ c n i v a j = if a = c ∧ j = i.toNat then v else σ a j := by unfold rPut; rw [if_pos ⟨h0, h1⟩]; rfl
/-- a mill m of the world σ is as a row t tells -/
def MR (σ : Sg) (m : Nat) (t : Nat → Int) : Prop :=
  (σ m 1 = t 0 ∧ σ m 2 = max 1 (t 1) ∧ σ m 3 = t 2 ∧ σ m 4 = t 3 ∧ σ m 5 = t 4) ∧
  (σ (m + 1) 1 = t 8 ∧ σ (m + 1) 2 = t 17 ∧ ∀ k : Nat, ((k : Nat) : Int) < t 8 → σ (m + 3) k = t (9 + k)) ∧
  (∀ k : Nat, ((k : Nat) : Int) < max 1 (t 1) → σ (m + 5) k = if t 1 = 0 then 1 else t (5 + k)) ∧
  (∀ s : Nat, ((s : Nat) : Int) < t 4 → σ (m + 7) s = t (20 + 7 * s + 0) ∧ σ (m + 9) s = t (20 + 7 * s + 1) ∧ σ (m + 11) s = t (20 + 7 * s + 2) ∧ σ (m + 13) s = t (20 + 7 * s + 3) ∧ σ (m + 15) s = t (20 + 7 * s + 4) ∧ σ (m + 17) s = t (20 + 7 * s + 5) ∧ σ (m + 19) s = t (20 + 7 * s + 6)) ∧
  ∀ s i : Nat, ((s : Nat) : Int) < t 4 → ((i : Nat) : Int) < tM t s → σ (m + 21) (8 * s + i) = t (608 + ((tPre t s).toNat + i))
/-- keys told are keys -/
def KW (t : Nat → Int) : Prop := ∀ k : Nat, ((k : Nat) : Int) < t 8 → 0 ≤ t (9 + k) ∧ t (9 + k) ≤ 7
theorem MR.of {σ σ' : Sg} {m : Nat} {t : Nat → Int} (h : MR σ m t) (hf : ∀ a, m ≤ a → a < m + 22 → ∀ j, σ' a j = σ a j) : MR σ' m t := by
  obtain ⟨⟨a1, a2, a3, a4, a5⟩, ⟨b1, b2, b3⟩, c, d, e⟩ := h
  refine ⟨⟨?_, ?_, ?_, ?_, ?_⟩, ⟨?_, ?_, fun k hk => ?_⟩, fun k hk => ?_, fun s hs => ?_, fun s i hs hi => ?_⟩
  · rw [hf m (by omega) (by omega)]; exact a1
  · rw [hf m (by omega) (by omega)]; exact a2
  · rw [hf m (by omega) (by omega)]; exact a3
  · rw [hf m (by omega) (by omega)]; exact a4
  · rw [hf m (by omega) (by omega)]; exact a5
  · rw [hf (m + 1) (by omega) (by omega)]; exact b1
  · rw [hf (m + 1) (by omega) (by omega)]; exact b2
  · rw [hf (m + 3) (by omega) (by omega)]; exact b3 k hk
  · rw [hf (m + 5) (by omega) (by omega)]; exact c k hk
  · rw [hf (m + 7) (by omega) (by omega), hf (m + 9) (by omega) (by omega), hf (m + 11) (by omega) (by omega), hf (m + 13) (by omega) (by omega), hf (m + 15) (by omega) (by omega), hf (m + 17) (by omega) (by omega), hf (m + 19) (by omega) (by omega)]; exact d s hs
  · rw [hf (m + 21) (by omega) (by omega)]; exact e s i hs hi
section MRs
variable {σ : Sg} {m : Nat} {t : Nat → Int}
theorem MR.lines (h : MR σ m t) : σ m 1 = t 0 := h.1.1
theorem MR.stones (h : MR σ m t) : σ m 2 = max 1 (t 1) := h.1.2.1
theorem MR.clean (h : MR σ m t) : σ m 3 = t 2 := h.1.2.2.1
theorem MR.fee (h : MR σ m t) : σ m 4 = t 3 := h.1.2.2.2.1
theorem MR.sacks (h : MR σ m t) : σ m 5 = t 4 := h.1.2.2.2.2
theorem MR.keys (h : MR σ m t) : σ (m + 1) 1 = t 8 := h.2.1.1
theorem MR.small (h : MR σ m t) : σ (m + 1) 2 = t 17 := h.2.1.2.1
theorem MR.key (h : MR σ m t) {k : Nat} (hk : ((k : Nat) : Int) < t 8) : σ (m + 3) k = t (9 + k) := h.2.1.2.2 k hk
theorem MR.pace (h : MR σ m t) {k : Nat} (hk : ((k : Nat) : Int) < max 1 (t 1)) : σ (m + 5) k = if t 1 = 0 then 1 else t (5 + k) := h.2.2.1 k hk
theorem MR.sk (h : MR σ m t) {s : Nat} (hs : ((s : Nat) : Int) < t 4) : σ (m + 7) s = t (20 + 7 * s + 0) ∧ σ (m + 9) s = t (20 + 7 * s + 1) ∧ σ (m + 11) s = t (20 + 7 * s + 2) ∧ σ (m + 13) s = t (20 + 7 * s + 3) ∧ σ (m + 15) s = t (20 + 7 * s + 4) ∧ σ (m + 17) s = t (20 + 7 * s + 5) ∧ σ (m + 19) s = t (20 + 7 * s + 6) := h.2.2.2.1 s hs
theorem MR.cut (h : MR σ m t) {s i : Nat} (hs : ((s : Nat) : Int) < t 4) (hi : ((i : Nat) : Int) < tM t s) : σ (m + 21) (8 * s + i) = t (608 + ((tPre t s).toNat + i)) := h.2.2.2.2 s i hs hi
end MRs
theorem nSo_eq {σ : Sg} (hT : TW (σ 224)) {s : Nat} {p : Int} (hs : ((s : Nat) : Int) < σ 224 4) (h0 : tPre (σ 224) s ≤ p) (h1 : p < tPre (σ 224) (s + 1)) : nSo σ p = ((s : Nat) : Int) := by
  have hn := tPre_nn hT (a := s) (by omega)
  have hl := tPre_le hT (a := s + 1) (by omega)
  obtain ⟨⟨r1, r2⟩, r3, r4⟩ := nSo_rg hT (p := p) (by omega) (by omega)
  by_cases q : nSo σ p < ((s : Nat) : Int)
  · have := tPre_mono hT (a := (nSo σ p).toNat + 1) (b := s) (by omega) (by omega)
    omega
  · by_cases q2 : ((s : Nat) : Int) < nSo σ p
    · have := tPre_mono hT (a := s + 1) (b := (nSo σ p).toNat) (by omega) (by omega)
      omega
    · omega
def dH (h : Int) : Int := if h = -1 then 1000 else h
/-- pieces laid out alike -/
def RRa (σ : Sg) (r : Nat) (τ : Sg) : Prop :=
  σ r 1 = τ 224 668 ∧ (∀ p : Nat, ((p : Nat) : Int) < τ 224 668 → σ (r + 2) p = τ 231 p ∧ σ (r + 4) p = τ 224 (608 + p)) ∧ ∀ s : Nat, ((s : Nat) : Int) < τ 224 4 → σ (r + 18) s = dH (τ 224 (20 + 7 * s + 5))
/-- the end of a sack so far -/
def EP (τ : Sg) (s : Nat) (E : Int) : Prop := 0 ≤ E ∧ (∀ p : Nat, ((p : Nat) : Int) < τ 224 668 → τ 232 p ≠ -1 → τ 231 p = ((s : Nat) : Int) → τ 233 p ≤ E) ∧ (E = 0 ∨ ∃ p : Nat, ((p : Nat) : Int) < τ 224 668 ∧ τ 232 p ≠ -1 ∧ τ 231 p = ((s : Nat) : Int) ∧ τ 233 p = E)
/-- begun alike -/
def RRb (σ : Sg) (r : Nat) (τ : Sg) : Prop :=
  (∀ p : Nat, ((p : Nat) : Int) < τ 224 668 → σ (r + 6) p = if τ 232 p = -1 then -1 else τ 239 p) ∧
  (∀ p : Nat, ((p : Nat) : Int) < τ 224 668 → τ 232 p ≠ -1 → σ (r + 8) p = τ 232 p ∧ σ (r + 10) p = τ 233 p ∧ σ (r + 12) p = τ 234 p ∧ 0 ≤ τ 239 p) ∧
  (∀ i : Nat, ((i : Nat) : Int) < τ 223 27 → σ (r + 14) i = τ 235 i) ∧
  (∀ st : Nat, st < 3 → σ (r + 20) st = τ 236 st ∧ σ (r + 22) st = τ 237 st) ∧
  (∀ q : Nat, q < 8 → σ (r + 24) q = τ 238 q) ∧
  σ r 2 = τ 223 28 ∧
  ∀ s : Nat, ((s : Nat) : Int) < τ 224 4 → EP τ s (σ (r + 16) s)
theorem mCut_at {σ : Sg} {m : Nat} {s i : Nat} (hs : s < 60) (hi : i < 8) : mCut σ m ((s : Nat) : Int) ((i : Nat) : Int) = σ (m + 21) (8 * s + i) := by
  unfold mCut
  rw [wr_id (show okI (((s : Nat) : Int) * 8) by unfold okI; omega), wr_id (by unfold okI; omega), rAt_lt (by omega) (by omega)]
  congr 1; omega
/-- a sack's pieces laid out -/
theorem lyI_alike {σ : Sg} {r m : Nat} {τ : Sg} (hmr : m + 22 ≤ r) (hT : TW (τ 224)) (hM : MR σ m (τ 224)) {s : Nat} (hs : ((s : Nat) : Int) < τ 224 4) {x : Sg} (hx : off r (r + 25) σ x) (h1 : x r 1 = tPre (τ 224) s) (h2 : ∀ p : Nat, ((p : Nat) : Int) < tPre (τ 224) s → x (r + 2) p = nSo τ ((p : Nat) : Int) ∧ x (r + 4) p = τ 224 (608 + p)) : ∀ i : Nat, ((i : Nat) : Int) ≤ tM (τ 224) s → (off r (r + 25) σ (itr i (lyI r m ((s : Nat) : Int)) x) ∧ itr i (lyI r m ((s : Nat) : Int)) x r 1 = tPre (τ 224) s + ((i : Nat) : Int) ∧ itr i (lyI r m ((s : Nat) : Int)) x r 2 = x r 2 ∧ itr i (lyI r m ((s : Nat) : Int)) x (r + 18) = x (r + 18)) ∧ ∀ p : Nat, ((p : Nat) : Int) < tPre (τ 224) s + ((i : Nat) : Int) → itr i (lyI r m ((s : Nat) : Int)) x (r + 2) p = nSo τ ((p : Nat) : Int) ∧ itr i (lyI r m ((s : Nat) : Int)) x (r + 4) p = τ 224 (608 + p) := by
  have hS := hT.sacks
  have h60 := hT.p60
  have hm := hT.many s hs
  have hn := tPre_nn hT (a := s) (by omega)
  have hl := tPre_le hT (a := s + 1) (by omega)
  have e3 : tPre (τ 224) (s + 1) = tPre (τ 224) s + tM (τ 224) s := rfl
  intro i
  induction i with
  | zero => intro _; exact ⟨⟨hx, by show x r 1 = _; rw [h1]; simp, rfl, rfl⟩, fun p hp => h2 p (by omega)⟩
  | succ i ih =>
    intro hi
    obtain ⟨⟨i1, i2, i3, i4⟩, i5⟩ := ih (by omega)
    rw [itr_s]
    generalize itr i (lyI r m ((s : Nat) : Int)) x = y at i1 i2 i3 i4 i5 ⊢
    have hc : mCut (rPut y (r + 2) 60 (y r 1) ((s : Nat) : Int)) m ((s : Nat) : Int) ((i : Nat) : Int) = τ 224 (608 + ((tPre (τ 224) s).toNat + i)) := by
      rw [mCut_at (by omega) (by omega), rPut_ne (by omega), i1 (m + 21) (by omega), hM.cut hs (by omega)]
    have e : ∀ a j : Nat, lyI r m ((s : Nat) : Int) i y a j = if a = r ∧ j = 1 then tPre (τ 224) s + ((i : Nat) : Int) + 1 else if a = r + 4 ∧ j = (tPre (τ 224) s).toNat + i then τ 224 (608 + ((tPre (τ 224) s).toNat + i)) else if a = r + 2 ∧ j = (tPre (τ 224) s).toNat + i then ((s : Nat) : Int) else y a j := by
      intro a j
      have e1 : (rPut y (r + 2) 60 (y r 1) ((s : Nat) : Int)) r 1 = tPre (τ 224) s + ((i : Nat) : Int) := by rw [rPut_ne (by omega), i2]
      unfold lyI
      rw [hc, e1]
      have e2 : (rPut (rPut y (r + 2) 60 (y r 1) ((s : Nat) : Int)) (r + 4) 60 (tPre (τ 224) s + ((i : Nat) : Int)) (τ 224 (608 + ((tPre (τ 224) s).toNat + i)))) r 1 = tPre (τ 224) s + ((i : Nat) : Int) := by rw [rPut_ne (by omega), e1]
      rw [e2, wr_id (by unfold okI; omega), i2]
      by_cases q1 : a = r ∧ j = 1
      · obtain ⟨rfl, rfl⟩ := q1
        rw [su_same, if_pos ⟨rfl, rfl⟩]
      · rw [su_ne _ _ (by omega), if_neg q1, rPut_at (by omega) (by omega), rPut_at (by omega) (by omega)]
        by_cases q2 : a = r + 4 ∧ j = (tPre (τ 224) s).toNat + i
        · rw [if_pos (by omega), if_pos q2]
        · rw [if_neg (by omega), if_neg q2]
          by_cases q3 : a = r + 2 ∧ j = (tPre (τ 224) s).toNat + i
          · rw [if_pos (by omega), if_pos q3]
          · rw [if_neg (by omega), if_neg q3]
    refine ⟨⟨?_, ?_, ?_, ?_⟩, fun p hp => ?_⟩
    · intro a ha j
      rw [e, if_neg (by omega), if_neg (by omega), if_neg (by omega)]; exact i1 a ha j
    · rw [e, if_pos ⟨rfl, rfl⟩]; omega
    · rw [e, if_neg (by omega), if_neg (by omega), if_neg (by omega)]; exact i3
    · funext j
      rw [e, if_neg (by omega), if_neg (by omega), if_neg (by omega), i4]
    · rw [e, e]
      by_cases q : p = (tPre (τ 224) s).toNat + i
      · rw [if_neg (by omega), if_neg (by omega), if_pos (by omega), if_neg (by omega), if_pos (by omega), nSo_eq hT hs (by omega) (by omega), q]
        exact ⟨rfl, rfl⟩
      · rw [if_neg (by omega), if_neg (by omega), if_neg (by omega), if_neg (by omega), if_neg (by omega), if_neg (by omega)]
        exact i5 p (by omega)
theorem lyS_alike {σ : Sg} {r m : Nat} {τ : Sg} (hmr : m + 22 ≤ r) (hT : TW (τ 224)) (hM : MR σ m (τ 224)) : ∀ s : Nat, ((s : Nat) : Int) ≤ τ 224 4 → (off r (r + 25) σ (itr s (lyS r m) (ly0 σ r)) ∧ itr s (lyS r m) (ly0 σ r) r 1 = tPre (τ 224) s ∧ itr s (lyS r m) (ly0 σ r) r 2 = 0) ∧ (∀ p : Nat, ((p : Nat) : Int) < tPre (τ 224) s → itr s (lyS r m) (ly0 σ r) (r + 2) p = nSo τ ((p : Nat) : Int) ∧ itr s (lyS r m) (ly0 σ r) (r + 4) p = τ 224 (608 + p)) ∧ ∀ k : Nat, k < s → itr s (lyS r m) (ly0 σ r) (r + 18) k = dH (τ 224 (20 + 7 * k + 5)) := by
  have hS := hT.sacks
  intro s
  induction s with
  | zero =>
    intro _
    refine ⟨⟨((off.rf r (r + 25) σ).su (by omega)).su (by omega), ?_, ?_⟩, fun p hp => ?_, fun k hk => by omega⟩
    · show ly0 σ r r 1 = 0
      unfold ly0; rw [su_ne _ _ (Or.inr (by decide)), su_same]
    · show ly0 σ r r 2 = 0
      unfold ly0; rw [su_same]
    · exact absurd hp (by show ¬ _ < (0 : Int); omega)
  | succ s ih =>
    intro hs
    obtain ⟨⟨i1, i2, i3⟩, i4, i5⟩ := ih (by omega)
    rw [itr_s]
    generalize itr s (lyS r m) (ly0 σ r) = y at i1 i2 i3 i4 i5 ⊢
    have hk := hM.sk (s := s) (by omega)
    have a17 : rAt y (m + 17) 60 ((s : Nat) : Int) = τ 224 (20 + 7 * s + 5) := by rw [rAt_nt (by omega), i1 (m + 17) (by omega)]; exact hk.2.2.2.2.2.1
    have a19 : rAt y (m + 19) 60 ((s : Nat) : Int) = tM (τ 224) s := by rw [rAt_nt (by omega), i1 (m + 19) (by omega)]; exact hk.2.2.2.2.2.2
    have hm := hT.many s (by omega)
    have eD : ∀ a j : Nat, lyD y r m ((s : Nat) : Int) a j = if a = r + 18 ∧ j = s then dH (τ 224 (20 + 7 * s + 5)) else y a j := by
      intro a j
      unfold lyD
      rw [a17, rPut_at (by omega) (by omega)]
      rfl
    have hD := lyI_alike hmr hT hM (s := s) (by omega) (x := lyD y r m ((s : Nat) : Int)) (fun a ha j => by rw [eD, if_neg (by omega)]; exact i1 a ha j) (by rw [eD, if_neg (by omega)]; exact i2) (fun p hp => by rw [eD, eD, if_neg (by omega), if_neg (by omega)]; exact i4 p hp) (tM (τ 224) s).toNat (by omega)
    obtain ⟨⟨d1, d2, d3, d4⟩, d5⟩ := hD
    unfold lyS
    rw [a19]
    generalize itr (tM (τ 224) s).toNat (lyI r m ((s : Nat) : Int)) (lyD y r m ((s : Nat) : Int)) = z at d1 d2 d3 d4 d5 ⊢
    have e3 : tPre (τ 224) (s + 1) = tPre (τ 224) s + tM (τ 224) s := rfl
    refine ⟨⟨d1, by rw [d2, e3]; omega, by rw [d3, eD, if_neg (by omega)]; exact i3⟩, fun p hp => d5 p (by rw [e3] at hp; omega), fun k hk => ?_⟩
    rw [d4, eD]
    by_cases q : k = s
    · subst q; rw [if_pos ⟨rfl, rfl⟩]
    · rw [if_neg (by omega)]; exact i5 k (by omega)
/-- laid out, and nothing begun: alike -/
theorem ly_alike {σ : Sg} {r m : Nat} {τ : Sg} (hmr : m + 22 ≤ r) (hT : TW (τ 224)) (hM : MR σ m (τ 224)) : RRa (ly σ r m) r (nFg τ) ∧ RRb (ly σ r m) r (nFg τ) := by
  have hS := hT.sacks
  have hP0 := hT.p0
  have h60 := hT.p60
  obtain ⟨⟨y1, y2, y3⟩, y4, y5⟩ := lyS_alike hmr hT hM (τ 224 4).toNat (by omega)
  have e : ∀ a j : Nat, ly σ r m a j = if a = r + 24 ∧ j < 8 then 0 else if a = r + 22 ∧ j < 3 then -1 else if a = r + 20 ∧ j < 3 then 0 else if a = r + 16 ∧ j < 60 then 0 else if a = r + 6 ∧ j < 60 then -1 else itr (τ 224 4).toNat (lyS r m) (ly0 σ r) a j := by
    intro a j
    unfold ly
    rw [hM.sacks]
    rfl
  generalize itr (τ 224 4).toNat (lyS r m) (ly0 σ r) = y at y1 y2 y3 y4 y5 e
  have f224 : nFg τ 224 = τ 224 := nFg_224 τ
  have f232 : ∀ p : Nat, ((p : Nat) : Int) < τ 224 668 → nFg τ 232 p = -1 := fun p hp => by rw [nFg_at, if_pos ⟨rfl, by omega⟩]
  have f231 : ∀ p : Nat, ((p : Nat) : Int) < τ 224 668 → nFg τ 231 p = nSo τ ((p : Nat) : Int) := fun p hp => by rw [nFg_at, if_neg (by omega), if_pos ⟨rfl, by omega⟩]
  have fC : ∀ a j : Nat, a ≠ 231 → a ≠ 232 → nFg τ a j = fgC τ 3 a j := fun a j h1 h2 => by rw [nFg_at, if_neg (by omega), if_neg (by omega)]
  have hs1 := hT.sum
  refine ⟨⟨?_, fun p hp => ?_, fun s hs => ?_⟩, fun p hp => ?_, fun p hp hb => ?_, fun i hi => ?_, fun st hst => ?_, fun q hq => ?_, ?_, fun s hs => ?_⟩
  · rw [e, f224, hs1]; (repeat rw [if_neg (by omega)]); exact y2
  · rw [f224] at hp ⊢
    rw [f231 p hp, e, e]; (repeat rw [if_neg (by omega)])
    exact y4 p (by rw [← hs1]; exact hp)
  · rw [f224] at hs ⊢
    rw [e]; (repeat rw [if_neg (by omega)])
    exact y5 s (by omega)
  · rw [f224] at hp
    rw [f232 p hp, if_pos rfl, e]; (repeat rw [if_neg (by omega)]); rw [if_pos (by omega)]
  · rw [f224] at hp
    exact absurd (f232 p hp) hb
  · exfalso
    rw [fC 223 27 (by decide) (by decide)] at hi
    change ((i : Nat) : Int) < 0 at hi
    omega
  · have v6 : nFg τ 236 st = 0 := by rw [fC 236 st (by decide) (by decide), fgC, rFill_ne (show (236 : Nat) ≠ 237 by decide), rFill, if_pos ⟨rfl, hst⟩]
    have v7 : nFg τ 237 st = -1 := by rw [fC 237 st (by decide) (by decide), fgC, rFill, if_pos ⟨rfl, hst⟩]
    rw [v6, v7, e, e]
    constructor
    · (repeat rw [if_neg (by omega)]); rw [if_pos ⟨rfl, hst⟩]
    · rw [if_neg (by omega), if_pos ⟨rfl, hst⟩]
  · rw [e, if_pos ⟨rfl, hq⟩, fC 238 q (by decide) (by decide), fgC, rFill_ne (by decide), rFill_ne (by decide), fgB, rFill, if_pos ⟨rfl, hq⟩]
  · rw [e, fC 223 28 (by decide) (by decide)]; (repeat rw [if_neg (by omega)])
    rw [y3]; rfl
  · rw [f224] at hs
    rw [e]; (repeat rw [if_neg (by omega)]); rw [if_pos (by omega)]
    refine ⟨Int.le_refl _, fun p hp hb => ?_, Or.inl rfl⟩
    rw [f224] at hp
    exact absurd (f232 p hp) hb
