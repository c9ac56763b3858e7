/-! ALIKE, 4: what is asked of a run that is done -/
section AL
variable {σ τ : Sg} {r m : Nat}
/-- a run that is done, alike -/
def RD (σ : Sg) (r m : Nat) (τ : Sg) : Prop := RX σ r m τ ∧ RI τ ∧ τ 223 27 = τ 224 668
theorem RD.all (h : RD σ r m τ) {p : Nat} (hp : ((p : Nat) : Int) < τ 224 668) : τ 232 p ≠ -1 := by
  have h2 := h.2.1.2
  rw [h.2.2] at h2
  exact cntB_full (τ 232) (τ 224 668).toNat (by omega) (by omega)
theorem nEo_pr (τ : Sg) (s : Int) (n : Nat) : 0 ≤ itr n (nEoS τ s) 0 ∧ (∀ p : Nat, p < n → τ 231 p = s → τ 233 p ≤ itr n (nEoS τ s) 0) ∧ (itr n (nEoS τ s) 0 = 0 ∨ ∃ p : Nat, p < n ∧ τ 231 p = s ∧ τ 233 p = itr n (nEoS τ s) 0) := by
  induction n with
  | zero => exact ⟨Int.le_refl _, fun p hp => by omega, Or.inl rfl⟩
  | succ n ih =>
    obtain ⟨i1, i2, i3⟩ := ih
    rw [itr_s, nEoS]
    generalize itr n (nEoS τ s) 0 = c at i1 i2 i3 ⊢
    by_cases q : τ 231 n = s
    · rw [if_pos q]
      refine ⟨by omega, fun p hp hs => ?_, ?_⟩
      · by_cases e : p = n
        · subst e; omega
        · have := i2 p (by omega) hs; omega
      · by_cases z : τ 233 n ≤ c
        · rw [show max c (τ 233 n) = c by omega]
          rcases i3 with i3 | ⟨p, p1, p2, p3⟩
          · exact Or.inl i3
          · exact Or.inr ⟨p, by omega, p2, p3⟩
        · exact Or.inr ⟨n, by omega, q, by omega⟩
    · rw [if_neg q]
      refine ⟨i1, fun p hp hs => ?_, ?_⟩
      · by_cases e : p = n
        · subst e; exact absurd hs q
        · exact i2 p (by omega) hs
      · rcases i3 with i3 | ⟨p, p1, p2, p3⟩
        · exact Or.inl i3
        · exact Or.inr ⟨p, by omega, p2, p3⟩
theorem RD.end_ (h : RD σ r m τ) {s : Int} (h0 : 0 ≤ s) (h1 : s < τ 224 4) : rAt σ (r + 16) 60 s = nEo τ s := by
  have hS := h.1.tw.sacks
  have hP0 := h.1.tw.p0
  obtain ⟨e1, e2, e3⟩ := h.1.b.2.2.2.2.2.2 s.toNat (by omega)
  rw [show ((s.toNat : Nat) : Int) = s by omega] at e2 e3
  obtain ⟨f1, f2, f3⟩ := nEo_pr τ s (τ 224 668).toNat
  rw [rAt_lt h0 (by omega)]
  change 0 ≤ nEo τ s at f1
  change ∀ p : Nat, p < (τ 224 668).toNat → τ 231 p = s → τ 233 p ≤ nEo τ s at f2
  change nEo τ s = 0 ∨ ∃ p : Nat, p < (τ 224 668).toNat ∧ τ 231 p = s ∧ τ 233 p = nEo τ s at f3
  apply Int.le_antisymm
  · rcases e3 with e3 | ⟨p, p1, p2, p3, p4⟩
    · omega
    · rw [← p4]; exact f2 p (by omega) p3
  · rcases f3 with f3 | ⟨p, p1, p2, p3⟩
    · omega
    · rw [← p3]; exact e2 p (by omega) (h.all (by omega)) p2
theorem RD.wait (h : RD σ r m τ) {s : Int} (h0 : 0 ≤ s) (h1 : s < τ 224 4) : uW σ r m s = nWa τ s := by
  unfold uW nWa
  rw [h.end_ h0 h1, (sk_at h.1.tw h.1.mill h0 h1).2.2.1]
theorem RD.late (h : RD σ r m τ) {s : Int} (h0 : 0 ≤ s) (h1 : s < τ 224 4) : uLate σ r m s = nLa τ s := by
  unfold uLate nLa
  rw [h.end_ h0 h1, (sk_at h.1.tw h.1.mill h0 h1).2.2.2.2.2.1]
  by_cases q : nOf τ s 5 ≠ -1 ∧ nOf τ s 5 < nEo τ s
  · rw [if_pos q, if_pos ⟨q.2, q.1⟩]
  · rw [if_neg q, if_neg (fun e => q ⟨e.2, e.1⟩)]
theorem itr_cg {α : Type} {f g : Nat → α → α} {x : α} : ∀ n : Nat, (∀ k y, k < n → f k y = g k y) → itr n f x = itr n g x := by
  intro n
  induction n with
  | zero => intro _; rfl
  | succ n ih => intro h; rw [itr_s, itr_s, ih (fun k y hk => h k y (by omega)), h n _ (by omega)]
theorem RD.cost (h : RD σ r m τ) : coF σ r m = nCo τ := by
  have hS := h.1.tw.sacks
  unfold coF nCo
  rw [h.1.mill.sacks]
  refine itr_cg _ (fun k y hk => ?_)
  rw [coS, ncS, h.wait (by omega) (by omega), (sk_at h.1.tw h.1.mill (s := ((k : Nat) : Int)) (by omega) (by omega)).2.2.2.2.1]
theorem RD.waits (h : RD σ r m τ) : awF σ r m = (nToL τ).1 := by
  have hS := h.1.tw.sacks
  unfold awF nToL
  rw [h.1.mill.sacks]
  have key : ∀ n : Nat, ((n : Nat) : Int) ≤ τ 224 4 → itr n (awS σ r m) 0 = (itr n (nToS τ) (0, 0, 0)).1 := by
    intro n
    induction n with
    | zero => intro _; rfl
    | succ n ih => intro hn; rw [itr_s, itr_s, awS, nToS, ih (by omega), h.wait (by omega) (by omega)]
  exact key _ (by omega)
theorem RD.lates (h : RD σ r m τ) : lsF σ r m = (nToL τ).2.1 := by
  have hS := h.1.tw.sacks
  unfold lsF nToL
  rw [h.1.mill.sacks]
  have key : ∀ n : Nat, ((n : Nat) : Int) ≤ τ 224 4 → itr n (lsS σ r m) 0 = (itr n (nToS τ) (0, 0, 0)).2.1 := by
    intro n
    induction n with
    | zero => intro _; rfl
    | succ n ih => intro hn; rw [itr_s, itr_s, lsS, nToS, ih (by omega), h.late (by omega) (by omega)]
  exact key _ (by omega)
theorem RD.last (h : RD σ r m τ) : leF σ r m = (nToL τ).2.2 := by
  have hS := h.1.tw.sacks
  unfold leF nToL
  rw [h.1.mill.sacks]
  have key : ∀ n : Nat, ((n : Nat) : Int) ≤ τ 224 4 → itr n (leS σ r) 0 = (itr n (nToS τ) (0, 0, 0)).2.2 := by
    intro n
    induction n with
    | zero => intro _; rfl
    | succ n ih => intro hn; rw [itr_s, itr_s, leS, nToS, ih (by omega), h.end_ (by omega) (by omega)]
  exact key _ (by omega)
theorem RD.home (h : RD σ r m τ) (q : Int) : loF σ r m q = nHmV τ q := by
  have hS := h.1.tw.sacks
  unfold loF nHmV
  rw [h.1.mill.sacks]
  refine itr_cg _ (fun k y hk => ?_)
  rw [loS, nHmS, h.end_ (by omega) (by omega), (sk_at h.1.tw h.1.mill (s := ((k : Nat) : Int)) (by omega) (by omega)).2.1]
theorem RD.taken (h : RD σ r m τ) {p : Nat} (hp : ((p : Nat) : Int) < τ 224 668) : rAt σ (r + 6) 60 ((p : Nat) : Int) = τ 239 p ∧ rAt σ (r + 8) 60 ((p : Nat) : Int) = τ 232 p ∧ rAt σ (r + 10) 60 ((p : Nat) : Int) = τ 233 p ∧ rAt σ (r + 12) 60 ((p : Nat) : Int) = τ 234 p := by
  have h60 := h.1.tw.p60
  have ha := h.all hp
  have hb := h.1.b.2.1 p hp ha
  rw [rAt_nt (by omega), rAt_nt (by omega), rAt_nt (by omega), rAt_nt (by omega), h.1.b.1 p hp, if_neg ha]
  exact ⟨rfl, hb.1, hb.2.1, hb.2.2.1⟩
theorem RD.row (h : RD σ r m τ) {p : Nat} (hp : ((p : Nat) : Int) < τ 224 668) : rAt σ (r + 14) 60 ((p : Nat) : Int) = τ 235 p := by
  have h60 := h.1.tw.p60
  rw [rAt_nt (by omega)]
  exact h.1.b.2.2.1 p (by rw [h.2.2]; exact hp)
theorem RD.begun (h : RD σ r m τ) (k : Int) : uPB σ r k = nOrV τ k := by
  have h60 := h.1.tw.p60
  have hP0 := h.1.tw.p0
  unfold uPB nOrV wth
  rw [h.1.a.1, wr_id (by unfold okI; omega)]
  by_cases q : 0 ≤ k ∧ k < τ 224 668
  · rw [if_pos q, if_pos (show 0 ≤ k ∧ k ≤ τ 224 668 - 1 by omega), if_neg (by decide)]
    have := h.row (p := k.toNat) (by omega)
    rwa [show ((k.toNat : Nat) : Int) = k by omega] at this
  · rw [if_neg q, if_neg (show ¬ (0 ≤ k ∧ k ≤ τ 224 668 - 1) by omega), if_pos rfl]
theorem RD.stand (h : RD σ r m τ) {p : Nat} (hp : ((p : Nat) : Int) < τ 224 668) (mi : Int) : uSt σ r m ((p : Nat) : Int) mi = if nOf τ (τ 231 p) 2 ≤ mi ∧ mi < τ 239 p then 1 else 0 := by
  unfold uSt
  rw [h.1.come (by omega) hp, (h.taken hp).1]
  rfl
theorem RD.stands (h : RD σ r m τ) (mi : Int) : spF σ r m mi = (saL τ mi (τ 224 668).toNat).1 ∧ swF σ r m mi = (saL τ mi (τ 224 668).toNat).2.1 ∧ bsF σ r mi = (saL τ mi (τ 224 668).toNat).2.2 := by
  have hP0 := h.1.tw.p0
  unfold spF swF bsF
  rw [h.1.a.1]
  have key : ∀ n : Nat, ((n : Nat) : Int) ≤ τ 224 668 → itr n (spS σ r m mi) 0 = (saL τ mi n).1 ∧ itr n (swS σ r m mi) 0 = (saL τ mi n).2.1 ∧ itr n (bsS σ r mi) 0 = (saL τ mi n).2.2 := by
    intro n
    induction n with
    | zero => intro _; exact ⟨rfl, rfl, rfl⟩
    | succ n ih =>
      intro hn
      obtain ⟨i1, i2, i3⟩ := ih (by omega)
      have e := h.stand (p := n) (by omega) mi
      have t := h.taken (p := n) (by omega)
      rw [itr_s, itr_s, itr_s, saL_s, spS, swS, bsS, saS, i1, i2, i3, e, t.1, t.2.2.1, (h.1.so (p := ((n : Nat) : Int)) (by omega) (by omega)).2]
      refine ⟨?_, ?_, rfl⟩
      · by_cases q : nOf τ (τ 231 n) 2 ≤ mi ∧ mi < τ 239 n
        · rw [if_pos q]; rfl
        · rw [if_neg q]; rfl
      · by_cases q : nOf τ (τ 231 n) 2 ≤ mi ∧ mi < τ 239 n
        · rw [if_pos q, if_pos q]; rfl
        · rw [if_neg q, if_neg q]; rfl
  exact key _ (by omega)
theorem RD.open_ (h : RD σ r m τ) (mi : Int) : osF σ r m mi = itr (τ 224 4).toNat (soS τ mi) 0 := by
  have hS := h.1.tw.sacks
  unfold osF
  rw [h.1.mill.sacks]
  refine itr_cg _ (fun k y hk => ?_)
  rw [osS, soS, h.end_ (by omega) (by omega), (sk_at h.1.tw h.1.mill (s := ((k : Nat) : Int)) (by omega) (by omega)).2.2.1]
/-- behind THE RUN of both -/
theorem RD.go (hmr : m + 22 ≤ r) (hT : TW (τ 224)) (hK : KW (τ 224)) (hM : MR σ m (τ 224)) : RD (go σ r m) r m (nRu τ) := by
  obtain ⟨h1, h2, h3, h4⟩ := go_alike hmr hT hK hM
  exact ⟨h1, h2, by rw [h4, h3]⟩
/-- the class counts pieces as the model is told -/
theorem mFirst_at (hT : TW (τ 224)) (hM : MR σ m (τ 224)) {s : Int} (h0 : 0 ≤ s) (h1 : s ≤ τ 224 4) : mFirst σ m s = tPre (τ 224) s.toNat := by
  have hS := hT.sacks
  unfold mFirst
  rw [hM.sacks, show min s (τ 224 4) = s by omega]
  have key : ∀ n : Nat, ((n : Nat) : Int) ≤ τ 224 4 → itr n (mFirstS σ m) 0 = tPre (τ 224) n := by
    intro n
    induction n with
    | zero => intro _; rfl
    | succ n ih =>
      intro hn
      have a := tPre_nn hT (a := n + 1) (by omega)
      have b := tPre_le hT (a := n + 1) (by omega)
      have c := hT.p60
      have e3 : tPre (τ 224) (n + 1) = tPre (τ 224) n + tM (τ 224) n := rfl
      have e4 : rAt σ (m + 19) 60 ((n : Nat) : Int) = tM (τ 224) n := by rw [rAt_nt (by omega)]; exact (hM.sk (s := n) (by omega)).2.2.2.2.2.2
      rw [itr_s, mFirstS, ih (by omega), e4, ← e3, wr_id (by unfold okI; omega)]
  exact key _ (by omega)
theorem mPcs_at (hT : TW (τ 224)) (hM : MR σ m (τ 224)) : mPcs σ m = τ 224 668 := by
  have hS := hT.sacks
  unfold mPcs
  rw [hM.sacks, mFirst_at hT hM hS.1 (Int.le_refl _), ← hT.sum]
theorem mBes_at (hT : TW (τ 224)) (hM : MR σ m (τ 224)) {s : Int} (h0 : 0 ≤ s) (h1 : s < τ 224 4) : mBes σ m s = Bs τ s := by
  have h60 := hT.p60
  have h2 := pt_rg hT h0 h1
  unfold mBes Bs
  rw [mPcs_at hT hM, (sk_at hT hM h0 h1).2.2.2.2.2.2, wr_id (by unfold okI; omega)]
end AL
