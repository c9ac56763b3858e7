/-! THE LAW, 4: alike at first; alike in one world -/
theorem Rel.fz' {σ τ σ' : Sg} (h : Rel σ τ) (f : ∀ a, a < 223 → ∀ j, σ' a j = σ a j) : Rel σ' τ := by
  obtain ⟨⟨a1, a2, a3, a4⟩, ⟨b1, b2, b3, b4⟩, ⟨c1, c2⟩, ⟨d1, d2⟩, e⟩ := h
  refine ⟨⟨a1.of (fun a h1 h2 j => f a (by omega) j), a2, a3, a4⟩, ⟨?_, b2, b3, fun i hi hi2 => ?_⟩, ⟨?_, ?_⟩, ⟨d1, fun i hi => ⟨fun q => ?_, fun q => ?_⟩⟩, fun i hi => ⟨?_, fun q => ?_⟩⟩
  · rw [f 1 (by omega)]; exact b1
  · rw [f 2 (by omega)]; exact b4 i hi hi2
  · rw [f 3 (by omega)]; exact c1
  · rw [f 3 (by omega)]; exact c2
  · rw [f _ (by omega)]; exact (d2 i hi).1 q
  · have t := (d2 i hi).2 q
    refine ⟨?_, ?_, fun k hk => ?_⟩
    · rw [f _ (by omega)]; exact t.1
    · rw [f _ (by omega)]; exact t.2.1
    · rw [f _ (by omega)]; exact t.2.2 k hk
  · rw [f _ (by omega)]; exact (e i hi).1
  · have t := (e i hi).2 q
    exact ⟨t.1.of (fun a h1 h2 j => f a (by omega) j), t.2⟩
theorem Rel.ft' {σ τ τ' : Sg} (h : Rel σ τ) (g : ∀ a, 223 ≤ a → a < 248 → ∀ j, τ' a j = τ a j) : Rel σ τ' := by
  refine h.fr (Fz.rf σ) ⟨fun j _ => g 224 (by omega) (by omega) j, fun j _ => g 223 (by omega) (by omega) j, fun a ha => funext fun j => g a (by omega) (by omega) j⟩
/-- all is nothing -/
def zO : Sg := fun _ _ => 0
/-- the world that the law begins with -/
def zW0 : Sg := zMD (zAll zO)
theorem zLW_at (σ : Sg) (w a j : Nat) : zLW σ w a j = if a = w ∧ j = 1 then 1 else if a = w + 2 ∧ j = 0 then 0 else σ a j := by
  unfold zLW lAdd
  rw [su_same, show ∀ x, rPut x (w + 2) 8 0 0 = su x (w + 2) 0 0 from fun x => by unfold rPut; rw [if_pos (by decide)]; rfl]
  rw [su_ne (su σ w 1 0) (o := w + 2) (i := w) _ (Or.inl (by omega)), su_same, wr_id (show okI (0 + 1) by unfold okI; omega)]
  unfold su
  by_cases q : a = w ∧ j = 1
  · rw [if_pos q, if_pos q]; rfl
  · rw [if_neg q, if_neg q, if_neg q]
theorem zA10_4 : zA10 zO 4 2 = 0 := by
  simp [zA10, zA9, zA8, zA7, zA6, zA5, zA4, zA3, zA2, zA1, zA0, zLW_at, su, zO]
theorem zA10_9 (k : Nat) : zA10 zO 9 k = 0 := by
  simp [zA10, zA9, zA8, zA7, zA6, zA5, zA4, zA3, zA2, zA1, zA0, zLW_at, su, zO]
theorem zAll_at (a j : Nat) : zAll zO a j = if a = 4 ∧ j = 2 then 1 else if a = 9 ∧ j = 0 then 1 else zA10 zO a j := by
  unfold zAll mStand
  rw [if_pos zA10_4]
  unfold mStone
  rw [zA10_4, show ∀ x, rPut x (4 + 5) 3 0 1 = su x 9 0 1 from fun x => by unfold rPut; rw [if_pos (by decide)]; rfl]
  rw [su_ne (zA10 zO) (o := 9) (i := 4) _ (Or.inl (by omega)), zA10_4, wr_id (show okI (0 + 1) by unfold okI; omega)]
  unfold su
  by_cases q : a = 4 ∧ j = 2
  · rw [if_pos q, if_pos q]; rfl
  · rw [if_neg q, if_neg q]
theorem zW0_z {a : Nat} (h : a < 223) (j : Nat) : zW0 a j = zAll zO a j := by
  unfold zW0 zMD
  rw [su_ne _ _ (Or.inl (by omega)), su_ne _ _ (Or.inl (by omega)), su_ne _ _ (Or.inl (by omega)), su_ne _ _ (Or.inl (by omega)), su_ne _ _ (Or.inl (by omega)), su_ne _ _ (Or.inl (by omega))]
theorem zAll_hi {a : Nat} (h : 205 ≤ a) (j : Nat) : zAll zO a j = 0 := by
  rw [zAll_at, if_neg (by omega), if_neg (by omega)]
  exact zA10_0 (fun _ _ _ => rfl) a h j
theorem zW0_n {a : Nat} (h : 223 ≤ a) (j : Nat) : zW0 a j = if a = 224 ∧ j = 8 then 1 else if a = 245 ∧ j < 4 then -1 else if a = 223 ∧ j = 16 then -1 else 0 := by
  unfold zW0 zMD
  have h0 := zAll_hi (show 205 ≤ a by omega) j
  unfold su
  rw [h0]
  by_cases q : a = 224 ∧ j = 8
  · rw [if_pos (show a = 224 ∧ j = Int.toNat 8 from q), if_pos q]
  · rw [if_neg q, if_neg (show ¬ (a = 224 ∧ j = Int.toNat 8) from q)]
    by_cases q2 : a = 245 ∧ j < 4
    · rw [if_pos q2]
      obtain ⟨e, hj⟩ := q2
      subst e
      have : j = 0 ∨ j = 1 ∨ j = 2 ∨ j = 3 := by omega
      rcases this with rfl | rfl | rfl | rfl <;> decide
    · rw [if_neg q2, if_neg (show ¬ (a = 245 ∧ j = Int.toNat 3) from fun e => q2 ⟨e.1, by have := e.2; omega⟩), if_neg (show ¬ (a = 245 ∧ j = Int.toNat 2) from fun e => q2 ⟨e.1, by have := e.2; omega⟩), if_neg (show ¬ (a = 245 ∧ j = Int.toNat 1) from fun e => q2 ⟨e.1, by have := e.2; omega⟩), if_neg (show ¬ (a = 245 ∧ j = Int.toNat 0) from fun e => q2 ⟨e.1, by have := e.2; omega⟩)]
theorem zW0_224 (j : Nat) : zW0 224 j = if j = 8 then 1 else 0 := by
  rw [zW0_n (by omega)]
  by_cases q : j = 8
  · rw [if_pos ⟨rfl, q⟩, if_pos q]
  · rw [if_neg (fun e => q e.2), if_neg q, if_neg (by omega), if_neg (by omega)]
theorem zW0_o {a : Nat} (h : 225 ≤ a) (h2 : a ≠ 245) (j : Nat) : zW0 a j = 0 := by
  rw [zW0_n (by omega), if_neg (by omega), if_neg (by omega), if_neg (by omega)]
theorem rel_0 : Rel zW0 zW0 := by
  have t : ∀ j, j ≠ 8 → zW0 224 j = 0 := fun j h => by rw [zW0_224, if_neg h]
  have t8 : zW0 224 8 = 1 := zW0_224 8
  have z : ∀ a, a < 223 → ∀ j, zW0 a j = if a = 4 ∧ j = 2 then 1 else if a = 9 ∧ j = 0 then 1 else zA10 zO a j := fun a h j => (zW0_z h j).trans (zAll_at a j)
  refine ⟨⟨⟨⟨?_, ?_, ?_, ?_, ?_⟩, ⟨?_, ?_, fun k hk => ?_⟩, fun k hk => ?_, fun s hs => ?_, fun s i hs hi => ?_⟩, ⟨?_, ?_, ?_, ?_, ?_, ?_, fun k hk => ?_, fun s hs => ?_, ⟨?_, ?_⟩, fun p hp => ?_⟩, fun k hk => ?_, ?_⟩, ⟨?_, ?_, ?_, fun i hi hi2 => ?_⟩, ⟨?_, ?_⟩, ⟨fun i hi => ?_, fun i hi => ⟨fun q => ?_, fun q => ?_⟩⟩, fun i hi => ⟨?_, fun q => ?_⟩⟩
  · rw [t 0 (by decide), z 4 (by decide)]; simp [zA10, zA9, zA8, zA7, zA6, zA5, zA4, zA3, zA2, zA1, zA0, zLW_at, su, zO]
  · rw [t 1 (by decide), z 4 (by decide)]; decide
  · rw [t 2 (by decide), z 4 (by decide)]; simp [zA10, zA9, zA8, zA7, zA6, zA5, zA4, zA3, zA2, zA1, zA0, zLW_at, su, zO]
  · rw [t 3 (by decide), z 4 (by decide)]; simp [zA10, zA9, zA8, zA7, zA6, zA5, zA4, zA3, zA2, zA1, zA0, zLW_at, su, zO]
  · rw [t 4 (by decide), z 4 (by decide)]; simp [zA10, zA9, zA8, zA7, zA6, zA5, zA4, zA3, zA2, zA1, zA0, zLW_at, su, zO]
  · rw [t8, z 5 (by decide)]; simp [zA10, zA9, zA8, zA7, zA6, zA5, zA4, zA3, zA2, zA1, zA0, zLW_at, su, zO]
  · rw [t 17 (by decide), z 5 (by decide)]; simp [zA10, zA9, zA8, zA7, zA6, zA5, zA4, zA3, zA2, zA1, zA0, zLW_at, su, zO]
  · rw [t8] at hk
    obtain rfl : k = 0 := by omega
    rw [t 9 (by decide), z 7 (by decide)]; simp [zA10, zA9, zA8, zA7, zA6, zA5, zA4, zA3, zA2, zA1, zA0, zLW_at, su, zO]
  · rw [t 1 (by decide)] at hk
    obtain rfl : k = 0 := by omega
    rw [if_pos (t 1 (by decide)), z 9 (by decide)]; simp
  · rw [t 4 (by decide)] at hs; omega
  · rw [t 4 (by decide)] at hs; omega
  · rw [t 1 (by decide)]; decide
  · rw [t 2 (by decide)]; decide
  · rw [t 3 (by decide)]; decide
  · rw [t 4 (by decide)]; decide
  · rw [t8]; decide
  · rw [t 17 (by decide)]; decide
  · rw [t 1 (by decide)] at hk; omega
  · rw [t 4 (by decide)] at hs; omega
  · rw [t 668 (by decide), t 4 (by decide)]; rfl
  · rw [t 668 (by decide)]; decide
  · rw [t 668 (by decide)] at hp; omega
  · rw [t8] at hk
    obtain rfl : k = 0 := by omega
    rw [t 9 (by decide)]; decide
  · rw [t 4 (by decide)]; decide
  · rw [zW0_n (a := 223) (by decide), z 1 (by decide)]; simp [zA10, zA9, zA8, zA7, zA6, zA5, zA4, zA3, zA2, zA1, zA0, zLW_at, su, zO]
  · rw [zW0_n (by decide)]; simp
  · rw [zW0_n (by decide)]; simp
  · rw [zW0_n (by decide)] at hi2; simp at hi2; omega
  · rw [zW0_n (a := 223) (by decide), z 3 (by decide)]; simp [zA10, zA9, zA8, zA7, zA6, zA5, zA4, zA3, zA2, zA1, zA0, zLW_at, su, zO]
  · rw [zW0_n (a := 223) (by decide), z 3 (by decide)]; simp [zA10, zA9, zA8, zA7, zA6, zA5, zA4, zA3, zA2, zA1, zA0, zLW_at, su, zO]
  · rw [zW0_n (by decide), if_neg (by omega), if_pos ⟨rfl, hi⟩, zW0_o (by decide) (by decide)]; decide
  · have : i = 0 ∨ i = 1 ∨ i = 2 ∨ i = 3 := by omega
    rcases this with rfl | rfl | rfl | rfl
    · rw [z _ (by decide)]; simp [zA10, zA9, zA8, zA7, zA6, zA5, zA4, zA3, zA2, zA1, zA0, zLW_at, su, zO]
    · rw [z _ (by decide)]; simp [zA10, zA9, zA8, zA7, zA6, zA5, zA4, zA3, zA2, zA1, zA0, zLW_at, su, zO]
    · rw [z _ (by decide)]; simp [zA10, zA9, zA8, zA7, zA6, zA5, zA4, zA3, zA2, zA1, zA0, zLW_at, su, zO]
    · rw [z _ (by decide)]; simp [zA10, zA9, zA8, zA7, zA6, zA5, zA4, zA3, zA2, zA1, zA0, zLW_at, su, zO]
  · exact absurd (by rw [zW0_n (by decide), if_neg (by omega), if_pos ⟨rfl, hi⟩]) q
  · rw [zW0_o (a := 228) (by decide) (by decide)]
    have : i = 0 ∨ i = 1 ∨ i = 2 := by omega
    rcases this with rfl | rfl | rfl
    · rw [z _ (by decide)]; simp [zA10, zA9, zA8, zA7, zA6, zA5, zA4, zA3, zA2, zA1, zA0, zLW_at, su, zO]
    · rw [z _ (by decide)]; simp [zA10, zA9, zA8, zA7, zA6, zA5, zA4, zA3, zA2, zA1, zA0, zLW_at, su, zO]
    · rw [z _ (by decide)]; simp [zA10, zA9, zA8, zA7, zA6, zA5, zA4, zA3, zA2, zA1, zA0, zLW_at, su, zO]
  · exact absurd (zW0_o (by decide) (by decide) _) q
