/-! THE LAYER, 3: rows for locals, stack, arithmetic, branches -/
def gw_dc (cc : ByteArray) (pc : Nat) (i : Instr) (len pc' : Nat) : Prop := decode cc pc = .ok (i, len) ∧ pc' = pc + len
def gw_c1 : AV → Bool
  | .inr (.inl _) => false
  | _ => true
theorem gw_c1_cat {G : Gl} {M : Mem} {v : AV} (h : gw_c1 v = true) : (gw_cv G M v).category = 1 := by
  rw [gw_cat]
  rcases v with z | z | r | k
  · rfl
  · cases h
  · rfl
  · rfl
theorem gw_c2_cat {G : Gl} {M : Mem} {z : Int} : (gw_cv G M (vJ z)).category = 2 := rfl
/-- the place i holds no long -/
def gw_nl (ls : List (Option AV)) (i : Nat) : Bool := match ls[i]? with
  | some (some (.inr (.inl _))) => false
  | _ => true
/-- storing at i doesn't cut a long in two -/
def gw_st (ls : List (Option AV)) (i : Nat) : Bool := i == 0 || gw_nl ls (i - 1)
def gw_ll (G : Gl) (M : Mem) (ls : List (Option AV)) : List (Nat × Value) := (List.range ls.length).filterMap fun i => (ls.getD i none).map fun v => (i, gw_cv G M v)
theorem gw_ll_mem {G : Gl} {M : Mem} {ls : List (Option AV)} {i : Nat} {v : AV} (h : ls[i]? = some (some v)) : (i, gw_cv G M v) ∈ gw_ll G M ls := by
  refine List.mem_filterMap.mpr ⟨i, List.mem_range.mpr (List.getElem?_eq_some_iff.mp h).1, ?_⟩
  rw [List.getD_eq_getElem?_getD, h]; rfl
theorem gw_ll_of {G : Gl} {M : Mem} {ls : List (Option AV)} {i : Nat} {w : Value} (h : (i, w) ∈ gw_ll G M ls) : ∃ v, ls[i]? = some (some v) ∧ w = gw_cv G M v := by
  obtain ⟨j, hj, hk⟩ := List.mem_filterMap.mp h
  have hl := List.mem_range.mp hj
  cases hv : ls.getD j none with
  | none => rw [hv] at hk; cases hk
  | some v =>
    rw [hv] at hk
    simp only [Option.map_some, Option.some.injEq, Prod.mk.injEq] at hk
    obtain ⟨rfl, rfl⟩ := hk
    rw [List.getD_eq_getElem?_getD, List.getElem?_eq_getElem hl] at hv
    exact ⟨v, by rw [List.getElem?_eq_getElem hl]; exact congrArg some hv, rfl⟩
theorem gw_has {G : Gl} {M : Mem} {lc : Array Slot} {nL : Nat} {ls : List (Option AV)} (h : gw_LH G M lc nL ls) : lv_has lc nL (gw_ll G M ls) :=
  ⟨h.1, h.2.1, fun q hq => by obtain ⟨v, h1, h2⟩ := gw_ll_of (i := q.1) (w := q.2) hq; rw [h2]; exact (h.2.2 _ _ h1).2⟩
theorem gw_stored {G : Gl} {M : Mem} {lc lc' : Array Slot} {nL : Nat} {ls : List (Option AV)} {i : Nat} {v : AV} {L : List (Nat × Value)} (h : gw_LH G M lc nL ls) (hv : gw_ok M.1 v) (hs : gw_st ls i = true)
    (hL : ∀ (j : Nat) (x : AV), j ≠ i → ls[j]? = some (some x) → (j + 1 = i → gw_c1 x = true) → (j, gw_cv G M x) ∈ L) (hi : (i, gw_cv G M v) ∈ L) (h' : lv_has lc' nL L) : gw_LH G M lc' nL (ls.set i (some v)) := by
  refine ⟨h'.1, h'.2.1, fun j x hx => ?_⟩
  rw [List.getElem?_set] at hx
  by_cases q : i = j
  · subst q
    rw [if_pos rfl] at hx
    split at hx
    · cases hx
      exact ⟨hv, h'.2.2 _ hi⟩
    · cases hx
  · rw [if_neg q] at hx
    refine ⟨(h.2.2 j x hx).1, h'.2.2 (j, gw_cv G M x) (hL j x (fun e => q e.symm) hx (fun e => ?_))⟩
    subst e
    simp only [gw_st, gw_nl, Nat.add_sub_cancel, hx, Bool.or_eq_true, beq_iff_eq] at hs
    rcases hs with hs | hs
    · omega
    · rcases x with z | z | r | k
      · rfl
      · cases hs
      · rfl
      · rfl
section GW
variable {X : Cx} {F : Fr} {G : Gl} {Z : State → Prop} {kc ks : Nat} {M : Mem} {σ : Sg} {pc pc' : Nat} {ls : List (Option AV)} {st : List AV}
theorem gw_cons {n : Nat} {v : AV} (hv : gw_ok n v) (ho : ∀ v ∈ st, gw_ok n v) : ∀ w ∈ v :: st, gw_ok n w := fun w hw => (List.mem_cons.mp hw).elim (fun e => by rw [e]; exact hv) (ho w)
theorem gw_hd {n : Nat} {v : AV} (ho : ∀ w ∈ v :: st, gw_ok n w) : gw_ok n v := ho v List.mem_cons_self
theorem gw_tl {n : Nat} {v : AV} (ho : ∀ w ∈ v :: st, gw_ok n w) : ∀ w ∈ st, gw_ok n w := fun w hw => ho w (List.mem_cons_of_mem _ hw)
theorem g_iconst {z : Int} (fx : gw_FX X F G) (d : gw_dc F.2.1 pc (.iconst z) 1 pc') (hz : okI z) (k : gw_W X F G Z kc ks M σ pc' ls (vI z :: st)) : gw_W X F G Z kc ks M σ pc ls st := by
  obtain ⟨hd, rfl⟩ := d
  intro H locs lc hR hS hL ho
  exact lv_iconst fx.exec fx.code hd rfl (k H locs lc hR hS hL (gw_cons hz ho))
theorem g_bipush {z : Int} (fx : gw_FX X F G) (d : gw_dc F.2.1 pc (.bipush z) 2 pc') (hz : -128 ≤ z ∧ z ≤ 127) (k : gw_W X F G Z kc ks M σ pc' ls (vI z :: st)) : gw_W X F G Z kc ks M σ pc ls st := by
  obtain ⟨hd, rfl⟩ := d
  intro H locs lc hR hS hL ho
  refine lv_bipush fx.exec fx.code hd ?_ (k H locs lc hR hS hL (gw_cons (show okI z by unfold okI; omega) ho))
  rw [← Int32.toInt_inj, Int8.toInt_toInt32, toI_of (show okI z by unfold okI; omega), Int8.toInt_ofInt, Int.bmod_eq_of_le (by have q : (Int8.size : Int) = 256 := rfl; omega) (by have q : (Int8.size : Int) = 256 := rfl; omega)]
theorem g_sipush {z : Int} (fx : gw_FX X F G) (d : gw_dc F.2.1 pc (.sipush z) 3 pc') (hz : -32768 ≤ z ∧ z ≤ 32767) (k : gw_W X F G Z kc ks M σ pc' ls (vI z :: st)) : gw_W X F G Z kc ks M σ pc ls st := by
  obtain ⟨hd, rfl⟩ := d
  intro H locs lc hR hS hL ho
  refine lv_sipush fx.exec fx.code hd ?_ (k H locs lc hR hS hL (gw_cons (show okI z by unfold okI; omega) ho))
  rw [← Int32.toInt_inj, Int16.toInt_toInt32, toI_of (show okI z by unfold okI; omega), Int16.toInt_ofInt, Int.bmod_eq_of_le (by have q : (Int16.size : Int) = 65536 := rfl; omega) (by have q : (Int16.size : Int) = 65536 := rfl; omega)]
theorem g_lconst {n : Fin 2} (fx : gw_FX X F G) (d : gw_dc F.2.1 pc (.lconst n) 1 pc') (k : gw_W X F G Z kc ks M σ pc' ls (vJ (n : Nat) :: st)) : gw_W X F G Z kc ks M σ pc ls st := by
  obtain ⟨hd, rfl⟩ := d
  intro H locs lc hR hS hL ho
  refine lv_lconst fx.exec fx.code hd ?_ (k H locs lc hR hS hL (gw_cons (show okJ (n : Nat) by unfold okJ; omega) ho))
  rfl
theorem g_ldcI {z : Int} {idx : Nat} (fx : gw_FX X F G) (d : gw_dc F.2.1 pc (.ldc idx) 2 pc') (hw : Cond.constant F.1 idx (Int32.ofInt z) ∈ wsG) (hz : okI z) (k : gw_W X F G Z kc ks M σ pc' ls (vI z :: st)) : gw_W X F G Z kc ks M σ pc ls st := by
  obtain ⟨hd, rfl⟩ := d
  intro H locs lc hR hS hL ho
  exact lv_ldc fx.exec fx.code fx.own (fx.ts _ hw) hd (k H locs lc hR hS hL (gw_cons hz ho))
theorem g_ldcL {z : Int} {idx : Nat} (fx : gw_FX X F G) (d : gw_dc F.2.1 pc (.ldc2_w idx) 3 pc') (hw : Cond.constantLong F.1 idx (Int64.ofInt z) ∈ wsG) (hz : okJ z) (k : gw_W X F G Z kc ks M σ pc' ls (vJ z :: st)) : gw_W X F G Z kc ks M σ pc ls st := by
  obtain ⟨hd, rfl⟩ := d
  intro H locs lc hR hS hL ho
  exact lv_ldc2 fx.exec fx.code fx.own (fx.ts _ hw) hd (k H locs lc hR hS hL (gw_cons hz ho))
theorem g_iload {i : Nat} {z : Int} (fx : gw_FX X F G) (d : gw_dc F.2.1 pc (.iload i) 2 pc') (hl : ls[i]? = some (some (vI z))) (k : gw_W X F G Z kc ks M σ pc' ls (vI z :: st)) : gw_W X F G Z kc ks M σ pc ls st := by
  obtain ⟨hd, rfl⟩ := d
  intro H locs lc hR hS hL ho
  exact lv_iload fx.exec fx.code hd (hL.2.2 _ _ hl).2 (k H locs lc hR hS hL (gw_cons (hL.2.2 _ _ hl).1 ho))
theorem g_iload_n {n : Fin 4} {z : Int} (fx : gw_FX X F G) (d : gw_dc F.2.1 pc (.iload_n n) 1 pc') (hl : ls[(n : Nat)]? = some (some (vI z))) (k : gw_W X F G Z kc ks M σ pc' ls (vI z :: st)) : gw_W X F G Z kc ks M σ pc ls st := by
  obtain ⟨hd, rfl⟩ := d
  intro H locs lc hR hS hL ho
  exact lv_iload_n fx.exec fx.code hd rfl (hL.2.2 _ _ hl).2 (k H locs lc hR hS hL (gw_cons (hL.2.2 _ _ hl).1 ho))
theorem g_lload {i : Nat} {z : Int} (fx : gw_FX X F G) (d : gw_dc F.2.1 pc (.lload i) 2 pc') (hl : ls[i]? = some (some (vJ z))) (k : gw_W X F G Z kc ks M σ pc' ls (vJ z :: st)) : gw_W X F G Z kc ks M σ pc ls st := by
  obtain ⟨hd, rfl⟩ := d
  intro H locs lc hR hS hL ho
  exact lv_lload fx.exec fx.code hd (hL.2.2 _ _ hl).2 (k H locs lc hR hS hL (gw_cons (hL.2.2 _ _ hl).1 ho))
theorem g_lload_n {n : Fin 4} {z : Int} (fx : gw_FX X F G) (d : gw_dc F.2.1 pc (.lload_n n) 1 pc') (hl : ls[(n : Nat)]? = some (some (vJ z))) (k : gw_W X F G Z kc ks M σ pc' ls (vJ z :: st)) : gw_W X F G Z kc ks M σ pc ls st := by
  obtain ⟨hd, rfl⟩ := d
  intro H locs lc hR hS hL ho
  exact lv_lload_n fx.exec fx.code hd rfl (hL.2.2 _ _ hl).2 (k H locs lc hR hS hL (gw_cons (hL.2.2 _ _ hl).1 ho))
theorem g_aload {i : Nat} {o : Nat} (fx : gw_FX X F G) (d : gw_dc F.2.1 pc (.aload i) 2 pc') (hl : ls[i]? = some (some (vR (some o)))) (k : gw_W X F G Z kc ks M σ pc' ls (vR (some o) :: st)) : gw_W X F G Z kc ks M σ pc ls st := by
  obtain ⟨hd, rfl⟩ := d
  intro H locs lc hR hS hL ho
  exact lv_aload fx.exec fx.code hd (hL.2.2 _ _ hl).2 (k H locs lc hR hS hL (gw_cons (hL.2.2 _ _ hl).1 ho))
theorem g_aload_n {n : Fin 4} {o : Nat} (fx : gw_FX X F G) (d : gw_dc F.2.1 pc (.aload_n n) 1 pc') (hl : ls[(n : Nat)]? = some (some (vR (some o)))) (k : gw_W X F G Z kc ks M σ pc' ls (vR (some o) :: st)) : gw_W X F G Z kc ks M σ pc ls st := by
  obtain ⟨hd, rfl⟩ := d
  intro H locs lc hR hS hL ho
  exact lv_aload_n fx.exec fx.code hd rfl (hL.2.2 _ _ hl).2 (k H locs lc hR hS hL (gw_cons (hL.2.2 _ _ hl).1 ho))
theorem g_xload {i : Nat} {j : Nat} (fx : gw_FX X F G) (d : gw_dc F.2.1 pc (.aload i) 2 pc') (hl : ls[i]? = some (some (vX j))) (k : gw_W X F G Z kc ks M σ pc' ls (vX j :: st)) : gw_W X F G Z kc ks M σ pc ls st := by
  obtain ⟨hd, rfl⟩ := d
  intro H locs lc hR hS hL ho
  exact lv_aload fx.exec fx.code hd (hL.2.2 _ _ hl).2 (k H locs lc hR hS hL (gw_cons (hL.2.2 _ _ hl).1 ho))
theorem g_xload_n {n : Fin 4} {j : Nat} (fx : gw_FX X F G) (d : gw_dc F.2.1 pc (.aload_n n) 1 pc') (hl : ls[(n : Nat)]? = some (some (vX j))) (k : gw_W X F G Z kc ks M σ pc' ls (vX j :: st)) : gw_W X F G Z kc ks M σ pc ls st := by
  obtain ⟨hd, rfl⟩ := d
  intro H locs lc hR hS hL ho
  exact lv_aload_n fx.exec fx.code hd rfl (hL.2.2 _ _ hl).2 (k H locs lc hR hS hL (gw_cons (hL.2.2 _ _ hl).1 ho))
theorem gw_filt {G : Gl} {M : Mem} {ls : List (Option AV)} {i : Nat} {w : Value} (j : Nat) (x : AV) (hj : j ≠ i) (hx : ls[j]? = some (some x)) (h1 : j + 1 = i → gw_c1 x = true) : (j, gw_cv G M x) ∈ (i, w) :: (gw_ll G M ls).filter (fun q => !(q.1 == i) && !(q.1 + 1 == i && q.2.category == 2)) := by
  refine List.mem_cons_of_mem _ (List.mem_filter.mpr ⟨gw_ll_mem hx, ?_⟩)
  have e1 : (j == i) = false := by simpa using hj
  by_cases e : j + 1 = i
  · have := gw_c1_cat (G := G) (M := M) (h1 e)
    simp [e1, this]
  · have e2 : (j + 1 == i) = false := by simpa using e
    simp [e1, e2]
theorem g_istore {i : Nat} {z : Int} {ls' : List (Option AV)} (fx : gw_FX X F G) (d : gw_dc F.2.1 pc (.istore i) 2 pc') (hi : i < F.2.2.1) (hs : gw_st ls i = true) (hl : ls.set i (some (vI z)) = ls') (k : gw_W X F G Z kc ks M σ pc' ls' st) : gw_W X F G Z kc ks M σ pc ls (vI z :: st) := by
  obtain ⟨hd, rfl⟩ := d
  subst hl
  intro H locs lc hR hS hL ho
  exact lv_istore fx.exec fx.code hd (gw_has hL) hi rfl (fun lc' h' => k H locs lc' hR hS (gw_stored hL (gw_hd ho) hs (fun j x hj hx h1 => gw_filt j x hj hx h1) List.mem_cons_self h') (gw_tl ho))
theorem g_istore_n {n : Fin 4} {z : Int} {ls' : List (Option AV)} (fx : gw_FX X F G) (d : gw_dc F.2.1 pc (.istore_n n) 1 pc') (hi : (n : Nat) < F.2.2.1) (hs : gw_st ls n = true) (hl : ls.set n (some (vI z)) = ls') (k : gw_W X F G Z kc ks M σ pc' ls' st) : gw_W X F G Z kc ks M σ pc ls (vI z :: st) := by
  obtain ⟨hd, rfl⟩ := d
  subst hl
  intro H locs lc hR hS hL ho
  exact lv_istore_n fx.exec fx.code hd rfl (gw_has hL) hi rfl (fun lc' h' => k H locs lc' hR hS (gw_stored hL (gw_hd ho) hs (fun j x hj hx h1 => gw_filt j x hj hx h1) List.mem_cons_self h') (gw_tl ho))
theorem g_astore {i o : Nat} {ls' : List (Option AV)} (fx : gw_FX X F G) (d : gw_dc F.2.1 pc (.astore i) 2 pc') (hi : i < F.2.2.1) (hs : gw_st ls i = true) (hl : ls.set i (some (vR (some o))) = ls') (k : gw_W X F G Z kc ks M σ pc' ls' st) : gw_W X F G Z kc ks M σ pc ls (vR (some o) :: st) := by
  obtain ⟨hd, rfl⟩ := d
  subst hl
  intro H locs lc hR hS hL ho
  exact lv_astore fx.exec fx.code hd (gw_has hL) hi rfl (fun lc' h' => k H locs lc' hR hS (gw_stored hL (gw_hd ho) hs (fun j x hj hx h1 => gw_filt j x hj hx h1) List.mem_cons_self h') (gw_tl ho))
theorem g_astore_n {n : Fin 4} {o : Nat} {ls' : List (Option AV)} (fx : gw_FX X F G) (d : gw_dc F.2.1 pc (.astore_n n) 1 pc') (hi : (n : Nat) < F.2.2.1) (hs : gw_st ls n = true) (hl : ls.set n (some (vR (some o))) = ls') (k : gw_W X F G Z kc ks M σ pc' ls' st) : gw_W X F G Z kc ks M σ pc ls (vR (some o) :: st) := by
  obtain ⟨hd, rfl⟩ := d
  subst hl
  intro H locs lc hR hS hL ho
  exact lv_astore_n fx.exec fx.code hd rfl (gw_has hL) hi rfl (fun lc' h' => k H locs lc' hR hS (gw_stored hL (gw_hd ho) hs (fun j x hj hx h1 => gw_filt j x hj hx h1) List.mem_cons_self h') (gw_tl ho))
theorem g_iinc {i : Nat} {n z : Int} {ls' : List (Option AV)} (fx : gw_FX X F G) (d : gw_dc F.2.1 pc (.iinc i n) 3 pc') (hi : i < F.2.2.1) (hz : ls[i]? = some (some (vI z))) (hs : gw_st ls i = true) (hl : ls.set i (some (vI (wr (z + n)))) = ls') (k : gw_W X F G Z kc ks M σ pc' ls' st) : gw_W X F G Z kc ks M σ pc ls st := by
  obtain ⟨hd, rfl⟩ := d
  subst hl
  intro H locs lc hR hS hL ho
  obtain ⟨q, hq⟩ := List.getElem?_of_mem (gw_ll_mem (G := G) (M := M) hz)
  exact lv_iinc (v := Int32.ofInt (wr (z + n))) fx.exec fx.code hd (gw_has hL) hq (by rw [wr_of, ← Int32.ofInt_add]) hi rfl (fun lc' h' => k H locs lc' hR hS (gw_stored hL (v := vI (wr (z + n))) (wr_ok _) hs (fun j x hj hx h1 => gw_filt j x hj hx h1) List.mem_cons_self h') ho)
theorem g_dup {v : AV} (fx : gw_FX X F G) (d : gw_dc F.2.1 pc .dup 1 pc') (hv : gw_c1 v = true) (k : gw_W X F G Z kc ks M σ pc' ls (v :: v :: st)) : gw_W X F G Z kc ks M σ pc ls (v :: st) := by
  obtain ⟨hd, rfl⟩ := d
  intro H locs lc hR hS hL ho
  exact lv_dup fx.exec fx.code hd (gw_c1_cat hv) (k H locs lc hR hS hL (gw_cons (gw_hd ho) ho))
theorem g_dup2 {v w : AV} (fx : gw_FX X F G) (d : gw_dc F.2.1 pc .dup2 1 pc') (hv : gw_c1 v = true) (hw : gw_c1 w = true) (k : gw_W X F G Z kc ks M σ pc' ls (v :: w :: v :: w :: st)) : gw_W X F G Z kc ks M σ pc ls (v :: w :: st) := by
  obtain ⟨hd, rfl⟩ := d
  intro H locs lc hR hS hL ho
  exact lv_dup2_11 fx.exec fx.code hd (gw_c1_cat hv) (gw_c1_cat hw) (k H locs lc hR hS hL (gw_cons (gw_hd ho) (gw_cons (gw_hd (gw_tl ho)) ho)))
theorem g_pop {v : AV} (fx : gw_FX X F G) (d : gw_dc F.2.1 pc .pop 1 pc') (hv : gw_c1 v = true) (k : gw_W X F G Z kc ks M σ pc' ls st) : gw_W X F G Z kc ks M σ pc ls (v :: st) := by
  obtain ⟨hd, rfl⟩ := d
  intro H locs lc hR hS hL ho
  exact lv_pop fx.exec fx.code hd (gw_c1_cat hv) (k H locs lc hR hS hL (gw_tl ho))
theorem g_pop2 {z : Int} (fx : gw_FX X F G) (d : gw_dc F.2.1 pc .pop2 1 pc') (k : gw_W X F G Z kc ks M σ pc' ls st) : gw_W X F G Z kc ks M σ pc ls (vJ z :: st) := by
  obtain ⟨hd, rfl⟩ := d
  intro H locs lc hR hS hL ho
  exact lv_pop2_2 fx.exec fx.code hd gw_c2_cat (k H locs lc hR hS hL (gw_tl ho))
theorem gw_intoI {n : Nat} (z : Int) (ho : ∀ v ∈ st, gw_ok n v) : ∀ w ∈ vI (wr z) :: st, gw_ok n w := gw_cons (wr_ok z) ho
theorem g_iadd {x y : Int} (fx : gw_FX X F G) (d : gw_dc F.2.1 pc .iadd 1 pc') (k : gw_W X F G Z kc ks M σ pc' ls (vI (wr (x + y)) :: st)) : gw_W X F G Z kc ks M σ pc ls (vI y :: vI x :: st) := by
  obtain ⟨hd, rfl⟩ := d
  intro H locs lc hR hS hL ho
  have h := k H locs lc hR hS hL (gw_intoI _ (gw_tl (gw_tl ho)))
  simp only [List.map_cons, gw_cv, wr_of, Int32.ofInt_add] at h
  exact lv_iadd fx.exec fx.code hd h
theorem g_isub {x y : Int} (fx : gw_FX X F G) (d : gw_dc F.2.1 pc .isub 1 pc') (k : gw_W X F G Z kc ks M σ pc' ls (vI (wr (x - y)) :: st)) : gw_W X F G Z kc ks M σ pc ls (vI y :: vI x :: st) := by
  obtain ⟨hd, rfl⟩ := d
  intro H locs lc hR hS hL ho
  have h := k H locs lc hR hS hL (gw_intoI _ (gw_tl (gw_tl ho)))
  simp only [List.map_cons, gw_cv, wr_of, Int32.ofInt_sub] at h
  exact lv_isub fx.exec fx.code hd h
theorem g_imul {x y : Int} (fx : gw_FX X F G) (d : gw_dc F.2.1 pc .imul 1 pc') (k : gw_W X F G Z kc ks M σ pc' ls (vI (wr (x * y)) :: st)) : gw_W X F G Z kc ks M σ pc ls (vI y :: vI x :: st) := by
  obtain ⟨hd, rfl⟩ := d
  intro H locs lc hR hS hL ho
  have h := k H locs lc hR hS hL (gw_intoI _ (gw_tl (gw_tl ho)))
  simp only [List.map_cons, gw_cv, wr_of, Int32.ofInt_mul] at h
  exact lv_imul fx.exec fx.code hd h
theorem g_ineg {x : Int} (fx : gw_FX X F G) (d : gw_dc F.2.1 pc .ineg 1 pc') (k : gw_W X F G Z kc ks M σ pc' ls (vI (wr (-x)) :: st)) : gw_W X F G Z kc ks M σ pc ls (vI x :: st) := by
  obtain ⟨hd, rfl⟩ := d
  intro H locs lc hR hS hL ho
  have h := k H locs lc hR hS hL (gw_intoI _ (gw_tl ho))
  simp only [List.map_cons, gw_cv, wr_of, Int32.ofInt_neg] at h
  exact lv_ineg fx.exec fx.code hd h
theorem g_idiv {x y : Int} (fx : gw_FX X F G) (d : gw_dc F.2.1 pc .idiv 1 pc') (hy : 0 < y) (k : gw_W X F G Z kc ks M σ pc' ls (vI (wr (x.tdiv y)) :: st)) : gw_W X F G Z kc ks M σ pc ls (vI y :: vI x :: st) := by
  obtain ⟨hd, rfl⟩ := d
  intro H locs lc hR hS hL ho
  have oy : okI y := gw_hd ho
  have ox : okI x := gw_hd (gw_tl ho)
  have h := k H locs lc hR hS hL (gw_intoI _ (gw_tl (gw_tl ho)))
  have e : Int32.ofInt (wr (x.tdiv y)) = Int32.ofInt x / Int32.ofInt y := by
    rw [wr_of, ← Int32.toInt_inj, Int32.toInt_ofInt, Int32.toInt_div, toI_of ox, toI_of oy]
  simp only [List.map_cons, gw_cv, e] at h
  exact lv_idiv fx.exec fx.code hd (by rw [i_0, i_eq oy ok_0]; omega) h
theorem g_irem {x y : Int} (fx : gw_FX X F G) (d : gw_dc F.2.1 pc .irem 1 pc') (hy : 0 < y) (k : gw_W X F G Z kc ks M σ pc' ls (vI (wr (x.tmod y)) :: st)) : gw_W X F G Z kc ks M σ pc ls (vI y :: vI x :: st) := by
  obtain ⟨hd, rfl⟩ := d
  intro H locs lc hR hS hL ho
  have oy : okI y := gw_hd ho
  have ox : okI x := gw_hd (gw_tl ho)
  have h := k H locs lc hR hS hL (gw_intoI _ (gw_tl (gw_tl ho)))
  have e : Int32.ofInt (wr (x.tmod y)) = Int32.ofInt x - Int32.ofInt x / Int32.ofInt y * Int32.ofInt y := by
    rw [wr_of, ← Int32.toInt_inj, rem_toInt, toI_of ox, toI_of oy]
    have t := tmod_bounds (a := x) hy
    unfold okI at oy
    exact toI_of (by unfold okI; omega)
  simp only [List.map_cons, gw_cv, e] at h
  exact lv_irem fx.exec fx.code hd (by rw [i_0, i_eq oy ok_0]; omega) h
theorem g_goto {off : Int} {tgt : Nat} (fx : gw_FX X F G) (d : gw_dc F.2.1 pc (.goto off) 3 pc') (ht : (pc : Int) + off = (tgt : Int)) (k : gw_W X F G Z kc ks M σ tgt ls st) : gw_W X F G Z kc ks M σ pc ls st := by
  obtain ⟨hd, rfl⟩ := d
  intro H locs lc hR hS hL ho
  exact lv_goto fx.exec fx.code hd ht (k H locs lc hR hS hL ho)
theorem g_icmp_ge {x y : Int} {off : Int} {tgt : Nat} (fx : gw_FX X F G) (d : gw_dc F.2.1 pc (.if_icmp .ge off) 3 pc') (ht : (pc : Int) + off = (tgt : Int)) (kt : y ≤ x → gw_W X F G Z kc ks M σ tgt ls st) (kf : x < y → gw_W X F G Z kc ks M σ pc' ls st) : gw_W X F G Z kc ks M σ pc ls (vI y :: vI x :: st) := by
  obtain ⟨hd, rfl⟩ := d
  intro H locs lc hR hS hL ho
  have oy : okI y := gw_hd ho
  have ox : okI x := gw_hd (gw_tl ho)
  exact lv_icmp_ge fx.exec fx.code hd ht (fun h => kt ((i_le oy ox).mp h) H locs lc hR hS hL (gw_tl (gw_tl ho))) (fun h => kf ((by have := mt (i_le oy ox).mpr h; omega)) H locs lc hR hS hL (gw_tl (gw_tl ho)))
theorem g_if_ge {x : Int} {off : Int} {tgt : Nat} (fx : gw_FX X F G) (d : gw_dc F.2.1 pc (.ifCond .ge off) 3 pc') (ht : (pc : Int) + off = (tgt : Int)) (kt : 0 ≤ x → gw_W X F G Z kc ks M σ tgt ls st) (kf : x < 0 → gw_W X F G Z kc ks M σ pc' ls st) : gw_W X F G Z kc ks M σ pc ls (vI x :: st) := by
  obtain ⟨hd, rfl⟩ := d
  intro H locs lc hR hS hL ho
  have ox : okI x := gw_hd ho
  have oy : okI 0 := ok_0
  exact lv_if_ge fx.exec fx.code hd ht (fun h => kt ((i_le oy ox).mp h) H locs lc hR hS hL (gw_tl ho)) (fun h => kf ((by have := mt (i_le oy ox).mpr h; omega)) H locs lc hR hS hL (gw_tl ho))
theorem g_icmp_lt {x y : Int} {off : Int} {tgt : Nat} (fx : gw_FX X F G) (d : gw_dc F.2.1 pc (.if_icmp .lt off) 3 pc') (ht : (pc : Int) + off = (tgt : Int)) (kt : x < y → gw_W X F G Z kc ks M σ tgt ls st) (kf : y ≤ x → gw_W X F G Z kc ks M σ pc' ls st) : gw_W X F G Z kc ks M σ pc ls (vI y :: vI x :: st) := by
  obtain ⟨hd, rfl⟩ := d
  intro H locs lc hR hS hL ho
  have oy : okI y := gw_hd ho
  have ox : okI x := gw_hd (gw_tl ho)
  exact lv_icmp_lt fx.exec fx.code hd ht (fun h => kt ((i_lt ox oy).mp h) H locs lc hR hS hL (gw_tl (gw_tl ho))) (fun h => kf ((by have := mt (i_lt ox oy).mpr h; omega)) H locs lc hR hS hL (gw_tl (gw_tl ho)))
theorem g_if_lt {x : Int} {off : Int} {tgt : Nat} (fx : gw_FX X F G) (d : gw_dc F.2.1 pc (.ifCond .lt off) 3 pc') (ht : (pc : Int) + off = (tgt : Int)) (kt : x < 0 → gw_W X F G Z kc ks M σ tgt ls st) (kf : 0 ≤ x → gw_W X F G Z kc ks M σ pc' ls st) : gw_W X F G Z kc ks M σ pc ls (vI x :: st) := by
  obtain ⟨hd, rfl⟩ := d
  intro H locs lc hR hS hL ho
  have ox : okI x := gw_hd ho
  have oy : okI 0 := ok_0
  exact lv_if_lt fx.exec fx.code hd ht (fun h => kt ((i_lt ox oy).mp h) H locs lc hR hS hL (gw_tl ho)) (fun h => kf ((by have := mt (i_lt ox oy).mpr h; omega)) H locs lc hR hS hL (gw_tl ho))
theorem g_icmp_gt {x y : Int} {off : Int} {tgt : Nat} (fx : gw_FX X F G) (d : gw_dc F.2.1 pc (.if_icmp .gt off) 3 pc') (ht : (pc : Int) + off = (tgt : Int)) (kt : y < x → gw_W X F G Z kc ks M σ tgt ls st) (kf : x ≤ y → gw_W X F G Z kc ks M σ pc' ls st) : gw_W X F G Z kc ks M σ pc ls (vI y :: vI x :: st) := by
  obtain ⟨hd, rfl⟩ := d
  intro H locs lc hR hS hL ho
  have oy : okI y := gw_hd ho
  have ox : okI x := gw_hd (gw_tl ho)
  exact lv_icmp_gt fx.exec fx.code hd ht (fun h => kt ((i_lt oy ox).mp h) H locs lc hR hS hL (gw_tl (gw_tl ho))) (fun h => kf ((by have := mt (i_lt oy ox).mpr h; omega)) H locs lc hR hS hL (gw_tl (gw_tl ho)))
theorem g_if_gt {x : Int} {off : Int} {tgt : Nat} (fx : gw_FX X F G) (d : gw_dc F.2.1 pc (.ifCond .gt off) 3 pc') (ht : (pc : Int) + off = (tgt : Int)) (kt : 0 < x → gw_W X F G Z kc ks M σ tgt ls st) (kf : x ≤ 0 → gw_W X F G Z kc ks M σ pc' ls st) : gw_W X F G Z kc ks M σ pc ls (vI x :: st) := by
  obtain ⟨hd, rfl⟩ := d
  intro H locs lc hR hS hL ho
  have ox : okI x := gw_hd ho
  have oy : okI 0 := ok_0
  exact lv_if_gt fx.exec fx.code hd ht (fun h => kt ((i_lt oy ox).mp h) H locs lc hR hS hL (gw_tl ho)) (fun h => kf ((by have := mt (i_lt oy ox).mpr h; omega)) H locs lc hR hS hL (gw_tl ho))
theorem g_icmp_le {x y : Int} {off : Int} {tgt : Nat} (fx : gw_FX X F G) (d : gw_dc F.2.1 pc (.if_icmp .le off) 3 pc') (ht : (pc : Int) + off = (tgt : Int)) (kt : x ≤ y → gw_W X F G Z kc ks M σ tgt ls st) (kf : y < x → gw_W X F G Z kc ks M σ pc' ls st) : gw_W X F G Z kc ks M σ pc ls (vI y :: vI x :: st) := by
  obtain ⟨hd, rfl⟩ := d
  intro H locs lc hR hS hL ho
  have oy : okI y := gw_hd ho
  have ox : okI x := gw_hd (gw_tl ho)
  exact lv_icmp_le fx.exec fx.code hd ht (fun h => kt ((i_le ox oy).mp h) H locs lc hR hS hL (gw_tl (gw_tl ho))) (fun h => kf ((by have := mt (i_le ox oy).mpr h; omega)) H locs lc hR hS hL (gw_tl (gw_tl ho)))
theorem g_if_le {x : Int} {off : Int} {tgt : Nat} (fx : gw_FX X F G) (d : gw_dc F.2.1 pc (.ifCond .le off) 3 pc') (ht : (pc : Int) + off = (tgt : Int)) (kt : x ≤ 0 → gw_W X F G Z kc ks M σ tgt ls st) (kf : 0 < x → gw_W X F G Z kc ks M σ pc' ls st) : gw_W X F G Z kc ks M σ pc ls (vI x :: st) := by
  obtain ⟨hd, rfl⟩ := d
  intro H locs lc hR hS hL ho
  have ox : okI x := gw_hd ho
  have oy : okI 0 := ok_0
  exact lv_if_le fx.exec fx.code hd ht (fun h => kt ((i_le ox oy).mp h) H locs lc hR hS hL (gw_tl ho)) (fun h => kf ((by have := mt (i_le ox oy).mpr h; omega)) H locs lc hR hS hL (gw_tl ho))
theorem g_icmp_eq {x y : Int} {off : Int} {tgt : Nat} (fx : gw_FX X F G) (d : gw_dc F.2.1 pc (.if_icmp .eq off) 3 pc') (ht : (pc : Int) + off = (tgt : Int)) (kt : x = y → gw_W X F G Z kc ks M σ tgt ls st) (kf : x ≠ y → gw_W X F G Z kc ks M σ pc' ls st) : gw_W X F G Z kc ks M σ pc ls (vI y :: vI x :: st) := by
  obtain ⟨hd, rfl⟩ := d
  intro H locs lc hR hS hL ho
  have oy : okI y := gw_hd ho
  have ox : okI x := gw_hd (gw_tl ho)
  exact lv_icmp_eq fx.exec fx.code hd ht (fun h => kt ((i_eq ox oy).mp h) H locs lc hR hS hL (gw_tl (gw_tl ho))) (fun h => kf (mt (i_eq ox oy).mpr h) H locs lc hR hS hL (gw_tl (gw_tl ho)))
theorem g_if_eq {x : Int} {off : Int} {tgt : Nat} (fx : gw_FX X F G) (d : gw_dc F.2.1 pc (.ifCond .eq off) 3 pc') (ht : (pc : Int) + off = (tgt : Int)) (kt : x = 0 → gw_W X F G Z kc ks M σ tgt ls st) (kf : x ≠ 0 → gw_W X F G Z kc ks M σ pc' ls st) : gw_W X F G Z kc ks M σ pc ls (vI x :: st) := by
  obtain ⟨hd, rfl⟩ := d
  intro H locs lc hR hS hL ho
  have ox : okI x := gw_hd ho
  have oy : okI 0 := ok_0
  exact lv_if_eq fx.exec fx.code hd ht (fun h => kt ((i_eq ox oy).mp h) H locs lc hR hS hL (gw_tl ho)) (fun h => kf (mt (i_eq ox oy).mpr h) H locs lc hR hS hL (gw_tl ho))
theorem g_icmp_ne {x y : Int} {off : Int} {tgt : Nat} (fx : gw_FX X F G) (d : gw_dc F.2.1 pc (.if_icmp .ne off) 3 pc') (ht : (pc : Int) + off = (tgt : Int)) (kt : x ≠ y → gw_W X F G Z kc ks M σ tgt ls st) (kf : x = y → gw_W X F G Z kc ks M σ pc' ls st) : gw_W X F G Z kc ks M σ pc ls (vI y :: vI x :: st) := by
  obtain ⟨hd, rfl⟩ := d
  intro H locs lc hR hS hL ho
  have oy : okI y := gw_hd ho
  have ox : okI x := gw_hd (gw_tl ho)
  exact lv_icmp_ne fx.exec fx.code hd ht (fun h => kt (mt (i_eq ox oy).mpr h) H locs lc hR hS hL (gw_tl (gw_tl ho))) (fun h => kf ((by first | exact (i_eq ox oy).mp (Classical.not_not.mp h) | exact (i_eq ox oy).mp h)) H locs lc hR hS hL (gw_tl (gw_tl ho)))
theorem g_if_ne {x : Int} {off : Int} {tgt : Nat} (fx : gw_FX X F G) (d : gw_dc F.2.1 pc (.ifCond .ne off) 3 pc') (ht : (pc : Int) + off = (tgt : Int)) (kt : x ≠ 0 → gw_W X F G Z kc ks M σ tgt ls st) (kf : x = 0 → gw_W X F G Z kc ks M σ pc' ls st) : gw_W X F G Z kc ks M σ pc ls (vI x :: st) := by
  obtain ⟨hd, rfl⟩ := d
  intro H locs lc hR hS hL ho
  have ox : okI x := gw_hd ho
  have oy : okI 0 := ok_0
  exact lv_if_ne fx.exec fx.code hd ht (fun h => kt (mt (i_eq ox oy).mpr h) H locs lc hR hS hL (gw_tl ho)) (fun h => kf ((by first | exact (i_eq ox oy).mp (Classical.not_not.mp h) | exact (i_eq ox oy).mp h)) H locs lc hR hS hL (gw_tl ho))
end GW
