/-! THE LAYER, 4: bits, longs, switches, null -/
def wand (x y : Int) : Int := (Int32.ofInt x &&& Int32.ofInt y).toInt
def wor (x y : Int) : Int := (Int32.ofInt x ||| Int32.ofInt y).toInt
def wshl (x y : Int) : Int := (Int32.ofInt x <<< (Int32.ofInt y &&& 31)).toInt
def wshr (x y : Int) : Int := (Int32.ofInt x >>> (Int32.ofInt y &&& 31)).toInt
def wushr (x y : Int) : Int := (((Int32.ofInt x).toUInt32 >>> ((Int32.ofInt y).toUInt32 &&& Int32.toUInt32 31)).toInt32).toInt
def wb8 (x : Int) : Int := ((Int32.ofInt x).toInt8.toInt32).toInt
def wb16 (x : Int) : Int := ((Int32.ofInt x).toInt16.toInt32).toInt
def wc16 (x : Int) : Int := (((Int32.ofInt x).toUInt32 % 65536).toInt32).toInt
def ljand (x y : Int) : Int := (Int64.ofInt x &&& Int64.ofInt y).toInt
def ljor (x y : Int) : Int := (Int64.ofInt x ||| Int64.ofInt y).toInt
def ljshl (x y : Int) : Int := (Int64.ofInt x <<< ((Int32.ofInt y).toInt64 &&& 63)).toInt
def ljshr (x y : Int) : Int := (Int64.ofInt x >>> ((Int32.ofInt y).toInt64 &&& 63)).toInt
theorem ok_toI (i : Int32) : okI i.toInt := by
  have h1 := Int32.le_toInt i
  have h2 := Int32.toInt_lt i
  unfold okI; omega
theorem ok_toJ (i : Int64) : okJ i.toInt := by
  have h1 := Int64.le_toInt i
  have h2 := Int64.toInt_lt i
  unfold okJ; omega
theorem of_toI (i : Int32) : Int32.ofInt i.toInt = i := Int32.ofInt_toInt i
theorem of_toJ (i : Int64) : Int64.ofInt i.toInt = i := Int64.ofInt_toInt i
section GW
variable {X : Cx} {F : Fr} {G : Gl} {Z : State → Prop} {kc ks : Nat} {M : Mem} {σ : Sg} {pc pc' : Nat} {ls : List (Option AV)} {st : List AV}
theorem g_iand {x y : Int} (fx : gw_FX X F G) (d : gw_dc F.2.1 pc .iand 1 pc') (k : gw_W X F G Z kc ks M σ pc' ls (vI (wand x y) :: st)) : gw_W X F G Z kc ks M σ pc ls (vI y :: vI x :: st) := by
  obtain ⟨hd, rfl⟩ := d
  intro H locs lc hR hS hL ho
  have h := k H locs lc hR hS hL (gw_cons (ok_toI _) (gw_tl (gw_tl ho)))
  simp only [List.map_cons, gw_cv, wand, of_toI] at h
  exact lv_iand fx.exec fx.code hd h
theorem g_ior {x y : Int} (fx : gw_FX X F G) (d : gw_dc F.2.1 pc .ior 1 pc') (k : gw_W X F G Z kc ks M σ pc' ls (vI (wor x y) :: st)) : gw_W X F G Z kc ks M σ pc ls (vI y :: vI x :: st) := by
  obtain ⟨hd, rfl⟩ := d
  intro H locs lc hR hS hL ho
  have h := k H locs lc hR hS hL (gw_cons (ok_toI _) (gw_tl (gw_tl ho)))
  simp only [List.map_cons, gw_cv, wor, of_toI] at h
  exact lv_ior fx.exec fx.code hd h
theorem g_ishl {x y : Int} (fx : gw_FX X F G) (d : gw_dc F.2.1 pc .ishl 1 pc') (k : gw_W X F G Z kc ks M σ pc' ls (vI (wshl x y) :: st)) : gw_W X F G Z kc ks M σ pc ls (vI y :: vI x :: st) := by
  obtain ⟨hd, rfl⟩ := d
  intro H locs lc hR hS hL ho
  have h := k H locs lc hR hS hL (gw_cons (ok_toI _) (gw_tl (gw_tl ho)))
  simp only [List.map_cons, gw_cv, wshl, of_toI] at h
  exact lv_ishl fx.exec fx.code hd h
theorem g_ishr {x y : Int} (fx : gw_FX X F G) (d : gw_dc F.2.1 pc .ishr 1 pc') (k : gw_W X F G Z kc ks M σ pc' ls (vI (wshr x y) :: st)) : gw_W X F G Z kc ks M σ pc ls (vI y :: vI x :: st) := by
  obtain ⟨hd, rfl⟩ := d
  intro H locs lc hR hS hL ho
  have h := k H locs lc hR hS hL (gw_cons (ok_toI _) (gw_tl (gw_tl ho)))
  simp only [List.map_cons, gw_cv, wshr, of_toI] at h
  exact lv_ishr fx.exec fx.code hd h
theorem g_iushr {x y : Int} (fx : gw_FX X F G) (d : gw_dc F.2.1 pc .iushr 1 pc') (k : gw_W X F G Z kc ks M σ pc' ls (vI (wushr x y) :: st)) : gw_W X F G Z kc ks M σ pc ls (vI y :: vI x :: st) := by
  obtain ⟨hd, rfl⟩ := d
  intro H locs lc hR hS hL ho
  exact lv_iushr fx.exec fx.code hd (of_toI _).symm (k H locs lc hR hS hL (gw_cons (ok_toI _) (gw_tl (gw_tl ho))))
theorem g_i2b {x : Int} (fx : gw_FX X F G) (d : gw_dc F.2.1 pc .i2b 1 pc') (k : gw_W X F G Z kc ks M σ pc' ls (vI (wb8 x) :: st)) : gw_W X F G Z kc ks M σ pc ls (vI x :: st) := by
  obtain ⟨hd, rfl⟩ := d
  intro H locs lc hR hS hL ho
  exact lv_i2b fx.exec fx.code hd (of_toI _).symm (k H locs lc hR hS hL (gw_cons (ok_toI _) (gw_tl ho)))
theorem g_i2s {x : Int} (fx : gw_FX X F G) (d : gw_dc F.2.1 pc .i2s 1 pc') (k : gw_W X F G Z kc ks M σ pc' ls (vI (wb16 x) :: st)) : gw_W X F G Z kc ks M σ pc ls (vI x :: st) := by
  obtain ⟨hd, rfl⟩ := d
  intro H locs lc hR hS hL ho
  exact lv_i2s fx.exec fx.code hd (of_toI _).symm (k H locs lc hR hS hL (gw_cons (ok_toI _) (gw_tl ho)))
theorem g_i2c {x : Int} (fx : gw_FX X F G) (d : gw_dc F.2.1 pc .i2c 1 pc') (k : gw_W X F G Z kc ks M σ pc' ls (vI (wc16 x) :: st)) : gw_W X F G Z kc ks M σ pc ls (vI x :: st) := by
  obtain ⟨hd, rfl⟩ := d
  intro H locs lc hR hS hL ho
  exact lv_i2c fx.exec fx.code hd (of_toI _).symm (k H locs lc hR hS hL (gw_cons (ok_toI _) (gw_tl ho)))
theorem g_land {x y : Int} (fx : gw_FX X F G) (d : gw_dc F.2.1 pc .land 1 pc') (k : gw_W X F G Z kc ks M σ pc' ls (vJ (ljand x y) :: st)) : gw_W X F G Z kc ks M σ pc ls (vJ y :: vJ x :: st) := by
  obtain ⟨hd, rfl⟩ := d
  intro H locs lc hR hS hL ho
  have h := k H locs lc hR hS hL (gw_cons (ok_toJ _) (gw_tl (gw_tl ho)))
  simp only [List.map_cons, gw_cv, ljand, of_toJ] at h
  exact lv_land fx.exec fx.code hd h
theorem g_lor {x y : Int} (fx : gw_FX X F G) (d : gw_dc F.2.1 pc .lor 1 pc') (k : gw_W X F G Z kc ks M σ pc' ls (vJ (ljor x y) :: st)) : gw_W X F G Z kc ks M σ pc ls (vJ y :: vJ x :: st) := by
  obtain ⟨hd, rfl⟩ := d
  intro H locs lc hR hS hL ho
  have h := k H locs lc hR hS hL (gw_cons (ok_toJ _) (gw_tl (gw_tl ho)))
  simp only [List.map_cons, gw_cv, ljor, of_toJ] at h
  exact lv_lor fx.exec fx.code hd h
theorem g_lshl {x y : Int} (fx : gw_FX X F G) (d : gw_dc F.2.1 pc .lshl 1 pc') (k : gw_W X F G Z kc ks M σ pc' ls (vJ (ljshl x y) :: st)) : gw_W X F G Z kc ks M σ pc ls (vI y :: vJ x :: st) := by
  obtain ⟨hd, rfl⟩ := d
  intro H locs lc hR hS hL ho
  exact lv_lshl fx.exec fx.code hd (of_toJ _).symm (k H locs lc hR hS hL (gw_cons (ok_toJ _) (gw_tl (gw_tl ho))))
theorem g_lshr {x y : Int} (fx : gw_FX X F G) (d : gw_dc F.2.1 pc .lshr 1 pc') (k : gw_W X F G Z kc ks M σ pc' ls (vJ (ljshr x y) :: st)) : gw_W X F G Z kc ks M σ pc ls (vI y :: vJ x :: st) := by
  obtain ⟨hd, rfl⟩ := d
  intro H locs lc hR hS hL ho
  exact lv_lshr fx.exec fx.code hd (of_toJ _).symm (k H locs lc hR hS hL (gw_cons (ok_toJ _) (gw_tl (gw_tl ho))))
theorem g_ladd {x y : Int} (fx : gw_FX X F G) (d : gw_dc F.2.1 pc .ladd 1 pc') (k : gw_W X F G Z kc ks M σ pc' ls (vJ (wl (x + y)) :: st)) : gw_W X F G Z kc ks M σ pc ls (vJ y :: vJ x :: st) := by
  obtain ⟨hd, rfl⟩ := d
  intro H locs lc hR hS hL ho
  have h := k H locs lc hR hS hL (gw_cons (wl_ok _) (gw_tl (gw_tl ho)))
  simp only [List.map_cons, gw_cv, wl_of, Int64.ofInt_add] at h
  exact lv_ladd fx.exec fx.code hd h
theorem g_i2l {x : Int} (fx : gw_FX X F G) (d : gw_dc F.2.1 pc .i2l 1 pc') (k : gw_W X F G Z kc ks M σ pc' ls (vJ x :: st)) : gw_W X F G Z kc ks M σ pc ls (vI x :: st) := by
  obtain ⟨hd, rfl⟩ := d
  intro H locs lc hR hS hL ho
  have ox : okI x := gw_hd ho
  have oj : okJ x := by unfold okI at ox; unfold okJ; omega
  refine lv_i2l fx.exec fx.code hd ?_ (k H locs lc hR hS hL (gw_cons oj (gw_tl ho)))
  rw [← Int64.toInt_inj, Int32.toInt_toInt64, toI_of ox, toJ_of oj]
theorem g_l2i {x : Int} (fx : gw_FX X F G) (d : gw_dc F.2.1 pc .l2i 1 pc') (k : gw_W X F G Z kc ks M σ pc' ls (vI (wr x) :: st)) : gw_W X F G Z kc ks M σ pc ls (vJ x :: st) := by
  obtain ⟨hd, rfl⟩ := d
  intro H locs lc hR hS hL ho
  refine lv_l2i fx.exec fx.code hd ?_ (k H locs lc hR hS hL (gw_cons (wr_ok _) (gw_tl ho)))
  rw [wr_of, Int64.toInt32_ofInt]
def jc (x y : Int) : Int := if y < x then 1 else if x = y then 0 else -1
theorem g_lcmp {x y : Int} (fx : gw_FX X F G) (d : gw_dc F.2.1 pc .lcmp 1 pc') (k : gw_W X F G Z kc ks M σ pc' ls (vI (jc x y) :: st)) : gw_W X F G Z kc ks M σ pc ls (vJ y :: vJ x :: st) := by
  obtain ⟨hd, rfl⟩ := d
  intro H locs lc hR hS hL ho
  have oy : okJ y := gw_hd ho
  have ox : okJ x := gw_hd (gw_tl ho)
  have hj : okI (jc x y) := by unfold jc okI; (repeat' split) <;> omega
  have h := k H locs lc hR hS hL (gw_cons hj (gw_tl (gw_tl ho)))
  have e : Int32.ofInt (jc x y) = lg_cmp (Int64.ofInt x) (Int64.ofInt y) := by
    unfold jc lg_cmp
    by_cases h1 : y < x
    · rw [if_pos h1, if_pos ((j_lt oy ox).mpr h1)]; decide
    · rw [if_neg h1, if_neg (fun q => h1 ((j_lt oy ox).mp q))]
      by_cases h2 : x = y
      · rw [if_pos h2, if_pos ((j_eq ox oy).mpr h2)]; decide
      · rw [if_neg h2, if_neg (fun q => h2 ((j_eq ox oy).mp q))]; decide
  simp only [List.map_cons, gw_cv, e] at h
  exact W.lcmp fx.exec fx.code hd h
theorem jc_ge {x y : Int} : 0 ≤ jc x y ↔ y ≤ x := by unfold jc; (repeat' split) <;> omega
theorem jc_gt {x y : Int} : 0 < jc x y ↔ y < x := by unfold jc; (repeat' split) <;> omega
theorem jc_eq {x y : Int} : jc x y = 0 ↔ x = y := by unfold jc; (repeat' split) <;> omega
theorem g_lstore {i : Nat} {z : Int} {ls' : List (Option AV)} (fx : gw_FX X F G) (d : gw_dc F.2.1 pc (.lstore i) 2 pc') (hi : i + 1 < F.2.2.1) (hs : gw_st ls i = true) (hl : (ls.set i (some (vJ z))).set (i + 1) none = ls') (k : gw_W X F G Z kc ks M σ pc' ls' st) : gw_W X F G Z kc ks M σ pc ls (vJ z :: st) := by
  obtain ⟨hd, rfl⟩ := d
  subst hl
  intro H locs lc hR hS hL ho
  refine lv_lstore fx.exec fx.code hd (gw_has hL) hi rfl (fun lc' h' => k H locs lc' hR hS ⟨h'.1, h'.2.1, fun j x hx => ?_⟩ (gw_tl ho))
  rw [List.getElem?_set] at hx
  by_cases q1 : i + 1 = j
  · rw [if_pos q1] at hx
    split at hx <;> cases hx
  · rw [if_neg q1, List.getElem?_set] at hx
    by_cases q : i = j
    · subst q
      rw [if_pos rfl] at hx
      split at hx
      · cases hx
        exact ⟨gw_hd ho, h'.2.2 _ List.mem_cons_self⟩
      · cases hx
    · rw [if_neg q] at hx
      refine ⟨(hL.2.2 j x hx).1, h'.2.2 (j, gw_cv G M x) (List.mem_cons_of_mem _ (List.mem_filter.mpr ⟨gw_ll_mem hx, ?_⟩))⟩
      have e1 : (j == i) = false := by simpa using fun e => q e.symm
      have e3 : (j == i + 1) = false := by simpa using fun e => q1 e.symm
      by_cases e : j + 1 = i
      · have hc : gw_c1 x = true := by
          subst e
          simp only [gw_st, gw_nl, Nat.add_sub_cancel, hx, Bool.or_eq_true, beq_iff_eq] at hs
          rcases hs with hs | hs
          · omega
          · rcases x with z | z | r | k
            · rfl
            · cases hs
            · rfl
            · rfl
        have := gw_c1_cat (G := G) (M := M) hc
        simp [e1, e3, this]
      · have e2 : (j + 1 == i) = false := by simpa using e
        simp [e1, e2, e3]
theorem g_tsw {x dflt lo hi : Int} {offs : Array Int} {len : Nat} (j : Nat) {off : Int} {tgt : Nat} (fx : gw_FX X F G) (d : decode F.2.1 pc = .ok (.tableswitch dflt lo hi offs, len)) (hx : x = lo + j) (hj : lo + j ≤ hi) (ho : offs[j]? = some off) (ht : (pc : Int) + off = (tgt : Int)) (k : gw_W X F G Z kc ks M σ tgt ls st) : gw_W X F G Z kc ks M σ pc ls (vI x :: st) := by
  intro H locs lc hR hS hL hst
  have ox : okI x := gw_hd hst
  refine lv_tableIn fx.exec fx.code d (by rw [toI_of ox]; omega) (by rw [toI_of ox]; omega) ?_ ht (k H locs lc hR hS hL (gw_tl hst))
  rw [toI_of ox, show (x - lo).toNat = j by omega]; exact ho
theorem g_tswO {x dflt lo hi : Int} {offs : Array Int} {len : Nat} {tgt : Nat} (fx : gw_FX X F G) (d : decode F.2.1 pc = .ok (.tableswitch dflt lo hi offs, len)) (hx : x < lo ∨ hi < x) (ht : (pc : Int) + dflt = (tgt : Int)) (k : gw_W X F G Z kc ks M σ tgt ls st) : gw_W X F G Z kc ks M σ pc ls (vI x :: st) := by
  intro H locs lc hR hS hL hst
  have ox : okI x := gw_hd hst
  exact lv_tableOut fx.exec fx.code d (by rw [toI_of ox]; exact hx) ht (k H locs lc hR hS hL (gw_tl hst))
theorem g_ifnonnull {o : Nat} {off : Int} {tgt : Nat} (fx : gw_FX X F G) (d : gw_dc F.2.1 pc (.ifnonnull off) 3 pc') (ht : (pc : Int) + off = (tgt : Int)) (k : gw_W X F G Z kc ks M σ tgt ls st) : gw_W X F G Z kc ks M σ pc ls (vR (some o) :: st) := by
  obtain ⟨hd, rfl⟩ := d
  intro H locs lc hR hS hL ho
  exact lv_ifnonnull fx.exec fx.code hd ht (k H locs lc hR hS hL (gw_tl ho))
theorem g_ifnonnullN {off : Int} (fx : gw_FX X F G) (d : gw_dc F.2.1 pc (.ifnonnull off) 3 pc') (k : gw_W X F G Z kc ks M σ pc' ls st) : gw_W X F G Z kc ks M σ pc ls (vR none :: st) := by
  obtain ⟨hd, rfl⟩ := d
  intro H locs lc hR hS hL ho
  exact lv_ifnonnullN fx.exec fx.code hd (k H locs lc hR hS hL (gw_tl ho))
theorem g_null (fx : gw_FX X F G) (d : gw_dc F.2.1 pc .aconst_null 1 pc') (k : gw_W X F G Z kc ks M σ pc' ls (vR none :: st)) : gw_W X F G Z kc ks M σ pc ls st := by
  obtain ⟨hd, rfl⟩ := d
  intro H locs lc hR hS hL ho
  exact lv_null fx.exec fx.code hd (k H locs lc hR hS hL (gw_cons (v := vR none) (fun i h => by cases h) ho))
theorem g_aloadN {i : Nat} (fx : gw_FX X F G) (d : gw_dc F.2.1 pc (.aload i) 2 pc') (hl : ls[i]? = some (some (vR none))) (k : gw_W X F G Z kc ks M σ pc' ls (vR none :: st)) : gw_W X F G Z kc ks M σ pc ls st := by
  obtain ⟨hd, rfl⟩ := d
  intro H locs lc hR hS hL ho
  exact lv_aloadN fx.exec fx.code hd (hL.2.2 _ _ hl).2 (k H locs lc hR hS hL (gw_cons (hL.2.2 _ _ hl).1 ho))
theorem g_aload_nN {n : Fin 4} (fx : gw_FX X F G) (d : gw_dc F.2.1 pc (.aload_n n) 1 pc') (hl : ls[(n : Nat)]? = some (some (vR none))) (k : gw_W X F G Z kc ks M σ pc' ls (vR none :: st)) : gw_W X F G Z kc ks M σ pc ls st := by
  obtain ⟨hd, rfl⟩ := d
  intro H locs lc hR hS hL ho
  exact lv_aload_nN fx.exec fx.code hd rfl (hL.2.2 _ _ hl).2 (k H locs lc hR hS hL (gw_cons (hL.2.2 _ _ hl).1 ho))
theorem g_astore_nN {n : Fin 4} {ls' : List (Option AV)} (fx : gw_FX X F G) (d : gw_dc F.2.1 pc (.astore_n n) 1 pc') (hi : (n : Nat) < F.2.2.1) (hs : gw_st ls n = true) (hl : ls.set n (some (vR none)) = ls') (k : gw_W X F G Z kc ks M σ pc' ls' st) : gw_W X F G Z kc ks M σ pc ls (vR none :: st) := by
  obtain ⟨hd, rfl⟩ := d
  subst hl
  intro H locs lc hR hS hL ho
  exact lv_astore_nN fx.exec fx.code hd rfl (gw_has hL) hi rfl (fun lc' h' => k H locs lc' hR hS (gw_stored hL (v := vR none) (gw_hd ho) hs (fun j x hj hx h1 => gw_filt j x hj hx h1) List.mem_cons_self h') (gw_tl ho))
end GW
