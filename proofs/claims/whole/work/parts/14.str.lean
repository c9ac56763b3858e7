/-! THE LAYER, 10: String constants (vX j, j < 20, the bytes at vX (100 + j)) -/
def chr (j : Nat) (k : Int) : Int := ((gw_wd j).getD k.toNat 0).toInt
theorem chr_all : ∀ j, j < 20 → (gw_wd j).length ≤ 5 ∧ ∀ k, k < 5 → okI ((gw_wd j).getD k 0).toInt ∧ wc16 (wand ((gw_wd j).getD k 0).toInt 255) = ((gw_wd j).getD k 0).toInt ∧ 0 ≤ ((gw_wd j).getD k 0).toInt ∧ ((gw_wd j).getD k 0).toInt < 128 := by unfold okI; decide +kernel
section GW
variable {X : Cx} {F : Fr} {G : Gl} {Z : State → Prop} {kc ks : Nat} {M : Mem} {σ : Sg} {pc pc' : Nat} {ls : List (Option AV)} {st : List AV}
theorem g_callVX {idx n d' mc ms nL o : Nat} {y : MethodName} {cc : ByteArray} {rt : Option FieldType} {as st0 : List AV} {Qn : Option AV → Mem → Sg → Prop} {Qx : String → Prop} (fx : gw_FX X F G) (d : gw_dc F.2.1 pc (.invokevirtual idx) 3 pc') (hl : gw_mv F.1 idx y) (hm : gw_my y cc nL rt n)
    (hs : gw_Sp y cc nL rt d' mc ms (vX o :: as) M σ Qn Qx) (hO : o < 20) (hc : y.cls = "java/lang/String") (hst : st0 = as.reverse ++ vX o :: st) (hn : as.length = n) (hw : gw_wt st ≤ 8) (hd : d' + 1 ≤ F.2.2.2.2.1) (hk : kc + mc ≤ F.2.2.2.2.2.1 ∧ ks + ms ≤ F.2.2.2.2.2.2)
    (hx : ∀ E, Qx E → gw_X X F G Z (kc + mc) (ks + ms) M σ pc ls E) (kk : ∀ r M' σ', Qn r M' σ' → gw_le M M' → gw_W X F G Z (kc + mc) (ks + ms) M' σ' pc' ls (r.toList ++ st)) : gw_W X F G Z kc ks M σ pc ls st0 := by
  obtain ⟨hd9, rfl⟩ := d
  intro H locs lc hR hS hL ho
  obtain ⟨ho1, ho2⟩ := gw_okapp (as := vX o :: as) (st := st) (by rw [hst]; simp) ho
  obtain ⟨h1, h2, h3⟩ := hl
  obtain ⟨m1, m2, m3, m4⟩ := id hm
  refine gw_after (a := (Value.ref (gex G o) :: as.map (gw_cv G M)).toArray) (Qn := Qn) (Qx := Qx) (mc := mc) (ms := ms) (st := st) ?_ hS hL ho2 hx kk
  refine vx_runV (Ts := wsG) (y := y) (bytes := cc) (maxL := nL) (ret := rt) (ws := gw_ws y cc nL rt) (rm := gw_rm d' mc ms) (C := y.cls) (b := gex G o) (As := as.map (gw_cv G M)) (n := n) (own := F.1) (index := idx) (cc := F.2.1) (nL := F.2.2.1) (Pc := gw_Pc G M σ (vX o :: as)) ⟨fx.exec, fx.code, fx.ml, fx.own, fx.ts⟩ (hs (cL X) G fx.tr) ?_ ?_ rfl (by rw [List.length_map]; exact hn) hL.1 ?_ (lv_room (gw_wt_le hw)) hd9 ?_
  · exact ⟨callB_of n fx.ts (gw_gi hm) rfl rfl rfl (fx.ts _ m2) (fx.ts _ h1) m3 (gw_hRm fx hd m4), fx.ts _ h2, fx.ts _ h3⟩
  · exact ⟨gw_blind _ _ _ _, by have h9 := vk_recv (i := 0) (fx.ex.2.1 o hO) (by decide) hS; rw [hc]; exact h9, gw_PcOf (as := vX o :: as) fx hR hS ho1⟩
  · rw [hst, List.map_append, List.map_reverse]; rfl
  · obtain ⟨-, -, r1, r2⟩ := fx.room
    exact ⟨Nat.le_trans hk.1 r1, Nat.le_trans hk.2 r2⟩
theorem g_sVal {idx j : Nat} (fx : gw_FX X F G) (d : gw_dc F.2.1 pc (.getfield idx) 3 pc') (hl : Cond.fieldLink F.1 idx "java/lang/String" "value" "[B" ∈ wsG) (hj : j < 20) (kk : gw_W X F G Z kc ks M σ pc' ls (vX (100 + j) :: st)) : gw_W X F G Z kc ks M σ pc ls (vX j :: st) := by
  obtain ⟨hd, rfl⟩ := d
  intro H locs lc hR hS hL ho
  exact vk_getf fx.exec fx.code ((fx.ex.2.1 j hj).1 0 (by decide)).2.2.1 hS fx.own (fx.ts _ hl) (fun _ h => h) hd (kk H locs lc hR hS hL (gw_cons (v := vX (100 + j)) trivial (gw_tl ho)))
theorem g_sCod {idx j : Nat} (fx : gw_FX X F G) (d : gw_dc F.2.1 pc (.getfield idx) 3 pc') (hl : Cond.fieldLink F.1 idx "java/lang/String" "coder" "B" ∈ wsG) (hj : j < 20) (kk : gw_W X F G Z kc ks M σ pc' ls (vI 0 :: st)) : gw_W X F G Z kc ks M σ pc ls (vX j :: st) := by
  obtain ⟨hd, rfl⟩ := d
  intro H locs lc hR hS hL ho
  exact vk_getf (v := .int 0) fx.exec fx.code ((fx.ex.2.1 j hj).1 0 (by decide)).2.1 hS fx.own (fx.ts _ hl) (fun _ h => h) hd (kk H locs lc hR hS hL (gw_cons (v := vI 0) ok_0 (gw_tl ho)))
theorem g_sLen {j : Nat} (fx : gw_FX X F G) (d : gw_dc F.2.1 pc .arraylength 1 pc') (hj : j < 20) (kk : gw_W X F G Z kc ks M σ pc' ls (vI ((gw_wd j).length : Nat) :: st)) : gw_W X F G Z kc ks M σ pc ls (vX (100 + j) :: st) := by
  obtain ⟨hd, rfl⟩ := d
  intro H locs lc hR hS hL ho
  have hl := (chr_all j hj).1
  exact va_tlen fx.exec fx.code ((fx.ex.2.1 j hj).1 0 (by decide)).2.2.2 hS (by rw [Int32.ofInt_eq_ofNat]; rfl) hd (kk H locs lc hR hS hL (gw_cons (v := vI ((gw_wd j).length : Nat)) (show okI _ by unfold okI; omega) (gw_tl ho)))
theorem g_sByt {j : Nat} {i : Int} (fx : gw_FX X F G) (d : gw_dc F.2.1 pc .baload 1 pc') (hj : j < 20) (h0 : 0 ≤ i) (h1 : i < (gw_wd j).length) (kk : gw_W X F G Z kc ks M σ pc' ls (vI (chr j i) :: st)) : gw_W X F G Z kc ks M σ pc ls (vI i :: vX (100 + j) :: st) := by
  obtain ⟨hd, rfl⟩ := d
  intro H locs lc hR hS hL ho
  obtain ⟨e1, e2⟩ := i_in h0 h1 (gw_hd ho)
  have hl := (chr_all j hj).1
  have hc := ((chr_all j hj).2 i.toNat (by omega)).1
  refine va_tb fx.exec fx.code ((fx.ex.2.1 j hj).1 0 (by decide)).2.2.2 hS e1 rfl hd ?_
  have h := kk H locs lc hR hS hL (gw_cons (v := vI (chr j i)) hc (gw_tl (gw_tl ho)))
  have e3 : Int32.ofInt (chr j i) = (gw_wd j).getD i.toNat 0 := by unfold chr; exact of_toI _
  simp only [List.map_cons, gw_cv, e3] at h
  rw [e2]; exact h
theorem g_sCmp {idx : Nat} (fx : gw_FX X F G) (d : gw_dc F.2.1 pc (.getstatic idx) 3 pc') (hl : Cond.fieldLink F.1 idx "java/lang/String" "COMPACT_STRINGS" "Z" ∈ wsG) (kk : gw_W X F G Z kc ks M σ pc' ls (vI 1 :: st)) : gw_W X F G Z kc ks M σ pc ls st := by
  obtain ⟨hd, rfl⟩ := d
  intro H locs lc hR hS hL ho
  exact va_gets fx.exec fx.code fx.ex.2.2.2.2.1 hS fx.own (fx.ts _ hl) (fun _ h => h) hd (kk H locs lc hR hS hL (gw_cons (v := vI 1) (show okI 1 by unfold okI; omega) ho))
theorem g_sFmt {idx : Nat} (fx : gw_FX X F G) (d : gw_dc F.2.1 pc (.getstatic idx) 3 pc') (hl : Cond.fieldLink F.1 idx "jdk/internal/util/Preconditions" "SIOOBE_FORMATTER" "Ljava/util/function/BiFunction;" ∈ wsG) (k1 : gw_W X F G Z kc ks M σ pc' ls (vR none :: st)) (k2 : gw_W X F G Z kc ks M σ pc' ls (vX 200 :: st)) : gw_W X F G Z kc ks M σ pc ls st := by
  obtain ⟨hd, rfl⟩ := d
  intro H locs lc hR hS hL ho
  rcases fx.ex.2.2.2.2.2.2.2.2 with hz | hz
  · exact va_gets fx.exec fx.code hz hS fx.own (fx.ts _ hl) (fun _ h => h) hd (k1 H locs lc hR hS hL (gw_cons (v := vR none) (fun i h => by cases h) ho))
  · exact va_gets fx.exec fx.code hz hS fx.own (fx.ts _ hl) (fun _ h => h) hd (k2 H locs lc hR hS hL (gw_cons (v := vX 200) trivial ho))
end GW
