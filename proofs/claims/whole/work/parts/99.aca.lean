/-! THE LAW, 5: static methods with handlers -/
def gw_ncT : List (String × String) := [("java/lang/IllegalArgumentException", "java/util/NoSuchElementException"), ("java/lang/IllegalStateException", "java/util/NoSuchElementException"), ("java/lang/IndexOutOfBoundsException", "java/util/NoSuchElementException"), ("java/lang/IllegalArgumentException", "java/lang/IllegalStateException"), ("java/util/NoSuchElementException", "java/lang/IllegalStateException"), ("java/lang/IndexOutOfBoundsException", "java/lang/IllegalStateException"), ("java/util/NoSuchElementException", "java/lang/IllegalArgumentException"), ("java/lang/IllegalStateException", "java/lang/IllegalArgumentException"), ("java/lang/IndexOutOfBoundsException", "java/lang/IllegalArgumentException")]
/-- exceptions that aren't one another -/
def gw_NC (U : State) : Prop := ∀ q ∈ gw_ncT, va_Nc q.1 q.2 U
theorem gw_NC.moved {u U : State} (hvm : u.vm.Alike U.vm) (h : gw_NC u) : gw_NC U := fun q hq => (h q hq).moved hvm
def gw_PcH (G : Gl) (M : Mem) (σ : Sg) (as : List AV) : Array Value → State → Prop := fun a U => gw_Pc G M σ as a U ∧ gw_NC U
def gw_wsH (y : MethodName) (cc : ByteArray) (nL : Nat) (rt : Option FieldType) (hh : List (Nat × Nat × Nat × Nat)) : List Cond := Cond.codeWith y cc nL rt hh :: wsG
def gw_SpH (y : MethodName) (cc : ByteArray) (nL : Nat) (rt : Option FieldType) (hh : List (Nat × Nat × Nat × Nat)) (d mc ms : Nat) (as : List AV) (M : Mem) (σ : Sg) (Qn : Option AV → Mem → Sg → Prop) (Qx : String → Prop) : Prop :=
  ∀ (l : Launch) (G : Gl), l.stackTraces = false → vx_Met l y (gw_wsH y cc nL rt hh) (gw_rm d mc ms) (gw_PcH G M σ as) (gw_Q G M Qn) (gw_XC G M σ Qx) mc ms (gA G)
theorem gw_blindH (G : Gl) (M : Mem) (σ : Sg) (as : List AV) : FrameBlind (gw_PcH G M σ as) := by
  intro a U g mk h
  exact ⟨gw_blind G M σ as a U g mk h.1, gw_NC.moved (u := U) (U := U.calling g mk a) (Vm.Alike.refl U.vm) h.2⟩
theorem gw_SpH.of {y : MethodName} {cc : ByteArray} {nL : Nat} {rt : Option FieldType} {hh : List (Nat × Nat × Nat × Nat)} {d mc ms : Nat} {as : List AV} {M : Mem} {σ : Sg} {Qn : Option AV → Mem → Sg → Prop} {Qx : String → Prop} (ls : List (Option AV))
    (hy : plainName y.cls = true) (hls : ls = gw_lc as ++ List.replicate (nL - (gw_lc as).length) none) (hn : (gw_lc as).length ≤ nL)
    (body : ∀ (X : Cx) (G : Gl), gw_FX X (y.cls, cc, nL, rt, d, mc, ms) G → ((cC X).exceptionTable.toList = tableOf hh) → gw_NC (cS X) → gw_W X (y.cls, cc, nL, rt, d, mc, ms) G (gw_Z X G M σ Qn Qx mc ms) 0 0 M σ 0 ls []) :
    gw_SpH y cc nL rt hh d mc ms as M σ Qn Qx := by
  intro l G hl
  refine vx_ofWH (hh := hh) (ws' := wsG) hy rfl ?_
  intro p e s m args below meth c s₁ B hml hP
  obtain ⟨⟨rfl, hR, hK, hE, hb, ho⟩, hnc⟩ := hP
  have hts0 : ∀ w ∈ gw_wsH y cc nL rt hh, w.before (as.map (gw_cv G M)).toArray s = true := atoms_spec (ws := gw_wsH y cc nL rt hh) B.pre
  have hfx : gw_FX (p, l, e, gw_rm d mc ms, s, m, (as.map (gw_cv G M)).toArray, below, meth, c) (y.cls, cc, nL, rt, d, mc, ms) G :=
    ⟨B.exec, B.bytes, B.returns, hml, findClass_of_methodNamed B.named, fun w hw => hts0 w (List.mem_cons_of_mem _ hw), B.notSynchronized, hl, hK, hE, hb, ⟨Nat.le_refl _, Nat.le_refl _, Nat.le_refl _, Nat.le_refl _⟩⟩
  have hbody := body (p, l, e, gw_rm d mc ms, s, m, (as.map (gw_cv G M)).toArray, below, meth, c) G hfx (vx_table (x := y) B (hts0 _ List.mem_cons_self)) hnc
  have hlv := lv_entry (as.map (gw_cv G M)) (n := nL) (by rw [gw_sl]; exact hn)
  rw [lg_entry_eq]
  refine hbody s.heap [] _ hR va_S.rf ⟨hlv.1, hlv.2.1, fun i v h => ?_⟩ (fun v hv => by cases hv)
  have h9 : (gw_lc as)[i]? = some (some v) := by
    rw [hls] at h
    by_cases q : i < (gw_lc as).length
    · rwa [List.getElem?_append_left q] at h
    · rw [List.getElem?_append_right (by omega), List.getElem?_replicate] at h
      split at h <;> cases h
  obtain ⟨h1, h2⟩ := gw_entry (G := G) (M := M) as 0 i v h9
  rw [Nat.zero_add] at h2
  exact ⟨ho v h1, hlv.2.2 _ h2⟩
/-- the words of such a method's code and name -/
def gw_myH (y : MethodName) (cc : ByteArray) (nL : Nat) (rt : Option FieldType) (hh : List (Nat × Nat × Nat × Nat)) (n : Nat) : Prop :=
  Cond.codeWith y cc nL rt hh ∈ wsG ∧ Cond.initialized y.cls ∈ wsG ∧ (y.cls ≠ "java/lang/invoke/MethodHandle" ∧ y.cls ≠ "java/lang/invoke/VarHandle" ∧ (parseMethodDescriptor y.desc).map (fun d => d.parameters.length) = some n) ∧ nL ≤ 45
section GW
variable {X : Cx} {F : Fr} {G : Gl} {Z : State → Prop} {kc ks : Nat} {M : Mem} {σ : Sg} {pc pc' : Nat} {ls : List (Option AV)} {st : List AV}
theorem gw_giH {y : MethodName} {cc : ByteArray} {nL : Nat} {rt : Option FieldType} {hh : List (Nat × Nat × Nat × Nat)} {n : Nat} (hm : gw_myH y cc nL rt hh n) : GoodIn wsG (gw_wsH y cc nL rt hh) := fun w hw => (List.mem_cons.mp hw).elim (fun e => by rw [e]; exact gw_goodIn _ hm.1) (gw_goodIn w)
theorem g_callSH {idx n d' mc ms nL : Nat} {y : MethodName} {cc : ByteArray} {rt : Option FieldType} {hh : List (Nat × Nat × Nat × Nat)} {as st0 : List AV} {Qn : Option AV → Mem → Sg → Prop} {Qx : String → Prop} (fx : gw_FX X F G) (nc : gw_NC (cS X)) (d : gw_dc F.2.1 pc (.invokestatic idx) 3 pc') (hl : gw_mst F.1 idx y) (hm : gw_myH y cc nL rt hh n)
    (hs : gw_SpH y cc nL rt hh d' mc ms as M σ Qn Qx) (hst : st0 = as.reverse ++ st) (hn : as.length = n) (hw : gw_wt st ≤ 8) (hd : d' + 1 ≤ F.2.2.2.2.1) (hk : kc + mc ≤ F.2.2.2.2.2.1 ∧ ks + ms ≤ F.2.2.2.2.2.2)
    (hx : ∀ E, Qx E → gw_X X F G Z (kc + mc) (ks + ms) M σ pc ls E) (kk : ∀ r M' σ', Qn r M' σ' → gw_le M M' → gw_W X F G Z (kc + mc) (ks + ms) M' σ' pc' ls (r.toList ++ st)) : gw_W X F G Z kc ks M σ pc ls st0 := by
  obtain ⟨hd9, rfl⟩ := d
  intro H locs lc hR hS hL ho
  obtain ⟨ho1, ho2⟩ := gw_okapp (as := as) (st := st) hst ho
  obtain ⟨h1, h2⟩ := hl
  obtain ⟨m1, m2, m3, m4⟩ := id hm
  refine gw_after (a := (as.map (gw_cv G M)).toArray) (Qn := Qn) (Qx := Qx) (mc := mc) (ms := ms) (st := st) ?_ hS hL ho2 hx kk
  refine vx_runSX (hh := hh) (Ts := wsG) (y := y) (bytes := cc) (maxL := nL) (ret := rt) (ws := gw_wsH y cc nL rt hh) (rm := gw_rm d' mc ms) (As := as.map (gw_cv G M)) (n := n) (own := F.1) (index := idx) (cc := F.2.1) (nL := F.2.2.1) (Pc := gw_PcH G M σ as) ⟨fx.exec, fx.code, fx.ml, fx.own, fx.ts⟩ (hs (cL X) G fx.tr) ?_ ?_ rfl (by rw [List.length_map]; exact hn) hL.1 ?_ (lv_room (gw_wt_le hw)) hd9 ?_
  · refine ⟨⟨rfl, rfl, (gw_hRm fx hd m4).1, (gw_hRm fx hd m4).2, pay_in fx.ts (gw_giH hm), List.mem_cons_self⟩, fx.ts _ m1, fx.ts _ m2, ⟨m3.1, m3.2.1⟩, fun sig h => ?_, fx.ts _ h1, fx.ts _ h2⟩
    have h9 := m3.2.2
    rw [h] at h9
    exact (Option.some.inj h9).symm
  · exact ⟨gw_blindH _ _ _ _, fun U hU hW => ⟨gw_PcOf (as := as) fx hR hS ho1 U hU hW, nc.moved hW.alike⟩⟩
  · rw [hst, List.map_append, List.map_reverse]
  · obtain ⟨-, -, r1, r2⟩ := fx.room
    exact ⟨Nat.le_trans hk.1 r1, Nat.le_trans hk.2 r2⟩
/-- stored, and never looked at -/
theorem gw_stored0 {lc lc' : Array Slot} {nL i : Nat} {L : List (Nat × Value)} (h : gw_LH G M lc nL ls) (hs : gw_st ls i = true)
    (hL : ∀ (j : Nat) (x : AV), j ≠ i → ls[j]? = some (some x) → (j + 1 = i → gw_c1 x = true) → (j, gw_cv G M x) ∈ L) (h' : lv_has lc' nL L) : gw_LH G M lc' nL (ls.set i none) := by
  refine ⟨h'.1, h'.2.1, fun j x hx => ?_⟩
  rw [List.getElem?_set] at hx
  by_cases q : i = j
  · subst q
    rw [if_pos rfl] at hx
    split at hx <;> cases hx
  · rw [if_neg q] at hx
    refine ⟨(h.2.2 j x hx).1, h'.2.2 (j, gw_cv G M x) (hL j x (fun e => q e.symm) hx (fun e => ?_))⟩
    subst e
    simp only [gw_st, gw_nl, Nat.add_sub_cancel, hx, Bool.or_eq_true, beq_iff_eq] at hs
    rcases hs with hs | hs
    · omega
    · rcases x with z | z | r | k
      · rfl
      · cases hs
      · rfl
      · rfl
/-- caught by a row of the table, stored at i -/
theorem g_catch {E name : String} {hh : List (Nat × Nat × Nat × Nat)} {pre suf : List (Nat × Nat × Nat × Nat)} {a b h ct i : Nat} {ls' : List (Option AV)} (fx : gw_FX X F G) (nc : gw_NC (cS X)) (het : (cC X).exceptionTable.toList = tableOf hh) (hsplit : hh = pre ++ (a, b, h, ct) :: suf)
    (hpass : ∀ z ∈ pre, z.2.2.2 ≠ 0 ∧ ∃ nm : String, Cond.classLink F.1 z.2.2.2 nm ∈ wsG ∧ (E, nm) ∈ gw_ncT) (hcov : covers ⟨a, b, h, ct⟩ pc = true) (h0 : ct ≠ 0) (hlink : Cond.classLink F.1 ct name ∈ wsG) (hcast : Cond.castable E name ∈ wsN)
    (d : gw_dc F.2.1 h (.astore i) 2 pc') (hi : i < F.2.2.1) (hs : gw_st ls i = true) (hl : ls.set i none = ls') (kk : gw_W X F G Z kc ks M σ pc' ls' []) : gw_X X F G Z kc ks M σ pc ls E := by
  obtain ⟨hd, rfl⟩ := d
  subst hl
  intro H locs lc rest ce q hR hS hL hcell hv hcl
  refine vx_catch (own := F.1) (name := name) fx.own (tableOf pre) ⟨a, b, h, ct⟩ (tableOf suf) (by rw [het, hsplit]; simp [tableOf]) ?_ hcov h0 (fx.ts _ hlink) (fx.nest hcast) hcell hv hcl ?_
  · intro z hz
    obtain ⟨w, hw, rfl⟩ := List.mem_map.mp hz
    obtain ⟨h1, nm, h2, h3⟩ := hpass w hw
    exact Or.inr ⟨h1, nm, fx.ts _ h2, nc _ h3⟩
  · exact lv_astore fx.exec fx.code hd (gw_has hL) hi rfl (fun lc' h' => kk H locs lc' hR hS (gw_stored0 hL hs (fun j x hj hx h1 => gw_filt j x hj hx h1) h') (fun v hv => by cases hv))
end GW
