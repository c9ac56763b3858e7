/-! THE LAYER, 7: ends of a method, throws, Math.max and min, makings -/
section GW
variable {X : Cx} {F : Fr} {G : Gl} {Z : State → Prop} {kc ks : Nat} {M : Mem} {σ : Sg} {pc pc' : Nat} {ls : List (Option AV)} {st : List AV}
variable {M0 : Mem} {σ0 : Sg} {Qn : Option AV → Mem → Sg → Prop} {Qx : String → Prop} {mc ms : Nat}
theorem gw_Qof {H : Heap} {locs : List Loc} {r : Option AV} (hR : gw_RH G M σ H) (hS : va_S (gA G) (cS X).heap H locs) (hq : Qn r M σ) (hle : gw_le M0 M) (hok : ∀ v, r = some v → gw_ok M.1 v) (a : Array Value) : ∀ t : State, t.heap = H → gw_Q G M0 Qn a (cS X) (.returned (r.map (gw_cv G M))) t :=
  fun t ht => ⟨⟨r, M, σ, rfl, hq, hle, hok, by rw [ht]; exact hR⟩, hS.F ht⟩
theorem g_iret {x : Int} (fx : gw_FX X F G) (hr : F.2.2.2.1 = some .int) (d : decode F.2.1 pc = .ok (.ireturn, 1)) (hk : kc ≤ mc) (hs : ks ≤ ms) (hle : gw_le M0 M) (hq : Qn (some (vI x)) M σ) : gw_W X F G (gw_Z X G M0 σ0 Qn Qx mc ms) kc ks M σ pc ls [vI x] := by
  intro H locs lc hR hS hL ho
  refine W.widen hk hs (vx_ret ?_)
  exact W.iret (v := Int32.ofInt x) fx.exec fx.code (fx.ret.trans hr) (fun t ht _ => gw_Qof hR hS hq hle (fun v hv => by cases hv; exact gw_hd ho) _ t ht) hS.2.2 d fx.locks
theorem g_zret {x : Int} (fx : gw_FX X F G) (hr : F.2.2.2.1 = some .boolean) (d : decode F.2.1 pc = .ok (.ireturn, 1)) (hx : x = 0 ∨ x = 1) (hk : kc ≤ mc) (hs : ks ≤ ms) (hle : gw_le M0 M) (hq : Qn (some (vI x)) M σ) : gw_W X F G (gw_Z X G M0 σ0 Qn Qx mc ms) kc ks M σ pc ls [vI x] := by
  intro H locs lc hR hS hL ho
  refine W.widen hk hs (vx_ret ?_)
  have hn : narrow .boolean (.int (Int32.ofInt x)) = .int (Int32.ofInt x) := by rcases hx with rfl | rfl <;> decide
  exact W.zret (v := Int32.ofInt x) fx.exec fx.code (fx.ret.trans hr) hn (fun t ht _ => gw_Qof hR hS hq hle (fun v hv => by cases hv; exact gw_hd ho) _ t ht) hS.2.2 d fx.locks
theorem g_cret {x : Int} (fx : gw_FX X F G) (hr : F.2.2.2.1 = some .char) (d : decode F.2.1 pc = .ok (.ireturn, 1)) (hx : 0 ≤ x ∧ x < 65536) (hk : kc ≤ mc) (hs : ks ≤ ms) (hle : gw_le M0 M) (hq : Qn (some (vI x)) M σ) : gw_W X F G (gw_Z X G M0 σ0 Qn Qx mc ms) kc ks M σ pc ls [vI x] := by
  intro H locs lc hR hS hL ho
  refine W.widen hk hs (vx_ret ?_)
  have e : Int32.ofInt x = nI x.toNat := by
    rw [← Int32.toInt_inj, toI_of (show okI x by unfold okI; omega), nI_toInt (by omega)]; omega
  have hn : narrow .char (.int (Int32.ofInt x)) = .int (Int32.ofInt x) := by rw [e]; exact (pk_charN (by omega)).1
  exact W.zret (v := Int32.ofInt x) fx.exec fx.code (fx.ret.trans hr) hn (fun t ht _ => gw_Qof hR hS hq hle (fun v hv => by cases hv; exact gw_hd ho) _ t ht) hS.2.2 d fx.locks
theorem g_bret {x : Int} (fx : gw_FX X F G) (hr : F.2.2.2.1 = some .byte) (d : decode F.2.1 pc = .ok (.ireturn, 1)) (hx : x = 0 ∨ x = 1) (hk : kc ≤ mc) (hs : ks ≤ ms) (hle : gw_le M0 M) (hq : Qn (some (vI x)) M σ) : gw_W X F G (gw_Z X G M0 σ0 Qn Qx mc ms) kc ks M σ pc ls [vI x] := by
  intro H locs lc hR hS hL ho
  refine W.widen hk hs (vx_ret ?_)
  have hn : narrow .byte (.int (Int32.ofInt x)) = .int (Int32.ofInt x) := by rcases hx with rfl | rfl <;> decide
  exact W.zret (v := Int32.ofInt x) fx.exec fx.code (fx.ret.trans hr) hn (fun t ht _ => gw_Qof hR hS hq hle (fun v hv => by cases hv; exact gw_hd ho) _ t ht) hS.2.2 d fx.locks
theorem g_lret {x : Int} (fx : gw_FX X F G) (hr : F.2.2.2.1 = some .long) (d : decode F.2.1 pc = .ok (.lreturn, 1)) (hk : kc ≤ mc) (hs : ks ≤ ms) (hle : gw_le M0 M) (hq : Qn (some (vJ x)) M σ) : gw_W X F G (gw_Z X G M0 σ0 Qn Qx mc ms) kc ks M σ pc ls [vJ x] := by
  intro H locs lc hR hS hL ho
  refine W.widen hk hs (vx_ret ?_)
  exact W.lret (v := Int64.ofInt x) fx.exec fx.code (fx.ret.trans hr) (fun t ht _ => gw_Qof hR hS hq hle (fun v hv => by cases hv; exact gw_hd ho) _ t ht) hS.2.2 d fx.locks
theorem g_vret (fx : gw_FX X F G) (hr : F.2.2.2.1 = none) (d : decode F.2.1 pc = .ok (.return_, 1)) (hk : kc ≤ mc) (hs : ks ≤ ms) (hle : gw_le M0 M) (hq : Qn none M σ) : gw_W X F G (gw_Z X G M0 σ0 Qn Qx mc ms) kc ks M σ pc ls [] := by
  intro H locs lc hR hS hL ho
  refine W.widen hk hs (vx_ret ?_)
  exact W.vret fx.exec fx.code (fx.ret.trans hr) (fun t ht _ => gw_Qof (r := none) hR hS hq hle (fun v hv => by cases hv) _ t ht) hS.2.2 d fx.locks
theorem g_aret {o : Nat} {rt : FieldType} (fx : gw_FX X F G) (hr : F.2.2.2.1 = some rt) (hrt : (∃ n, rt = .object n) ∨ ∃ t, rt = .array t) (d : decode F.2.1 pc = .ok (.areturn, 1)) (hk : kc ≤ mc) (hs : ks ≤ ms) (hle : gw_le M0 M) (hq : Qn (some (vR (some o))) M σ) : gw_W X F G (gw_Z X G M0 σ0 Qn Qx mc ms) kc ks M σ pc ls [vR (some o)] := by
  intro H locs lc hR hS hL ho
  refine W.widen hk hs (vx_ret ?_)
  exact W.aret (v := .ref (M.2.1 o)) fx.exec fx.code (fx.ret.trans hr) hrt (Or.inr ⟨_, rfl⟩) (fun t ht _ => gw_Qof (r := some (vR (some o))) hR hS hq hle (fun v hv => by cases hv; exact gw_hd ho) _ t ht) hS.2.2 d fx.locks
/-- a throw that no row of the table takes leaves the method -/
theorem g_out {E : String} (fx : gw_FX X F G) (het : ∀ x ∈ (cC X).exceptionTable.toList, False) (hk : kc ≤ mc) (hs : ks ≤ ms) (hx : Qx E) : gw_X X F G (gw_Z X G M σ Qn Qx mc ms) kc ks M σ pc ls E := by
  intro H locs lc rest ce q hR hS hL hcell hv hcl
  exact vx_out (fun x h => (het x h).elim) fx.locks hcell hv hcl (fun t ht _ => ⟨⟨hx, by rw [ht]; exact hR⟩, hS.F ht⟩) hS.2.2 hk hs
def gw_up : List String := ["java/lang/RuntimeException", "java/lang/Exception"]
/-- what the tables say of 'new cls(text)' by the constants ik, ic of class own -/
def gw_th (own : String) (ik ic : Nat) (cls : String) : Prop := Bundle.fit cls = true ∧ Cond.classLink own ik cls ∈ wsG ∧ Cond.initialized cls ∈ wsG ∧ (∀ w ∈ vx_atS own ic cls gw_up, w ∈ wsG ∨ w ∈ wsN) ∧ ∀ w ∈ Cond.classLink own ik cls :: Cond.initialized cls :: vx_atS own ic cls gw_up, vx_ot w = true
theorem gw_up_fit : ∀ n ∈ gw_up, Bundle.fit n = true := by decide +kernel
theorem gw_ext {H H1 : Heap} (hR : gw_RH G M σ H) (hq : ∀ q : Nat, q < H.size → H1[q]? = H[q]?) : gw_RH G M σ H1 :=
  ⟨hR.1.kept (fun k x hx => hq x.1 ((hR.1 k x hx).lt)), hR.2⟩
theorem g_throwS {ik is ic j : Nat} {cls text : String} (fx : gw_FX X F G) (het : ∀ x ∈ (cC X).exceptionTable.toList, False) (ht : gw_th F.1 ik ic cls) (hstr : (F.1, is, text, j) ∈ gw_strT)
    (d0 : decode F.2.1 pc = .ok (.new ik, 3)) (d3 : decode F.2.1 (pc + 3) = .ok (.dup, 1)) (d4 : decode F.2.1 (pc + 4) = .ok (.ldc is, 2)) (d6 : decode F.2.1 (pc + 6) = .ok (.invokespecial ic, 3)) (d9 : decode F.2.1 (pc + 9) = .ok (.athrow, 1))
    (hd : 6 ≤ F.2.2.2.2.1) (hmc : mc = F.2.2.2.2.2.1) (hms : ms = F.2.2.2.2.2.2) (hw : gw_wt st ≤ 8) (hk : kc + 1 ≤ mc) (hs : ks + 6 ≤ ms) (hx : Qx cls) : gw_W X F G (gw_Z X G M σ Qn Qx mc ms) kc ks M σ pc ls st := by
  intro H locs lc hR hS hL ho
  obtain ⟨t1, t2, t3, t4, t5⟩ := ht
  obtain ⟨r1, r2, r3, r4⟩ := fx.room
  have hw9 := gw_wt_le (G := G) (M := M) hw
  refine vx_throwS (A := gA G) (names := gw_up) (text := text) (sa := gex G j) fx.exec fx.code fx.tr fx.own t1 gw_up_fit (fx.ts _ t2) (fx.ts _ t3) (fx.ex.1 _ hstr) (fun w hw => (t4 w hw).elim (fx.ts w) (fun h => fx.nest h)) t5 fx.ex.2.2.1 fx.ex.2.2.2.1 hS (hL.1.trans fx.ml.symm) d0 d3 d4 d6 d9 (fun x h => (het x h).elim) ?_ ?_ (by omega) (by omega) fx.locks ?_ hS.2.2 hk hs
  · show 2 + 3 < _; omega
  · show _ + (13 * (2 + 1) + 43) ≤ _; omega
  · intro t _ hsz hq
    exact ⟨⟨hx, gw_ext hR hq⟩, Nat.le_trans hS.1 hsz, fun q h1 h2 => (hq q (Nat.lt_of_lt_of_le h1 hS.1)).trans (hS.2.1 q h1 h2)⟩
theorem g_throwSW {ik is ic j : Nat} {cls text : String} (fx : gw_FX X F G) (het : ∀ x ∈ (cC X).exceptionTable.toList, False) (ht : gw_th F.1 ik ic cls) (hstr : (F.1, is, text, j) ∈ gw_strT)
    (d0 : decode F.2.1 pc = .ok (.new ik, 3)) (d3 : decode F.2.1 (pc + 3) = .ok (.dup, 1)) (d4 : decode F.2.1 (pc + 4) = .ok (.ldc_w is, 3)) (d7 : decode F.2.1 (pc + 7) = .ok (.invokespecial ic, 3)) (d10 : decode F.2.1 (pc + 10) = .ok (.athrow, 1))
    (hd : 6 ≤ F.2.2.2.2.1) (hmc : mc = F.2.2.2.2.2.1) (hms : ms = F.2.2.2.2.2.2) (hw : gw_wt st ≤ 8) (hk : kc + 1 ≤ mc) (hs : ks + 6 ≤ ms) (hx : Qx cls) : gw_W X F G (gw_Z X G M σ Qn Qx mc ms) kc ks M σ pc ls st := by
  intro H locs lc hR hS hL ho
  obtain ⟨t1, t2, t3, t4, t5⟩ := ht
  obtain ⟨r1, r2, r3, r4⟩ := fx.room
  have hw9 := gw_wt_le (G := G) (M := M) hw
  refine vx_throwSW (A := gA G) (names := gw_up) (text := text) (sa := gex G j) fx.exec fx.code fx.tr fx.own t1 gw_up_fit (fx.ts _ t2) (fx.ts _ t3) (fx.ex.1 _ hstr) (fun w hw => (t4 w hw).elim (fx.ts w) (fun h => fx.nest h)) t5 fx.ex.2.2.1 fx.ex.2.2.2.1 hS (hL.1.trans fx.ml.symm) d0 d3 d4 d7 d10 (fun x h => (het x h).elim) ?_ ?_ (by omega) (by omega) fx.locks ?_ hS.2.2 hk hs
  · show 2 + 3 < _; omega
  · show _ + (13 * (2 + 1) + 43) ≤ _; omega
  · intro t _ hsz hq
    exact ⟨⟨hx, gw_ext hR hq⟩, Nat.le_trans hS.1 hsz, fun q h1 h2 => (hq q (Nat.lt_of_lt_of_le h1 hS.1)).trans (hS.2.1 q h1 h2)⟩
def gw_mm (own : String) (idx : Nat) (y : MethodName) (cc : ByteArray) : Prop := Cond.methodLink own idx y ∈ wsG ∧ Cond.static y ∈ wsG ∧ Cond.initialized "java/lang/Math" ∈ wsG ∧ Cond.code y cc 2 (some .int) ∈ wsG
theorem g_max {idx : Nat} {x y : Int} (fx : gw_FX X F G) (d : gw_dc F.2.1 pc (.invokestatic idx) 3 pc') (hm : gw_mm F.1 idx Lib.Math.max.name Lib.Math.max.code) (hd : 1 ≤ F.2.2.2.2.1) (hc : kc ≤ F.2.2.2.2.2.1) (hs : ks ≤ F.2.2.2.2.2.2) (hw : gw_wt st ≤ 8) (kk : gw_W X F G Z kc ks M σ pc' ls (vI (max x y) :: st)) : gw_W X F G Z kc ks M σ pc ls (vI y :: vI x :: st) := by
  obtain ⟨hd9, rfl⟩ := d
  intro H locs lc hR hS hL ho
  obtain ⟨r1, r2, r3, r4⟩ := fx.room
  have oy : okI y := gw_hd ho
  have ox : okI x := gw_hd (gw_tl ho)
  have hw9 := gw_wt_le (G := G) (M := M) hw
  have hk := kk H locs lc hR hS hL (gw_cons (show okI (max x y) by unfold okI at *; omega) (gw_tl (gw_tl ho)))
  have e : Int32.ofInt (max x y) = if Int32.ofInt x < Int32.ofInt y then Int32.ofInt y else Int32.ofInt x := by
    by_cases h : x < y
    · rw [if_pos ((i_lt ox oy).mpr h), show max x y = y by omega]
    · rw [if_neg (fun q => h ((i_lt ox oy).mp q)), show max x y = x by omega]
  simp only [List.map_cons, gw_cv, e] at hk
  exact va_mmax fx.exec fx.code (fx.ml.trans hL.1.symm) fx.own (fx.ts _ hm.1) (fx.ts _ hm.2.1) (fx.ts _ hm.2.2.1) (fx.ts _ hm.2.2.2) (Nat.le_trans hd r1) (by omega) (Nat.le_trans hc r3) (Nat.le_trans hs r4) hd9 hk
theorem g_min {idx : Nat} {x y : Int} (fx : gw_FX X F G) (d : gw_dc F.2.1 pc (.invokestatic idx) 3 pc') (hm : gw_mm F.1 idx Lib.Math.min.name Lib.Math.min.code) (hd : 1 ≤ F.2.2.2.2.1) (hc : kc ≤ F.2.2.2.2.2.1) (hs : ks ≤ F.2.2.2.2.2.2) (hw : gw_wt st ≤ 8) (kk : gw_W X F G Z kc ks M σ pc' ls (vI (min x y) :: st)) : gw_W X F G Z kc ks M σ pc ls (vI y :: vI x :: st) := by
  obtain ⟨hd9, rfl⟩ := d
  intro H locs lc hR hS hL ho
  obtain ⟨r1, r2, r3, r4⟩ := fx.room
  have oy : okI y := gw_hd ho
  have ox : okI x := gw_hd (gw_tl ho)
  have hw9 := gw_wt_le (G := G) (M := M) hw
  have hk := kk H locs lc hR hS hL (gw_cons (show okI (min x y) by unfold okI at *; omega) (gw_tl (gw_tl ho)))
  have e : Int32.ofInt (min x y) = if Int32.ofInt y < Int32.ofInt x then Int32.ofInt y else Int32.ofInt x := by
    by_cases h : y < x
    · rw [if_pos ((i_lt oy ox).mpr h), show min x y = y by omega]
    · rw [if_neg (fun q => h ((i_lt oy ox).mp q)), show min x y = x by omega]
  simp only [List.map_cons, gw_cv, e] at hk
  exact va_mmin fx.exec fx.code (fx.ml.trans hL.1.symm) fx.own (fx.ts _ hm.1) (fx.ts _ hm.2.1) (fx.ts _ hm.2.2.1) (fx.ts _ hm.2.2.2) (Nat.le_trans hd r1) (by omega) (Nat.le_trans hc r3) (Nat.le_trans hs r4) hd9 hk
end GW
