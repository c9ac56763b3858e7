/-! THE LAYER, 6: calls, returns, throws -/
section GW
variable {X : Cx} {F : Fr} {G : Gl} {Z : State → Prop} {kc ks : Nat} {M : Mem} {σ : Sg} {pc pc' : Nat} {ls : List (Option AV)} {st : List AV}
theorem gw_LH_le {M' : Mem} {lc : Array Slot} {nL : Nat} (h : gw_LH G M lc nL ls) (hle : gw_le M M') : gw_LH G M' lc nL ls :=
  ⟨h.1, h.2.1, fun i v hv => ⟨gw_ok_le hle (h.2.2 i v hv).1, by rw [gw_cv_le hle (h.2.2 i v hv).1]; exact (h.2.2 i v hv).2⟩⟩
theorem gw_map_le {M' : Mem} (hle : gw_le M M') (ho : ∀ v ∈ st, gw_ok M.1 v) : st.map (gw_cv G M') = st.map (gw_cv G M) := List.map_congr_left fun v hv => gw_cv_le hle (ho v hv)
theorem gw_after {Qn : Option AV → Mem → Sg → Prop} {Qx : String → Prop} {mc ms : Nat} {H : Heap} {locs : List Loc} {lc : Array Slot} {st0 : List Value} {a : Array Value}
    (hr : vx_Run (cP X) (cL X) (cE X) (cR X) (cS X) (cM X) (cA X) (cB X) (cMe X) (cC X) H locs kc ks mc ms (F0 (cM X) pc lc st0) (st.map (gw_cv G M)) (gw_Q G M Qn a) (gw_XC G M σ Qx) (gA G))
    (hS : va_S (gA G) (cS X).heap H locs) (hL : gw_LH G M lc F.2.2.1 ls) (ho : ∀ v ∈ st, gw_ok M.1 v)
    (hx : ∀ E, Qx E → gw_X X F G Z (kc + mc) (ks + ms) M σ pc ls E)
    (kk : ∀ r M' σ', Qn r M' σ' → gw_le M M' → gw_W X F G Z (kc + mc) (ks + ms) M' σ' (pc + 3) ls (r.toList ++ st)) : gw_W0 X H locs kc ks Z (F0 (cM X) pc lc st0) := by
  intro T hT X0
  rcases hr T hT X0 with ⟨v, st₀, t, T', L, h0, X', hL', e1, e2, ⟨⟨r, M', σ', hv, hq, hle, hok, hR⟩, hF⟩, hs⟩ | ⟨q, st₀, t, T', L, E, ce, h0, X', hL', e1, e2, ⟨⟨hq, hR⟩, hF⟩, hce, hcv, hcl, hs⟩
  · obtain ⟨k1, k2, k3⟩ := vx_keep h0 e1 hS (fun q _ h => h) (fun q h => h) hL' hF
    have hok' : ∀ w ∈ r.toList ++ st, gw_ok M'.1 w := by
      intro w hw
      rcases List.mem_append.mp hw with h | h
      · exact hok w (Option.mem_toList.mp h)
      · exact gw_ok_le hle (ho w h)
    obtain ⟨t2, a1, b1⟩ := kk r M' σ' hq hle T'.heap (locs ++ L) lc (by rw [e1]; exact hR) k3 (gw_LH_le hL hle) hok' T' rfl X'
    cases hv
    refine ⟨t2, hs t2 ?_, b1⟩
    have e : (r.toList ++ st).map (gw_cv G M') = (r.map (gw_cv G M')).toList ++ st.map (gw_cv G M) := by
      rw [List.map_append, gw_map_le hle ho]
      cases r <;> rfl
    rw [e] at a1
    exact a1
  · obtain ⟨k1, k2, k3⟩ := vx_keep h0 e1 hS (fun q _ h => h) (fun q h => h) hL' hF
    obtain ⟨t2, a1, b1⟩ := hx E hq T'.heap (locs ++ L) lc (st.map (gw_cv G M)) ce q (by rw [e1]; exact hR) k3 hL (by rw [e1]; exact hce) hcv hcl T' rfl X'
    exact ⟨t2, hs.trans a1, b1⟩
/-- the words of a method's code and name -/
def gw_my (y : MethodName) (cc : ByteArray) (nL : Nat) (rt : Option FieldType) (n : Nat) : Prop :=
  Cond.code y cc nL rt ∈ wsG ∧ Cond.initialized y.cls ∈ wsG ∧ (y.cls ≠ "java/lang/invoke/MethodHandle" ∧ y.cls ≠ "java/lang/invoke/VarHandle" ∧ (parseMethodDescriptor y.desc).map (fun d => d.parameters.length) = some n) ∧ nL ≤ 45
def gw_mv (own : String) (idx : Nat) (y : MethodName) : Prop := Cond.methodLink own idx y ∈ wsG ∧ Cond.instanceMethod y ∈ wsG ∧ Cond.selects y.cls y y ∈ wsG
def gw_mst (own : String) (idx : Nat) (y : MethodName) : Prop := Cond.methodLink own idx y ∈ wsG ∧ Cond.static y ∈ wsG
def gw_mi (own : String) (idx : Nat) (y : MethodName) : Prop := y.name = "<init>" ∧ Cond.instanceMethod y ∈ wsG ∧ (Cond.methodLink own idx y ∈ wsG ∨ ∃ host, Cond.methodLinkNest own idx y host ∈ wsN)
def gw_wt (st : List AV) : Nat := (st.map fun v => match v with
  | .inr (.inl _) => 2
  | _ => 1).sum
theorem gw_wt_le (h : gw_wt st ≤ 8) : ((st.map (gw_cv G M)).map fun v => v.category).sum ≤ 8 := by
  have e : (st.map (gw_cv G M)).map (fun v => v.category) = st.map fun v => match v with
      | .inr (.inl _) => 2
      | _ => 1 := by
    rw [List.map_map]
    exact List.map_congr_left fun v _ => gw_cat G M v
  rw [e]; exact h
theorem gw_gi {y : MethodName} {cc : ByteArray} {nL : Nat} {rt : Option FieldType} {n : Nat} (hm : gw_my y cc nL rt n) : GoodIn wsG (gw_ws y cc nL rt) := fun w hw => (List.mem_cons.mp hw).elim (fun e => by rw [e]; exact gw_goodIn _ hm.1) (gw_goodIn w)
theorem gw_hRm {d' mc ms nL : Nat} (fx : gw_FX X F G) (hd : d' + 1 ≤ F.2.2.2.2.1) (hn : nL ≤ 45) : (gw_rm d' mc ms).frames + 1 ≤ (cR X).frames ∧ 8 + (nL + 11) + (gw_rm d' mc ms).locals ≤ (cR X).locals := by
  obtain ⟨h1, h2, -, -⟩ := fx.room
  refine ⟨Nat.le_trans hd h1, ?_⟩
  show 8 + (nL + 11) + 64 * d' ≤ _
  omega
theorem gw_PcOf {as : List AV} {H : Heap} {locs : List Loc} (fx : gw_FX X F G) (hR : gw_RH G M σ H) (hS : va_S (gA G) (cS X).heap H locs) (ho : ∀ v ∈ as, gw_ok M.1 v) : ∀ U : State, U.heap = H → (cS X).WarmedH U.vm → gw_Pc G M σ as (as.map (gw_cv G M)).toArray U := by
  intro U hU hW
  refine ⟨rfl, by rw [hU]; exact hR, va_K.moved hW.alike fx.K, ?_, ?_, ho⟩
  · rw [hU]; exact (fx.ex.frame hS).warm hW
  · rw [hU]; exact Nat.le_trans fx.base hS.1
theorem gw_okapp {as : List AV} {n : Nat} {st0 : List AV} (hst : st0 = as.reverse ++ st) (ho : ∀ v ∈ st0, gw_ok n v) : (∀ v ∈ as, gw_ok n v) ∧ ∀ v ∈ st, gw_ok n v := by
  subst hst
  exact ⟨fun v hv => ho v (List.mem_append_left _ (List.mem_reverse.mpr hv)), fun v hv => ho v (List.mem_append_right _ hv)⟩
theorem g_callV {idx n d' mc ms nL o ci N : Nat} {y : MethodName} {cc : ByteArray} {rt : Option FieldType} {as st0 : List AV} {Qn : Option AV → Mem → Sg → Prop} {Qx : String → Prop} {T : u_T} (fx : gw_FX X F G) (d : gw_dc F.2.1 pc (.invokevirtual idx) 3 pc') (hl : gw_mv F.1 idx y) (hm : gw_my y cc nL rt n)
    (hs : gw_Sp y cc nL rt d' mc ms (vR (some o) :: as) M σ Qn Qx) (hO : isO M o ci N) (hc : vwCl[ci]? = some (y.cls, T, N)) (hst : st0 = as.reverse ++ vR (some o) :: st) (hn : as.length = n) (hw : gw_wt st ≤ 8) (hd : d' + 1 ≤ F.2.2.2.2.1) (hk : kc + mc ≤ F.2.2.2.2.2.1 ∧ ks + ms ≤ F.2.2.2.2.2.2)
    (hx : ∀ E, Qx E → gw_X X F G Z (kc + mc) (ks + ms) M σ pc ls E) (kk : ∀ r M' σ', Qn r M' σ' → gw_le M M' → gw_W X F G Z (kc + mc) (ks + ms) M' σ' pc' ls (r.toList ++ st)) : gw_W X F G Z kc ks M σ pc ls st0 := by
  obtain ⟨hd9, rfl⟩ := d
  intro H locs lc hR hS hL ho
  obtain ⟨ho1, ho2⟩ := gw_okapp (as := vR (some o) :: as) (st := st) (by rw [hst]; simp) ho
  have hci := gw_ci hc
  obtain ⟨h1, h2, h3⟩ := hl
  obtain ⟨m1, m2, m3, m4⟩ := id hm
  have he : (gw_wl G M σ)[o]? = some (M.2.1 o, .inr (ci, (List.range N).map (gw_fv M σ ci o))) := by rw [gw_get hO.1, gw_enO hci hO.2]
  refine gw_after (a := (Value.ref (M.2.1 o) :: as.map (gw_cv G M)).toArray) (Qn := Qn) (Qx := Qx) (mc := mc) (ms := ms) (st := st) ?_ hS hL ho2 hx kk
  refine vx_runV (Ts := wsG) (y := y) (bytes := cc) (maxL := nL) (ret := rt) (ws := gw_ws y cc nL rt) (rm := gw_rm d' mc ms) (C := y.cls) (b := M.2.1 o) (As := as.map (gw_cv G M)) (n := n) (own := F.1) (index := idx) (cc := F.2.1) (nL := F.2.2.1) (Pc := gw_Pc G M σ (vR (some o) :: as)) ⟨fx.exec, fx.code, fx.ml, fx.own, fx.ts⟩ (hs (cL X) G fx.tr) ?_ ?_ rfl (by rw [List.length_map]; exact hn) hL.1 ?_ (lv_room (gw_wt_le hw)) hd9 ?_
  · exact ⟨callB_of n fx.ts (gw_gi hm) rfl rfl rfl (fx.ts _ m2) (fx.ts _ h1) m3 (gw_hRm fx hd m4), fx.ts _ h2, fx.ts _ h3⟩
  · exact ⟨gw_blind _ _ _ _, va_recv fx.K hR.1 hc he, gw_PcOf (as := vR (some o) :: as) fx hR hS ho1⟩
  · rw [hst, List.map_append, List.map_reverse]; rfl
  · obtain ⟨-, -, r1, r2⟩ := fx.room
    exact ⟨Nat.le_trans hk.1 r1, Nat.le_trans hk.2 r2⟩
theorem g_callS {idx n d' mc ms nL : Nat} {y : MethodName} {cc : ByteArray} {rt : Option FieldType} {as st0 : List AV} {Qn : Option AV → Mem → Sg → Prop} {Qx : String → Prop} (fx : gw_FX X F G) (d : gw_dc F.2.1 pc (.invokestatic idx) 3 pc') (hl : gw_mst F.1 idx y) (hm : gw_my y cc nL rt n)
    (hs : gw_Sp y cc nL rt d' mc ms as M σ Qn Qx) (hst : st0 = as.reverse ++ st) (hn : as.length = n) (hw : gw_wt st ≤ 8) (hd : d' + 1 ≤ F.2.2.2.2.1) (hk : kc + mc ≤ F.2.2.2.2.2.1 ∧ ks + ms ≤ F.2.2.2.2.2.2)
    (hx : ∀ E, Qx E → gw_X X F G Z (kc + mc) (ks + ms) M σ pc ls E) (kk : ∀ r M' σ', Qn r M' σ' → gw_le M M' → gw_W X F G Z (kc + mc) (ks + ms) M' σ' pc' ls (r.toList ++ st)) : gw_W X F G Z kc ks M σ pc ls st0 := by
  obtain ⟨hd9, rfl⟩ := d
  intro H locs lc hR hS hL ho
  obtain ⟨ho1, ho2⟩ := gw_okapp (as := as) (st := st) hst ho
  obtain ⟨h1, h2⟩ := hl
  obtain ⟨m1, m2, m3, m4⟩ := id hm
  refine gw_after (a := (as.map (gw_cv G M)).toArray) (Qn := Qn) (Qx := Qx) (mc := mc) (ms := ms) (st := st) ?_ hS hL ho2 hx kk
  refine vx_runS (Ts := wsG) (y := y) (bytes := cc) (maxL := nL) (ret := rt) (ws := gw_ws y cc nL rt) (rm := gw_rm d' mc ms) (As := as.map (gw_cv G M)) (n := n) (own := F.1) (index := idx) (cc := F.2.1) (nL := F.2.2.1) (Pc := gw_Pc G M σ as) ⟨fx.exec, fx.code, fx.ml, fx.own, fx.ts⟩ (hs (cL X) G fx.tr) ?_ ?_ rfl (by rw [List.length_map]; exact hn) hL.1 ?_ (lv_room (gw_wt_le hw)) hd9 ?_
  · exact ⟨callB_of n fx.ts (gw_gi hm) rfl rfl rfl (fx.ts _ m2) (fx.ts _ h1) m3 (gw_hRm fx hd m4), fx.ts _ h2⟩
  · exact ⟨gw_blind _ _ _ _, gw_PcOf (as := as) fx hR hS ho1⟩
  · rw [hst, List.map_append, List.map_reverse]
  · obtain ⟨-, -, r1, r2⟩ := fx.room
    exact ⟨Nat.le_trans hk.1 r1, Nat.le_trans hk.2 r2⟩
theorem g_callI {idx n d' mc ms nL o : Nat} {y : MethodName} {cc : ByteArray} {as st0 : List AV} {Qn : Option AV → Mem → Sg → Prop} {Qx : String → Prop} (fx : gw_FX X F G) (d : gw_dc F.2.1 pc (.invokespecial idx) 3 pc') (hl : gw_mi F.1 idx y) (hm : gw_my y cc nL none n)
    (hs : gw_Sp y cc nL none d' mc ms (vR (some o) :: as) M σ Qn Qx) (hst : st0 = as.reverse ++ vR (some o) :: st) (hn : as.length = n) (hw : gw_wt st ≤ 8) (hd : d' + 1 ≤ F.2.2.2.2.1) (hk : kc + mc ≤ F.2.2.2.2.2.1 ∧ ks + ms ≤ F.2.2.2.2.2.2)
    (hx : ∀ E, Qx E → gw_X X F G Z (kc + mc) (ks + ms) M σ pc ls E) (kk : ∀ r M' σ', Qn r M' σ' → gw_le M M' → gw_W X F G Z (kc + mc) (ks + ms) M' σ' pc' ls (r.toList ++ st)) : gw_W X F G Z kc ks M σ pc ls st0 := by
  obtain ⟨hd9, rfl⟩ := d
  intro H locs lc hR hS hL ho
  obtain ⟨ho1, ho2⟩ := gw_okapp (as := vR (some o) :: as) (st := st) (by rw [hst]; simp) ho
  obtain ⟨h0, h2, h1⟩ := hl
  obtain ⟨m1, m2, m3, m4⟩ := id hm
  have hst9 : st0.map (gw_cv G M) = (as.map (gw_cv G M)).reverse ++ .ref (M.2.1 o) :: st.map (gw_cv G M) := by rw [hst, List.map_append, List.map_reverse]; rfl
  have hf : kc + mc ≤ (cR X).cells ∧ ks + ms ≤ (cR X).slots := by
    obtain ⟨-, -, r1, r2⟩ := fx.room
    exact ⟨Nat.le_trans hk.1 r1, Nat.le_trans hk.2 r2⟩
  refine gw_after (a := (Value.ref (M.2.1 o) :: as.map (gw_cv G M)).toArray) (Qn := Qn) (Qx := Qx) (mc := mc) (ms := ms) (st := st) ?_ hS hL ho2 hx kk
  rcases h1 with h1 | ⟨host, h1⟩
  · refine vx_runI (Ts := wsG) (y := y) (bytes := cc) (maxL := nL) (ws := gw_ws y cc nL none) (rm := gw_rm d' mc ms) (b := M.2.1 o) (As := as.map (gw_cv G M)) (n := n) (own := F.1) (index := idx) (cc := F.2.1) (nL := F.2.2.1) (Pc := gw_Pc G M σ (vR (some o) :: as)) ⟨fx.exec, fx.code, fx.ml, fx.own, fx.ts⟩ (hs (cL X) G fx.tr) ?_ ?_ rfl (by rw [List.length_map]; exact hn) hL.1 hst9 (lv_room (gw_wt_le hw)) hd9 hf
    · exact ⟨callB_of n fx.ts (gw_gi hm) rfl rfl rfl (fx.ts _ m2) (fx.ts _ h1) m3 (gw_hRm fx hd m4), h0, fx.ts _ h2⟩
    · exact ⟨gw_blind _ _ _ _, gw_PcOf (as := vR (some o) :: as) fx hR hS ho1⟩
  · refine vx_runIN (Ts := wsG) (y := y) (host := host) (bytes := cc) (maxL := nL) (ws := gw_ws y cc nL none) (rm := gw_rm d' mc ms) (b := M.2.1 o) (As := as.map (gw_cv G M)) (n := n) (own := F.1) (index := idx) (cc := F.2.1) (nL := F.2.2.1) (Pc := gw_Pc G M σ (vR (some o) :: as)) ⟨fx.exec, fx.code, fx.ml, fx.own, fx.ts⟩ (hs (cL X) G fx.tr) ?_ ?_ rfl (by rw [List.length_map]; exact hn) hL.1 hst9 (lv_room (gw_wt_le hw)) hd9 hf
    · exact ⟨va_cnB n fx.ts (gw_gi hm) rfl rfl rfl (fx.ex.2.2.2.2.2.1 _ h1) (fx.ts _ m2) m3 (gw_hRm fx hd m4), h0, fx.ts _ h2⟩
    · exact ⟨gw_blind _ _ _ _, gw_PcOf (as := vR (some o) :: as) fx hR hS ho1⟩
theorem g_objInit {idx o : Nat} (fx : gw_FX X F G) (d : gw_dc F.2.1 pc (.invokespecial idx) 3 pc') (h1 : Cond.methodLink F.1 idx objectInit ∈ wsG) (h2 : Cond.instanceMethod objectInit ∈ wsG) (h3 : Cond.code objectInit ⟨#[0xb1]⟩ 1 none ∈ wsG) (hd : 1 ≤ F.2.2.2.2.1) (hw : gw_wt st ≤ 8)
    (kk : gw_W X F G Z kc ks M σ pc' ls st) : gw_W X F G Z kc ks M σ pc ls (vR (some o) :: st) := by
  obtain ⟨hd9, rfl⟩ := d
  intro H locs lc hR hS hL ho
  obtain ⟨r1, r2, -, -⟩ := fx.room
  have hw9 := lv_room (m := cM X) (pc := pc) (ls := lc) (rest := (vR (some o) :: st).map (gw_cv G M)) (gw_wt_le (G := G) (M := M) hw)
  exact W.objInit fx.exec fx.code fx.own (fx.ts _ h1) (fx.ts _ h2) (fx.ts _ h3) rfl (hL.1.trans fx.ml.symm) rfl hd9 (Nat.le_trans hd r1) (by omega) (kk H locs lc hR hS hL (gw_tl ho))
end GW
