/-! the throw of NoSuchElementException as a row of the layer -/
def nseT (own : String) (ic : Nat) : List Cond := (nseA own ic).filter vx_no
section NSE2
variable {p : Program} {l : Launch} {e : Env} {R : Room} {s : State} {m : MethodId} {args : Array Value} {below : List Frame} {meth : Method} {c : Code} {H : Heap} {locs : List Loc} {cells slots : Nat}
variable {free : Addr → Prop} {ls : Array Slot} {rest : List Value} {Qc : Array Value → State → Outcome → State → Prop} {XC : String → State → State → Prop}
theorem nse_throw {cc : ByteArray} {pc : Nat} (hexec : p.tables.exec = Jvm.exec) (hb : c.code = cc) (hl : l.stackTraces = false) {own text : String} {ik is ic mc ms sa : Nat} {A : Nat → Prop}
    (hown : s.vm.findClass own = some m.cls) (hk : (Cond.classLink own ik nseN).before args s = true) (hini : (Cond.initialized nseN).before args s = true) (hstr : vk_R own is text sa s) (hat : ∀ w ∈ nseT own ic, w.before args s = true)
    (hgood : ∀ w ∈ Cond.classLink own ik nseN :: Cond.initialized nseN :: nseT own ic, vx_ot w = true)
    (hU : vx_Zq Bundle.tN "UNASSIGNED_STACK" Bundle.steD A s s.heap) (hN : vx_Zq Bundle.tN "SUPPRESSED_SENTINEL" Bundle.listD A s s.heap) (hS : va_S A s.heap H locs) (hsize : ls.size = c.maxLocals)
    (d0 : decode cc pc = .ok (.new ik, 3)) (d3 : decode cc (pc + 3) = .ok (.dup, 1)) (d4 : decode cc (pc + 4) = .ok (.ldc is, 2)) (d6 : decode cc (pc + 6) = .ok (.invokespecial ic, 3)) (d9 : decode cc (pc + 9) = .ok (.athrow, 1))
    (hout : ∀ x ∈ c.exceptionTable.toList, covers x (pc + 9) = false) (hRf : 5 < R.frames) (hRl : (rest.map fun v => v.category).sum + 82 ≤ R.locals) (hRc : cells + 1 ≤ R.cells) (hRs : slots + 6 ≤ R.slots) (hlocks : meth.locks = false)
    (hx : ∀ t : State, s.vm.Alike t.vm → H.size ≤ t.heap.size → (∀ q : Nat, q < H.size → t.heap[q]? = H[q]?) → XC nseN s t) (hf : ∀ z ∈ locs, free z.base) (hc : cells + 1 ≤ mc) (hs : slots + 6 ≤ ms) :
    W p l e R s m args below meth c H locs cells slots (vx_MQ below Qc XC args s mc ms free) (F0 m pc ls rest) := by
  intro T hT X
  have htr : e.platform.stackTraces = false := by rw [X.admits.platform]; exact hl
  have Y := vx_rebase X (R' := { frames := R.frames, locals := R.locals, cells := 1, slots := 6 }) (Nat.le_refl _) (Nat.le_refl _) hRc hRs
  obtain ⟨u, hu⟩ : ∃ u, u = (T.setVm s.vm).setFrames (.invoking m args :: below) := ⟨_, rfl⟩
  rw [← hu] at Y
  have uvm : u.vm = s.vm := by rw [hu]; rfl
  have uhp : u.heap = H := by rw [hu]; exact hT
  have uW : s.WarmedH u.vm := by rw [uvm]; exact State.WarmedH.refl s
  have at1 : ∀ w ∈ nseT own ic, w.before args u = true := fun w hw => vx_ot_at uW uvm.symm (hgood w (List.mem_cons_of_mem _ (List.mem_cons_of_mem _ hw))) (hat w hw)
  have qU : vx_Zq Bundle.tN "UNASSIGNED_STACK" Bundle.steD A u u.heap := by rw [uhp]; exact vx_Zq.moved uW.alike (hU.kept hS.2.1)
  have qN : vx_Zq Bundle.tN "SUPPRESSED_SENTINEL" Bundle.listD A u u.heap := by rw [uhp]; exact vx_Zq.moved uW.alike (hN.kept hS.2.1)
  have at2 : ∀ w ∈ nseA own ic, w.before args u = true := vx_own at1 (vx_isRefq qU.1) (vx_isRefq qN.1) qU.2.word qN.2.word
  have uown : u.vm.findClass own = some m.cls := by rw [uvm]; exact hown
  obtain ⟨v1, cX, kX, hfX, hkX, -, -, X1, st1⟩ := Y.newCold hexec (own := own) (C := nseN) (index := ik) (n := 6) uown
    (vx_ot_at uW uvm.symm (hgood _ List.mem_cons_self) hk) (at2 _ (nse_l (List.mem_of_getElem? (i := 1) rfl))) (vx_ot_at uW uvm.symm (hgood _ (List.mem_cons_of_mem _ List.mem_cons_self)) hini)
    (g := F0 m pc ls rest) rfl (by rw [hb]; exact d0) (Nat.le_refl _) (Nat.le_refl _)
  generalize hV : (T.setVm v1).pushCell { cls := cX, slots := kX.instanceTypes.map defaultValue, vm := .none } = V at X1 st1
  have hcell : V.heap[T.heap.size]? = some (freshCell cX kX) := by rw [← hV]; exact State.heap_pushCell_size _ _
  have hcat : (Value.ref T.heap.size).category = 1 := rfl
  have d3' : decode c.code (pc + 3) = .ok (.dup, 1) := by rw [hb]; exact d3
  have d4' : decode c.code (pc + 4) = .ok (.ldc is, 2) := by rw [hb]; exact d4
  have ustr : vk_R own is text sa u := vk_R.warm uW hstr
  obtain ⟨U, go, hrun, hend, hW, hsame, ce, hce, hcc, hcv⟩ := nse_ctor X1 hexec htr (ic := ic) uown at2 (fun x hx => nomatch hx) hfX hkX hcell (by rw [uhp, hT]; exact Nat.le_refl _) (msg := .ref sa) rfl
    (g := { method := m, pc := pc + 6, locals := ls, stack := .ref sa :: .ref T.heap.size :: .ref T.heap.size :: rest, locked := none }) rfl hsize rfl rfl (rest := rest) rfl
    (by rw [hb]; exact d6) (by rw [hb]; exact d9) hout hRf (by simp only [List.map_cons, List.sum_cons, hcat]; show 2 * 0 + (1 + _) + 81 ≤ R.locals; omega) hlocks
  obtain ⟨f1, f2⟩ := vx_frame hsame
  rw [uhp] at f1 f2
  have sW : s.WarmedH U.vm := State.WarmedH.trans uW hW
  have hcl : s.vm.findClass nseN = some ce.cls := by rw [hcc, ← uvm]; exact hfX
  have all : s.sameButNew ({ U with vm := s.vm } : State) locs mc ms := by
    subst hu
    obtain ⟨e1, e2⟩ := hsame
    rw [State.setFrames_setFrames] at e1
    have h3 := X.same.trans (show (T.setVm s.vm).sameButNew ({ U with vm := s.vm } : State) [] (0 + 1) (0 + 6) from ⟨e1, e2⟩)
    rw [List.append_nil] at h3
    exact h3.mono hc hs
  refine ⟨U, ?_, .threw T.heap.size, hrun, hend, Or.inr ⟨T.heap.size, rfl, nseN, ce, locs, hx U sW.alike f1 (fun q hq => f2 q hq (fun z hz => nomatch hz)), hce, hcv, hcl, sW, all, hf⟩⟩
  refine st1 _ ?_
  show Steps p.tables e below (V.setTop { method := m, pc := pc + 3, locals := ls, stack := .ref T.heap.size :: rest, locked := none }) _
  jvm_step X1.here [X1.here.top, hexec, d3', Value.category]
  exact X1.ldcString hexec (own := own) (text := text) (index := is) (a := sa) uown ustr.1 ustr.2
    (g := { method := m, pc := pc + 4, locals := ls, stack := .ref T.heap.size :: .ref T.heap.size :: rest, locked := none }) rfl d4' _ go
theorem nse_throwW {cc : ByteArray} {pc : Nat} (hexec : p.tables.exec = Jvm.exec) (hb : c.code = cc) (hl : l.stackTraces = false) {own text : String} {ik is ic mc ms sa : Nat} {A : Nat → Prop}
    (hown : s.vm.findClass own = some m.cls) (hk : (Cond.classLink own ik nseN).before args s = true) (hini : (Cond.initialized nseN).before args s = true) (hstr : vk_R own is text sa s) (hat : ∀ w ∈ nseT own ic, w.before args s = true)
    (hgood : ∀ w ∈ Cond.classLink own ik nseN :: Cond.initialized nseN :: nseT own ic, vx_ot w = true)
    (hU : vx_Zq Bundle.tN "UNASSIGNED_STACK" Bundle.steD A s s.heap) (hN : vx_Zq Bundle.tN "SUPPRESSED_SENTINEL" Bundle.listD A s s.heap) (hS : va_S A s.heap H locs) (hsize : ls.size = c.maxLocals)
    (d0 : decode cc pc = .ok (.new ik, 3)) (d3 : decode cc (pc + 3) = .ok (.dup, 1)) (d4 : decode cc (pc + 4) = .ok (.ldc_w is, 3)) (d6 : decode cc (pc + 7) = .ok (.invokespecial ic, 3)) (d9 : decode cc (pc + 10) = .ok (.athrow, 1))
    (hout : ∀ x ∈ c.exceptionTable.toList, covers x (pc + 10) = false) (hRf : 5 < R.frames) (hRl : (rest.map fun v => v.category).sum + 82 ≤ R.locals) (hRc : cells + 1 ≤ R.cells) (hRs : slots + 6 ≤ R.slots) (hlocks : meth.locks = false)
    (hx : ∀ t : State, s.vm.Alike t.vm → H.size ≤ t.heap.size → (∀ q : Nat, q < H.size → t.heap[q]? = H[q]?) → XC nseN s t) (hf : ∀ z ∈ locs, free z.base) (hc : cells + 1 ≤ mc) (hs : slots + 6 ≤ ms) :
    W p l e R s m args below meth c H locs cells slots (vx_MQ below Qc XC args s mc ms free) (F0 m pc ls rest) := by
  intro T hT X
  have htr : e.platform.stackTraces = false := by rw [X.admits.platform]; exact hl
  have Y := vx_rebase X (R' := { frames := R.frames, locals := R.locals, cells := 1, slots := 6 }) (Nat.le_refl _) (Nat.le_refl _) hRc hRs
  obtain ⟨u, hu⟩ : ∃ u, u = (T.setVm s.vm).setFrames (.invoking m args :: below) := ⟨_, rfl⟩
  rw [← hu] at Y
  have uvm : u.vm = s.vm := by rw [hu]; rfl
  have uhp : u.heap = H := by rw [hu]; exact hT
  have uW : s.WarmedH u.vm := by rw [uvm]; exact State.WarmedH.refl s
  have at1 : ∀ w ∈ nseT own ic, w.before args u = true := fun w hw => vx_ot_at uW uvm.symm (hgood w (List.mem_cons_of_mem _ (List.mem_cons_of_mem _ hw))) (hat w hw)
  have qU : vx_Zq Bundle.tN "UNASSIGNED_STACK" Bundle.steD A u u.heap := by rw [uhp]; exact vx_Zq.moved uW.alike (hU.kept hS.2.1)
  have qN : vx_Zq Bundle.tN "SUPPRESSED_SENTINEL" Bundle.listD A u u.heap := by rw [uhp]; exact vx_Zq.moved uW.alike (hN.kept hS.2.1)
  have at2 : ∀ w ∈ nseA own ic, w.before args u = true := vx_own at1 (vx_isRefq qU.1) (vx_isRefq qN.1) qU.2.word qN.2.word
  have uown : u.vm.findClass own = some m.cls := by rw [uvm]; exact hown
  obtain ⟨v1, cX, kX, hfX, hkX, -, -, X1, st1⟩ := Y.newCold hexec (own := own) (C := nseN) (index := ik) (n := 6) uown
    (vx_ot_at uW uvm.symm (hgood _ List.mem_cons_self) hk) (at2 _ (nse_l (List.mem_of_getElem? (i := 1) rfl))) (vx_ot_at uW uvm.symm (hgood _ (List.mem_cons_of_mem _ List.mem_cons_self)) hini)
    (g := F0 m pc ls rest) rfl (by rw [hb]; exact d0) (Nat.le_refl _) (Nat.le_refl _)
  generalize hV : (T.setVm v1).pushCell { cls := cX, slots := kX.instanceTypes.map defaultValue, vm := .none } = V at X1 st1
  have hcell : V.heap[T.heap.size]? = some (freshCell cX kX) := by rw [← hV]; exact State.heap_pushCell_size _ _
  have hcat : (Value.ref T.heap.size).category = 1 := rfl
  have d3' : decode c.code (pc + 3) = .ok (.dup, 1) := by rw [hb]; exact d3
  have d4' : decode c.code (pc + 4) = .ok (.ldc_w is, 3) := by rw [hb]; exact d4
  have ustr : vk_R own is text sa u := vk_R.warm uW hstr
  obtain ⟨U, go, hrun, hend, hW, hsame, ce, hce, hcc, hcv⟩ := nse_ctor X1 hexec htr (ic := ic) uown at2 (fun x hx => nomatch hx) hfX hkX hcell (by rw [uhp, hT]; exact Nat.le_refl _) (msg := .ref sa) rfl
    (g := { method := m, pc := pc + 7, locals := ls, stack := .ref sa :: .ref T.heap.size :: .ref T.heap.size :: rest, locked := none }) rfl hsize rfl rfl (rest := rest) rfl
    (by rw [hb]; exact d6) (by rw [hb]; exact d9) hout hRf (by simp only [List.map_cons, List.sum_cons, hcat]; show 2 * 0 + (1 + _) + 81 ≤ R.locals; omega) hlocks
  obtain ⟨f1, f2⟩ := vx_frame hsame
  rw [uhp] at f1 f2
  have sW : s.WarmedH U.vm := State.WarmedH.trans uW hW
  have hcl : s.vm.findClass nseN = some ce.cls := by rw [hcc, ← uvm]; exact hfX
  have all : s.sameButNew ({ U with vm := s.vm } : State) locs mc ms := by
    subst hu
    obtain ⟨e1, e2⟩ := hsame
    rw [State.setFrames_setFrames] at e1
    have h3 := X.same.trans (show (T.setVm s.vm).sameButNew ({ U with vm := s.vm } : State) [] (0 + 1) (0 + 6) from ⟨e1, e2⟩)
    rw [List.append_nil] at h3
    exact h3.mono hc hs
  refine ⟨U, ?_, .threw T.heap.size, hrun, hend, Or.inr ⟨T.heap.size, rfl, nseN, ce, locs, hx U sW.alike f1 (fun q hq => f2 q hq (fun z hz => nomatch hz)), hce, hcv, hcl, sW, all, hf⟩⟩
  refine st1 _ ?_
  show Steps p.tables e below (V.setTop { method := m, pc := pc + 3, locals := ls, stack := .ref T.heap.size :: rest, locked := none }) _
  jvm_step X1.here [X1.here.top, hexec, d3', Value.category]
  exact X1.ldcStringW hexec (own := own) (text := text) (index := is) (a := sa) uown ustr.1 ustr.2
    (g := { method := m, pc := pc + 4, locals := ls, stack := .ref T.heap.size :: .ref T.heap.size :: rest, locked := none }) rfl d4' _ go
end NSE2
section GW
variable {X : Cx} {F : Fr} {G : Gl} {kc ks mc ms : Nat} {M : Mem} {σ : Sg} {pc : Nat} {ls : List (Option AV)} {st : List AV} {Qn : Option AV → Mem → Sg → Prop} {Qx : String → Prop}
def gw_thN (own : String) (ik ic : Nat) : Prop := Cond.classLink own ik nseN ∈ wsG ∧ Cond.initialized nseN ∈ wsG ∧ (∀ w ∈ nseT own ic, w ∈ wsG ∨ w ∈ wsN) ∧ ∀ w ∈ Cond.classLink own ik nseN :: Cond.initialized nseN :: nseT own ic, vx_ot w = true
theorem g_throwN {ik is ic j : Nat} {text : String} (fx : gw_FX X F G) (het : ∀ x ∈ (cC X).exceptionTable.toList, False) (ht : gw_thN F.1 ik ic) (hstr : (F.1, is, text, j) ∈ gw_strT)
    (d0 : decode F.2.1 pc = .ok (.new ik, 3)) (d3 : decode F.2.1 (pc + 3) = .ok (.dup, 1)) (d4 : decode F.2.1 (pc + 4) = .ok (.ldc is, 2)) (d6 : decode F.2.1 (pc + 6) = .ok (.invokespecial ic, 3)) (d9 : decode F.2.1 (pc + 9) = .ok (.athrow, 1))
    (hd : 6 ≤ F.2.2.2.2.1) (hmc : mc = F.2.2.2.2.2.1) (hms : ms = F.2.2.2.2.2.2) (hw : gw_wt st ≤ 8) (hk : kc + 1 ≤ mc) (hs : ks + 6 ≤ ms) (hx : Qx nseN) : gw_W X F G (gw_Z X G M σ Qn Qx mc ms) kc ks M σ pc ls st := by
  intro H locs lc hR hS hL ho
  obtain ⟨t2, t3, t4, t5⟩ := ht
  obtain ⟨r1, r2, r3, r4⟩ := fx.room
  have hw9 := gw_wt_le (G := G) (M := M) hw
  refine nse_throw (A := gA G) (text := text) (sa := gex G j) fx.exec fx.code fx.tr fx.own (fx.ts _ t2) (fx.ts _ t3) (fx.ex.1 _ hstr) (fun w hw => (t4 w hw).elim (fx.ts w) (fun h => fx.nest h)) t5 fx.ex.2.2.1 fx.ex.2.2.2.1 hS (hL.1.trans fx.ml.symm) d0 d3 d4 d6 d9 (fun x h => (het x h).elim) ?_ ?_ (by omega) (by omega) fx.locks ?_ hS.2.2 hk hs
  · omega
  · omega
  · intro t _ hsz hq
    exact ⟨⟨hx, gw_ext hR hq⟩, Nat.le_trans hS.1 hsz, fun q h1 h2 => (hq q (Nat.lt_of_lt_of_le h1 hS.1)).trans (hS.2.1 q h1 h2)⟩
theorem g_throwNW {ik is ic j : Nat} {text : String} (fx : gw_FX X F G) (het : ∀ x ∈ (cC X).exceptionTable.toList, False) (ht : gw_thN F.1 ik ic) (hstr : (F.1, is, text, j) ∈ gw_strT)
    (d0 : decode F.2.1 pc = .ok (.new ik, 3)) (d3 : decode F.2.1 (pc + 3) = .ok (.dup, 1)) (d4 : decode F.2.1 (pc + 4) = .ok (.ldc_w is, 3)) (d6 : decode F.2.1 (pc + 7) = .ok (.invokespecial ic, 3)) (d9 : decode F.2.1 (pc + 10) = .ok (.athrow, 1))
    (hd : 6 ≤ F.2.2.2.2.1) (hmc : mc = F.2.2.2.2.2.1) (hms : ms = F.2.2.2.2.2.2) (hw : gw_wt st ≤ 8) (hk : kc + 1 ≤ mc) (hs : ks + 6 ≤ ms) (hx : Qx nseN) : gw_W X F G (gw_Z X G M σ Qn Qx mc ms) kc ks M σ pc ls st := by
  intro H locs lc hR hS hL ho
  obtain ⟨t2, t3, t4, t5⟩ := ht
  obtain ⟨r1, r2, r3, r4⟩ := fx.room
  have hw9 := gw_wt_le (G := G) (M := M) hw
  refine nse_throwW (A := gA G) (text := text) (sa := gex G j) fx.exec fx.code fx.tr fx.own (fx.ts _ t2) (fx.ts _ t3) (fx.ex.1 _ hstr) (fun w hw => (t4 w hw).elim (fx.ts w) (fun h => fx.nest h)) t5 fx.ex.2.2.1 fx.ex.2.2.2.1 hS (hL.1.trans fx.ml.symm) d0 d3 d4 d6 d9 (fun x h => (het x h).elim) ?_ ?_ (by omega) (by omega) fx.locks ?_ hS.2.2 hk hs
  · omega
  · omega
  · intro t _ hsz hq
    exact ⟨⟨hx, gw_ext hR hq⟩, Nat.le_trans hS.1 hsz, fun q h1 h2 => (hq q (Nat.lt_of_lt_of_le h1 hS.1)).trans (hS.2.1 q h1 h2)⟩
end GW
