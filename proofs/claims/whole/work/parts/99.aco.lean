/-! THE LAW, 16: from its entry to its end -/
theorem mi_RL_109 : gw_mi RL 109 yX10_init := ⟨rfl, gw_mem 122 (by decide +kernel) rfl, Or.inl (gw_mem 121 (by decide +kernel) rfl)⟩
theorem mi_RL_112 : gw_mi RL 112 yX11_init := ⟨rfl, gw_mem 1418 (by decide +kernel) rfl, Or.inl (gw_mem 1417 (by decide +kernel) rfl)⟩
theorem my_X10_init : gw_my yX10_init cX10_init 2 none 0 := ⟨gw_mem 123 (by decide +kernel) rfl, gw_mem 95 (by decide +kernel) rfl, by decide +kernel, by decide⟩
theorem my_X11_init : gw_my yX11_init cX11_init 1 none 0 := ⟨gw_mem 1419 (by decide +kernel) rfl, gw_mem 106 (by decide +kernel) rfl, by decide +kernel, by decide⟩
theorem cl_RL_8 : Cond.classLink RL 8 RX10 ∈ wsG := gw_mem 119 (by decide +kernel) rfl
theorem cl_RL_110 : Cond.classLink RL 110 RX11 ∈ wsG := gw_mem 1415 (by decide +kernel) rfl
theorem ij_10 : Cond.initialized RX10 ∈ wsG := gw_mem 95 (by decide +kernel) rfl
theorem ij_11 : Cond.initialized RX11 ∈ wsG := gw_mem 106 (by decide +kernel) rfl
theorem dL_law__0 : gw_dc cL_law_ 0 (.new 8) 3 3 := ⟨by decide +kernel, rfl⟩
theorem dL_law__3 : gw_dc cL_law_ 3 (.dup) 1 4 := ⟨by decide +kernel, rfl⟩
theorem dL_law__4 : gw_dc cL_law_ 4 (.invokespecial 109) 3 7 := ⟨by decide +kernel, rfl⟩
theorem dL_law__7 : gw_dc cL_law_ 7 (.astore_n 1) 1 8 := ⟨by decide +kernel, rfl⟩
theorem dL_law__8 : gw_dc cL_law_ 8 (.new 110) 3 11 := ⟨by decide +kernel, rfl⟩
theorem dL_law__11 : gw_dc cL_law_ 11 (.dup) 1 12 := ⟨by decide +kernel, rfl⟩
theorem dL_law__12 : gw_dc cL_law_ 12 (.invokespecial 112) 3 15 := ⟨by decide +kernel, rfl⟩
theorem dL_law__15 : gw_dc cL_law_ 15 (.astore_n 2) 1 16 := ⟨by decide +kernel, rfl⟩
theorem dL_law__16 : gw_dc cL_law_ 16 (.iconst 1) 1 17 := ⟨by decide +kernel, rfl⟩
theorem dL_law__17 : gw_dc cL_law_ 17 (.newarray .long) 2 19 := ⟨by decide +kernel, rfl⟩
theorem dL_law__19 : gw_dc cL_law_ 19 (.astore_n 3) 1 20 := ⟨by decide +kernel, rfl⟩
theorem dL_law__20 : gw_dc cL_law_ 20 (.iconst 0) 1 21 := ⟨by decide +kernel, rfl⟩
theorem dL_law__21 : gw_dc cL_law_ 21 (.istore 4) 2 23 := ⟨by decide +kernel, rfl⟩
theorem dL_law__2279 : gw_dc cL_law_ 2279 (.iconst 1) 1 2280 := ⟨by decide +kernel, rfl⟩
theorem dL_law__2280 : decode cL_law_ 2280 = .ok (.ireturn, 1) := by decide +kernel
abbrev ρ0 : Rf := fun _ _ => none
theorem rh_hi : ∀ i, 249 ≤ i → ∀ j, gw_rh i j = none := fun i hi j => by
  have h : gw_rhL.getD i [] = [] := by
    rw [List.getD_eq_getElem?_getD, List.getElem?_eq_none (by rw [show gw_rhL.length = 249 from by decide +kernel]; exact hi)]; rfl
  unfold gw_rh
  rw [h]; rfl
theorem rh_248 : ∀ j, gw_rh 248 j = none := rh_nil (by decide +kernel)
theorem rF_law : rF (rF ρ0 0 223) 223 248 = gw_rh := by
  funext i j
  unfold rF
  by_cases q : i < 223
  · rw [if_pos q, if_neg (Nat.not_lt_zero _), if_pos q]
  · rw [if_neg q]
    by_cases q2 : i < 248
    · rw [if_pos q2]
    · rw [if_neg q2]
      by_cases q3 : i = 248
      · rw [q3]; exact (rh_248 j).symm
      · exact (rh_hi i (by omega) j).symm
theorem rF_hi {ρ : Rf} {o n : Nat} (ho : o ≤ n) : ∀ i, n ≤ i → ∀ j, rF ρ o n i j = if i < o then ρ i j else none := fun i hi j => by
  unfold rF
  rw [if_neg (show ¬ i < n by omega)]
theorem rF_0 {n : Nat} : ∀ i, n ≤ i → ∀ j, rF ρ0 0 n i j = none := fun i hi j => by
  rw [rF_hi (Nat.zero_le _) i hi j, if_neg (Nat.not_lt_zero _)]
theorem zW0_248 (j : Nat) : zMD (zAll zO) 248 j = 0 := zW0_o (a := 248) (by decide) (by decide) j
section LW
variable {X : Cx} {G : Gl} {L : Nat} {xs : Nat → Int32} {Z : State → Prop}
set_option maxRecDepth 4000 in
theorem law_body (ad : Nat → Nat) (fx : gw_FX X FL G) (nc : gw_NC (cS X)) (sc : gw_SC X G L xs) (kE : ∀ ad kc ks σ i a b c, kc ≤ 601024 → ks ≤ 7293034 → gw_W X FL G Z kc ks (gw_M0 ad) σ 2279 (lsL i a b c) []) :
    gw_W X FL G Z 0 0 (0, ad, ρ0) zO 0 [some (vX 300), none, none, none, none, none, none, none] [] := by
  refine g_new (n := 0) (ci := 10) (N := 14) fx dL_law__0 ck_10 cl_RL_8 ii_10 ij_10 df_10 (by decide +kernel) (fun _ => rfl) (fun _ => rfl) ⟨by decide, by decide⟩ (fun ad1 h1 => ?_)
  refine g_dup fx dL_law__3 rfl ?_
  refine g_ctor (n := 0) (K := 223) (n' := 223) (as := []) (ρ := ρ0) fx dL_law__4 mi_RL_109 my_X10_init (fun ρ => s_X10_init ad1 zO ρ (fun _ _ _ => rfl)) (fun _ _ _ => rfl) rfl rfl rfl (Nat.le_of_ble_eq_true rfl) (by decide) ⟨by decide, by decide⟩ (fun ad2 h2 => ?_)
  refine g_astore_n fx dL_law__7 (by decide) rfl rfl ?_
  refine g_new (n := 223) (ci := 11) (N := 42) fx dL_law__8 ck_11 cl_RL_110 ii_11 ij_11 df_11 (by decide +kernel) (fun j => zAll_hi (by decide) j) (rF_0 223 (Nat.le_refl _)) ⟨by decide, by decide⟩ (fun ad3 h3 => ?_)
  refine g_dup fx dL_law__11 rfl ?_
  refine g_ctor (n := 223) (K := 25) (n' := 248) (as := []) (ρ := rF ρ0 0 223) fx dL_law__12 mi_RL_112 my_X11_init (fun ρ => s_X11_init ad3 (zAll zO) ρ (fun i hi j => zAll_hi (by omega) j)) rF_0 rfl rfl rfl (Nat.le_of_ble_eq_true rfl) (by decide) ⟨by decide, by decide⟩ (fun ad4 h4 => ?_)
  refine g_astore_n fx dL_law__15 (by decide) rfl rfl ?_
  refine g_iconst fx dL_law__16 (by unfold okI; omega) ?_
  rw [rF_law]
  refine g_newJ (n := 248) (L := 1) fx dL_law__17 ac_long (by decide +kernel) rfl (by decide) zW0_248 rh_248 ⟨by decide, by decide⟩ (fun ad5 h5 => ?_)
  refine g_astore_n fx dL_law__19 (by decide) rfl rfl ?_
  refine g_iconst fx dL_law__20 (by unfold okI; omega) ?_
  refine g_istore fx dL_law__21 (by decide) rfl rfl ?_
  exact law_loop (ad := ad5) fx nc sc (kE ad5) 512 _ _ zW0 0 none none none rel_0 (Nat.zero_le _) (by have := sc.1; omega) (by decide) (by decide)
end LW
/-- YOUR PART: from the entry, for every script of at most 3072 ints, the law comes to its end with true ('hflags': the launch's flags, for a law that throws: no stack traces) -/
theorem whole_start {p : Program} {e : Env} {s : State} {m : MethodId} {below : List Frame} {meth : Method} {c : Code} (l : Launch) (hflags : l.flags = flags0) {b L : Nat} {xs : Nat → Int32} (hL : L ≤ 3072) (C0 : lw_At p s m meth c b L xs) : W p l e room_1 s m #[Value.ref b] below meth c s.heap [] 0 0 (lw_Z below #[Value.ref b] s) (entryFrame m ([Value.ref b] : List Value).toArray 8) := by
  obtain ⟨hx, hb, hret, hml, hown, hts, hX, hbl, hlocks, hgv⟩ := C0
  have hs : ∀ w ∈ st_F, w.before #[Value.ref b] s = true := flat_of_before _ hgv
  have htG : ∀ w ∈ wsG, w.before #[Value.ref b] s = true := fun w hw => hts w (List.mem_filter.mp hw).1
  obtain ⟨D, hD⟩ := st_K htG
  obtain ⟨c0, a0⟩ := st_P (ty := .byte) (fun C h => by cases h) (htG _ ac_byte)
  obtain ⟨c1, a1⟩ := st_P (ty := .int) (fun C h => by cases h) (htG _ ac_int)
  obtain ⟨c2, a2⟩ := st_P (ty := .long) (fun C h => by cases h) (htG _ ac_long)
  obtain ⟨c3, a3⟩ := st_P (ty := .boolean) (fun C h => by cases h) (htG _ ac_boolean)
  obtain ⟨c4, a4⟩ := st_O (C := "LightestSack$Mill") (hts _ (lw_in 478 (by decide +kernel)))
  obtain ⟨c5, a5⟩ := st_O (C := "LightestSack$Tray") (hts _ (lw_in 477 (by decide +kernel)))
  obtain ⟨exs, e300, hEX⟩ := st_EX hts hs D (fun k => [c0, c1, c2, c3, c4, c5].getD k c0) b
  have hK : va_K D vwCl (gw_ty (D, fun k => [c0, c1, c2, c3, c4, c5].getD k c0, exs, s.heap.size)) s := by
    refine ⟨hD, fun k q hk => ?_⟩
    match k, hk with
    | 0, hk => cases hk; exact a0
    | 1, hk => cases hk; exact a1
    | 2, hk => cases hk; exact a2
    | 3, hk => cases hk; exact a3
    | 4, hk => cases hk; exact a4
    | 5, hk => cases hk; exact a5
    | k + 6, hk => cases hk
  generalize (fun k => [c0, c1, c2, c3, c4, c5].getD k c0) = ca at hK hEX
  have htr : l.stackTraces = false := by unfold Launch.stackTraces; rw [hflags]; decide +kernel
  have fx : gw_FX (p, l, e, room_1, s, m, #[Value.ref b], below, meth, c) FL (D, ca, exs, s.heap.size) :=
    ⟨hx, hb, hret, hml, hown, htG, hlocks, htr, hK, hEX, Nat.le_refl _, (by decide : 20 ≤ 2048), (by decide : 64 * 20 ≤ 84000), Nat.le_refl _, Nat.le_refl _⟩
  have nc : gw_NC s := fun q hq => va_Nc.of (hs _ (st_n q hq))
  have sc : gw_SC (p, l, e, room_1, s, m, #[Value.ref b], below, meth, c) (D, ca, exs, s.heap.size) L xs := by
    refine ⟨hL, ?_, ?_, ?_⟩
    · show exs 300 < s.heap.size
      rw [e300]; exact hbl
    · show ¬ s.heap.size ≤ exs 300
      rw [e300]; omega
    · show va_X (exs 300) L xs s s.heap
      rw [e300]; exact hX
  have K := law_body (Z := lw_Z below #[Value.ref b] s) (fun _ => 0) fx nc sc (fun ad kc ks σ i a b2 c2 hk hks => by
    refine g_iconst fx dL_law__2279 (by unfold okI; omega) ?_
    intro H locs lc hR hS hLH ho
    have e1 : Int32.ofInt 1 = 1 := by decide
    have h := lw_ret (b := b) (m := m) (l := l) (e := e) (s := s) (below := below) (H := H) (ls := lc) hx hb hret hlocks dL_law__2280
    rw [← e1] at h
    exact W.widen hk hks (va_forget hS.2.2 h))
  have hlv := lv_entry ([vX 300].map (gw_cv (D, ca, exs, s.heap.size) (0, fun _ => 0, ρ0))) (n := 8) (by rw [gw_sl]; decide)
  have hargs : ([Value.ref b] : List Value) = [vX 300].map (gw_cv (D, ca, exs, s.heap.size) (0, fun _ => 0, ρ0)) := by
    show [Value.ref b] = [Value.ref (exs 300)]
    rw [e300]
  have he : entryFrame m ([Value.ref b] : List Value).toArray 8 = entryFrame m (([vX 300].map (gw_cv (D, ca, exs, s.heap.size) (0, fun _ => 0, ρ0))) : List Value).toArray 8 := congrArg (fun v : List Value => entryFrame m v.toArray 8) hargs
  rw [he, lg_entry_eq]
  refine K s.heap [] _ ⟨fun k q hk => ?_, ⟨fun i j p q hi => ?_, fun k q hk => ?_⟩, fun i hi => absurd hi (Nat.not_lt_zero _), fun i hi => absurd hi (Nat.not_lt_zero _)⟩ va_S.rf ⟨hlv.1, hlv.2.1, fun i v h => ?_⟩ (fun v hv => by cases hv)
  · cases hk
  · cases hi
  · cases hk
  · match i, h with
    | 0, h =>
      cases h
      obtain ⟨h1, h2⟩ := gw_entry (G := (D, ca, exs, s.heap.size)) (M := (0, fun _ => 0, ρ0)) [vX 300] 0 0 (vX 300) rfl
      exact ⟨trivial, hlv.2.2 _ h2⟩
    | 1, h => cases h
    | 2, h => cases h
    | 3, h => cases h
    | 4, h => cases h
    | 5, h => cases h
    | 6, h => cases h
    | 7, h => cases h
    | i + 8, h => cases h
