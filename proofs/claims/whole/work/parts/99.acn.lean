/-! THE LAW, 15: what is known at its start -/
theorem ii_10 : Cond.instantiable RX10 14 ∈ wsG := gw_mem 120 (by decide +kernel) rfl
theorem ii_11 : Cond.instantiable RX11 42 ∈ wsG := gw_mem 1416 (by decide +kernel) rfl
theorem lw_in {w : Cond} (i : Nat) (h : lw_tbl[i]? = some w) : w ∈ lw_tbl := List.mem_of_getElem? h
section ST
variable {s : State} {args : Array Value}
theorem st_K (hts : ∀ w ∈ wsG, w.before args s = true) : ∃ D : va_G, ∀ (c : Nat) (q : vw_C), vwCl[c]? = some q → u_Kn s q.1 q.2.1 q.2.2 (D.1 c) (D.2 c) := by
  have h0 : ∀ c : Nat, ∃ q : ClassId × (Nat → Nat), ∀ r : vw_C, vwCl[c]? = some r → u_Kn s r.1 r.2.1 r.2.2 q.1 q.2 := by
    intro c
    match c with
    | 0 => obtain ⟨x, y, h⟩ := u_known (ws := wsG) hts ck_0.2.1 (hts _ ii_0); exact ⟨(x, y), fun r hr => by cases hr; exact h⟩
    | 1 => obtain ⟨x, y, h⟩ := u_known (ws := wsG) hts ck_1.2.1 (hts _ ii_1); exact ⟨(x, y), fun r hr => by cases hr; exact h⟩
    | 2 => obtain ⟨x, y, h⟩ := u_known (ws := wsG) hts ck_2.2.1 (hts _ ii_2); exact ⟨(x, y), fun r hr => by cases hr; exact h⟩
    | 3 => obtain ⟨x, y, h⟩ := u_known (ws := wsG) hts ck_3.2.1 (hts _ ii_3); exact ⟨(x, y), fun r hr => by cases hr; exact h⟩
    | 4 => obtain ⟨x, y, h⟩ := u_known (ws := wsG) hts ck_4.2.1 (hts _ ii_4); exact ⟨(x, y), fun r hr => by cases hr; exact h⟩
    | 5 => obtain ⟨x, y, h⟩ := u_known (ws := wsG) hts ck_5.2.1 (hts _ ii_5); exact ⟨(x, y), fun r hr => by cases hr; exact h⟩
    | 6 => obtain ⟨x, y, h⟩ := u_known (ws := wsG) hts ck_6.2.1 (hts _ ii_6); exact ⟨(x, y), fun r hr => by cases hr; exact h⟩
    | 7 => obtain ⟨x, y, h⟩ := u_known (ws := wsG) hts ck_7.2.1 (hts _ ii_7); exact ⟨(x, y), fun r hr => by cases hr; exact h⟩
    | 8 => obtain ⟨x, y, h⟩ := u_known (ws := wsG) hts ck_8.2.1 (hts _ ii_8); exact ⟨(x, y), fun r hr => by cases hr; exact h⟩
    | 9 => obtain ⟨x, y, h⟩ := u_known (ws := wsG) hts ck_9.2.1 (hts _ ii_9); exact ⟨(x, y), fun r hr => by cases hr; exact h⟩
    | 10 => obtain ⟨x, y, h⟩ := u_known (ws := wsG) hts ck_10.2.1 (hts _ ii_10); exact ⟨(x, y), fun r hr => by cases hr; exact h⟩
    | 11 => obtain ⟨x, y, h⟩ := u_known (ws := wsG) hts ck_11.2.1 (hts _ ii_11); exact ⟨(x, y), fun r hr => by cases hr; exact h⟩
    | c + 12 => exact ⟨(0, fun _ => 0), fun r hr => by cases hr⟩
  obtain ⟨f, hf⟩ := Classical.axiomOfChoice h0
  exact ⟨(fun c => (f c).1, fun c => (f c).2), fun c q hq => hf c q hq⟩
theorem st_P {ty : FieldType} (hns : ∀ C, ty ≠ .object C) (h : (Cond.arrayClass ty).before args s = true) : ∃ cA : ClassId, ArrOfT s cA ty ∧ va_RA s cA ty := by
  obtain ⟨c, k, comp, h1, h2, h3⟩ := Cond.arrayClass_spec h
  refine ⟨c, fun n z => ⟨fun k h => (by cases h), k, h2, comp, h3⟩, ?_⟩
  cases ty with
  | object C => exact absurd rfl (hns C)
  | _ => exact h1
theorem st_O {C : String} (h : (Cond.arrayOver (.object C)).before args s = true) : ∃ cA : ClassId, ArrOfT s cA (.object C) ∧ va_RA s cA (.object C) := by
  obtain ⟨comp, c, k, h1, h2, h3, h4, h5⟩ := Cond.arrayOver_spec h
  exact ⟨c, fun n z => ⟨fun k h => (by cases h), k, h3, comp, h4⟩, k, comp, h3, h4, h1, h5⟩
/-- the text j as the law's classes name it first -/
def st_tm (j : Nat) : Term := match gw_strT.find? (fun q => q.2.2.2 == j) with
  | some q => .string q.1 q.2.1
  | none => .arg 0
def st_vl (j : Nat) : Term := .field (st_tm j) "java/lang/String" "value" "[B"
abbrev st_F : List Cond := flatC (Cond.and given_1 narrow_1)
theorem st_x : ∀ j, j < 40 → Cond.exactly (st_tm j) "java/lang/String" ∈ st_F := by decide +kernel
theorem st_c : ∀ j, j < 20 → Cond.eq (.field (st_tm j) "java/lang/String" "coder" "B") (.int 0) ∈ st_F ∧ Cond.arrayOf (st_vl j) .byte ∈ st_F ∧ Cond.eq (.length (st_vl j)) (.int (Int32.ofNat (gw_wd j).length)) ∈ st_F ∧ ∀ k, k < (gw_wd j).length → Cond.eq (.elem (st_vl j) (.int (Int32.ofNat k))) (.int ((gw_wd j).getD k 0)) ∈ st_F := by decide +kernel
theorem st_e : ∀ q ∈ gw_strT, (q.2.2.2 < 40 ∧ Cond.stringRef q.1 q.2.1 q.2.2.1 ∈ lw_tbl) ∧ (st_tm q.2.2.2 = .string q.1 q.2.1 ∨ Cond.eq (st_tm q.2.2.2) (.string q.1 q.2.1) ∈ st_F) := by decide +kernel
theorem st_l : ∀ j, j < 20 → (gw_wd j).length < 2 ^ 31 := by decide +kernel
theorem st_n : ∀ q ∈ gw_ncT, Cond.not (Cond.castable q.1 q.2) ∈ st_F := by decide +kernel
theorem st_s : Cond.isRef (.static "java/lang/Throwable" "UNASSIGNED_STACK" "[Ljava/lang/StackTraceElement;") ∈ st_F ∧ Cond.isRef (.static "java/lang/Throwable" "SUPPRESSED_SENTINEL" "Ljava/util/List;") ∈ st_F ∧ Cond.eq (.static "java/lang/String" "COMPACT_STRINGS" "Z") (.int 1) ∈ st_F ∧ Cond.isRef (.static "jdk/internal/util/Preconditions" "SIOOBE_FORMATTER" "Ljava/util/function/BiFunction;") ∈ st_F := by decide +kernel
theorem st_str (hs : ∀ w ∈ st_F, w.before args s = true) {A : Nat → Prop} (hA : ∀ a : Nat, a < s.heap.size → ¬ A a) (j : Nat) : ∃ q : Nat × Nat, (j < 40 → (st_tm j).eval args s none [] s = some (.ref q.1)) ∧ (j < 20 → vk_S 1 [(gw_wd j).length] [gw_wd j] (fun _ => q.1) (fun _ => q.2) A s s.heap) := by
  by_cases h20 : j < 20
  · obtain ⟨c1, c2, c3, c4⟩ := st_c j h20
    obtain ⟨adK, adV, h1, h2⟩ := vk_Sof (args := args) (s := s) (N := 1) (tm := fun _ => st_tm j) (len := [(gw_wd j).length]) (byt := [gw_wd j]) (A := A)
      (fun i hi => by obtain rfl : i = 0 := by omega
                      exact st_l j h20)
      (fun i hi => hs _ (st_x j (by omega))) (fun i hi => hs _ c1) (fun i hi => hs _ c2)
      (fun i hi => by obtain rfl : i = 0 := by omega
                      exact hs _ c3)
      (fun i hi k hk => by obtain rfl : i = 0 := by omega
                           exact hs _ (c4 k hk))
      (fun i k hi hk hne => absurd (by omega : i = k) hne) hA
    exact ⟨(adK 0, adV 0), fun _ => h2 0 (by omega), fun _ => ⟨fun i hi => by
      obtain rfl : i = 0 := by omega
      exact h1.1 0 (by omega), fun i k hi hk _ => by omega⟩⟩
  · by_cases h40 : j < 40
    · obtain ⟨a, c, cell, k, q1, -⟩ := Cond.exactly_spec (hs _ (st_x j h40))
      exact ⟨(a, 0), fun _ => q1, fun h => absurd h h20⟩
    · exact ⟨(0, 0), fun h => absurd h h40, fun h => absurd h h20⟩
def st_gx (f : Nat → Nat × Nat) (b t : Nat) : Nat → Nat := fun k => if k = 300 then b else if k = 200 then t else if k < 100 then (f k).1 else (f (k - 100)).2
theorem st_EX (hts : ∀ w ∈ lw_tbl, w.before args s = true) (hs : ∀ w ∈ st_F, w.before args s = true) (D : va_G) (ca : Nat → ClassId) (b : Nat) : ∃ ex : Nat → Nat, ex 300 = b ∧ gw_EX (D, ca, ex, s.heap.size) s s.heap := by
  have hA : ∀ a : Nat, a < s.heap.size → ¬ (fun q => s.heap.size ≤ q) a := fun a ha h => absurd h (by show ¬ s.heap.size ≤ a; omega)
  obtain ⟨f, hf⟩ := Classical.axiomOfChoice (st_str hs hA)
  obtain ⟨s1, s2, s3, s4⟩ := st_s
  have z4 := va_Zqof (A := fun q => s.heap.size ≤ q) (hts _ (lw_in 884 (by decide +kernel))) (hts _ (lw_in 113 (by decide +kernel))) (hs _ s4) hA
  obtain ⟨t, ht⟩ : ∃ t : Nat, va_Z "jdk/internal/util/Preconditions" "SIOOBE_FORMATTER" "Ljava/util/function/BiFunction;" .null (fun q => s.heap.size ≤ q) s s.heap ∨ va_Z "jdk/internal/util/Preconditions" "SIOOBE_FORMATTER" "Ljava/util/function/BiFunction;" (.ref t) (fun q => s.heap.size ≤ q) s s.heap := by
    rcases z4 with h | ⟨t, h⟩
    · exact ⟨0, Or.inl h⟩
    · exact ⟨t, Or.inr h⟩
  have g1 : ∀ j, j < 100 → st_gx f b t j = (f j).1 := fun j hj => by unfold st_gx; rw [if_neg (by omega), if_neg (by omega), if_pos hj]
  have g2 : ∀ j, j < 20 → st_gx f b t (100 + j) = (f j).2 := fun j hj => by unfold st_gx; rw [if_neg (by omega), if_neg (by omega), if_neg (by omega), show 100 + j - 100 = j by omega]
  refine ⟨st_gx f b t, rfl, fun q hq => ?_, fun j hj => ?_, vx_Zqof (hts _ (lw_in 779 (by decide +kernel))) (hts _ (lw_in 107 (by decide +kernel))) (hs _ s1) hA, vx_Zqof (hts _ (lw_in 781 (by decide +kernel))) (hts _ (lw_in 107 (by decide +kernel))) (hs _ s2) hA, va_Zof (hts _ (lw_in 868 (by decide +kernel))) (hts _ (lw_in 111 (by decide +kernel))) (va_eqt (hs _ s3)) hA, fun w hw => va_Nw.of (gw_oN hw) (hts w (List.mem_filter.mp hw).1), va_AO.of (hts _ (lw_in 478 (by decide +kernel))), va_AO.of (hts _ (lw_in 477 (by decide +kernel))), ht⟩
  · obtain ⟨⟨e1, e2⟩, e3⟩ := st_e q hq
    show vk_R q.1 q.2.1 q.2.2.1 (st_gx f b t q.2.2.2) s
    rw [g1 _ (by omega)]
    have h := (hf q.2.2.2).1 e1
    refine vk_R.of (hts _ e2) ?_
    rcases e3 with e3 | e3
    · rw [← e3]; exact h
    · exact va_eqR (hs _ e3) h
  · show vk_S 1 _ _ (fun _ => st_gx f b t j) (fun _ => st_gx f b t (100 + j)) _ s s.heap
    rw [g1 j (by omega), g2 j hj]
    exact (hf j).2 hj
end ST
