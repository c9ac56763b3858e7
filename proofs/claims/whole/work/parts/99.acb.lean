/-! THE LAW, 6: its static methods -/
/-- how such a method ends: 0 and the answer laid, or the place of what was thrown -/
def gw_WQ (g : Option String) (es : List String) (M : Mem) (σ σ2 : Sg) : Option AV → Mem → Sg → Prop := fun a b c => b = M ∧ ((g = none ∧ a = some (vI 0) ∧ c = σ2) ∨ ∃ (i : Nat) (E : String), g = some E ∧ es[i]? = some E ∧ a = some (vI (((i : Nat) : Int) + 1)) ∧ c = σ)
section GW
variable {X : Cx} {F : Fr} {G : Gl} {Z : State → Prop} {kc ks : Nat} {M : Mem} {σ : Sg} {pc pc' : Nat} {ls : List (Option AV)} {st : List AV}
theorem g_catchN {E name : String} {hh : List (Nat × Nat × Nat × Nat)} {pre suf : List (Nat × Nat × Nat × Nat)} {a b h ct : Nat} {i : Fin 4} {ls' : List (Option AV)} (fx : gw_FX X F G) (nc : gw_NC (cS X)) (het : (cC X).exceptionTable.toList = tableOf hh) (hsplit : hh = pre ++ (a, b, h, ct) :: suf)
    (hpass : ∀ z ∈ pre, z.2.2.2 ≠ 0 ∧ ∃ nm : String, Cond.classLink F.1 z.2.2.2 nm ∈ wsG ∧ (E, nm) ∈ gw_ncT) (hcov : covers ⟨a, b, h, ct⟩ pc = true) (h0 : ct ≠ 0) (hlink : Cond.classLink F.1 ct name ∈ wsG) (hcast : Cond.castable E name ∈ wsN)
    (d : gw_dc F.2.1 h (.astore_n i) 1 pc') (hi : (i : Nat) < F.2.2.1) (hs : gw_st ls i = true) (hl : ls.set i none = ls') (kk : gw_W X F G Z kc ks M σ pc' ls' []) : gw_X X F G Z kc ks M σ pc ls E := by
  obtain ⟨hd, rfl⟩ := d
  subst hl
  intro H locs lc rest ce q hR hS hL hcell hv hcl
  refine vx_catch (own := F.1) (name := name) fx.own (tableOf pre) ⟨a, b, h, ct⟩ (tableOf suf) (by rw [het, hsplit]; simp [tableOf]) ?_ hcov h0 (fx.ts _ hlink) (fx.nest hcast) hcell hv hcl ?_
  · intro z hz
    obtain ⟨w, hw, rfl⟩ := List.mem_map.mp hz
    obtain ⟨h1, nm, h2, h3⟩ := hpass w hw
    exact Or.inr ⟨h1, nm, fx.ts _ h2, nc _ h3⟩
  · exact lv_astore_n fx.exec fx.code hd rfl (gw_has hL) hi rfl (fun lc' h' => kk H locs lc' hR hS (gw_stored0 hL hs (fun j x hj hx h1 => gw_filt j x hj hx h1) h') (fun v hv => by cases hv))
end GW
theorem myH_L_mill : gw_myH yL_mill cL_mill 4 (some .int) [(0, 9, 12, 13)] 3 := ⟨gw_mem 742 (by decide +kernel) rfl, gw_mem 94 (by decide +kernel) rfl, by decide +kernel, by decide⟩
theorem cl_13 : Cond.classLink RL 13 "java/lang/IllegalArgumentException" ∈ wsG := gw_mem 743 (by decide +kernel) rfl
theorem ca_13 : Cond.castable "java/lang/IllegalArgumentException" "java/lang/IllegalArgumentException" ∈ wsN := gw_memN 754 (by decide +kernel) rfl
theorem dL_mill_0 : gw_dc cL_mill 0 (.aload_n 2) 1 1 := ⟨by decide +kernel, rfl⟩
theorem dL_mill_1 : gw_dc cL_mill 1 (.iconst 0) 1 2 := ⟨by decide +kernel, rfl⟩
theorem dL_mill_2 : gw_dc cL_mill 2 (.aload_n 0) 1 3 := ⟨by decide +kernel, rfl⟩
theorem dL_mill_3 : gw_dc cL_mill 3 (.iload_n 1) 1 4 := ⟨by decide +kernel, rfl⟩
theorem mv_RL_7 : gw_mv RL 7 yX10_mill := ⟨gw_mem 744 (by decide +kernel) rfl, gw_mem 745 (by decide +kernel) rfl, gw_mem 746 (by decide +kernel) rfl⟩
theorem my_X10_mill : gw_my yX10_mill cX10_mill 2 (some .int) 1 := ⟨gw_mem 747 (by decide +kernel) rfl, gw_mem 95 (by decide +kernel) rfl, by decide +kernel, by decide⟩
theorem dL_mill_4 : gw_dc cL_mill 4 (.invokevirtual 7) 3 7 := ⟨by decide +kernel, rfl⟩
theorem dL_mill_12 : gw_dc cL_mill 12 (.astore_n 3) 1 13 := ⟨by decide +kernel, rfl⟩
theorem dL_mill_13 : gw_dc cL_mill 13 (.iconst 1) 1 14 := ⟨by decide +kernel, rfl⟩
theorem dL_mill_14 : decode cL_mill 14 = .ok (.ireturn, 1) := by decide +kernel
theorem dL_mill_7 : gw_dc cL_mill 7 (.i2l) 1 8 := ⟨by decide +kernel, rfl⟩
theorem dL_mill_8 : gw_dc cL_mill 8 (.lastore) 1 9 := ⟨by decide +kernel, rfl⟩
theorem o_248 {ad : Nat → Nat} : isO (gw_M0 ad) 248 22 1 := (by decide +kernel : 248 < gw_N0 ∧ gw_sh 248 = (22, 1))
theorem dL_mill_9 : gw_dc cL_mill 9 (.goto 6) 3 12 := ⟨by decide +kernel, rfl⟩
theorem dL_mill_15 : gw_dc cL_mill 15 (.iconst 0) 1 16 := ⟨by decide +kernel, rfl⟩
theorem dL_mill_16 : decode cL_mill 16 = .ok (.ireturn, 1) := by decide +kernel
theorem myH_L_law : gw_myH yL_law cL_law 4 (some .int) [(0, 9, 12, 13)] 3 := ⟨gw_mem 958 (by decide +kernel) rfl, gw_mem 94 (by decide +kernel) rfl, by decide +kernel, by decide⟩
theorem dL_law_0 : gw_dc cL_law 0 (.aload_n 2) 1 1 := ⟨by decide +kernel, rfl⟩
theorem dL_law_1 : gw_dc cL_law 1 (.iconst 0) 1 2 := ⟨by decide +kernel, rfl⟩
theorem dL_law_2 : gw_dc cL_law 2 (.aload_n 0) 1 3 := ⟨by decide +kernel, rfl⟩
theorem dL_law_3 : gw_dc cL_law 3 (.iload_n 1) 1 4 := ⟨by decide +kernel, rfl⟩
theorem mv_RL_15 : gw_mv RL 15 yX10_law := ⟨gw_mem 959 (by decide +kernel) rfl, gw_mem 960 (by decide +kernel) rfl, gw_mem 961 (by decide +kernel) rfl⟩
theorem my_X10_law : gw_my yX10_law cX10_law 2 (some .int) 1 := ⟨gw_mem 962 (by decide +kernel) rfl, gw_mem 95 (by decide +kernel) rfl, by decide +kernel, by decide⟩
theorem dL_law_4 : gw_dc cL_law 4 (.invokevirtual 15) 3 7 := ⟨by decide +kernel, rfl⟩
theorem dL_law_12 : gw_dc cL_law 12 (.astore_n 3) 1 13 := ⟨by decide +kernel, rfl⟩
theorem dL_law_13 : gw_dc cL_law 13 (.iconst 1) 1 14 := ⟨by decide +kernel, rfl⟩
theorem dL_law_14 : decode cL_law 14 = .ok (.ireturn, 1) := by decide +kernel
theorem dL_law_7 : gw_dc cL_law 7 (.i2l) 1 8 := ⟨by decide +kernel, rfl⟩
theorem dL_law_8 : gw_dc cL_law 8 (.lastore) 1 9 := ⟨by decide +kernel, rfl⟩
theorem dL_law_9 : gw_dc cL_law 9 (.goto 6) 3 12 := ⟨by decide +kernel, rfl⟩
theorem dL_law_15 : gw_dc cL_law 15 (.iconst 0) 1 16 := ⟨by decide +kernel, rfl⟩
theorem dL_law_16 : decode cL_law 16 = .ok (.ireturn, 1) := by decide +kernel
theorem myH_L_sack : gw_myH yL_sack cL_sack 5 (some .int) [(0, 10, 13, 22), (0, 10, 17, 13)] 4 := ⟨gw_mem 997 (by decide +kernel) rfl, gw_mem 94 (by decide +kernel) rfl, by decide +kernel, by decide⟩
theorem cl_22 : Cond.classLink RL 22 "java/util/NoSuchElementException" ∈ wsG := gw_mem 998 (by decide +kernel) rfl
theorem ca_22 : Cond.castable "java/util/NoSuchElementException" "java/util/NoSuchElementException" ∈ wsN := gw_memN 1009 (by decide +kernel) rfl
theorem dL_sack_0 : gw_dc cL_sack 0 (.aload_n 3) 1 1 := ⟨by decide +kernel, rfl⟩
theorem dL_sack_1 : gw_dc cL_sack 1 (.iconst 0) 1 2 := ⟨by decide +kernel, rfl⟩
theorem dL_sack_2 : gw_dc cL_sack 2 (.aload_n 0) 1 3 := ⟨by decide +kernel, rfl⟩
theorem dL_sack_3 : gw_dc cL_sack 3 (.iload_n 1) 1 4 := ⟨by decide +kernel, rfl⟩
theorem dL_sack_4 : gw_dc cL_sack 4 (.iload_n 2) 1 5 := ⟨by decide +kernel, rfl⟩
theorem mv_RL_18 : gw_mv RL 18 yX10_sack := ⟨gw_mem 999 (by decide +kernel) rfl, gw_mem 1000 (by decide +kernel) rfl, gw_mem 1001 (by decide +kernel) rfl⟩
theorem my_X10_sack : gw_my yX10_sack cX10_sack 3 (some .int) 2 := ⟨gw_mem 1002 (by decide +kernel) rfl, gw_mem 95 (by decide +kernel) rfl, by decide +kernel, by decide⟩
theorem dL_sack_5 : gw_dc cL_sack 5 (.invokevirtual 18) 3 8 := ⟨by decide +kernel, rfl⟩
theorem dL_sack_13 : gw_dc cL_sack 13 (.astore 4) 2 15 := ⟨by decide +kernel, rfl⟩
theorem dL_sack_15 : gw_dc cL_sack 15 (.iconst 1) 1 16 := ⟨by decide +kernel, rfl⟩
theorem dL_sack_16 : decode cL_sack 16 = .ok (.ireturn, 1) := by decide +kernel
theorem dL_sack_17 : gw_dc cL_sack 17 (.astore 4) 2 19 := ⟨by decide +kernel, rfl⟩
theorem dL_sack_19 : gw_dc cL_sack 19 (.iconst 2) 1 20 := ⟨by decide +kernel, rfl⟩
theorem dL_sack_20 : decode cL_sack 20 = .ok (.ireturn, 1) := by decide +kernel
theorem dL_sack_8 : gw_dc cL_sack 8 (.i2l) 1 9 := ⟨by decide +kernel, rfl⟩
theorem dL_sack_9 : gw_dc cL_sack 9 (.lastore) 1 10 := ⟨by decide +kernel, rfl⟩
theorem dL_sack_10 : gw_dc cL_sack 10 (.goto 11) 3 13 := ⟨by decide +kernel, rfl⟩
theorem dL_sack_21 : gw_dc cL_sack 21 (.iconst 0) 1 22 := ⟨by decide +kernel, rfl⟩
theorem dL_sack_22 : decode cL_sack 22 = .ok (.ireturn, 1) := by decide +kernel
theorem myH_L_piece : gw_myH yL_piece cL_piece 5 (some .int) [(0, 10, 13, 22), (0, 10, 17, 13)] 4 := ⟨gw_mem 1027 (by decide +kernel) rfl, gw_mem 94 (by decide +kernel) rfl, by decide +kernel, by decide⟩
theorem dL_piece_0 : gw_dc cL_piece 0 (.aload_n 3) 1 1 := ⟨by decide +kernel, rfl⟩
theorem dL_piece_1 : gw_dc cL_piece 1 (.iconst 0) 1 2 := ⟨by decide +kernel, rfl⟩
theorem dL_piece_2 : gw_dc cL_piece 2 (.aload_n 0) 1 3 := ⟨by decide +kernel, rfl⟩
theorem dL_piece_3 : gw_dc cL_piece 3 (.iload_n 1) 1 4 := ⟨by decide +kernel, rfl⟩
theorem dL_piece_4 : gw_dc cL_piece 4 (.iload_n 2) 1 5 := ⟨by decide +kernel, rfl⟩
theorem mv_RL_24 : gw_mv RL 24 yX10_piece := ⟨gw_mem 1028 (by decide +kernel) rfl, gw_mem 1029 (by decide +kernel) rfl, gw_mem 1030 (by decide +kernel) rfl⟩
theorem my_X10_piece : gw_my yX10_piece cX10_piece 3 (some .int) 2 := ⟨gw_mem 1031 (by decide +kernel) rfl, gw_mem 95 (by decide +kernel) rfl, by decide +kernel, by decide⟩
theorem dL_piece_5 : gw_dc cL_piece 5 (.invokevirtual 24) 3 8 := ⟨by decide +kernel, rfl⟩
theorem dL_piece_13 : gw_dc cL_piece 13 (.astore 4) 2 15 := ⟨by decide +kernel, rfl⟩
theorem dL_piece_15 : gw_dc cL_piece 15 (.iconst 1) 1 16 := ⟨by decide +kernel, rfl⟩
theorem dL_piece_16 : decode cL_piece 16 = .ok (.ireturn, 1) := by decide +kernel
theorem dL_piece_17 : gw_dc cL_piece 17 (.astore 4) 2 19 := ⟨by decide +kernel, rfl⟩
theorem dL_piece_19 : gw_dc cL_piece 19 (.iconst 2) 1 20 := ⟨by decide +kernel, rfl⟩
theorem dL_piece_20 : decode cL_piece 20 = .ok (.ireturn, 1) := by decide +kernel
theorem dL_piece_8 : gw_dc cL_piece 8 (.i2l) 1 9 := ⟨by decide +kernel, rfl⟩
theorem dL_piece_9 : gw_dc cL_piece 9 (.lastore) 1 10 := ⟨by decide +kernel, rfl⟩
theorem dL_piece_10 : gw_dc cL_piece 10 (.goto 11) 3 13 := ⟨by decide +kernel, rfl⟩
theorem dL_piece_21 : gw_dc cL_piece 21 (.iconst 0) 1 22 := ⟨by decide +kernel, rfl⟩
theorem dL_piece_22 : decode cL_piece 22 = .ok (.ireturn, 1) := by decide +kernel
theorem myH_L_part : gw_myH yL_part cL_part 5 (some .int) [(0, 10, 13, 22), (0, 10, 17, 30), (0, 10, 21, 13)] 4 := ⟨gw_mem 1043 (by decide +kernel) rfl, gw_mem 94 (by decide +kernel) rfl, by decide +kernel, by decide⟩
theorem cl_30 : Cond.classLink RL 30 "java/lang/IllegalStateException" ∈ wsG := gw_mem 1044 (by decide +kernel) rfl
theorem ca_30 : Cond.castable "java/lang/IllegalStateException" "java/lang/IllegalStateException" ∈ wsN := gw_memN 1060 (by decide +kernel) rfl
theorem dL_part_0 : gw_dc cL_part 0 (.aload_n 3) 1 1 := ⟨by decide +kernel, rfl⟩
theorem dL_part_1 : gw_dc cL_part 1 (.iconst 0) 1 2 := ⟨by decide +kernel, rfl⟩
theorem dL_part_2 : gw_dc cL_part 2 (.aload_n 0) 1 3 := ⟨by decide +kernel, rfl⟩
theorem dL_part_3 : gw_dc cL_part 3 (.iload_n 1) 1 4 := ⟨by decide +kernel, rfl⟩
theorem dL_part_4 : gw_dc cL_part 4 (.iload_n 2) 1 5 := ⟨by decide +kernel, rfl⟩
theorem mv_RL_27 : gw_mv RL 27 yX10_part := ⟨gw_mem 1045 (by decide +kernel) rfl, gw_mem 1046 (by decide +kernel) rfl, gw_mem 1047 (by decide +kernel) rfl⟩
theorem my_X10_part : gw_my yX10_part cX10_part 5 (some .int) 2 := ⟨gw_mem 1048 (by decide +kernel) rfl, gw_mem 95 (by decide +kernel) rfl, by decide +kernel, by decide⟩
theorem dL_part_5 : gw_dc cL_part 5 (.invokevirtual 27) 3 8 := ⟨by decide +kernel, rfl⟩
theorem dL_part_13 : gw_dc cL_part 13 (.astore 4) 2 15 := ⟨by decide +kernel, rfl⟩
theorem dL_part_15 : gw_dc cL_part 15 (.iconst 1) 1 16 := ⟨by decide +kernel, rfl⟩
theorem dL_part_16 : decode cL_part 16 = .ok (.ireturn, 1) := by decide +kernel
theorem dL_part_17 : gw_dc cL_part 17 (.astore 4) 2 19 := ⟨by decide +kernel, rfl⟩
theorem dL_part_19 : gw_dc cL_part 19 (.iconst 2) 1 20 := ⟨by decide +kernel, rfl⟩
theorem dL_part_20 : decode cL_part 20 = .ok (.ireturn, 1) := by decide +kernel
theorem dL_part_21 : gw_dc cL_part 21 (.astore 4) 2 23 := ⟨by decide +kernel, rfl⟩
theorem dL_part_23 : gw_dc cL_part 23 (.iconst 3) 1 24 := ⟨by decide +kernel, rfl⟩
theorem dL_part_24 : decode cL_part 24 = .ok (.ireturn, 1) := by decide +kernel
theorem dL_part_8 : gw_dc cL_part 8 (.i2l) 1 9 := ⟨by decide +kernel, rfl⟩
theorem dL_part_9 : gw_dc cL_part 9 (.lastore) 1 10 := ⟨by decide +kernel, rfl⟩
theorem dL_part_10 : gw_dc cL_part 10 (.goto 15) 3 13 := ⟨by decide +kernel, rfl⟩
theorem dL_part_25 : gw_dc cL_part 25 (.iconst 0) 1 26 := ⟨by decide +kernel, rfl⟩
theorem dL_part_26 : decode cL_part 26 = .ok (.ireturn, 1) := by decide +kernel
theorem myH_L_end : gw_myH yL_end cL_end 4 (some .int) [(0, 9, 12, 22)] 3 := ⟨gw_mem 1096 (by decide +kernel) rfl, gw_mem 94 (by decide +kernel) rfl, by decide +kernel, by decide⟩
theorem dL_end_0 : gw_dc cL_end 0 (.aload_n 2) 1 1 := ⟨by decide +kernel, rfl⟩
theorem dL_end_1 : gw_dc cL_end 1 (.iconst 0) 1 2 := ⟨by decide +kernel, rfl⟩
theorem dL_end_2 : gw_dc cL_end 2 (.aload_n 0) 1 3 := ⟨by decide +kernel, rfl⟩
theorem dL_end_3 : gw_dc cL_end 3 (.iload_n 1) 1 4 := ⟨by decide +kernel, rfl⟩
theorem mv_RL_32 : gw_mv RL 32 yX10_end := ⟨gw_mem 1097 (by decide +kernel) rfl, gw_mem 1098 (by decide +kernel) rfl, gw_mem 1099 (by decide +kernel) rfl⟩
theorem my_X10_end : gw_my yX10_end cX10_end 2 (some .int) 1 := ⟨gw_mem 1100 (by decide +kernel) rfl, gw_mem 95 (by decide +kernel) rfl, by decide +kernel, by decide⟩
theorem dL_end_4 : gw_dc cL_end 4 (.invokevirtual 32) 3 7 := ⟨by decide +kernel, rfl⟩
theorem dL_end_12 : gw_dc cL_end 12 (.astore_n 3) 1 13 := ⟨by decide +kernel, rfl⟩
theorem dL_end_13 : gw_dc cL_end 13 (.iconst 1) 1 14 := ⟨by decide +kernel, rfl⟩
theorem dL_end_14 : decode cL_end 14 = .ok (.ireturn, 1) := by decide +kernel
theorem dL_end_7 : gw_dc cL_end 7 (.i2l) 1 8 := ⟨by decide +kernel, rfl⟩
theorem dL_end_8 : gw_dc cL_end 8 (.lastore) 1 9 := ⟨by decide +kernel, rfl⟩
theorem dL_end_9 : gw_dc cL_end 9 (.goto 6) 3 12 := ⟨by decide +kernel, rfl⟩
theorem dL_end_15 : gw_dc cL_end 15 (.iconst 0) 1 16 := ⟨by decide +kernel, rfl⟩
theorem dL_end_16 : decode cL_end 16 = .ok (.ireturn, 1) := by decide +kernel
theorem myH_L_waits : gw_myH yL_waits cL_waits 4 (some .int) [(0, 9, 12, 22)] 3 := ⟨gw_mem 1103 (by decide +kernel) rfl, gw_mem 94 (by decide +kernel) rfl, by decide +kernel, by decide⟩
theorem dL_waits_0 : gw_dc cL_waits 0 (.aload_n 2) 1 1 := ⟨by decide +kernel, rfl⟩
theorem dL_waits_1 : gw_dc cL_waits 1 (.iconst 0) 1 2 := ⟨by decide +kernel, rfl⟩
theorem dL_waits_2 : gw_dc cL_waits 2 (.aload_n 0) 1 3 := ⟨by decide +kernel, rfl⟩
theorem dL_waits_3 : gw_dc cL_waits 3 (.iload_n 1) 1 4 := ⟨by decide +kernel, rfl⟩
theorem mv_RL_35 : gw_mv RL 35 yX10_waits := ⟨gw_mem 1104 (by decide +kernel) rfl, gw_mem 1105 (by decide +kernel) rfl, gw_mem 1106 (by decide +kernel) rfl⟩
theorem my_X10_waits : gw_my yX10_waits cX10_waits 2 (some .int) 1 := ⟨gw_mem 1107 (by decide +kernel) rfl, gw_mem 95 (by decide +kernel) rfl, by decide +kernel, by decide⟩
theorem dL_waits_4 : gw_dc cL_waits 4 (.invokevirtual 35) 3 7 := ⟨by decide +kernel, rfl⟩
theorem dL_waits_12 : gw_dc cL_waits 12 (.astore_n 3) 1 13 := ⟨by decide +kernel, rfl⟩
theorem dL_waits_13 : gw_dc cL_waits 13 (.iconst 1) 1 14 := ⟨by decide +kernel, rfl⟩
theorem dL_waits_14 : decode cL_waits 14 = .ok (.ireturn, 1) := by decide +kernel
theorem dL_waits_7 : gw_dc cL_waits 7 (.i2l) 1 8 := ⟨by decide +kernel, rfl⟩
theorem dL_waits_8 : gw_dc cL_waits 8 (.lastore) 1 9 := ⟨by decide +kernel, rfl⟩
theorem dL_waits_9 : gw_dc cL_waits 9 (.goto 6) 3 12 := ⟨by decide +kernel, rfl⟩
theorem dL_waits_15 : gw_dc cL_waits 15 (.iconst 0) 1 16 := ⟨by decide +kernel, rfl⟩
theorem dL_waits_16 : decode cL_waits 16 = .ok (.ireturn, 1) := by decide +kernel
theorem myH_L_home : gw_myH yL_home cL_home 4 (some .int) [(0, 9, 12, 13)] 3 := ⟨gw_mem 1110 (by decide +kernel) rfl, gw_mem 94 (by decide +kernel) rfl, by decide +kernel, by decide⟩
theorem dL_home_0 : gw_dc cL_home 0 (.aload_n 2) 1 1 := ⟨by decide +kernel, rfl⟩
theorem dL_home_1 : gw_dc cL_home 1 (.iconst 0) 1 2 := ⟨by decide +kernel, rfl⟩
theorem dL_home_2 : gw_dc cL_home 2 (.aload_n 0) 1 3 := ⟨by decide +kernel, rfl⟩
theorem dL_home_3 : gw_dc cL_home 3 (.iload_n 1) 1 4 := ⟨by decide +kernel, rfl⟩
theorem mv_RL_38 : gw_mv RL 38 yX10_home := ⟨gw_mem 1111 (by decide +kernel) rfl, gw_mem 1112 (by decide +kernel) rfl, gw_mem 1113 (by decide +kernel) rfl⟩
theorem my_X10_home : gw_my yX10_home cX10_home 2 (some .int) 1 := ⟨gw_mem 1114 (by decide +kernel) rfl, gw_mem 95 (by decide +kernel) rfl, by decide +kernel, by decide⟩
theorem dL_home_4 : gw_dc cL_home 4 (.invokevirtual 38) 3 7 := ⟨by decide +kernel, rfl⟩
theorem dL_home_12 : gw_dc cL_home 12 (.astore_n 3) 1 13 := ⟨by decide +kernel, rfl⟩
theorem dL_home_13 : gw_dc cL_home 13 (.iconst 1) 1 14 := ⟨by decide +kernel, rfl⟩
theorem dL_home_14 : decode cL_home 14 = .ok (.ireturn, 1) := by decide +kernel
theorem dL_home_7 : gw_dc cL_home 7 (.i2l) 1 8 := ⟨by decide +kernel, rfl⟩
theorem dL_home_8 : gw_dc cL_home 8 (.lastore) 1 9 := ⟨by decide +kernel, rfl⟩
theorem dL_home_9 : gw_dc cL_home 9 (.goto 6) 3 12 := ⟨by decide +kernel, rfl⟩
theorem dL_home_15 : gw_dc cL_home 15 (.iconst 0) 1 16 := ⟨by decide +kernel, rfl⟩
theorem dL_home_16 : decode cL_home 16 = .ok (.ireturn, 1) := by decide +kernel
theorem myH_L_stands : gw_myH yL_stands cL_stands 5 (some .int) [(0, 10, 13, 13)] 4 := ⟨gw_mem 1122 (by decide +kernel) rfl, gw_mem 94 (by decide +kernel) rfl, by decide +kernel, by decide⟩
theorem dL_stands_0 : gw_dc cL_stands 0 (.aload_n 3) 1 1 := ⟨by decide +kernel, rfl⟩
theorem dL_stands_1 : gw_dc cL_stands 1 (.iconst 0) 1 2 := ⟨by decide +kernel, rfl⟩
theorem dL_stands_2 : gw_dc cL_stands 2 (.aload_n 0) 1 3 := ⟨by decide +kernel, rfl⟩
theorem dL_stands_3 : gw_dc cL_stands 3 (.iload_n 1) 1 4 := ⟨by decide +kernel, rfl⟩
theorem dL_stands_4 : gw_dc cL_stands 4 (.iload_n 2) 1 5 := ⟨by decide +kernel, rfl⟩
theorem mv_RL_41 : gw_mv RL 41 yX10_stands := ⟨gw_mem 1123 (by decide +kernel) rfl, gw_mem 1124 (by decide +kernel) rfl, gw_mem 1125 (by decide +kernel) rfl⟩
theorem my_X10_stands : gw_my yX10_stands cX10_stands 3 (some .int) 2 := ⟨gw_mem 1126 (by decide +kernel) rfl, gw_mem 95 (by decide +kernel) rfl, by decide +kernel, by decide⟩
theorem dL_stands_5 : gw_dc cL_stands 5 (.invokevirtual 41) 3 8 := ⟨by decide +kernel, rfl⟩
theorem dL_stands_13 : gw_dc cL_stands 13 (.astore 4) 2 15 := ⟨by decide +kernel, rfl⟩
theorem dL_stands_15 : gw_dc cL_stands 15 (.iconst 1) 1 16 := ⟨by decide +kernel, rfl⟩
theorem dL_stands_16 : decode cL_stands 16 = .ok (.ireturn, 1) := by decide +kernel
theorem dL_stands_8 : gw_dc cL_stands 8 (.i2l) 1 9 := ⟨by decide +kernel, rfl⟩
theorem dL_stands_9 : gw_dc cL_stands 9 (.lastore) 1 10 := ⟨by decide +kernel, rfl⟩
theorem dL_stands_10 : gw_dc cL_stands 10 (.goto 7) 3 13 := ⟨by decide +kernel, rfl⟩
theorem dL_stands_17 : gw_dc cL_stands 17 (.iconst 0) 1 18 := ⟨by decide +kernel, rfl⟩
theorem dL_stands_18 : decode cL_stands 18 = .ok (.ireturn, 1) := by decide +kernel
theorem myH_L_ahead : gw_myH yL_ahead cL_ahead 5 (some .int) [(0, 10, 13, 22)] 4 := ⟨gw_mem 1150 (by decide +kernel) rfl, gw_mem 94 (by decide +kernel) rfl, by decide +kernel, by decide⟩
theorem dL_ahead_0 : gw_dc cL_ahead 0 (.aload_n 3) 1 1 := ⟨by decide +kernel, rfl⟩
theorem dL_ahead_1 : gw_dc cL_ahead 1 (.iconst 0) 1 2 := ⟨by decide +kernel, rfl⟩
theorem dL_ahead_2 : gw_dc cL_ahead 2 (.aload_n 0) 1 3 := ⟨by decide +kernel, rfl⟩
theorem dL_ahead_3 : gw_dc cL_ahead 3 (.iload_n 1) 1 4 := ⟨by decide +kernel, rfl⟩
theorem dL_ahead_4 : gw_dc cL_ahead 4 (.iload_n 2) 1 5 := ⟨by decide +kernel, rfl⟩
theorem mv_RL_44 : gw_mv RL 44 yX10_ahead := ⟨gw_mem 1151 (by decide +kernel) rfl, gw_mem 1152 (by decide +kernel) rfl, gw_mem 1153 (by decide +kernel) rfl⟩
theorem my_X10_ahead : gw_my yX10_ahead cX10_ahead 3 (some .int) 2 := ⟨gw_mem 1154 (by decide +kernel) rfl, gw_mem 95 (by decide +kernel) rfl, by decide +kernel, by decide⟩
theorem dL_ahead_5 : gw_dc cL_ahead 5 (.invokevirtual 44) 3 8 := ⟨by decide +kernel, rfl⟩
theorem dL_ahead_13 : gw_dc cL_ahead 13 (.astore 4) 2 15 := ⟨by decide +kernel, rfl⟩
theorem dL_ahead_15 : gw_dc cL_ahead 15 (.iconst 1) 1 16 := ⟨by decide +kernel, rfl⟩
theorem dL_ahead_16 : decode cL_ahead 16 = .ok (.ireturn, 1) := by decide +kernel
theorem dL_ahead_8 : gw_dc cL_ahead 8 (.i2l) 1 9 := ⟨by decide +kernel, rfl⟩
theorem dL_ahead_9 : gw_dc cL_ahead 9 (.lastore) 1 10 := ⟨by decide +kernel, rfl⟩
theorem dL_ahead_10 : gw_dc cL_ahead 10 (.goto 7) 3 13 := ⟨by decide +kernel, rfl⟩
theorem dL_ahead_17 : gw_dc cL_ahead 17 (.iconst 0) 1 18 := ⟨by decide +kernel, rfl⟩
theorem dL_ahead_18 : decode cL_ahead 18 = .ok (.ireturn, 1) := by decide +kernel
theorem myH_L_judge : gw_myH yL_judge cL_judge 5 (some .int) [(0, 10, 13, 22), (0, 10, 17, 30), (0, 10, 21, 13)] 4 := ⟨gw_mem 1159 (by decide +kernel) rfl, gw_mem 94 (by decide +kernel) rfl, by decide +kernel, by decide⟩
theorem dL_judge_0 : gw_dc cL_judge 0 (.aload_n 3) 1 1 := ⟨by decide +kernel, rfl⟩
theorem dL_judge_1 : gw_dc cL_judge 1 (.iconst 0) 1 2 := ⟨by decide +kernel, rfl⟩
theorem dL_judge_2 : gw_dc cL_judge 2 (.aload_n 0) 1 3 := ⟨by decide +kernel, rfl⟩
theorem dL_judge_3 : gw_dc cL_judge 3 (.iload_n 1) 1 4 := ⟨by decide +kernel, rfl⟩
theorem dL_judge_4 : gw_dc cL_judge 4 (.iload_n 2) 1 5 := ⟨by decide +kernel, rfl⟩
theorem mv_RL_47 : gw_mv RL 47 yX10_judge := ⟨gw_mem 1160 (by decide +kernel) rfl, gw_mem 1161 (by decide +kernel) rfl, gw_mem 1162 (by decide +kernel) rfl⟩
theorem my_X10_judge : gw_my yX10_judge cX10_judge 5 (some .int) 2 := ⟨gw_mem 1163 (by decide +kernel) rfl, gw_mem 95 (by decide +kernel) rfl, by decide +kernel, by decide⟩
theorem dL_judge_5 : gw_dc cL_judge 5 (.invokevirtual 47) 3 8 := ⟨by decide +kernel, rfl⟩
theorem dL_judge_13 : gw_dc cL_judge 13 (.astore 4) 2 15 := ⟨by decide +kernel, rfl⟩
theorem dL_judge_15 : gw_dc cL_judge 15 (.iconst 1) 1 16 := ⟨by decide +kernel, rfl⟩
theorem dL_judge_16 : decode cL_judge 16 = .ok (.ireturn, 1) := by decide +kernel
theorem dL_judge_17 : gw_dc cL_judge 17 (.astore 4) 2 19 := ⟨by decide +kernel, rfl⟩
theorem dL_judge_19 : gw_dc cL_judge 19 (.iconst 2) 1 20 := ⟨by decide +kernel, rfl⟩
theorem dL_judge_20 : decode cL_judge 20 = .ok (.ireturn, 1) := by decide +kernel
theorem dL_judge_21 : gw_dc cL_judge 21 (.astore 4) 2 23 := ⟨by decide +kernel, rfl⟩
theorem dL_judge_23 : gw_dc cL_judge 23 (.iconst 3) 1 24 := ⟨by decide +kernel, rfl⟩
theorem dL_judge_24 : decode cL_judge 24 = .ok (.ireturn, 1) := by decide +kernel
theorem dL_judge_8 : gw_dc cL_judge 8 (.i2l) 1 9 := ⟨by decide +kernel, rfl⟩
theorem dL_judge_9 : gw_dc cL_judge 9 (.lastore) 1 10 := ⟨by decide +kernel, rfl⟩
theorem dL_judge_10 : gw_dc cL_judge 10 (.goto 15) 3 13 := ⟨by decide +kernel, rfl⟩
theorem dL_judge_25 : gw_dc cL_judge 25 (.iconst 0) 1 26 := ⟨by decide +kernel, rfl⟩
theorem dL_judge_26 : decode cL_judge 26 = .ok (.ireturn, 1) := by decide +kernel
theorem myH_L_cost : gw_myH yL_cost cL_cost 4 (some .int) [(0, 9, 12, 22), (0, 9, 15, 30)] 3 := ⟨gw_mem 1166 (by decide +kernel) rfl, gw_mem 94 (by decide +kernel) rfl, by decide +kernel, by decide⟩
theorem dL_cost_0 : gw_dc cL_cost 0 (.aload_n 2) 1 1 := ⟨by decide +kernel, rfl⟩
theorem dL_cost_1 : gw_dc cL_cost 1 (.iconst 0) 1 2 := ⟨by decide +kernel, rfl⟩
theorem dL_cost_2 : gw_dc cL_cost 2 (.aload_n 0) 1 3 := ⟨by decide +kernel, rfl⟩
theorem dL_cost_3 : gw_dc cL_cost 3 (.iload_n 1) 1 4 := ⟨by decide +kernel, rfl⟩
theorem mv_RL_50 : gw_mv RL 50 yX10_cost := ⟨gw_mem 1167 (by decide +kernel) rfl, gw_mem 1168 (by decide +kernel) rfl, gw_mem 1169 (by decide +kernel) rfl⟩
theorem my_X10_cost : gw_my yX10_cost cX10_cost 2 (some .int) 1 := ⟨gw_mem 1170 (by decide +kernel) rfl, gw_mem 95 (by decide +kernel) rfl, by decide +kernel, by decide⟩
theorem dL_cost_4 : gw_dc cL_cost 4 (.invokevirtual 50) 3 7 := ⟨by decide +kernel, rfl⟩
theorem dL_cost_12 : gw_dc cL_cost 12 (.astore_n 3) 1 13 := ⟨by decide +kernel, rfl⟩
theorem dL_cost_13 : gw_dc cL_cost 13 (.iconst 1) 1 14 := ⟨by decide +kernel, rfl⟩
theorem dL_cost_14 : decode cL_cost 14 = .ok (.ireturn, 1) := by decide +kernel
theorem dL_cost_15 : gw_dc cL_cost 15 (.astore_n 3) 1 16 := ⟨by decide +kernel, rfl⟩
theorem dL_cost_16 : gw_dc cL_cost 16 (.iconst 2) 1 17 := ⟨by decide +kernel, rfl⟩
theorem dL_cost_17 : decode cL_cost 17 = .ok (.ireturn, 1) := by decide +kernel
theorem dL_cost_7 : gw_dc cL_cost 7 (.i2l) 1 8 := ⟨by decide +kernel, rfl⟩
theorem dL_cost_8 : gw_dc cL_cost 8 (.lastore) 1 9 := ⟨by decide +kernel, rfl⟩
theorem dL_cost_9 : gw_dc cL_cost 9 (.goto 9) 3 12 := ⟨by decide +kernel, rfl⟩
theorem dL_cost_18 : gw_dc cL_cost 18 (.iconst 0) 1 19 := ⟨by decide +kernel, rfl⟩
theorem dL_cost_19 : decode cL_cost 19 = .ok (.ireturn, 1) := by decide +kernel
theorem myH_L_swap : gw_myH yL_swap cL_swap 5 (some .int) [(0, 10, 13, 22), (0, 10, 17, 30), (0, 10, 21, 56)] 4 := ⟨gw_mem 1186 (by decide +kernel) rfl, gw_mem 94 (by decide +kernel) rfl, by decide +kernel, by decide⟩
theorem cl_56 : Cond.classLink RL 56 "java/lang/IndexOutOfBoundsException" ∈ wsG := gw_mem 1187 (by decide +kernel) rfl
theorem ca_56 : Cond.castable "java/lang/IndexOutOfBoundsException" "java/lang/IndexOutOfBoundsException" ∈ wsN := gw_memN 1194 (by decide +kernel) rfl
theorem dL_swap_0 : gw_dc cL_swap 0 (.aload_n 3) 1 1 := ⟨by decide +kernel, rfl⟩
theorem dL_swap_1 : gw_dc cL_swap 1 (.iconst 0) 1 2 := ⟨by decide +kernel, rfl⟩
theorem dL_swap_2 : gw_dc cL_swap 2 (.aload_n 0) 1 3 := ⟨by decide +kernel, rfl⟩
theorem dL_swap_3 : gw_dc cL_swap 3 (.iload_n 1) 1 4 := ⟨by decide +kernel, rfl⟩
theorem dL_swap_4 : gw_dc cL_swap 4 (.iload_n 2) 1 5 := ⟨by decide +kernel, rfl⟩
theorem mv_RL_53 : gw_mv RL 53 yX10_swap := ⟨gw_mem 1188 (by decide +kernel) rfl, gw_mem 1189 (by decide +kernel) rfl, gw_mem 1190 (by decide +kernel) rfl⟩
theorem my_X10_swap : gw_my yX10_swap cX10_swap 6 (some .int) 2 := ⟨gw_mem 1191 (by decide +kernel) rfl, gw_mem 95 (by decide +kernel) rfl, by decide +kernel, by decide⟩
theorem dL_swap_5 : gw_dc cL_swap 5 (.invokevirtual 53) 3 8 := ⟨by decide +kernel, rfl⟩
theorem dL_swap_13 : gw_dc cL_swap 13 (.astore 4) 2 15 := ⟨by decide +kernel, rfl⟩
theorem dL_swap_15 : gw_dc cL_swap 15 (.iconst 1) 1 16 := ⟨by decide +kernel, rfl⟩
theorem dL_swap_16 : decode cL_swap 16 = .ok (.ireturn, 1) := by decide +kernel
theorem dL_swap_17 : gw_dc cL_swap 17 (.astore 4) 2 19 := ⟨by decide +kernel, rfl⟩
theorem dL_swap_19 : gw_dc cL_swap 19 (.iconst 2) 1 20 := ⟨by decide +kernel, rfl⟩
theorem dL_swap_20 : decode cL_swap 20 = .ok (.ireturn, 1) := by decide +kernel
theorem dL_swap_21 : gw_dc cL_swap 21 (.astore 4) 2 23 := ⟨by decide +kernel, rfl⟩
theorem dL_swap_23 : gw_dc cL_swap 23 (.iconst 3) 1 24 := ⟨by decide +kernel, rfl⟩
theorem dL_swap_24 : decode cL_swap 24 = .ok (.ireturn, 1) := by decide +kernel
theorem dL_swap_8 : gw_dc cL_swap 8 (.i2l) 1 9 := ⟨by decide +kernel, rfl⟩
theorem dL_swap_9 : gw_dc cL_swap 9 (.lastore) 1 10 := ⟨by decide +kernel, rfl⟩
theorem dL_swap_10 : gw_dc cL_swap 10 (.goto 15) 3 13 := ⟨by decide +kernel, rfl⟩
theorem dL_swap_25 : gw_dc cL_swap 25 (.iconst 0) 1 26 := ⟨by decide +kernel, rfl⟩
theorem dL_swap_26 : decode cL_swap 26 = .ok (.ireturn, 1) := by decide +kernel
theorem myH_L_parting : gw_myH yL_parting cL_parting 6 (some .int) [(0, 12, 15, 22), (0, 12, 19, 13)] 5 := ⟨gw_mem 1210 (by decide +kernel) rfl, gw_mem 94 (by decide +kernel) rfl, by decide +kernel, by decide⟩
theorem dL_parting_0 : gw_dc cL_parting 0 (.aload 4) 2 2 := ⟨by decide +kernel, rfl⟩
theorem dL_parting_2 : gw_dc cL_parting 2 (.iconst 0) 1 3 := ⟨by decide +kernel, rfl⟩
theorem dL_parting_3 : gw_dc cL_parting 3 (.aload_n 0) 1 4 := ⟨by decide +kernel, rfl⟩
theorem dL_parting_4 : gw_dc cL_parting 4 (.iload_n 1) 1 5 := ⟨by decide +kernel, rfl⟩
theorem dL_parting_5 : gw_dc cL_parting 5 (.iload_n 2) 1 6 := ⟨by decide +kernel, rfl⟩
theorem dL_parting_6 : gw_dc cL_parting 6 (.iload_n 3) 1 7 := ⟨by decide +kernel, rfl⟩
theorem mv_RL_58 : gw_mv RL 58 yX10_parting := ⟨gw_mem 1211 (by decide +kernel) rfl, gw_mem 1212 (by decide +kernel) rfl, gw_mem 1213 (by decide +kernel) rfl⟩
theorem my_X10_parting : gw_my yX10_parting cX10_parting 4 (some .int) 3 := ⟨gw_mem 1214 (by decide +kernel) rfl, gw_mem 95 (by decide +kernel) rfl, by decide +kernel, by decide⟩
theorem dL_parting_7 : gw_dc cL_parting 7 (.invokevirtual 58) 3 10 := ⟨by decide +kernel, rfl⟩
theorem dL_parting_15 : gw_dc cL_parting 15 (.astore 5) 2 17 := ⟨by decide +kernel, rfl⟩
theorem dL_parting_17 : gw_dc cL_parting 17 (.iconst 1) 1 18 := ⟨by decide +kernel, rfl⟩
theorem dL_parting_18 : decode cL_parting 18 = .ok (.ireturn, 1) := by decide +kernel
theorem dL_parting_19 : gw_dc cL_parting 19 (.astore 5) 2 21 := ⟨by decide +kernel, rfl⟩
theorem dL_parting_21 : gw_dc cL_parting 21 (.iconst 2) 1 22 := ⟨by decide +kernel, rfl⟩
theorem dL_parting_22 : decode cL_parting 22 = .ok (.ireturn, 1) := by decide +kernel
theorem dL_parting_10 : gw_dc cL_parting 10 (.i2l) 1 11 := ⟨by decide +kernel, rfl⟩
theorem dL_parting_11 : gw_dc cL_parting 11 (.lastore) 1 12 := ⟨by decide +kernel, rfl⟩
theorem dL_parting_12 : gw_dc cL_parting 12 (.goto 11) 3 15 := ⟨by decide +kernel, rfl⟩
theorem dL_parting_23 : gw_dc cL_parting 23 (.iconst 0) 1 24 := ⟨by decide +kernel, rfl⟩
theorem dL_parting_24 : decode cL_parting 24 = .ok (.ireturn, 1) := by decide +kernel
set_option maxRecDepth 4000 in
theorem w_mill (ad : Nat → Nat) (σ : Sg) (n : Int) (hg : ∀ E, (gBytes σ n) = some E → E ∈ eI) : gw_SpH yL_mill cL_mill 4 (some .int) [(0, 9, 12, 13)] 11 1 6 [vR (some 0), vI n, vR (some 248)] (gw_M0 ad) σ (gw_WQ (gBytes σ n) eI (gw_M0 ad) σ (su ((zMill σ n).2) 248 0 (zMill σ n).1)) gw_no := by
  refine gw_SpH.of [some (vR (some 0)), some (vI n), some (vR (some 248)), none] (by decide +kernel) rfl (Nat.le_of_ble_eq_true rfl) ?_
  intro X G fx het nc
  refine g_aload_n fx dL_mill_0 rfl ?_
  refine g_iconst fx dL_mill_1 (by unfold okI; omega) ?_
  refine g_aload_n fx dL_mill_2 rfl ?_
  refine g_iload_n fx dL_mill_3 rfl ?_
  refine g_callV fx dL_mill_4 mv_RL_7 my_X10_mill (s_X10_mill ad σ n) o_0 rfl rfl rfl (Nat.le_of_ble_eq_true rfl) (by decide) ⟨by decide, by decide⟩ (fun E hE => ?_) (fun r M2 σ2 hq _ => ?_)
  · have hm := hg E hE
    rcases List.mem_cons.mp hm with rfl | hm
    · refine g_catchN (pre := []) (suf := []) fx nc het rfl (fun z hz => absurd hz List.not_mem_nil) rfl (by decide) cl_13 ca_13 dL_mill_12 (by decide) rfl rfl ?_
      refine g_iconst fx dL_mill_13 (by unfold okI; omega) ?_
      exact g_iret fx rfl dL_mill_14 (by decide) (by decide) (gw_le.rf _) ⟨rfl, Or.inr ⟨0, _, hE, rfl, rfl, rfl⟩⟩
    exact absurd hm List.not_mem_nil
  · obtain ⟨h0, rfl, rfl, rfl⟩ := hq
    refine g_i2l fx dL_mill_7 ?_
    refine g_last fx dL_mill_8 o_248 (by decide) (by decide) ?_
    refine g_goto (tgt := 15) fx dL_mill_9 (by decide) ?_
    refine g_iconst fx dL_mill_15 (by unfold okI; omega) ?_
    exact g_iret fx rfl dL_mill_16 (by decide) (by decide) (gw_le.rf _) ⟨rfl, Or.inl ⟨h0, rfl, rfl⟩⟩
set_option maxRecDepth 4000 in
theorem w_law (ad : Nat → Nat) (σ : Sg) (n : Int) (hg : ∀ E, (gBytes σ n) = some E → E ∈ eI) : gw_SpH yL_law cL_law 4 (some .int) [(0, 9, 12, 13)] 11 1 6 [vR (some 0), vI n, vR (some 248)] (gw_M0 ad) σ (gw_WQ (gBytes σ n) eI (gw_M0 ad) σ (su ((zLaw σ n).2) 248 0 (zLaw σ n).1)) gw_no := by
  refine gw_SpH.of [some (vR (some 0)), some (vI n), some (vR (some 248)), none] (by decide +kernel) rfl (Nat.le_of_ble_eq_true rfl) ?_
  intro X G fx het nc
  refine g_aload_n fx dL_law_0 rfl ?_
  refine g_iconst fx dL_law_1 (by unfold okI; omega) ?_
  refine g_aload_n fx dL_law_2 rfl ?_
  refine g_iload_n fx dL_law_3 rfl ?_
  refine g_callV fx dL_law_4 mv_RL_15 my_X10_law (s_X10_law ad σ n) o_0 rfl rfl rfl (Nat.le_of_ble_eq_true rfl) (by decide) ⟨by decide, by decide⟩ (fun E hE => ?_) (fun r M2 σ2 hq _ => ?_)
  · have hm := hg E hE
    rcases List.mem_cons.mp hm with rfl | hm
    · refine g_catchN (pre := []) (suf := []) fx nc het rfl (fun z hz => absurd hz List.not_mem_nil) rfl (by decide) cl_13 ca_13 dL_law_12 (by decide) rfl rfl ?_
      refine g_iconst fx dL_law_13 (by unfold okI; omega) ?_
      exact g_iret fx rfl dL_law_14 (by decide) (by decide) (gw_le.rf _) ⟨rfl, Or.inr ⟨0, _, hE, rfl, rfl, rfl⟩⟩
    exact absurd hm List.not_mem_nil
  · obtain ⟨h0, rfl, rfl, rfl⟩ := hq
    refine g_i2l fx dL_law_7 ?_
    refine g_last fx dL_law_8 o_248 (by decide) (by decide) ?_
    refine g_goto (tgt := 15) fx dL_law_9 (by decide) ?_
    refine g_iconst fx dL_law_15 (by unfold okI; omega) ?_
    exact g_iret fx rfl dL_law_16 (by decide) (by decide) (gw_le.rf _) ⟨rfl, Or.inl ⟨h0, rfl, rfl⟩⟩
set_option maxRecDepth 4000 in
theorem w_sack (ad : Nat → Nat) (σ : Sg) (s : Int) (w : Int) (hg : ∀ E, ((gSack σ s).or (gWhat w 7)) = some E → E ∈ eNI) : gw_SpH yL_sack cL_sack 5 (some .int) [(0, 10, 13, 22), (0, 10, 17, 13)] 9 2 12 [vR (some 0), vI s, vI w, vR (some 248)] (gw_M0 ad) σ (gw_WQ ((gSack σ s).or (gWhat w 7)) eNI (gw_M0 ad) σ (su (σ) 248 0 (zSack σ s w))) gw_no := by
  refine gw_SpH.of [some (vR (some 0)), some (vI s), some (vI w), some (vR (some 248)), none] (by decide +kernel) rfl (Nat.le_of_ble_eq_true rfl) ?_
  intro X G fx het nc
  refine g_aload_n fx dL_sack_0 rfl ?_
  refine g_iconst fx dL_sack_1 (by unfold okI; omega) ?_
  refine g_aload_n fx dL_sack_2 rfl ?_
  refine g_iload_n fx dL_sack_3 rfl ?_
  refine g_iload_n fx dL_sack_4 rfl ?_
  refine g_callV fx dL_sack_5 mv_RL_18 my_X10_sack (s_X10_sack ad σ s w) o_0 rfl rfl rfl (Nat.le_of_ble_eq_true rfl) (by decide) ⟨by decide, by decide⟩ (fun E hE => ?_) (fun r M2 σ2 hq _ => ?_)
  · have hm := hg E hE
    rcases List.mem_cons.mp hm with rfl | hm
    · refine g_catch (pre := []) (suf := [(0, 10, 17, 13)]) fx nc het rfl (fun z hz => absurd hz List.not_mem_nil) rfl (by decide) cl_22 ca_22 dL_sack_13 (by decide) rfl rfl ?_
      refine g_iconst fx dL_sack_15 (by unfold okI; omega) ?_
      exact g_iret fx rfl dL_sack_16 (by decide) (by decide) (gw_le.rf _) ⟨rfl, Or.inr ⟨0, _, hE, rfl, rfl, rfl⟩⟩
    rcases List.mem_cons.mp hm with rfl | hm
    · refine g_catch (pre := [(0, 10, 13, 22)]) (suf := []) fx nc het rfl (List.forall_mem_cons.mpr ⟨⟨by decide, _, cl_22, by decide⟩, (fun z hz => absurd hz List.not_mem_nil)⟩) rfl (by decide) cl_13 ca_13 dL_sack_17 (by decide) rfl rfl ?_
      refine g_iconst fx dL_sack_19 (by unfold okI; omega) ?_
      exact g_iret fx rfl dL_sack_20 (by decide) (by decide) (gw_le.rf _) ⟨rfl, Or.inr ⟨1, _, hE, rfl, rfl, rfl⟩⟩
    exact absurd hm List.not_mem_nil
  · obtain ⟨h0, rfl, rfl, rfl⟩ := hq
    refine g_i2l fx dL_sack_8 ?_
    refine g_last fx dL_sack_9 o_248 (by decide) (by decide) ?_
    refine g_goto (tgt := 21) fx dL_sack_10 (by decide) ?_
    refine g_iconst fx dL_sack_21 (by unfold okI; omega) ?_
    exact g_iret fx rfl dL_sack_22 (by decide) (by decide) (gw_le.rf _) ⟨rfl, Or.inl ⟨h0, rfl, rfl⟩⟩
set_option maxRecDepth 4000 in
theorem w_piece (ad : Nat → Nat) (σ : Sg) (p : Int) (w : Int) (hg : ∀ E, ((gPiece σ p).or (gWhat w 4)) = some E → E ∈ eNI) : gw_SpH yL_piece cL_piece 5 (some .int) [(0, 10, 13, 22), (0, 10, 17, 13)] 9 2 12 [vR (some 0), vI p, vI w, vR (some 248)] (gw_M0 ad) σ (gw_WQ ((gPiece σ p).or (gWhat w 4)) eNI (gw_M0 ad) σ (su (go σ 26 4) 248 0 (zPiece (go σ 26 4) p w))) gw_no := by
  refine gw_SpH.of [some (vR (some 0)), some (vI p), some (vI w), some (vR (some 248)), none] (by decide +kernel) rfl (Nat.le_of_ble_eq_true rfl) ?_
  intro X G fx het nc
  refine g_aload_n fx dL_piece_0 rfl ?_
  refine g_iconst fx dL_piece_1 (by unfold okI; omega) ?_
  refine g_aload_n fx dL_piece_2 rfl ?_
  refine g_iload_n fx dL_piece_3 rfl ?_
  refine g_iload_n fx dL_piece_4 rfl ?_
  refine g_callV fx dL_piece_5 mv_RL_24 my_X10_piece (s_X10_piece ad σ p w) o_0 rfl rfl rfl (Nat.le_of_ble_eq_true rfl) (by decide) ⟨by decide, by decide⟩ (fun E hE => ?_) (fun r M2 σ2 hq _ => ?_)
  · have hm := hg E hE
    rcases List.mem_cons.mp hm with rfl | hm
    · refine g_catch (pre := []) (suf := [(0, 10, 17, 13)]) fx nc het rfl (fun z hz => absurd hz List.not_mem_nil) rfl (by decide) cl_22 ca_22 dL_piece_13 (by decide) rfl rfl ?_
      refine g_iconst fx dL_piece_15 (by unfold okI; omega) ?_
      exact g_iret fx rfl dL_piece_16 (by decide) (by decide) (gw_le.rf _) ⟨rfl, Or.inr ⟨0, _, hE, rfl, rfl, rfl⟩⟩
    rcases List.mem_cons.mp hm with rfl | hm
    · refine g_catch (pre := [(0, 10, 13, 22)]) (suf := []) fx nc het rfl (List.forall_mem_cons.mpr ⟨⟨by decide, _, cl_22, by decide⟩, (fun z hz => absurd hz List.not_mem_nil)⟩) rfl (by decide) cl_13 ca_13 dL_piece_17 (by decide) rfl rfl ?_
      refine g_iconst fx dL_piece_19 (by unfold okI; omega) ?_
      exact g_iret fx rfl dL_piece_20 (by decide) (by decide) (gw_le.rf _) ⟨rfl, Or.inr ⟨1, _, hE, rfl, rfl, rfl⟩⟩
    exact absurd hm List.not_mem_nil
  · obtain ⟨h0, rfl, rfl, rfl⟩ := hq
    refine g_i2l fx dL_piece_8 ?_
    refine g_last fx dL_piece_9 o_248 (by decide) (by decide) ?_
    refine g_goto (tgt := 21) fx dL_piece_10 (by decide) ?_
    refine g_iconst fx dL_piece_21 (by unfold okI; omega) ?_
    exact g_iret fx rfl dL_piece_22 (by decide) (by decide) (gw_le.rf _) ⟨rfl, Or.inl ⟨h0, rfl, rfl⟩⟩
set_option maxRecDepth 4000 in
theorem w_part (ad : Nat → Nat) (σ : Sg) (s : Int) (i : Int) (hg : ∀ E, (gPart σ s i) = some E → E ∈ eNSI) : gw_SpH yL_part cL_part 5 (some .int) [(0, 10, 13, 22), (0, 10, 17, 30), (0, 10, 21, 13)] 10 4 24 [vR (some 0), vI s, vI i, vR (some 248)] (gw_M0 ad) σ (gw_WQ (gPart σ s i) eNSI (gw_M0 ad) σ (su (zPart σ s (trT i)) 248 0 (mPcs (zPart σ s (trT i)) 4))) gw_no := by
  refine gw_SpH.of [some (vR (some 0)), some (vI s), some (vI i), some (vR (some 248)), none] (by decide +kernel) rfl (Nat.le_of_ble_eq_true rfl) ?_
  intro X G fx het nc
  refine g_aload_n fx dL_part_0 rfl ?_
  refine g_iconst fx dL_part_1 (by unfold okI; omega) ?_
  refine g_aload_n fx dL_part_2 rfl ?_
  refine g_iload_n fx dL_part_3 rfl ?_
  refine g_iload_n fx dL_part_4 rfl ?_
  refine g_callV fx dL_part_5 mv_RL_27 my_X10_part (s_X10_part ad σ s i) o_0 rfl rfl rfl (Nat.le_of_ble_eq_true rfl) (by decide) ⟨by decide, by decide⟩ (fun E hE => ?_) (fun r M2 σ2 hq _ => ?_)
  · have hm := hg E hE
    rcases List.mem_cons.mp hm with rfl | hm
    · refine g_catch (pre := []) (suf := [(0, 10, 17, 30), (0, 10, 21, 13)]) fx nc het rfl (fun z hz => absurd hz List.not_mem_nil) rfl (by decide) cl_22 ca_22 dL_part_13 (by decide) rfl rfl ?_
      refine g_iconst fx dL_part_15 (by unfold okI; omega) ?_
      exact g_iret fx rfl dL_part_16 (by decide) (by decide) (gw_le.rf _) ⟨rfl, Or.inr ⟨0, _, hE, rfl, rfl, rfl⟩⟩
    rcases List.mem_cons.mp hm with rfl | hm
    · refine g_catch (pre := [(0, 10, 13, 22)]) (suf := [(0, 10, 21, 13)]) fx nc het rfl (List.forall_mem_cons.mpr ⟨⟨by decide, _, cl_22, by decide⟩, (fun z hz => absurd hz List.not_mem_nil)⟩) rfl (by decide) cl_30 ca_30 dL_part_17 (by decide) rfl rfl ?_
      refine g_iconst fx dL_part_19 (by unfold okI; omega) ?_
      exact g_iret fx rfl dL_part_20 (by decide) (by decide) (gw_le.rf _) ⟨rfl, Or.inr ⟨1, _, hE, rfl, rfl, rfl⟩⟩
    rcases List.mem_cons.mp hm with rfl | hm
    · refine g_catch (pre := [(0, 10, 13, 22), (0, 10, 17, 30)]) (suf := []) fx nc het rfl (List.forall_mem_cons.mpr ⟨⟨by decide, _, cl_22, by decide⟩, (List.forall_mem_cons.mpr ⟨⟨by decide, _, cl_30, by decide⟩, (fun z hz => absurd hz List.not_mem_nil)⟩)⟩) rfl (by decide) cl_13 ca_13 dL_part_21 (by decide) rfl rfl ?_
      refine g_iconst fx dL_part_23 (by unfold okI; omega) ?_
      exact g_iret fx rfl dL_part_24 (by decide) (by decide) (gw_le.rf _) ⟨rfl, Or.inr ⟨2, _, hE, rfl, rfl, rfl⟩⟩
    exact absurd hm List.not_mem_nil
  · obtain ⟨h0, rfl, rfl, rfl⟩ := hq
    refine g_i2l fx dL_part_8 ?_
    refine g_last fx dL_part_9 o_248 (by decide) (by decide) ?_
    refine g_goto (tgt := 25) fx dL_part_10 (by decide) ?_
    refine g_iconst fx dL_part_25 (by unfold okI; omega) ?_
    exact g_iret fx rfl dL_part_26 (by decide) (by decide) (gw_le.rf _) ⟨rfl, Or.inl ⟨h0, rfl, rfl⟩⟩
set_option maxRecDepth 4000 in
theorem w_end (ad : Nat → Nat) (σ : Sg) (s : Int) (hg : ∀ E, (gSack σ s) = some E → E ∈ eN) : gw_SpH yL_end cL_end 4 (some .int) [(0, 9, 12, 22)] 9 1 6 [vR (some 0), vI s, vR (some 248)] (gw_M0 ad) σ (gw_WQ (gSack σ s) eN (gw_M0 ad) σ (su (go σ 26 4) 248 0 (rAt (go σ 26 4) 42 60 s))) gw_no := by
  refine gw_SpH.of [some (vR (some 0)), some (vI s), some (vR (some 248)), none] (by decide +kernel) rfl (Nat.le_of_ble_eq_true rfl) ?_
  intro X G fx het nc
  refine g_aload_n fx dL_end_0 rfl ?_
  refine g_iconst fx dL_end_1 (by unfold okI; omega) ?_
  refine g_aload_n fx dL_end_2 rfl ?_
  refine g_iload_n fx dL_end_3 rfl ?_
  refine g_callV fx dL_end_4 mv_RL_32 my_X10_end (s_X10_end ad σ s) o_0 rfl rfl rfl (Nat.le_of_ble_eq_true rfl) (by decide) ⟨by decide, by decide⟩ (fun E hE => ?_) (fun r M2 σ2 hq _ => ?_)
  · have hm := hg E hE
    rcases List.mem_cons.mp hm with rfl | hm
    · refine g_catchN (pre := []) (suf := []) fx nc het rfl (fun z hz => absurd hz List.not_mem_nil) rfl (by decide) cl_22 ca_22 dL_end_12 (by decide) rfl rfl ?_
      refine g_iconst fx dL_end_13 (by unfold okI; omega) ?_
      exact g_iret fx rfl dL_end_14 (by decide) (by decide) (gw_le.rf _) ⟨rfl, Or.inr ⟨0, _, hE, rfl, rfl, rfl⟩⟩
    exact absurd hm List.not_mem_nil
  · obtain ⟨h0, rfl, rfl, rfl⟩ := hq
    refine g_i2l fx dL_end_7 ?_
    refine g_last fx dL_end_8 o_248 (by decide) (by decide) ?_
    refine g_goto (tgt := 15) fx dL_end_9 (by decide) ?_
    refine g_iconst fx dL_end_15 (by unfold okI; omega) ?_
    exact g_iret fx rfl dL_end_16 (by decide) (by decide) (gw_le.rf _) ⟨rfl, Or.inl ⟨h0, rfl, rfl⟩⟩
set_option maxRecDepth 4000 in
theorem w_waits (ad : Nat → Nat) (σ : Sg) (s : Int) (hg : ∀ E, (gSack σ s) = some E → E ∈ eN) : gw_SpH yL_waits cL_waits 4 (some .int) [(0, 9, 12, 22)] 9 1 6 [vR (some 0), vI s, vR (some 248)] (gw_M0 ad) σ (gw_WQ (gSack σ s) eN (gw_M0 ad) σ (su (go σ 26 4) 248 0 (uW (go σ 26 4) 26 4 s))) gw_no := by
  refine gw_SpH.of [some (vR (some 0)), some (vI s), some (vR (some 248)), none] (by decide +kernel) rfl (Nat.le_of_ble_eq_true rfl) ?_
  intro X G fx het nc
  refine g_aload_n fx dL_waits_0 rfl ?_
  refine g_iconst fx dL_waits_1 (by unfold okI; omega) ?_
  refine g_aload_n fx dL_waits_2 rfl ?_
  refine g_iload_n fx dL_waits_3 rfl ?_
  refine g_callV fx dL_waits_4 mv_RL_35 my_X10_waits (s_X10_waits ad σ s) o_0 rfl rfl rfl (Nat.le_of_ble_eq_true rfl) (by decide) ⟨by decide, by decide⟩ (fun E hE => ?_) (fun r M2 σ2 hq _ => ?_)
  · have hm := hg E hE
    rcases List.mem_cons.mp hm with rfl | hm
    · refine g_catchN (pre := []) (suf := []) fx nc het rfl (fun z hz => absurd hz List.not_mem_nil) rfl (by decide) cl_22 ca_22 dL_waits_12 (by decide) rfl rfl ?_
      refine g_iconst fx dL_waits_13 (by unfold okI; omega) ?_
      exact g_iret fx rfl dL_waits_14 (by decide) (by decide) (gw_le.rf _) ⟨rfl, Or.inr ⟨0, _, hE, rfl, rfl, rfl⟩⟩
    exact absurd hm List.not_mem_nil
  · obtain ⟨h0, rfl, rfl, rfl⟩ := hq
    refine g_i2l fx dL_waits_7 ?_
    refine g_last fx dL_waits_8 o_248 (by decide) (by decide) ?_
    refine g_goto (tgt := 15) fx dL_waits_9 (by decide) ?_
    refine g_iconst fx dL_waits_15 (by unfold okI; omega) ?_
    exact g_iret fx rfl dL_waits_16 (by decide) (by decide) (gw_le.rf _) ⟨rfl, Or.inl ⟨h0, rfl, rfl⟩⟩
set_option maxRecDepth 4000 in
theorem w_home (ad : Nat → Nat) (σ : Sg) (p : Int) (hg : ∀ E, (gPerson p) = some E → E ∈ eI) : gw_SpH yL_home cL_home 4 (some .int) [(0, 9, 12, 13)] 8 1 6 [vR (some 0), vI p, vR (some 248)] (gw_M0 ad) σ (gw_WQ (gPerson p) eI (gw_M0 ad) σ (su (go σ 26 4) 248 0 (loF (go σ 26 4) 26 4 p))) gw_no := by
  refine gw_SpH.of [some (vR (some 0)), some (vI p), some (vR (some 248)), none] (by decide +kernel) rfl (Nat.le_of_ble_eq_true rfl) ?_
  intro X G fx het nc
  refine g_aload_n fx dL_home_0 rfl ?_
  refine g_iconst fx dL_home_1 (by unfold okI; omega) ?_
  refine g_aload_n fx dL_home_2 rfl ?_
  refine g_iload_n fx dL_home_3 rfl ?_
  refine g_callV fx dL_home_4 mv_RL_38 my_X10_home (s_X10_home ad σ p) o_0 rfl rfl rfl (Nat.le_of_ble_eq_true rfl) (by decide) ⟨by decide, by decide⟩ (fun E hE => ?_) (fun r M2 σ2 hq _ => ?_)
  · have hm := hg E hE
    rcases List.mem_cons.mp hm with rfl | hm
    · refine g_catchN (pre := []) (suf := []) fx nc het rfl (fun z hz => absurd hz List.not_mem_nil) rfl (by decide) cl_13 ca_13 dL_home_12 (by decide) rfl rfl ?_
      refine g_iconst fx dL_home_13 (by unfold okI; omega) ?_
      exact g_iret fx rfl dL_home_14 (by decide) (by decide) (gw_le.rf _) ⟨rfl, Or.inr ⟨0, _, hE, rfl, rfl, rfl⟩⟩
    exact absurd hm List.not_mem_nil
  · obtain ⟨h0, rfl, rfl, rfl⟩ := hq
    refine g_i2l fx dL_home_7 ?_
    refine g_last fx dL_home_8 o_248 (by decide) (by decide) ?_
    refine g_goto (tgt := 15) fx dL_home_9 (by decide) ?_
    refine g_iconst fx dL_home_15 (by unfold okI; omega) ?_
    exact g_iret fx rfl dL_home_16 (by decide) (by decide) (gw_le.rf _) ⟨rfl, Or.inl ⟨h0, rfl, rfl⟩⟩
set_option maxRecDepth 4000 in
theorem w_stands (ad : Nat → Nat) (σ : Sg) (m : Int) (w : Int) (hg : ∀ E, ((gMin m).or (gWhat w 3)) = some E → E ∈ eI) : gw_SpH yL_stands cL_stands 5 (some .int) [(0, 10, 13, 13)] 9 2 12 [vR (some 0), vI m, vI w, vR (some 248)] (gw_M0 ad) σ (gw_WQ ((gMin m).or (gWhat w 3)) eI (gw_M0 ad) σ (su (go σ 26 4) 248 0 (zStands (go σ 26 4) m w))) gw_no := by
  refine gw_SpH.of [some (vR (some 0)), some (vI m), some (vI w), some (vR (some 248)), none] (by decide +kernel) rfl (Nat.le_of_ble_eq_true rfl) ?_
  intro X G fx het nc
  refine g_aload_n fx dL_stands_0 rfl ?_
  refine g_iconst fx dL_stands_1 (by unfold okI; omega) ?_
  refine g_aload_n fx dL_stands_2 rfl ?_
  refine g_iload_n fx dL_stands_3 rfl ?_
  refine g_iload_n fx dL_stands_4 rfl ?_
  refine g_callV fx dL_stands_5 mv_RL_41 my_X10_stands (s_X10_stands ad σ m w) o_0 rfl rfl rfl (Nat.le_of_ble_eq_true rfl) (by decide) ⟨by decide, by decide⟩ (fun E hE => ?_) (fun r M2 σ2 hq _ => ?_)
  · have hm := hg E hE
    rcases List.mem_cons.mp hm with rfl | hm
    · refine g_catch (pre := []) (suf := []) fx nc het rfl (fun z hz => absurd hz List.not_mem_nil) rfl (by decide) cl_13 ca_13 dL_stands_13 (by decide) rfl rfl ?_
      refine g_iconst fx dL_stands_15 (by unfold okI; omega) ?_
      exact g_iret fx rfl dL_stands_16 (by decide) (by decide) (gw_le.rf _) ⟨rfl, Or.inr ⟨0, _, hE, rfl, rfl, rfl⟩⟩
    exact absurd hm List.not_mem_nil
  · obtain ⟨h0, rfl, rfl, rfl⟩ := hq
    refine g_i2l fx dL_stands_8 ?_
    refine g_last fx dL_stands_9 o_248 (by decide) (by decide) ?_
    refine g_goto (tgt := 17) fx dL_stands_10 (by decide) ?_
    refine g_iconst fx dL_stands_17 (by unfold okI; omega) ?_
    exact g_iret fx rfl dL_stands_18 (by decide) (by decide) (gw_le.rf _) ⟨rfl, Or.inl ⟨h0, rfl, rfl⟩⟩
set_option maxRecDepth 4000 in
theorem w_ahead (ad : Nat → Nat) (σ : Sg) (p : Int) (q : Int) (hg : ∀ E, ((gPiece σ p).or (gPiece σ q)) = some E → E ∈ eN) : gw_SpH yL_ahead cL_ahead 5 (some .int) [(0, 10, 13, 22)] 9 2 12 [vR (some 0), vI p, vI q, vR (some 248)] (gw_M0 ad) σ (gw_WQ ((gPiece σ p).or (gPiece σ q)) eN (gw_M0 ad) σ (su (ly σ 26 4) 248 0 (ld (ly σ 26 4) 26 4 p q 0))) gw_no := by
  refine gw_SpH.of [some (vR (some 0)), some (vI p), some (vI q), some (vR (some 248)), none] (by decide +kernel) rfl (Nat.le_of_ble_eq_true rfl) ?_
  intro X G fx het nc
  refine g_aload_n fx dL_ahead_0 rfl ?_
  refine g_iconst fx dL_ahead_1 (by unfold okI; omega) ?_
  refine g_aload_n fx dL_ahead_2 rfl ?_
  refine g_iload_n fx dL_ahead_3 rfl ?_
  refine g_iload_n fx dL_ahead_4 rfl ?_
  refine g_callV fx dL_ahead_5 mv_RL_44 my_X10_ahead (s_X10_ahead ad σ p q) o_0 rfl rfl rfl (Nat.le_of_ble_eq_true rfl) (by decide) ⟨by decide, by decide⟩ (fun E hE => ?_) (fun r M2 σ2 hq _ => ?_)
  · have hm := hg E hE
    rcases List.mem_cons.mp hm with rfl | hm
    · refine g_catch (pre := []) (suf := []) fx nc het rfl (fun z hz => absurd hz List.not_mem_nil) rfl (by decide) cl_22 ca_22 dL_ahead_13 (by decide) rfl rfl ?_
      refine g_iconst fx dL_ahead_15 (by unfold okI; omega) ?_
      exact g_iret fx rfl dL_ahead_16 (by decide) (by decide) (gw_le.rf _) ⟨rfl, Or.inr ⟨0, _, hE, rfl, rfl, rfl⟩⟩
    exact absurd hm List.not_mem_nil
  · obtain ⟨h0, rfl, rfl, rfl⟩ := hq
    refine g_i2l fx dL_ahead_8 ?_
    refine g_last fx dL_ahead_9 o_248 (by decide) (by decide) ?_
    refine g_goto (tgt := 17) fx dL_ahead_10 (by decide) ?_
    refine g_iconst fx dL_ahead_17 (by unfold okI; omega) ?_
    exact g_iret fx rfl dL_ahead_18 (by decide) (by decide) (gw_le.rf _) ⟨rfl, Or.inl ⟨h0, rfl, rfl⟩⟩
set_option maxRecDepth 4000 in
theorem w_judge (ad : Nat → Nat) (σ : Sg) (i : Int) (w : Int) (hg : ∀ E, ((gFull σ i).or (gWhat w 1)) = some E → E ∈ eNSI) : gw_SpH yL_judge cL_judge 5 (some .int) [(0, 10, 13, 22), (0, 10, 17, 30), (0, 10, 21, 13)] 10 3 18 [vR (some 0), vI i, vI w, vR (some 248)] (gw_M0 ad) σ (gw_WQ ((gFull σ i).or (gWhat w 1)) eNSI (gw_M0 ad) σ (su (go σ 26 4) 248 0 (zJu (go σ 26 4) (trT i) w))) gw_no := by
  refine gw_SpH.of [some (vR (some 0)), some (vI i), some (vI w), some (vR (some 248)), none] (by decide +kernel) rfl (Nat.le_of_ble_eq_true rfl) ?_
  intro X G fx het nc
  refine g_aload_n fx dL_judge_0 rfl ?_
  refine g_iconst fx dL_judge_1 (by unfold okI; omega) ?_
  refine g_aload_n fx dL_judge_2 rfl ?_
  refine g_iload_n fx dL_judge_3 rfl ?_
  refine g_iload_n fx dL_judge_4 rfl ?_
  refine g_callV fx dL_judge_5 mv_RL_47 my_X10_judge (s_X10_judge ad σ i w) o_0 rfl rfl rfl (Nat.le_of_ble_eq_true rfl) (by decide) ⟨by decide, by decide⟩ (fun E hE => ?_) (fun r M2 σ2 hq _ => ?_)
  · have hm := hg E hE
    rcases List.mem_cons.mp hm with rfl | hm
    · refine g_catch (pre := []) (suf := [(0, 10, 17, 30), (0, 10, 21, 13)]) fx nc het rfl (fun z hz => absurd hz List.not_mem_nil) rfl (by decide) cl_22 ca_22 dL_judge_13 (by decide) rfl rfl ?_
      refine g_iconst fx dL_judge_15 (by unfold okI; omega) ?_
      exact g_iret fx rfl dL_judge_16 (by decide) (by decide) (gw_le.rf _) ⟨rfl, Or.inr ⟨0, _, hE, rfl, rfl, rfl⟩⟩
    rcases List.mem_cons.mp hm with rfl | hm
    · refine g_catch (pre := [(0, 10, 13, 22)]) (suf := [(0, 10, 21, 13)]) fx nc het rfl (List.forall_mem_cons.mpr ⟨⟨by decide, _, cl_22, by decide⟩, (fun z hz => absurd hz List.not_mem_nil)⟩) rfl (by decide) cl_30 ca_30 dL_judge_17 (by decide) rfl rfl ?_
      refine g_iconst fx dL_judge_19 (by unfold okI; omega) ?_
      exact g_iret fx rfl dL_judge_20 (by decide) (by decide) (gw_le.rf _) ⟨rfl, Or.inr ⟨1, _, hE, rfl, rfl, rfl⟩⟩
    rcases List.mem_cons.mp hm with rfl | hm
    · refine g_catch (pre := [(0, 10, 13, 22), (0, 10, 17, 30)]) (suf := []) fx nc het rfl (List.forall_mem_cons.mpr ⟨⟨by decide, _, cl_22, by decide⟩, (List.forall_mem_cons.mpr ⟨⟨by decide, _, cl_30, by decide⟩, (fun z hz => absurd hz List.not_mem_nil)⟩)⟩) rfl (by decide) cl_13 ca_13 dL_judge_21 (by decide) rfl rfl ?_
      refine g_iconst fx dL_judge_23 (by unfold okI; omega) ?_
      exact g_iret fx rfl dL_judge_24 (by decide) (by decide) (gw_le.rf _) ⟨rfl, Or.inr ⟨2, _, hE, rfl, rfl, rfl⟩⟩
    exact absurd hm List.not_mem_nil
  · obtain ⟨h0, rfl, rfl, rfl⟩ := hq
    refine g_i2l fx dL_judge_8 ?_
    refine g_last fx dL_judge_9 o_248 (by decide) (by decide) ?_
    refine g_goto (tgt := 25) fx dL_judge_10 (by decide) ?_
    refine g_iconst fx dL_judge_25 (by unfold okI; omega) ?_
    exact g_iret fx rfl dL_judge_26 (by decide) (by decide) (gw_le.rf _) ⟨rfl, Or.inl ⟨h0, rfl, rfl⟩⟩
set_option maxRecDepth 4000 in
theorem w_cost (ad : Nat → Nat) (σ : Sg) (i : Int) (hg : ∀ E, (gFull σ i) = some E → E ∈ eNS) : gw_SpH yL_cost cL_cost 4 (some .int) [(0, 9, 12, 22), (0, 9, 15, 30)] 10 2 12 [vR (some 0), vI i, vR (some 248)] (gw_M0 ad) σ (gw_WQ (gFull σ i) eNS (gw_M0 ad) σ (su ((zCost σ (trT i)).2) 248 0 (zCost σ (trT i)).1)) gw_no := by
  refine gw_SpH.of [some (vR (some 0)), some (vI i), some (vR (some 248)), none] (by decide +kernel) rfl (Nat.le_of_ble_eq_true rfl) ?_
  intro X G fx het nc
  refine g_aload_n fx dL_cost_0 rfl ?_
  refine g_iconst fx dL_cost_1 (by unfold okI; omega) ?_
  refine g_aload_n fx dL_cost_2 rfl ?_
  refine g_iload_n fx dL_cost_3 rfl ?_
  refine g_callV fx dL_cost_4 mv_RL_50 my_X10_cost (s_X10_cost ad σ i) o_0 rfl rfl rfl (Nat.le_of_ble_eq_true rfl) (by decide) ⟨by decide, by decide⟩ (fun E hE => ?_) (fun r M2 σ2 hq _ => ?_)
  · have hm := hg E hE
    rcases List.mem_cons.mp hm with rfl | hm
    · refine g_catchN (pre := []) (suf := [(0, 9, 15, 30)]) fx nc het rfl (fun z hz => absurd hz List.not_mem_nil) rfl (by decide) cl_22 ca_22 dL_cost_12 (by decide) rfl rfl ?_
      refine g_iconst fx dL_cost_13 (by unfold okI; omega) ?_
      exact g_iret fx rfl dL_cost_14 (by decide) (by decide) (gw_le.rf _) ⟨rfl, Or.inr ⟨0, _, hE, rfl, rfl, rfl⟩⟩
    rcases List.mem_cons.mp hm with rfl | hm
    · refine g_catchN (pre := [(0, 9, 12, 22)]) (suf := []) fx nc het rfl (List.forall_mem_cons.mpr ⟨⟨by decide, _, cl_22, by decide⟩, (fun z hz => absurd hz List.not_mem_nil)⟩) rfl (by decide) cl_30 ca_30 dL_cost_15 (by decide) rfl rfl ?_
      refine g_iconst fx dL_cost_16 (by unfold okI; omega) ?_
      exact g_iret fx rfl dL_cost_17 (by decide) (by decide) (gw_le.rf _) ⟨rfl, Or.inr ⟨1, _, hE, rfl, rfl, rfl⟩⟩
    exact absurd hm List.not_mem_nil
  · obtain ⟨h0, rfl, rfl, rfl⟩ := hq
    refine g_i2l fx dL_cost_7 ?_
    refine g_last fx dL_cost_8 o_248 (by decide) (by decide) ?_
    refine g_goto (tgt := 18) fx dL_cost_9 (by decide) ?_
    refine g_iconst fx dL_cost_18 (by unfold okI; omega) ?_
    exact g_iret fx rfl dL_cost_19 (by decide) (by decide) (gw_le.rf _) ⟨rfl, Or.inl ⟨h0, rfl, rfl⟩⟩
set_option maxRecDepth 4000 in
theorem w_swap (ad : Nat → Nat) (σ : Sg) (i : Int) (k : Int) (hg : ∀ E, (gSwap σ i k) = some E → E ∈ eNSO) : gw_SpH yL_swap cL_swap 5 (some .int) [(0, 10, 13, 22), (0, 10, 17, 30), (0, 10, 21, 56)] 10 3 18 [vR (some 0), vI i, vI k, vR (some 248)] (gw_M0 ad) σ (gw_WQ (gSwap σ i k) eNSO (gw_M0 ad) σ (su ((zSwap σ (trT i) k).2) 248 0 (zSwap σ (trT i) k).1)) gw_no := by
  refine gw_SpH.of [some (vR (some 0)), some (vI i), some (vI k), some (vR (some 248)), none] (by decide +kernel) rfl (Nat.le_of_ble_eq_true rfl) ?_
  intro X G fx het nc
  refine g_aload_n fx dL_swap_0 rfl ?_
  refine g_iconst fx dL_swap_1 (by unfold okI; omega) ?_
  refine g_aload_n fx dL_swap_2 rfl ?_
  refine g_iload_n fx dL_swap_3 rfl ?_
  refine g_iload_n fx dL_swap_4 rfl ?_
  refine g_callV fx dL_swap_5 mv_RL_53 my_X10_swap (s_X10_swap ad σ i k) o_0 rfl rfl rfl (Nat.le_of_ble_eq_true rfl) (by decide) ⟨by decide, by decide⟩ (fun E hE => ?_) (fun r M2 σ2 hq _ => ?_)
  · have hm := hg E hE
    rcases List.mem_cons.mp hm with rfl | hm
    · refine g_catch (pre := []) (suf := [(0, 10, 17, 30), (0, 10, 21, 56)]) fx nc het rfl (fun z hz => absurd hz List.not_mem_nil) rfl (by decide) cl_22 ca_22 dL_swap_13 (by decide) rfl rfl ?_
      refine g_iconst fx dL_swap_15 (by unfold okI; omega) ?_
      exact g_iret fx rfl dL_swap_16 (by decide) (by decide) (gw_le.rf _) ⟨rfl, Or.inr ⟨0, _, hE, rfl, rfl, rfl⟩⟩
    rcases List.mem_cons.mp hm with rfl | hm
    · refine g_catch (pre := [(0, 10, 13, 22)]) (suf := [(0, 10, 21, 56)]) fx nc het rfl (List.forall_mem_cons.mpr ⟨⟨by decide, _, cl_22, by decide⟩, (fun z hz => absurd hz List.not_mem_nil)⟩) rfl (by decide) cl_30 ca_30 dL_swap_17 (by decide) rfl rfl ?_
      refine g_iconst fx dL_swap_19 (by unfold okI; omega) ?_
      exact g_iret fx rfl dL_swap_20 (by decide) (by decide) (gw_le.rf _) ⟨rfl, Or.inr ⟨1, _, hE, rfl, rfl, rfl⟩⟩
    rcases List.mem_cons.mp hm with rfl | hm
    · refine g_catch (pre := [(0, 10, 13, 22), (0, 10, 17, 30)]) (suf := []) fx nc het rfl (List.forall_mem_cons.mpr ⟨⟨by decide, _, cl_22, by decide⟩, (List.forall_mem_cons.mpr ⟨⟨by decide, _, cl_30, by decide⟩, (fun z hz => absurd hz List.not_mem_nil)⟩)⟩) rfl (by decide) cl_56 ca_56 dL_swap_21 (by decide) rfl rfl ?_
      refine g_iconst fx dL_swap_23 (by unfold okI; omega) ?_
      exact g_iret fx rfl dL_swap_24 (by decide) (by decide) (gw_le.rf _) ⟨rfl, Or.inr ⟨2, _, hE, rfl, rfl, rfl⟩⟩
    exact absurd hm List.not_mem_nil
  · obtain ⟨h0, rfl, rfl, rfl⟩ := hq
    refine g_i2l fx dL_swap_8 ?_
    refine g_last fx dL_swap_9 o_248 (by decide) (by decide) ?_
    refine g_goto (tgt := 25) fx dL_swap_10 (by decide) ?_
    refine g_iconst fx dL_swap_25 (by unfold okI; omega) ?_
    exact g_iret fx rfl dL_swap_26 (by decide) (by decide) (gw_le.rf _) ⟨rfl, Or.inl ⟨h0, rfl, rfl⟩⟩
set_option maxRecDepth 4000 in
theorem w_parting (ad : Nat → Nat) (σ : Sg) (s : Int) (n : Int) (w : Int) (hg : ∀ E, (gPg σ s n w) = some E → E ∈ eNI) : gw_SpH yL_parting cL_parting 6 (some .int) [(0, 12, 15, 22), (0, 12, 19, 13)] 9 2 12 [vR (some 0), vI s, vI n, vI w, vR (some 248)] (gw_M0 ad) σ (gw_WQ (gPg σ s n w) eNI (gw_M0 ad) σ (su ((zPar σ s n w).2) 248 0 (zPar σ s n w).1)) gw_no := by
  refine gw_SpH.of [some (vR (some 0)), some (vI s), some (vI n), some (vI w), some (vR (some 248)), none] (by decide +kernel) rfl (Nat.le_of_ble_eq_true rfl) ?_
  intro X G fx het nc
  refine g_aload fx dL_parting_0 rfl ?_
  refine g_iconst fx dL_parting_2 (by unfold okI; omega) ?_
  refine g_aload_n fx dL_parting_3 rfl ?_
  refine g_iload_n fx dL_parting_4 rfl ?_
  refine g_iload_n fx dL_parting_5 rfl ?_
  refine g_iload_n fx dL_parting_6 rfl ?_
  refine g_callV fx dL_parting_7 mv_RL_58 my_X10_parting (s_X10_parting ad σ s n w) o_0 rfl rfl rfl (Nat.le_of_ble_eq_true rfl) (by decide) ⟨by decide, by decide⟩ (fun E hE => ?_) (fun r M2 σ2 hq _ => ?_)
  · have hm := hg E hE
    rcases List.mem_cons.mp hm with rfl | hm
    · refine g_catch (pre := []) (suf := [(0, 12, 19, 13)]) fx nc het rfl (fun z hz => absurd hz List.not_mem_nil) rfl (by decide) cl_22 ca_22 dL_parting_15 (by decide) rfl rfl ?_
      refine g_iconst fx dL_parting_17 (by unfold okI; omega) ?_
      exact g_iret fx rfl dL_parting_18 (by decide) (by decide) (gw_le.rf _) ⟨rfl, Or.inr ⟨0, _, hE, rfl, rfl, rfl⟩⟩
    rcases List.mem_cons.mp hm with rfl | hm
    · refine g_catch (pre := [(0, 12, 15, 22)]) (suf := []) fx nc het rfl (List.forall_mem_cons.mpr ⟨⟨by decide, _, cl_22, by decide⟩, (fun z hz => absurd hz List.not_mem_nil)⟩) rfl (by decide) cl_13 ca_13 dL_parting_19 (by decide) rfl rfl ?_
      refine g_iconst fx dL_parting_21 (by unfold okI; omega) ?_
      exact g_iret fx rfl dL_parting_22 (by decide) (by decide) (gw_le.rf _) ⟨rfl, Or.inr ⟨1, _, hE, rfl, rfl, rfl⟩⟩
    exact absurd hm List.not_mem_nil
  · obtain ⟨h0, rfl, rfl, rfl⟩ := hq
    refine g_i2l fx dL_parting_10 ?_
    refine g_last fx dL_parting_11 o_248 (by decide) (by decide) ?_
    refine g_goto (tgt := 23) fx dL_parting_12 (by decide) ?_
    refine g_iconst fx dL_parting_23 (by unfold okI; omega) ?_
    exact g_iret fx rfl dL_parting_24 (by decide) (by decide) (gw_le.rf _) ⟨rfl, Or.inl ⟨h0, rfl, rfl⟩⟩
