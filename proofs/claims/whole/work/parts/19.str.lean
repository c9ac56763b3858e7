theorem dJ0_coder_7d493_0 : gw_dc cJ0_coder_7d493 0 (.getstatic 38) 3 3 := ⟨by decide +kernel, rfl⟩
theorem dJ0_coder_7d493_3 : gw_dc cJ0_coder_7d493 3 (.ifCond .eq 10) 3 6 := ⟨by decide +kernel, rfl⟩
theorem dJ0_coder_7d493_6 : gw_dc cJ0_coder_7d493 6 (.aload_n 0) 1 7 := ⟨by decide +kernel, rfl⟩
theorem dJ0_coder_7d493_7 : gw_dc cJ0_coder_7d493 7 (.getfield 15) 3 10 := ⟨by decide +kernel, rfl⟩
theorem dJ0_coder_7d493_10 : gw_dc cJ0_coder_7d493 10 (.goto 4) 3 13 := ⟨by decide +kernel, rfl⟩
theorem dJ0_coder_7d493_14 : decode cJ0_coder_7d493 14 = .ok (.ireturn, 1) := by decide +kernel
theorem dJ0_length_8abf5_0 : gw_dc cJ0_length_8abf5 0 (.aload_n 0) 1 1 := ⟨by decide +kernel, rfl⟩
theorem dJ0_length_8abf5_1 : gw_dc cJ0_length_8abf5 1 (.getfield 9) 3 4 := ⟨by decide +kernel, rfl⟩
theorem dJ0_length_8abf5_4 : gw_dc cJ0_length_8abf5 4 (.arraylength) 1 5 := ⟨by decide +kernel, rfl⟩
theorem dJ0_length_8abf5_5 : gw_dc cJ0_length_8abf5 5 (.aload_n 0) 1 6 := ⟨by decide +kernel, rfl⟩
theorem dJ0_length_8abf5_6 : gw_dc cJ0_length_8abf5 6 (.invokevirtual 335) 3 9 := ⟨by decide +kernel, rfl⟩
theorem mv_RJ0_335 : gw_mv RJ0 335 yJ0_coder_7d493 := ⟨gw_mem 863 (by decide +kernel) rfl, gw_mem 864 (by decide +kernel) rfl, gw_mem 865 (by decide +kernel) rfl⟩
theorem my_J0_coder_7d493 : gw_my yJ0_coder_7d493 cJ0_coder_7d493 1 (some .byte) 0 := ⟨gw_mem 866 (by decide +kernel) rfl, gw_mem 111 (by decide +kernel) rfl, by decide +kernel, by decide⟩
theorem dJ0_length_8abf5_9 : gw_dc cJ0_length_8abf5 9 (.ishr) 1 10 := ⟨by decide +kernel, rfl⟩
theorem dJ0_length_8abf5_10 : decode cJ0_length_8abf5 10 = .ok (.ireturn, 1) := by decide +kernel
theorem dJ0_isLatin1_aae02_0 : gw_dc cJ0_isLatin1_aae02 0 (.getstatic 38) 3 3 := ⟨by decide +kernel, rfl⟩
theorem dJ0_isLatin1_aae02_3 : gw_dc cJ0_isLatin1_aae02 3 (.ifCond .eq 14) 3 6 := ⟨by decide +kernel, rfl⟩
theorem dJ0_isLatin1_aae02_6 : gw_dc cJ0_isLatin1_aae02 6 (.aload_n 0) 1 7 := ⟨by decide +kernel, rfl⟩
theorem dJ0_isLatin1_aae02_7 : gw_dc cJ0_isLatin1_aae02 7 (.getfield 15) 3 10 := ⟨by decide +kernel, rfl⟩
theorem dJ0_isLatin1_aae02_10 : gw_dc cJ0_isLatin1_aae02 10 (.ifCond .ne 7) 3 13 := ⟨by decide +kernel, rfl⟩
theorem dJ0_isLatin1_aae02_13 : gw_dc cJ0_isLatin1_aae02 13 (.iconst 1) 1 14 := ⟨by decide +kernel, rfl⟩
theorem dJ0_isLatin1_aae02_14 : gw_dc cJ0_isLatin1_aae02 14 (.goto 4) 3 17 := ⟨by decide +kernel, rfl⟩
theorem dJ0_isLatin1_aae02_18 : decode cJ0_isLatin1_aae02 18 = .ok (.ireturn, 1) := by decide +kernel
theorem dJ3_checkIndex_8e157_0 : gw_dc cJ3_checkIndex_8e157 0 (.iload_n 0) 1 1 := ⟨by decide +kernel, rfl⟩
theorem dJ3_checkIndex_8e157_1 : gw_dc cJ3_checkIndex_8e157 1 (.ifCond .lt 8) 3 4 := ⟨by decide +kernel, rfl⟩
theorem dJ3_checkIndex_8e157_4 : gw_dc cJ3_checkIndex_8e157 4 (.iload_n 0) 1 5 := ⟨by decide +kernel, rfl⟩
theorem dJ3_checkIndex_8e157_5 : gw_dc cJ3_checkIndex_8e157 5 (.iload_n 1) 1 6 := ⟨by decide +kernel, rfl⟩
theorem dJ3_checkIndex_8e157_6 : gw_dc cJ3_checkIndex_8e157 6 (.if_icmp .lt 10) 3 9 := ⟨by decide +kernel, rfl⟩
theorem dJ3_checkIndex_8e157_16 : gw_dc cJ3_checkIndex_8e157 16 (.iload_n 0) 1 17 := ⟨by decide +kernel, rfl⟩
theorem dJ3_checkIndex_8e157_17 : decode cJ3_checkIndex_8e157 17 = .ok (.ireturn, 1) := by decide +kernel
theorem dJ0_checkIndex_df160_0 : gw_dc cJ0_checkIndex_df160 0 (.iload_n 0) 1 1 := ⟨by decide +kernel, rfl⟩
theorem dJ0_checkIndex_df160_1 : gw_dc cJ0_checkIndex_df160 1 (.iload_n 1) 1 2 := ⟨by decide +kernel, rfl⟩
theorem dJ0_checkIndex_df160_2 : gw_dc cJ0_checkIndex_df160 2 (.getstatic 1053) 3 5 := ⟨by decide +kernel, rfl⟩
theorem dJ0_checkIndex_df160_5 : gw_dc cJ0_checkIndex_df160 5 (.invokestatic 1059) 3 8 := ⟨by decide +kernel, rfl⟩
theorem ms_RJ0_1059 : gw_mst RJ0 1059 yJ3_checkIndex_8e157 := ⟨gw_mem 885 (by decide +kernel) rfl, gw_mem 886 (by decide +kernel) rfl⟩
theorem my_J3_checkIndex_8e157 : gw_my yJ3_checkIndex_8e157 cJ3_checkIndex_8e157 3 (some .int) 3 := ⟨gw_mem 887 (by decide +kernel) rfl, gw_mem 113 (by decide +kernel) rfl, by decide +kernel, by decide⟩
theorem dJ0_checkIndex_df160_8 : gw_dc cJ0_checkIndex_df160 8 (.pop) 1 9 := ⟨by decide +kernel, rfl⟩
theorem dJ0_checkIndex_df160_9 : decode cJ0_checkIndex_df160 9 = .ok (.return_, 1) := by decide +kernel
theorem dJ1_charAt_3b067_0 : gw_dc cJ1_charAt_3b067 0 (.iload_n 1) 1 1 := ⟨by decide +kernel, rfl⟩
theorem dJ1_charAt_3b067_1 : gw_dc cJ1_charAt_3b067 1 (.aload_n 0) 1 2 := ⟨by decide +kernel, rfl⟩
theorem dJ1_charAt_3b067_2 : gw_dc cJ1_charAt_3b067 2 (.arraylength) 1 3 := ⟨by decide +kernel, rfl⟩
theorem dJ1_charAt_3b067_3 : gw_dc cJ1_charAt_3b067 3 (.invokestatic 9) 3 6 := ⟨by decide +kernel, rfl⟩
theorem ms_RJ1_9 : gw_mst RJ1 9 yJ0_checkIndex_df160 := ⟨gw_mem 880 (by decide +kernel) rfl, gw_mem 881 (by decide +kernel) rfl⟩
theorem my_J0_checkIndex_df160 : gw_my yJ0_checkIndex_df160 cJ0_checkIndex_df160 2 none 2 := ⟨gw_mem 882 (by decide +kernel) rfl, gw_mem 111 (by decide +kernel) rfl, by decide +kernel, by decide⟩
theorem dJ1_charAt_3b067_6 : gw_dc cJ1_charAt_3b067 6 (.aload_n 0) 1 7 := ⟨by decide +kernel, rfl⟩
theorem dJ1_charAt_3b067_7 : gw_dc cJ1_charAt_3b067 7 (.iload_n 1) 1 8 := ⟨by decide +kernel, rfl⟩
theorem dJ1_charAt_3b067_8 : gw_dc cJ1_charAt_3b067 8 (.baload) 1 9 := ⟨by decide +kernel, rfl⟩
theorem dJ1_charAt_3b067_9 : gw_dc cJ1_charAt_3b067 9 (.sipush 255) 3 12 := ⟨by decide +kernel, rfl⟩
theorem dJ1_charAt_3b067_12 : gw_dc cJ1_charAt_3b067 12 (.iand) 1 13 := ⟨by decide +kernel, rfl⟩
theorem dJ1_charAt_3b067_13 : gw_dc cJ1_charAt_3b067 13 (.i2c) 1 14 := ⟨by decide +kernel, rfl⟩
theorem dJ1_charAt_3b067_14 : decode cJ1_charAt_3b067 14 = .ok (.ireturn, 1) := by decide +kernel
theorem dJ0_charAt_5068e_0 : gw_dc cJ0_charAt_5068e 0 (.aload_n 0) 1 1 := ⟨by decide +kernel, rfl⟩
theorem dJ0_charAt_5068e_1 : gw_dc cJ0_charAt_5068e 1 (.invokevirtual 492) 3 4 := ⟨by decide +kernel, rfl⟩
theorem mv_RJ0_492 : gw_mv RJ0 492 yJ0_isLatin1_aae02 := ⟨gw_mem 873 (by decide +kernel) rfl, gw_mem 874 (by decide +kernel) rfl, gw_mem 875 (by decide +kernel) rfl⟩
theorem my_J0_isLatin1_aae02 : gw_my yJ0_isLatin1_aae02 cJ0_isLatin1_aae02 1 (some .boolean) 0 := ⟨gw_mem 876 (by decide +kernel) rfl, gw_mem 111 (by decide +kernel) rfl, by decide +kernel, by decide⟩
theorem dJ0_charAt_5068e_4 : gw_dc cJ0_charAt_5068e 4 (.ifCond .eq 12) 3 7 := ⟨by decide +kernel, rfl⟩
theorem dJ0_charAt_5068e_7 : gw_dc cJ0_charAt_5068e 7 (.aload_n 0) 1 8 := ⟨by decide +kernel, rfl⟩
theorem dJ0_charAt_5068e_8 : gw_dc cJ0_charAt_5068e 8 (.getfield 9) 3 11 := ⟨by decide +kernel, rfl⟩
theorem dJ0_charAt_5068e_11 : gw_dc cJ0_charAt_5068e 11 (.iload_n 1) 1 12 := ⟨by decide +kernel, rfl⟩
theorem dJ0_charAt_5068e_12 : gw_dc cJ0_charAt_5068e 12 (.invokestatic 495) 3 15 := ⟨by decide +kernel, rfl⟩
theorem ms_RJ0_495 : gw_mst RJ0 495 yJ1_charAt_3b067 := ⟨gw_mem 877 (by decide +kernel) rfl, gw_mem 878 (by decide +kernel) rfl⟩
theorem my_J1_charAt_3b067 : gw_my yJ1_charAt_3b067 cJ1_charAt_3b067 2 (some .char) 2 := ⟨gw_mem 879 (by decide +kernel) rfl, gw_mem 112 (by decide +kernel) rfl, by decide +kernel, by decide⟩
theorem dJ0_charAt_5068e_15 : decode cJ0_charAt_5068e 15 = .ok (.ireturn, 1) := by decide +kernel
/-! the JDK's String.length, charAt over the constants, by the layer -/
section GW
variable {X : Cx} {F : Fr} {G : Gl} {Z : State → Prop} {kc ks : Nat} {M : Mem} {σ : Sg} {pc pc' : Nat} {ls : List (Option AV)} {st : List AV}
theorem g_callVDX {idx n d' nL o : Nat} {y : MethodName} {cc : ByteArray} {rt : Option FieldType} {as st0 : List AV} {v : AV} {σ' : Sg} (fx : gw_FX X F G) (d : gw_dc F.2.1 pc (.invokevirtual idx) 3 pc') (hl : gw_mv F.1 idx y) (hm : gw_my y cc nL rt n)
    (hs : gw_Sp y cc nL rt d' 0 0 (vX o :: as) M σ (gw_D (some v) M σ') gw_no) (hO : o < 20) (hc : y.cls = "java/lang/String") (hst : st0 = as.reverse ++ vX o :: st) (hn : as.length = n) (hw : gw_wt st ≤ 8) (hd : d' + 1 ≤ F.2.2.2.2.1)
    (hk : kc ≤ F.2.2.2.2.2.1 ∧ ks ≤ F.2.2.2.2.2.2) (kk : gw_W X F G Z kc ks M σ' pc' ls (v :: st)) : gw_W X F G Z kc ks M σ pc ls st0 :=
  g_callVX fx d hl hm hs hO hc hst hn hw hd hk (fun _ h => h.elim) (fun _ _ _ h _ => by obtain ⟨rfl, rfl, rfl⟩ := h; exact kk)
end GW
theorem wshr_0 {x : Int} (h : okI x) : wshr x 0 = x := by
  unfold wshr
  have e : Int32.ofInt 0 = 0 := by decide
  rw [e, sb_shr0, toI_of h]
set_option maxRecDepth 4000 in
theorem s_J0_coder_7d493 (ad : Nat → Nat) (σ : Sg) (j : Nat) (hj : j < 20) : gw_Sp yJ0_coder_7d493 cJ0_coder_7d493 1 (some .byte) 1 0 0 [vX j] (gw_M0 ad) σ (gw_D (some (vI 0)) (gw_M0 ad) (σ)) gw_no := by
  refine gw_Sp.of [some (vX j)] (by decide +kernel) rfl (Nat.le_of_ble_eq_true rfl) ?_
  intro X G fx het hnm
  refine g_sCmp fx dJ0_coder_7d493_0 (gw_mem 867 (by decide +kernel) rfl) ?_
  refine g_if_eq (tgt := 13) fx dJ0_coder_7d493_3 (by decide) (fun h3 => absurd h3 (by decide)) (fun h3 => ?_)
  refine g_xload_n fx dJ0_coder_7d493_6 rfl ?_
  refine g_sCod fx dJ0_coder_7d493_7 (gw_mem 2007 (by decide +kernel) rfl) hj ?_
  refine g_goto (tgt := 14) fx dJ0_coder_7d493_10 (by decide) ?_
  exact g_bret fx rfl dJ0_coder_7d493_14 (by omega) (by decide) (by decide) (gw_le.rf _) ⟨rfl, rfl, rfl⟩
set_option maxRecDepth 4000 in
theorem s_J0_length_8abf5 (ad : Nat → Nat) (σ : Sg) (j : Nat) (hj : j < 20) : gw_Sp yJ0_length_8abf5 cJ0_length_8abf5 1 (some .int) 2 0 0 [vX j] (gw_M0 ad) σ (gw_D (some (vI ((gw_wd j).length : Nat))) (gw_M0 ad) (σ)) gw_no := by
  refine gw_Sp.of [some (vX j)] (by decide +kernel) rfl (Nat.le_of_ble_eq_true rfl) ?_
  intro X G fx het hnm
  refine g_xload_n fx dJ0_length_8abf5_0 rfl ?_
  refine g_sVal fx dJ0_length_8abf5_1 (gw_mem 2006 (by decide +kernel) rfl) hj ?_
  refine g_sLen fx dJ0_length_8abf5_4 hj ?_
  refine g_xload_n fx dJ0_length_8abf5_5 rfl ?_
  refine g_callVDX fx dJ0_length_8abf5_6 mv_RJ0_335 my_J0_coder_7d493 (s_J0_coder_7d493 ad _ j hj) hj rfl rfl rfl (Nat.le_of_ble_eq_true rfl) (by decide) (by decide) ?_
  refine g_ishr fx dJ0_length_8abf5_9 ?_
  exact g_iret fx rfl dJ0_length_8abf5_10 (by decide) (by decide) (gw_le.rf _) ⟨by have hl := (chr_all j hj).1; rw [wshr_0 (by unfold okI; omega)], rfl, rfl⟩
set_option maxRecDepth 4000 in
theorem s_J0_isLatin1_aae02 (ad : Nat → Nat) (σ : Sg) (j : Nat) (hj : j < 20) : gw_Sp yJ0_isLatin1_aae02 cJ0_isLatin1_aae02 1 (some .boolean) 1 0 0 [vX j] (gw_M0 ad) σ (gw_D (some (vI 1)) (gw_M0 ad) (σ)) gw_no := by
  refine gw_Sp.of [some (vX j)] (by decide +kernel) rfl (Nat.le_of_ble_eq_true rfl) ?_
  intro X G fx het hnm
  refine g_sCmp fx dJ0_isLatin1_aae02_0 (gw_mem 867 (by decide +kernel) rfl) ?_
  refine g_if_eq (tgt := 17) fx dJ0_isLatin1_aae02_3 (by decide) (fun h3 => absurd h3 (by decide)) (fun h3 => ?_)
  refine g_xload_n fx dJ0_isLatin1_aae02_6 rfl ?_
  refine g_sCod fx dJ0_isLatin1_aae02_7 (gw_mem 2007 (by decide +kernel) rfl) hj ?_
  refine g_if_ne (tgt := 17) fx dJ0_isLatin1_aae02_10 (by decide) (fun h10 => absurd h10 (by decide)) (fun h10 => ?_)
  refine g_iconst fx dJ0_isLatin1_aae02_13 (by unfold okI; omega) ?_
  refine g_goto (tgt := 18) fx dJ0_isLatin1_aae02_14 (by decide) ?_
  exact g_zret fx rfl dJ0_isLatin1_aae02_18 (by first | exact Or.inl rfl | exact Or.inr rfl | omega) (by decide) (by decide) (gw_le.rf _) ⟨rfl, rfl, rfl⟩
set_option maxRecDepth 4000 in
theorem s_J3_checkIndex_8e157 (ad : Nat → Nat) (σ : Sg)  (i : Int) (n : Int) (h : 0 ≤ i ∧ i < n) : gw_Sp yJ3_checkIndex_8e157 cJ3_checkIndex_8e157 3 (some .int) 1 0 0 [vI i, vI n, vR none] (gw_M0 ad) σ (gw_D (some (vI i)) (gw_M0 ad) (σ)) gw_no := by
  refine gw_Sp.of [some (vI i), some (vI n), some (vR none)] (by decide +kernel) rfl (Nat.le_of_ble_eq_true rfl) ?_
  intro X G fx het hnm
  refine g_iload_n fx dJ3_checkIndex_8e157_0 rfl ?_
  refine g_if_lt (tgt := 9) fx dJ3_checkIndex_8e157_1 (by decide) (fun h1 => absurd h1 (by omega)) (fun h1 => ?_)
  refine g_iload_n fx dJ3_checkIndex_8e157_4 rfl ?_
  refine g_iload_n fx dJ3_checkIndex_8e157_5 rfl ?_
  refine g_icmp_lt (tgt := 16) fx dJ3_checkIndex_8e157_6 (by decide) (fun h6 => ?_) (fun h6 => absurd h6 (by omega))
  refine g_iload_n fx dJ3_checkIndex_8e157_16 rfl ?_
  exact g_iret fx rfl dJ3_checkIndex_8e157_17 (by decide) (by decide) (gw_le.rf _) ⟨rfl, rfl, rfl⟩
set_option maxRecDepth 4000 in
theorem s_J3_checkIndex_8e157F (ad : Nat → Nat) (σ : Sg)  (i : Int) (n : Int) (h : 0 ≤ i ∧ i < n) : gw_Sp yJ3_checkIndex_8e157 cJ3_checkIndex_8e157 3 (some .int) 1 0 0 [vI i, vI n, vX 200] (gw_M0 ad) σ (gw_D (some (vI i)) (gw_M0 ad) (σ)) gw_no := by
  refine gw_Sp.of [some (vI i), some (vI n), some (vX 200)] (by decide +kernel) rfl (Nat.le_of_ble_eq_true rfl) ?_
  intro X G fx het hnm
  refine g_iload_n fx dJ3_checkIndex_8e157_0 rfl ?_
  refine g_if_lt (tgt := 9) fx dJ3_checkIndex_8e157_1 (by decide) (fun h1 => absurd h1 (by omega)) (fun h1 => ?_)
  refine g_iload_n fx dJ3_checkIndex_8e157_4 rfl ?_
  refine g_iload_n fx dJ3_checkIndex_8e157_5 rfl ?_
  refine g_icmp_lt (tgt := 16) fx dJ3_checkIndex_8e157_6 (by decide) (fun h6 => ?_) (fun h6 => absurd h6 (by omega))
  refine g_iload_n fx dJ3_checkIndex_8e157_16 rfl ?_
  exact g_iret fx rfl dJ3_checkIndex_8e157_17 (by decide) (by decide) (gw_le.rf _) ⟨rfl, rfl, rfl⟩
set_option maxRecDepth 4000 in
theorem s_J0_checkIndex_df160 (ad : Nat → Nat) (σ : Sg) (i : Int) (n : Int) (h : 0 ≤ i ∧ i < n) : gw_Sp yJ0_checkIndex_df160 cJ0_checkIndex_df160 2 none 2 0 0 [vI i, vI n] (gw_M0 ad) σ (gw_D none (gw_M0 ad) (σ)) gw_no := by
  refine gw_Sp.of [some (vI i), some (vI n)] (by decide +kernel) rfl (Nat.le_of_ble_eq_true rfl) ?_
  intro X G fx het hnm
  refine g_iload_n fx dJ0_checkIndex_df160_0 rfl ?_
  refine g_iload_n fx dJ0_checkIndex_df160_1 rfl ?_
  refine g_sFmt fx dJ0_checkIndex_df160_2 (gw_mem 883 (by decide +kernel) rfl) ?_ ?_
  · refine g_callSD fx dJ0_checkIndex_df160_5 ms_RJ0_1059 my_J3_checkIndex_8e157 (s_J3_checkIndex_8e157 ad _ _ _ h) rfl rfl (Nat.le_of_ble_eq_true rfl) (by decide) (by decide) ?_
    refine g_pop fx dJ0_checkIndex_df160_8 rfl ?_
    exact g_vret fx rfl dJ0_checkIndex_df160_9 (by decide) (by decide) (gw_le.rf _) ⟨rfl, rfl, rfl⟩
  · refine g_callSD fx dJ0_checkIndex_df160_5 ms_RJ0_1059 my_J3_checkIndex_8e157 (s_J3_checkIndex_8e157F ad _ _ _ h) rfl rfl (Nat.le_of_ble_eq_true rfl) (by decide) (by decide) ?_
    refine g_pop fx dJ0_checkIndex_df160_8 rfl ?_
    exact g_vret fx rfl dJ0_checkIndex_df160_9 (by decide) (by decide) (gw_le.rf _) ⟨rfl, rfl, rfl⟩
set_option maxRecDepth 4000 in
theorem s_J1_charAt_3b067 (ad : Nat → Nat) (σ : Sg) (j : Nat) (i : Int) (hj : j < 20) (h : 0 ≤ i ∧ i < (gw_wd j).length) : gw_Sp yJ1_charAt_3b067 cJ1_charAt_3b067 2 (some .char) 3 0 0 [vX (100 + j), vI i] (gw_M0 ad) σ (gw_D (some (vI (chr j i))) (gw_M0 ad) (σ)) gw_no := by
  refine gw_Sp.of [some (vX (100 + j)), some (vI i)] (by decide +kernel) rfl (Nat.le_of_ble_eq_true rfl) ?_
  intro X G fx het hnm
  have hl := (chr_all j hj).1
  have hc := (chr_all j hj).2 i.toNat (by omega)
  refine g_iload_n fx dJ1_charAt_3b067_0 rfl ?_
  refine g_xload_n fx dJ1_charAt_3b067_1 rfl ?_
  refine g_sLen fx dJ1_charAt_3b067_2 hj ?_
  refine g_callSD0 fx dJ1_charAt_3b067_3 ms_RJ1_9 my_J0_checkIndex_df160 (s_J0_checkIndex_df160 ad _ _ _ (by omega)) rfl rfl (Nat.le_of_ble_eq_true rfl) (by decide) (by decide) ?_
  refine g_xload_n fx dJ1_charAt_3b067_6 rfl ?_
  refine g_iload_n fx dJ1_charAt_3b067_7 rfl ?_
  refine g_sByt fx dJ1_charAt_3b067_8 hj (by omega) (by omega) ?_
  refine g_sipush fx dJ1_charAt_3b067_9 (by decide) ?_
  refine g_iand fx dJ1_charAt_3b067_12 ?_
  refine g_i2c fx dJ1_charAt_3b067_13 ?_
  exact g_cret fx rfl dJ1_charAt_3b067_14 (by show 0 ≤ wc16 (wand ((gw_wd j).getD i.toNat 0).toInt 255) ∧ wc16 (wand ((gw_wd j).getD i.toNat 0).toInt 255) < 65536; rw [hc.2.1]; omega) (by decide) (by decide) (gw_le.rf _) ⟨by show some (vI (wc16 (wand ((gw_wd j).getD i.toNat 0).toInt 255))) = _; rw [hc.2.1]; rfl, rfl, rfl⟩
set_option maxRecDepth 4000 in
theorem s_J0_charAt_5068e (ad : Nat → Nat) (σ : Sg) (j : Nat) (i : Int) (hj : j < 20) (h : 0 ≤ i ∧ i < (gw_wd j).length) : gw_Sp yJ0_charAt_5068e cJ0_charAt_5068e 2 (some .char) 4 0 0 [vX j, vI i] (gw_M0 ad) σ (gw_D (some (vI (chr j i))) (gw_M0 ad) (σ)) gw_no := by
  refine gw_Sp.of [some (vX j), some (vI i)] (by decide +kernel) rfl (Nat.le_of_ble_eq_true rfl) ?_
  intro X G fx het hnm
  have hl := (chr_all j hj).1
  have hc := (chr_all j hj).2 i.toNat (by omega)
  refine g_xload_n fx dJ0_charAt_5068e_0 rfl ?_
  refine g_callVDX fx dJ0_charAt_5068e_1 mv_RJ0_492 my_J0_isLatin1_aae02 (s_J0_isLatin1_aae02 ad _ j hj) hj rfl rfl rfl (Nat.le_of_ble_eq_true rfl) (by decide) (by decide) ?_
  refine g_if_eq (tgt := 16) fx dJ0_charAt_5068e_4 (by decide) (fun h4 => absurd h4 (by decide)) (fun h4 => ?_)
  refine g_xload_n fx dJ0_charAt_5068e_7 rfl ?_
  refine g_sVal fx dJ0_charAt_5068e_8 (gw_mem 2006 (by decide +kernel) rfl) hj ?_
  refine g_iload_n fx dJ0_charAt_5068e_11 rfl ?_
  refine g_callSD fx dJ0_charAt_5068e_12 ms_RJ0_495 my_J1_charAt_3b067 (s_J1_charAt_3b067 ad _ j i hj h) rfl rfl (Nat.le_of_ble_eq_true rfl) (by decide) (by decide) ?_
  exact g_cret fx rfl dJ0_charAt_5068e_15 (by unfold chr; omega) (by decide) (by decide) (gw_le.rf _) ⟨rfl, rfl, rfl⟩
