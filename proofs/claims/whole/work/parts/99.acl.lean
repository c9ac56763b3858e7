/-! THE LAW, 14: its loop -/
theorem dL_law__40 : decode cL_law_ 40 = .ok (.tableswitch 2233 0 37 #[168, 241, 297, 353, 378, 446, 514, 582, 595, 620, 676, 732, 788, 813, 881, 894, 962, 1030, 1086, 1154, 1179, 1192, 1272, 1328, 1384, 1452, 1508, 1588, 1644, 1657, 1713, 1805, 1909, 1969, 2080, 2136, 2172, 2208], 168) := by decide +kernel
theorem dL_law__23 : gw_dc cL_law_ 23 (.iload 4) 2 25 := ⟨by decide +kernel, rfl⟩
theorem dL_law__25 : gw_dc cL_law_ 25 (.aload_n 0) 1 26 := ⟨by decide +kernel, rfl⟩
theorem dL_law__26 : gw_dc cL_law_ 26 (.arraylength) 1 27 := ⟨by decide +kernel, rfl⟩
theorem dL_law__27 : gw_dc cL_law_ 27 (.bipush 6) 2 29 := ⟨by decide +kernel, rfl⟩
theorem dL_law__29 : gw_dc cL_law_ 29 (.isub) 1 30 := ⟨by decide +kernel, rfl⟩
theorem dL_law__30 : gw_dc cL_law_ 30 (.if_icmp .gt 2249) 3 33 := ⟨by decide +kernel, rfl⟩
theorem dL_law__33 : gw_dc cL_law_ 33 (.aload_n 0) 1 34 := ⟨by decide +kernel, rfl⟩
theorem dL_law__34 : gw_dc cL_law_ 34 (.iload 4) 2 36 := ⟨by decide +kernel, rfl⟩
theorem dL_law__36 : gw_dc cL_law_ 36 (.iaload) 1 37 := ⟨by decide +kernel, rfl⟩
theorem dL_law__37 : gw_dc cL_law_ 37 (.bipush 63) 2 39 := ⟨by decide +kernel, rfl⟩
theorem dL_law__39 : gw_dc cL_law_ 39 (.iand) 1 40 := ⟨by decide +kernel, rfl⟩
theorem dL_law__2273 : gw_dc cL_law_ 2273 (.iinc 4 6) 3 2276 := ⟨by decide +kernel, rfl⟩
theorem dL_law__2276 : gw_dc cL_law_ 2276 (.goto (-2253)) 3 2279 := ⟨by decide +kernel, rfl⟩
section LW
variable {X : Cx} {G : Gl} {L : Nat} {xs : Nat → Int32} {Z : State → Prop} {ad : Nat → Nat}
set_option maxRecDepth 4000 in
theorem law_sw {kc ks : Nat} {σ : Sg} {i : Nat} {a b c : Option AV} {v : Int} (fx : gw_FX X FL G) (nc : gw_NC (cS X)) (sc : gw_SC X G L xs) (hR : Rel σ σ) (hi : i + 6 ≤ L) (hb : kc + 4 ≤ 601024 ∧ ks + 24 ≤ 7293034) (kk : ∀ kc2 ks2 σ2 a b c, kc2 ≤ kc + 4 → ks2 ≤ ks + 24 → Rel σ2 σ2 → gw_W X FL G Z kc2 ks2 (gw_M0 ad) σ2 2273 (lsL i a b c) []) : gw_W X FL G Z kc ks (gw_M0 ad) σ 40 (lsL i a b c) [vI v] := by
  by_cases hr : 0 ≤ v ∧ v ≤ 37
  · obtain ⟨n, rfl⟩ : ∃ n : Nat, v = ((n : Nat) : Int) := ⟨v.toNat, by omega⟩
    have hn : n ≤ 37 := by omega
    clear hr
    by_cases h0 : n = 0
    · subst h0
      exact g_tsw 0 (tgt := 208) fx dL_law__40 rfl (by decide) rfl (by decide) (law_0 fx nc sc hR hi hb kk)
    by_cases h1 : n = 1
    · subst h1
      exact g_tsw 1 (tgt := 281) fx dL_law__40 rfl (by decide) rfl (by decide) (law_1 fx nc sc hR hi hb kk)
    by_cases h2 : n = 2
    · subst h2
      exact g_tsw 2 (tgt := 337) fx dL_law__40 rfl (by decide) rfl (by decide) (law_2 fx nc sc hR hi hb kk)
    by_cases h3 : n = 3
    · subst h3
      exact g_tsw 3 (tgt := 393) fx dL_law__40 rfl (by decide) rfl (by decide) (law_3 fx nc sc hR hi hb kk)
    by_cases h4 : n = 4
    · subst h4
      exact g_tsw 4 (tgt := 418) fx dL_law__40 rfl (by decide) rfl (by decide) (law_4 fx nc sc hR hi hb kk)
    by_cases h5 : n = 5
    · subst h5
      exact g_tsw 5 (tgt := 486) fx dL_law__40 rfl (by decide) rfl (by decide) (law_5 fx nc sc hR hi hb kk)
    by_cases h6 : n = 6
    · subst h6
      exact g_tsw 6 (tgt := 554) fx dL_law__40 rfl (by decide) rfl (by decide) (law_6 fx nc sc hR hi hb kk)
    by_cases h7 : n = 7
    · subst h7
      exact g_tsw 7 (tgt := 622) fx dL_law__40 rfl (by decide) rfl (by decide) (law_7 fx nc sc hR hi hb kk)
    by_cases h8 : n = 8
    · subst h8
      exact g_tsw 8 (tgt := 635) fx dL_law__40 rfl (by decide) rfl (by decide) (law_8 fx nc sc hR hi hb kk)
    by_cases h9 : n = 9
    · subst h9
      exact g_tsw 9 (tgt := 660) fx dL_law__40 rfl (by decide) rfl (by decide) (law_9 fx nc sc hR hi hb kk)
    by_cases h10 : n = 10
    · subst h10
      exact g_tsw 10 (tgt := 716) fx dL_law__40 rfl (by decide) rfl (by decide) (law_10 fx nc sc hR hi hb kk)
    by_cases h11 : n = 11
    · subst h11
      exact g_tsw 11 (tgt := 772) fx dL_law__40 rfl (by decide) rfl (by decide) (law_11 fx nc sc hR hi hb kk)
    by_cases h12 : n = 12
    · subst h12
      exact g_tsw 12 (tgt := 828) fx dL_law__40 rfl (by decide) rfl (by decide) (law_12 fx nc sc hR hi hb kk)
    by_cases h13 : n = 13
    · subst h13
      exact g_tsw 13 (tgt := 853) fx dL_law__40 rfl (by decide) rfl (by decide) (law_13 fx nc sc hR hi hb kk)
    by_cases h14 : n = 14
    · subst h14
      exact g_tsw 14 (tgt := 921) fx dL_law__40 rfl (by decide) rfl (by decide) (law_14 fx nc sc hR hi hb kk)
    by_cases h15 : n = 15
    · subst h15
      exact g_tsw 15 (tgt := 934) fx dL_law__40 rfl (by decide) rfl (by decide) (law_15 fx nc sc hR hi hb kk)
    by_cases h16 : n = 16
    · subst h16
      exact g_tsw 16 (tgt := 1002) fx dL_law__40 rfl (by decide) rfl (by decide) (law_16 fx nc sc hR hi hb kk)
    by_cases h17 : n = 17
    · subst h17
      exact g_tsw 17 (tgt := 1070) fx dL_law__40 rfl (by decide) rfl (by decide) (law_17 fx nc sc hR hi hb kk)
    by_cases h18 : n = 18
    · subst h18
      exact g_tsw 18 (tgt := 1126) fx dL_law__40 rfl (by decide) rfl (by decide) (law_18 fx nc sc hR hi hb kk)
    by_cases h19 : n = 19
    · subst h19
      exact g_tsw 19 (tgt := 1194) fx dL_law__40 rfl (by decide) rfl (by decide) (law_19 fx nc sc hR hi hb kk)
    by_cases h20 : n = 20
    · subst h20
      exact g_tsw 20 (tgt := 1219) fx dL_law__40 rfl (by decide) rfl (by decide) (law_20 fx nc sc hR hi hb kk)
    by_cases h21 : n = 21
    · subst h21
      exact g_tsw 21 (tgt := 1232) fx dL_law__40 rfl (by decide) rfl (by decide) (law_21 fx nc sc hR hi hb kk)
    by_cases h22 : n = 22
    · subst h22
      exact g_tsw 22 (tgt := 1312) fx dL_law__40 rfl (by decide) rfl (by decide) (law_22 fx nc sc hR hi hb kk)
    by_cases h23 : n = 23
    · subst h23
      exact g_tsw 23 (tgt := 1368) fx dL_law__40 rfl (by decide) rfl (by decide) (law_23 fx nc sc hR hi hb kk)
    by_cases h24 : n = 24
    · subst h24
      exact g_tsw 24 (tgt := 1424) fx dL_law__40 rfl (by decide) rfl (by decide) (law_24 fx nc sc hR hi hb kk)
    by_cases h25 : n = 25
    · subst h25
      exact g_tsw 25 (tgt := 1492) fx dL_law__40 rfl (by decide) rfl (by decide) (law_25 fx nc sc hR hi hb kk)
    by_cases h26 : n = 26
    · subst h26
      exact g_tsw 26 (tgt := 1548) fx dL_law__40 rfl (by decide) rfl (by decide) (law_26 fx nc sc hR hi hb kk)
    by_cases h27 : n = 27
    · subst h27
      exact g_tsw 27 (tgt := 1628) fx dL_law__40 rfl (by decide) rfl (by decide) (law_27 fx nc sc hR hi hb kk)
    by_cases h28 : n = 28
    · subst h28
      exact g_tsw 28 (tgt := 1684) fx dL_law__40 rfl (by decide) rfl (by decide) (law_28 fx nc sc hR hi hb kk)
    by_cases h29 : n = 29
    · subst h29
      exact g_tsw 29 (tgt := 1697) fx dL_law__40 rfl (by decide) rfl (by decide) (law_29 fx nc sc hR hi hb kk)
    by_cases h30 : n = 30
    · subst h30
      exact g_tsw 30 (tgt := 1753) fx dL_law__40 rfl (by decide) rfl (by decide) (law_30 fx nc sc hR hi hb kk)
    by_cases h31 : n = 31
    · subst h31
      exact g_tsw 31 (tgt := 1845) fx dL_law__40 rfl (by decide) rfl (by decide) (law_31 fx nc sc hR hi hb kk)
    by_cases h32 : n = 32
    · subst h32
      exact g_tsw 32 (tgt := 1949) fx dL_law__40 rfl (by decide) rfl (by decide) (law_32 fx nc sc hR hi hb kk)
    by_cases h33 : n = 33
    · subst h33
      exact g_tsw 33 (tgt := 2009) fx dL_law__40 rfl (by decide) rfl (by decide) (law_33 fx nc sc hR hi hb kk)
    by_cases h34 : n = 34
    · subst h34
      exact g_tsw 34 (tgt := 2120) fx dL_law__40 rfl (by decide) rfl (by decide) (law_34 fx nc sc hR hi hb kk)
    by_cases h35 : n = 35
    · subst h35
      exact g_tsw 35 (tgt := 2176) fx dL_law__40 rfl (by decide) rfl (by decide) (law_35 fx nc sc hR hi hb kk)
    by_cases h36 : n = 36
    · subst h36
      exact g_tsw 36 (tgt := 2212) fx dL_law__40 rfl (by decide) rfl (by decide) (law_36 fx nc sc hR hi hb kk)
    by_cases h37 : n = 37
    · subst h37
      exact g_tsw 37 (tgt := 2248) fx dL_law__40 rfl (by decide) rfl (by decide) (law_37 fx nc sc hR hi hb kk)
    exact absurd hn (by omega)
  · exact g_tswO (tgt := 2273) fx dL_law__40 (by omega) (by decide) (kk _ _ _ _ _ _ (by omega) (by omega) hR)
set_option maxRecDepth 4000 in
theorem law_loop (fx : gw_FX X FL G) (nc : gw_NC (cS X)) (sc : gw_SC X G L xs) (kE : ∀ kc ks σ i a b c, kc ≤ 601024 → ks ≤ 7293034 → gw_W X FL G Z kc ks (gw_M0 ad) σ 2279 (lsL i a b c) []) :
    ∀ (r : Nat) (kc ks : Nat) (σ : Sg) (i : Nat) (a b c : Option AV), Rel σ σ → i ≤ L → L ≤ i + 6 * r + 5 → kc + 4 * r ≤ 601024 → ks + 24 * r ≤ 7293034 → gw_W X FL G Z kc ks (gw_M0 ad) σ 23 (lsL i a b c) [] := by
  intro r
  induction r with
  | zero =>
    intro kc ks σ i a b c hR hi hr hc hs
    have hL := sc.1
    refine g_iload fx dL_law__23 rfl ?_
    refine g_xload_n fx dL_law__25 rfl ?_
    refine g_slen fx sc dL_law__26 ?_
    refine g_bipush fx dL_law__27 (by decide) ?_
    refine g_isub1 fx dL_law__29 (by unfold okI; omega) ?_
    exact g_icmp_gt (tgt := 2279) fx dL_law__30 (by decide) (fun _ => kE _ _ _ _ _ _ _ (by omega) (by omega)) (fun h => absurd h (by omega))
  | succ r ih =>
    intro kc ks σ i a b c hR hi hr hc hs
    have hL := sc.1
    refine g_iload fx dL_law__23 rfl ?_
    refine g_xload_n fx dL_law__25 rfl ?_
    refine g_slen fx sc dL_law__26 ?_
    refine g_bipush fx dL_law__27 (by decide) ?_
    refine g_isub1 fx dL_law__29 (by unfold okI; omega) ?_
    refine g_icmp_gt (tgt := 2279) fx dL_law__30 (by decide) (fun _ => kE _ _ _ _ _ _ _ (by omega) (by omega)) (fun h => ?_)
    have hi6 : i + 6 ≤ L := by omega
    refine g_xload_n fx dL_law__33 rfl ?_
    refine g_iload fx dL_law__34 rfl ?_
    refine g_sld (n := i) fx sc dL_law__36 rfl (by omega) ?_
    refine g_bipush fx dL_law__37 (by decide) ?_
    refine g_iand fx dL_law__39 ?_
    refine law_sw fx nc sc hR hi6 ⟨by omega, by omega⟩ (fun kc2 ks2 σ2 a b c h1 h2 hR2 => ?_)
    refine g_iinc1 fx dL_law__2273 (by decide) rfl rfl (by unfold okI; omega) rfl ?_
    refine g_goto (tgt := 23) fx dL_law__2276 (by decide) ?_
    exact ih kc2 ks2 σ2 (i + 6) a b c hR2 hi6 (by omega) (by omega) (by omega)
end LW
