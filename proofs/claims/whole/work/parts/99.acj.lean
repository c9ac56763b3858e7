/-! THE LAW, 14: its rows, one by one -/
theorem dL_law__2009 : gw_dc cL_law_ 2009 (.aload_n 1) 1 2010 := ⟨by decide +kernel, rfl⟩
theorem ag_2010 : gw_ag cL_law_ 2010 1 := ⟨⟨by decide +kernel, rfl⟩, ⟨by decide +kernel, rfl⟩, ⟨by decide +kernel, rfl⟩, ⟨by decide +kernel, rfl⟩, ⟨by decide +kernel, rfl⟩⟩
theorem ag_2016 : gw_ag cL_law_ 2016 2 := ⟨⟨by decide +kernel, rfl⟩, ⟨by decide +kernel, rfl⟩, ⟨by decide +kernel, rfl⟩, ⟨by decide +kernel, rfl⟩, ⟨by decide +kernel, rfl⟩⟩
theorem ag_2022 : gw_ag cL_law_ 2022 3 := ⟨⟨by decide +kernel, rfl⟩, ⟨by decide +kernel, rfl⟩, ⟨by decide +kernel, rfl⟩, ⟨by decide +kernel, rfl⟩, ⟨by decide +kernel, rfl⟩⟩
theorem dL_law__2028 : gw_dc cL_law_ 2028 (.i2l) 1 2029 := ⟨by decide +kernel, rfl⟩
theorem dL_law__2029 : gw_dc cL_law_ 2029 (.bipush 32) 2 2031 := ⟨by decide +kernel, rfl⟩
theorem dL_law__2031 : gw_dc cL_law_ 2031 (.lshl) 1 2032 := ⟨by decide +kernel, rfl⟩
theorem ag_2032 : gw_ag cL_law_ 2032 4 := ⟨⟨by decide +kernel, rfl⟩, ⟨by decide +kernel, rfl⟩, ⟨by decide +kernel, rfl⟩, ⟨by decide +kernel, rfl⟩, ⟨by decide +kernel, rfl⟩⟩
theorem dL_law__2038 : gw_dc cL_law_ 2038 (.i2l) 1 2039 := ⟨by decide +kernel, rfl⟩
theorem dL_law__2039 : gw_dc cL_law_ 2039 (.ldc2_w 233) 3 2042 := ⟨by decide +kernel, rfl⟩
theorem kc_RL_233 : Cond.constantLong RL 233 (Int64.ofInt 4294967295) ∈ wsG := gw_mem 1986 (by decide +kernel) rfl
theorem dL_law__2042 : gw_dc cL_law_ 2042 (.land) 1 2043 := ⟨by decide +kernel, rfl⟩
theorem dL_law__2043 : gw_dc cL_law_ 2043 (.lor) 1 2044 := ⟨by decide +kernel, rfl⟩
theorem dL_law__2044 : gw_dc cL_law_ 2044 (.aload_n 3) 1 2045 := ⟨by decide +kernel, rfl⟩
theorem ms_RL_235 : gw_mst RL 235 yL_write := ⟨gw_mem 1371 (by decide +kernel) rfl, gw_mem 1372 (by decide +kernel) rfl⟩
theorem dL_law__2045 : gw_dc cL_law_ 2045 (.invokestatic 235) 3 2048 := ⟨by decide +kernel, rfl⟩
theorem dL_law__2048 : gw_dc cL_law_ 2048 (.istore 5) 2 2050 := ⟨by decide +kernel, rfl⟩
theorem dL_law__2050 : gw_dc cL_law_ 2050 (.aload_n 2) 1 2051 := ⟨by decide +kernel, rfl⟩
theorem ag_2051 : gw_ag cL_law_ 2051 1 := ⟨⟨by decide +kernel, rfl⟩, ⟨by decide +kernel, rfl⟩, ⟨by decide +kernel, rfl⟩, ⟨by decide +kernel, rfl⟩, ⟨by decide +kernel, rfl⟩⟩
theorem ag_2057 : gw_ag cL_law_ 2057 2 := ⟨⟨by decide +kernel, rfl⟩, ⟨by decide +kernel, rfl⟩, ⟨by decide +kernel, rfl⟩, ⟨by decide +kernel, rfl⟩, ⟨by decide +kernel, rfl⟩⟩
theorem ag_2063 : gw_ag cL_law_ 2063 3 := ⟨⟨by decide +kernel, rfl⟩, ⟨by decide +kernel, rfl⟩, ⟨by decide +kernel, rfl⟩, ⟨by decide +kernel, rfl⟩, ⟨by decide +kernel, rfl⟩⟩
theorem dL_law__2069 : gw_dc cL_law_ 2069 (.i2l) 1 2070 := ⟨by decide +kernel, rfl⟩
theorem dL_law__2070 : gw_dc cL_law_ 2070 (.bipush 32) 2 2072 := ⟨by decide +kernel, rfl⟩
theorem dL_law__2072 : gw_dc cL_law_ 2072 (.lshl) 1 2073 := ⟨by decide +kernel, rfl⟩
theorem ag_2073 : gw_ag cL_law_ 2073 4 := ⟨⟨by decide +kernel, rfl⟩, ⟨by decide +kernel, rfl⟩, ⟨by decide +kernel, rfl⟩, ⟨by decide +kernel, rfl⟩, ⟨by decide +kernel, rfl⟩⟩
theorem dL_law__2079 : gw_dc cL_law_ 2079 (.i2l) 1 2080 := ⟨by decide +kernel, rfl⟩
theorem dL_law__2080 : gw_dc cL_law_ 2080 (.ldc2_w 233) 3 2083 := ⟨by decide +kernel, rfl⟩
theorem dL_law__2083 : gw_dc cL_law_ 2083 (.land) 1 2084 := ⟨by decide +kernel, rfl⟩
theorem dL_law__2084 : gw_dc cL_law_ 2084 (.lor) 1 2085 := ⟨by decide +kernel, rfl⟩
theorem mv_RL_238 : gw_mv RL 238 yX11_write := ⟨gw_mem 1962 (by decide +kernel) rfl, gw_mem 1963 (by decide +kernel) rfl, gw_mem 1964 (by decide +kernel) rfl⟩
theorem my_X11_write : gw_my yX11_write cX11_write 5 (some .long) 3 := ⟨gw_mem 1965 (by decide +kernel) rfl, gw_mem 106 (by decide +kernel) rfl, by decide +kernel, by decide⟩
theorem dL_law__2085 : gw_dc cL_law_ 2085 (.invokevirtual 238) 3 2088 := ⟨by decide +kernel, rfl⟩
theorem dL_law__2088 : gw_dc cL_law_ 2088 (.lstore 6) 2 2090 := ⟨by decide +kernel, rfl⟩
theorem t1_2090 : gw_t1 cL_law_ 2090 := ⟨⟨by decide +kernel, rfl⟩, ⟨by decide +kernel, rfl⟩, ⟨by decide +kernel, rfl⟩, ⟨by decide +kernel, rfl⟩⟩
theorem dL_law__2117 : gw_dc cL_law_ 2117 (.goto 156) 3 2120 := ⟨by decide +kernel, rfl⟩
theorem dL_law__2101 : gw_dc cL_law_ 2101 (.iload 5) 2 2103 := ⟨by decide +kernel, rfl⟩
theorem dL_law__2103 : gw_dc cL_law_ 2103 (.ifCond .ne 14) 3 2106 := ⟨by decide +kernel, rfl⟩
theorem dL_law__2106 : gw_dc cL_law_ 2106 (.aload_n 3) 1 2107 := ⟨by decide +kernel, rfl⟩
theorem dL_law__2107 : gw_dc cL_law_ 2107 (.iconst 0) 1 2108 := ⟨by decide +kernel, rfl⟩
theorem dL_law__2108 : gw_dc cL_law_ 2108 (.laload) 1 2109 := ⟨by decide +kernel, rfl⟩
theorem dL_law__2109 : gw_dc cL_law_ 2109 (.lload 6) 2 2111 := ⟨by decide +kernel, rfl⟩
theorem dL_law__2111 : gw_dc cL_law_ 2111 (.lcmp) 1 2112 := ⟨by decide +kernel, rfl⟩
theorem dL_law__2112 : gw_dc cL_law_ 2112 (.ifCond .eq 5) 3 2115 := ⟨by decide +kernel, rfl⟩
theorem dL_law__2120 : gw_dc cL_law_ 2120 (.aload_n 1) 1 2121 := ⟨by decide +kernel, rfl⟩
theorem ag_2121 : gw_ag cL_law_ 2121 1 := ⟨⟨by decide +kernel, rfl⟩, ⟨by decide +kernel, rfl⟩, ⟨by decide +kernel, rfl⟩, ⟨by decide +kernel, rfl⟩, ⟨by decide +kernel, rfl⟩⟩
theorem dL_law__2127 : gw_dc cL_law_ 2127 (.aload_n 3) 1 2128 := ⟨by decide +kernel, rfl⟩
theorem ms_RL_239 : gw_mst RL 239 yL_pour := ⟨gw_mem 1387 (by decide +kernel) rfl, gw_mem 1388 (by decide +kernel) rfl⟩
theorem dL_law__2128 : gw_dc cL_law_ 2128 (.invokestatic 239) 3 2131 := ⟨by decide +kernel, rfl⟩
theorem dL_law__2131 : gw_dc cL_law_ 2131 (.istore 5) 2 2133 := ⟨by decide +kernel, rfl⟩
theorem dL_law__2133 : gw_dc cL_law_ 2133 (.aload_n 2) 1 2134 := ⟨by decide +kernel, rfl⟩
theorem ag_2134 : gw_ag cL_law_ 2134 1 := ⟨⟨by decide +kernel, rfl⟩, ⟨by decide +kernel, rfl⟩, ⟨by decide +kernel, rfl⟩, ⟨by decide +kernel, rfl⟩, ⟨by decide +kernel, rfl⟩⟩
theorem mv_RL_241 : gw_mv RL 241 yX11_pour := ⟨gw_mem 1970 (by decide +kernel) rfl, gw_mem 1971 (by decide +kernel) rfl, gw_mem 1972 (by decide +kernel) rfl⟩
theorem my_X11_pour : gw_my yX11_pour cX11_pour 4 (some .int) 1 := ⟨gw_mem 1973 (by decide +kernel) rfl, gw_mem 106 (by decide +kernel) rfl, by decide +kernel, by decide⟩
theorem dL_law__2140 : gw_dc cL_law_ 2140 (.invokevirtual 241) 3 2143 := ⟨by decide +kernel, rfl⟩
theorem dL_law__2143 : gw_dc cL_law_ 2143 (.istore 6) 2 2145 := ⟨by decide +kernel, rfl⟩
theorem t1_2145 : gw_t1 cL_law_ 2145 := ⟨⟨by decide +kernel, rfl⟩, ⟨by decide +kernel, rfl⟩, ⟨by decide +kernel, rfl⟩, ⟨by decide +kernel, rfl⟩⟩
theorem t2_2156 : gw_t2 cL_law_ 2156 100 := ⟨⟨by decide +kernel, rfl⟩, ⟨by decide +kernel, rfl⟩, ⟨by decide +kernel, rfl⟩, ⟨by decide +kernel, rfl⟩, ⟨by decide +kernel, rfl⟩, ⟨by decide +kernel, rfl⟩, ⟨by decide +kernel, rfl⟩, ⟨by decide +kernel, rfl⟩, ⟨by decide +kernel, rfl⟩, ⟨by decide +kernel, rfl⟩⟩
section LW
variable {X : Cx} {G : Gl} {L : Nat} {xs : Nat → Int32} {Z : State → Prop} {kc ks : Nat} {ad : Nat → Nat} {σ : Sg} {i : Nat} {a b c : Option AV}
set_option maxRecDepth 4000 in
theorem law_33 (fx : gw_FX X FL G) (nc : gw_NC (cS X)) (sc : gw_SC X G L xs) (hR : Rel σ σ) (hi : i + 6 ≤ L) (hb : kc + 4 ≤ 601024 ∧ ks + 24 ≤ 7293034) (kk : ∀ kc2 ks2 σ2 a b c, kc2 ≤ kc + 4 → ks2 ≤ ks + 24 → Rel σ2 σ2 → gw_W X FL G Z kc2 ks2 (gw_M0 ad) σ2 2273 (lsL i a b c) []) : gw_W X FL G Z kc ks (gw_M0 ad) σ 2009 (lsL i a b c) [] := by
  refine g_aload_n fx dL_law__2009 rfl ?_
  refine g_arg 1 fx sc ag_2010 (by decide) hi ?_
  refine g_arg 2 fx sc ag_2016 (by decide) hi ?_
  refine g_arg 3 fx sc ag_2022 (by decide) hi ?_
  refine g_i2l fx dL_law__2028 ?_
  refine g_bipush fx dL_law__2029 (by decide) ?_
  refine g_lshl fx dL_law__2031 ?_
  refine g_arg 4 fx sc ag_2032 (by decide) hi ?_
  refine g_i2l fx dL_law__2038 ?_
  refine g_ldcL fx dL_law__2039 kc_RL_233 (by unfold okJ; omega) ?_
  refine g_land fx dL_law__2042 ?_
  refine g_lor fx dL_law__2043 ?_
  refine g_aload_n fx dL_law__2044 rfl ?_
  refine g_callSH fx nc dL_law__2045 ms_RL_235 myH_L_write (w_write ad σ ((xs (i + 1)).toInt) ((xs (i + 2)).toInt) (ljor (ljshl (xs (i + 3)).toInt 32) (ljand (xs (i + 4)).toInt 4294967295)) (al_write hR ((xs (i + 1)).toInt) ((xs (i + 2)).toInt) (ljor (ljshl (xs (i + 3)).toInt 32) (ljand (xs (i + 4)).toInt 4294967295)) okW).mem) rfl rfl (Nat.le_of_ble_eq_true rfl) (by decide) ⟨by show _ ≤ 601024; omega, by show _ ≤ 7293034; omega⟩ (fun E hE => hE.elim) (fun r M2 σ2 hq _ => ?_)
  obtain ⟨rfl, ⟨h0, rfl, rfl⟩ | ⟨j, E, hE, hj, rfl, rfl⟩⟩ := hq
  · show gw_W X FL G Z _ _ _ _ _ _ (vI 0 :: [])
    have hR1 := hR.out (z := (yPut σ (trT ((xs (i + 1)).toInt)) ((xs (i + 2)).toInt) (ljor (ljshl (xs (i + 3)).toInt 32) (ljand (xs (i + 4)).toInt 4294967295)))) (oz_yput σ (by have := trT_lt (orN (orN h0)); omega) _ _) ((yAt (yPut σ (trT ((xs (i + 1)).toInt)) ((xs (i + 2)).toInt) (ljor (ljshl (xs (i + 3)).toInt 32) (ljand (xs (i + 4)).toInt 4294967295))) (trT ((xs (i + 1)).toInt) + 1) ((xs (i + 2)).toInt)))
    have al := al_write hR1 ((xs (i + 1)).toInt) ((xs (i + 2)).toInt) (ljor (ljshl (xs (i + 3)).toInt 32) (ljand (xs (i + 4)).toInt 4294967295)) okW
    rw [h0] at al
    obtain ⟨h5, h8, hR2⟩ := al.fin8 (on_write _ ((xs (i + 1)).toInt) ((xs (i + 2)).toInt) (ljor (ljshl (xs (i + 3)).toInt 32) (ljand (xs (i + 4)).toInt 4294967295)))
    refine g_istore fx dL_law__2048 (by decide) rfl rfl ?_
    refine g_aload_n fx dL_law__2050 rfl ?_
    refine g_arg 1 fx sc ag_2051 (by decide) hi ?_
    refine g_arg 2 fx sc ag_2057 (by decide) hi ?_
    refine g_arg 3 fx sc ag_2063 (by decide) hi ?_
    refine g_i2l fx dL_law__2069 ?_
    refine g_bipush fx dL_law__2070 (by decide) ?_
    refine g_lshl fx dL_law__2072 ?_
    refine g_arg 4 fx sc ag_2073 (by decide) hi ?_
    refine g_i2l fx dL_law__2079 ?_
    refine g_ldcL fx dL_law__2080 kc_RL_233 (by unfold okJ; omega) ?_
    refine g_land fx dL_law__2083 ?_
    refine g_lor fx dL_law__2084 ?_
    refine g_callVD fx dL_law__2085 mv_RL_238 my_X11_write (s_X11_write ad _ ((xs (i + 1)).toInt) ((xs (i + 2)).toInt) (ljor (ljshl (xs (i + 3)).toInt 32) (ljand (xs (i + 4)).toInt 4294967295)) hR1.trw) o_223 rfl rfl rfl (Nat.le_of_ble_eq_true rfl) (by decide) ⟨by show _ ≤ 601024; omega, by show _ ≤ 7293034; omega⟩ ?_
    refine g_lstore fx dL_law__2088 (by decide) rfl rfl ?_
    refine g_t1 fx t1_2090 ⟨by show _ ≤ 601024; omega, by show _ ≤ 7293034; omega⟩ h5 ?_
    refine g_iload fx dL_law__2101 rfl ?_
    refine g_if_ne (tgt := 2117) fx dL_law__2103 (by decide) (fun h => absurd rfl h) (fun _ => ?_)
    refine g_aload_n fx dL_law__2106 rfl ?_
    refine g_iconst fx dL_law__2107 (by unfold okI; omega) ?_
    refine g_lald fx dL_law__2108 o_248 (by decide) (by decide) ?_
    refine g_lload fx dL_law__2109 rfl ?_
    refine g_lcmp fx dL_law__2111 ?_
    exact g_if_eq (tgt := 2117) fx dL_law__2112 (by decide) (fun _ => (g_goto (tgt := 2273) fx dL_law__2117 (by decide) (kk _ _ _ _ _ _ (by omega) (by omega) hR2))) (fun q => absurd (jc_eq.mpr h8) q)
  · show gw_W X FL G Z _ _ _ _ _ _ (vI (((j : Nat) : Int) + 1) :: [])
    obtain ⟨h5, hR2⟩ := (al_write hR ((xs (i + 1)).toInt) ((xs (i + 2)).toInt) (ljor (ljshl (xs (i + 3)).toInt 32) (ljand (xs (i + 4)).toInt 4294967295)) okW).thr hE hj (by decide) (on_write _ ((xs (i + 1)).toInt) ((xs (i + 2)).toInt) (ljor (ljshl (xs (i + 3)).toInt 32) (ljand (xs (i + 4)).toInt 4294967295)))
    refine g_istore fx dL_law__2048 (by decide) rfl rfl ?_
    refine g_aload_n fx dL_law__2050 rfl ?_
    refine g_arg 1 fx sc ag_2051 (by decide) hi ?_
    refine g_arg 2 fx sc ag_2057 (by decide) hi ?_
    refine g_arg 3 fx sc ag_2063 (by decide) hi ?_
    refine g_i2l fx dL_law__2069 ?_
    refine g_bipush fx dL_law__2070 (by decide) ?_
    refine g_lshl fx dL_law__2072 ?_
    refine g_arg 4 fx sc ag_2073 (by decide) hi ?_
    refine g_i2l fx dL_law__2079 ?_
    refine g_ldcL fx dL_law__2080 kc_RL_233 (by unfold okJ; omega) ?_
    refine g_land fx dL_law__2083 ?_
    refine g_lor fx dL_law__2084 ?_
    refine g_callVD fx dL_law__2085 mv_RL_238 my_X11_write (s_X11_write ad _ ((xs (i + 1)).toInt) ((xs (i + 2)).toInt) (ljor (ljshl (xs (i + 3)).toInt 32) (ljand (xs (i + 4)).toInt 4294967295)) hR.trw) o_223 rfl rfl rfl (Nat.le_of_ble_eq_true rfl) (by decide) ⟨by show _ ≤ 601024; omega, by show _ ≤ 7293034; omega⟩ ?_
    refine g_lstore fx dL_law__2088 (by decide) rfl rfl ?_
    refine g_t1 fx t1_2090 ⟨by show _ ≤ 601024; omega, by show _ ≤ 7293034; omega⟩ h5 ?_
    refine g_iload fx dL_law__2101 rfl ?_
    exact g_if_ne (tgt := 2117) fx dL_law__2103 (by decide) (fun _ => (g_goto (tgt := 2273) fx dL_law__2117 (by decide) (kk _ _ _ _ _ _ (by omega) (by omega) hR2))) (fun h => absurd h (by omega))
set_option maxRecDepth 4000 in
theorem law_34 (fx : gw_FX X FL G) (nc : gw_NC (cS X)) (sc : gw_SC X G L xs) (hR : Rel σ σ) (hi : i + 6 ≤ L) (hb : kc + 4 ≤ 601024 ∧ ks + 24 ≤ 7293034) (kk : ∀ kc2 ks2 σ2 a b c, kc2 ≤ kc + 4 → ks2 ≤ ks + 24 → Rel σ2 σ2 → gw_W X FL G Z kc2 ks2 (gw_M0 ad) σ2 2273 (lsL i a b c) []) : gw_W X FL G Z kc ks (gw_M0 ad) σ 2120 (lsL i a b c) [] := by
  refine g_aload_n fx dL_law__2120 rfl ?_
  refine g_arg 1 fx sc ag_2121 (by decide) hi ?_
  refine g_aload_n fx dL_law__2127 rfl ?_
  refine g_callSH fx nc dL_law__2128 ms_RL_239 myH_L_pour (w_pour ad σ ((xs (i + 1)).toInt) (al_pour hR ((xs (i + 1)).toInt)).mem) rfl rfl (Nat.le_of_ble_eq_true rfl) (by decide) ⟨by show _ ≤ 601024; omega, by show _ ≤ 7293034; omega⟩ (fun E hE => hE.elim) (fun r M2 σ2 hq _ => ?_)
  obtain ⟨rfl, ⟨h0, rfl, rfl⟩ | ⟨j, E, hE, hj, rfl, rfl⟩⟩ := hq
  · show gw_W X FL G Z _ _ _ _ _ _ (vI 0 :: [])
    have hR1 := hR.out (z := (zPour (go σ 26 4) (trT ((xs (i + 1)).toInt)))) (oz_pour σ (orN h0)) ((min (go σ 26 4 (trT ((xs (i + 1)).toInt)) 2) (go σ 26 4 26 1)))
    have al := al_pour hR1 ((xs (i + 1)).toInt)
    rw [h0] at al
    obtain ⟨h5, h8, hR2⟩ := al.fin8 (on_pour _ ((xs (i + 1)).toInt))
    refine g_istore fx dL_law__2131 (by decide) rfl rfl ?_
    refine g_aload_n fx dL_law__2133 rfl ?_
    refine g_arg 1 fx sc ag_2134 (by decide) hi ?_
    refine g_callVD fx dL_law__2140 mv_RL_241 my_X11_pour (s_X11_pour ad _ ((xs (i + 1)).toInt) hR1.tw hR1.trw) o_223 rfl rfl rfl (Nat.le_of_ble_eq_true rfl) (by decide) ⟨by show _ ≤ 601024; omega, by show _ ≤ 7293034; omega⟩ ?_
    refine g_istore fx dL_law__2143 (by decide) rfl rfl ?_
    refine g_t1 fx t1_2145 ⟨by show _ ≤ 601024; omega, by show _ ≤ 7293034; omega⟩ h5 ?_
    exact g_t2 (tgt := 2273) fx t2_2156 (by decide) (fun h => h8) (kk _ _ _ _ _ _ (by omega) (by omega) hR2)
  · show gw_W X FL G Z _ _ _ _ _ _ (vI (((j : Nat) : Int) + 1) :: [])
    obtain ⟨h5, hR2⟩ := (al_pour hR ((xs (i + 1)).toInt)).thr hE hj (by decide) (on_pour _ ((xs (i + 1)).toInt))
    refine g_istore fx dL_law__2131 (by decide) rfl rfl ?_
    refine g_aload_n fx dL_law__2133 rfl ?_
    refine g_arg 1 fx sc ag_2134 (by decide) hi ?_
    refine g_callVD fx dL_law__2140 mv_RL_241 my_X11_pour (s_X11_pour ad _ ((xs (i + 1)).toInt) hR.tw hR.trw) o_223 rfl rfl rfl (Nat.le_of_ble_eq_true rfl) (by decide) ⟨by show _ ≤ 601024; omega, by show _ ≤ 7293034; omega⟩ ?_
    refine g_istore fx dL_law__2143 (by decide) rfl rfl ?_
    refine g_t1 fx t1_2145 ⟨by show _ ≤ 601024; omega, by show _ ≤ 7293034; omega⟩ h5 ?_
    exact g_t2 (tgt := 2273) fx t2_2156 (by decide) (fun h => absurd h (by omega)) (kk _ _ _ _ _ _ (by omega) (by omega) hR2)
end LW
