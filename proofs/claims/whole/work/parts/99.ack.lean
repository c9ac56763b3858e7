/-! THE LAW, 15: its rows, one by one -/
theorem dL_law__2176 : gw_dc cL_law_ 2176 (.aload_n 1) 1 2177 := ⟨by decide +kernel, rfl⟩
theorem ag_2177 : gw_ag cL_law_ 2177 1 := ⟨⟨by decide +kernel, rfl⟩, ⟨by decide +kernel, rfl⟩, ⟨by decide +kernel, rfl⟩, ⟨by decide +kernel, rfl⟩, ⟨by decide +kernel, rfl⟩⟩
theorem ms_RL_242 : gw_mst RL 242 yL_image := ⟨gw_mem 1395 (by decide +kernel) rfl, gw_mem 1396 (by decide +kernel) rfl⟩
theorem dL_law__2183 : gw_dc cL_law_ 2183 (.invokestatic 242) 3 2186 := ⟨by decide +kernel, rfl⟩
theorem dL_law__2186 : gw_dc cL_law_ 2186 (.istore 5) 2 2188 := ⟨by decide +kernel, rfl⟩
theorem dL_law__2188 : gw_dc cL_law_ 2188 (.aload_n 2) 1 2189 := ⟨by decide +kernel, rfl⟩
theorem ag_2189 : gw_ag cL_law_ 2189 1 := ⟨⟨by decide +kernel, rfl⟩, ⟨by decide +kernel, rfl⟩, ⟨by decide +kernel, rfl⟩, ⟨by decide +kernel, rfl⟩, ⟨by decide +kernel, rfl⟩⟩
theorem mv_RL_245 : gw_mv RL 245 yX11_image := ⟨gw_mem 1974 (by decide +kernel) rfl, gw_mem 1975 (by decide +kernel) rfl, gw_mem 1976 (by decide +kernel) rfl⟩
theorem my_X11_image : gw_my yX11_image cX11_image 3 none 1 := ⟨gw_mem 1977 (by decide +kernel) rfl, gw_mem 106 (by decide +kernel) rfl, by decide +kernel, by decide⟩
theorem dL_law__2195 : gw_dc cL_law_ 2195 (.invokevirtual 245) 3 2198 := ⟨by decide +kernel, rfl⟩
theorem t1_2198 : gw_t1 cL_law_ 2198 := ⟨⟨by decide +kernel, rfl⟩, ⟨by decide +kernel, rfl⟩, ⟨by decide +kernel, rfl⟩, ⟨by decide +kernel, rfl⟩⟩
theorem dL_law__2209 : gw_dc cL_law_ 2209 (.goto 64) 3 2212 := ⟨by decide +kernel, rfl⟩
theorem dL_law__2212 : gw_dc cL_law_ 2212 (.aload_n 1) 1 2213 := ⟨by decide +kernel, rfl⟩
theorem ag_2213 : gw_ag cL_law_ 2213 1 := ⟨⟨by decide +kernel, rfl⟩, ⟨by decide +kernel, rfl⟩, ⟨by decide +kernel, rfl⟩, ⟨by decide +kernel, rfl⟩, ⟨by decide +kernel, rfl⟩⟩
theorem ms_RL_246 : gw_mst RL 246 yL_restore := ⟨gw_mem 1407 (by decide +kernel) rfl, gw_mem 1408 (by decide +kernel) rfl⟩
theorem dL_law__2219 : gw_dc cL_law_ 2219 (.invokestatic 246) 3 2222 := ⟨by decide +kernel, rfl⟩
theorem dL_law__2222 : gw_dc cL_law_ 2222 (.istore 5) 2 2224 := ⟨by decide +kernel, rfl⟩
theorem dL_law__2224 : gw_dc cL_law_ 2224 (.aload_n 2) 1 2225 := ⟨by decide +kernel, rfl⟩
theorem ag_2225 : gw_ag cL_law_ 2225 1 := ⟨⟨by decide +kernel, rfl⟩, ⟨by decide +kernel, rfl⟩, ⟨by decide +kernel, rfl⟩, ⟨by decide +kernel, rfl⟩, ⟨by decide +kernel, rfl⟩⟩
theorem mv_RL_248 : gw_mv RL 248 yX11_restore := ⟨gw_mem 1978 (by decide +kernel) rfl, gw_mem 1979 (by decide +kernel) rfl, gw_mem 1980 (by decide +kernel) rfl⟩
theorem my_X11_restore : gw_my yX11_restore cX11_restore 3 none 1 := ⟨gw_mem 1981 (by decide +kernel) rfl, gw_mem 106 (by decide +kernel) rfl, by decide +kernel, by decide⟩
theorem dL_law__2231 : gw_dc cL_law_ 2231 (.invokevirtual 248) 3 2234 := ⟨by decide +kernel, rfl⟩
theorem t1_2234 : gw_t1 cL_law_ 2234 := ⟨⟨by decide +kernel, rfl⟩, ⟨by decide +kernel, rfl⟩, ⟨by decide +kernel, rfl⟩, ⟨by decide +kernel, rfl⟩⟩
theorem dL_law__2245 : gw_dc cL_law_ 2245 (.goto 28) 3 2248 := ⟨by decide +kernel, rfl⟩
theorem dL_law__2248 : gw_dc cL_law_ 2248 (.aload_n 1) 1 2249 := ⟨by decide +kernel, rfl⟩
theorem ag_2249 : gw_ag cL_law_ 2249 1 := ⟨⟨by decide +kernel, rfl⟩, ⟨by decide +kernel, rfl⟩, ⟨by decide +kernel, rfl⟩, ⟨by decide +kernel, rfl⟩, ⟨by decide +kernel, rfl⟩⟩
theorem mv_RL_249 : gw_mv RL 249 yX10_count := ⟨gw_mem 736 (by decide +kernel) rfl, gw_mem 737 (by decide +kernel) rfl, gw_mem 738 (by decide +kernel) rfl⟩
theorem my_X10_count : gw_my yX10_count cX10_count 2 (some .int) 1 := ⟨gw_mem 739 (by decide +kernel) rfl, gw_mem 95 (by decide +kernel) rfl, by decide +kernel, by decide⟩
theorem dL_law__2255 : gw_dc cL_law_ 2255 (.invokevirtual 249) 3 2258 := ⟨by decide +kernel, rfl⟩
theorem dL_law__2258 : gw_dc cL_law_ 2258 (.aload_n 2) 1 2259 := ⟨by decide +kernel, rfl⟩
theorem ag_2259 : gw_ag cL_law_ 2259 1 := ⟨⟨by decide +kernel, rfl⟩, ⟨by decide +kernel, rfl⟩, ⟨by decide +kernel, rfl⟩, ⟨by decide +kernel, rfl⟩, ⟨by decide +kernel, rfl⟩⟩
theorem mv_RL_252 : gw_mv RL 252 yX11_count := ⟨gw_mem 1982 (by decide +kernel) rfl, gw_mem 1983 (by decide +kernel) rfl, gw_mem 1984 (by decide +kernel) rfl⟩
theorem my_X11_count : gw_my yX11_count cX11_count 2 (some .int) 1 := ⟨gw_mem 1985 (by decide +kernel) rfl, gw_mem 106 (by decide +kernel) rfl, by decide +kernel, by decide⟩
theorem dL_law__2265 : gw_dc cL_law_ 2265 (.invokevirtual 252) 3 2268 := ⟨by decide +kernel, rfl⟩
theorem dL_law__2268 : gw_dc cL_law_ 2268 (.if_icmp .eq 5) 3 2271 := ⟨by decide +kernel, rfl⟩
section LW
variable {X : Cx} {G : Gl} {L : Nat} {xs : Nat → Int32} {Z : State → Prop} {kc ks : Nat} {ad : Nat → Nat} {σ : Sg} {i : Nat} {a b c : Option AV}
set_option maxRecDepth 4000 in
theorem law_35 (fx : gw_FX X FL G) (nc : gw_NC (cS X)) (sc : gw_SC X G L xs) (hR : Rel σ σ) (hi : i + 6 ≤ L) (hb : kc + 4 ≤ 601024 ∧ ks + 24 ≤ 7293034) (kk : ∀ kc2 ks2 σ2 a b c, kc2 ≤ kc + 4 → ks2 ≤ ks + 24 → Rel σ2 σ2 → gw_W X FL G Z kc2 ks2 (gw_M0 ad) σ2 2273 (lsL i a b c) []) : gw_W X FL G Z kc ks (gw_M0 ad) σ 2176 (lsL i a b c) [] := by
  refine g_aload_n fx dL_law__2176 rfl ?_
  refine g_arg 1 fx sc ag_2177 (by decide) hi ?_
  refine g_callSH fx nc dL_law__2183 ms_RL_242 myH_L_image (w_image ad σ ((xs (i + 1)).toInt) (al_image hR ((xs (i + 1)).toInt)).mem) rfl rfl (Nat.le_of_ble_eq_true rfl) (by decide) ⟨by show _ ≤ 601024; omega, by show _ ≤ 7293034; omega⟩ (fun E hE => hE.elim) (fun r M2 σ2 hq _ => ?_)
  obtain ⟨rfl, ⟨h0, rfl, rfl⟩ | ⟨j, E, hE, hj, rfl, rfl⟩⟩ := hq
  · show gw_W X FL G Z _ _ _ _ _ _ (vI 0 :: [])
    have hR1 := hR.oz (z := (su (mCopy σ (imT ((xs (i + 1)).toInt)) 4) (imT ((xs (i + 1)).toInt)) 6 1)) (oz_image σ h0)
    have al := al_image hR1 ((xs (i + 1)).toInt)
    rw [h0] at al
    obtain ⟨h5, -, hR2⟩ := al.fin (on_image _ ((xs (i + 1)).toInt) 672) (fun _ _ _ => rfl)
    refine g_istore fx dL_law__2186 (by decide) rfl rfl ?_
    refine g_aload_n fx dL_law__2188 rfl ?_
    refine g_arg 1 fx sc ag_2189 (by decide) hi ?_
    refine g_callVD0 fx dL_law__2195 mv_RL_245 my_X11_image (s_X11_image ad _ ((xs (i + 1)).toInt) 672 rfl) o_223 rfl rfl rfl (Nat.le_of_ble_eq_true rfl) (by decide) ⟨by show _ ≤ 601024; omega, by show _ ≤ 7293034; omega⟩ ?_
    refine g_t1 fx t1_2198 ⟨by show _ ≤ 601024; omega, by show _ ≤ 7293034; omega⟩ h5 ?_
    exact g_goto (tgt := 2273) fx dL_law__2209 (by decide) (kk _ _ _ _ _ _ (by omega) (by omega) hR2)
  · show gw_W X FL G Z _ _ _ _ _ _ (vI (((j : Nat) : Int) + 1) :: [])
    obtain ⟨h5, hR2⟩ := (al_image hR ((xs (i + 1)).toInt)).thr hE hj (by decide) (on_image _ ((xs (i + 1)).toInt) 672)
    refine g_istore fx dL_law__2186 (by decide) rfl rfl ?_
    refine g_aload_n fx dL_law__2188 rfl ?_
    refine g_arg 1 fx sc ag_2189 (by decide) hi ?_
    refine g_callVD0 fx dL_law__2195 mv_RL_245 my_X11_image (s_X11_image ad _ ((xs (i + 1)).toInt) 672 rfl) o_223 rfl rfl rfl (Nat.le_of_ble_eq_true rfl) (by decide) ⟨by show _ ≤ 601024; omega, by show _ ≤ 7293034; omega⟩ ?_
    refine g_t1 fx t1_2198 ⟨by show _ ≤ 601024; omega, by show _ ≤ 7293034; omega⟩ h5 ?_
    exact g_goto (tgt := 2273) fx dL_law__2209 (by decide) (kk _ _ _ _ _ _ (by omega) (by omega) hR2)
set_option maxRecDepth 4000 in
theorem law_36 (fx : gw_FX X FL G) (nc : gw_NC (cS X)) (sc : gw_SC X G L xs) (hR : Rel σ σ) (hi : i + 6 ≤ L) (hb : kc + 4 ≤ 601024 ∧ ks + 24 ≤ 7293034) (kk : ∀ kc2 ks2 σ2 a b c, kc2 ≤ kc + 4 → ks2 ≤ ks + 24 → Rel σ2 σ2 → gw_W X FL G Z kc2 ks2 (gw_M0 ad) σ2 2273 (lsL i a b c) []) : gw_W X FL G Z kc ks (gw_M0 ad) σ 2212 (lsL i a b c) [] := by
  refine g_aload_n fx dL_law__2212 rfl ?_
  refine g_arg 1 fx sc ag_2213 (by decide) hi ?_
  refine g_callSH fx nc dL_law__2219 ms_RL_246 myH_L_restore (w_restore ad σ ((xs (i + 1)).toInt) (al_restore hR ((xs (i + 1)).toInt)).mem) rfl rfl (Nat.le_of_ble_eq_true rfl) (by decide) ⟨by show _ ≤ 601024; omega, by show _ ≤ 7293034; omega⟩ (fun E hE => hE.elim) (fun r M2 σ2 hq _ => ?_)
  obtain ⟨rfl, ⟨h0, rfl, rfl⟩ | ⟨j, E, hE, hj, rfl, rfl⟩⟩ := hq
  · show gw_W X FL G Z _ _ _ _ _ _ (vI 0 :: [])
    have hR1 := hR.oz (z := (mCopy σ 4 (imT ((xs (i + 1)).toInt)))) (oz_rest σ (orN h0))
    have al := al_restore hR1 ((xs (i + 1)).toInt)
    rw [h0] at al
    obtain ⟨h5, -, hR2⟩ := al.fin (on_rest _ ((xs (i + 1)).toInt) 672) (fun _ _ _ => rfl)
    refine g_istore fx dL_law__2222 (by decide) rfl rfl ?_
    refine g_aload_n fx dL_law__2224 rfl ?_
    refine g_arg 1 fx sc ag_2225 (by decide) hi ?_
    refine g_callVD0 fx dL_law__2231 mv_RL_248 my_X11_restore (s_X11_restore ad _ ((xs (i + 1)).toInt) 672 rfl) o_223 rfl rfl rfl (Nat.le_of_ble_eq_true rfl) (by decide) ⟨by show _ ≤ 601024; omega, by show _ ≤ 7293034; omega⟩ ?_
    refine g_t1 fx t1_2234 ⟨by show _ ≤ 601024; omega, by show _ ≤ 7293034; omega⟩ h5 ?_
    exact g_goto (tgt := 2273) fx dL_law__2245 (by decide) (kk _ _ _ _ _ _ (by omega) (by omega) hR2)
  · show gw_W X FL G Z _ _ _ _ _ _ (vI (((j : Nat) : Int) + 1) :: [])
    obtain ⟨h5, hR2⟩ := (al_restore hR ((xs (i + 1)).toInt)).thr hE hj (by decide) (on_rest _ ((xs (i + 1)).toInt) 672)
    refine g_istore fx dL_law__2222 (by decide) rfl rfl ?_
    refine g_aload_n fx dL_law__2224 rfl ?_
    refine g_arg 1 fx sc ag_2225 (by decide) hi ?_
    refine g_callVD0 fx dL_law__2231 mv_RL_248 my_X11_restore (s_X11_restore ad _ ((xs (i + 1)).toInt) 672 rfl) o_223 rfl rfl rfl (Nat.le_of_ble_eq_true rfl) (by decide) ⟨by show _ ≤ 601024; omega, by show _ ≤ 7293034; omega⟩ ?_
    refine g_t1 fx t1_2234 ⟨by show _ ≤ 601024; omega, by show _ ≤ 7293034; omega⟩ h5 ?_
    exact g_goto (tgt := 2273) fx dL_law__2245 (by decide) (kk _ _ _ _ _ _ (by omega) (by omega) hR2)
set_option maxRecDepth 4000 in
theorem law_37 (fx : gw_FX X FL G) (nc : gw_NC (cS X)) (sc : gw_SC X G L xs) (hR : Rel σ σ) (hi : i + 6 ≤ L) (hb : kc + 4 ≤ 601024 ∧ ks + 24 ≤ 7293034) (kk : ∀ kc2 ks2 σ2 a b c, kc2 ≤ kc + 4 → ks2 ≤ ks + 24 → Rel σ2 σ2 → gw_W X FL G Z kc2 ks2 (gw_M0 ad) σ2 2273 (lsL i a b c) []) : gw_W X FL G Z kc ks (gw_M0 ad) σ 2248 (lsL i a b c) [] := by
  refine g_aload_n fx dL_law__2248 rfl ?_
  refine g_arg 1 fx sc ag_2249 (by decide) hi ?_
  refine g_callVD fx dL_law__2255 mv_RL_249 my_X10_count (s_X10_count ad σ ((xs (i + 1)).toInt)) o_0 rfl rfl rfl (Nat.le_of_ble_eq_true rfl) (by decide) ⟨by show _ ≤ 601024; omega, by show _ ≤ 7293034; omega⟩ ?_
  have hR1 := hR.oz (Oz.rf σ)
  obtain ⟨-, hv, hR2⟩ := (al_count hR1 ((xs (i + 1)).toInt)).fin (on_t0 _) (fun _ _ _ => rfl)
  refine g_aload_n fx dL_law__2258 rfl ?_
  refine g_arg 1 fx sc ag_2259 (by decide) hi ?_
  refine g_callVD fx dL_law__2265 mv_RL_252 my_X11_count (s_X11_count ad _ ((xs (i + 1)).toInt) ) o_223 rfl rfl rfl (Nat.le_of_ble_eq_true rfl) (by decide) ⟨by show _ ≤ 601024; omega, by show _ ≤ 7293034; omega⟩ ?_
  exact g_icmp_eq (tgt := 2273) fx dL_law__2268 (by decide) (fun _ => kk _ _ _ _ _ _ (by omega) (by omega) hR2) (fun h => absurd hv h)
end LW
