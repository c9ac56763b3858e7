/-! THE LAW, 13: its rows, one by one -/
theorem dL_law__1845 : gw_dc cL_law_ 1845 (.aload_n 1) 1 1846 := ⟨by decide +kernel, rfl⟩
theorem ag_1846 : gw_ag cL_law_ 1846 1 := ⟨⟨by decide +kernel, rfl⟩, ⟨by decide +kernel, rfl⟩, ⟨by decide +kernel, rfl⟩, ⟨by decide +kernel, rfl⟩, ⟨by decide +kernel, rfl⟩⟩
theorem ag_1852 : gw_ag cL_law_ 1852 2 := ⟨⟨by decide +kernel, rfl⟩, ⟨by decide +kernel, rfl⟩, ⟨by decide +kernel, rfl⟩, ⟨by decide +kernel, rfl⟩, ⟨by decide +kernel, rfl⟩⟩
theorem ag_1858 : gw_ag cL_law_ 1858 3 := ⟨⟨by decide +kernel, rfl⟩, ⟨by decide +kernel, rfl⟩, ⟨by decide +kernel, rfl⟩, ⟨by decide +kernel, rfl⟩, ⟨by decide +kernel, rfl⟩⟩
theorem ag_1864 : gw_ag cL_law_ 1864 4 := ⟨⟨by decide +kernel, rfl⟩, ⟨by decide +kernel, rfl⟩, ⟨by decide +kernel, rfl⟩, ⟨by decide +kernel, rfl⟩, ⟨by decide +kernel, rfl⟩⟩
theorem ag_1870 : gw_ag cL_law_ 1870 5 := ⟨⟨by decide +kernel, rfl⟩, ⟨by decide +kernel, rfl⟩, ⟨by decide +kernel, rfl⟩, ⟨by decide +kernel, rfl⟩, ⟨by decide +kernel, rfl⟩⟩
theorem dL_law__1876 : gw_dc cL_law_ 1876 (.aload_n 3) 1 1877 := ⟨by decide +kernel, rfl⟩
theorem ms_RL_225 : gw_mst RL 225 yL_days := ⟨gw_mem 1351 (by decide +kernel) rfl, gw_mem 1352 (by decide +kernel) rfl⟩
theorem dL_law__1877 : gw_dc cL_law_ 1877 (.invokestatic 225) 3 1880 := ⟨by decide +kernel, rfl⟩
theorem dL_law__1880 : gw_dc cL_law_ 1880 (.istore 5) 2 1882 := ⟨by decide +kernel, rfl⟩
theorem dL_law__1882 : gw_dc cL_law_ 1882 (.aload_n 2) 1 1883 := ⟨by decide +kernel, rfl⟩
theorem ag_1883 : gw_ag cL_law_ 1883 1 := ⟨⟨by decide +kernel, rfl⟩, ⟨by decide +kernel, rfl⟩, ⟨by decide +kernel, rfl⟩, ⟨by decide +kernel, rfl⟩, ⟨by decide +kernel, rfl⟩⟩
theorem ag_1889 : gw_ag cL_law_ 1889 2 := ⟨⟨by decide +kernel, rfl⟩, ⟨by decide +kernel, rfl⟩, ⟨by decide +kernel, rfl⟩, ⟨by decide +kernel, rfl⟩, ⟨by decide +kernel, rfl⟩⟩
theorem ag_1895 : gw_ag cL_law_ 1895 3 := ⟨⟨by decide +kernel, rfl⟩, ⟨by decide +kernel, rfl⟩, ⟨by decide +kernel, rfl⟩, ⟨by decide +kernel, rfl⟩, ⟨by decide +kernel, rfl⟩⟩
theorem ag_1901 : gw_ag cL_law_ 1901 4 := ⟨⟨by decide +kernel, rfl⟩, ⟨by decide +kernel, rfl⟩, ⟨by decide +kernel, rfl⟩, ⟨by decide +kernel, rfl⟩, ⟨by decide +kernel, rfl⟩⟩
theorem ag_1907 : gw_ag cL_law_ 1907 5 := ⟨⟨by decide +kernel, rfl⟩, ⟨by decide +kernel, rfl⟩, ⟨by decide +kernel, rfl⟩, ⟨by decide +kernel, rfl⟩, ⟨by decide +kernel, rfl⟩⟩
theorem mv_RL_228 : gw_mv RL 228 yX11_days := ⟨gw_mem 1952 (by decide +kernel) rfl, gw_mem 1953 (by decide +kernel) rfl, gw_mem 1954 (by decide +kernel) rfl⟩
theorem my_X11_days : gw_my yX11_days cX11_days 11 (some .int) 5 := ⟨gw_mem 1955 (by decide +kernel) rfl, gw_mem 106 (by decide +kernel) rfl, by decide +kernel, by decide⟩
theorem dL_law__1913 : gw_dc cL_law_ 1913 (.invokevirtual 228) 3 1916 := ⟨by decide +kernel, rfl⟩
theorem dL_law__1916 : gw_dc cL_law_ 1916 (.istore 6) 2 1918 := ⟨by decide +kernel, rfl⟩
theorem t1_1918 : gw_t1 cL_law_ 1918 := ⟨⟨by decide +kernel, rfl⟩, ⟨by decide +kernel, rfl⟩, ⟨by decide +kernel, rfl⟩, ⟨by decide +kernel, rfl⟩⟩
theorem t2_1929 : gw_t2 cL_law_ 1929 327 := ⟨⟨by decide +kernel, rfl⟩, ⟨by decide +kernel, rfl⟩, ⟨by decide +kernel, rfl⟩, ⟨by decide +kernel, rfl⟩, ⟨by decide +kernel, rfl⟩, ⟨by decide +kernel, rfl⟩, ⟨by decide +kernel, rfl⟩, ⟨by decide +kernel, rfl⟩, ⟨by decide +kernel, rfl⟩, ⟨by decide +kernel, rfl⟩⟩
theorem dL_law__1949 : gw_dc cL_law_ 1949 (.aload_n 1) 1 1950 := ⟨by decide +kernel, rfl⟩
theorem ag_1950 : gw_ag cL_law_ 1950 1 := ⟨⟨by decide +kernel, rfl⟩, ⟨by decide +kernel, rfl⟩, ⟨by decide +kernel, rfl⟩, ⟨by decide +kernel, rfl⟩, ⟨by decide +kernel, rfl⟩⟩
theorem ag_1956 : gw_ag cL_law_ 1956 2 := ⟨⟨by decide +kernel, rfl⟩, ⟨by decide +kernel, rfl⟩, ⟨by decide +kernel, rfl⟩, ⟨by decide +kernel, rfl⟩, ⟨by decide +kernel, rfl⟩⟩
theorem ag_1962 : gw_ag cL_law_ 1962 3 := ⟨⟨by decide +kernel, rfl⟩, ⟨by decide +kernel, rfl⟩, ⟨by decide +kernel, rfl⟩, ⟨by decide +kernel, rfl⟩, ⟨by decide +kernel, rfl⟩⟩
theorem ms_RL_229 : gw_mst RL 229 yL_tray := ⟨gw_mem 1359 (by decide +kernel) rfl, gw_mem 1360 (by decide +kernel) rfl⟩
theorem dL_law__1968 : gw_dc cL_law_ 1968 (.invokestatic 229) 3 1971 := ⟨by decide +kernel, rfl⟩
theorem dL_law__1971 : gw_dc cL_law_ 1971 (.istore 5) 2 1973 := ⟨by decide +kernel, rfl⟩
theorem dL_law__1973 : gw_dc cL_law_ 1973 (.aload_n 2) 1 1974 := ⟨by decide +kernel, rfl⟩
theorem ag_1974 : gw_ag cL_law_ 1974 1 := ⟨⟨by decide +kernel, rfl⟩, ⟨by decide +kernel, rfl⟩, ⟨by decide +kernel, rfl⟩, ⟨by decide +kernel, rfl⟩, ⟨by decide +kernel, rfl⟩⟩
theorem ag_1980 : gw_ag cL_law_ 1980 2 := ⟨⟨by decide +kernel, rfl⟩, ⟨by decide +kernel, rfl⟩, ⟨by decide +kernel, rfl⟩, ⟨by decide +kernel, rfl⟩, ⟨by decide +kernel, rfl⟩⟩
theorem ag_1986 : gw_ag cL_law_ 1986 3 := ⟨⟨by decide +kernel, rfl⟩, ⟨by decide +kernel, rfl⟩, ⟨by decide +kernel, rfl⟩, ⟨by decide +kernel, rfl⟩, ⟨by decide +kernel, rfl⟩⟩
theorem mv_RL_232 : gw_mv RL 232 yX11_tray := ⟨gw_mem 1957 (by decide +kernel) rfl, gw_mem 1958 (by decide +kernel) rfl, gw_mem 1959 (by decide +kernel) rfl⟩
theorem my_X11_tray : gw_my yX11_tray cX11_tray 5 none 3 := ⟨gw_mem 1960 (by decide +kernel) rfl, gw_mem 106 (by decide +kernel) rfl, by decide +kernel, by decide⟩
theorem dL_law__1992 : gw_dc cL_law_ 1992 (.invokevirtual 232) 3 1995 := ⟨by decide +kernel, rfl⟩
theorem t1_1995 : gw_t1 cL_law_ 1995 := ⟨⟨by decide +kernel, rfl⟩, ⟨by decide +kernel, rfl⟩, ⟨by decide +kernel, rfl⟩, ⟨by decide +kernel, rfl⟩⟩
theorem dL_law__2006 : gw_dc cL_law_ 2006 (.goto 267) 3 2009 := ⟨by decide +kernel, rfl⟩
section LW
variable {X : Cx} {G : Gl} {L : Nat} {xs : Nat → Int32} {Z : State → Prop} {kc ks : Nat} {ad : Nat → Nat} {σ : Sg} {i : Nat} {a b c : Option AV}
set_option maxRecDepth 4000 in
theorem law_31 (fx : gw_FX X FL G) (nc : gw_NC (cS X)) (sc : gw_SC X G L xs) (hR : Rel σ σ) (hi : i + 6 ≤ L) (hb : kc + 4 ≤ 601024 ∧ ks + 24 ≤ 7293034) (kk : ∀ kc2 ks2 σ2 a b c, kc2 ≤ kc + 4 → ks2 ≤ ks + 24 → Rel σ2 σ2 → gw_W X FL G Z kc2 ks2 (gw_M0 ad) σ2 2273 (lsL i a b c) []) : gw_W X FL G Z kc ks (gw_M0 ad) σ 1845 (lsL i a b c) [] := by
  refine g_aload_n fx dL_law__1845 rfl ?_
  refine g_arg 1 fx sc ag_1846 (by decide) hi ?_
  refine g_arg 2 fx sc ag_1852 (by decide) hi ?_
  refine g_arg 3 fx sc ag_1858 (by decide) hi ?_
  refine g_arg 4 fx sc ag_1864 (by decide) hi ?_
  refine g_arg 5 fx sc ag_1870 (by decide) hi ?_
  refine g_aload_n fx dL_law__1876 rfl ?_
  refine g_callSH fx nc dL_law__1877 ms_RL_225 myH_L_days (w_days ad σ ((xs (i + 1)).toInt) ((xs (i + 2)).toInt) ((xs (i + 3)).toInt) ((xs (i + 4)).toInt) ((xs (i + 5)).toInt) (al_days hR ((xs (i + 1)).toInt) ((xs (i + 2)).toInt) ((xs (i + 3)).toInt) ((xs (i + 4)).toInt) ((xs (i + 5)).toInt)).mem) rfl rfl (Nat.le_of_ble_eq_true rfl) (by decide) ⟨by show _ ≤ 601024; omega, by show _ ≤ 7293034; omega⟩ (fun E hE => hE.elim) (fun r M2 σ2 hq _ => ?_)
  obtain ⟨rfl, ⟨h0, rfl, rfl⟩ | ⟨j, E, hE, hj, rfl, rfl⟩⟩ := hq
  · show gw_W X FL G Z _ _ _ _ _ _ (vI 0 :: [])
    have hR1 := hR.out (z := ((zDays σ ((xs (i + 1)).toInt) ((xs (i + 2)).toInt) ((xs (i + 3)).toInt) ((xs (i + 4)).toInt)).2.2.2)) (oz_days σ ((xs (i + 1)).toInt) ((xs (i + 2)).toInt) ((xs (i + 3)).toInt) ((xs (i + 4)).toInt)) ((if ((xs (i + 5)).toInt) = 0 then (zDays σ ((xs (i + 1)).toInt) ((xs (i + 2)).toInt) ((xs (i + 3)).toInt) ((xs (i + 4)).toInt)).1 else if ((xs (i + 5)).toInt) = 1 then (zDays σ ((xs (i + 1)).toInt) ((xs (i + 2)).toInt) ((xs (i + 3)).toInt) ((xs (i + 4)).toInt)).2.1 else (zDays σ ((xs (i + 1)).toInt) ((xs (i + 2)).toInt) ((xs (i + 3)).toInt) ((xs (i + 4)).toInt)).2.2.1))
    have al := al_days hR1 ((xs (i + 1)).toInt) ((xs (i + 2)).toInt) ((xs (i + 3)).toInt) ((xs (i + 4)).toInt) ((xs (i + 5)).toInt)
    rw [h0] at al
    obtain ⟨h5, h8, hR2⟩ := al.fin8 (on_days _ ((xs (i + 1)).toInt) ((xs (i + 2)).toInt) ((xs (i + 3)).toInt) ((xs (i + 4)).toInt) ((xs (i + 5)).toInt) 300)
    refine g_istore fx dL_law__1880 (by decide) rfl rfl ?_
    refine g_aload_n fx dL_law__1882 rfl ?_
    refine g_arg 1 fx sc ag_1883 (by decide) hi ?_
    refine g_arg 2 fx sc ag_1889 (by decide) hi ?_
    refine g_arg 3 fx sc ag_1895 (by decide) hi ?_
    refine g_arg 4 fx sc ag_1901 (by decide) hi ?_
    refine g_arg 5 fx sc ag_1907 (by decide) hi ?_
    refine g_callVD fx dL_law__1913 mv_RL_228 my_X11_days (s_X11_days ad _ ((xs (i + 1)).toInt) ((xs (i + 2)).toInt) ((xs (i + 3)).toInt) ((xs (i + 4)).toInt) ((xs (i + 5)).toInt) 300 rfl hR1.tw) o_223 rfl rfl rfl (Nat.le_of_ble_eq_true rfl) (by decide) ⟨by show _ ≤ 601024; omega, by show _ ≤ 7293034; omega⟩ ?_
    refine g_istore fx dL_law__1916 (by decide) rfl rfl ?_
    refine g_t1 fx t1_1918 ⟨by show _ ≤ 601024; omega, by show _ ≤ 7293034; omega⟩ h5 ?_
    exact g_t2 (tgt := 2273) fx t2_1929 (by decide) (fun h => h8) (kk _ _ _ _ _ _ (by omega) (by omega) hR2)
  · show gw_W X FL G Z _ _ _ _ _ _ (vI (((j : Nat) : Int) + 1) :: [])
    obtain ⟨h5, hR2⟩ := (al_days hR ((xs (i + 1)).toInt) ((xs (i + 2)).toInt) ((xs (i + 3)).toInt) ((xs (i + 4)).toInt) ((xs (i + 5)).toInt)).thr hE hj (by decide) (on_days _ ((xs (i + 1)).toInt) ((xs (i + 2)).toInt) ((xs (i + 3)).toInt) ((xs (i + 4)).toInt) ((xs (i + 5)).toInt) 300)
    refine g_istore fx dL_law__1880 (by decide) rfl rfl ?_
    refine g_aload_n fx dL_law__1882 rfl ?_
    refine g_arg 1 fx sc ag_1883 (by decide) hi ?_
    refine g_arg 2 fx sc ag_1889 (by decide) hi ?_
    refine g_arg 3 fx sc ag_1895 (by decide) hi ?_
    refine g_arg 4 fx sc ag_1901 (by decide) hi ?_
    refine g_arg 5 fx sc ag_1907 (by decide) hi ?_
    refine g_callVD fx dL_law__1913 mv_RL_228 my_X11_days (s_X11_days ad _ ((xs (i + 1)).toInt) ((xs (i + 2)).toInt) ((xs (i + 3)).toInt) ((xs (i + 4)).toInt) ((xs (i + 5)).toInt) 300 rfl hR.tw) o_223 rfl rfl rfl (Nat.le_of_ble_eq_true rfl) (by decide) ⟨by show _ ≤ 601024; omega, by show _ ≤ 7293034; omega⟩ ?_
    refine g_istore fx dL_law__1916 (by decide) rfl rfl ?_
    refine g_t1 fx t1_1918 ⟨by show _ ≤ 601024; omega, by show _ ≤ 7293034; omega⟩ h5 ?_
    exact g_t2 (tgt := 2273) fx t2_1929 (by decide) (fun h => absurd h (by omega)) (kk _ _ _ _ _ _ (by omega) (by omega) hR2)
set_option maxRecDepth 4000 in
theorem law_32 (fx : gw_FX X FL G) (nc : gw_NC (cS X)) (sc : gw_SC X G L xs) (hR : Rel σ σ) (hi : i + 6 ≤ L) (hb : kc + 4 ≤ 601024 ∧ ks + 24 ≤ 7293034) (kk : ∀ kc2 ks2 σ2 a b c, kc2 ≤ kc + 4 → ks2 ≤ ks + 24 → Rel σ2 σ2 → gw_W X FL G Z kc2 ks2 (gw_M0 ad) σ2 2273 (lsL i a b c) []) : gw_W X FL G Z kc ks (gw_M0 ad) σ 1949 (lsL i a b c) [] := by
  refine g_aload_n fx dL_law__1949 rfl ?_
  refine g_arg 1 fx sc ag_1950 (by decide) hi ?_
  refine g_arg 2 fx sc ag_1956 (by decide) hi ?_
  refine g_arg 3 fx sc ag_1962 (by decide) hi ?_
  refine g_callSH fx nc dL_law__1968 ms_RL_229 myH_L_tray (w_tray ad σ ((xs (i + 1)).toInt) ((xs (i + 2)).toInt) ((xs (i + 3)).toInt) (al_tray hR ((xs (i + 1)).toInt) ((xs (i + 2)).toInt) ((xs (i + 3)).toInt)).mem) rfl rfl (Nat.le_of_ble_eq_true rfl) (by decide) ⟨by show _ ≤ 601024; omega, by show _ ≤ 7293034; omega⟩ (fun E hE => hE.elim) (fun r M2 σ2 hq _ => ?_)
  obtain ⟨rfl, ⟨h0, rfl, rfl⟩ | ⟨j, E, hE, hj, rfl, rfl⟩⟩ := hq
  · show gw_W X FL G Z _ _ _ _ _ _ (vI 0 :: [])
    have hR1 := hR.oz (z := (yFill (su (su σ (trT ((xs (i + 1)).toInt)) 1 ((xs (i + 2)).toInt)) (trT ((xs (i + 1)).toInt)) 2 ((xs (i + 3)).toInt)) (trT ((xs (i + 1)).toInt) + 1) 60)) (oz_tray σ (orN h0))
    have al := al_tray hR1 ((xs (i + 1)).toInt) ((xs (i + 2)).toInt) ((xs (i + 3)).toInt)
    rw [h0] at al
    obtain ⟨h5, -, hR2⟩ := al.fin (on_tray _ ((xs (i + 1)).toInt) ((xs (i + 2)).toInt) ((xs (i + 3)).toInt) 60) (fun _ _ _ => rfl)
    refine g_istore fx dL_law__1971 (by decide) rfl rfl ?_
    refine g_aload_n fx dL_law__1973 rfl ?_
    refine g_arg 1 fx sc ag_1974 (by decide) hi ?_
    refine g_arg 2 fx sc ag_1980 (by decide) hi ?_
    refine g_arg 3 fx sc ag_1986 (by decide) hi ?_
    refine g_callVD0 fx dL_law__1992 mv_RL_232 my_X11_tray (s_X11_tray ad _ ((xs (i + 1)).toInt) ((xs (i + 2)).toInt) ((xs (i + 3)).toInt) 60 rfl) o_223 rfl rfl rfl (Nat.le_of_ble_eq_true rfl) (by decide) ⟨by show _ ≤ 601024; omega, by show _ ≤ 7293034; omega⟩ ?_
    refine g_t1 fx t1_1995 ⟨by show _ ≤ 601024; omega, by show _ ≤ 7293034; omega⟩ h5 ?_
    exact g_goto (tgt := 2273) fx dL_law__2006 (by decide) (kk _ _ _ _ _ _ (by omega) (by omega) hR2)
  · show gw_W X FL G Z _ _ _ _ _ _ (vI (((j : Nat) : Int) + 1) :: [])
    obtain ⟨h5, hR2⟩ := (al_tray hR ((xs (i + 1)).toInt) ((xs (i + 2)).toInt) ((xs (i + 3)).toInt)).thr hE hj (by decide) (on_tray _ ((xs (i + 1)).toInt) ((xs (i + 2)).toInt) ((xs (i + 3)).toInt) 60)
    refine g_istore fx dL_law__1971 (by decide) rfl rfl ?_
    refine g_aload_n fx dL_law__1973 rfl ?_
    refine g_arg 1 fx sc ag_1974 (by decide) hi ?_
    refine g_arg 2 fx sc ag_1980 (by decide) hi ?_
    refine g_arg 3 fx sc ag_1986 (by decide) hi ?_
    refine g_callVD0 fx dL_law__1992 mv_RL_232 my_X11_tray (s_X11_tray ad _ ((xs (i + 1)).toInt) ((xs (i + 2)).toInt) ((xs (i + 3)).toInt) 60 rfl) o_223 rfl rfl rfl (Nat.le_of_ble_eq_true rfl) (by decide) ⟨by show _ ≤ 601024; omega, by show _ ≤ 7293034; omega⟩ ?_
    refine g_t1 fx t1_1995 ⟨by show _ ≤ 601024; omega, by show _ ≤ 7293034; omega⟩ h5 ?_
    exact g_goto (tgt := 2273) fx dL_law__2006 (by decide) (kk _ _ _ _ _ _ (by omega) (by omega) hR2)
end LW
