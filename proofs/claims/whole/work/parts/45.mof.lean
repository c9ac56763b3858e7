theorem dX11_readLine_0 : gw_dc cX11_readLine 0 (.aload_n 0) 1 1 := ⟨by decide +kernel, rfl⟩
theorem dX11_readLine_1 : gw_dc cX11_readLine 1 (.ldc 171) 2 3 := ⟨by decide +kernel, rfl⟩
theorem dX11_readLine_3 : gw_dc cX11_readLine 3 (.invokevirtual 136) 3 6 := ⟨by decide +kernel, rfl⟩
theorem dX11_readLine_6 : gw_dc cX11_readLine 6 (.ifCond .eq 10) 3 9 := ⟨by decide +kernel, rfl⟩
theorem dX11_readLine_16 : gw_dc cX11_readLine 16 (.aload_n 0) 1 17 := ⟨by decide +kernel, rfl⟩
theorem dX11_readLine_17 : gw_dc cX11_readLine 17 (.ldc 176) 2 19 := ⟨by decide +kernel, rfl⟩
theorem dX11_readLine_19 : gw_dc cX11_readLine 19 (.invokevirtual 151) 3 22 := ⟨by decide +kernel, rfl⟩
theorem dX11_readLine_22 : gw_dc cX11_readLine 22 (.ifCond .eq 19) 3 25 := ⟨by decide +kernel, rfl⟩
theorem dX11_readLine_41 : gw_dc cX11_readLine 41 (.aload_n 0) 1 42 := ⟨by decide +kernel, rfl⟩
theorem dX11_readLine_42 : gw_dc cX11_readLine 42 (.ldc 178) 2 44 := ⟨by decide +kernel, rfl⟩
theorem dX11_readLine_44 : gw_dc cX11_readLine 44 (.invokevirtual 151) 3 47 := ⟨by decide +kernel, rfl⟩
theorem dX11_readLine_47 : gw_dc cX11_readLine 47 (.ifCond .eq 19) 3 50 := ⟨by decide +kernel, rfl⟩
theorem dX11_readLine_66 : gw_dc cX11_readLine 66 (.aload_n 0) 1 67 := ⟨by decide +kernel, rfl⟩
theorem dX11_readLine_67 : gw_dc cX11_readLine 67 (.ldc 180) 2 69 := ⟨by decide +kernel, rfl⟩
theorem dX11_readLine_69 : gw_dc cX11_readLine 69 (.invokevirtual 136) 3 72 := ⟨by decide +kernel, rfl⟩
theorem dX11_readLine_72 : gw_dc cX11_readLine 72 (.ifCond .eq 10) 3 75 := ⟨by decide +kernel, rfl⟩
theorem dX11_readLine_82 : gw_dc cX11_readLine 82 (.aload_n 0) 1 83 := ⟨by decide +kernel, rfl⟩
theorem dX11_readLine_83 : gw_dc cX11_readLine 83 (.iconst 2) 1 84 := ⟨by decide +kernel, rfl⟩
theorem dX11_readLine_84 : gw_dc cX11_readLine 84 (.invokevirtual 143) 3 87 := ⟨by decide +kernel, rfl⟩
theorem dX11_readLine_87 : gw_dc cX11_readLine 87 (.aload_n 0) 1 88 := ⟨by decide +kernel, rfl⟩
theorem dX11_readLine_88 : gw_dc cX11_readLine 88 (.invokevirtual 185) 3 91 := ⟨by decide +kernel, rfl⟩
theorem mv_RX11_185 : gw_mv RX11 185 yX11_ends := ⟨gw_mem 1631 (by decide +kernel) rfl, gw_mem 1633 (by decide +kernel) rfl, gw_mem 50 (by decide +kernel) rfl⟩
theorem my_X11_ends : gw_my yX11_ends cX11_ends 1 none 0 := ⟨gw_mem 1634 (by decide +kernel) rfl, gw_mem 106 (by decide +kernel) rfl, by decide +kernel, by decide⟩
theorem dX11_readLine_91 : gw_dc cX11_readLine 91 (.aload_n 0) 1 92 := ⟨by decide +kernel, rfl⟩
theorem dX11_readLine_92 : gw_dc cX11_readLine 92 (.getfield 120) 3 95 := ⟨by decide +kernel, rfl⟩
theorem dX11_readLine_95 : gw_dc cX11_readLine 95 (.ifCond .ne 13) 3 98 := ⟨by decide +kernel, rfl⟩
theorem dX11_readLine_108 : decode cX11_readLine 108 = .ok (.return_, 1) := by decide +kernel
theorem dX11_readLine_98 : gw_dc cX11_readLine 98 (.aload_n 0) 1 99 := ⟨by decide +kernel, rfl⟩
theorem dX11_readLine_99 : gw_dc cX11_readLine 99 (.getfield 13) 3 102 := ⟨by decide +kernel, rfl⟩
theorem dX11_readLine_102 : gw_dc cX11_readLine 102 (.iconst 0) 1 103 := ⟨by decide +kernel, rfl⟩
theorem dX11_readLine_103 : gw_dc cX11_readLine 103 (.dup2) 1 104 := ⟨by decide +kernel, rfl⟩
theorem dX11_readLine_104 : gw_dc cX11_readLine 104 (.iaload) 1 105 := ⟨by decide +kernel, rfl⟩
theorem dX11_readLine_105 : gw_dc cX11_readLine 105 (.iconst 1) 1 106 := ⟨by decide +kernel, rfl⟩
theorem dX11_readLine_106 : gw_dc cX11_readLine 106 (.iadd) 1 107 := ⟨by decide +kernel, rfl⟩
theorem dX11_readLine_107 : gw_dc cX11_readLine 107 (.iastore) 1 108 := ⟨by decide +kernel, rfl⟩
theorem dX11_readLine_75 : gw_dc cX11_readLine 75 (.aload_n 0) 1 76 := ⟨by decide +kernel, rfl⟩
theorem dX11_readLine_76 : gw_dc cX11_readLine 76 (.invokevirtual 182) 3 79 := ⟨by decide +kernel, rfl⟩
theorem mv_RX11_182 : gw_mv RX11 182 yX11_readSack := ⟨gw_mem 1618 (by decide +kernel) rfl, gw_mem 1620 (by decide +kernel) rfl, gw_mem 48 (by decide +kernel) rfl⟩
theorem my_X11_readSack : gw_my yX11_readSack cX11_readSack 8 none 0 := ⟨gw_mem 1621 (by decide +kernel) rfl, gw_mem 106 (by decide +kernel) rfl, by decide +kernel, by decide⟩
theorem dX11_readLine_79 : gw_dc cX11_readLine 79 (.goto 8) 3 82 := ⟨by decide +kernel, rfl⟩
theorem dX11_readLine_50 : gw_dc cX11_readLine 50 (.aload_n 0) 1 51 := ⟨by decide +kernel, rfl⟩
theorem dX11_readLine_51 : gw_dc cX11_readLine 51 (.getfield 13) 3 54 := ⟨by decide +kernel, rfl⟩
theorem dX11_readLine_54 : gw_dc cX11_readLine 54 (.iconst 3) 1 55 := ⟨by decide +kernel, rfl⟩
theorem dX11_readLine_55 : gw_dc cX11_readLine 55 (.aload_n 0) 1 56 := ⟨by decide +kernel, rfl⟩
theorem dX11_readLine_56 : gw_dc cX11_readLine 56 (.iconst 0) 1 57 := ⟨by decide +kernel, rfl⟩
theorem dX11_readLine_57 : gw_dc cX11_readLine 57 (.bipush 99) 2 59 := ⟨by decide +kernel, rfl⟩
theorem dX11_readLine_59 : gw_dc cX11_readLine 59 (.invokevirtual 154) 3 62 := ⟨by decide +kernel, rfl⟩
theorem dX11_readLine_62 : gw_dc cX11_readLine 62 (.iastore) 1 63 := ⟨by decide +kernel, rfl⟩
theorem dX11_readLine_63 : gw_dc cX11_readLine 63 (.goto 24) 3 66 := ⟨by decide +kernel, rfl⟩
theorem dX11_readLine_25 : gw_dc cX11_readLine 25 (.aload_n 0) 1 26 := ⟨by decide +kernel, rfl⟩
theorem dX11_readLine_26 : gw_dc cX11_readLine 26 (.getfield 13) 3 29 := ⟨by decide +kernel, rfl⟩
theorem dX11_readLine_29 : gw_dc cX11_readLine 29 (.iconst 2) 1 30 := ⟨by decide +kernel, rfl⟩
theorem dX11_readLine_30 : gw_dc cX11_readLine 30 (.aload_n 0) 1 31 := ⟨by decide +kernel, rfl⟩
theorem dX11_readLine_31 : gw_dc cX11_readLine 31 (.iconst 0) 1 32 := ⟨by decide +kernel, rfl⟩
theorem dX11_readLine_32 : gw_dc cX11_readLine 32 (.bipush 60) 2 34 := ⟨by decide +kernel, rfl⟩
theorem dX11_readLine_34 : gw_dc cX11_readLine 34 (.invokevirtual 154) 3 37 := ⟨by decide +kernel, rfl⟩
theorem dX11_readLine_37 : gw_dc cX11_readLine 37 (.iastore) 1 38 := ⟨by decide +kernel, rfl⟩
theorem dX11_readLine_38 : gw_dc cX11_readLine 38 (.goto 49) 3 41 := ⟨by decide +kernel, rfl⟩
theorem dX11_readLine_9 : gw_dc cX11_readLine 9 (.aload_n 0) 1 10 := ⟨by decide +kernel, rfl⟩
theorem dX11_readLine_10 : gw_dc cX11_readLine 10 (.invokevirtual 173) 3 13 := ⟨by decide +kernel, rfl⟩
theorem mv_RX11_173 : gw_mv RX11 173 yX11_readStone := ⟨gw_mem 1599 (by decide +kernel) rfl, gw_mem 1601 (by decide +kernel) rfl, gw_mem 44 (by decide +kernel) rfl⟩
theorem my_X11_readStone : gw_my yX11_readStone cX11_readStone 2 none 0 := ⟨gw_mem 1602 (by decide +kernel) rfl, gw_mem 106 (by decide +kernel) rfl, by decide +kernel, by decide⟩
theorem dX11_readLine_13 : gw_dc cX11_readLine 13 (.goto 74) 3 16 := ⟨by decide +kernel, rfl⟩
/-! The model, 6: lines, rules -/
theorem Rk_stnF {σ : Sg} (h : Rk σ) : Rk (nStn σ) := by
  have h2 : Rk (nStn2 σ) := Rk_num (Rk_rd' (Rk_stn h)) _ _
  rw [nStn]; split
  · exact Rk_stn h
  · split
    · exact h2
    · exact Rk_su (Rk_su h2 _ (by decide)) _ (by decide)
theorem Rk_sk {σ : Sg} (h : Rk σ) : Rk (nSk σ) := by
  have h1 : Rk (nz1 σ) := Rk_su (Rk_q6 h) _ (by decide)
  have h2 : Rk (nz2 σ) := Rk_su h1 _ (by decide)
  have h3 : Rk (nz3 σ) := Rk_su h2 _ (by decide)
  have h4 : Rk (nz4 σ) := Rk_su h3 _ (by decide)
  have h5 : Rk (nz5 σ) := Rk_su h4 _ (by decide)
  have h6 : Rk (nz6 σ) := Rk_su h5 _ (by decide)
  have h7 : Rk (nz7 σ) := Rk_su h6 _ (by decide)
  have h8 : Rk (nz8 σ) := Rk_su h7 _ (by decide)
  have h9 : Rk (nz9 σ) := Rk_su h8 _ (by decide)
  rw [nSk]; split
  · exact Rk_q0 h
  · split
    · exact Rk_q6 h
    · exact Rk_su h9 _ (by decide)
def nLb (σ : Sg) : Sg :=
  if nSp σ 0 ≠ 0 then nStn σ
  else if nSp σ 1 ≠ 0 then su (nNm2 (nTak σ 1) 0 60) 225 2 (nNum (nTak σ 1) 0 60)
  else if nSp (nTak σ 1) 2 ≠ 0 then su (nNm2 (nTak (nTak σ 1) 2) 0 99) 225 3 (nNum (nTak (nTak σ 1) 2) 0 99)
  else if nSp (nTak (nTak σ 1) 2) 3 ≠ 0 then nSk (nTak (nTak σ 1) 2)
  else nBl (nTak (nTak σ 1) 2) 2
theorem Rk_lb {σ : Sg} (h : Rk σ) : Rk (nLb σ) := by
  have h1 := Rk_tak h 1
  have h2 := Rk_tak h1 2
  rw [nLb]; split
  · exact Rk_stnF h
  · split
    · exact Rk_su (Rk_num h1 _ _) _ (by decide)
    · split
      · exact Rk_su (Rk_num h2 _ _) _ (by decide)
      · split
        · exact Rk_sk h2
        · exact Rk_bl h2 _
def nLn (σ : Sg) : Sg := if nEnds (nLb σ) 223 13 = 0 then su (nEnds (nLb σ)) 225 0 (wr (nEnds (nLb σ) 225 0 + 1)) else nEnds (nLb σ)
theorem Rk_ln {σ : Sg} (h : Rk σ) : Rk (nLn σ) := by
  rw [nLn]; split
  · exact Rk_su (Rk_ends (Rk_lb h)) _ (by decide)
  · exact Rk_ends (Rk_lb h)
theorem nBl_13 (σ : Sg) {w : Int} (hw : w ≠ 0) : nBl σ w 223 13 ≠ 0 := by
  rw [nBl]; split
  · assumption
  · rw [su_ne _ _ (Or.inr (by decide)), su_same]; split; decide; exact hw
theorem Rk_rk {σ : Sg} (h : Rk σ) : Rk (nRk σ) := by
  rw [nRk]; split
  · exact Rk_rk2 h
  · exact Rk_rd' (Rk_rk4 h)
theorem nRk_8 {σ : Sg} (h : 0 ≤ σ 225 8 ∧ σ 225 8 ≤ 8) : 0 ≤ nRk σ 225 8 ∧ nRk σ 225 8 ≤ 8 := by
  rw [nRk]; split
  · rw [nRk_ne _ (by decide)]; exact h
  · next hb =>
    have h1 : nRk1 σ 225 8 = σ 225 8 := by rw [nRk1]; split; exact nBl_ne _ _ (Or.inl (by decide)); rfl
    have h8 : σ 225 8 ≠ 8 := fun e => by
      rw [nRk2, if_pos (h1.trans e)] at hb
      exact hb (nBl_13 _ (by decide))
    have h3 : nRk3 σ 225 8 = σ 225 8 := by
      have e2 := nRk_ne σ (a := 225) (by decide) 8
      rw [nRk3, su_ne _ _ (Or.inr (by rw [e2]; omega)), e2]
    rw [nRd_ne _ (by decide), nRk4, su_same, h3, wr_id (by unfold okI; omega)]
    omega
set_option maxRecDepth 4000 in
theorem s_X11_readLine (ad : Nat → Nat) (σ : Sg)  (hR : Rk σ) (hF1 : 0 ≤ σ 225 1 ∧ σ 225 1 ≤ 3) (hF4 : 0 ≤ σ 225 4 ∧ σ 225 4 ≤ 24) : gw_Sp yX11_readLine cX11_readLine 1 none 9 0 0 [vR (some 223)] (gw_M0 ad) σ (gw_D none (gw_M0 ad) (nLn σ)) gw_no := by
  refine gw_Sp.of [some (vR (some 223))] (by decide +kernel) rfl (Nat.le_of_ble_eq_true rfl) ?_
  intro X G fx het hnm
  refine g_aload_n fx dX11_readLine_0 rfl ?_
  refine g_ldcS fx dX11_readLine_1 (by decide +kernel : (RX11, 171, "stone", 0) ∈ gw_strT) ?_
  refine g_callVD fx dX11_readLine_3 mv_RX11_136 my_X11_isWord (s_X11_isWord ad _ 0 (by decide) (by first | exact hR | exact Rk_tak (Rk_tak hR 1) 2)) o_223 rfl rfl rfl (Nat.le_of_ble_eq_true rfl) (by decide) (by decide) ?_
  refine g_if_eq (tgt := 16) fx dX11_readLine_6 (by decide) (fun h6 => ?_) (fun h6 => ?_)
  · refine g_aload_n fx dX11_readLine_16 rfl ?_
    refine g_ldcS fx dX11_readLine_17 (by decide +kernel : (RX11, 176, "clean", 1) ∈ gw_strT) ?_
    refine g_callVD fx dX11_readLine_19 mv_RX11_151 my_X11_took (s_X11_took ad _ 1 (by decide) (by first | exact hR | exact Rk_tak hR 1)) o_223 rfl rfl rfl (Nat.le_of_ble_eq_true rfl) (by decide) (by decide) ?_
    refine g_if_eq (tgt := 41) fx dX11_readLine_22 (by decide) (fun h22 => ?_) (fun h22 => ?_)
    · refine g_aload_n fx dX11_readLine_41 rfl ?_
      refine g_ldcS fx dX11_readLine_42 (by decide +kernel : (RX11, 178, "fee", 2) ∈ gw_strT) ?_
      refine g_callVD fx dX11_readLine_44 mv_RX11_151 my_X11_took (s_X11_took ad _ 2 (by decide) (by first | exact hR | exact Rk_tak hR 1)) o_223 rfl rfl rfl (Nat.le_of_ble_eq_true rfl) (by decide) (by decide) ?_
      refine g_if_eq (tgt := 66) fx dX11_readLine_47 (by decide) (fun h47 => ?_) (fun h47 => ?_)
      · refine g_aload_n fx dX11_readLine_66 rfl ?_
        refine g_ldcS fx dX11_readLine_67 (by decide +kernel : (RX11, 180, "sack", 3) ∈ gw_strT) ?_
        refine g_callVD fx dX11_readLine_69 mv_RX11_136 my_X11_isWord (s_X11_isWord ad _ 3 (by decide) (by first | exact hR | exact Rk_tak (Rk_tak hR 1) 2)) o_223 rfl rfl rfl (Nat.le_of_ble_eq_true rfl) (by decide) (by decide) ?_
        refine g_if_eq (tgt := 82) fx dX11_readLine_72 (by decide) (fun h72 => ?_) (fun h72 => ?_)
        · refine g_aload_n fx dX11_readLine_82 rfl ?_
          refine g_iconst fx dX11_readLine_83 (by unfold okI; omega) ?_
          refine g_callVD0 fx dX11_readLine_84 mv_RX11_143 my_X11_blames (s_X11_blames ad _ _) o_223 rfl rfl rfl (Nat.le_of_ble_eq_true rfl) (by decide) (by decide) ?_
          refine gw_cg (σ' := nLb σ) (by rw [nLb]; (repeat first | rw [if_pos (by omega)] | rw [if_neg (by omega)]) <;> rfl) rfl ?_
          refine g_aload_n fx dX11_readLine_87 rfl ?_
          refine g_callVD0 fx dX11_readLine_88 mv_RX11_185 my_X11_ends (s_X11_ends ad _ (Rk_lb hR)) o_223 rfl rfl rfl (Nat.le_of_ble_eq_true rfl) (by decide) (by decide) ?_
          refine g_aload_n fx dX11_readLine_91 rfl ?_
          refine g_geti fx dX11_readLine_92 fk_RX11_120 (by decide) o_223 ?_
          refine g_if_ne (tgt := 108) fx dX11_readLine_95 (by decide) (fun h95 => ?_) (fun h95 => ?_)
          · exact g_vret fx rfl dX11_readLine_108 (by decide) (by decide) (gw_le.rf _) ⟨rfl, rfl, by rw [nLn]; (repeat first | rw [if_pos (by omega)] | rw [if_neg (by omega)]) <;> rfl⟩
          · refine g_aload_n fx dX11_readLine_98 rfl ?_
            refine g_getr fx dX11_readLine_99 fk_RX11_13 o_223 rf_223_1 ?_
            refine g_iconst fx dX11_readLine_102 (by unfold okI; omega) ?_
            refine g_dup2 fx dX11_readLine_103 rfl rfl ?_
            refine g_iald fx dX11_readLine_104 o_225 (by decide) (by decide) ?_
            refine g_iconst fx dX11_readLine_105 (by unfold okI; omega) ?_
            refine g_iadd fx dX11_readLine_106 ?_
            refine g_iast fx dX11_readLine_107 o_225 (by decide) (by decide) ?_
            exact g_vret fx rfl dX11_readLine_108 (by decide) (by decide) (gw_le.rf _) ⟨rfl, rfl, by rw [nLn]; (repeat first | rw [if_pos (by omega)] | rw [if_neg (by omega)]) <;> rfl⟩
        · refine g_aload_n fx dX11_readLine_75 rfl ?_
          refine g_callVD0 fx dX11_readLine_76 mv_RX11_182 my_X11_readSack (s_X11_readSack ad _ (Rk_tak (Rk_tak hR 1) 2) (by rw [nTak_ne _ _ (by decide), nTak_ne _ _ (by decide)]; exact hF4)) o_223 rfl rfl rfl (Nat.le_of_ble_eq_true rfl) (by decide) (by decide) ?_
          refine g_goto (tgt := 87) fx dX11_readLine_79 (by decide) ?_
          refine gw_cg (σ' := nLb σ) (by rw [nLb]; (repeat first | rw [if_pos (by omega)] | rw [if_neg (by omega)]) <;> rfl) rfl ?_
          refine g_aload_n fx dX11_readLine_87 rfl ?_
          refine g_callVD0 fx dX11_readLine_88 mv_RX11_185 my_X11_ends (s_X11_ends ad _ (Rk_lb hR)) o_223 rfl rfl rfl (Nat.le_of_ble_eq_true rfl) (by decide) (by decide) ?_
          refine g_aload_n fx dX11_readLine_91 rfl ?_
          refine g_geti fx dX11_readLine_92 fk_RX11_120 (by decide) o_223 ?_
          refine g_if_ne (tgt := 108) fx dX11_readLine_95 (by decide) (fun h95 => ?_) (fun h95 => ?_)
          · exact g_vret fx rfl dX11_readLine_108 (by decide) (by decide) (gw_le.rf _) ⟨rfl, rfl, by rw [nLn]; (repeat first | rw [if_pos (by omega)] | rw [if_neg (by omega)]) <;> rfl⟩
          · refine g_aload_n fx dX11_readLine_98 rfl ?_
            refine g_getr fx dX11_readLine_99 fk_RX11_13 o_223 rf_223_1 ?_
            refine g_iconst fx dX11_readLine_102 (by unfold okI; omega) ?_
            refine g_dup2 fx dX11_readLine_103 rfl rfl ?_
            refine g_iald fx dX11_readLine_104 o_225 (by decide) (by decide) ?_
            refine g_iconst fx dX11_readLine_105 (by unfold okI; omega) ?_
            refine g_iadd fx dX11_readLine_106 ?_
            refine g_iast fx dX11_readLine_107 o_225 (by decide) (by decide) ?_
            exact g_vret fx rfl dX11_readLine_108 (by decide) (by decide) (gw_le.rf _) ⟨rfl, rfl, by rw [nLn]; (repeat first | rw [if_pos (by omega)] | rw [if_neg (by omega)]) <;> rfl⟩
      · refine g_aload_n fx dX11_readLine_50 rfl ?_
        refine g_getr fx dX11_readLine_51 fk_RX11_13 o_223 rf_223_1 ?_
        refine g_iconst fx dX11_readLine_54 (by unfold okI; omega) ?_
        refine g_aload_n fx dX11_readLine_55 rfl ?_
        refine g_iconst fx dX11_readLine_56 (by unfold okI; omega) ?_
        refine g_bipush fx dX11_readLine_57 (by decide) ?_
        refine g_callVD fx dX11_readLine_59 mv_RX11_154 my_X11_number (s_X11_number ad _ _ _ (by first | exact Rk_tak hR 1 | exact Rk_tak (Rk_tak hR 1) 2)) o_223 rfl rfl rfl (Nat.le_of_ble_eq_true rfl) (by decide) (by decide) ?_
        refine g_iast fx dX11_readLine_62 o_225 (by decide) (by decide) ?_
        refine g_goto (tgt := 87) fx dX11_readLine_63 (by decide) ?_
        refine gw_cg (σ' := nLb σ) (by rw [nLb]; (repeat first | rw [if_pos (by omega)] | rw [if_neg (by omega)]) <;> rfl) rfl ?_
        refine g_aload_n fx dX11_readLine_87 rfl ?_
        refine g_callVD0 fx dX11_readLine_88 mv_RX11_185 my_X11_ends (s_X11_ends ad _ (Rk_lb hR)) o_223 rfl rfl rfl (Nat.le_of_ble_eq_true rfl) (by decide) (by decide) ?_
        refine g_aload_n fx dX11_readLine_91 rfl ?_
        refine g_geti fx dX11_readLine_92 fk_RX11_120 (by decide) o_223 ?_
        refine g_if_ne (tgt := 108) fx dX11_readLine_95 (by decide) (fun h95 => ?_) (fun h95 => ?_)
        · exact g_vret fx rfl dX11_readLine_108 (by decide) (by decide) (gw_le.rf _) ⟨rfl, rfl, by rw [nLn]; (repeat first | rw [if_pos (by omega)] | rw [if_neg (by omega)]) <;> rfl⟩
        · refine g_aload_n fx dX11_readLine_98 rfl ?_
          refine g_getr fx dX11_readLine_99 fk_RX11_13 o_223 rf_223_1 ?_
          refine g_iconst fx dX11_readLine_102 (by unfold okI; omega) ?_
          refine g_dup2 fx dX11_readLine_103 rfl rfl ?_
          refine g_iald fx dX11_readLine_104 o_225 (by decide) (by decide) ?_
          refine g_iconst fx dX11_readLine_105 (by unfold okI; omega) ?_
          refine g_iadd fx dX11_readLine_106 ?_
          refine g_iast fx dX11_readLine_107 o_225 (by decide) (by decide) ?_
          exact g_vret fx rfl dX11_readLine_108 (by decide) (by decide) (gw_le.rf _) ⟨rfl, rfl, by rw [nLn]; (repeat first | rw [if_pos (by omega)] | rw [if_neg (by omega)]) <;> rfl⟩
    · refine g_aload_n fx dX11_readLine_25 rfl ?_
      refine g_getr fx dX11_readLine_26 fk_RX11_13 o_223 rf_223_1 ?_
      refine g_iconst fx dX11_readLine_29 (by unfold okI; omega) ?_
      refine g_aload_n fx dX11_readLine_30 rfl ?_
      refine g_iconst fx dX11_readLine_31 (by unfold okI; omega) ?_
      refine g_bipush fx dX11_readLine_32 (by decide) ?_
      refine g_callVD fx dX11_readLine_34 mv_RX11_154 my_X11_number (s_X11_number ad _ _ _ (by first | exact Rk_tak hR 1 | exact Rk_tak (Rk_tak hR 1) 2)) o_223 rfl rfl rfl (Nat.le_of_ble_eq_true rfl) (by decide) (by decide) ?_
      refine g_iast fx dX11_readLine_37 o_225 (by decide) (by decide) ?_
      refine g_goto (tgt := 87) fx dX11_readLine_38 (by decide) ?_
      refine gw_cg (σ' := nLb σ) (by rw [nLb]; (repeat first | rw [if_pos (by omega)] | rw [if_neg (by omega)]) <;> rfl) rfl ?_
      refine g_aload_n fx dX11_readLine_87 rfl ?_
      refine g_callVD0 fx dX11_readLine_88 mv_RX11_185 my_X11_ends (s_X11_ends ad _ (Rk_lb hR)) o_223 rfl rfl rfl (Nat.le_of_ble_eq_true rfl) (by decide) (by decide) ?_
      refine g_aload_n fx dX11_readLine_91 rfl ?_
      refine g_geti fx dX11_readLine_92 fk_RX11_120 (by decide) o_223 ?_
      refine g_if_ne (tgt := 108) fx dX11_readLine_95 (by decide) (fun h95 => ?_) (fun h95 => ?_)
      · exact g_vret fx rfl dX11_readLine_108 (by decide) (by decide) (gw_le.rf _) ⟨rfl, rfl, by rw [nLn]; (repeat first | rw [if_pos (by omega)] | rw [if_neg (by omega)]) <;> rfl⟩
      · refine g_aload_n fx dX11_readLine_98 rfl ?_
        refine g_getr fx dX11_readLine_99 fk_RX11_13 o_223 rf_223_1 ?_
        refine g_iconst fx dX11_readLine_102 (by unfold okI; omega) ?_
        refine g_dup2 fx dX11_readLine_103 rfl rfl ?_
        refine g_iald fx dX11_readLine_104 o_225 (by decide) (by decide) ?_
        refine g_iconst fx dX11_readLine_105 (by unfold okI; omega) ?_
        refine g_iadd fx dX11_readLine_106 ?_
        refine g_iast fx dX11_readLine_107 o_225 (by decide) (by decide) ?_
        exact g_vret fx rfl dX11_readLine_108 (by decide) (by decide) (gw_le.rf _) ⟨rfl, rfl, by rw [nLn]; (repeat first | rw [if_pos (by omega)] | rw [if_neg (by omega)]) <;> rfl⟩
  · refine g_aload_n fx dX11_readLine_9 rfl ?_
    refine g_callVD0 fx dX11_readLine_10 mv_RX11_173 my_X11_readStone (s_X11_readStone ad _ hR hF1) o_223 rfl rfl rfl (Nat.le_of_ble_eq_true rfl) (by decide) (by decide) ?_
    refine g_goto (tgt := 87) fx dX11_readLine_13 (by decide) ?_
    refine gw_cg (σ' := nLb σ) (by rw [nLb]; (repeat first | rw [if_pos (by omega)] | rw [if_neg (by omega)]) <;> rfl) rfl ?_
    refine g_aload_n fx dX11_readLine_87 rfl ?_
    refine g_callVD0 fx dX11_readLine_88 mv_RX11_185 my_X11_ends (s_X11_ends ad _ (Rk_lb hR)) o_223 rfl rfl rfl (Nat.le_of_ble_eq_true rfl) (by decide) (by decide) ?_
    refine g_aload_n fx dX11_readLine_91 rfl ?_
    refine g_geti fx dX11_readLine_92 fk_RX11_120 (by decide) o_223 ?_
    refine g_if_ne (tgt := 108) fx dX11_readLine_95 (by decide) (fun h95 => ?_) (fun h95 => ?_)
    · exact g_vret fx rfl dX11_readLine_108 (by decide) (by decide) (gw_le.rf _) ⟨rfl, rfl, by rw [nLn]; (repeat first | rw [if_pos (by omega)] | rw [if_neg (by omega)]) <;> rfl⟩
    · refine g_aload_n fx dX11_readLine_98 rfl ?_
      refine g_getr fx dX11_readLine_99 fk_RX11_13 o_223 rf_223_1 ?_
      refine g_iconst fx dX11_readLine_102 (by unfold okI; omega) ?_
      refine g_dup2 fx dX11_readLine_103 rfl rfl ?_
      refine g_iald fx dX11_readLine_104 o_225 (by decide) (by decide) ?_
      refine g_iconst fx dX11_readLine_105 (by unfold okI; omega) ?_
      refine g_iadd fx dX11_readLine_106 ?_
      refine g_iast fx dX11_readLine_107 o_225 (by decide) (by decide) ?_
      exact g_vret fx rfl dX11_readLine_108 (by decide) (by decide) (gw_le.rf _) ⟨rfl, rfl, by rw [nLn]; (repeat first | rw [if_pos (by omega)] | rw [if_neg (by omega)]) <;> rfl⟩
