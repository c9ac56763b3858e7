theorem dX11_readRule_0 : gw_dc cX11_readRule 0 (.aload_n 0) 1 1 := ⟨by decide +kernel, rfl⟩
theorem dX11_readRule_1 : gw_dc cX11_readRule 1 (.ldc 230) 2 3 := ⟨by decide +kernel, rfl⟩
theorem dX11_readRule_3 : gw_dc cX11_readRule 3 (.invokevirtual 151) 3 6 := ⟨by decide +kernel, rfl⟩
theorem dX11_readRule_6 : gw_dc cX11_readRule 6 (.ifCond .eq 23) 3 9 := ⟨by decide +kernel, rfl⟩
theorem dX11_readRule_29 : gw_dc cX11_readRule 29 (.aload_n 0) 1 30 := ⟨by decide +kernel, rfl⟩
theorem dX11_readRule_30 : gw_dc cX11_readRule 30 (.ldc 237) 2 32 := ⟨by decide +kernel, rfl⟩
theorem dX11_readRule_32 : gw_dc cX11_readRule 32 (.invokevirtual 151) 3 35 := ⟨by decide +kernel, rfl⟩
theorem dX11_readRule_35 : gw_dc cX11_readRule 35 (.ifCond .eq 20) 3 38 := ⟨by decide +kernel, rfl⟩
theorem dX11_readRule_55 : gw_dc cX11_readRule 55 (.aload_n 0) 1 56 := ⟨by decide +kernel, rfl⟩
theorem dX11_readRule_56 : gw_dc cX11_readRule 56 (.iconst 2) 1 57 := ⟨by decide +kernel, rfl⟩
theorem dX11_readRule_57 : gw_dc cX11_readRule 57 (.invokevirtual 143) 3 60 := ⟨by decide +kernel, rfl⟩
theorem dX11_readRule_60 : gw_dc cX11_readRule 60 (.aload_n 0) 1 61 := ⟨by decide +kernel, rfl⟩
theorem dX11_readRule_61 : gw_dc cX11_readRule 61 (.invokevirtual 185) 3 64 := ⟨by decide +kernel, rfl⟩
theorem dX11_readRule_64 : decode cX11_readRule 64 = .ok (.return_, 1) := by decide +kernel
theorem dX11_readRule_38 : gw_dc cX11_readRule 38 (.aload_n 0) 1 39 := ⟨by decide +kernel, rfl⟩
theorem dX11_readRule_39 : gw_dc cX11_readRule 39 (.getfield 13) 3 42 := ⟨by decide +kernel, rfl⟩
theorem dX11_readRule_42 : gw_dc cX11_readRule 42 (.bipush 17) 2 44 := ⟨by decide +kernel, rfl⟩
theorem dX11_readRule_44 : gw_dc cX11_readRule 44 (.aload_n 0) 1 45 := ⟨by decide +kernel, rfl⟩
theorem dX11_readRule_45 : gw_dc cX11_readRule 45 (.iconst 0) 1 46 := ⟨by decide +kernel, rfl⟩
theorem dX11_readRule_46 : gw_dc cX11_readRule 46 (.bipush 99) 2 48 := ⟨by decide +kernel, rfl⟩
theorem dX11_readRule_48 : gw_dc cX11_readRule 48 (.invokevirtual 154) 3 51 := ⟨by decide +kernel, rfl⟩
theorem dX11_readRule_51 : gw_dc cX11_readRule 51 (.iastore) 1 52 := ⟨by decide +kernel, rfl⟩
theorem dX11_readRule_52 : gw_dc cX11_readRule 52 (.goto 8) 3 55 := ⟨by decide +kernel, rfl⟩
theorem dX11_readRule_9 : gw_dc cX11_readRule 9 (.aload_n 0) 1 10 := ⟨by decide +kernel, rfl⟩
theorem dX11_readRule_10 : gw_dc cX11_readRule 10 (.invokevirtual 232) 3 13 := ⟨by decide +kernel, rfl⟩
theorem mv_RX11_232 : gw_mv RX11 232 yX11_readKey := ⟨gw_mem 1651 (by decide +kernel) rfl, gw_mem 1653 (by decide +kernel) rfl, gw_mem 53 (by decide +kernel) rfl⟩
theorem my_X11_readKey : gw_my yX11_readKey cX11_readKey 2 none 0 := ⟨gw_mem 1654 (by decide +kernel) rfl, gw_mem 106 (by decide +kernel) rfl, by decide +kernel, by decide⟩
theorem dX11_readRule_13 : gw_dc cX11_readRule 13 (.aload_n 0) 1 14 := ⟨by decide +kernel, rfl⟩
theorem dX11_readRule_14 : gw_dc cX11_readRule 14 (.ldc 235) 2 16 := ⟨by decide +kernel, rfl⟩
theorem dX11_readRule_16 : gw_dc cX11_readRule 16 (.invokevirtual 151) 3 19 := ⟨by decide +kernel, rfl⟩
theorem dX11_readRule_19 : gw_dc cX11_readRule 19 (.ifCond .eq 41) 3 22 := ⟨by decide +kernel, rfl⟩
theorem dX11_readRule_22 : gw_dc cX11_readRule 22 (.aload_n 0) 1 23 := ⟨by decide +kernel, rfl⟩
theorem dX11_readRule_23 : gw_dc cX11_readRule 23 (.invokevirtual 232) 3 26 := ⟨by decide +kernel, rfl⟩
theorem dX11_readRule_26 : gw_dc cX11_readRule 26 (.goto (-13)) 3 29 := ⟨by decide +kernel, rfl⟩
/-! The model, 7: rules -/
theorem nRd_b (σ : Sg) : σ 223 9 ≤ nRd σ 223 10 := by
  have hw : σ 223 9 ≤ nWs σ := (wsp_rg (σ 223 8) (tpF σ) (σ 223 8 - σ 223 9).toNat (σ 223 9)).1
  have e : ∀ t bg tk v, mk4 σ t bg tk v 223 10 = bg := fun t bg tk v => rfl
  rw [nRd]; (repeat' split) <;> (rw [e]; exact hw)
theorem nRk_10 {y : Sg} (h : Rk y) : y 223 10 ≤ nRk y 223 10 := by
  have e1 : ∀ j, j ≠ 13 ∧ j ≠ 14 → nRk1 y 223 j = y 223 j := by
    intro j hj; rw [nRk1]; split; exact nBl_ne _ _ (Or.inr hj); rfl
  have e : ∀ j, j ≠ 13 ∧ j ≠ 14 → nRk2 y 223 j = y 223 j := by
    intro j hj; rw [nRk2]; split
    · rw [nBl_ne _ _ (Or.inr hj)]; exact e1 j hj
    · exact e1 j hj
  rw [nRk]; split
  · rw [e 10 (by decide)]; omega
  · have h1 := nRd_b (nRk4 y)
    rw [nRk4, su_ne _ _ (Or.inl (by decide)), nRk3, su_ne _ _ (Or.inl (by decide)), e 9 (by decide)] at h1
    have := h.2.1
    rw [nRk4, nRk3]; omega
/-- a word that is taken moves the reader on -/
theorem nTak_10 {x : Sg} (h : Rk x) {j : Nat} (hj : 0 < (gw_wd j).length) (hs : nSp x j ≠ 0) : x 223 10 < nTak x j 223 10 := by
  obtain ⟨h1, h2, h3, h4⟩ := h
  have h0 : nSp0 x j ≠ 0 := fun e => hs (nSpS_z x j _ e)
  have hl := nSp0_l h0
  rw [wr_id (by unfold okI; omega)] at hl
  have hb := nRd_b x
  rw [nTak, if_neg hs]; omega
def nTh : Nat → Sg → Sg
  | 0, x => x
  | n + 1, x => if nSp x 10 = 0 then nTak x 10 else nTh n (nRk (nTak x 10))
theorem Rk_th : ∀ n {x : Sg}, Rk x → Rk (nTh n x) := by
  intro n
  induction n with
  | zero => exact fun h => h
  | succ n ih => intro x h; rw [nTh]; split; exact Rk_tak h _; exact ih (Rk_rk (Rk_tak h _))
def nRb (σ : Sg) : Sg :=
  if nSp σ 9 ≠ 0 then nTh 901 (nRk (nTak σ 9))
  else if nSp (nTak σ 9) 11 ≠ 0 then su (nNm2 (nTak (nTak σ 9) 11) 0 99) 225 17 (nNum (nTak (nTak σ 9) 11) 0 99)
  else nBl (nTak (nTak σ 9) 11) 2
theorem Rk_rb {σ : Sg} (h : Rk σ) : Rk (nRb σ) := by
  have h1 := Rk_tak h 9
  have h2 := Rk_tak h1 11
  rw [nRb]; split
  · exact Rk_th _ (Rk_rk h1)
  · split
    · exact Rk_su (Rk_num h2 _ _) _ (by decide)
    · exact Rk_bl h2 _
def nRl (σ : Sg) : Sg := nEnds (nRb σ)
set_option maxRecDepth 4000 in
theorem s_X11_readRule (ad : Nat → Nat) (σ : Sg)  (hR : Rk σ) (hF : 0 ≤ σ 225 8 ∧ σ 225 8 ≤ 8) : gw_Sp yX11_readRule cX11_readRule 1 none 8 0 0 [vR (some 223)] (gw_M0 ad) σ (gw_D none (gw_M0 ad) (nRl σ)) gw_no := by
  refine gw_Sp.of [some (vR (some 223))] (by decide +kernel) rfl (Nat.le_of_ble_eq_true rfl) ?_
  intro X G fx het hnm
  refine g_aload_n fx dX11_readRule_0 rfl ?_
  refine g_ldcS fx dX11_readRule_1 (by decide +kernel : (RX11, 230, "by", 9) ∈ gw_strT) ?_
  refine g_callVD fx dX11_readRule_3 mv_RX11_151 my_X11_took (s_X11_took ad _ 9 (by decide) hR) o_223 rfl rfl rfl (Nat.le_of_ble_eq_true rfl) (by decide) (by decide) ?_
  refine g_if_eq (tgt := 29) fx dX11_readRule_6 (by decide) (fun h6 => ?_) (fun h6 => ?_)
  · refine g_aload_n fx dX11_readRule_29 rfl ?_
    refine g_ldcS fx dX11_readRule_30 (by decide +kernel : (RX11, 237, "small", 11) ∈ gw_strT) ?_
    refine g_callVD fx dX11_readRule_32 mv_RX11_151 my_X11_took (s_X11_took ad _ 11 (by decide) (Rk_tak hR 9)) o_223 rfl rfl rfl (Nat.le_of_ble_eq_true rfl) (by decide) (by decide) ?_
    refine g_if_eq (tgt := 55) fx dX11_readRule_35 (by decide) (fun h35 => ?_) (fun h35 => ?_)
    · refine g_aload_n fx dX11_readRule_55 rfl ?_
      refine g_iconst fx dX11_readRule_56 (by unfold okI; omega) ?_
      refine g_callVD0 fx dX11_readRule_57 mv_RX11_143 my_X11_blames (s_X11_blames ad _ _) o_223 rfl rfl rfl (Nat.le_of_ble_eq_true rfl) (by decide) (by decide) ?_
      refine gw_cg (σ' := nRb σ) (by first | (rw [nRb, if_pos (by assumption), he, nTh, if_pos (by assumption)]) | (rw [nRb]; (repeat first | rw [if_pos (by omega)] | rw [if_neg (by omega)]) <;> rfl)) rfl ?_
      refine g_aload_n fx dX11_readRule_60 rfl ?_
      refine g_callVD0 fx dX11_readRule_61 mv_RX11_185 my_X11_ends (s_X11_ends ad _ (Rk_rb hR)) o_223 rfl rfl rfl (Nat.le_of_ble_eq_true rfl) (by decide) (by decide) ?_
      exact g_vret fx rfl dX11_readRule_64 (by decide) (by decide) (gw_le.rf _) ⟨rfl, rfl, rfl⟩
    · refine g_aload_n fx dX11_readRule_38 rfl ?_
      refine g_getr fx dX11_readRule_39 fk_RX11_13 o_223 rf_223_1 ?_
      refine g_bipush fx dX11_readRule_42 (by decide) ?_
      refine g_aload_n fx dX11_readRule_44 rfl ?_
      refine g_iconst fx dX11_readRule_45 (by unfold okI; omega) ?_
      refine g_bipush fx dX11_readRule_46 (by decide) ?_
      refine g_callVD fx dX11_readRule_48 mv_RX11_154 my_X11_number (s_X11_number ad _ _ _ (Rk_tak (Rk_tak hR 9) 11)) o_223 rfl rfl rfl (Nat.le_of_ble_eq_true rfl) (by decide) (by decide) ?_
      refine g_iast fx dX11_readRule_51 o_225 (by decide) (by decide) ?_
      refine g_goto (tgt := 60) fx dX11_readRule_52 (by decide) ?_
      refine gw_cg (σ' := nRb σ) (by first | (rw [nRb, if_pos (by assumption), he, nTh, if_pos (by assumption)]) | (rw [nRb]; (repeat first | rw [if_pos (by omega)] | rw [if_neg (by omega)]) <;> rfl)) rfl ?_
      refine g_aload_n fx dX11_readRule_60 rfl ?_
      refine g_callVD0 fx dX11_readRule_61 mv_RX11_185 my_X11_ends (s_X11_ends ad _ (Rk_rb hR)) o_223 rfl rfl rfl (Nat.le_of_ble_eq_true rfl) (by decide) (by decide) ?_
      exact g_vret fx rfl dX11_readRule_64 (by decide) (by decide) (gw_le.rf _) ⟨rfl, rfl, rfl⟩
  · refine g_aload_n fx dX11_readRule_9 rfl ?_
    refine g_callVD0 fx dX11_readRule_10 mv_RX11_232 my_X11_readKey (s_X11_readKey ad _ (Rk_tak hR 9) (by rw [nTak_ne _ _ (by decide)]; exact hF)) o_223 rfl rfl rfl (Nat.le_of_ble_eq_true rfl) (by decide) (by decide) ?_
    have loop13 : ∀ n : Nat, ∀ x : Sg, Rk x → (0 ≤ x 225 8 ∧ x 225 8 ≤ 8) → 900 - x 223 10 < (n : Nat) → nTh 901 (nRk (nTak σ 9)) = nTh n x → gw_W X (yX11_readRule.cls, cX11_readRule, 1, none, 8, 0, 0) G (gw_Z X G (gw_M0 ad) σ (gw_D none (gw_M0 ad) (nRl σ)) gw_no 0 0) 0 0 (gw_M0 ad) (x) 13 [some (vR (some 223))] [] := by
      refine dn_ind _ (fun n ih => ?_)
      intro x hRx h8x hbx he
      obtain ⟨m, rfl⟩ : ∃ m, n = m + 1 := ⟨n - 1, by have := hRx.2.1; have := hRx.2.2.1; omega⟩
      have ih := ih m rfl
      refine g_aload_n fx dX11_readRule_13 rfl ?_
      refine g_ldcS fx dX11_readRule_14 (by decide +kernel : (RX11, 235, "then", 10) ∈ gw_strT) ?_
      refine g_callVD fx dX11_readRule_16 mv_RX11_151 my_X11_took (s_X11_took ad _ 10 (by decide) hRx) o_223 rfl rfl rfl (Nat.le_of_ble_eq_true rfl) (by decide) (by decide) ?_
      refine g_if_eq (tgt := 60) fx dX11_readRule_19 (by decide) (fun h19 => ?_) (fun h19 => ?_)
      · refine gw_cg (σ' := nRb σ) (by first | (rw [nRb, if_pos (by assumption), he, nTh, if_pos (by assumption)]) | (rw [nRb]; (repeat first | rw [if_pos (by omega)] | rw [if_neg (by omega)]) <;> rfl)) rfl ?_
        refine g_aload_n fx dX11_readRule_60 rfl ?_
        refine g_callVD0 fx dX11_readRule_61 mv_RX11_185 my_X11_ends (s_X11_ends ad _ (Rk_rb hR)) o_223 rfl rfl rfl (Nat.le_of_ble_eq_true rfl) (by decide) (by decide) ?_
        exact g_vret fx rfl dX11_readRule_64 (by decide) (by decide) (gw_le.rf _) ⟨rfl, rfl, rfl⟩
      · refine g_aload_n fx dX11_readRule_22 rfl ?_
        refine g_callVD0 fx dX11_readRule_23 mv_RX11_232 my_X11_readKey (s_X11_readKey ad _ (Rk_tak hRx 10) (by rw [nTak_ne _ _ (by decide)]; exact h8x)) o_223 rfl rfl rfl (Nat.le_of_ble_eq_true rfl) (by decide) (by decide) ?_
        refine g_goto (tgt := 13) fx dX11_readRule_26 (by decide) ?_
        exact gw_cg rfl rfl (ih _ (Rk_rk (Rk_tak hRx 10)) (nRk_8 (by rw [nTak_ne _ _ (by decide)]; exact h8x)) (by have h1 := nTak_10 hRx (j := 10) (by decide) (by assumption); have h2 := nRk_10 (Rk_tak hRx 10); omega) (by rw [he, nTh, if_neg (by assumption)]))
    exact loop13 901 _ (Rk_rk (Rk_tak hR 9)) (nRk_8 (by rw [nTak_ne _ _ (by decide)]; exact hF)) (by have := (Rk_rk (Rk_tak hR 9)).1; omega) rfl
