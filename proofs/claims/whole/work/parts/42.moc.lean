theorem dX11_isWord_0 : gw_dc cX11_isWord 0 (.aload_n 0) 1 1 := ⟨by decide +kernel, rfl⟩
theorem dX11_isWord_1 : gw_dc cX11_isWord 1 (.getfield 120) 3 4 := ⟨by decide +kernel, rfl⟩
theorem dX11_isWord_4 : gw_dc cX11_isWord 4 (.ifCond .ne 31) 3 7 := ⟨by decide +kernel, rfl⟩
theorem dX11_isWord_35 : gw_dc cX11_isWord 35 (.iconst 0) 1 36 := ⟨by decide +kernel, rfl⟩
theorem dX11_isWord_36 : gw_dc cX11_isWord 36 (.istore_n 2) 1 37 := ⟨by decide +kernel, rfl⟩
theorem dX11_isWord_37 : gw_dc cX11_isWord 37 (.iconst 0) 1 38 := ⟨by decide +kernel, rfl⟩
theorem dX11_isWord_38 : gw_dc cX11_isWord 38 (.istore_n 3) 1 39 := ⟨by decide +kernel, rfl⟩
theorem dX11_isWord_39 : gw_dc cX11_isWord 39 (.iload_n 2) 1 40 := ⟨by decide +kernel, rfl⟩
theorem dX11_isWord_40 : gw_dc cX11_isWord 40 (.ifCond .eq 42) 3 43 := ⟨by decide +kernel, rfl⟩
theorem dX11_isWord_82 : gw_dc cX11_isWord 82 (.iload_n 2) 1 83 := ⟨by decide +kernel, rfl⟩
theorem dX11_isWord_83 : decode cX11_isWord 83 = .ok (.ireturn, 1) := by decide +kernel
theorem dX11_isWord_43 : gw_dc cX11_isWord 43 (.iload_n 3) 1 44 := ⟨by decide +kernel, rfl⟩
theorem dX11_isWord_44 : gw_dc cX11_isWord 44 (.aload_n 1) 1 45 := ⟨by decide +kernel, rfl⟩
theorem dX11_isWord_45 : gw_dc cX11_isWord 45 (.invokevirtual 126) 3 48 := ⟨by decide +kernel, rfl⟩
theorem mv_RX11_126 : gw_mv RX11 126 yJ0_length_8abf5 := ⟨gw_mem 1597 (by decide +kernel) rfl, gw_mem 860 (by decide +kernel) rfl, gw_mem 861 (by decide +kernel) rfl⟩
theorem dX11_isWord_48 : gw_dc cX11_isWord 48 (.if_icmp .ge 34) 3 51 := ⟨by decide +kernel, rfl⟩
theorem dX11_isWord_51 : gw_dc cX11_isWord 51 (.aload_n 0) 1 52 := ⟨by decide +kernel, rfl⟩
theorem dX11_isWord_52 : gw_dc cX11_isWord 52 (.getfield 26) 3 55 := ⟨by decide +kernel, rfl⟩
theorem dX11_isWord_55 : gw_dc cX11_isWord 55 (.aload_n 0) 1 56 := ⟨by decide +kernel, rfl⟩
theorem dX11_isWord_56 : gw_dc cX11_isWord 56 (.getfield 100) 3 59 := ⟨by decide +kernel, rfl⟩
theorem dX11_isWord_59 : gw_dc cX11_isWord 59 (.iload_n 3) 1 60 := ⟨by decide +kernel, rfl⟩
theorem dX11_isWord_60 : gw_dc cX11_isWord 60 (.iadd) 1 61 := ⟨by decide +kernel, rfl⟩
theorem dX11_isWord_61 : gw_dc cX11_isWord 61 (.iaload) 1 62 := ⟨by decide +kernel, rfl⟩
theorem dX11_isWord_62 : gw_dc cX11_isWord 62 (.aload_n 1) 1 63 := ⟨by decide +kernel, rfl⟩
theorem dX11_isWord_63 : gw_dc cX11_isWord 63 (.iload_n 3) 1 64 := ⟨by decide +kernel, rfl⟩
theorem dX11_isWord_64 : gw_dc cX11_isWord 64 (.invokevirtual 132) 3 67 := ⟨by decide +kernel, rfl⟩
theorem mv_RX11_132 : gw_mv RX11 132 yJ0_charAt_5068e := ⟨gw_mem 1598 (by decide +kernel) rfl, gw_mem 870 (by decide +kernel) rfl, gw_mem 871 (by decide +kernel) rfl⟩
theorem dX11_isWord_67 : gw_dc cX11_isWord 67 (.if_icmp .ne 7) 3 70 := ⟨by decide +kernel, rfl⟩
theorem dX11_isWord_74 : gw_dc cX11_isWord 74 (.iconst 0) 1 75 := ⟨by decide +kernel, rfl⟩
theorem dX11_isWord_75 : gw_dc cX11_isWord 75 (.istore_n 2) 1 76 := ⟨by decide +kernel, rfl⟩
theorem dX11_isWord_76 : gw_dc cX11_isWord 76 (.iinc 3 1) 3 79 := ⟨by decide +kernel, rfl⟩
theorem dX11_isWord_79 : gw_dc cX11_isWord 79 (.goto (-40)) 3 82 := ⟨by decide +kernel, rfl⟩
theorem dX11_isWord_70 : gw_dc cX11_isWord 70 (.iconst 1) 1 71 := ⟨by decide +kernel, rfl⟩
theorem dX11_isWord_71 : gw_dc cX11_isWord 71 (.goto 4) 3 74 := ⟨by decide +kernel, rfl⟩
theorem dX11_isWord_7 : gw_dc cX11_isWord 7 (.aload_n 0) 1 8 := ⟨by decide +kernel, rfl⟩
theorem dX11_isWord_8 : gw_dc cX11_isWord 8 (.getfield 103) 3 11 := ⟨by decide +kernel, rfl⟩
theorem dX11_isWord_11 : gw_dc cX11_isWord 11 (.iconst 1) 1 12 := ⟨by decide +kernel, rfl⟩
theorem dX11_isWord_12 : gw_dc cX11_isWord 12 (.if_icmp .ne 23) 3 15 := ⟨by decide +kernel, rfl⟩
theorem dX11_isWord_15 : gw_dc cX11_isWord 15 (.aload_n 0) 1 16 := ⟨by decide +kernel, rfl⟩
theorem dX11_isWord_16 : gw_dc cX11_isWord 16 (.getfield 97) 3 19 := ⟨by decide +kernel, rfl⟩
theorem dX11_isWord_19 : gw_dc cX11_isWord 19 (.aload_n 0) 1 20 := ⟨by decide +kernel, rfl⟩
theorem dX11_isWord_20 : gw_dc cX11_isWord 20 (.getfield 100) 3 23 := ⟨by decide +kernel, rfl⟩
theorem dX11_isWord_23 : gw_dc cX11_isWord 23 (.isub) 1 24 := ⟨by decide +kernel, rfl⟩
theorem dX11_isWord_24 : gw_dc cX11_isWord 24 (.aload_n 1) 1 25 := ⟨by decide +kernel, rfl⟩
theorem dX11_isWord_25 : gw_dc cX11_isWord 25 (.invokevirtual 126) 3 28 := ⟨by decide +kernel, rfl⟩
theorem dX11_isWord_28 : gw_dc cX11_isWord 28 (.if_icmp .ne 7) 3 31 := ⟨by decide +kernel, rfl⟩
theorem dX11_isWord_31 : gw_dc cX11_isWord 31 (.iconst 1) 1 32 := ⟨by decide +kernel, rfl⟩
theorem dX11_isWord_32 : gw_dc cX11_isWord 32 (.goto 4) 3 35 := ⟨by decide +kernel, rfl⟩
theorem dX11_took_0 : gw_dc cX11_took 0 (.aload_n 0) 1 1 := ⟨by decide +kernel, rfl⟩
theorem dX11_took_1 : gw_dc cX11_took 1 (.aload_n 1) 1 2 := ⟨by decide +kernel, rfl⟩
theorem dX11_took_2 : gw_dc cX11_took 2 (.invokevirtual 136) 3 5 := ⟨by decide +kernel, rfl⟩
theorem mv_RX11_136 : gw_mv RX11 136 yX11_isWord := ⟨gw_mem 1593 (by decide +kernel) rfl, gw_mem 1595 (by decide +kernel) rfl, gw_mem 43 (by decide +kernel) rfl⟩
theorem my_X11_isWord : gw_my yX11_isWord cX11_isWord 4 (some .boolean) 1 := ⟨gw_mem 1596 (by decide +kernel) rfl, gw_mem 106 (by decide +kernel) rfl, by decide +kernel, by decide⟩
theorem dX11_took_5 : gw_dc cX11_took 5 (.istore_n 2) 1 6 := ⟨by decide +kernel, rfl⟩
theorem dX11_took_6 : gw_dc cX11_took 6 (.iload_n 2) 1 7 := ⟨by decide +kernel, rfl⟩
theorem dX11_took_7 : gw_dc cX11_took 7 (.ifCond .eq 7) 3 10 := ⟨by decide +kernel, rfl⟩
theorem dX11_took_14 : gw_dc cX11_took 14 (.iload_n 2) 1 15 := ⟨by decide +kernel, rfl⟩
theorem dX11_took_15 : decode cX11_took 15 = .ok (.ireturn, 1) := by decide +kernel
theorem dX11_took_10 : gw_dc cX11_took 10 (.aload_n 0) 1 11 := ⟨by decide +kernel, rfl⟩
theorem dX11_took_11 : gw_dc cX11_took 11 (.invokevirtual 140) 3 14 := ⟨by decide +kernel, rfl⟩
theorem mv_RX11_140 : gw_mv RX11 140 yX11_reads := ⟨gw_mem 1572 (by decide +kernel) rfl, gw_mem 1574 (by decide +kernel) rfl, gw_mem 40 (by decide +kernel) rfl⟩
theorem my_X11_reads : gw_my yX11_reads cX11_reads 2 none 0 := ⟨gw_mem 1575 (by decide +kernel) rfl, gw_mem 106 (by decide +kernel) rfl, by decide +kernel, by decide⟩
theorem dX11_number_0 : gw_dc cX11_number 0 (.aload_n 0) 1 1 := ⟨by decide +kernel, rfl⟩
theorem dX11_number_1 : gw_dc cX11_number 1 (.getfield 103) 3 4 := ⟨by decide +kernel, rfl⟩
theorem dX11_number_4 : gw_dc cX11_number 4 (.iconst 2) 1 5 := ⟨by decide +kernel, rfl⟩
theorem dX11_number_5 : gw_dc cX11_number 5 (.if_icmp .eq 11) 3 8 := ⟨by decide +kernel, rfl⟩
theorem dX11_number_16 : gw_dc cX11_number 16 (.aload_n 0) 1 17 := ⟨by decide +kernel, rfl⟩
theorem dX11_number_17 : gw_dc cX11_number 17 (.getfield 117) 3 20 := ⟨by decide +kernel, rfl⟩
theorem dX11_number_20 : gw_dc cX11_number 20 (.i2l) 1 21 := ⟨by decide +kernel, rfl⟩
theorem dX11_number_21 : gw_dc cX11_number 21 (.iload_n 1) 1 22 := ⟨by decide +kernel, rfl⟩
theorem dX11_number_22 : gw_dc cX11_number 22 (.i2l) 1 23 := ⟨by decide +kernel, rfl⟩
theorem dX11_number_23 : gw_dc cX11_number 23 (.iload_n 2) 1 24 := ⟨by decide +kernel, rfl⟩
theorem dX11_number_24 : gw_dc cX11_number 24 (.i2l) 1 25 := ⟨by decide +kernel, rfl⟩
theorem dX11_number_25 : gw_dc cX11_number 25 (.invokestatic 147) 3 28 := ⟨by decide +kernel, rfl⟩
theorem ms_RX11_147 : gw_mst RX11 147 yX11_within := ⟨gw_mem 1561 (by decide +kernel) rfl, gw_mem 1562 (by decide +kernel) rfl⟩
theorem my_X11_within : gw_my yX11_within cX11_within 6 (some .boolean) 3 := ⟨gw_mem 1563 (by decide +kernel) rfl, gw_mem 106 (by decide +kernel) rfl, by decide +kernel, by decide⟩
theorem dX11_number_28 : gw_dc cX11_number 28 (.ifCond .ne 8) 3 31 := ⟨by decide +kernel, rfl⟩
theorem dX11_number_36 : gw_dc cX11_number 36 (.aload_n 0) 1 37 := ⟨by decide +kernel, rfl⟩
theorem dX11_number_37 : gw_dc cX11_number 37 (.getfield 117) 3 40 := ⟨by decide +kernel, rfl⟩
theorem dX11_number_40 : gw_dc cX11_number 40 (.istore_n 3) 1 41 := ⟨by decide +kernel, rfl⟩
theorem dX11_number_41 : gw_dc cX11_number 41 (.aload_n 0) 1 42 := ⟨by decide +kernel, rfl⟩
theorem dX11_number_42 : gw_dc cX11_number 42 (.getfield 120) 3 45 := ⟨by decide +kernel, rfl⟩
theorem dX11_number_45 : gw_dc cX11_number 45 (.ifCond .ne 7) 3 48 := ⟨by decide +kernel, rfl⟩
theorem dX11_number_52 : gw_dc cX11_number 52 (.aload_n 0) 1 53 := ⟨by decide +kernel, rfl⟩
theorem dX11_number_53 : gw_dc cX11_number 53 (.getfield 120) 3 56 := ⟨by decide +kernel, rfl⟩
theorem dX11_number_56 : gw_dc cX11_number 56 (.ifCond .ne 7) 3 59 := ⟨by decide +kernel, rfl⟩
theorem dX11_number_63 : gw_dc cX11_number 63 (.iload_n 1) 1 64 := ⟨by decide +kernel, rfl⟩
theorem dX11_number_64 : decode cX11_number 64 = .ok (.ireturn, 1) := by decide +kernel
theorem dX11_number_59 : gw_dc cX11_number 59 (.iload_n 3) 1 60 := ⟨by decide +kernel, rfl⟩
theorem dX11_number_60 : gw_dc cX11_number 60 (.goto 4) 3 63 := ⟨by decide +kernel, rfl⟩
theorem dX11_number_48 : gw_dc cX11_number 48 (.aload_n 0) 1 49 := ⟨by decide +kernel, rfl⟩
theorem dX11_number_49 : gw_dc cX11_number 49 (.invokevirtual 140) 3 52 := ⟨by decide +kernel, rfl⟩
theorem dX11_number_31 : gw_dc cX11_number 31 (.aload_n 0) 1 32 := ⟨by decide +kernel, rfl⟩
theorem dX11_number_32 : gw_dc cX11_number 32 (.iconst 3) 1 33 := ⟨by decide +kernel, rfl⟩
theorem dX11_number_33 : gw_dc cX11_number 33 (.invokevirtual 143) 3 36 := ⟨by decide +kernel, rfl⟩
theorem mv_RX11_143 : gw_mv RX11 143 yX11_blames := ⟨gw_mem 1603 (by decide +kernel) rfl, gw_mem 1605 (by decide +kernel) rfl, gw_mem 45 (by decide +kernel) rfl⟩
theorem my_X11_blames : gw_my yX11_blames cX11_blames 2 none 1 := ⟨gw_mem 1606 (by decide +kernel) rfl, gw_mem 106 (by decide +kernel) rfl, by decide +kernel, by decide⟩
theorem dX11_number_8 : gw_dc cX11_number 8 (.aload_n 0) 1 9 := ⟨by decide +kernel, rfl⟩
theorem dX11_number_9 : gw_dc cX11_number 9 (.iconst 2) 1 10 := ⟨by decide +kernel, rfl⟩
theorem dX11_number_10 : gw_dc cX11_number 10 (.invokevirtual 143) 3 13 := ⟨by decide +kernel, rfl⟩
theorem dX11_number_13 : gw_dc cX11_number 13 (.goto 23) 3 16 := ⟨by decide +kernel, rfl⟩
theorem dX11_behind_0 : gw_dc cX11_behind 0 (.aload_n 0) 1 1 := ⟨by decide +kernel, rfl⟩
theorem dX11_behind_1 : gw_dc cX11_behind 1 (.aload_n 1) 1 2 := ⟨by decide +kernel, rfl⟩
theorem dX11_behind_2 : gw_dc cX11_behind 2 (.invokevirtual 151) 3 5 := ⟨by decide +kernel, rfl⟩
theorem mv_RX11_151 : gw_mv RX11 151 yX11_took := ⟨gw_mem 1612 (by decide +kernel) rfl, gw_mem 1614 (by decide +kernel) rfl, gw_mem 47 (by decide +kernel) rfl⟩
theorem my_X11_took : gw_my yX11_took cX11_took 3 (some .boolean) 1 := ⟨gw_mem 1615 (by decide +kernel) rfl, gw_mem 106 (by decide +kernel) rfl, by decide +kernel, by decide⟩
theorem dX11_behind_5 : gw_dc cX11_behind 5 (.ifCond .ne 8) 3 8 := ⟨by decide +kernel, rfl⟩
theorem dX11_behind_13 : gw_dc cX11_behind 13 (.aload_n 0) 1 14 := ⟨by decide +kernel, rfl⟩
theorem dX11_behind_14 : gw_dc cX11_behind 14 (.iload_n 2) 1 15 := ⟨by decide +kernel, rfl⟩
theorem dX11_behind_15 : gw_dc cX11_behind 15 (.iload_n 3) 1 16 := ⟨by decide +kernel, rfl⟩
theorem dX11_behind_16 : gw_dc cX11_behind 16 (.invokevirtual 154) 3 19 := ⟨by decide +kernel, rfl⟩
theorem mv_RX11_154 : gw_mv RX11 154 yX11_number := ⟨gw_mem 1607 (by decide +kernel) rfl, gw_mem 1609 (by decide +kernel) rfl, gw_mem 46 (by decide +kernel) rfl⟩
theorem my_X11_number : gw_my yX11_number cX11_number 4 (some .int) 2 := ⟨gw_mem 1610 (by decide +kernel) rfl, gw_mem 106 (by decide +kernel) rfl, by decide +kernel, by decide⟩
theorem dX11_behind_19 : decode cX11_behind 19 = .ok (.ireturn, 1) := by decide +kernel
theorem dX11_behind_8 : gw_dc cX11_behind 8 (.aload_n 0) 1 9 := ⟨by decide +kernel, rfl⟩
theorem dX11_behind_9 : gw_dc cX11_behind 9 (.iconst 2) 1 10 := ⟨by decide +kernel, rfl⟩
theorem dX11_behind_10 : gw_dc cX11_behind 10 (.invokevirtual 143) 3 13 := ⟨by decide +kernel, rfl⟩
theorem dX11_ends_0 : gw_dc cX11_ends 0 (.aload_n 0) 1 1 := ⟨by decide +kernel, rfl⟩
theorem dX11_ends_1 : gw_dc cX11_ends 1 (.getfield 103) 3 4 := ⟨by decide +kernel, rfl⟩
theorem dX11_ends_4 : gw_dc cX11_ends 4 (.iconst 3) 1 5 := ⟨by decide +kernel, rfl⟩
theorem dX11_ends_5 : gw_dc cX11_ends 5 (.if_icmp .eq 8) 3 8 := ⟨by decide +kernel, rfl⟩
theorem dX11_ends_13 : gw_dc cX11_ends 13 (.aload_n 0) 1 14 := ⟨by decide +kernel, rfl⟩
theorem dX11_ends_14 : gw_dc cX11_ends 14 (.getfield 120) 3 17 := ⟨by decide +kernel, rfl⟩
theorem dX11_ends_17 : gw_dc cX11_ends 17 (.ifCond .ne 7) 3 20 := ⟨by decide +kernel, rfl⟩
theorem dX11_ends_24 : decode cX11_ends 24 = .ok (.return_, 1) := by decide +kernel
theorem dX11_ends_20 : gw_dc cX11_ends 20 (.aload_n 0) 1 21 := ⟨by decide +kernel, rfl⟩
theorem dX11_ends_21 : gw_dc cX11_ends 21 (.invokevirtual 140) 3 24 := ⟨by decide +kernel, rfl⟩
theorem dX11_ends_8 : gw_dc cX11_ends 8 (.aload_n 0) 1 9 := ⟨by decide +kernel, rfl⟩
theorem dX11_ends_9 : gw_dc cX11_ends 9 (.iconst 2) 1 10 := ⟨by decide +kernel, rfl⟩
theorem dX11_ends_10 : gw_dc cX11_ends 10 (.invokevirtual 143) 3 13 := ⟨by decide +kernel, rfl⟩
/-! The model, 3: words, numbers -/
theorem wsp_rg (len : Int) (f : Int → Int) : ∀ n p, p ≤ wsp len f n p ∧ wsp len f n p ≤ max p len := by
  intro n
  induction n with
  | zero => intro p; rw [wsp]; omega
  | succ n ih => intro p; rw [wsp]; split; have := ih (p + 1); omega; omega
theorem ltp_rg (len : Int) (f : Int → Int) : ∀ n p, p ≤ ltp len f n p ∧ ltp len f n p ≤ max p len := by
  intro n
  induction n with
  | zero => intro p; rw [ltp]; omega
  | succ n ih => intro p; rw [ltp]; split; have := ih (p + 1); omega; omega
theorem dgp_rg (len : Int) (f : Int → Int) (fr : Int) : ∀ n v p, p ≤ (dgp len f fr n v p).2 ∧ (dgp len f fr n v p).2 ≤ max p len := by
  intro n
  induction n with
  | zero => intro v p; rw [dgp]; dsimp only; omega
  | succ n ih => intro v p; rw [dgp]; split; have := ih (if wr (p - fr) < 3 then wr (wr (wr (v * 10) + f p) - 48) else v) (p + 1); omega; dsimp only; omega
/-- the model's reader stands within the tape -/
def Rk (σ : Sg) : Prop := 0 ≤ σ 223 10 ∧ σ 223 10 ≤ σ 223 9 ∧ σ 223 9 ≤ 900 ∧ σ 223 8 ≤ 900
theorem Rk_mk {σ : Sg} {t bg tk v : Int} (h8 : σ 223 8 ≤ 900) (h : 0 ≤ bg ∧ bg ≤ t ∧ t ≤ 900) : Rk (mk4 σ t bg tk v) := ⟨h.1, h.2.1, h.2.2, h8⟩
theorem Rk_rd {σ : Sg} (h9 : 0 ≤ σ 223 9 ∧ σ 223 9 ≤ 900) (h8 : σ 223 8 ≤ 900) : Rk (nRd σ) := by
  have hw := wsp_rg (σ 223 8) (tpF σ) (σ 223 8 - σ 223 9).toNat (σ 223 9)
  have hl := ltp_rg (σ 223 8) (tpF σ) (σ 223 8 - nWs σ).toNat (nWs σ)
  have hd := dgp_rg (σ 223 8) (tpF σ) (nWs σ) (σ 223 8 - nWs σ).toNat 0 (nWs σ)
  have hw' : σ 223 9 ≤ nWs σ ∧ nWs σ ≤ max (σ 223 9) (σ 223 8) := hw
  have hl' : nWs σ ≤ nLt σ ∧ nLt σ ≤ max (nWs σ) (σ 223 8) := hl
  have hd' : nWs σ ≤ (nDg σ).2 ∧ (nDg σ).2 ≤ max (nWs σ) (σ 223 8) := hd
  rw [nRd]
  split
  · exact Rk_mk h8 (by omega)
  · split
    · exact Rk_mk h8 (by omega)
    · split
      · exact Rk_mk h8 (by omega)
      · exact Rk_mk h8 (by omega)
theorem Rk_rd' {σ : Sg} (h : Rk σ) : Rk (nRd σ) := by
  obtain ⟨h1, h2, h3, h4⟩ := h
  exact Rk_rd (by omega) h4
theorem nBl_ne (σ : Sg) (w : Int) {a j : Nat} (h : a ≠ 223 ∨ (j ≠ 13 ∧ j ≠ 14)) : nBl σ w a j = σ a j := by
  rw [nBl]; split
  · rfl
  · rw [su_ne _ _ (by omega), su_ne _ _ (by omega)]
theorem Rk_bl {σ : Sg} (h : Rk σ) (w : Int) : Rk (nBl σ w) := by
  obtain ⟨h1, h2, h3, h4⟩ := h
  refine ⟨?_, ?_, ?_, ?_⟩ <;> (repeat rw [nBl_ne _ _ (Or.inr (by decide))]) <;> assumption
theorem Rk_su {σ : Sg} (h : Rk σ) {a k : Nat} (v : Int) (ha : a ≠ 223) : Rk (su σ a k v) := by
  obtain ⟨h1, h2, h3, h4⟩ := h
  refine ⟨?_, ?_, ?_, ?_⟩ <;> (repeat rw [su_ne _ _ (Or.inl (Ne.symm ha))]) <;> assumption
theorem s_X11_readsR (ad : Nat → Nat) (σ : Sg) (hR : Rk σ) : gw_Sp yX11_reads cX11_reads 2 none 2 0 0 [vR (some 223)] (gw_M0 ad) σ (gw_D none (gw_M0 ad) (nRd σ)) gw_no := s_X11_reads ad σ (by have := hR.1; have := hR.2.1; omega) hR.2.2.2
def nSp0 (σ : Sg) (j : Nat) : Int := if (σ 223 13 = 0 ∧ σ 223 11 = 1) ∧ wr (σ 223 9 - σ 223 10) = ((gw_wd j).length : Nat) then 1 else 0
def nSpS (σ : Sg) (j : Nat) (i : Nat) (b : Int) : Int := if b = 0 then 0 else if σ 229 (wr (σ 223 10 + (i : Nat))).toNat = chr j (i : Nat) then 1 else 0
def nSp (σ : Sg) (j : Nat) : Int := itr (gw_wd j).length (nSpS σ j) (nSp0 σ j)
theorem nSp0_b (σ : Sg) (j : Nat) : nSp0 σ j = 0 ∨ nSp0 σ j = 1 := by unfold nSp0; split; exact Or.inr rfl; exact Or.inl rfl
theorem nSp0_l {σ : Sg} {j : Nat} (h : nSp0 σ j ≠ 0) : wr (σ 223 9 - σ 223 10) = ((gw_wd j).length : Nat) := by
  unfold nSp0 at h; split at h
  · next q => exact q.2
  · exact absurd rfl h
theorem nSpS_0 (σ : Sg) (j : Nat) (b : Int) : ∀ k i, itr k (nSpS σ j) b = 0 → itr (k + i) (nSpS σ j) b = 0 := by
  intro k i h
  induction i with
  | zero => exact h
  | succ i ih => rw [← Nat.add_assoc, itr_s, nSpS, if_pos ih]
theorem nSpS_z (σ : Sg) (j : Nat) (i : Nat) (h : nSp0 σ j = 0) : itr i (nSpS σ j) (nSp0 σ j) = 0 := by
  have := nSpS_0 σ j (nSp0 σ j) 0 i h
  rw [Nat.zero_add] at this; exact this
theorem nSpS_b (σ : Sg) (j : Nat) (b : Int) (hb : b = 0 ∨ b = 1) : ∀ k, itr k (nSpS σ j) b = 0 ∨ itr k (nSpS σ j) b = 1 := by
  intro k
  induction k with
  | zero => exact hb
  | succ k ih => rw [itr_s, nSpS]; split; exact Or.inl rfl; split; exact Or.inr rfl; exact Or.inl rfl
def nTak (σ : Sg) (j : Nat) : Sg := if nSp σ j = 0 then σ else nRd σ
theorem Rk_tak {σ : Sg} (h : Rk σ) (j : Nat) : Rk (nTak σ j) := by
  rw [nTak]; split; exact h; exact Rk_rd' h
def nNm1 (σ : Sg) (lo hi : Int) : Sg := if σ 223 11 ≠ 2 then nBl σ 2 else if wth (σ 223 12) lo hi = 0 then nBl σ 3 else σ
def nNm2 (σ : Sg) (lo hi : Int) : Sg := if nNm1 σ lo hi 223 13 = 0 then nRd (nNm1 σ lo hi) else nNm1 σ lo hi
def nNum (σ : Sg) (lo hi : Int) : Int := if nNm2 σ lo hi 223 13 = 0 then nNm1 σ lo hi 223 12 else lo
theorem Rk_nm1 {σ : Sg} (h : Rk σ) (lo hi : Int) : Rk (nNm1 σ lo hi) := by
  rw [nNm1]; split; exact Rk_bl h _; split; exact Rk_bl h _; exact h
theorem Rk_num {σ : Sg} (h : Rk σ) (lo hi : Int) : Rk (nNm2 σ lo hi) := by
  rw [nNm2]; split; exact Rk_rd' (Rk_nm1 h lo hi); exact Rk_nm1 h lo hi
def nBeh1 (σ : Sg) (j : Nat) : Sg := if nSp σ j = 0 then nBl (nTak σ j) 2 else nTak σ j
theorem Rk_beh {σ : Sg} (h : Rk σ) (j : Nat) : Rk (nBeh1 σ j) := by
  rw [nBeh1]; split; exact Rk_bl (Rk_tak h j) _; exact Rk_tak h j
def nEnd1 (σ : Sg) : Sg := if σ 223 11 ≠ 3 then nBl σ 2 else σ
theorem Rk_end1 {σ : Sg} (h : Rk σ) : Rk (nEnd1 σ) := by
  rw [nEnd1]; split; exact Rk_bl h _; exact h
def nEnds (σ : Sg) : Sg := if nEnd1 σ 223 13 = 0 then nRd (nEnd1 σ) else nEnd1 σ
theorem Rk_ends {σ : Sg} (h : Rk σ) : Rk (nEnds σ) := by
  rw [nEnds]; split; exact Rk_rd' (Rk_end1 h); exact Rk_end1 h
set_option maxRecDepth 4000 in
theorem s_X11_isWord (ad : Nat → Nat) (σ : Sg)  (j : Nat) (hj : j < 20) (hR : Rk σ) : gw_Sp yX11_isWord cX11_isWord 4 (some .boolean) 5 0 0 [vR (some 223), vX j] (gw_M0 ad) σ (gw_D (some (vI (nSp σ j))) (gw_M0 ad) (σ)) gw_no := by
  refine gw_Sp.of [some (vR (some 223)), some (vX j), none, none] (by decide +kernel) rfl (Nat.le_of_ble_eq_true rfl) ?_
  intro X G fx het hnm
  have hl := (chr_all j hj).1
  have hR2 := hR
  obtain ⟨hR10, hR19, hR9, hR8⟩ := hR2
  have hwr : wr (σ 223 9 - σ 223 10) = σ 223 9 - σ 223 10 := wr_id (by unfold okI; omega)
  refine g_aload_n fx dX11_isWord_0 rfl ?_
  refine g_geti fx dX11_isWord_1 fk_RX11_120 (by decide) o_223 ?_
  refine g_if_ne (tgt := 35) fx dX11_isWord_4 (by decide) (fun h4 => ?_) (fun h4 => ?_)
  · refine g_iconst fx dX11_isWord_35 (by unfold okI; omega) ?_
    refine g_istore_n fx dX11_isWord_36 (by decide) rfl rfl ?_
    refine g_iconst fx dX11_isWord_37 (by unfold okI; omega) ?_
    refine g_istore_n fx dX11_isWord_38 (by decide) rfl rfl ?_
    have loop39 : ∀ i : Nat, i ≤ (gw_wd j).length → gw_W X (yX11_isWord.cls, cX11_isWord, 4, (some .boolean), 5, 0, 0) G (gw_Z X G (gw_M0 ad) σ (gw_D (some (vI (nSp σ j))) (gw_M0 ad) (σ)) gw_no 0 0) 0 0 (gw_M0 ad) (σ) 39 [some (vR (some 223)), some (vX j), some (vI (itr i (nSpS σ j) (nSp0 σ j))), some (vI (i : Nat))] [] := by
      refine up_ind _ ((gw_wd j).length) (fun i hi ih => ?_)
      refine g_iload_n fx dX11_isWord_39 rfl ?_
      refine g_if_eq (tgt := 82) fx dX11_isWord_40 (by decide) (fun h40 => ?_) (fun h40 => ?_)
      · have hend : nSp σ j = (itr i (nSpS σ j) (nSp0 σ j)) := by
          rw [nSp]
          first
          | rw [show (gw_wd j).length = i by omega]
          | (have e0 := nSpS_0 σ j _ i ((gw_wd j).length - i) (by assumption)
             rw [show i + ((gw_wd j).length - i) = (gw_wd j).length by omega] at e0
             rw [e0]; exact Eq.symm (by assumption))
        refine g_iload_n fx dX11_isWord_82 rfl ?_
        exact g_zret fx rfl dX11_isWord_83 (nSpS_b σ j _ (nSp0_b σ j) i) (by decide) (by decide) (gw_le.rf _) ⟨by rw [hend], rfl, rfl⟩
      · have hb1 := nSp0_l (fun e => h40 (nSpS_z σ j i e))
        refine g_iload_n fx dX11_isWord_43 rfl ?_
        refine g_xload_n fx dX11_isWord_44 rfl ?_
        refine g_callVDX fx dX11_isWord_45 mv_RX11_126 my_J0_length_8abf5 (s_J0_length_8abf5 ad _ j hj) hj rfl rfl rfl (Nat.le_of_ble_eq_true rfl) (by decide) (by decide) ?_
        refine g_icmp_ge (tgt := 82) fx dX11_isWord_48 (by decide) (fun h48 => ?_) (fun h48 => ?_)
        · have hend : nSp σ j = (itr i (nSpS σ j) (nSp0 σ j)) := by
            rw [nSp]
            first
            | rw [show (gw_wd j).length = i by omega]
            | (have e0 := nSpS_0 σ j _ i ((gw_wd j).length - i) (by assumption)
               rw [show i + ((gw_wd j).length - i) = (gw_wd j).length by omega] at e0
               rw [e0]; exact Eq.symm (by assumption))
          refine g_iload_n fx dX11_isWord_82 rfl ?_
          exact g_zret fx rfl dX11_isWord_83 (nSpS_b σ j _ (nSp0_b σ j) i) (by decide) (by decide) (gw_le.rf _) ⟨by rw [hend], rfl, rfl⟩
        · refine g_aload_n fx dX11_isWord_51 rfl ?_
          refine g_getr fx dX11_isWord_52 fk_RX11_26 o_223 rf_223_6 ?_
          refine g_aload_n fx dX11_isWord_55 rfl ?_
          refine g_geti fx dX11_isWord_56 fk_RX11_100 (by decide) o_223 ?_
          refine g_iload_n fx dX11_isWord_59 rfl ?_
          refine g_iadd fx dX11_isWord_60 ?_
          refine g_iald fx dX11_isWord_61 o_229 (by rw [wr_id (by unfold okI; omega)]; omega) (by rw [wr_id (by unfold okI; omega)]; show _ < ((900 : Nat) : Int); omega) ?_
          refine g_xload_n fx dX11_isWord_62 rfl ?_
          refine g_iload_n fx dX11_isWord_63 rfl ?_
          refine g_callVDX fx dX11_isWord_64 mv_RX11_132 my_J0_charAt_5068e (s_J0_charAt_5068e ad _ j _ hj (by omega)) hj rfl rfl rfl (Nat.le_of_ble_eq_true rfl) (by decide) (by decide) ?_
          refine g_icmp_ne (tgt := 74) fx dX11_isWord_67 (by decide) (fun h67 => ?_) (fun h67 => ?_)
          · refine g_iconst fx dX11_isWord_74 (by unfold okI; omega) ?_
            refine g_istore_n fx dX11_isWord_75 (by decide) rfl rfl ?_
            refine g_iinc1 fx dX11_isWord_76 (by decide) rfl rfl (by unfold okI; omega) rfl ?_
            refine g_goto (tgt := 39) fx dX11_isWord_79 (by decide) ?_
            first
            | (exfalso; omega)
            | exact gw_cg rfl (by rw [itr_s, nSpS, show ((i : Nat) : Int) + 1 = ((i + 1 : Nat) : Int) by omega]; (repeat first | rw [if_pos (by omega)] | rw [if_neg (by omega)]) <;> rfl) (ih (by omega))
          · refine g_iconst fx dX11_isWord_70 (by unfold okI; omega) ?_
            refine g_goto (tgt := 75) fx dX11_isWord_71 (by decide) ?_
            refine g_istore_n fx dX11_isWord_75 (by decide) rfl rfl ?_
            refine g_iinc1 fx dX11_isWord_76 (by decide) rfl rfl (by unfold okI; omega) rfl ?_
            refine g_goto (tgt := 39) fx dX11_isWord_79 (by decide) ?_
            first
            | (exfalso; omega)
            | exact gw_cg rfl (by rw [itr_s, nSpS, show ((i : Nat) : Int) + 1 = ((i + 1 : Nat) : Int) by omega]; (repeat first | rw [if_pos (by omega)] | rw [if_neg (by omega)]) <;> rfl) (ih (by omega))
    exact gw_cg rfl (by simp only [itr, nSp0]; (repeat first | rw [if_pos (by omega)] | rw [if_neg (by omega)]) <;> rfl) (loop39 0 (Nat.zero_le _))
  · refine g_aload_n fx dX11_isWord_7 rfl ?_
    refine g_geti fx dX11_isWord_8 fk_RX11_103 (by decide) o_223 ?_
    refine g_iconst fx dX11_isWord_11 (by unfold okI; omega) ?_
    refine g_icmp_ne (tgt := 35) fx dX11_isWord_12 (by decide) (fun h12 => ?_) (fun h12 => ?_)
    · refine g_iconst fx dX11_isWord_35 (by unfold okI; omega) ?_
      refine g_istore_n fx dX11_isWord_36 (by decide) rfl rfl ?_
      refine g_iconst fx dX11_isWord_37 (by unfold okI; omega) ?_
      refine g_istore_n fx dX11_isWord_38 (by decide) rfl rfl ?_
      have loop39 : ∀ i : Nat, i ≤ (gw_wd j).length → gw_W X (yX11_isWord.cls, cX11_isWord, 4, (some .boolean), 5, 0, 0) G (gw_Z X G (gw_M0 ad) σ (gw_D (some (vI (nSp σ j))) (gw_M0 ad) (σ)) gw_no 0 0) 0 0 (gw_M0 ad) (σ) 39 [some (vR (some 223)), some (vX j), some (vI (itr i (nSpS σ j) (nSp0 σ j))), some (vI (i : Nat))] [] := by
        refine up_ind _ ((gw_wd j).length) (fun i hi ih => ?_)
        refine g_iload_n fx dX11_isWord_39 rfl ?_
        refine g_if_eq (tgt := 82) fx dX11_isWord_40 (by decide) (fun h40 => ?_) (fun h40 => ?_)
        · have hend : nSp σ j = (itr i (nSpS σ j) (nSp0 σ j)) := by
            rw [nSp]
            first
            | rw [show (gw_wd j).length = i by omega]
            | (have e0 := nSpS_0 σ j _ i ((gw_wd j).length - i) (by assumption)
               rw [show i + ((gw_wd j).length - i) = (gw_wd j).length by omega] at e0
               rw [e0]; exact Eq.symm (by assumption))
          refine g_iload_n fx dX11_isWord_82 rfl ?_
          exact g_zret fx rfl dX11_isWord_83 (nSpS_b σ j _ (nSp0_b σ j) i) (by decide) (by decide) (gw_le.rf _) ⟨by rw [hend], rfl, rfl⟩
        · have hb1 := nSp0_l (fun e => h40 (nSpS_z σ j i e))
          refine g_iload_n fx dX11_isWord_43 rfl ?_
          refine g_xload_n fx dX11_isWord_44 rfl ?_
          refine g_callVDX fx dX11_isWord_45 mv_RX11_126 my_J0_length_8abf5 (s_J0_length_8abf5 ad _ j hj) hj rfl rfl rfl (Nat.le_of_ble_eq_true rfl) (by decide) (by decide) ?_
          refine g_icmp_ge (tgt := 82) fx dX11_isWord_48 (by decide) (fun h48 => ?_) (fun h48 => ?_)
          · have hend : nSp σ j = (itr i (nSpS σ j) (nSp0 σ j)) := by
              rw [nSp]
              first
              | rw [show (gw_wd j).length = i by omega]
              | (have e0 := nSpS_0 σ j _ i ((gw_wd j).length - i) (by assumption)
                 rw [show i + ((gw_wd j).length - i) = (gw_wd j).length by omega] at e0
                 rw [e0]; exact Eq.symm (by assumption))
            refine g_iload_n fx dX11_isWord_82 rfl ?_
            exact g_zret fx rfl dX11_isWord_83 (nSpS_b σ j _ (nSp0_b σ j) i) (by decide) (by decide) (gw_le.rf _) ⟨by rw [hend], rfl, rfl⟩
          · refine g_aload_n fx dX11_isWord_51 rfl ?_
            refine g_getr fx dX11_isWord_52 fk_RX11_26 o_223 rf_223_6 ?_
            refine g_aload_n fx dX11_isWord_55 rfl ?_
            refine g_geti fx dX11_isWord_56 fk_RX11_100 (by decide) o_223 ?_
            refine g_iload_n fx dX11_isWord_59 rfl ?_
            refine g_iadd fx dX11_isWord_60 ?_
            refine g_iald fx dX11_isWord_61 o_229 (by rw [wr_id (by unfold okI; omega)]; omega) (by rw [wr_id (by unfold okI; omega)]; show _ < ((900 : Nat) : Int); omega) ?_
            refine g_xload_n fx dX11_isWord_62 rfl ?_
            refine g_iload_n fx dX11_isWord_63 rfl ?_
            refine g_callVDX fx dX11_isWord_64 mv_RX11_132 my_J0_charAt_5068e (s_J0_charAt_5068e ad _ j _ hj (by omega)) hj rfl rfl rfl (Nat.le_of_ble_eq_true rfl) (by decide) (by decide) ?_
            refine g_icmp_ne (tgt := 74) fx dX11_isWord_67 (by decide) (fun h67 => ?_) (fun h67 => ?_)
            · refine g_iconst fx dX11_isWord_74 (by unfold okI; omega) ?_
              refine g_istore_n fx dX11_isWord_75 (by decide) rfl rfl ?_
              refine g_iinc1 fx dX11_isWord_76 (by decide) rfl rfl (by unfold okI; omega) rfl ?_
              refine g_goto (tgt := 39) fx dX11_isWord_79 (by decide) ?_
              first
              | (exfalso; omega)
              | exact gw_cg rfl (by rw [itr_s, nSpS, show ((i : Nat) : Int) + 1 = ((i + 1 : Nat) : Int) by omega]; (repeat first | rw [if_pos (by omega)] | rw [if_neg (by omega)]) <;> rfl) (ih (by omega))
            · refine g_iconst fx dX11_isWord_70 (by unfold okI; omega) ?_
              refine g_goto (tgt := 75) fx dX11_isWord_71 (by decide) ?_
              refine g_istore_n fx dX11_isWord_75 (by decide) rfl rfl ?_
              refine g_iinc1 fx dX11_isWord_76 (by decide) rfl rfl (by unfold okI; omega) rfl ?_
              refine g_goto (tgt := 39) fx dX11_isWord_79 (by decide) ?_
              first
              | (exfalso; omega)
              | exact gw_cg rfl (by rw [itr_s, nSpS, show ((i : Nat) : Int) + 1 = ((i + 1 : Nat) : Int) by omega]; (repeat first | rw [if_pos (by omega)] | rw [if_neg (by omega)]) <;> rfl) (ih (by omega))
      exact gw_cg rfl (by simp only [itr, nSp0]; (repeat first | rw [if_pos (by omega)] | rw [if_neg (by omega)]) <;> rfl) (loop39 0 (Nat.zero_le _))
    · refine g_aload_n fx dX11_isWord_15 rfl ?_
      refine g_geti fx dX11_isWord_16 fk_RX11_97 (by decide) o_223 ?_
      refine g_aload_n fx dX11_isWord_19 rfl ?_
      refine g_geti fx dX11_isWord_20 fk_RX11_100 (by decide) o_223 ?_
      refine g_isub fx dX11_isWord_23 ?_
      refine g_xload_n fx dX11_isWord_24 rfl ?_
      refine g_callVDX fx dX11_isWord_25 mv_RX11_126 my_J0_length_8abf5 (s_J0_length_8abf5 ad _ j hj) hj rfl rfl rfl (Nat.le_of_ble_eq_true rfl) (by decide) (by decide) ?_
      refine g_icmp_ne (tgt := 35) fx dX11_isWord_28 (by decide) (fun h28 => ?_) (fun h28 => ?_)
      · refine g_iconst fx dX11_isWord_35 (by unfold okI; omega) ?_
        refine g_istore_n fx dX11_isWord_36 (by decide) rfl rfl ?_
        refine g_iconst fx dX11_isWord_37 (by unfold okI; omega) ?_
        refine g_istore_n fx dX11_isWord_38 (by decide) rfl rfl ?_
        have loop39 : ∀ i : Nat, i ≤ (gw_wd j).length → gw_W X (yX11_isWord.cls, cX11_isWord, 4, (some .boolean), 5, 0, 0) G (gw_Z X G (gw_M0 ad) σ (gw_D (some (vI (nSp σ j))) (gw_M0 ad) (σ)) gw_no 0 0) 0 0 (gw_M0 ad) (σ) 39 [some (vR (some 223)), some (vX j), some (vI (itr i (nSpS σ j) (nSp0 σ j))), some (vI (i : Nat))] [] := by
          refine up_ind _ ((gw_wd j).length) (fun i hi ih => ?_)
          refine g_iload_n fx dX11_isWord_39 rfl ?_
          refine g_if_eq (tgt := 82) fx dX11_isWord_40 (by decide) (fun h40 => ?_) (fun h40 => ?_)
          · have hend : nSp σ j = (itr i (nSpS σ j) (nSp0 σ j)) := by
              rw [nSp]
              first
              | rw [show (gw_wd j).length = i by omega]
              | (have e0 := nSpS_0 σ j _ i ((gw_wd j).length - i) (by assumption)
                 rw [show i + ((gw_wd j).length - i) = (gw_wd j).length by omega] at e0
                 rw [e0]; exact Eq.symm (by assumption))
            refine g_iload_n fx dX11_isWord_82 rfl ?_
            exact g_zret fx rfl dX11_isWord_83 (nSpS_b σ j _ (nSp0_b σ j) i) (by decide) (by decide) (gw_le.rf _) ⟨by rw [hend], rfl, rfl⟩
          · have hb1 := nSp0_l (fun e => h40 (nSpS_z σ j i e))
            refine g_iload_n fx dX11_isWord_43 rfl ?_
            refine g_xload_n fx dX11_isWord_44 rfl ?_
            refine g_callVDX fx dX11_isWord_45 mv_RX11_126 my_J0_length_8abf5 (s_J0_length_8abf5 ad _ j hj) hj rfl rfl rfl (Nat.le_of_ble_eq_true rfl) (by decide) (by decide) ?_
            refine g_icmp_ge (tgt := 82) fx dX11_isWord_48 (by decide) (fun h48 => ?_) (fun h48 => ?_)
            · have hend : nSp σ j = (itr i (nSpS σ j) (nSp0 σ j)) := by
                rw [nSp]
                first
                | rw [show (gw_wd j).length = i by omega]
                | (have e0 := nSpS_0 σ j _ i ((gw_wd j).length - i) (by assumption)
                   rw [show i + ((gw_wd j).length - i) = (gw_wd j).length by omega] at e0
                   rw [e0]; exact Eq.symm (by assumption))
              refine g_iload_n fx dX11_isWord_82 rfl ?_
              exact g_zret fx rfl dX11_isWord_83 (nSpS_b σ j _ (nSp0_b σ j) i) (by decide) (by decide) (gw_le.rf _) ⟨by rw [hend], rfl, rfl⟩
            · refine g_aload_n fx dX11_isWord_51 rfl ?_
              refine g_getr fx dX11_isWord_52 fk_RX11_26 o_223 rf_223_6 ?_
              refine g_aload_n fx dX11_isWord_55 rfl ?_
              refine g_geti fx dX11_isWord_56 fk_RX11_100 (by decide) o_223 ?_
              refine g_iload_n fx dX11_isWord_59 rfl ?_
              refine g_iadd fx dX11_isWord_60 ?_
              refine g_iald fx dX11_isWord_61 o_229 (by rw [wr_id (by unfold okI; omega)]; omega) (by rw [wr_id (by unfold okI; omega)]; show _ < ((900 : Nat) : Int); omega) ?_
              refine g_xload_n fx dX11_isWord_62 rfl ?_
              refine g_iload_n fx dX11_isWord_63 rfl ?_
              refine g_callVDX fx dX11_isWord_64 mv_RX11_132 my_J0_charAt_5068e (s_J0_charAt_5068e ad _ j _ hj (by omega)) hj rfl rfl rfl (Nat.le_of_ble_eq_true rfl) (by decide) (by decide) ?_
              refine g_icmp_ne (tgt := 74) fx dX11_isWord_67 (by decide) (fun h67 => ?_) (fun h67 => ?_)
              · refine g_iconst fx dX11_isWord_74 (by unfold okI; omega) ?_
                refine g_istore_n fx dX11_isWord_75 (by decide) rfl rfl ?_
                refine g_iinc1 fx dX11_isWord_76 (by decide) rfl rfl (by unfold okI; omega) rfl ?_
                refine g_goto (tgt := 39) fx dX11_isWord_79 (by decide) ?_
                first
                | (exfalso; omega)
                | exact gw_cg rfl (by rw [itr_s, nSpS, show ((i : Nat) : Int) + 1 = ((i + 1 : Nat) : Int) by omega]; (repeat first | rw [if_pos (by omega)] | rw [if_neg (by omega)]) <;> rfl) (ih (by omega))
              · refine g_iconst fx dX11_isWord_70 (by unfold okI; omega) ?_
                refine g_goto (tgt := 75) fx dX11_isWord_71 (by decide) ?_
                refine g_istore_n fx dX11_isWord_75 (by decide) rfl rfl ?_
                refine g_iinc1 fx dX11_isWord_76 (by decide) rfl rfl (by unfold okI; omega) rfl ?_
                refine g_goto (tgt := 39) fx dX11_isWord_79 (by decide) ?_
                first
                | (exfalso; omega)
                | exact gw_cg rfl (by rw [itr_s, nSpS, show ((i : Nat) : Int) + 1 = ((i + 1 : Nat) : Int) by omega]; (repeat first | rw [if_pos (by omega)] | rw [if_neg (by omega)]) <;> rfl) (ih (by omega))
        exact gw_cg rfl (by simp only [itr, nSp0]; (repeat first | rw [if_pos (by omega)] | rw [if_neg (by omega)]) <;> rfl) (loop39 0 (Nat.zero_le _))
      · refine g_iconst fx dX11_isWord_31 (by unfold okI; omega) ?_
        refine g_goto (tgt := 36) fx dX11_isWord_32 (by decide) ?_
        refine g_istore_n fx dX11_isWord_36 (by decide) rfl rfl ?_
        refine g_iconst fx dX11_isWord_37 (by unfold okI; omega) ?_
        refine g_istore_n fx dX11_isWord_38 (by decide) rfl rfl ?_
        have loop39 : ∀ i : Nat, i ≤ (gw_wd j).length → gw_W X (yX11_isWord.cls, cX11_isWord, 4, (some .boolean), 5, 0, 0) G (gw_Z X G (gw_M0 ad) σ (gw_D (some (vI (nSp σ j))) (gw_M0 ad) (σ)) gw_no 0 0) 0 0 (gw_M0 ad) (σ) 39 [some (vR (some 223)), some (vX j), some (vI (itr i (nSpS σ j) (nSp0 σ j))), some (vI (i : Nat))] [] := by
          refine up_ind _ ((gw_wd j).length) (fun i hi ih => ?_)
          refine g_iload_n fx dX11_isWord_39 rfl ?_
          refine g_if_eq (tgt := 82) fx dX11_isWord_40 (by decide) (fun h40 => ?_) (fun h40 => ?_)
          · have hend : nSp σ j = (itr i (nSpS σ j) (nSp0 σ j)) := by
              rw [nSp]
              first
              | rw [show (gw_wd j).length = i by omega]
              | (have e0 := nSpS_0 σ j _ i ((gw_wd j).length - i) (by assumption)
                 rw [show i + ((gw_wd j).length - i) = (gw_wd j).length by omega] at e0
                 rw [e0]; exact Eq.symm (by assumption))
            refine g_iload_n fx dX11_isWord_82 rfl ?_
            exact g_zret fx rfl dX11_isWord_83 (nSpS_b σ j _ (nSp0_b σ j) i) (by decide) (by decide) (gw_le.rf _) ⟨by rw [hend], rfl, rfl⟩
          · have hb1 := nSp0_l (fun e => h40 (nSpS_z σ j i e))
            refine g_iload_n fx dX11_isWord_43 rfl ?_
            refine g_xload_n fx dX11_isWord_44 rfl ?_
            refine g_callVDX fx dX11_isWord_45 mv_RX11_126 my_J0_length_8abf5 (s_J0_length_8abf5 ad _ j hj) hj rfl rfl rfl (Nat.le_of_ble_eq_true rfl) (by decide) (by decide) ?_
            refine g_icmp_ge (tgt := 82) fx dX11_isWord_48 (by decide) (fun h48 => ?_) (fun h48 => ?_)
            · have hend : nSp σ j = (itr i (nSpS σ j) (nSp0 σ j)) := by
                rw [nSp]
                first
                | rw [show (gw_wd j).length = i by omega]
                | (have e0 := nSpS_0 σ j _ i ((gw_wd j).length - i) (by assumption)
                   rw [show i + ((gw_wd j).length - i) = (gw_wd j).length by omega] at e0
                   rw [e0]; exact Eq.symm (by assumption))
              refine g_iload_n fx dX11_isWord_82 rfl ?_
              exact g_zret fx rfl dX11_isWord_83 (nSpS_b σ j _ (nSp0_b σ j) i) (by decide) (by decide) (gw_le.rf _) ⟨by rw [hend], rfl, rfl⟩
            · refine g_aload_n fx dX11_isWord_51 rfl ?_
              refine g_getr fx dX11_isWord_52 fk_RX11_26 o_223 rf_223_6 ?_
              refine g_aload_n fx dX11_isWord_55 rfl ?_
              refine g_geti fx dX11_isWord_56 fk_RX11_100 (by decide) o_223 ?_
              refine g_iload_n fx dX11_isWord_59 rfl ?_
              refine g_iadd fx dX11_isWord_60 ?_
              refine g_iald fx dX11_isWord_61 o_229 (by rw [wr_id (by unfold okI; omega)]; omega) (by rw [wr_id (by unfold okI; omega)]; show _ < ((900 : Nat) : Int); omega) ?_
              refine g_xload_n fx dX11_isWord_62 rfl ?_
              refine g_iload_n fx dX11_isWord_63 rfl ?_
              refine g_callVDX fx dX11_isWord_64 mv_RX11_132 my_J0_charAt_5068e (s_J0_charAt_5068e ad _ j _ hj (by omega)) hj rfl rfl rfl (Nat.le_of_ble_eq_true rfl) (by decide) (by decide) ?_
              refine g_icmp_ne (tgt := 74) fx dX11_isWord_67 (by decide) (fun h67 => ?_) (fun h67 => ?_)
              · refine g_iconst fx dX11_isWord_74 (by unfold okI; omega) ?_
                refine g_istore_n fx dX11_isWord_75 (by decide) rfl rfl ?_
                refine g_iinc1 fx dX11_isWord_76 (by decide) rfl rfl (by unfold okI; omega) rfl ?_
                refine g_goto (tgt := 39) fx dX11_isWord_79 (by decide) ?_
                first
                | (exfalso; omega)
                | exact gw_cg rfl (by rw [itr_s, nSpS, show ((i : Nat) : Int) + 1 = ((i + 1 : Nat) : Int) by omega]; (repeat first | rw [if_pos (by omega)] | rw [if_neg (by omega)]) <;> rfl) (ih (by omega))
              · refine g_iconst fx dX11_isWord_70 (by unfold okI; omega) ?_
                refine g_goto (tgt := 75) fx dX11_isWord_71 (by decide) ?_
                refine g_istore_n fx dX11_isWord_75 (by decide) rfl rfl ?_
                refine g_iinc1 fx dX11_isWord_76 (by decide) rfl rfl (by unfold okI; omega) rfl ?_
                refine g_goto (tgt := 39) fx dX11_isWord_79 (by decide) ?_
                first
                | (exfalso; omega)
                | exact gw_cg rfl (by rw [itr_s, nSpS, show ((i : Nat) : Int) + 1 = ((i + 1 : Nat) : Int) by omega]; (repeat first | rw [if_pos (by omega)] | rw [if_neg (by omega)]) <;> rfl) (ih (by omega))
        exact gw_cg rfl (by simp only [itr, nSp0]; (repeat first | rw [if_pos (by omega)] | rw [if_neg (by omega)]) <;> rfl) (loop39 0 (Nat.zero_le _))
set_option maxRecDepth 4000 in
theorem s_X11_took (ad : Nat → Nat) (σ : Sg)  (j : Nat) (hj : j < 20) (hR : Rk σ) : gw_Sp yX11_took cX11_took 3 (some .boolean) 6 0 0 [vR (some 223), vX j] (gw_M0 ad) σ (gw_D (some (vI (nSp σ j))) (gw_M0 ad) (nTak σ j)) gw_no := by
  refine gw_Sp.of [some (vR (some 223)), some (vX j), none] (by decide +kernel) rfl (Nat.le_of_ble_eq_true rfl) ?_
  intro X G fx het hnm
  refine g_aload_n fx dX11_took_0 rfl ?_
  refine g_xload_n fx dX11_took_1 rfl ?_
  refine g_callVD fx dX11_took_2 mv_RX11_136 my_X11_isWord (s_X11_isWord ad _ j hj hR) o_223 rfl rfl rfl (Nat.le_of_ble_eq_true rfl) (by decide) (by decide) ?_
  refine g_istore_n fx dX11_took_5 (by decide) rfl rfl ?_
  refine g_iload_n fx dX11_took_6 rfl ?_
  refine g_if_eq (tgt := 14) fx dX11_took_7 (by decide) (fun h7 => ?_) (fun h7 => ?_)
  · refine g_iload_n fx dX11_took_14 rfl ?_
    exact g_zret fx rfl dX11_took_15 (nSpS_b σ j _ (nSp0_b σ j) _) (by decide) (by decide) (gw_le.rf _) ⟨rfl, rfl, by rw [nTak]; (repeat first | rw [if_pos (by omega)] | rw [if_neg (by omega)]) <;> rfl⟩
  · refine g_aload_n fx dX11_took_10 rfl ?_
    refine g_callVD0 fx dX11_took_11 mv_RX11_140 my_X11_reads (s_X11_readsR ad _ hR) o_223 rfl rfl rfl (Nat.le_of_ble_eq_true rfl) (by decide) (by decide) ?_
    refine g_iload_n fx dX11_took_14 rfl ?_
    exact g_zret fx rfl dX11_took_15 (nSpS_b σ j _ (nSp0_b σ j) _) (by decide) (by decide) (gw_le.rf _) ⟨rfl, rfl, by rw [nTak]; (repeat first | rw [if_pos (by omega)] | rw [if_neg (by omega)]) <;> rfl⟩
set_option maxRecDepth 4000 in
theorem s_X11_number (ad : Nat → Nat) (σ : Sg)  (lo : Int) (hi : Int) (hR : Rk σ) : gw_Sp yX11_number cX11_number 4 (some .int) 3 0 0 [vR (some 223), vI lo, vI hi] (gw_M0 ad) σ (gw_D (some (vI (nNum σ lo hi))) (gw_M0 ad) (nNm2 σ lo hi)) gw_no := by
  refine gw_Sp.of [some (vR (some 223)), some (vI lo), some (vI hi), none] (by decide +kernel) rfl (Nat.le_of_ble_eq_true rfl) ?_
  intro X G fx het hnm
  refine g_aload_n fx dX11_number_0 rfl ?_
  refine g_geti fx dX11_number_1 fk_RX11_103 (by decide) o_223 ?_
  refine g_iconst fx dX11_number_4 (by unfold okI; omega) ?_
  refine g_icmp_eq (tgt := 16) fx dX11_number_5 (by decide) (fun h5 => ?_) (fun h5 => ?_)
  · refine g_aload_n fx dX11_number_16 rfl ?_
    refine g_geti fx dX11_number_17 fk_RX11_117 (by decide) o_223 ?_
    refine g_i2l fx dX11_number_20 ?_
    refine g_iload_n fx dX11_number_21 rfl ?_
    refine g_i2l fx dX11_number_22 ?_
    refine g_iload_n fx dX11_number_23 rfl ?_
    refine g_i2l fx dX11_number_24 ?_
    refine g_callSD fx dX11_number_25 ms_RX11_147 my_X11_within (s_X11_within ad _ _ _ _) rfl rfl (Nat.le_of_ble_eq_true rfl) (by decide) (by decide) ?_
    refine g_if_ne (tgt := 36) fx dX11_number_28 (by decide) (fun h28 => ?_) (fun h28 => ?_)
    · refine gw_cg (σ' := nNm1 σ lo hi) (by rw [nNm1]; (repeat first | rw [if_pos (by omega)] | rw [if_neg (by omega)]) <;> rfl) rfl ?_
      refine g_aload_n fx dX11_number_36 rfl ?_
      refine g_geti fx dX11_number_37 fk_RX11_117 (by decide) o_223 ?_
      refine g_istore_n fx dX11_number_40 (by decide) rfl rfl ?_
      refine g_aload_n fx dX11_number_41 rfl ?_
      refine g_geti fx dX11_number_42 fk_RX11_120 (by decide) o_223 ?_
      refine g_if_ne (tgt := 52) fx dX11_number_45 (by decide) (fun h45 => ?_) (fun h45 => ?_)
      · refine gw_cg (σ' := nNm2 σ lo hi) (by rw [nNm2]; (repeat first | rw [if_pos (by omega)] | rw [if_neg (by omega)]) <;> rfl) rfl ?_
        refine g_aload_n fx dX11_number_52 rfl ?_
        refine g_geti fx dX11_number_53 fk_RX11_120 (by decide) o_223 ?_
        refine g_if_ne (tgt := 63) fx dX11_number_56 (by decide) (fun h56 => ?_) (fun h56 => ?_)
        · refine g_iload_n fx dX11_number_63 rfl ?_
          exact g_iret fx rfl dX11_number_64 (by decide) (by decide) (gw_le.rf _) ⟨by rw [nNum]; (repeat first | rw [if_pos (by omega)] | rw [if_neg (by omega)]) <;> rfl, rfl, rfl⟩
        · refine g_iload_n fx dX11_number_59 rfl ?_
          refine g_goto (tgt := 64) fx dX11_number_60 (by decide) ?_
          exact g_iret fx rfl dX11_number_64 (by decide) (by decide) (gw_le.rf _) ⟨by rw [nNum]; (repeat first | rw [if_pos (by omega)] | rw [if_neg (by omega)]) <;> rfl, rfl, rfl⟩
      · refine g_aload_n fx dX11_number_48 rfl ?_
        refine g_callVD0 fx dX11_number_49 mv_RX11_140 my_X11_reads (s_X11_readsR ad _ (Rk_nm1 hR lo hi)) o_223 rfl rfl rfl (Nat.le_of_ble_eq_true rfl) (by decide) (by decide) ?_
        refine gw_cg (σ' := nNm2 σ lo hi) (by rw [nNm2]; (repeat first | rw [if_pos (by omega)] | rw [if_neg (by omega)]) <;> rfl) rfl ?_
        refine g_aload_n fx dX11_number_52 rfl ?_
        refine g_geti fx dX11_number_53 fk_RX11_120 (by decide) o_223 ?_
        refine g_if_ne (tgt := 63) fx dX11_number_56 (by decide) (fun h56 => ?_) (fun h56 => ?_)
        · refine g_iload_n fx dX11_number_63 rfl ?_
          exact g_iret fx rfl dX11_number_64 (by decide) (by decide) (gw_le.rf _) ⟨by rw [nNum]; (repeat first | rw [if_pos (by omega)] | rw [if_neg (by omega)]) <;> rfl, rfl, rfl⟩
        · refine g_iload_n fx dX11_number_59 rfl ?_
          refine g_goto (tgt := 64) fx dX11_number_60 (by decide) ?_
          exact g_iret fx rfl dX11_number_64 (by decide) (by decide) (gw_le.rf _) ⟨by rw [nNum]; (repeat first | rw [if_pos (by omega)] | rw [if_neg (by omega)]) <;> rfl, rfl, rfl⟩
    · refine g_aload_n fx dX11_number_31 rfl ?_
      refine g_iconst fx dX11_number_32 (by unfold okI; omega) ?_
      refine g_callVD0 fx dX11_number_33 mv_RX11_143 my_X11_blames (s_X11_blames ad _ _) o_223 rfl rfl rfl (Nat.le_of_ble_eq_true rfl) (by decide) (by decide) ?_
      refine gw_cg (σ' := nNm1 σ lo hi) (by rw [nNm1]; (repeat first | rw [if_pos (by omega)] | rw [if_neg (by omega)]) <;> rfl) rfl ?_
      refine g_aload_n fx dX11_number_36 rfl ?_
      refine g_geti fx dX11_number_37 fk_RX11_117 (by decide) o_223 ?_
      refine g_istore_n fx dX11_number_40 (by decide) rfl rfl ?_
      refine g_aload_n fx dX11_number_41 rfl ?_
      refine g_geti fx dX11_number_42 fk_RX11_120 (by decide) o_223 ?_
      refine g_if_ne (tgt := 52) fx dX11_number_45 (by decide) (fun h45 => ?_) (fun h45 => ?_)
      · refine gw_cg (σ' := nNm2 σ lo hi) (by rw [nNm2]; (repeat first | rw [if_pos (by omega)] | rw [if_neg (by omega)]) <;> rfl) rfl ?_
        refine g_aload_n fx dX11_number_52 rfl ?_
        refine g_geti fx dX11_number_53 fk_RX11_120 (by decide) o_223 ?_
        refine g_if_ne (tgt := 63) fx dX11_number_56 (by decide) (fun h56 => ?_) (fun h56 => ?_)
        · refine g_iload_n fx dX11_number_63 rfl ?_
          exact g_iret fx rfl dX11_number_64 (by decide) (by decide) (gw_le.rf _) ⟨by rw [nNum]; (repeat first | rw [if_pos (by omega)] | rw [if_neg (by omega)]) <;> rfl, rfl, rfl⟩
        · refine g_iload_n fx dX11_number_59 rfl ?_
          refine g_goto (tgt := 64) fx dX11_number_60 (by decide) ?_
          exact g_iret fx rfl dX11_number_64 (by decide) (by decide) (gw_le.rf _) ⟨by rw [nNum]; (repeat first | rw [if_pos (by omega)] | rw [if_neg (by omega)]) <;> rfl, rfl, rfl⟩
      · refine g_aload_n fx dX11_number_48 rfl ?_
        refine g_callVD0 fx dX11_number_49 mv_RX11_140 my_X11_reads (s_X11_readsR ad _ (Rk_nm1 hR lo hi)) o_223 rfl rfl rfl (Nat.le_of_ble_eq_true rfl) (by decide) (by decide) ?_
        refine gw_cg (σ' := nNm2 σ lo hi) (by rw [nNm2]; (repeat first | rw [if_pos (by omega)] | rw [if_neg (by omega)]) <;> rfl) rfl ?_
        refine g_aload_n fx dX11_number_52 rfl ?_
        refine g_geti fx dX11_number_53 fk_RX11_120 (by decide) o_223 ?_
        refine g_if_ne (tgt := 63) fx dX11_number_56 (by decide) (fun h56 => ?_) (fun h56 => ?_)
        · refine g_iload_n fx dX11_number_63 rfl ?_
          exact g_iret fx rfl dX11_number_64 (by decide) (by decide) (gw_le.rf _) ⟨by rw [nNum]; (repeat first | rw [if_pos (by omega)] | rw [if_neg (by omega)]) <;> rfl, rfl, rfl⟩
        · refine g_iload_n fx dX11_number_59 rfl ?_
          refine g_goto (tgt := 64) fx dX11_number_60 (by decide) ?_
          exact g_iret fx rfl dX11_number_64 (by decide) (by decide) (gw_le.rf _) ⟨by rw [nNum]; (repeat first | rw [if_pos (by omega)] | rw [if_neg (by omega)]) <;> rfl, rfl, rfl⟩
  · refine g_aload_n fx dX11_number_8 rfl ?_
    refine g_iconst fx dX11_number_9 (by unfold okI; omega) ?_
    refine g_callVD0 fx dX11_number_10 mv_RX11_143 my_X11_blames (s_X11_blames ad _ _) o_223 rfl rfl rfl (Nat.le_of_ble_eq_true rfl) (by decide) (by decide) ?_
    refine g_goto (tgt := 36) fx dX11_number_13 (by decide) ?_
    refine gw_cg (σ' := nNm1 σ lo hi) (by rw [nNm1]; (repeat first | rw [if_pos (by omega)] | rw [if_neg (by omega)]) <;> rfl) rfl ?_
    refine g_aload_n fx dX11_number_36 rfl ?_
    refine g_geti fx dX11_number_37 fk_RX11_117 (by decide) o_223 ?_
    refine g_istore_n fx dX11_number_40 (by decide) rfl rfl ?_
    refine g_aload_n fx dX11_number_41 rfl ?_
    refine g_geti fx dX11_number_42 fk_RX11_120 (by decide) o_223 ?_
    refine g_if_ne (tgt := 52) fx dX11_number_45 (by decide) (fun h45 => ?_) (fun h45 => ?_)
    · refine gw_cg (σ' := nNm2 σ lo hi) (by rw [nNm2]; (repeat first | rw [if_pos (by omega)] | rw [if_neg (by omega)]) <;> rfl) rfl ?_
      refine g_aload_n fx dX11_number_52 rfl ?_
      refine g_geti fx dX11_number_53 fk_RX11_120 (by decide) o_223 ?_
      refine g_if_ne (tgt := 63) fx dX11_number_56 (by decide) (fun h56 => ?_) (fun h56 => ?_)
      · refine g_iload_n fx dX11_number_63 rfl ?_
        exact g_iret fx rfl dX11_number_64 (by decide) (by decide) (gw_le.rf _) ⟨by rw [nNum]; (repeat first | rw [if_pos (by omega)] | rw [if_neg (by omega)]) <;> rfl, rfl, rfl⟩
      · refine g_iload_n fx dX11_number_59 rfl ?_
        refine g_goto (tgt := 64) fx dX11_number_60 (by decide) ?_
        exact g_iret fx rfl dX11_number_64 (by decide) (by decide) (gw_le.rf _) ⟨by rw [nNum]; (repeat first | rw [if_pos (by omega)] | rw [if_neg (by omega)]) <;> rfl, rfl, rfl⟩
    · refine g_aload_n fx dX11_number_48 rfl ?_
      refine g_callVD0 fx dX11_number_49 mv_RX11_140 my_X11_reads (s_X11_readsR ad _ (Rk_nm1 hR lo hi)) o_223 rfl rfl rfl (Nat.le_of_ble_eq_true rfl) (by decide) (by decide) ?_
      refine gw_cg (σ' := nNm2 σ lo hi) (by rw [nNm2]; (repeat first | rw [if_pos (by omega)] | rw [if_neg (by omega)]) <;> rfl) rfl ?_
      refine g_aload_n fx dX11_number_52 rfl ?_
      refine g_geti fx dX11_number_53 fk_RX11_120 (by decide) o_223 ?_
      refine g_if_ne (tgt := 63) fx dX11_number_56 (by decide) (fun h56 => ?_) (fun h56 => ?_)
      · refine g_iload_n fx dX11_number_63 rfl ?_
        exact g_iret fx rfl dX11_number_64 (by decide) (by decide) (gw_le.rf _) ⟨by rw [nNum]; (repeat first | rw [if_pos (by omega)] | rw [if_neg (by omega)]) <;> rfl, rfl, rfl⟩
      · refine g_iload_n fx dX11_number_59 rfl ?_
        refine g_goto (tgt := 64) fx dX11_number_60 (by decide) ?_
        exact g_iret fx rfl dX11_number_64 (by decide) (by decide) (gw_le.rf _) ⟨by rw [nNum]; (repeat first | rw [if_pos (by omega)] | rw [if_neg (by omega)]) <;> rfl, rfl, rfl⟩
set_option maxRecDepth 4000 in
theorem s_X11_behind (ad : Nat → Nat) (σ : Sg)  (j : Nat) (lo : Int) (hi : Int) (hj : j < 20) (hR : Rk σ) : gw_Sp yX11_behind cX11_behind 4 (some .int) 7 0 0 [vR (some 223), vX j, vI lo, vI hi] (gw_M0 ad) σ (gw_D (some (vI (nNum (nBeh1 σ j) lo hi))) (gw_M0 ad) (nNm2 (nBeh1 σ j) lo hi)) gw_no := by
  refine gw_Sp.of [some (vR (some 223)), some (vX j), some (vI lo), some (vI hi)] (by decide +kernel) rfl (Nat.le_of_ble_eq_true rfl) ?_
  intro X G fx het hnm
  refine g_aload_n fx dX11_behind_0 rfl ?_
  refine g_xload_n fx dX11_behind_1 rfl ?_
  refine g_callVD fx dX11_behind_2 mv_RX11_151 my_X11_took (s_X11_took ad _ j hj hR) o_223 rfl rfl rfl (Nat.le_of_ble_eq_true rfl) (by decide) (by decide) ?_
  refine g_if_ne (tgt := 13) fx dX11_behind_5 (by decide) (fun h5 => ?_) (fun h5 => ?_)
  · refine gw_cg (σ' := nBeh1 σ j) (by rw [nBeh1]; (repeat first | rw [if_pos (by omega)] | rw [if_neg (by omega)]) <;> rfl) rfl ?_
    refine g_aload_n fx dX11_behind_13 rfl ?_
    refine g_iload_n fx dX11_behind_14 rfl ?_
    refine g_iload_n fx dX11_behind_15 rfl ?_
    refine g_callVD fx dX11_behind_16 mv_RX11_154 my_X11_number (s_X11_number ad _ _ _ (Rk_beh hR j)) o_223 rfl rfl rfl (Nat.le_of_ble_eq_true rfl) (by decide) (by decide) ?_
    exact g_iret fx rfl dX11_behind_19 (by decide) (by decide) (gw_le.rf _) ⟨rfl, rfl, rfl⟩
  · refine g_aload_n fx dX11_behind_8 rfl ?_
    refine g_iconst fx dX11_behind_9 (by unfold okI; omega) ?_
    refine g_callVD0 fx dX11_behind_10 mv_RX11_143 my_X11_blames (s_X11_blames ad _ _) o_223 rfl rfl rfl (Nat.le_of_ble_eq_true rfl) (by decide) (by decide) ?_
    refine gw_cg (σ' := nBeh1 σ j) (by rw [nBeh1]; (repeat first | rw [if_pos (by omega)] | rw [if_neg (by omega)]) <;> rfl) rfl ?_
    refine g_aload_n fx dX11_behind_13 rfl ?_
    refine g_iload_n fx dX11_behind_14 rfl ?_
    refine g_iload_n fx dX11_behind_15 rfl ?_
    refine g_callVD fx dX11_behind_16 mv_RX11_154 my_X11_number (s_X11_number ad _ _ _ (Rk_beh hR j)) o_223 rfl rfl rfl (Nat.le_of_ble_eq_true rfl) (by decide) (by decide) ?_
    exact g_iret fx rfl dX11_behind_19 (by decide) (by decide) (gw_le.rf _) ⟨rfl, rfl, rfl⟩
set_option maxRecDepth 4000 in
theorem s_X11_ends (ad : Nat → Nat) (σ : Sg)  (hR : Rk σ) : gw_Sp yX11_ends cX11_ends 1 none 3 0 0 [vR (some 223)] (gw_M0 ad) σ (gw_D none (gw_M0 ad) (nEnds σ)) gw_no := by
  refine gw_Sp.of [some (vR (some 223))] (by decide +kernel) rfl (Nat.le_of_ble_eq_true rfl) ?_
  intro X G fx het hnm
  refine g_aload_n fx dX11_ends_0 rfl ?_
  refine g_geti fx dX11_ends_1 fk_RX11_103 (by decide) o_223 ?_
  refine g_iconst fx dX11_ends_4 (by unfold okI; omega) ?_
  refine g_icmp_eq (tgt := 13) fx dX11_ends_5 (by decide) (fun h5 => ?_) (fun h5 => ?_)
  · refine gw_cg (σ' := nEnd1 σ) (by rw [nEnd1]; (repeat first | rw [if_pos (by omega)] | rw [if_neg (by omega)]) <;> rfl) rfl ?_
    refine g_aload_n fx dX11_ends_13 rfl ?_
    refine g_geti fx dX11_ends_14 fk_RX11_120 (by decide) o_223 ?_
    refine g_if_ne (tgt := 24) fx dX11_ends_17 (by decide) (fun h17 => ?_) (fun h17 => ?_)
    · exact g_vret fx rfl dX11_ends_24 (by decide) (by decide) (gw_le.rf _) ⟨rfl, rfl, by rw [nEnds]; (repeat first | rw [if_pos (by omega)] | rw [if_neg (by omega)]) <;> rfl⟩
    · refine g_aload_n fx dX11_ends_20 rfl ?_
      refine g_callVD0 fx dX11_ends_21 mv_RX11_140 my_X11_reads (s_X11_readsR ad _ (Rk_end1 hR)) o_223 rfl rfl rfl (Nat.le_of_ble_eq_true rfl) (by decide) (by decide) ?_
      exact g_vret fx rfl dX11_ends_24 (by decide) (by decide) (gw_le.rf _) ⟨rfl, rfl, by rw [nEnds]; (repeat first | rw [if_pos (by omega)] | rw [if_neg (by omega)]) <;> rfl⟩
  · refine g_aload_n fx dX11_ends_8 rfl ?_
    refine g_iconst fx dX11_ends_9 (by unfold okI; omega) ?_
    refine g_callVD0 fx dX11_ends_10 mv_RX11_143 my_X11_blames (s_X11_blames ad _ _) o_223 rfl rfl rfl (Nat.le_of_ble_eq_true rfl) (by decide) (by decide) ?_
    refine gw_cg (σ' := nEnd1 σ) (by rw [nEnd1]; (repeat first | rw [if_pos (by omega)] | rw [if_neg (by omega)]) <;> rfl) rfl ?_
    refine g_aload_n fx dX11_ends_13 rfl ?_
    refine g_geti fx dX11_ends_14 fk_RX11_120 (by decide) o_223 ?_
    refine g_if_ne (tgt := 24) fx dX11_ends_17 (by decide) (fun h17 => ?_) (fun h17 => ?_)
    · exact g_vret fx rfl dX11_ends_24 (by decide) (by decide) (gw_le.rf _) ⟨rfl, rfl, by rw [nEnds]; (repeat first | rw [if_pos (by omega)] | rw [if_neg (by omega)]) <;> rfl⟩
    · refine g_aload_n fx dX11_ends_20 rfl ?_
      refine g_callVD0 fx dX11_ends_21 mv_RX11_140 my_X11_reads (s_X11_readsR ad _ (Rk_end1 hR)) o_223 rfl rfl rfl (Nat.le_of_ble_eq_true rfl) (by decide) (by decide) ?_
      exact g_vret fx rfl dX11_ends_24 (by decide) (by decide) (gw_le.rf _) ⟨rfl, rfl, by rw [nEnds]; (repeat first | rw [if_pos (by omega)] | rw [if_neg (by omega)]) <;> rfl⟩
