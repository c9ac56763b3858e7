theorem dX11_mill_114 : gw_dc cX11_mill 114 (.aload_n 0) 1 115 := ⟨by decide +kernel, rfl⟩
theorem dX11_mill_115 : gw_dc cX11_mill 115 (.aload_n 0) 1 116 := ⟨by decide +kernel, rfl⟩
theorem dX11_mill_116 : gw_dc cX11_mill 116 (.getfield 9) 3 119 := ⟨by decide +kernel, rfl⟩
theorem dX11_mill_119 : gw_dc cX11_mill 119 (.iconst 0) 1 120 := ⟨by decide +kernel, rfl⟩
theorem dX11_mill_120 : gw_dc cX11_mill 120 (.iaload) 1 121 := ⟨by decide +kernel, rfl⟩
theorem dX11_mill_121 : gw_dc cX11_mill 121 (.invokevirtual 208) 3 124 := ⟨by decide +kernel, rfl⟩
theorem mv_RX11_208 : gw_mv RX11 208 yX11_ended := ⟨gw_mem 1638 (by decide +kernel) rfl, gw_mem 1640 (by decide +kernel) rfl, gw_mem 51 (by decide +kernel) rfl⟩
theorem my_X11_ended : gw_my yX11_ended cX11_ended 2 (some .int) 1 := ⟨gw_mem 1641 (by decide +kernel) rfl, gw_mem 106 (by decide +kernel) rfl, by decide +kernel, by decide⟩
theorem dX11_mill_124 : decode cX11_mill 124 = .ok (.ireturn, 1) := by decide +kernel
theorem dX11_mill_0 : gw_dc cX11_mill 0 (.aload_n 0) 1 1 := ⟨by decide +kernel, rfl⟩
theorem dX11_mill_1 : gw_dc cX11_mill 1 (.iconst 0) 1 2 := ⟨by decide +kernel, rfl⟩
theorem dX11_mill_2 : gw_dc cX11_mill 2 (.putfield 88) 3 5 := ⟨by decide +kernel, rfl⟩
theorem dX11_mill_5 : gw_dc cX11_mill 5 (.iload_n 1) 1 6 := ⟨by decide +kernel, rfl⟩
theorem dX11_mill_6 : gw_dc cX11_mill 6 (.i2l) 1 7 := ⟨by decide +kernel, rfl⟩
theorem dX11_mill_7 : gw_dc cX11_mill 7 (.lconst 0) 1 8 := ⟨by decide +kernel, rfl⟩
theorem dX11_mill_8 : gw_dc cX11_mill 8 (.aload_n 0) 1 9 := ⟨by decide +kernel, rfl⟩
theorem dX11_mill_9 : gw_dc cX11_mill 9 (.getfield 91) 3 12 := ⟨by decide +kernel, rfl⟩
theorem dX11_mill_12 : gw_dc cX11_mill 12 (.i2l) 1 13 := ⟨by decide +kernel, rfl⟩
theorem dX11_mill_13 : gw_dc cX11_mill 13 (.invokestatic 147) 3 16 := ⟨by decide +kernel, rfl⟩
theorem dX11_mill_16 : gw_dc cX11_mill 16 (.ifCond .ne 9) 3 19 := ⟨by decide +kernel, rfl⟩
theorem dX11_mill_25 : gw_dc cX11_mill 25 (.aload_n 0) 1 26 := ⟨by decide +kernel, rfl⟩
theorem dX11_mill_26 : gw_dc cX11_mill 26 (.iload_n 1) 1 27 := ⟨by decide +kernel, rfl⟩
theorem dX11_mill_27 : gw_dc cX11_mill 27 (.invokevirtual 194) 3 30 := ⟨by decide +kernel, rfl⟩
theorem mv_RX11_194 : gw_mv RX11 194 yX11_starts := ⟨gw_mem 1568 (by decide +kernel) rfl, gw_mem 1570 (by decide +kernel) rfl, gw_mem 39 (by decide +kernel) rfl⟩
theorem my_X11_starts : gw_my yX11_starts cX11_starts 2 none 1 := ⟨gw_mem 1571 (by decide +kernel) rfl, gw_mem 106 (by decide +kernel) rfl, by decide +kernel, by decide⟩
theorem dX11_mill_30 : gw_dc cX11_mill 30 (.iconst 0) 1 31 := ⟨by decide +kernel, rfl⟩
theorem dX11_mill_31 : gw_dc cX11_mill 31 (.istore_n 2) 1 32 := ⟨by decide +kernel, rfl⟩
theorem dX11_mill_32 : gw_dc cX11_mill 32 (.iload_n 2) 1 33 := ⟨by decide +kernel, rfl⟩
theorem dX11_mill_33 : gw_dc cX11_mill 33 (.sipush 672) 3 36 := ⟨by decide +kernel, rfl⟩
theorem dX11_mill_36 : gw_dc cX11_mill 36 (.if_icmp .ge 39) 3 39 := ⟨by decide +kernel, rfl⟩
theorem dX11_mill_75 : gw_dc cX11_mill 75 (.aload_n 0) 1 76 := ⟨by decide +kernel, rfl⟩
theorem dX11_mill_76 : gw_dc cX11_mill 76 (.getfield 120) 3 79 := ⟨by decide +kernel, rfl⟩
theorem dX11_mill_79 : gw_dc cX11_mill 79 (.ifCond .ne 17) 3 82 := ⟨by decide +kernel, rfl⟩
theorem dX11_mill_96 : gw_dc cX11_mill 96 (.aload_n 0) 1 97 := ⟨by decide +kernel, rfl⟩
theorem dX11_mill_97 : gw_dc cX11_mill 97 (.getfield 120) 3 100 := ⟨by decide +kernel, rfl⟩
theorem dX11_mill_100 : gw_dc cX11_mill 100 (.ifCond .ne 14) 3 103 := ⟨by decide +kernel, rfl⟩
theorem dX11_mill_103 : gw_dc cX11_mill 103 (.aload_n 0) 1 104 := ⟨by decide +kernel, rfl⟩
theorem dX11_mill_104 : gw_dc cX11_mill 104 (.getfield 13) 3 107 := ⟨by decide +kernel, rfl⟩
theorem dX11_mill_107 : gw_dc cX11_mill 107 (.aload_n 0) 1 108 := ⟨by decide +kernel, rfl⟩
theorem dX11_mill_108 : gw_dc cX11_mill 108 (.getfield 9) 3 111 := ⟨by decide +kernel, rfl⟩
theorem dX11_mill_111 : gw_dc cX11_mill 111 (.invokestatic 204) 3 114 := ⟨by decide +kernel, rfl⟩
theorem ms_RX11_204 : gw_mst RX11 204 yX11_copies := ⟨gw_mem 1635 (by decide +kernel) rfl, gw_mem 1636 (by decide +kernel) rfl⟩
theorem my_X11_copies : gw_my yX11_copies cX11_copies 3 none 2 := ⟨gw_mem 1637 (by decide +kernel) rfl, gw_mem 106 (by decide +kernel) rfl, by decide +kernel, by decide⟩
theorem dX11_mill_82 : gw_dc cX11_mill 82 (.aload_n 0) 1 83 := ⟨by decide +kernel, rfl⟩
theorem dX11_mill_83 : gw_dc cX11_mill 83 (.getfield 103) 3 86 := ⟨by decide +kernel, rfl⟩
theorem dX11_mill_86 : gw_dc cX11_mill 86 (.ifCond .eq 10) 3 89 := ⟨by decide +kernel, rfl⟩
theorem dX11_mill_89 : gw_dc cX11_mill 89 (.aload_n 0) 1 90 := ⟨by decide +kernel, rfl⟩
theorem dX11_mill_90 : gw_dc cX11_mill 90 (.invokevirtual 201) 3 93 := ⟨by decide +kernel, rfl⟩
theorem mv_RX11_201 : gw_mv RX11 201 yX11_readLine := ⟨gw_mem 1588 (by decide +kernel) rfl, gw_mem 1590 (by decide +kernel) rfl, gw_mem 42 (by decide +kernel) rfl⟩
theorem my_X11_readLine : gw_my yX11_readLine cX11_readLine 1 none 0 := ⟨gw_mem 1591 (by decide +kernel) rfl, gw_mem 106 (by decide +kernel) rfl, by decide +kernel, by decide⟩
theorem dX11_mill_93 : gw_dc cX11_mill 93 (.goto (-18)) 3 96 := ⟨by decide +kernel, rfl⟩
theorem dX11_mill_39 : gw_dc cX11_mill 39 (.aload_n 0) 1 40 := ⟨by decide +kernel, rfl⟩
theorem dX11_mill_40 : gw_dc cX11_mill 40 (.getfield 13) 3 43 := ⟨by decide +kernel, rfl⟩
theorem dX11_mill_43 : gw_dc cX11_mill 43 (.iload_n 2) 1 44 := ⟨by decide +kernel, rfl⟩
theorem dX11_mill_44 : gw_dc cX11_mill 44 (.iload_n 2) 1 45 := ⟨by decide +kernel, rfl⟩
theorem dX11_mill_45 : gw_dc cX11_mill 45 (.i2l) 1 46 := ⟨by decide +kernel, rfl⟩
theorem dX11_mill_46 : gw_dc cX11_mill 46 (.ldc2_w 197) 3 49 := ⟨by decide +kernel, rfl⟩
theorem kc_RX11_197 : Cond.constantLong RX11 197 (Int64.ofInt 8) ∈ wsG := gw_mem 1586 (by decide +kernel) rfl
theorem dX11_mill_49 : gw_dc cX11_mill 49 (.ldc2_w 199) 3 52 := ⟨by decide +kernel, rfl⟩
theorem kc_RX11_199 : Cond.constantLong RX11 199 (Int64.ofInt 17) ∈ wsG := gw_mem 1587 (by decide +kernel) rfl
theorem dX11_mill_52 : gw_dc cX11_mill 52 (.invokestatic 147) 3 55 := ⟨by decide +kernel, rfl⟩
theorem dX11_mill_55 : gw_dc cX11_mill 55 (.ifCond .eq 12) 3 58 := ⟨by decide +kernel, rfl⟩
theorem dX11_mill_67 : gw_dc cX11_mill 67 (.iconst 0) 1 68 := ⟨by decide +kernel, rfl⟩
theorem dX11_mill_68 : gw_dc cX11_mill 68 (.iastore) 1 69 := ⟨by decide +kernel, rfl⟩
theorem dX11_mill_69 : gw_dc cX11_mill 69 (.iinc 2 1) 3 72 := ⟨by decide +kernel, rfl⟩
theorem dX11_mill_72 : gw_dc cX11_mill 72 (.goto (-40)) 3 75 := ⟨by decide +kernel, rfl⟩
theorem dX11_mill_58 : gw_dc cX11_mill 58 (.aload_n 0) 1 59 := ⟨by decide +kernel, rfl⟩
theorem dX11_mill_59 : gw_dc cX11_mill 59 (.getfield 9) 3 62 := ⟨by decide +kernel, rfl⟩
theorem dX11_mill_62 : gw_dc cX11_mill 62 (.iload_n 2) 1 63 := ⟨by decide +kernel, rfl⟩
theorem dX11_mill_63 : gw_dc cX11_mill 63 (.iaload) 1 64 := ⟨by decide +kernel, rfl⟩
theorem dX11_mill_64 : gw_dc cX11_mill 64 (.goto 4) 3 67 := ⟨by decide +kernel, rfl⟩
theorem dX11_mill_19 : gw_dc cX11_mill 19 (.aload_n 0) 1 20 := ⟨by decide +kernel, rfl⟩
theorem dX11_mill_20 : gw_dc cX11_mill 20 (.iconst 1) 1 21 := ⟨by decide +kernel, rfl⟩
theorem dX11_mill_21 : gw_dc cX11_mill 21 (.invokevirtual 191) 3 24 := ⟨by decide +kernel, rfl⟩
theorem dX11_mill_24 : decode cX11_mill 24 = .ok (.ireturn, 1) := by decide +kernel
theorem dX11_law_107 : gw_dc cX11_law 107 (.aload_n 0) 1 108 := ⟨by decide +kernel, rfl⟩
theorem dX11_law_108 : gw_dc cX11_law 108 (.aload_n 0) 1 109 := ⟨by decide +kernel, rfl⟩
theorem dX11_law_109 : gw_dc cX11_law 109 (.getfield 9) 3 112 := ⟨by decide +kernel, rfl⟩
theorem dX11_law_112 : gw_dc cX11_law 112 (.bipush 8) 2 114 := ⟨by decide +kernel, rfl⟩
theorem dX11_law_114 : gw_dc cX11_law 114 (.iaload) 1 115 := ⟨by decide +kernel, rfl⟩
theorem dX11_law_115 : gw_dc cX11_law 115 (.invokevirtual 208) 3 118 := ⟨by decide +kernel, rfl⟩
theorem dX11_law_118 : decode cX11_law 118 = .ok (.ireturn, 1) := by decide +kernel
theorem dX11_law_0 : gw_dc cX11_law 0 (.aload_n 0) 1 1 := ⟨by decide +kernel, rfl⟩
theorem dX11_law_1 : gw_dc cX11_law 1 (.iconst 0) 1 2 := ⟨by decide +kernel, rfl⟩
theorem dX11_law_2 : gw_dc cX11_law 2 (.putfield 88) 3 5 := ⟨by decide +kernel, rfl⟩
theorem dX11_law_5 : gw_dc cX11_law 5 (.iload_n 1) 1 6 := ⟨by decide +kernel, rfl⟩
theorem dX11_law_6 : gw_dc cX11_law 6 (.i2l) 1 7 := ⟨by decide +kernel, rfl⟩
theorem dX11_law_7 : gw_dc cX11_law 7 (.lconst 0) 1 8 := ⟨by decide +kernel, rfl⟩
theorem dX11_law_8 : gw_dc cX11_law 8 (.aload_n 0) 1 9 := ⟨by decide +kernel, rfl⟩
theorem dX11_law_9 : gw_dc cX11_law 9 (.getfield 91) 3 12 := ⟨by decide +kernel, rfl⟩
theorem dX11_law_12 : gw_dc cX11_law 12 (.i2l) 1 13 := ⟨by decide +kernel, rfl⟩
theorem dX11_law_13 : gw_dc cX11_law 13 (.invokestatic 147) 3 16 := ⟨by decide +kernel, rfl⟩
theorem dX11_law_16 : gw_dc cX11_law 16 (.ifCond .ne 9) 3 19 := ⟨by decide +kernel, rfl⟩
theorem dX11_law_25 : gw_dc cX11_law 25 (.aload_n 0) 1 26 := ⟨by decide +kernel, rfl⟩
theorem dX11_law_26 : gw_dc cX11_law 26 (.iload_n 1) 1 27 := ⟨by decide +kernel, rfl⟩
theorem dX11_law_27 : gw_dc cX11_law 27 (.invokevirtual 194) 3 30 := ⟨by decide +kernel, rfl⟩
theorem dX11_law_30 : gw_dc cX11_law 30 (.bipush 8) 2 32 := ⟨by decide +kernel, rfl⟩
theorem dX11_law_32 : gw_dc cX11_law 32 (.istore_n 2) 1 33 := ⟨by decide +kernel, rfl⟩
theorem dX11_law_33 : gw_dc cX11_law 33 (.iload_n 2) 1 34 := ⟨by decide +kernel, rfl⟩
theorem dX11_law_34 : gw_dc cX11_law 34 (.bipush 17) 2 36 := ⟨by decide +kernel, rfl⟩
theorem dX11_law_36 : gw_dc cX11_law 36 (.if_icmp .gt 16) 3 39 := ⟨by decide +kernel, rfl⟩
theorem dX11_law_52 : gw_dc cX11_law 52 (.aload_n 0) 1 53 := ⟨by decide +kernel, rfl⟩
theorem dX11_law_53 : gw_dc cX11_law 53 (.getfield 120) 3 56 := ⟨by decide +kernel, rfl⟩
theorem dX11_law_56 : gw_dc cX11_law 56 (.ifCond .ne 17) 3 59 := ⟨by decide +kernel, rfl⟩
theorem dX11_law_73 : gw_dc cX11_law 73 (.aload_n 0) 1 74 := ⟨by decide +kernel, rfl⟩
theorem dX11_law_74 : gw_dc cX11_law 74 (.getfield 120) 3 77 := ⟨by decide +kernel, rfl⟩
theorem dX11_law_77 : gw_dc cX11_law 77 (.ifCond .ne 30) 3 80 := ⟨by decide +kernel, rfl⟩
theorem dX11_law_80 : gw_dc cX11_law 80 (.bipush 8) 2 82 := ⟨by decide +kernel, rfl⟩
theorem dX11_law_82 : gw_dc cX11_law 82 (.istore_n 2) 1 83 := ⟨by decide +kernel, rfl⟩
theorem dX11_law_83 : gw_dc cX11_law 83 (.iload_n 2) 1 84 := ⟨by decide +kernel, rfl⟩
theorem dX11_law_84 : gw_dc cX11_law 84 (.bipush 17) 2 86 := ⟨by decide +kernel, rfl⟩
theorem dX11_law_86 : gw_dc cX11_law 86 (.if_icmp .gt 21) 3 89 := ⟨by decide +kernel, rfl⟩
theorem dX11_law_89 : gw_dc cX11_law 89 (.aload_n 0) 1 90 := ⟨by decide +kernel, rfl⟩
theorem dX11_law_90 : gw_dc cX11_law 90 (.getfield 9) 3 93 := ⟨by decide +kernel, rfl⟩
theorem dX11_law_93 : gw_dc cX11_law 93 (.iload_n 2) 1 94 := ⟨by decide +kernel, rfl⟩
theorem dX11_law_94 : gw_dc cX11_law 94 (.aload_n 0) 1 95 := ⟨by decide +kernel, rfl⟩
theorem dX11_law_95 : gw_dc cX11_law 95 (.getfield 13) 3 98 := ⟨by decide +kernel, rfl⟩
theorem dX11_law_98 : gw_dc cX11_law 98 (.iload_n 2) 1 99 := ⟨by decide +kernel, rfl⟩
theorem dX11_law_99 : gw_dc cX11_law 99 (.iaload) 1 100 := ⟨by decide +kernel, rfl⟩
theorem dX11_law_100 : gw_dc cX11_law 100 (.iastore) 1 101 := ⟨by decide +kernel, rfl⟩
theorem dX11_law_101 : gw_dc cX11_law 101 (.iinc 2 1) 3 104 := ⟨by decide +kernel, rfl⟩
theorem dX11_law_104 : gw_dc cX11_law 104 (.goto (-21)) 3 107 := ⟨by decide +kernel, rfl⟩
theorem dX11_law_59 : gw_dc cX11_law 59 (.aload_n 0) 1 60 := ⟨by decide +kernel, rfl⟩
theorem dX11_law_60 : gw_dc cX11_law 60 (.getfield 103) 3 63 := ⟨by decide +kernel, rfl⟩
theorem dX11_law_63 : gw_dc cX11_law 63 (.ifCond .eq 10) 3 66 := ⟨by decide +kernel, rfl⟩
theorem dX11_law_66 : gw_dc cX11_law 66 (.aload_n 0) 1 67 := ⟨by decide +kernel, rfl⟩
theorem dX11_law_67 : gw_dc cX11_law 67 (.invokevirtual 239) 3 70 := ⟨by decide +kernel, rfl⟩
theorem mv_RX11_239 : gw_mv RX11 239 yX11_readRule := ⟨gw_mem 1646 (by decide +kernel) rfl, gw_mem 1648 (by decide +kernel) rfl, gw_mem 52 (by decide +kernel) rfl⟩
theorem my_X11_readRule : gw_my yX11_readRule cX11_readRule 1 none 0 := ⟨gw_mem 1649 (by decide +kernel) rfl, gw_mem 106 (by decide +kernel) rfl, by decide +kernel, by decide⟩
theorem dX11_law_70 : gw_dc cX11_law 70 (.goto (-18)) 3 73 := ⟨by decide +kernel, rfl⟩
theorem dX11_law_39 : gw_dc cX11_law 39 (.aload_n 0) 1 40 := ⟨by decide +kernel, rfl⟩
theorem dX11_law_40 : gw_dc cX11_law 40 (.getfield 13) 3 43 := ⟨by decide +kernel, rfl⟩
theorem dX11_law_43 : gw_dc cX11_law 43 (.iload_n 2) 1 44 := ⟨by decide +kernel, rfl⟩
theorem dX11_law_44 : gw_dc cX11_law 44 (.iconst 0) 1 45 := ⟨by decide +kernel, rfl⟩
theorem dX11_law_45 : gw_dc cX11_law 45 (.iastore) 1 46 := ⟨by decide +kernel, rfl⟩
theorem dX11_law_46 : gw_dc cX11_law 46 (.iinc 2 1) 3 49 := ⟨by decide +kernel, rfl⟩
theorem dX11_law_49 : gw_dc cX11_law 49 (.goto (-16)) 3 52 := ⟨by decide +kernel, rfl⟩
theorem dX11_law_19 : gw_dc cX11_law 19 (.aload_n 0) 1 20 := ⟨by decide +kernel, rfl⟩
theorem dX11_law_20 : gw_dc cX11_law 20 (.iconst 1) 1 21 := ⟨by decide +kernel, rfl⟩
theorem dX11_law_21 : gw_dc cX11_law 21 (.invokevirtual 191) 3 24 := ⟨by decide +kernel, rfl⟩
theorem dX11_law_24 : decode cX11_law 24 = .ok (.ireturn, 1) := by decide +kernel
/-! The model, 16: both texts read: the reader goes on -/
def Pk (a : Int) (σ : Sg) : Prop := Rk σ ∧ a ≤ σ 223 9
theorem nRd_at {σ : Sg} (h : Rk σ) : σ 223 9 ≤ nRd σ 223 9 := by
  have h1 := nRd_b σ
  have h2 := (Rk_rd' h).2.1
  omega
theorem Pk_rd {a : Int} {σ : Sg} (h : Pk a σ) : Pk a (nRd σ) := ⟨Rk_rd' h.1, Int.le_trans h.2 (nRd_at h.1)⟩
theorem Pk_bl {a : Int} {σ : Sg} (h : Pk a σ) (w : Int) : Pk a (nBl σ w) := ⟨Rk_bl h.1 w, by rw [nBl_ne _ _ (Or.inr (by decide))]; exact h.2⟩
theorem Pk_su {a : Int} {σ : Sg} (h : Pk a σ) {b k : Nat} (v : Int) (hb : b ≠ 223) : Pk a (su σ b k v) := ⟨Rk_su h.1 v hb, by rw [su_ne _ _ (Or.inl (Ne.symm hb))]; exact h.2⟩
theorem Pk_tak {a : Int} {σ : Sg} (h : Pk a σ) (j : Nat) : Pk a (nTak σ j) := by
  rw [nTak]; split; exact h; exact Pk_rd h
theorem Pk_nm1 {a : Int} {σ : Sg} (h : Pk a σ) (lo hi : Int) : Pk a (nNm1 σ lo hi) := by
  rw [nNm1]; split; exact Pk_bl h _; split; exact Pk_bl h _; exact h
theorem Pk_num {a : Int} {σ : Sg} (h : Pk a σ) (lo hi : Int) : Pk a (nNm2 σ lo hi) := by
  rw [nNm2]; split; exact Pk_rd (Pk_nm1 h lo hi); exact Pk_nm1 h lo hi
theorem Pk_beh {a : Int} {σ : Sg} (h : Pk a σ) (j : Nat) : Pk a (nBeh1 σ j) := by
  rw [nBeh1]; split; exact Pk_bl (Pk_tak h j) _; exact Pk_tak h j
theorem Pk_end1 {a : Int} {σ : Sg} (h : Pk a σ) : Pk a (nEnd1 σ) := by
  rw [nEnd1]; split; exact Pk_bl h _; exact h
theorem Pk_stn {a : Int} {σ : Sg} (h : Pk a σ) : Pk a (nStn1 σ) := by rw [nStn1]; split; exact Pk_bl h _; exact h
theorem Pk_rk2 {a : Int} {σ : Sg} (h : Pk a σ) : Pk a (nRk2 σ) := by
  have h1 : Pk a (nRk1 σ) := by rw [nRk1]; split; exact Pk_bl h _; exact h
  rw [nRk2]; split; exact Pk_bl h1 _; exact h1
theorem Pk_rk4 {a : Int} {σ : Sg} (h : Pk a σ) : Pk a (nRk4 σ) := Pk_su (Pk_su (Pk_rk2 h) _ (by decide)) _ (by decide)
theorem Pk_op {a : Int} {σ : Sg} (h : Pk a σ) (j : Nat) (lo hi df : Int) : Pk a (nOp σ j lo hi df).2 := by
  rw [nOp]; split; exact Pk_tak h j; exact Pk_num (Pk_tak h j) _ _
theorem Pk_q0 {a : Int} {σ : Sg} (h : Pk a σ) : Pk a (nq0 σ) := by rw [nq0]; split; exact Pk_bl h _; exact h
theorem Pk_q1 {a : Int} {σ : Sg} (h : Pk a σ) : Pk a (nq1 σ) := Pk_num (Pk_rd (Pk_q0 h)) _ _
theorem Pk_q2 {a : Int} {σ : Sg} (h : Pk a σ) : Pk a (nq2 σ) := Pk_num (Pk_beh (Pk_q1 h) _) _ _
theorem Pk_q3 {a : Int} {σ : Sg} (h : Pk a σ) : Pk a (nq3 σ) := Pk_num (Pk_beh (Pk_q2 h) _) _ _
theorem Pk_q4 {a : Int} {σ : Sg} (h : Pk a σ) : Pk a (nq4 σ).2 := Pk_op (Pk_q3 h) _ _ _ _
theorem Pk_q5 {a : Int} {σ : Sg} (h : Pk a σ) : Pk a (nq5 σ).2 := Pk_op (Pk_q4 h) _ _ _ _
theorem Pk_q6 {a : Int} {σ : Sg} (h : Pk a σ) : Pk a (nq6 σ).2 := Pk_op (Pk_q5 h) _ _ _ _
theorem Pk_stnF {a : Int} {σ : Sg} (h : Pk a σ) : Pk a (nStn σ) := by
  have h2 : Pk a (nStn2 σ) := Pk_num (Pk_rd (Pk_stn h)) _ _
  rw [nStn]; split
  · exact Pk_stn h
  · split
    · exact h2
    · exact Pk_su (Pk_su h2 _ (by decide)) _ (by decide)
theorem Pk_sk {a : Int} {σ : Sg} (h : Pk a σ) : Pk a (nSk σ) := by
  have h1 : Pk a (nz1 σ) := Pk_su (Pk_q6 h) _ (by decide)
  have h2 : Pk a (nz2 σ) := Pk_su h1 _ (by decide)
  have h3 : Pk a (nz3 σ) := Pk_su h2 _ (by decide)
  have h4 : Pk a (nz4 σ) := Pk_su h3 _ (by decide)
  have h5 : Pk a (nz5 σ) := Pk_su h4 _ (by decide)
  have h6 : Pk a (nz6 σ) := Pk_su h5 _ (by decide)
  have h7 : Pk a (nz7 σ) := Pk_su h6 _ (by decide)
  have h8 : Pk a (nz8 σ) := Pk_su h7 _ (by decide)
  have h9 : Pk a (nz9 σ) := Pk_su h8 _ (by decide)
  rw [nSk]; split
  · exact Pk_q0 h
  · split
    · exact Pk_q6 h
    · exact Pk_su h9 _ (by decide)
theorem Pk_lb {a : Int} {σ : Sg} (h : Pk a σ) : Pk a (nLb σ) := by
  have h1 := Pk_tak h 1
  have h2 := Pk_tak h1 2
  rw [nLb]; split
  · exact Pk_stnF h
  · split
    · exact Pk_su (Pk_num h1 _ _) _ (by decide)
    · split
      · exact Pk_su (Pk_num h2 _ _) _ (by decide)
      · split
        · exact Pk_sk h2
        · exact Pk_bl h2 _
theorem Pk_rk {a : Int} {σ : Sg} (h : Pk a σ) : Pk a (nRk σ) := by
  rw [nRk]; split
  · exact Pk_rk2 h
  · exact Pk_rd (Pk_rk4 h)
theorem Pk_th : ∀ {a : Int} n {x : Sg}, Pk a x → Pk a (nTh n x) := by
  intro a n
  induction n with
  | zero => exact fun h => h
  | succ n ih => intro x h; rw [nTh]; split; exact Pk_tak h _; exact ih (Pk_rk (Pk_tak h _))
theorem Pk_rb {a : Int} {σ : Sg} (h : Pk a σ) : Pk a (nRb σ) := by
  have h1 := Pk_tak h 9
  have h2 := Pk_tak h1 11
  rw [nRb]; split
  · exact Pk_th _ (Pk_rk h1)
  · split
    · exact Pk_su (Pk_num h2 _ _) _ (by decide)
    · exact Pk_bl h2 _
/-- the token that was read is no empty one -/
theorem nf_rd {σ : Sg} (h : nRd σ 223 11 ≠ 0) : nRd σ 223 10 < nRd σ 223 9 := by
  rw [nRd] at h ⊢
  split
  · next q => rw [if_pos q] at h; exact absurd rfl h
  · next q =>
    split
    · next q2 =>
      show nWs σ < nLt σ
      unfold nLt
      obtain ⟨m, hm⟩ : ∃ m, (σ 223 8 - nWs σ).toNat = m + 1 := ⟨(σ 223 8 - nWs σ).toNat - 1, by omega⟩
      have := (ltp_rg (σ 223 8) (tpF σ) m (nWs σ + 1)).1
      rw [hm, ltp, if_pos ⟨by omega, q2⟩]; omega
    · split
      · next q2 q3 =>
        show nWs σ < (nDg σ).2
        unfold nDg
        obtain ⟨m, hm⟩ : ∃ m, (σ 223 8 - nWs σ).toNat = m + 1 := ⟨(σ 223 8 - nWs σ).toNat - 1, by omega⟩
        rw [hm, dgp, if_pos ⟨by omega, q3⟩]
        have := (dgp_rg (σ 223 8) (tpF σ) (nWs σ) m (if wr (nWs σ - nWs σ) < 3 then wr (wr (wr (0 * 10) + tpF σ (nWs σ)) - 48) else 0) (nWs σ + 1)).1
        omega
      · show nWs σ < nWs σ + 1
        omega
/-- at the head of a text's loop: the reader stands within the tape, on a token that is no empty one -/
def Hd (σ : Sg) : Prop := Rk σ ∧ (σ 223 11 ≠ 0 → σ 223 10 < σ 223 9)
theorem Hd_rd {σ : Sg} (h : Rk σ) : Hd (nRd σ) := ⟨Rk_rd' h, nf_rd⟩
theorem Hd_ends {σ : Sg} (h : Rk σ) (hb : nEnds σ 223 13 = 0) : Hd (nEnds σ) ∧ σ 223 9 ≤ nEnds σ 223 10 := by
  rw [nEnds] at hb ⊢
  split
  · next q =>
    have e : nEnd1 σ = σ := by
      rw [nEnd1] at q ⊢; split
      · next q2 => rw [if_pos q2] at q; exact absurd q (nBl_13 _ (by decide))
      · rfl
    rw [e]
    exact ⟨Hd_rd h, nRd_b σ⟩
  · next q => rw [if_neg q] at hb; exact absurd hb q
theorem nEnds_ne (σ : Sg) {a : Nat} (h : a ≠ 223) (j : Nat) : nEnds σ a j = σ a j := by
  have h1 : nEnd1 σ a j = σ a j := by rw [nEnd1]; split; exact nBl_ne _ _ (Or.inl h); rfl
  rw [nEnds]; split
  · rw [nRd_ne _ h]; exact h1
  · exact h1
theorem nz10_1 (σ : Sg) (h : 0 ≤ σ 225 4) : nz10 σ 225 1 = σ 225 1 := by
  rw [nz10, su_ne _ _ (Or.inr (by omega)), nz9, su_ne _ _ (Or.inr (by omega)), nz8, su_ne _ _ (Or.inr (by omega)), nz7, su_ne _ _ (Or.inr (by omega)), nz6, su_ne _ _ (Or.inr (by omega)), nz5, su_ne _ _ (Or.inr (by omega)), nz4, su_ne _ _ (Or.inr (by omega)), nz3, su_ne _ _ (Or.inr (by omega)), nz2, su_ne _ _ (Or.inr (by omega)), nz1, su_ne _ _ (Or.inr (by omega)), nq6_ne _ (by decide)]
theorem nz10_4 (σ : Sg) (h : 0 ≤ σ 225 4) : nz10 σ 225 4 = wr (σ 225 4 + 1) := by
  rw [nz10, su_ne _ _ (Or.inr (by omega)), nz9, su_same, nz8, su_ne _ _ (Or.inr (by omega)), nz7_4 σ h]
/-- how many stones, sacks are told, in bounds -/
def Fb (σ : Sg) : Prop := (0 ≤ σ 225 1 ∧ σ 225 1 ≤ 3) ∧ 0 ≤ σ 225 4 ∧ σ 225 4 ≤ 24
theorem Fb_of {σ σ' : Sg} (h : ∀ j, σ' 225 j = σ 225 j) (hF : Fb σ) : Fb σ' := by unfold Fb; rw [h, h]; exact hF
theorem Fb_stn {σ : Sg} (h : Fb σ) : Fb (nStn σ) := by
  have e1 : ∀ j, nStn1 σ 225 j = σ 225 j := fun j => nStn_ne σ (by decide) j
  have e2 : ∀ j, nStn2 σ 225 j = σ 225 j := fun j => by rw [nStn2, nNm2_ne _ _ _ (by decide), nRd_ne _ (by decide)]; exact e1 j
  rw [nStn]; split
  · exact Fb_of e1 h
  · next q =>
    split
    · exact Fb_of e2 h
    · have h3 : σ 225 1 ≠ 3 := fun e => by
        rw [nStn1, if_pos e] at q
        exact q (nBl_13 _ (by decide))
      obtain ⟨h1, h2⟩ := h
      have e3 : nStn3 σ 225 1 = σ 225 1 := by rw [nStn3, su_ne _ _ (Or.inr (by rw [e2]; omega)), e2]
      have e4 : nStn3 σ 225 4 = σ 225 4 := by rw [nStn3, su_ne _ _ (Or.inr (by rw [e2]; omega)), e2]
      refine ⟨?_, ?_⟩
      · rw [su_same, e3, wr_id (by unfold okI; omega)]; omega
      · rw [su_ne _ _ (Or.inr (by decide)), e4]; exact h2
theorem Fb_sk {σ : Sg} (h : Fb σ) : Fb (nSk σ) := by
  rw [nSk]; split
  · exact Fb_of (fun j => nq0_ne σ (by decide) j) h
  · next q =>
    split
    · exact Fb_of (fun j => nq6_ne σ (by decide) j) h
    · have h3 : σ 225 4 ≠ 24 := fun e => by
        rw [nq0, if_pos e] at q
        exact q (nBl_13 _ (by decide))
      obtain ⟨h1, h2⟩ := h
      refine ⟨?_, ?_⟩
      · rw [nz10_1 σ h2.1]; exact h1
      · rw [nz10_4 σ h2.1, wr_id (by unfold okI; omega)]; omega
theorem Fb_su {σ : Sg} (h : Fb σ) {j : Nat} (v : Int) (hj : j ≠ 1 ∧ j ≠ 4) : Fb (su σ 225 j v) := by
  unfold Fb; rw [su_ne _ _ (Or.inr (by omega)), su_ne _ _ (Or.inr (by omega))]; exact h
theorem Fb_lb {σ : Sg} (h : Fb σ) : Fb (nLb σ) := by
  have t1 : ∀ j, nTak σ 1 225 j = σ 225 j := fun j => nTak_ne σ 1 (by decide) j
  have t2 : ∀ j, nTak (nTak σ 1) 2 225 j = σ 225 j := fun j => by rw [nTak_ne _ _ (by decide)]; exact t1 j
  rw [nLb]; split
  · exact Fb_stn h
  · split
    · exact Fb_su (Fb_of (fun j => by rw [nNm2_ne _ _ _ (by decide)]; exact t1 j) h) _ (by decide)
    · split
      · exact Fb_su (Fb_of (fun j => by rw [nNm2_ne _ _ _ (by decide)]; exact t2 j) h) _ (by decide)
      · split
        · exact Fb_sk (Fb_of t2 h)
        · exact Fb_of (fun j => by rw [nBl_ne _ _ (Or.inl (by decide))]; exact t2 j) h
theorem Fb_ln {σ : Sg} (h : Fb σ) : Fb (nLn σ) := by
  have h1 : Fb (nEnds (nLb σ)) := Fb_of (fun j => nEnds_ne _ (by decide) j) (Fb_lb h)
  rw [nLn]; split
  · exact Fb_su h1 _ (by decide)
  · exact h1
theorem Hd_ln {x : Sg} (h : Hd x) (ht : x 223 11 ≠ 0) (hb : nLn x 223 13 = 0) : Hd (nLn x) ∧ x 223 10 < nLn x 223 10 := by
  have h1 := h.2 ht
  have h2 := Pk_lb (a := x 223 9) ⟨h.1, Int.le_refl _⟩
  rw [nLn] at hb ⊢
  split
  · next q =>
    obtain ⟨h3, h4⟩ := Hd_ends h2.1 q
    refine ⟨⟨Rk_su h3.1 _ (by decide), ?_⟩, ?_⟩
    · rw [su_ne _ _ (Or.inl (by decide)), su_ne _ _ (Or.inl (by decide)), su_ne _ _ (Or.inl (by decide))]; exact h3.2
    · rw [su_ne _ _ (Or.inl (by decide))]; have := h2.2; omega
  · next q => rw [if_neg q] at hb; exact absurd hb q
def nMlL : Nat → Sg → Sg
  | 0, x => x
  | n + 1, x => if x 223 13 = 0 ∧ x 223 11 ≠ 0 then nMlL n (nLn x) else x
def nMlM : Nat := 902
theorem nMlL_x (n : Nat) (x : Sg) (h : ¬ (x 223 13 = 0 ∧ x 223 11 ≠ 0)) : nMlL n x = x := by
  cases n with
  | zero => rfl
  | succ n => rw [nMlL, if_neg h]
def nMc (k : Nat) (x : Sg) : Sg := su x 225 k (if wth ((k : Nat) : Int) 8 17 = 0 then 0 else x 224 k)
def nMl0 (σ : Sg) (n : Int) (N : Nat) : Sg := itr N nMc (nSt (nT0 σ) n)
def nMl1 (σ : Sg) (n : Int) (N : Nat) : Sg := nMlL nMlM (nMl0 σ n N)
def nMl2 (σ : Sg) (n : Int) (N : Nat) : Sg := if nMl1 σ n N 223 13 = 0 then nCp (nMl1 σ n N) 225 224 else nMl1 σ n N
def nMl (σ : Sg) (n : Int) (N : Nat) : Int × Sg := if wth n 0 (σ 223 7) = 0 then (0, nThr (nT0 σ) 1) else (nEnV (nMl2 σ n N) (nMl2 σ n N 224 0), nEn (nMl2 σ n N))
theorem nMc_ne (n : Nat) (x : Sg) {a : Nat} (h : a ≠ 225) (j : Nat) : itr n nMc x a j = x a j := by
  induction n with
  | zero => rfl
  | succ n ih => rw [itr_s, nMc, su_ne _ _ (Or.inl h)]; exact ih
theorem nMc_z (n : Nat) (x : Sg) {j : Nat} (h : j < 8) (hn : j < n) : itr n nMc x 225 j = 0 := by
  induction n with
  | zero => omega
  | succ n ih =>
    rw [itr_s, nMc]
    by_cases q : j = n
    · subst q
      have e : wth ((j : Nat) : Int) 8 17 = 0 := by unfold wth; rw [if_neg (by omega)]
      rw [su_same, if_pos e]
    · rw [su_ne _ _ (Or.inr q)]; exact ih (by omega)
theorem Rk_of {σ σ' : Sg} (h : ∀ j, σ' 223 j = σ 223 j) (hR : Rk σ) : Rk σ' := by unfold Rk; rw [h, h, h]; exact hR
theorem Hd_of {σ σ' : Sg} (h : ∀ j, σ' 223 j = σ 223 j) (hR : Hd σ) : Hd σ' := ⟨Rk_of h hR.1, by rw [h, h, h]; exact hR.2⟩
theorem Hd_st (σ : Sg) {n : Int} (hn : n ≤ 900) : Hd (nSt σ n) := by
  unfold nSt
  refine ⟨Rk_rd ?_ ?_, nf_rd⟩
  · rw [su_ne _ _ (Or.inr (by decide)), su_same]; omega
  · rw [su_ne _ _ (Or.inr (by decide)), su_ne _ _ (Or.inr (by decide)), su_ne _ _ (Or.inr (by decide)), su_same]; exact hn
def Kb (σ : Sg) : Prop := 0 ≤ σ 225 8 ∧ σ 225 8 ≤ 8
theorem Kb_of {σ σ' : Sg} (h : ∀ j, σ' 225 j = σ 225 j) (hF : Kb σ) : Kb σ' := by unfold Kb; rw [h]; exact hF
theorem Kb_th : ∀ n {x : Sg}, Kb x → Kb (nTh n x) := by
  intro n
  induction n with
  | zero => exact fun h => h
  | succ n ih =>
    intro x h
    have h1 : Kb (nTak x 10) := Kb_of (fun j => nTak_ne _ _ (by decide) j) h
    rw [nTh]; split
    · exact h1
    · exact ih (nRk_8 h1)
theorem Kb_rl {σ : Sg} (h : Kb σ) : Kb (nRl σ) := by
  have t1 : ∀ j, nTak σ 9 225 j = σ 225 j := fun j => nTak_ne σ 9 (by decide) j
  have t2 : ∀ j, nTak (nTak σ 9) 11 225 j = σ 225 j := fun j => by rw [nTak_ne _ _ (by decide)]; exact t1 j
  refine Kb_of (fun j => nEnds_ne _ (by decide) j) ?_
  rw [nRb]; split
  · exact Kb_th _ (nRk_8 (Kb_of t1 h))
  · split
    · have h2 : Kb (nNm2 (nTak (nTak σ 9) 11) 0 99) := Kb_of (fun j => by rw [nNm2_ne _ _ _ (by decide)]; exact t2 j) h
      unfold Kb; rw [su_ne _ _ (Or.inr (by decide))]; exact h2
    · exact Kb_of (fun j => by rw [nBl_ne _ _ (Or.inl (by decide))]; exact t2 j) h
theorem Hd_rl {x : Sg} (h : Hd x) (ht : x 223 11 ≠ 0) (hb : nRl x 223 13 = 0) : Hd (nRl x) ∧ x 223 10 < nRl x 223 10 := by
  have h1 := h.2 ht
  have h2 := Pk_rb (a := x 223 9) ⟨h.1, Int.le_refl _⟩
  obtain ⟨h3, h4⟩ := Hd_ends h2.1 hb
  refine ⟨h3, ?_⟩
  have := h2.2
  show _ < nEnds (nRb x) 223 10
  omega
def nLwL : Nat → Sg → Sg
  | 0, x => x
  | n + 1, x => if x 223 13 = 0 ∧ x 223 11 ≠ 0 then nLwL n (nRl x) else x
theorem nLwL_x (n : Nat) (x : Sg) (h : ¬ (x 223 13 = 0 ∧ x 223 11 ≠ 0)) : nLwL n x = x := by
  cases n with
  | zero => rfl
  | succ n => rw [nLwL, if_neg h]
def nLcS (k : Nat) (x : Sg) : Sg := su x 225 (8 + k) 0
def nLkS (k : Nat) (x : Sg) : Sg := su x 224 (8 + k) (x 225 (8 + k))
def nLw0 (σ : Sg) (n : Int) : Sg := itr 10 nLcS (nSt (nT0 σ) n)
def nLw1 (σ : Sg) (n : Int) : Sg := nLwL nMlM (nLw0 σ n)
def nLw2 (σ : Sg) (n : Int) : Sg := if nLw1 σ n 223 13 = 0 then itr 10 nLkS (nLw1 σ n) else nLw1 σ n
def nLw (σ : Sg) (n : Int) : Int × Sg := if wth n 0 (σ 223 7) = 0 then (0, nThr (nT0 σ) 1) else (nEnV (nLw2 σ n) (nLw2 σ n 224 8), nEn (nLw2 σ n))
theorem nLcS_ne (n : Nat) (x : Sg) {a : Nat} (h : a ≠ 225) (j : Nat) : itr n nLcS x a j = x a j := by
  induction n with
  | zero => rfl
  | succ n ih => rw [itr_s, nLcS, su_ne _ _ (Or.inl h)]; exact ih
theorem nLcS_8 (x : Sg) : itr 10 nLcS x 225 8 = 0 := rfl
set_option maxRecDepth 4000 in
theorem s_X11_mill (ad : Nat → Nat) (σ : Sg)  (n : Int) (N : Nat) (hN : N = 672) (hB : σ 223 7 ≤ 900) : gw_Sp yX11_mill cX11_mill 3 (some .int) 10 0 0 [vR (some 223), vI n] (gw_M0 ad) σ (gw_D (some (vI (nMl σ n N).1)) (gw_M0 ad) ((nMl σ n N).2)) gw_no := by
  refine gw_Sp.of [some (vR (some 223)), some (vI n), none] (by decide +kernel) rfl (Nat.le_of_ble_eq_true rfl) ?_
  intro X G fx het hnm
  have j114 : wth n 0 (σ 223 7) ≠ 0 → gw_W X (yX11_mill.cls, cX11_mill, 3, (some .int), 10, 0, 0) G (gw_Z X G (gw_M0 ad) σ (gw_D (some (vI (nMl σ n N).1)) (gw_M0 ad) ((nMl σ n N).2)) gw_no 0 0) 0 0 (gw_M0 ad) ((nMl2 σ n N)) 114 [some (vR (some 223)), some (vI n), none] [] := by
    intro hj
    refine g_aload_n fx dX11_mill_114 rfl ?_
    refine g_aload_n fx dX11_mill_115 rfl ?_
    refine g_getr fx dX11_mill_116 fk_RX11_9 o_223 rf_223_0 ?_
    refine g_iconst fx dX11_mill_119 (by unfold okI; omega) ?_
    refine g_iald fx dX11_mill_120 o_224 (by decide) (by decide) ?_
    rw [show Int.toNat 0 = 0 from rfl]
    refine g_callVD fx dX11_mill_121 mv_RX11_208 my_X11_ended (s_X11_ended ad _ _) o_223 rfl rfl rfl (Nat.le_of_ble_eq_true rfl) (by decide) (by decide) ?_
    exact g_iret fx rfl dX11_mill_124 (by decide) (by decide) (gw_le.rf _) ⟨by rw [nMl, if_neg hj], rfl, by rw [nMl, if_neg hj]⟩
  refine g_aload_n fx dX11_mill_0 rfl ?_
  refine g_iconst fx dX11_mill_1 (by unfold okI; omega) ?_
  refine g_puti fx dX11_mill_2 fk_RX11_88 o_223 ?_
  refine gw_cg (σ' := nT0 σ) rfl rfl ?_
  refine g_iload_n fx dX11_mill_5 rfl ?_
  refine g_i2l fx dX11_mill_6 ?_
  refine g_lconst0 fx dX11_mill_7 ?_
  refine g_aload_n fx dX11_mill_8 rfl ?_
  refine g_geti fx dX11_mill_9 fk_RX11_91 (by decide) o_223 ?_
  refine g_i2l fx dX11_mill_12 ?_
  refine g_callSD fx dX11_mill_13 ms_RX11_147 my_X11_within (s_X11_within ad _ _ _ _) rfl rfl (Nat.le_of_ble_eq_true rfl) (by decide) (by decide) ?_
  refine g_if_ne (tgt := 25) fx dX11_mill_16 (by decide) (fun h16 => ?_) (fun h16 => ?_)
  · have hw := wth_1 (show wth n 0 (σ 223 7) ≠ 0 from h16)
    have hn : n ≤ 900 := by omega
    refine g_aload_n fx dX11_mill_25 rfl ?_
    refine g_iload_n fx dX11_mill_26 rfl ?_
    refine g_callVD0 fx dX11_mill_27 mv_RX11_194 my_X11_starts (s_X11_starts ad _ _ hn) o_223 rfl rfl rfl (Nat.le_of_ble_eq_true rfl) (by decide) (by decide) ?_
    refine g_iconst fx dX11_mill_30 (by unfold okI; omega) ?_
    refine g_istore_n fx dX11_mill_31 (by decide) rfl rfl ?_
    have loop32 : ∀ k : Nat, k ≤ N → gw_W X (yX11_mill.cls, cX11_mill, 3, (some .int), 10, 0, 0) G (gw_Z X G (gw_M0 ad) σ (gw_D (some (vI (nMl σ n N).1)) (gw_M0 ad) ((nMl σ n N).2)) gw_no 0 0) 0 0 (gw_M0 ad) ((itr k nMc (nSt (nT0 σ) n))) 32 [some (vR (some 223)), some (vI n), some (vI (k : Nat))] [] := by
      refine up_ind _ (N) (fun k hk ih => ?_)
      refine g_iload_n fx dX11_mill_32 rfl ?_
      refine g_sipush fx dX11_mill_33 (by decide) ?_
      refine g_icmp_ge (tgt := 75) fx dX11_mill_36 (by decide) (fun h36 => ?_) (fun h36 => ?_)
      · have loop75 : ∀ m : Nat, ∀ x : Sg, (x 223 13 = 0 → Hd x ∧ 900 - x 223 10 < ((m : Nat) : Int)) → Fb x → nMlL nMlM (nMl0 σ n N) = nMlL m x → gw_W X (yX11_mill.cls, cX11_mill, 3, (some .int), 10, 0, 0) G (gw_Z X G (gw_M0 ad) σ (gw_D (some (vI (nMl σ n N).1)) (gw_M0 ad) ((nMl σ n N).2)) gw_no 0 0) 0 0 (gw_M0 ad) (x) 75 [some (vR (some 223)), some (vI n), none] [] := by
          refine dn_ind _ (fun m ihm => ?_)
          intro x hHx hFb he
          refine g_aload_n fx dX11_mill_75 rfl ?_
          refine g_geti fx dX11_mill_76 fk_RX11_120 (by decide) o_223 ?_
          refine g_if_ne (tgt := 96) fx dX11_mill_79 (by decide) (fun h79 => ?_) (fun h79 => ?_)
          · refine g_aload_n fx dX11_mill_96 rfl ?_
            refine g_geti fx dX11_mill_97 fk_RX11_120 (by decide) o_223 ?_
            refine g_if_ne (tgt := 114) fx dX11_mill_100 (by decide) (fun h100 => ?_) (fun h100 => ?_)
            · refine g_kill 2 rfl ?_
              have h9 : nMl1 σ n N = x := by rw [nMl1, he]; exact nMlL_x _ _ (by omega)
              first
              | (exfalso; omega)
              | exact gw_cg (by rw [nMl2, h9]; (repeat first | rw [if_pos (by omega)] | rw [if_neg (by omega)]) <;> rfl) rfl (j114 h16)
            · refine g_aload_n fx dX11_mill_103 rfl ?_
              refine g_getr fx dX11_mill_104 fk_RX11_13 o_223 rf_223_1 ?_
              refine g_aload_n fx dX11_mill_107 rfl ?_
              refine g_getr fx dX11_mill_108 fk_RX11_9 o_223 rf_223_0 ?_
              refine g_callSD0 fx dX11_mill_111 ms_RX11_204 my_X11_copies (s_X11_copies ad _ (by decide) (by decide)) rfl rfl (Nat.le_of_ble_eq_true rfl) (by decide) (by decide) ?_
              refine g_kill 2 rfl ?_
              have h9 : nMl1 σ n N = x := by rw [nMl1, he]; exact nMlL_x _ _ (by omega)
              first
              | (exfalso; omega)
              | exact gw_cg (by rw [nMl2, h9]; (repeat first | rw [if_pos (by omega)] | rw [if_neg (by omega)]) <;> rfl) rfl (j114 h16)
          · refine g_aload_n fx dX11_mill_82 rfl ?_
            refine g_geti fx dX11_mill_83 fk_RX11_103 (by decide) o_223 ?_
            refine g_if_eq (tgt := 96) fx dX11_mill_86 (by decide) (fun h86 => ?_) (fun h86 => ?_)
            · refine g_aload_n fx dX11_mill_96 rfl ?_
              refine g_geti fx dX11_mill_97 fk_RX11_120 (by decide) o_223 ?_
              refine g_if_ne (tgt := 114) fx dX11_mill_100 (by decide) (fun h100 => ?_) (fun h100 => ?_)
              · refine g_kill 2 rfl ?_
                have h9 : nMl1 σ n N = x := by rw [nMl1, he]; exact nMlL_x _ _ (by omega)
                first
                | (exfalso; omega)
                | exact gw_cg (by rw [nMl2, h9]; (repeat first | rw [if_pos (by omega)] | rw [if_neg (by omega)]) <;> rfl) rfl (j114 h16)
              · refine g_aload_n fx dX11_mill_103 rfl ?_
                refine g_getr fx dX11_mill_104 fk_RX11_13 o_223 rf_223_1 ?_
                refine g_aload_n fx dX11_mill_107 rfl ?_
                refine g_getr fx dX11_mill_108 fk_RX11_9 o_223 rf_223_0 ?_
                refine g_callSD0 fx dX11_mill_111 ms_RX11_204 my_X11_copies (s_X11_copies ad _ (by decide) (by decide)) rfl rfl (Nat.le_of_ble_eq_true rfl) (by decide) (by decide) ?_
                refine g_kill 2 rfl ?_
                have h9 : nMl1 σ n N = x := by rw [nMl1, he]; exact nMlL_x _ _ (by omega)
                first
                | (exfalso; omega)
                | exact gw_cg (by rw [nMl2, h9]; (repeat first | rw [if_pos (by omega)] | rw [if_neg (by omega)]) <;> rfl) rfl (j114 h16)
            · obtain ⟨hH, hms⟩ := hHx (by omega)
              obtain ⟨m2, rfl⟩ : ∃ m2, m = m2 + 1 := ⟨m - 1, by have := hH.1.2.1; have := hH.1.2.2.1; omega⟩
              have ihm := ihm m2 rfl
              rw [nMlL, if_pos ⟨by assumption, by assumption⟩] at he
              refine g_aload_n fx dX11_mill_89 rfl ?_
              refine g_callVD0 fx dX11_mill_90 mv_RX11_201 my_X11_readLine (s_X11_readLine ad _ hH.1 hFb.1 hFb.2) o_223 rfl rfl rfl (Nat.le_of_ble_eq_true rfl) (by decide) (by decide) ?_
              refine g_goto (tgt := 75) fx dX11_mill_93 (by decide) ?_
              exact gw_cg rfl rfl (ihm _ (fun q => ⟨(Hd_ln hH (by assumption) q).1, by have := (Hd_ln hH (by assumption) q).2; omega⟩) (Fb_ln hFb) he)
        refine g_kill 2 rfl ?_
        have hk9 : itr k nMc (nSt (nT0 σ) n) = nMl0 σ n N := by rw [nMl0, show N = k by omega]
        refine gw_cg hk9 rfl ?_
        have hH0 : Hd (nMl0 σ n N) := Hd_of (fun j => nMc_ne N _ (by decide) j) (Hd_st (nT0 σ) hn)
        exact loop75 nMlM (nMl0 σ n N) (fun _ => ⟨hH0, by show 900 - _ < ((902 : Nat) : Int); have := hH0.1.1; omega⟩) ⟨by rw [nMl0, nMc_z N _ (by decide) (by omega)]; omega, by rw [nMl0, nMc_z N _ (by decide) (by omega)]; omega⟩ rfl
      · refine g_aload_n fx dX11_mill_39 rfl ?_
        refine g_getr fx dX11_mill_40 fk_RX11_13 o_223 rf_223_1 ?_
        refine g_iload_n fx dX11_mill_43 rfl ?_
        refine g_iload_n fx dX11_mill_44 rfl ?_
        refine g_i2l fx dX11_mill_45 ?_
        refine g_ldcL fx dX11_mill_46 kc_RX11_197 (by unfold okJ; omega) ?_
        refine g_ldcL fx dX11_mill_49 kc_RX11_199 (by unfold okJ; omega) ?_
        refine g_callSD fx dX11_mill_52 ms_RX11_147 my_X11_within (s_X11_within ad _ _ _ _) rfl rfl (Nat.le_of_ble_eq_true rfl) (by decide) (by decide) ?_
        refine g_if_eq (tgt := 67) fx dX11_mill_55 (by decide) (fun h55 => ?_) (fun h55 => ?_)
        · refine g_iconst fx dX11_mill_67 (by unfold okI; omega) ?_
          refine g_iast fx dX11_mill_68 o_225 (by omega) (by show _ < ((672 : Nat) : Int); omega) ?_
          refine g_iinc1 fx dX11_mill_69 (by decide) rfl rfl (by unfold okI; omega) rfl ?_
          refine g_goto (tgt := 32) fx dX11_mill_72 (by decide) ?_
          exact gw_cg (by rw [itr_s, nMc]; (repeat first | rw [if_pos (by omega)] | rw [if_neg (by omega)]) <;> rfl) (by rw [show ((k : Nat) : Int) + 1 = ((k + 1 : Nat) : Int) by omega] <;> rfl) (ih (by omega))
        · refine g_aload_n fx dX11_mill_58 rfl ?_
          refine g_getr fx dX11_mill_59 fk_RX11_9 o_223 rf_223_0 ?_
          refine g_iload_n fx dX11_mill_62 rfl ?_
          refine g_iald fx dX11_mill_63 o_224 (by omega) (by show _ < ((672 : Nat) : Int); omega) ?_
          rw [show ((k : Nat) : Int).toNat = k from rfl]
          refine g_goto (tgt := 68) fx dX11_mill_64 (by decide) ?_
          refine g_iast fx dX11_mill_68 o_225 (by omega) (by show _ < ((672 : Nat) : Int); omega) ?_
          refine g_iinc1 fx dX11_mill_69 (by decide) rfl rfl (by unfold okI; omega) rfl ?_
          refine g_goto (tgt := 32) fx dX11_mill_72 (by decide) ?_
          exact gw_cg (by rw [itr_s, nMc]; (repeat first | rw [if_pos (by omega)] | rw [if_neg (by omega)]) <;> rfl) (by rw [show ((k : Nat) : Int) + 1 = ((k + 1 : Nat) : Int) by omega] <;> rfl) (ih (by omega))
    exact loop32 0 (Nat.zero_le _)
  · refine g_aload_n fx dX11_mill_19 rfl ?_
    refine g_iconst fx dX11_mill_20 (by unfold okI; omega) ?_
    refine g_callVD fx dX11_mill_21 mv_RX11_191 my_X11_fails (s_X11_fails ad _ _) o_223 rfl rfl rfl (Nat.le_of_ble_eq_true rfl) (by decide) (by decide) ?_
    exact g_iret fx rfl dX11_mill_24 (by decide) (by decide) (gw_le.rf _) ⟨by rw [nMl, if_pos (by exact h16)], rfl, by rw [nMl, if_pos (by exact h16)]⟩
set_option maxRecDepth 4000 in
theorem s_X11_law (ad : Nat → Nat) (σ : Sg)  (n : Int) (hB : σ 223 7 ≤ 900) : gw_Sp yX11_law cX11_law 3 (some .int) 9 0 0 [vR (some 223), vI n] (gw_M0 ad) σ (gw_D (some (vI (nLw σ n).1)) (gw_M0 ad) ((nLw σ n).2)) gw_no := by
  refine gw_Sp.of [some (vR (some 223)), some (vI n), none] (by decide +kernel) rfl (Nat.le_of_ble_eq_true rfl) ?_
  intro X G fx het hnm
  have j107 : wth n 0 (σ 223 7) ≠ 0 → gw_W X (yX11_law.cls, cX11_law, 3, (some .int), 9, 0, 0) G (gw_Z X G (gw_M0 ad) σ (gw_D (some (vI (nLw σ n).1)) (gw_M0 ad) ((nLw σ n).2)) gw_no 0 0) 0 0 (gw_M0 ad) ((nLw2 σ n)) 107 [some (vR (some 223)), some (vI n), none] [] := by
    intro hj
    refine g_aload_n fx dX11_law_107 rfl ?_
    refine g_aload_n fx dX11_law_108 rfl ?_
    refine g_getr fx dX11_law_109 fk_RX11_9 o_223 rf_223_0 ?_
    refine g_bipush fx dX11_law_112 (by decide) ?_
    refine g_iald fx dX11_law_114 o_224 (by decide) (by decide) ?_
    rw [show Int.toNat 8 = 8 from rfl]
    refine g_callVD fx dX11_law_115 mv_RX11_208 my_X11_ended (s_X11_ended ad _ _) o_223 rfl rfl rfl (Nat.le_of_ble_eq_true rfl) (by decide) (by decide) ?_
    exact g_iret fx rfl dX11_law_118 (by decide) (by decide) (gw_le.rf _) ⟨by rw [nLw, if_neg hj], rfl, by rw [nLw, if_neg hj]⟩
  refine g_aload_n fx dX11_law_0 rfl ?_
  refine g_iconst fx dX11_law_1 (by unfold okI; omega) ?_
  refine g_puti fx dX11_law_2 fk_RX11_88 o_223 ?_
  refine gw_cg (σ' := nT0 σ) rfl rfl ?_
  refine g_iload_n fx dX11_law_5 rfl ?_
  refine g_i2l fx dX11_law_6 ?_
  refine g_lconst0 fx dX11_law_7 ?_
  refine g_aload_n fx dX11_law_8 rfl ?_
  refine g_geti fx dX11_law_9 fk_RX11_91 (by decide) o_223 ?_
  refine g_i2l fx dX11_law_12 ?_
  refine g_callSD fx dX11_law_13 ms_RX11_147 my_X11_within (s_X11_within ad _ _ _ _) rfl rfl (Nat.le_of_ble_eq_true rfl) (by decide) (by decide) ?_
  refine g_if_ne (tgt := 25) fx dX11_law_16 (by decide) (fun h16 => ?_) (fun h16 => ?_)
  · have hw := wth_1 (show wth n 0 (σ 223 7) ≠ 0 from h16)
    have hn : n ≤ 900 := by omega
    refine g_aload_n fx dX11_law_25 rfl ?_
    refine g_iload_n fx dX11_law_26 rfl ?_
    refine g_callVD0 fx dX11_law_27 mv_RX11_194 my_X11_starts (s_X11_starts ad _ _ hn) o_223 rfl rfl rfl (Nat.le_of_ble_eq_true rfl) (by decide) (by decide) ?_
    refine g_bipush fx dX11_law_30 (by decide) ?_
    refine g_istore_n fx dX11_law_32 (by decide) rfl rfl ?_
    have loop33 : ∀ k : Nat, k ≤ 10 → gw_W X (yX11_law.cls, cX11_law, 3, (some .int), 9, 0, 0) G (gw_Z X G (gw_M0 ad) σ (gw_D (some (vI (nLw σ n).1)) (gw_M0 ad) ((nLw σ n).2)) gw_no 0 0) 0 0 (gw_M0 ad) ((itr k nLcS (nSt (nT0 σ) n))) 33 [some (vR (some 223)), some (vI n), some (vI (8 + ((k : Nat) : Int)))] [] := by
      refine up_ind _ (10) (fun k hk ih => ?_)
      refine g_iload_n fx dX11_law_33 rfl ?_
      refine g_bipush fx dX11_law_34 (by decide) ?_
      refine g_icmp_gt (tgt := 52) fx dX11_law_36 (by decide) (fun h36 => ?_) (fun h36 => ?_)
      · have loop52 : ∀ m : Nat, ∀ x : Sg, (x 223 13 = 0 → Hd x ∧ 900 - x 223 10 < ((m : Nat) : Int)) → Kb x → nLwL nMlM (nLw0 σ n) = nLwL m x → gw_W X (yX11_law.cls, cX11_law, 3, (some .int), 9, 0, 0) G (gw_Z X G (gw_M0 ad) σ (gw_D (some (vI (nLw σ n).1)) (gw_M0 ad) ((nLw σ n).2)) gw_no 0 0) 0 0 (gw_M0 ad) (x) 52 [some (vR (some 223)), some (vI n), none] [] := by
          refine dn_ind _ (fun m ihm => ?_)
          intro x hHx hKb he
          refine g_aload_n fx dX11_law_52 rfl ?_
          refine g_geti fx dX11_law_53 fk_RX11_120 (by decide) o_223 ?_
          refine g_if_ne (tgt := 73) fx dX11_law_56 (by decide) (fun h56 => ?_) (fun h56 => ?_)
          · have h9 : nLw1 σ n = x := by rw [nLw1, he]; exact nLwL_x _ _ (by omega)
            refine g_aload_n fx dX11_law_73 rfl ?_
            refine g_geti fx dX11_law_74 fk_RX11_120 (by decide) o_223 ?_
            refine g_if_ne (tgt := 107) fx dX11_law_77 (by decide) (fun h77 => ?_) (fun h77 => ?_)
            · refine g_kill 2 rfl ?_
              first
              | (exfalso; omega)
              | exact gw_cg (by rw [nLw2, h9, if_neg (by omega)]) rfl (j107 h16)
              | exact gw_cg (by rw [nLw2, h9, if_pos (by omega), show (10 : Nat) = i by omega]) rfl (j107 h16)
            · refine g_bipush fx dX11_law_80 (by decide) ?_
              refine g_istore_n fx dX11_law_82 (by decide) rfl rfl ?_
              have loop83 : ∀ i : Nat, i ≤ 10 → gw_W X (yX11_law.cls, cX11_law, 3, (some .int), 9, 0, 0) G (gw_Z X G (gw_M0 ad) σ (gw_D (some (vI (nLw σ n).1)) (gw_M0 ad) ((nLw σ n).2)) gw_no 0 0) 0 0 (gw_M0 ad) ((itr i nLkS x)) 83 [some (vR (some 223)), some (vI n), some (vI (8 + ((i : Nat) : Int)))] [] := by
                refine up_ind _ (10) (fun i hi ih => ?_)
                refine g_iload_n fx dX11_law_83 rfl ?_
                refine g_bipush fx dX11_law_84 (by decide) ?_
                refine g_icmp_gt (tgt := 107) fx dX11_law_86 (by decide) (fun h86 => ?_) (fun h86 => ?_)
                · refine g_kill 2 rfl ?_
                  first
                  | (exfalso; omega)
                  | exact gw_cg (by rw [nLw2, h9, if_neg (by omega)]) rfl (j107 h16)
                  | exact gw_cg (by rw [nLw2, h9, if_pos (by omega), show (10 : Nat) = i by omega]) rfl (j107 h16)
                · refine g_aload_n fx dX11_law_89 rfl ?_
                  refine g_getr fx dX11_law_90 fk_RX11_9 o_223 rf_223_0 ?_
                  refine g_iload_n fx dX11_law_93 rfl ?_
                  refine g_aload_n fx dX11_law_94 rfl ?_
                  refine g_getr fx dX11_law_95 fk_RX11_13 o_223 rf_223_1 ?_
                  refine g_iload_n fx dX11_law_98 rfl ?_
                  refine g_iald fx dX11_law_99 o_225 (by omega) (by show _ < ((672 : Nat) : Int); omega) ?_
                  rw [show (8 + ((i : Nat) : Int)).toNat = 8 + i by omega]
                  refine g_iast fx dX11_law_100 o_224 (by omega) (by show _ < ((672 : Nat) : Int); omega) ?_
                  rw [show (8 + ((i : Nat) : Int)).toNat = 8 + i by omega]
                  refine g_iinc1 fx dX11_law_101 (by decide) rfl rfl (by unfold okI; omega) rfl ?_
                  refine g_goto (tgt := 83) fx dX11_law_104 (by decide) ?_
                  exact gw_cg (by rw [itr_s, nLkS]) (by rw [show (8 + ((i : Nat) : Int)) + 1 = 8 + ((i + 1 : Nat) : Int) by omega] <;> rfl) (ih (by omega))
              exact gw_cg rfl rfl (loop83 0 (Nat.zero_le _))
          · refine g_aload_n fx dX11_law_59 rfl ?_
            refine g_geti fx dX11_law_60 fk_RX11_103 (by decide) o_223 ?_
            refine g_if_eq (tgt := 73) fx dX11_law_63 (by decide) (fun h63 => ?_) (fun h63 => ?_)
            · have h9 : nLw1 σ n = x := by rw [nLw1, he]; exact nLwL_x _ _ (by omega)
              refine g_aload_n fx dX11_law_73 rfl ?_
              refine g_geti fx dX11_law_74 fk_RX11_120 (by decide) o_223 ?_
              refine g_if_ne (tgt := 107) fx dX11_law_77 (by decide) (fun h77 => ?_) (fun h77 => ?_)
              · refine g_kill 2 rfl ?_
                first
                | (exfalso; omega)
                | exact gw_cg (by rw [nLw2, h9, if_neg (by omega)]) rfl (j107 h16)
                | exact gw_cg (by rw [nLw2, h9, if_pos (by omega), show (10 : Nat) = i by omega]) rfl (j107 h16)
              · refine g_bipush fx dX11_law_80 (by decide) ?_
                refine g_istore_n fx dX11_law_82 (by decide) rfl rfl ?_
                have loop83 : ∀ i : Nat, i ≤ 10 → gw_W X (yX11_law.cls, cX11_law, 3, (some .int), 9, 0, 0) G (gw_Z X G (gw_M0 ad) σ (gw_D (some (vI (nLw σ n).1)) (gw_M0 ad) ((nLw σ n).2)) gw_no 0 0) 0 0 (gw_M0 ad) ((itr i nLkS x)) 83 [some (vR (some 223)), some (vI n), some (vI (8 + ((i : Nat) : Int)))] [] := by
                  refine up_ind _ (10) (fun i hi ih => ?_)
                  refine g_iload_n fx dX11_law_83 rfl ?_
                  refine g_bipush fx dX11_law_84 (by decide) ?_
                  refine g_icmp_gt (tgt := 107) fx dX11_law_86 (by decide) (fun h86 => ?_) (fun h86 => ?_)
                  · refine g_kill 2 rfl ?_
                    first
                    | (exfalso; omega)
                    | exact gw_cg (by rw [nLw2, h9, if_neg (by omega)]) rfl (j107 h16)
                    | exact gw_cg (by rw [nLw2, h9, if_pos (by omega), show (10 : Nat) = i by omega]) rfl (j107 h16)
                  · refine g_aload_n fx dX11_law_89 rfl ?_
                    refine g_getr fx dX11_law_90 fk_RX11_9 o_223 rf_223_0 ?_
                    refine g_iload_n fx dX11_law_93 rfl ?_
                    refine g_aload_n fx dX11_law_94 rfl ?_
                    refine g_getr fx dX11_law_95 fk_RX11_13 o_223 rf_223_1 ?_
                    refine g_iload_n fx dX11_law_98 rfl ?_
                    refine g_iald fx dX11_law_99 o_225 (by omega) (by show _ < ((672 : Nat) : Int); omega) ?_
                    rw [show (8 + ((i : Nat) : Int)).toNat = 8 + i by omega]
                    refine g_iast fx dX11_law_100 o_224 (by omega) (by show _ < ((672 : Nat) : Int); omega) ?_
                    rw [show (8 + ((i : Nat) : Int)).toNat = 8 + i by omega]
                    refine g_iinc1 fx dX11_law_101 (by decide) rfl rfl (by unfold okI; omega) rfl ?_
                    refine g_goto (tgt := 83) fx dX11_law_104 (by decide) ?_
                    exact gw_cg (by rw [itr_s, nLkS]) (by rw [show (8 + ((i : Nat) : Int)) + 1 = 8 + ((i + 1 : Nat) : Int) by omega] <;> rfl) (ih (by omega))
                exact gw_cg rfl rfl (loop83 0 (Nat.zero_le _))
            · obtain ⟨hH, hms⟩ := hHx (by omega)
              obtain ⟨m2, rfl⟩ : ∃ m2, m = m2 + 1 := ⟨m - 1, by have := hH.1.2.1; have := hH.1.2.2.1; omega⟩
              have ihm := ihm m2 rfl
              rw [nLwL, if_pos ⟨by assumption, by assumption⟩] at he
              refine g_aload_n fx dX11_law_66 rfl ?_
              refine g_callVD0 fx dX11_law_67 mv_RX11_239 my_X11_readRule (s_X11_readRule ad _ hH.1 hKb) o_223 rfl rfl rfl (Nat.le_of_ble_eq_true rfl) (by decide) (by decide) ?_
              refine g_goto (tgt := 52) fx dX11_law_70 (by decide) ?_
              exact gw_cg rfl rfl (ihm _ (fun q => ⟨(Hd_rl hH (by assumption) q).1, by have := (Hd_rl hH (by assumption) q).2; omega⟩) (Kb_rl hKb) he)
        refine g_kill 2 rfl ?_
        have hk9 : itr k nLcS (nSt (nT0 σ) n) = nLw0 σ n := by rw [nLw0, show (10 : Nat) = k by omega]
        refine gw_cg hk9 rfl ?_
        have hH0 : Hd (nLw0 σ n) := Hd_of (fun j => nLcS_ne 10 _ (by decide) j) (Hd_st (nT0 σ) hn)
        exact loop52 nMlM (nLw0 σ n) (fun _ => ⟨hH0, by show 900 - _ < ((902 : Nat) : Int); have := hH0.1.1; omega⟩) (by unfold Kb; rw [nLw0, nLcS_8]; omega) rfl
      · refine g_aload_n fx dX11_law_39 rfl ?_
        refine g_getr fx dX11_law_40 fk_RX11_13 o_223 rf_223_1 ?_
        refine g_iload_n fx dX11_law_43 rfl ?_
        refine g_iconst fx dX11_law_44 (by unfold okI; omega) ?_
        refine g_iast fx dX11_law_45 o_225 (by omega) (by show _ < ((672 : Nat) : Int); omega) ?_
        rw [show (8 + ((k : Nat) : Int)).toNat = 8 + k by omega]
        refine g_iinc1 fx dX11_law_46 (by decide) rfl rfl (by unfold okI; omega) rfl ?_
        refine g_goto (tgt := 33) fx dX11_law_49 (by decide) ?_
        exact gw_cg (by rw [itr_s, nLcS]) (by rw [show (8 + ((k : Nat) : Int)) + 1 = 8 + ((k + 1 : Nat) : Int) by omega] <;> rfl) (ih (by omega))
    exact gw_cg rfl rfl (loop33 0 (Nat.zero_le _))
  · refine g_aload_n fx dX11_law_19 rfl ?_
    refine g_iconst fx dX11_law_20 (by unfold okI; omega) ?_
    refine g_callVD fx dX11_law_21 mv_RX11_191 my_X11_fails (s_X11_fails ad _ _) o_223 rfl rfl rfl (Nat.le_of_ble_eq_true rfl) (by decide) (by decide) ?_
    exact g_iret fx rfl dX11_law_24 (by decide) (by decide) (gw_le.rf _) ⟨by rw [nLw, if_pos (by exact h16)], rfl, by rw [nLw, if_pos (by exact h16)]⟩
