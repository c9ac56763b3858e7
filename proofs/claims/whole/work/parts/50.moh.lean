theorem dX11_isSack_0 : gw_dc cX11_isSack 0 (.iload_n 1) 1 1 := ⟨by decide +kernel, rfl⟩
theorem dX11_isSack_1 : gw_dc cX11_isSack 1 (.i2l) 1 2 := ⟨by decide +kernel, rfl⟩
theorem dX11_isSack_2 : gw_dc cX11_isSack 2 (.lconst 0) 1 3 := ⟨by decide +kernel, rfl⟩
theorem dX11_isSack_3 : gw_dc cX11_isSack 3 (.aload_n 0) 1 4 := ⟨by decide +kernel, rfl⟩
theorem dX11_isSack_4 : gw_dc cX11_isSack 4 (.getfield 9) 3 7 := ⟨by decide +kernel, rfl⟩
theorem fk_RX11_9 : gw_fk RX11 9 11 0 42 1 true := ⟨_, _, _, ck_11, by decide, by decide, fun h => absurd h (by decide), fun h => absurd h (by decide), fun _ => Or.inr ⟨_, rfl⟩, rfl, Or.inl (gw_mem 1421 (by decide +kernel) rfl)⟩
theorem rf_223_0 {ad : Nat → Nat} : (gw_M0 ad).2.2 223 0 = some 224 := (by decide +kernel : gw_rh 223 0 = some 224)
theorem dX11_isSack_7 : gw_dc cX11_isSack 7 (.iconst 4) 1 8 := ⟨by decide +kernel, rfl⟩
theorem dX11_isSack_8 : gw_dc cX11_isSack 8 (.iaload) 1 9 := ⟨by decide +kernel, rfl⟩
theorem o_224 {ad : Nat → Nat} : isO (gw_M0 ad) 224 21 672 := (by decide +kernel : 224 < gw_N0 ∧ gw_sh 224 = (21, 672))
theorem dX11_isSack_9 : gw_dc cX11_isSack 9 (.iconst 1) 1 10 := ⟨by decide +kernel, rfl⟩
theorem dX11_isSack_10 : gw_dc cX11_isSack 10 (.isub) 1 11 := ⟨by decide +kernel, rfl⟩
theorem dX11_isSack_11 : gw_dc cX11_isSack 11 (.i2l) 1 12 := ⟨by decide +kernel, rfl⟩
theorem dX11_isSack_12 : gw_dc cX11_isSack 12 (.invokestatic 147) 3 15 := ⟨by decide +kernel, rfl⟩
theorem dX11_isSack_15 : decode cX11_isSack 15 = .ok (.ireturn, 1) := by decide +kernel
theorem dX11_isPiece_0 : gw_dc cX11_isPiece 0 (.lload_n 1) 1 1 := ⟨by decide +kernel, rfl⟩
theorem dX11_isPiece_1 : gw_dc cX11_isPiece 1 (.lconst 0) 1 2 := ⟨by decide +kernel, rfl⟩
theorem dX11_isPiece_2 : gw_dc cX11_isPiece 2 (.aload_n 0) 1 3 := ⟨by decide +kernel, rfl⟩
theorem dX11_isPiece_3 : gw_dc cX11_isPiece 3 (.getfield 9) 3 6 := ⟨by decide +kernel, rfl⟩
theorem dX11_isPiece_6 : gw_dc cX11_isPiece 6 (.sipush 668) 3 9 := ⟨by decide +kernel, rfl⟩
theorem dX11_isPiece_9 : gw_dc cX11_isPiece 9 (.iaload) 1 10 := ⟨by decide +kernel, rfl⟩
theorem dX11_isPiece_10 : gw_dc cX11_isPiece 10 (.iconst 1) 1 11 := ⟨by decide +kernel, rfl⟩
theorem dX11_isPiece_11 : gw_dc cX11_isPiece 11 (.isub) 1 12 := ⟨by decide +kernel, rfl⟩
theorem dX11_isPiece_12 : gw_dc cX11_isPiece 12 (.i2l) 1 13 := ⟨by decide +kernel, rfl⟩
theorem dX11_isPiece_13 : gw_dc cX11_isPiece 13 (.invokestatic 147) 3 16 := ⟨by decide +kernel, rfl⟩
theorem dX11_isPiece_16 : decode cX11_isPiece 16 = .ok (.ireturn, 1) := by decide +kernel
theorem dX11_of_0 : gw_dc cX11_of 0 (.aload_n 0) 1 1 := ⟨by decide +kernel, rfl⟩
theorem dX11_of_1 : gw_dc cX11_of 1 (.getfield 9) 3 4 := ⟨by decide +kernel, rfl⟩
theorem dX11_of_4 : gw_dc cX11_of 4 (.bipush 20) 2 6 := ⟨by decide +kernel, rfl⟩
theorem dX11_of_6 : gw_dc cX11_of 6 (.bipush 7) 2 8 := ⟨by decide +kernel, rfl⟩
theorem dX11_of_8 : gw_dc cX11_of 8 (.iload_n 1) 1 9 := ⟨by decide +kernel, rfl⟩
theorem dX11_of_9 : gw_dc cX11_of 9 (.imul) 1 10 := ⟨by decide +kernel, rfl⟩
theorem dX11_of_10 : gw_dc cX11_of 10 (.iadd) 1 11 := ⟨by decide +kernel, rfl⟩
theorem dX11_of_11 : gw_dc cX11_of 11 (.iload_n 2) 1 12 := ⟨by decide +kernel, rfl⟩
theorem dX11_of_12 : gw_dc cX11_of 12 (.iadd) 1 13 := ⟨by decide +kernel, rfl⟩
theorem dX11_of_13 : gw_dc cX11_of 13 (.iaload) 1 14 := ⟨by decide +kernel, rfl⟩
theorem dX11_of_14 : decode cX11_of 14 = .ok (.ireturn, 1) := by decide +kernel
theorem dX11_sets_0 : gw_dc cX11_sets 0 (.aload_n 0) 1 1 := ⟨by decide +kernel, rfl⟩
theorem dX11_sets_1 : gw_dc cX11_sets 1 (.getfield 9) 3 4 := ⟨by decide +kernel, rfl⟩
theorem dX11_sets_4 : gw_dc cX11_sets 4 (.bipush 20) 2 6 := ⟨by decide +kernel, rfl⟩
theorem dX11_sets_6 : gw_dc cX11_sets 6 (.bipush 7) 2 8 := ⟨by decide +kernel, rfl⟩
theorem dX11_sets_8 : gw_dc cX11_sets 8 (.iload_n 1) 1 9 := ⟨by decide +kernel, rfl⟩
theorem dX11_sets_9 : gw_dc cX11_sets 9 (.imul) 1 10 := ⟨by decide +kernel, rfl⟩
theorem dX11_sets_10 : gw_dc cX11_sets 10 (.iadd) 1 11 := ⟨by decide +kernel, rfl⟩
theorem dX11_sets_11 : gw_dc cX11_sets 11 (.iload_n 2) 1 12 := ⟨by decide +kernel, rfl⟩
theorem dX11_sets_12 : gw_dc cX11_sets 12 (.iadd) 1 13 := ⟨by decide +kernel, rfl⟩
theorem dX11_sets_13 : gw_dc cX11_sets 13 (.iload_n 3) 1 14 := ⟨by decide +kernel, rfl⟩
theorem dX11_sets_14 : gw_dc cX11_sets 14 (.iastore) 1 15 := ⟨by decide +kernel, rfl⟩
theorem dX11_sets_15 : decode cX11_sets 15 = .ok (.return_, 1) := by decide +kernel
theorem dX11_firstOf_0 : gw_dc cX11_firstOf 0 (.iconst 0) 1 1 := ⟨by decide +kernel, rfl⟩
theorem dX11_firstOf_1 : gw_dc cX11_firstOf 1 (.istore_n 2) 1 2 := ⟨by decide +kernel, rfl⟩
theorem dX11_firstOf_2 : gw_dc cX11_firstOf 2 (.iconst 0) 1 3 := ⟨by decide +kernel, rfl⟩
theorem dX11_firstOf_3 : gw_dc cX11_firstOf 3 (.istore_n 3) 1 4 := ⟨by decide +kernel, rfl⟩
theorem dX11_firstOf_4 : gw_dc cX11_firstOf 4 (.iload_n 3) 1 5 := ⟨by decide +kernel, rfl⟩
theorem dX11_firstOf_5 : gw_dc cX11_firstOf 5 (.iload_n 1) 1 6 := ⟨by decide +kernel, rfl⟩
theorem dX11_firstOf_6 : gw_dc cX11_firstOf 6 (.if_icmp .ge 19) 3 9 := ⟨by decide +kernel, rfl⟩
theorem dX11_firstOf_25 : gw_dc cX11_firstOf 25 (.iload_n 2) 1 26 := ⟨by decide +kernel, rfl⟩
theorem dX11_firstOf_26 : decode cX11_firstOf 26 = .ok (.ireturn, 1) := by decide +kernel
theorem dX11_firstOf_9 : gw_dc cX11_firstOf 9 (.iload_n 2) 1 10 := ⟨by decide +kernel, rfl⟩
theorem dX11_firstOf_10 : gw_dc cX11_firstOf 10 (.aload_n 0) 1 11 := ⟨by decide +kernel, rfl⟩
theorem dX11_firstOf_11 : gw_dc cX11_firstOf 11 (.iload_n 3) 1 12 := ⟨by decide +kernel, rfl⟩
theorem dX11_firstOf_12 : gw_dc cX11_firstOf 12 (.bipush 6) 2 14 := ⟨by decide +kernel, rfl⟩
theorem dX11_firstOf_14 : gw_dc cX11_firstOf 14 (.invokevirtual 242) 3 17 := ⟨by decide +kernel, rfl⟩
theorem mv_RX11_242 : gw_mv RX11 242 yX11_of := ⟨gw_mem 1686 (by decide +kernel) rfl, gw_mem 1688 (by decide +kernel) rfl, gw_mem 57 (by decide +kernel) rfl⟩
theorem my_X11_of : gw_my yX11_of cX11_of 3 (some .int) 2 := ⟨gw_mem 1689 (by decide +kernel) rfl, gw_mem 106 (by decide +kernel) rfl, by decide +kernel, by decide⟩
theorem dX11_firstOf_17 : gw_dc cX11_firstOf 17 (.iadd) 1 18 := ⟨by decide +kernel, rfl⟩
theorem dX11_firstOf_18 : gw_dc cX11_firstOf 18 (.istore_n 2) 1 19 := ⟨by decide +kernel, rfl⟩
theorem dX11_firstOf_19 : gw_dc cX11_firstOf 19 (.iinc 3 1) 3 22 := ⟨by decide +kernel, rfl⟩
theorem dX11_firstOf_22 : gw_dc cX11_firstOf 22 (.goto (-18)) 3 25 := ⟨by decide +kernel, rfl⟩
theorem dX11_pounds_0 : gw_dc cX11_pounds 0 (.aload_n 0) 1 1 := ⟨by decide +kernel, rfl⟩
theorem dX11_pounds_1 : gw_dc cX11_pounds 1 (.getfield 9) 3 4 := ⟨by decide +kernel, rfl⟩
theorem dX11_pounds_4 : gw_dc cX11_pounds 4 (.sipush 608) 3 7 := ⟨by decide +kernel, rfl⟩
theorem dX11_pounds_7 : gw_dc cX11_pounds 7 (.iload_n 1) 1 8 := ⟨by decide +kernel, rfl⟩
theorem dX11_pounds_8 : gw_dc cX11_pounds 8 (.iadd) 1 9 := ⟨by decide +kernel, rfl⟩
theorem dX11_pounds_9 : gw_dc cX11_pounds 9 (.iaload) 1 10 := ⟨by decide +kernel, rfl⟩
theorem dX11_pounds_10 : decode cX11_pounds 10 = .ok (.ireturn, 1) := by decide +kernel
theorem dX11_stones_0 : gw_dc cX11_stones 0 (.iconst 1) 1 1 := ⟨by decide +kernel, rfl⟩
theorem dX11_stones_1 : gw_dc cX11_stones 1 (.aload_n 0) 1 2 := ⟨by decide +kernel, rfl⟩
theorem dX11_stones_2 : gw_dc cX11_stones 2 (.getfield 9) 3 5 := ⟨by decide +kernel, rfl⟩
theorem dX11_stones_5 : gw_dc cX11_stones 5 (.iconst 1) 1 6 := ⟨by decide +kernel, rfl⟩
theorem dX11_stones_6 : gw_dc cX11_stones 6 (.iaload) 1 7 := ⟨by decide +kernel, rfl⟩
theorem dX11_stones_7 : gw_dc cX11_stones 7 (.invokestatic 268) 3 10 := ⟨by decide +kernel, rfl⟩
theorem mm_RX11_268 : gw_mm RX11 268 Lib.Math.max.name Lib.Math.max.code := ⟨gw_mem 1740 (by decide +kernel) rfl, gw_mem 619 (by decide +kernel) rfl, gw_mem 116 (by decide +kernel) rfl, gw_mem 620 (by decide +kernel) rfl⟩
theorem dX11_stones_10 : decode cX11_stones 10 = .ok (.ireturn, 1) := by decide +kernel
theorem dX11_pace_0 : gw_dc cX11_pace 0 (.aload_n 0) 1 1 := ⟨by decide +kernel, rfl⟩
theorem dX11_pace_1 : gw_dc cX11_pace 1 (.getfield 9) 3 4 := ⟨by decide +kernel, rfl⟩
theorem dX11_pace_4 : gw_dc cX11_pace 4 (.iconst 1) 1 5 := ⟨by decide +kernel, rfl⟩
theorem dX11_pace_5 : gw_dc cX11_pace 5 (.iaload) 1 6 := ⟨by decide +kernel, rfl⟩
theorem dX11_pace_6 : gw_dc cX11_pace 6 (.ifCond .ne 7) 3 9 := ⟨by decide +kernel, rfl⟩
theorem dX11_pace_13 : gw_dc cX11_pace 13 (.aload_n 0) 1 14 := ⟨by decide +kernel, rfl⟩
theorem dX11_pace_14 : gw_dc cX11_pace 14 (.getfield 9) 3 17 := ⟨by decide +kernel, rfl⟩
theorem dX11_pace_17 : gw_dc cX11_pace 17 (.iconst 5) 1 18 := ⟨by decide +kernel, rfl⟩
theorem dX11_pace_18 : gw_dc cX11_pace 18 (.iload_n 1) 1 19 := ⟨by decide +kernel, rfl⟩
theorem dX11_pace_19 : gw_dc cX11_pace 19 (.iadd) 1 20 := ⟨by decide +kernel, rfl⟩
theorem dX11_pace_20 : gw_dc cX11_pace 20 (.iaload) 1 21 := ⟨by decide +kernel, rfl⟩
theorem dX11_pace_21 : decode cX11_pace 21 = .ok (.ireturn, 1) := by decide +kernel
theorem dX11_pace_9 : gw_dc cX11_pace 9 (.iconst 1) 1 10 := ⟨by decide +kernel, rfl⟩
theorem dX11_pace_10 : gw_dc cX11_pace 10 (.goto 11) 3 13 := ⟨by decide +kernel, rfl⟩
theorem dX11_small_0 : gw_dc cX11_small 0 (.aload_n 0) 1 1 := ⟨by decide +kernel, rfl⟩
theorem dX11_small_1 : gw_dc cX11_small 1 (.iload_n 1) 1 2 := ⟨by decide +kernel, rfl⟩
theorem dX11_small_2 : gw_dc cX11_small 2 (.invokevirtual 273) 3 5 := ⟨by decide +kernel, rfl⟩
theorem mv_RX11_273 : gw_mv RX11 273 yX11_pounds := ⟨gw_mem 1757 (by decide +kernel) rfl, gw_mem 1759 (by decide +kernel) rfl, gw_mem 70 (by decide +kernel) rfl⟩
theorem my_X11_pounds : gw_my yX11_pounds cX11_pounds 2 (some .int) 1 := ⟨gw_mem 1760 (by decide +kernel) rfl, gw_mem 106 (by decide +kernel) rfl, by decide +kernel, by decide⟩
theorem dX11_small_5 : gw_dc cX11_small 5 (.aload_n 0) 1 6 := ⟨by decide +kernel, rfl⟩
theorem dX11_small_6 : gw_dc cX11_small 6 (.getfield 9) 3 9 := ⟨by decide +kernel, rfl⟩
theorem dX11_small_9 : gw_dc cX11_small 9 (.bipush 17) 2 11 := ⟨by decide +kernel, rfl⟩
theorem dX11_small_11 : gw_dc cX11_small 11 (.iaload) 1 12 := ⟨by decide +kernel, rfl⟩
theorem dX11_small_12 : gw_dc cX11_small 12 (.invokestatic 268) 3 15 := ⟨by decide +kernel, rfl⟩
theorem dX11_small_15 : decode cX11_small 15 = .ok (.ireturn, 1) := by decide +kernel
theorem dX11_isTray_0 : gw_dc cX11_isTray 0 (.iload_n 0) 1 1 := ⟨by decide +kernel, rfl⟩
theorem dX11_isTray_1 : gw_dc cX11_isTray 1 (.i2l) 1 2 := ⟨by decide +kernel, rfl⟩
theorem dX11_isTray_2 : gw_dc cX11_isTray 2 (.lconst 0) 1 3 := ⟨by decide +kernel, rfl⟩
theorem dX11_isTray_3 : gw_dc cX11_isTray 3 (.ldc2_w 338) 3 6 := ⟨by decide +kernel, rfl⟩
theorem kc_RX11_338 : Cond.constantLong RX11 338 (Int64.ofInt 3) ∈ wsG := gw_mem 1697 (by decide +kernel) rfl
theorem dX11_isTray_6 : gw_dc cX11_isTray 6 (.invokestatic 147) 3 9 := ⟨by decide +kernel, rfl⟩
theorem dX11_isTray_9 : decode cX11_isTray 9 = .ok (.ireturn, 1) := by decide +kernel
theorem dX11_trayFault_0 : gw_dc cX11_trayFault 0 (.iload_n 1) 1 1 := ⟨by decide +kernel, rfl⟩
theorem dX11_trayFault_1 : gw_dc cX11_trayFault 1 (.invokestatic 256) 3 4 := ⟨by decide +kernel, rfl⟩
theorem ms_RX11_256 : gw_mst RX11 256 yX11_isTray := ⟨gw_mem 1694 (by decide +kernel) rfl, gw_mem 1695 (by decide +kernel) rfl⟩
theorem my_X11_isTray : gw_my yX11_isTray cX11_isTray 1 (some .boolean) 1 := ⟨gw_mem 1696 (by decide +kernel) rfl, gw_mem 106 (by decide +kernel) rfl, by decide +kernel, by decide⟩
theorem dX11_trayFault_4 : gw_dc cX11_trayFault 4 (.ifCond .ne 7) 3 7 := ⟨by decide +kernel, rfl⟩
theorem dX11_trayFault_11 : gw_dc cX11_trayFault 11 (.aload_n 0) 1 12 := ⟨by decide +kernel, rfl⟩
theorem dX11_trayFault_12 : gw_dc cX11_trayFault 12 (.getfield 78) 3 15 := ⟨by decide +kernel, rfl⟩
theorem fk_RX11_78 : gw_fk RX11 78 11 39 42 1 true := ⟨_, _, _, ck_11, by decide, by decide, fun h => absurd h (by decide), fun h => absurd h (by decide), fun _ => Or.inr ⟨_, rfl⟩, rfl, Or.inl (gw_mem 1460 (by decide +kernel) rfl)⟩
theorem rf_223_39 {ad : Nat → Nat} : (gw_M0 ad).2.2 223 39 = some 245 := (by decide +kernel : gw_rh 223 39 = some 245)
theorem dX11_trayFault_15 : gw_dc cX11_trayFault 15 (.iload_n 1) 1 16 := ⟨by decide +kernel, rfl⟩
theorem dX11_trayFault_16 : gw_dc cX11_trayFault 16 (.iaload) 1 17 := ⟨by decide +kernel, rfl⟩
theorem o_245 {ad : Nat → Nat} : isO (gw_M0 ad) 245 21 4 := (by decide +kernel : 245 < gw_N0 ∧ gw_sh 245 = (21, 4))
theorem dX11_trayFault_17 : gw_dc cX11_trayFault 17 (.iconst (-1)) 1 18 := ⟨by decide +kernel, rfl⟩
theorem dX11_trayFault_18 : gw_dc cX11_trayFault 18 (.if_icmp .ne 7) 3 21 := ⟨by decide +kernel, rfl⟩
theorem dX11_trayFault_25 : gw_dc cX11_trayFault 25 (.iconst 0) 1 26 := ⟨by decide +kernel, rfl⟩
theorem dX11_trayFault_26 : decode cX11_trayFault 26 = .ok (.ireturn, 1) := by decide +kernel
theorem dX11_trayFault_21 : gw_dc cX11_trayFault 21 (.iconst 2) 1 22 := ⟨by decide +kernel, rfl⟩
theorem dX11_trayFault_22 : gw_dc cX11_trayFault 22 (.goto 4) 3 25 := ⟨by decide +kernel, rfl⟩
theorem dX11_trayFault_7 : gw_dc cX11_trayFault 7 (.iconst 1) 1 8 := ⟨by decide +kernel, rfl⟩
theorem dX11_trayFault_8 : gw_dc cX11_trayFault 8 (.goto 18) 3 11 := ⟨by decide +kernel, rfl⟩
/-! The model, 8: what is told of sacks, pieces, stones, trays (224 told) -/
def nOf (σ : Sg) (s w : Int) : Int := σ 224 (20 + 7 * s + w).toNat
def nSets (σ : Sg) (s w v : Int) : Sg := su σ 224 (20 + 7 * s + w).toNat v
theorem of_ix {s w : Int} (h : (0 ≤ s ∧ s ≤ 90) ∧ 0 ≤ w ∧ w ≤ 6) : wr (wr (20 + wr (7 * s)) + w) = 20 + 7 * s + w := by
  rw [wr_id (show okI (7 * s) by unfold okI; omega), wr_id (show okI (20 + 7 * s) by unfold okI; omega), wr_id (by unfold okI; omega)]
def nIsS (σ : Sg) (s : Int) : Int := wth s 0 (wr (σ 224 4 - 1))
def nIsP (σ : Sg) (p : Int) : Int := wth p 0 (wr (σ 224 668 - 1))
def nFoS (σ : Sg) (i : Nat) (c : Int) : Int := wr (c + nOf σ (i : Nat) 6)
def nFo (σ : Sg) (s : Int) : Int := itr s.toNat (nFoS σ) 0
def nPo (σ : Sg) (p : Int) : Int := σ 224 (608 + p).toNat
def nPa (σ : Sg) (t : Int) : Int := if σ 224 1 = 0 then 1 else σ 224 (5 + t).toNat
def nSm (σ : Sg) (p : Int) : Int := max (nPo σ p) (σ 224 17)
def nTf (σ : Sg) (i : Int) : Int := if wth i 0 3 = 0 then 1 else if σ 245 i.toNat = -1 then 2 else 0
theorem wth_1 {v lo hi : Int} (h : wth v lo hi ≠ 0) : lo ≤ v ∧ v ≤ hi := by
  unfold wth at h; split at h
  · assumption
  · exact absurd rfl h
theorem wth_b (v lo hi : Int) : wth v lo hi = 0 ∨ wth v lo hi = 1 := by unfold wth; split; exact Or.inr rfl; exact Or.inl rfl
set_option maxRecDepth 4000 in
theorem s_X11_isSack (ad : Nat → Nat) (σ : Sg)  (s : Int) : gw_Sp yX11_isSack cX11_isSack 2 (some .boolean) 2 0 0 [vR (some 223), vI s] (gw_M0 ad) σ (gw_D (some (vI (nIsS σ s))) (gw_M0 ad) (σ)) gw_no := by
  refine gw_Sp.of [some (vR (some 223)), some (vI s)] (by decide +kernel) rfl (Nat.le_of_ble_eq_true rfl) ?_
  intro X G fx het hnm
  refine g_iload_n fx dX11_isSack_0 rfl ?_
  refine g_i2l fx dX11_isSack_1 ?_
  refine g_lconst0 fx dX11_isSack_2 ?_
  refine g_aload_n fx dX11_isSack_3 rfl ?_
  refine g_getr fx dX11_isSack_4 fk_RX11_9 o_223 rf_223_0 ?_
  refine g_iconst fx dX11_isSack_7 (by unfold okI; omega) ?_
  refine g_iald fx dX11_isSack_8 o_224 (by decide) (by decide) ?_
  rw [show Int.toNat 4 = 4 from rfl]
  refine g_iconst fx dX11_isSack_9 (by unfold okI; omega) ?_
  refine g_isub fx dX11_isSack_10 ?_
  refine g_i2l fx dX11_isSack_11 ?_
  refine g_callSD fx dX11_isSack_12 ms_RX11_147 my_X11_within (s_X11_within ad _ _ _ _) rfl rfl (Nat.le_of_ble_eq_true rfl) (by decide) (by decide) ?_
  exact g_zret fx rfl dX11_isSack_15 (wth_b _ _ _) (by decide) (by decide) (gw_le.rf _) ⟨rfl, rfl, rfl⟩
set_option maxRecDepth 4000 in
theorem s_X11_isPiece (ad : Nat → Nat) (σ : Sg)  (p : Int) : gw_Sp yX11_isPiece cX11_isPiece 3 (some .boolean) 2 0 0 [vR (some 223), vJ p] (gw_M0 ad) σ (gw_D (some (vI (nIsP σ p))) (gw_M0 ad) (σ)) gw_no := by
  refine gw_Sp.of [some (vR (some 223)), some (vJ p), none] (by decide +kernel) rfl (Nat.le_of_ble_eq_true rfl) ?_
  intro X G fx het hnm
  refine g_lload_n fx dX11_isPiece_0 rfl ?_
  refine g_lconst0 fx dX11_isPiece_1 ?_
  refine g_aload_n fx dX11_isPiece_2 rfl ?_
  refine g_getr fx dX11_isPiece_3 fk_RX11_9 o_223 rf_223_0 ?_
  refine g_sipush fx dX11_isPiece_6 (by decide) ?_
  refine g_iald fx dX11_isPiece_9 o_224 (by decide) (by decide) ?_
  rw [show Int.toNat 668 = 668 from rfl]
  refine g_iconst fx dX11_isPiece_10 (by unfold okI; omega) ?_
  refine g_isub fx dX11_isPiece_11 ?_
  refine g_i2l fx dX11_isPiece_12 ?_
  refine g_callSD fx dX11_isPiece_13 ms_RX11_147 my_X11_within (s_X11_within ad _ _ _ _) rfl rfl (Nat.le_of_ble_eq_true rfl) (by decide) (by decide) ?_
  exact g_zret fx rfl dX11_isPiece_16 (wth_b _ _ _) (by decide) (by decide) (gw_le.rf _) ⟨rfl, rfl, rfl⟩
set_option maxRecDepth 4000 in
theorem s_X11_of (ad : Nat → Nat) (σ : Sg)  (s : Int) (w : Int) (h : (0 ≤ s ∧ s ≤ 90) ∧ 0 ≤ w ∧ w ≤ 6) : gw_Sp yX11_of cX11_of 3 (some .int) 1 0 0 [vR (some 223), vI s, vI w] (gw_M0 ad) σ (gw_D (some (vI (nOf σ s w))) (gw_M0 ad) (σ)) gw_no := by
  refine gw_Sp.of [some (vR (some 223)), some (vI s), some (vI w)] (by decide +kernel) rfl (Nat.le_of_ble_eq_true rfl) ?_
  intro X G fx het hnm
  refine g_aload_n fx dX11_of_0 rfl ?_
  refine g_getr fx dX11_of_1 fk_RX11_9 o_223 rf_223_0 ?_
  refine g_bipush fx dX11_of_4 (by decide) ?_
  refine g_bipush fx dX11_of_6 (by decide) ?_
  refine g_iload_n fx dX11_of_8 rfl ?_
  refine g_imul fx dX11_of_9 ?_
  refine g_iadd fx dX11_of_10 ?_
  refine g_iload_n fx dX11_of_11 rfl ?_
  refine g_iadd fx dX11_of_12 ?_
  refine gw_cgt rfl (of_ix h) ?_
  refine g_iald fx dX11_of_13 o_224 (by omega) (by show _ < ((672 : Nat) : Int); omega) ?_
  exact g_iret fx rfl dX11_of_14 (by decide) (by decide) (gw_le.rf _) ⟨rfl, rfl, rfl⟩
set_option maxRecDepth 4000 in
theorem s_X11_sets (ad : Nat → Nat) (σ : Sg)  (s : Int) (w : Int) (v : Int) (h : (0 ≤ s ∧ s ≤ 90) ∧ 0 ≤ w ∧ w ≤ 6) : gw_Sp yX11_sets cX11_sets 4 none 1 0 0 [vR (some 223), vI s, vI w, vI v] (gw_M0 ad) σ (gw_D none (gw_M0 ad) (nSets σ s w v)) gw_no := by
  refine gw_Sp.of [some (vR (some 223)), some (vI s), some (vI w), some (vI v)] (by decide +kernel) rfl (Nat.le_of_ble_eq_true rfl) ?_
  intro X G fx het hnm
  refine g_aload_n fx dX11_sets_0 rfl ?_
  refine g_getr fx dX11_sets_1 fk_RX11_9 o_223 rf_223_0 ?_
  refine g_bipush fx dX11_sets_4 (by decide) ?_
  refine g_bipush fx dX11_sets_6 (by decide) ?_
  refine g_iload_n fx dX11_sets_8 rfl ?_
  refine g_imul fx dX11_sets_9 ?_
  refine g_iadd fx dX11_sets_10 ?_
  refine g_iload_n fx dX11_sets_11 rfl ?_
  refine g_iadd fx dX11_sets_12 ?_
  refine gw_cgt rfl (of_ix h) ?_
  refine g_iload_n fx dX11_sets_13 rfl ?_
  refine g_iast fx dX11_sets_14 o_224 (by omega) (by show _ < ((672 : Nat) : Int); omega) ?_
  exact g_vret fx rfl dX11_sets_15 (by decide) (by decide) (gw_le.rf _) ⟨rfl, rfl, rfl⟩
set_option maxRecDepth 4000 in
theorem s_X11_firstOf (ad : Nat → Nat) (σ : Sg)  (s : Int) (h : s ≤ 90) : gw_Sp yX11_firstOf cX11_firstOf 4 (some .int) 2 0 0 [vR (some 223), vI s] (gw_M0 ad) σ (gw_D (some (vI (nFo σ s))) (gw_M0 ad) (σ)) gw_no := by
  refine gw_Sp.of [some (vR (some 223)), some (vI s), none, none] (by decide +kernel) rfl (Nat.le_of_ble_eq_true rfl) ?_
  intro X G fx het hnm
  refine g_iconst fx dX11_firstOf_0 (by unfold okI; omega) ?_
  refine g_istore_n fx dX11_firstOf_1 (by decide) rfl rfl ?_
  refine g_iconst fx dX11_firstOf_2 (by unfold okI; omega) ?_
  refine g_istore_n fx dX11_firstOf_3 (by decide) rfl rfl ?_
  have loop4 : ∀ i : Nat, i ≤ s.toNat → gw_W X (yX11_firstOf.cls, cX11_firstOf, 4, (some .int), 2, 0, 0) G (gw_Z X G (gw_M0 ad) σ (gw_D (some (vI (nFo σ s))) (gw_M0 ad) (σ)) gw_no 0 0) 0 0 (gw_M0 ad) (σ) 4 [some (vR (some 223)), some (vI s), some (vI (itr i (nFoS σ) 0)), some (vI (i : Nat))] [] := by
    refine up_ind _ (s.toNat) (fun i hi ih => ?_)
    refine g_iload_n fx dX11_firstOf_4 rfl ?_
    refine g_iload_n fx dX11_firstOf_5 rfl ?_
    refine g_icmp_ge (tgt := 25) fx dX11_firstOf_6 (by decide) (fun h6 => ?_) (fun h6 => ?_)
    · refine g_iload_n fx dX11_firstOf_25 rfl ?_
      exact g_iret fx rfl dX11_firstOf_26 (by decide) (by decide) (gw_le.rf _) ⟨by rw [nFo, show s.toNat = i by omega], rfl, rfl⟩
    · refine g_iload_n fx dX11_firstOf_9 rfl ?_
      refine g_aload_n fx dX11_firstOf_10 rfl ?_
      refine g_iload_n fx dX11_firstOf_11 rfl ?_
      refine g_bipush fx dX11_firstOf_12 (by decide) ?_
      refine g_callVD fx dX11_firstOf_14 mv_RX11_242 my_X11_of (s_X11_of ad _ _ _ (by omega)) o_223 rfl rfl rfl (Nat.le_of_ble_eq_true rfl) (by decide) (by decide) ?_
      refine g_iadd fx dX11_firstOf_17 ?_
      refine g_istore_n fx dX11_firstOf_18 (by decide) rfl rfl ?_
      refine g_iinc1 fx dX11_firstOf_19 (by decide) rfl rfl (by unfold okI; omega) rfl ?_
      refine g_goto (tgt := 4) fx dX11_firstOf_22 (by decide) ?_
      exact gw_cg rfl (by rw [itr_s, nFoS, show ((i : Nat) : Int) + 1 = ((i + 1 : Nat) : Int) by omega]; rfl) (ih (by omega))
  exact loop4 0 (Nat.zero_le _)
set_option maxRecDepth 4000 in
theorem s_X11_pounds (ad : Nat → Nat) (σ : Sg)  (p : Int) (h : 0 ≤ p ∧ p < 64) : gw_Sp yX11_pounds cX11_pounds 2 (some .int) 1 0 0 [vR (some 223), vI p] (gw_M0 ad) σ (gw_D (some (vI (nPo σ p))) (gw_M0 ad) (σ)) gw_no := by
  refine gw_Sp.of [some (vR (some 223)), some (vI p)] (by decide +kernel) rfl (Nat.le_of_ble_eq_true rfl) ?_
  intro X G fx het hnm
  refine g_aload_n fx dX11_pounds_0 rfl ?_
  refine g_getr fx dX11_pounds_1 fk_RX11_9 o_223 rf_223_0 ?_
  refine g_sipush fx dX11_pounds_4 (by decide) ?_
  refine g_iload_n fx dX11_pounds_7 rfl ?_
  refine g_iadd fx dX11_pounds_8 ?_
  refine gw_cgt rfl (wr_id (show okI (608 + p) by unfold okI; omega)) ?_
  refine g_iald fx dX11_pounds_9 o_224 (by omega) (by show _ < ((672 : Nat) : Int); omega) ?_
  exact g_iret fx rfl dX11_pounds_10 (by decide) (by decide) (gw_le.rf _) ⟨rfl, rfl, rfl⟩
set_option maxRecDepth 4000 in
theorem s_X11_stones (ad : Nat → Nat) (σ : Sg)  : gw_Sp yX11_stones cX11_stones 1 (some .int) 2 0 0 [vR (some 223)] (gw_M0 ad) σ (gw_D (some (vI (max 1 (σ 224 1)))) (gw_M0 ad) (σ)) gw_no := by
  refine gw_Sp.of [some (vR (some 223))] (by decide +kernel) rfl (Nat.le_of_ble_eq_true rfl) ?_
  intro X G fx het hnm
  refine g_iconst fx dX11_stones_0 (by unfold okI; omega) ?_
  refine g_aload_n fx dX11_stones_1 rfl ?_
  refine g_getr fx dX11_stones_2 fk_RX11_9 o_223 rf_223_0 ?_
  refine g_iconst fx dX11_stones_5 (by unfold okI; omega) ?_
  refine g_iald fx dX11_stones_6 o_224 (by decide) (by decide) ?_
  rw [show Int.toNat 1 = 1 from rfl]
  refine g_max fx dX11_stones_7 mm_RX11_268 (by decide) (by decide) (by decide) (Nat.le_of_ble_eq_true rfl) ?_
  exact g_iret fx rfl dX11_stones_10 (by decide) (by decide) (gw_le.rf _) ⟨rfl, rfl, rfl⟩
set_option maxRecDepth 4000 in
theorem s_X11_pace (ad : Nat → Nat) (σ : Sg)  (t : Int) (h : 0 ≤ t ∧ t ≤ 3) : gw_Sp yX11_pace cX11_pace 2 (some .int) 1 0 0 [vR (some 223), vI t] (gw_M0 ad) σ (gw_D (some (vI (nPa σ t))) (gw_M0 ad) (σ)) gw_no := by
  refine gw_Sp.of [some (vR (some 223)), some (vI t)] (by decide +kernel) rfl (Nat.le_of_ble_eq_true rfl) ?_
  intro X G fx het hnm
  refine g_aload_n fx dX11_pace_0 rfl ?_
  refine g_getr fx dX11_pace_1 fk_RX11_9 o_223 rf_223_0 ?_
  refine g_iconst fx dX11_pace_4 (by unfold okI; omega) ?_
  refine g_iald fx dX11_pace_5 o_224 (by decide) (by decide) ?_
  rw [show Int.toNat 1 = 1 from rfl]
  refine g_if_ne (tgt := 13) fx dX11_pace_6 (by decide) (fun h6 => ?_) (fun h6 => ?_)
  · refine g_aload_n fx dX11_pace_13 rfl ?_
    refine g_getr fx dX11_pace_14 fk_RX11_9 o_223 rf_223_0 ?_
    refine g_iconst fx dX11_pace_17 (by unfold okI; omega) ?_
    refine g_iload_n fx dX11_pace_18 rfl ?_
    refine g_iadd fx dX11_pace_19 ?_
    refine gw_cgt rfl (wr_id (show okI (5 + t) by unfold okI; omega)) ?_
    refine g_iald fx dX11_pace_20 o_224 (by omega) (by show _ < ((672 : Nat) : Int); omega) ?_
    exact g_iret fx rfl dX11_pace_21 (by decide) (by decide) (gw_le.rf _) ⟨by first | (exfalso; omega) | (rw [nPa]; (repeat first | rw [if_pos (by omega)] | rw [if_neg (by omega)]) <;> rfl), rfl, rfl⟩
  · refine g_iconst fx dX11_pace_9 (by unfold okI; omega) ?_
    refine g_goto (tgt := 21) fx dX11_pace_10 (by decide) ?_
    exact g_iret fx rfl dX11_pace_21 (by decide) (by decide) (gw_le.rf _) ⟨by first | (exfalso; omega) | (rw [nPa]; (repeat first | rw [if_pos (by omega)] | rw [if_neg (by omega)]) <;> rfl), rfl, rfl⟩
set_option maxRecDepth 4000 in
theorem s_X11_small (ad : Nat → Nat) (σ : Sg)  (p : Int) (h : 0 ≤ p ∧ p < 64) : gw_Sp yX11_small cX11_small 2 (some .int) 2 0 0 [vR (some 223), vI p] (gw_M0 ad) σ (gw_D (some (vI (nSm σ p))) (gw_M0 ad) (σ)) gw_no := by
  refine gw_Sp.of [some (vR (some 223)), some (vI p)] (by decide +kernel) rfl (Nat.le_of_ble_eq_true rfl) ?_
  intro X G fx het hnm
  refine g_aload_n fx dX11_small_0 rfl ?_
  refine g_iload_n fx dX11_small_1 rfl ?_
  refine g_callVD fx dX11_small_2 mv_RX11_273 my_X11_pounds (s_X11_pounds ad _ _ h) o_223 rfl rfl rfl (Nat.le_of_ble_eq_true rfl) (by decide) (by decide) ?_
  refine g_aload_n fx dX11_small_5 rfl ?_
  refine g_getr fx dX11_small_6 fk_RX11_9 o_223 rf_223_0 ?_
  refine g_bipush fx dX11_small_9 (by decide) ?_
  refine g_iald fx dX11_small_11 o_224 (by decide) (by decide) ?_
  rw [show Int.toNat 17 = 17 from rfl]
  refine g_max fx dX11_small_12 mm_RX11_268 (by decide) (by decide) (by decide) (Nat.le_of_ble_eq_true rfl) ?_
  exact g_iret fx rfl dX11_small_15 (by decide) (by decide) (gw_le.rf _) ⟨rfl, rfl, rfl⟩
set_option maxRecDepth 4000 in
theorem s_X11_isTray (ad : Nat → Nat) (σ : Sg) (i : Int) : gw_Sp yX11_isTray cX11_isTray 1 (some .boolean) 2 0 0 [vI i] (gw_M0 ad) σ (gw_D (some (vI (wth i 0 3))) (gw_M0 ad) (σ)) gw_no := by
  refine gw_Sp.of [some (vI i)] (by decide +kernel) rfl (Nat.le_of_ble_eq_true rfl) ?_
  intro X G fx het hnm
  refine g_iload_n fx dX11_isTray_0 rfl ?_
  refine g_i2l fx dX11_isTray_1 ?_
  refine g_lconst0 fx dX11_isTray_2 ?_
  refine g_ldcL fx dX11_isTray_3 kc_RX11_338 (by unfold okJ; omega) ?_
  refine g_callSD fx dX11_isTray_6 ms_RX11_147 my_X11_within (s_X11_within ad _ _ _ _) rfl rfl (Nat.le_of_ble_eq_true rfl) (by decide) (by decide) ?_
  exact g_zret fx rfl dX11_isTray_9 (wth_b _ _ _) (by decide) (by decide) (gw_le.rf _) ⟨rfl, rfl, rfl⟩
set_option maxRecDepth 4000 in
theorem s_X11_trayFault (ad : Nat → Nat) (σ : Sg)  (i : Int) : gw_Sp yX11_trayFault cX11_trayFault 2 (some .int) 3 0 0 [vR (some 223), vI i] (gw_M0 ad) σ (gw_D (some (vI (nTf σ i))) (gw_M0 ad) (σ)) gw_no := by
  refine gw_Sp.of [some (vR (some 223)), some (vI i)] (by decide +kernel) rfl (Nat.le_of_ble_eq_true rfl) ?_
  intro X G fx het hnm
  refine g_iload_n fx dX11_trayFault_0 rfl ?_
  refine g_callSD fx dX11_trayFault_1 ms_RX11_256 my_X11_isTray (s_X11_isTray ad _ _) rfl rfl (Nat.le_of_ble_eq_true rfl) (by decide) (by decide) ?_
  refine g_if_ne (tgt := 11) fx dX11_trayFault_4 (by decide) (fun h4 => ?_) (fun h4 => ?_)
  · have hi := wth_1 h4
    refine g_aload_n fx dX11_trayFault_11 rfl ?_
    refine g_getr fx dX11_trayFault_12 fk_RX11_78 o_223 rf_223_39 ?_
    refine g_iload_n fx dX11_trayFault_15 rfl ?_
    refine g_iald fx dX11_trayFault_16 o_245 (by omega) (by show _ < ((4 : Nat) : Int); omega) ?_
    refine g_iconst fx dX11_trayFault_17 (by unfold okI; omega) ?_
    refine g_icmp_ne (tgt := 25) fx dX11_trayFault_18 (by decide) (fun h18 => ?_) (fun h18 => ?_)
    · refine g_iconst fx dX11_trayFault_25 (by unfold okI; omega) ?_
      exact g_iret fx rfl dX11_trayFault_26 (by decide) (by decide) (gw_le.rf _) ⟨by first | (exfalso; omega) | (rw [nTf]; (repeat first | rw [if_pos (by omega)] | rw [if_neg (by omega)]) <;> rfl), rfl, rfl⟩
    · refine g_iconst fx dX11_trayFault_21 (by unfold okI; omega) ?_
      refine g_goto (tgt := 26) fx dX11_trayFault_22 (by decide) ?_
      exact g_iret fx rfl dX11_trayFault_26 (by decide) (by decide) (gw_le.rf _) ⟨by first | (exfalso; omega) | (rw [nTf]; (repeat first | rw [if_pos (by omega)] | rw [if_neg (by omega)]) <;> rfl), rfl, rfl⟩
  · refine g_iconst fx dX11_trayFault_7 (by unfold okI; omega) ?_
    refine g_goto (tgt := 26) fx dX11_trayFault_8 (by decide) ?_
    exact g_iret fx rfl dX11_trayFault_26 (by decide) (by decide) (gw_le.rf _) ⟨by first | (exfalso; omega) | (rw [nTf]; (repeat first | rw [if_pos (by omega)] | rw [if_neg (by omega)]) <;> rfl), rfl, rfl⟩
