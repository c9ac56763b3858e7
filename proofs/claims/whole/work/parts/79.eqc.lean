/-! ALIKE, 10: numbers cut to a sort -/
theorem lj_sh (v : Int) (s : Int64) (k : Nat) (hk : s.toBitVec.smod 64 = BitVec.ofNat 64 k) (h : k < 64) : ((Int64.ofInt v <<< s) >>> s).toInt = ((v % 18446744073709551616 * (2 ^ k : Nat)).bmod 18446744073709551616) / ((2 ^ k : Nat) : Int) := by
  show ((Int64.ofInt v <<< s) >>> s).toBitVec.toInt = _
  rw [Int64.toBitVec_shiftRight, Int64.toBitVec_shiftLeft, hk, BitVec.toInt_sshiftRight', BitVec.shiftLeft_eq', BitVec.toInt_shiftLeft, Int.shiftRight_eq_div_pow]
  rw [show (BitVec.ofNat 64 k).toNat = k by simp; omega]
  have hx : (((Int64.ofInt v).toBitVec.toNat <<< k : Nat) : Int) = v % 18446744073709551616 * ((2 ^ k : Nat) : Int) := by
    rw [Int64.toBitVec_ofInt, Nat.shiftLeft_eq, Int.natCast_mul, BitVec.toNat_ofInt, Int.toNat_of_nonneg (Int.emod_nonneg _ (by decide))]
    rfl
  rw [hx, show (2 : Nat) ^ 64 = 18446744073709551616 by decide]
theorem bm8 (v : Int) : ((v % 18446744073709551616 * 72057594037927936).bmod 18446744073709551616) / 72057594037927936 = v.bmod 256 := by
  rw [Int.bmod_def, Int.bmod_def]
  (repeat' split) <;> omega
theorem bm16 (v : Int) : ((v % 18446744073709551616 * 281474976710656).bmod 18446744073709551616) / 281474976710656 = v.bmod 65536 := by
  rw [Int.bmod_def, Int.bmod_def]
  (repeat' split) <;> omega
theorem bm32 (v : Int) : ((v % 18446744073709551616 * 4294967296).bmod 18446744073709551616) / 4294967296 = v.bmod 4294967296 := by
  rw [Int.bmod_def, Int.bmod_def]
  (repeat' split) <;> omega
theorem bm64 (v : Int) : ((v % 18446744073709551616 * 1).bmod 18446744073709551616) / 1 = v.bmod 18446744073709551616 := by
  rw [Int.bmod_def, Int.bmod_def]
  (repeat' split) <;> omega
theorem cut_alike {s v : Int} (hs : 0 ≤ s ∧ s ≤ 3) (hv : okJ v) : ljshr (ljshl v (wr (64 - wshl 8 s))) (wr (64 - wshl 8 s)) = yCut s v := by
  have e : ∀ n : Int, ljshr (ljshl v n) n = ((Int64.ofInt v <<< ((Int32.ofInt n).toInt64 &&& 63)) >>> ((Int32.ofInt n).toInt64 &&& 63)).toInt := by
    intro n
    unfold ljshr ljshl
    rw [of_toJ]
  rw [e]
  unfold yCut
  by_cases s0 : s = 0
  · subst s0
    rw [show wr (64 - wshl 8 0) = 56 by decide, if_pos rfl, lj_sh v _ 56 (by decide) (by decide)]
    unfold wb8 wr
    rw [of_toI, Int32.toInt8_ofInt, Int8.toInt_toInt32, Int8.toInt_ofInt]
    exact bm8 v
  by_cases s1 : s = 1
  · subst s1
    rw [show wr (64 - wshl 8 1) = 48 by decide, if_neg (by decide), if_pos rfl, lj_sh v _ 48 (by decide) (by decide)]
    unfold wb16 wr
    rw [of_toI, Int32.toInt16_ofInt, Int16.toInt_toInt32, Int16.toInt_ofInt]
    exact bm16 v
  by_cases s2 : s = 2
  · subst s2
    rw [show wr (64 - wshl 8 2) = 32 by decide, if_neg (by decide), if_neg (by decide), if_pos rfl, lj_sh v _ 32 (by decide) (by decide), wr_bmod]
    exact bm32 v
  · have s3 : s = 3 := by omega
    subst s3
    rw [show wr (64 - wshl 8 3) = 0 by decide, if_neg (by decide), if_neg (by decide), if_neg (by decide), lj_sh v _ 0 (by decide) (by decide)]
    have h1 := bm64 v
    have h2 : v.bmod 18446744073709551616 = v := by
      unfold okJ at hv
      exact Int.bmod_eq_of_le (by omega) (by omega)
    rw [h2] at h1
    exact h1
