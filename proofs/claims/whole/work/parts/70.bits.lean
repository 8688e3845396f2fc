/-! ===== bits, quotients, of numbers that are not below 0 ===== -/
theorem bv_n (a : Nat) : (Int32.ofInt (a : Int)).toBitVec = BitVec.ofNat 32 a := by
  rw [Int32.toBitVec_ofInt, BitVec.ofInt_natCast]
theorem bv_i {x : BitVec 32} {n : Nat} (h : x.toNat = n) (hn : n < 2147483648) : x.toInt = (n : Int) := by
  rw [BitVec.toInt_eq_toNat_of_lt (by rw [h]; omega), h]
theorem and_n {a b : Nat} (ha : a < 2147483648) (hb : b < 2147483648) : jd_and (a : Int) (b : Int) = ((a &&& b : Nat) : Int) := by
  unfold jd_and
  rw [← Int32.toInt_toBitVec, Int32.toBitVec_and, bv_n, bv_n]
  apply bv_i
  · rw [BitVec.toNat_and, BitVec.toNat_ofNat, BitVec.toNat_ofNat, Nat.mod_eq_of_lt (by omega), Nat.mod_eq_of_lt (by omega)]
  · exact Nat.lt_of_le_of_lt Nat.and_le_left ha
theorem or_n {a b : Nat} (ha : a < 2147483648) (hb : b < 2147483648) : jd_or (a : Int) (b : Int) = ((a ||| b : Nat) : Int) := by
  unfold jd_or
  rw [← Int32.toInt_toBitVec, Int32.toBitVec_or, bv_n, bv_n]
  apply bv_i
  · rw [BitVec.toNat_or, BitVec.toNat_ofNat, BitVec.toNat_ofNat, Nat.mod_eq_of_lt (by omega), Nat.mod_eq_of_lt (by omega)]
  · exact Nat.or_lt_two_pow (n := 31) ha hb
theorem xor_n {a b : Nat} (ha : a < 2147483648) (hb : b < 2147483648) : jd_xor (a : Int) (b : Int) = ((a ^^^ b : Nat) : Int) := by
  unfold jd_xor
  rw [← Int32.toInt_toBitVec, Int32.toBitVec_xor, bv_n, bv_n]
  apply bv_i
  · rw [BitVec.toNat_xor, BitVec.toNat_ofNat, BitVec.toNat_ofNat, Nat.mod_eq_of_lt (by omega), Nat.mod_eq_of_lt (by omega)]
  · exact Nat.xor_lt_two_pow (n := 31) ha hb
theorem shr_1 : ∀ m : Nat, m < 128 → jd_shr (m : Int) 1 = ((m >>> 1 : Nat) : Int) := by decide +kernel
theorem shl_1 : ∀ k : Nat, k < 20 → jd_shl 1 (k : Int) = ((1 <<< k : Nat) : Int) := by decide +kernel
theorem shr_b : ∀ m : Nat, m < 64 → ∀ k : Nat, k < 7 → jd_and (jd_shr (m : Int) (k : Int)) 1 = (((m >>> k) % 2 : Nat) : Int) := by decide +kernel
theorem ndw_n : ∀ a : Nat, a < 64 → ∀ b : Nat, b < 64 → jd_and (a : Int) (jd_xor (b : Int) (-1)) = ((a &&& (63 ^^^ b) : Nat) : Int) := by decide +kernel
/-- the next larger part of a room -/
theorem part_n : ∀ r : Nat, r < 64 → ∀ p : Nat, p < 64 → (p &&& r == p) = true → jd_and ((p : Int) - (r : Int)) (r : Int) = ((((List.range 64).find? (fun q => decide (p < q) && (q &&& r == q))).getD 0 : Nat) : Int) := by decide +kernel
theorem rm_n {a b : Nat} (ha : a < 2147483648) (hb : b < 2147483648) (h0 : 0 < b) : jm_rm (a : Int) (b : Int) = some ((a % b : Nat) : Int) := by
  unfold jm_rm
  rw [wr_n a ha, wr_n b hb, if_neg (by omega), Int.ofNat_tmod]
theorem dv_n {a b : Nat} (ha : a < 2147483648) (hb : b < 2147483648) (h0 : 0 < b) : jm_dv (a : Int) (b : Int) = some ((a / b : Nat) : Int) := by
  unfold jm_dv
  rw [wr_n a ha, wr_n b hb, if_neg (by omega), Int.ofNat_tdiv]
/-! the class's own quotients: rowOf, columnOf -/
theorem row_n {a b : Nat} (ha : a < 2147483648) (hb : b < 2147483648) (h0 : 0 < b) (M : jMem) : f_X4_rowOf (a : Int) (b : Int) M = some (((a / b : Nat) : Int), M) := by
  unfold f_X4_rowOf
  rw [wr_n b hb, if_neg (by omega), dv_n ha hb h0, Option.bind_some]
theorem col_n {a b : Nat} (ha : a < 2147483648) (hb : b < 2147483648) (h0 : 0 < b) (M : jMem) : f_X4_columnOf (a : Int) (b : Int) M = some (((a % b : Nat) : Int), M) := by
  unfold f_X4_columnOf
  rw [wr_n b hb, if_neg (by omega), rm_n ha hb h0, Option.bind_some]
