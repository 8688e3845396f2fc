/-! ===== bitCount ===== -/
theorem ush_1 {a : Nat} (ha : a < 2147483648) : jd_ushr (a : Int) 1 = ((a >>> 1 : Nat) : Int) := by
  unfold jd_ushr
  rw [← Int32.toInt_toBitVec, UInt32.toBitVec_toInt32, UInt32.toBitVec_shiftRight, Int32.toBitVec_toUInt32, bv_n]
  show (BitVec.ofNat 32 a >>> (1 : Nat)).toInt = _
  apply bv_i
  · rw [BitVec.toNat_ushiftRight, BitVec.toNat_ofNat, Nat.mod_eq_of_lt (by omega)]
  · rw [Nat.shiftRight_eq_div_pow]; omega
theorem ush_2 {a : Nat} (ha : a < 2147483648) : jd_ushr (a : Int) 2 = ((a >>> 2 : Nat) : Int) := by
  unfold jd_ushr
  rw [← Int32.toInt_toBitVec, UInt32.toBitVec_toInt32, UInt32.toBitVec_shiftRight, Int32.toBitVec_toUInt32, bv_n]
  show (BitVec.ofNat 32 a >>> (2 : Nat)).toInt = _
  apply bv_i
  · rw [BitVec.toNat_ushiftRight, BitVec.toNat_ofNat, Nat.mod_eq_of_lt (by omega)]
  · rw [Nat.shiftRight_eq_div_pow]; omega
theorem ush_4 {a : Nat} (ha : a < 2147483648) : jd_ushr (a : Int) 4 = ((a >>> 4 : Nat) : Int) := by
  unfold jd_ushr
  rw [← Int32.toInt_toBitVec, UInt32.toBitVec_toInt32, UInt32.toBitVec_shiftRight, Int32.toBitVec_toUInt32, bv_n]
  show (BitVec.ofNat 32 a >>> (4 : Nat)).toInt = _
  apply bv_i
  · rw [BitVec.toNat_ushiftRight, BitVec.toNat_ofNat, Nat.mod_eq_of_lt (by omega)]
  · rw [Nat.shiftRight_eq_div_pow]; omega
theorem ush_8 {a : Nat} (ha : a < 2147483648) : jd_ushr (a : Int) 8 = ((a >>> 8 : Nat) : Int) := by
  unfold jd_ushr
  rw [← Int32.toInt_toBitVec, UInt32.toBitVec_toInt32, UInt32.toBitVec_shiftRight, Int32.toBitVec_toUInt32, bv_n]
  show (BitVec.ofNat 32 a >>> (8 : Nat)).toInt = _
  apply bv_i
  · rw [BitVec.toNat_ushiftRight, BitVec.toNat_ofNat, Nat.mod_eq_of_lt (by omega)]
  · rw [Nat.shiftRight_eq_div_pow]; omega
theorem ush_16 {a : Nat} (ha : a < 2147483648) : jd_ushr (a : Int) 16 = ((a >>> 16 : Nat) : Int) := by
  unfold jd_ushr
  rw [← Int32.toInt_toBitVec, UInt32.toBitVec_toInt32, UInt32.toBitVec_shiftRight, Int32.toBitVec_toUInt32, bv_n]
  show (BitVec.ofNat 32 a >>> (16 : Nat)).toInt = _
  apply bv_i
  · rw [BitVec.toNat_ushiftRight, BitVec.toNat_ofNat, Nat.mod_eq_of_lt (by omega)]
  · rw [Nat.shiftRight_eq_div_pow]; omega
/-- two bytes masked apart -/
theorem and_2 {a m : Nat} (ha : a < 256) (hm : m < 256) (b M : Nat) : (256 * b + a) &&& (256 * M + m) = 256 * (b &&& M) + (a &&& m) := by
  have e : (256 : Nat) = 2 ^ 8 := by decide
  have hl : a &&& m < 2 ^ 8 := Nat.lt_of_le_of_lt Nat.and_le_left (by omega)
  rw [e] at ha hm ⊢
  apply Nat.eq_of_testBit_eq
  intro i
  rw [Nat.testBit_and, Nat.testBit_two_pow_mul_add _ ha, Nat.testBit_two_pow_mul_add _ hm, Nat.testBit_two_pow_mul_add _ hl]
  split
  · rw [Nat.testBit_and]
  · rw [Nat.testBit_and]
theorem sh_1 (a b : Nat) : (256 * b + a) >>> 1 = 256 * (b >>> 1) + (128 * (b % 2) + a / 2) := by rw [Nat.shiftRight_eq_div_pow, Nat.shiftRight_eq_div_pow]; omega
theorem sh_2 (a b : Nat) : (256 * b + a) >>> 2 = 256 * (b >>> 2) + (64 * (b % 4) + a / 4) := by rw [Nat.shiftRight_eq_div_pow, Nat.shiftRight_eq_div_pow]; omega
theorem sh_4 (a b : Nat) : (256 * b + a) >>> 4 = 256 * (b >>> 4) + (16 * (b % 16) + a / 16) := by rw [Nat.shiftRight_eq_div_pow, Nat.shiftRight_eq_div_pow]; omega
def bc1 (M x : Nat) : Nat := x - ((x >>> 1) &&& M)
def bc2 (M x : Nat) : Nat := (x &&& M) + ((x >>> 2) &&& M)
def bc3 (M x : Nat) : Nat := (x + (x >>> 4)) &&& M
theorem d1 : ∀ a : Nat, a < 256 → ∀ r : Nat, r < 2 → (128 * r + a / 2) &&& 85 = (a >>> 1) &&& 85 := by decide +kernel
theorem d2 : ∀ a : Nat, a < 256 → ∀ r : Nat, r < 4 → (64 * r + a / 4) &&& 51 = (a >>> 2) &&& 51 := by decide +kernel
theorem d3 : ∀ a : Nat, a < 70 → ∀ r : Nat, r < 8 → (a + (16 * r + a / 16)) &&& 15 = (a + (a >>> 4)) &&& 15 ∧ a + (16 * r + a / 16) < 256 := by decide +kernel
theorem bc1_2 {a b M : Nat} (ha : a < 256) : bc1 (256 * M + 85) (256 * b + a) = 256 * bc1 M b + bc1 85 a := by
  unfold bc1
  have hr := Nat.mod_lt b (show 2 > 0 by decide)
  rw [sh_1, and_2 (by omega) (by decide), d1 a ha _ hr]
  have h1 : (b >>> 1) &&& M ≤ b := Nat.le_trans Nat.and_le_left (by rw [Nat.shiftRight_eq_div_pow]; omega)
  have h2 : (a >>> 1) &&& 85 ≤ a := Nat.le_trans Nat.and_le_left (by rw [Nat.shiftRight_eq_div_pow]; omega)
  omega
theorem bc2_2 {a b M : Nat} (ha : a < 256) : bc2 (256 * M + 51) (256 * b + a) = 256 * bc2 M b + bc2 51 a := by
  unfold bc2
  have hr := Nat.mod_lt b (show 4 > 0 by decide)
  rw [sh_2, and_2 ha (by decide), and_2 (by omega) (by decide), d2 a ha _ hr]
  omega
theorem bc3_2 {a b M : Nat} (ha : a < 70) (hb : b % 16 < 8) : bc3 (256 * M + 15) (256 * b + a) = 256 * bc3 M b + bc3 15 a := by
  unfold bc3
  have hd := d3 a ha _ hb
  rw [sh_4, show 256 * b + a + (256 * (b >>> 4) + (16 * (b % 16) + a / 16)) = 256 * (b + (b >>> 4)) + (a + (16 * (b % 16) + a / 16)) by omega, and_2 hd.2 (by decide), hd.1]
/-- a byte's bits -/
def pcB (a : Nat) : Nat := cntB (fun i => a.testBit i) 8
theorem byte_ok : ∀ a : Nat, a < 256 → bc1 85 a < 256 ∧ bc2 51 (bc1 85 a) < 70 ∧ bc2 51 (bc1 85 a) % 16 < 8 ∧ bc3 15 (bc2 51 (bc1 85 a)) = pcB a ∧ pcB a ≤ 8 := by decide +kernel
theorem bc3_3 {a b c : Nat} (ha : a < 256) (hb : b < 256) (hc : c < 256) : bc3 986895 (bc2 3355443 (bc1 5592405 (256 * (256 * c + b) + a))) = 256 * (256 * pcB c + pcB b) + pcB a := by
  obtain ⟨a1, a2, a3, a4, a5⟩ := byte_ok a ha
  obtain ⟨b1, b2, b3, b4, b5⟩ := byte_ok b hb
  obtain ⟨c1, c2, c3, c4, c5⟩ := byte_ok c hc
  rw [show (5592405 : Nat) = 256 * (256 * 85 + 85) + 85 by decide, bc1_2 ha, bc1_2 hb, show (3355443 : Nat) = 256 * (256 * 51 + 51) + 51 by decide, bc2_2 a1, bc2_2 b1, show (986895 : Nat) = 256 * (256 * 15 + 15) + 15 by decide, bc3_2 a2 (by omega), bc3_2 b2 c3, a4, b4, c4]
theorem and_small {x M M' k : Nat} (hx : x < 2 ^ k) (h : M = 2 ^ k * M' + M % 2 ^ k) : x &&& M = x &&& (M % 2 ^ k) := by
  apply Nat.eq_of_testBit_eq
  intro i
  rw [Nat.testBit_and, Nat.testBit_and, Nat.testBit_mod_two_pow]
  by_cases z : i < k
  · rw [decide_eq_true z, Bool.true_and]
  · rw [Nat.testBit_lt_two_pow (Nat.lt_of_lt_of_le hx (Nat.pow_le_pow_right (by decide) (by omega))), Bool.false_and, Bool.false_and]
theorem cnt_20 (x : Nat) : cntB (fun i => x.testBit i) 20 = pcB (x % 256) + pcB (x / 256 % 256) + cntB (fun i => x.testBit (i + 16)) 4 := by
  have t0 : ∀ i, i < 8 → x.testBit i = (x % 256).testBit i := fun i hi => by
    rw [show (256 : Nat) = 2 ^ 8 by decide, Nat.testBit_mod_two_pow, decide_eq_true hi, Bool.true_and]
  have t1 : ∀ i, i < 8 → x.testBit (i + 8) = (x / 256 % 256).testBit i := fun i hi => by
    rw [show (256 : Nat) = 2 ^ 8 by decide, Nat.testBit_mod_two_pow, decide_eq_true hi, Bool.true_and, Nat.testBit_div_two_pow, Nat.add_comm]
  unfold pcB
  simp only [cntB, ← t0 0 (by omega), ← t0 1 (by omega), ← t0 2 (by omega), ← t0 3 (by omega), ← t0 4 (by omega), ← t0 5 (by omega), ← t0 6 (by omega), ← t0 7 (by omega), ← t1 0 (by omega), ← t1 1 (by omega), ← t1 2 (by omega), ← t1 3 (by omega), ← t1 4 (by omega), ← t1 5 (by omega), ← t1 6 (by omega), ← t1 7 (by omega)]
  simp only [Nat.zero_add, Nat.reduceAdd]
  omega
theorem q_bitCount {x : Nat} (hx : x < 1048576) (M : jMem) : f_J6_bitCount_0f7a4 (x : Int) M = some (((cntB (fun i => x.testBit i) 20 : Nat) : Int), M) := by
  -- bytes
  obtain ⟨a, ha⟩ : ∃ a, a = x % 256 := ⟨_, rfl⟩
  obtain ⟨b, hb⟩ : ∃ b, b = x / 256 % 256 := ⟨_, rfl⟩
  obtain ⟨c, hc⟩ : ∃ c, c = x / 65536 := ⟨_, rfl⟩
  have ha' : a < 256 := by omega
  have hb' : b < 256 := by omega
  have hc' : c < 16 := by omega
  have ex : x = 256 * (256 * c + b) + a := by omega
  have h3 := bc3_3 ha' hb' (show c < 256 by omega)
  rw [← ex] at h3
  -- the steps as naturals
  have l1 : x >>> 1 < 2 ^ 20 := by rw [Nat.shiftRight_eq_div_pow]; omega
  have m1 : (x >>> 1) &&& 1431655765 = (x >>> 1) &&& 5592405 := by
    rw [and_small (k := 20) (M' := 1365) l1 (by decide), ← and_small (k := 20) (M := 5592405) (M' := 5) l1 (by decide)]
  have le1 : (x >>> 1) &&& 5592405 ≤ x := Nat.le_trans Nat.and_le_left (by rw [Nat.shiftRight_eq_div_pow]; omega)
  obtain ⟨x1, hx1⟩ : ∃ x1, x1 = bc1 5592405 x := ⟨_, rfl⟩
  have e1 : (x : Int) - (jd_and (jd_ushr (x : Int) 1) 1431655765) = (x1 : Int) := by
    rw [ush_1 (by omega)]
    have : jd_and ((x >>> 1 : Nat) : Int) 1431655765 = (((x >>> 1) &&& 1431655765 : Nat) : Int) := and_n (b := 1431655765) (by omega) (by omega)
    rw [this, m1, hx1]
    unfold bc1
    omega
  have b1 : x1 < 2 ^ 20 := by rw [hx1]; unfold bc1; omega
  have l2 : x1 >>> 2 < 2 ^ 20 := by rw [Nat.shiftRight_eq_div_pow]; omega
  have m2 : x1 &&& 858993459 = x1 &&& 3355443 := by
    rw [and_small (k := 20) (M' := 819) b1 (by decide), ← and_small (k := 20) (M := 3355443) (M' := 3) b1 (by decide)]
  have m2' : (x1 >>> 2) &&& 858993459 = (x1 >>> 2) &&& 3355443 := by
    rw [and_small (k := 20) (M' := 819) l2 (by decide), ← and_small (k := 20) (M := 3355443) (M' := 3) l2 (by decide)]
  obtain ⟨x2, hx2⟩ : ∃ x2, x2 = bc2 3355443 x1 := ⟨_, rfl⟩
  have e2 : jd_and (x1 : Int) 858993459 + jd_and (jd_ushr (x1 : Int) 2) 858993459 = (x2 : Int) := by
    rw [ush_2 (by omega)]
    have q1 : jd_and (x1 : Int) 858993459 = ((x1 &&& 858993459 : Nat) : Int) := and_n (b := 858993459) (by omega) (by omega)
    have q2 : jd_and ((x1 >>> 2 : Nat) : Int) 858993459 = (((x1 >>> 2) &&& 858993459 : Nat) : Int) := and_n (b := 858993459) (by omega) (by omega)
    rw [q1, q2, m2, m2', hx2]
    unfold bc2
    omega
  have b2 : x2 < 2 ^ 22 := by
    have k1 : x1 &&& 3355443 ≤ x1 := Nat.and_le_left
    have k2 : (x1 >>> 2) &&& 3355443 ≤ x1 >>> 2 := Nat.and_le_left
    rw [hx2]; unfold bc2; omega
  have l3 : x2 >>> 4 < 2 ^ 20 := by rw [Nat.shiftRight_eq_div_pow]; omega
  have b2' : x2 + x2 >>> 4 < 2 ^ 24 := by omega
  have m3 : (x2 + x2 >>> 4) &&& 252645135 = (x2 + x2 >>> 4) &&& 986895 := by
    rw [and_small (k := 24) (M' := 15) b2' (by decide), show 252645135 % 2 ^ 24 = 986895 by decide]
  obtain ⟨x3, hx3⟩ : ∃ x3, x3 = bc3 986895 x2 := ⟨_, rfl⟩
  have e3 : jd_and ((x2 : Int) + jd_ushr (x2 : Int) 4) 252645135 = (x3 : Int) := by
    rw [ush_4 (by omega), show (x2 : Int) + ((x2 >>> 4 : Nat) : Int) = ((x2 + x2 >>> 4 : Nat) : Int) by omega]
    have q1 : jd_and ((x2 + x2 >>> 4 : Nat) : Int) 252645135 = (((x2 + x2 >>> 4) &&& 252645135 : Nat) : Int) := and_n (b := 252645135) (by omega) (by omega)
    rw [q1, m3, hx3]
    rfl
  rw [← hx1, ← hx2, ← hx3] at h3
  have pa := (byte_ok a ha').2.2.2.2
  have pb := (byte_ok b hb').2.2.2.2
  have pc := (byte_ok c (by omega)).2.2.2.2
  obtain ⟨x4, hx4⟩ : ∃ x4, x4 = x3 + x3 >>> 8 := ⟨_, rfl⟩
  have s8 : x3 >>> 8 = 256 * pcB c + pcB b := by rw [Nat.shiftRight_eq_div_pow, h3]; omega
  have e4 : (x3 : Int) + jd_ushr (x3 : Int) 8 = (x4 : Int) := by
    rw [ush_8 (by omega), hx4]; omega
  have s16 : x4 >>> 16 = pcB c := by rw [Nat.shiftRight_eq_div_pow, hx4, s8, h3]; omega
  obtain ⟨x5, hx5⟩ : ∃ x5, x5 = x4 + x4 >>> 16 := ⟨_, rfl⟩
  have e5 : (x4 : Int) + jd_ushr (x4 : Int) 16 = (x5 : Int) := by
    rw [ush_16 (by omega), hx5]; omega
  have e6 : jd_and (x5 : Int) 63 = ((pcB a + pcB b + pcB c : Nat) : Int) := by
    have q1 : jd_and (x5 : Int) 63 = ((x5 &&& 63 : Nat) : Int) := and_n (b := 63) (by omega) (by omega)
    rw [q1, show (63 : Nat) = 2 ^ 6 - 1 by decide, Nat.and_two_pow_sub_one_eq_mod, hx5, s16, hx4, s8, h3]
    omega
  have ec : cntB (fun i => x.testBit (i + 16)) 4 = pcB c := by
    have t2 : ∀ i, x.testBit (i + 16) = c.testBit i := fun i => by
      rw [hc, show (65536 : Nat) = 2 ^ 16 by decide, Nat.testBit_div_two_pow, Nat.add_comm]
    have dec : ∀ c : Nat, c < 16 → cntB (fun i => c.testBit i) 4 = pcB c := by decide +kernel
    rw [← dec c hc']
    exact cntB_ext (fun i _ => t2 i)
  have fin : cntB (fun i => x.testBit i) 20 = pcB a + pcB b + pcB c := by rw [cnt_20, ec, ← ha, ← hb]
  unfold f_J6_bitCount_0f7a4
  rw [e1, e2, e3, e4, e5, e6, fin]
