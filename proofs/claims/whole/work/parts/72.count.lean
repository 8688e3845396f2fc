/-! ===== the model counts ===== -/
section MC
variable {t d rt : Nat} {I : Nat → Nat → Int} {lv w h n : Nat}
theorem tb_and1 (m : Nat) : (m &&& 1 = 1) ↔ m.testBit 0 = true := by
  rw [Nat.and_one_is_mod, Nat.testBit_zero]; simp
theorem tb_and2 {m : Nat} (hm : m < 64) : (m &&& 2 = 0) ↔ m.testBit 1 = false := by
  have : ∀ m, m < 64 → ((m &&& 2 = 0) ↔ m.testBit 1 = false) := by decide +kernel
  exact this m hm
theorem mA_lt {m : Nat} (hm : m < 64) : mA m < 64 := by
  have : ∀ m, m < 64 → mA m < 64 := by decide +kernel
  exact this m hm
theorem mD_lt {m w : Nat} (hm : m < 64) (hw : w ≤ 6) (h0 : 2 ≤ w) : mD w m < 64 := by
  have : ∀ w, w ≤ 6 → 2 ≤ w → ∀ m, m < 64 → mD w m < 64 := by decide +kernel
  exact this w hw h0 m hm
theorem s_maskDown (c : mCfg I lv w h n) {m : Nat} (hm : m < 64) : f_X12_maskDown 369 (m : Int) (mm t d rt I) = some ((mD w m : Int), mm t d rt I) := by
  have c' := c
  obtain ⟨c1, c2, c3, c4, c5, c6, c7, c8, c9, c10, c11⟩ := c
  have e1 : jd_shr (m : Int) 1 = ((m >>> 1 : Nat) : Int) := shr_1 m (by omega)
  have e2 : jd_shl 1 ((w : Int) - 1) = ((1 <<< (w - 1) : Nat) : Int) := by
    rw [show (w : Int) - 1 = ((w - 1 : Nat) : Int) by omega]; exact shl_1 (w - 1) (by omega)
  have l1 : m >>> 1 < 64 := by rw [Nat.shiftRight_eq_div_pow]; omega
  have l2 : 1 <<< (w - 1) < 64 := by
    rw [Nat.one_shiftLeft]
    exact Nat.lt_of_le_of_lt (Nat.pow_le_pow_right (by decide) (show w - 1 ≤ 5 by omega)) (by decide)
  have e3 : jd_or ((m >>> 1 : Nat) : Int) ((1 <<< (w - 1) : Nat) : Int) = (mD w m : Int) := or_n (by omega) (by omega)
  simp (disch := omega) only [Option.bind_some, jbd_s, jjq, jz0, jz1, wr_id, Int.toNat_natCast, Int.reduceToNat, tn_lk, tn_kl, if_true, if_false, Bool.false_eq_true, reduceCtorEq, ↓reduceIte, if_pos, if_neg, f_X12_maskDown, FM, s_w c', e1, e2, e3]
theorem s_acrossIn (c : mCfg I lv w h n) {b : Int} {tb : Nat} {na nd : Nat → Bool} (hb : tdF I b tb na nd) (k8 : b01 I 408 36) (k9 : b01 I 409 36) {x m : Nat} (hx : x < n) (hm : m < 64) (hr : x % w + 1 < w → x + 1 < n) : f_X12_acrossIn 369 b (x : Int) (m : Int) (mm t d rt I) = some (if aM w (blI I 408) na x m then I tb (64 * (x + 1) + mA m) else 0, mm t d rt I) := by
  have c' := c
  obtain ⟨c1, c2, c3, c4, c5, c6, c7, c8, c9, c10, c11⟩ := c
  have e1 : jd_and (m : Int) 2 = ((m &&& 2 : Nat) : Int) := and_n (b := 2) (by omega) (by omega)
  have l1 : m &&& 2 ≤ 2 := Nat.and_le_right
  have e2 : jd_shr (jd_or (m : Int) 2) 1 = ((mA m : Nat) : Int) := by
    rw [show jd_or (m : Int) 2 = ((m ||| 2 : Nat) : Int) from or_n (b := 2) (by omega) (by omega)]
    exact shr_1 _ (Nat.lt_of_lt_of_le (Nat.or_lt_two_pow (n := 6) hm (by decide)) (by decide))
  have l2 := mA_lt hm
  have e3 : ((64 : Int) * (x : Int)) + 64 + ((mA m : Nat) : Int) = ((64 * (x + 1) + mA m : Nat) : Int) := by omega
  by_cases z : x % w + 1 < w
  · have hx1 := hr z
    by_cases z2 : m &&& 2 = 0
    · have q2 := (tb_and2 hm).mp z2
      rcases k8 (x + 1) (by omega) with q8 | q8
      · rcases hb with ⟨rfl, rfl, rfl, rfl⟩ | ⟨rfl, rfl, rfl, rfl⟩
        · have ha : aM w (blI I 408) noB x m = true := by simp [aM, z, q2, blI, q8, noB]
          rw [if_pos ha]
          simp (disch := omega) only [Option.bind_some, jbd_s, jjq, jz0, jz1, wr_id, Int.toNat_natCast, Int.reduceToNat, tn_lk, tn_kl, if_true, if_false, Bool.false_eq_true, reduceCtorEq, ↓reduceIte, if_pos, if_neg, f_X12_acrossIn, FM, s_second0 c' hx, e1, z2, e2, e3, q8, s_waysIn (I := I) (b := 0) (tb := 406) (na := noB) (nd := noB) (Or.inl ⟨rfl, rfl, rfl, rfl⟩)]
        · rcases k9 x (by omega) with p1 | p1
          · rcases k9 (x + 1) (by omega) with p2 | p2
            · have ha : aM w (blI I 408) (blI I 409) x m = true := by simp [aM, z, q2, blI, q8, p1, p2]
              rw [if_pos ha]
              simp (disch := omega) only [Option.bind_some, jbd_s, jjq, jz0, jz1, wr_id, Int.toNat_natCast, Int.reduceToNat, tn_lk, tn_kl, if_true, if_false, Bool.false_eq_true, reduceCtorEq, ↓reduceIte, if_pos, if_neg, f_X12_acrossIn, FM, s_second0 c' hx, e1, z2, e2, e3, q8, p1, p2, s_waysIn (I := I) (b := 1) (tb := 407) (na := blI I 409) (nd := blI I 410) (Or.inr ⟨rfl, rfl, rfl, rfl⟩)]
            · have ha : ¬ aM w (blI I 408) (blI I 409) x m = true := by simp [aM, z, q2, blI, q8, p1, p2]
              rw [if_neg ha]
              simp (disch := omega) only [Option.bind_some, jbd_s, jjq, jz0, jz1, wr_id, Int.toNat_natCast, Int.reduceToNat, tn_lk, tn_kl, if_true, if_false, Bool.false_eq_true, reduceCtorEq, ↓reduceIte, if_pos, if_neg, f_X12_acrossIn, FM, s_second0 c' hx, e1, z2, q8, p1, p2]
          · have ha : ¬ aM w (blI I 408) (blI I 409) x m = true := by simp [aM, z, q2, blI, q8, p1]
            rw [if_neg ha]
            simp (disch := omega) only [Option.bind_some, jbd_s, jjq, jz0, jz1, wr_id, Int.toNat_natCast, Int.reduceToNat, tn_lk, tn_kl, if_true, if_false, Bool.false_eq_true, reduceCtorEq, ↓reduceIte, if_pos, if_neg, f_X12_acrossIn, FM, s_second0 c' hx, e1, z2, q8, p1]
      · have ha : ¬ aM w (blI I 408) na x m = true := by simp [aM, z, q2, blI, q8]
        rw [if_neg ha]
        simp (disch := omega) only [Option.bind_some, jbd_s, jjq, jz0, jz1, wr_id, Int.toNat_natCast, Int.reduceToNat, tn_lk, tn_kl, if_true, if_false, Bool.false_eq_true, reduceCtorEq, ↓reduceIte, if_pos, if_neg, f_X12_acrossIn, FM, s_second0 c' hx, e1, z2, q8]
    · have q2 : m.testBit 1 = true := by
        cases q : m.testBit 1 with
        | true => rfl
        | false => exact absurd ((tb_and2 hm).mpr q) z2
      have ha : ¬ aM w (blI I 408) na x m = true := by simp [aM, z, q2]
      rw [if_neg ha]
      simp (disch := omega) only [Option.bind_some, jbd_s, jjq, jz0, jz1, wr_id, Int.toNat_natCast, Int.reduceToNat, tn_lk, tn_kl, if_true, if_false, Bool.false_eq_true, reduceCtorEq, ↓reduceIte, if_pos, if_neg, f_X12_acrossIn, FM, s_second0 c' hx, e1]
  · have ha : ¬ aM w (blI I 408) na x m = true := by simp [aM, z]
    rw [if_neg ha]
    simp (disch := omega) only [Option.bind_some, jbd_s, jjq, jz0, jz1, wr_id, Int.toNat_natCast, Int.reduceToNat, tn_lk, tn_kl, if_true, if_false, Bool.false_eq_true, reduceCtorEq, ↓reduceIte, if_pos, if_neg, f_X12_acrossIn, FM, s_second0 c' hx]
theorem s_downIn (c : mCfg I lv w h n) {b : Int} {tb : Nat} {na nd : Nat → Bool} (hb : tdF I b tb na nd) (k8 : b01 I 408 36) (k9 : b01 I 410 36) {x m : Nat} (hx : x < n) (hm : m < 64) : f_X12_downIn 369 b (x : Int) (m : Int) (mm t d rt I) = some (if dM w n (blI I 408) nd x then I tb (64 * (x + 1) + mD w m) else 0, mm t d rt I) := by
  have c' := c
  obtain ⟨c1, c2, c3, c4, c5, c6, c7, c8, c9, c10, c11⟩ := c
  have l2 := mD_lt hm c6 c5
  have e3 : ((64 : Int) * (x : Int)) + 64 + ((mD w m : Nat) : Int) = ((64 * (x + 1) + mD w m : Nat) : Int) := by omega
  by_cases z : x + w < n
  · rcases k8 (x + w) (by omega) with q8 | q8
    · rcases hb with ⟨rfl, rfl, rfl, rfl⟩ | ⟨rfl, rfl, rfl, rfl⟩
      · have ha : dM w n (blI I 408) noB x = true := by simp [dM, z, blI, q8, noB]
        rw [if_pos ha]
        simp (disch := omega) only [Option.bind_some, jbd_s, jjq, jz0, jz1, wr_id, Int.toNat_natCast, Int.reduceToNat, tn_lk, tn_kl, if_true, if_false, Bool.false_eq_true, reduceCtorEq, ↓reduceIte, if_pos, if_neg, f_X12_downIn, FM, s_second1 c' hx, s_maskDown c' hm, e3, q8, s_waysIn (I := I) (b := 0) (tb := 406) (na := noB) (nd := noB) (Or.inl ⟨rfl, rfl, rfl, rfl⟩)]
      · rcases k9 x (by omega) with p1 | p1
        · rcases k9 (x + w) (by omega) with p2 | p2
          · have ha : dM w n (blI I 408) (blI I 410) x = true := by simp [dM, z, blI, q8, p1, p2]
            rw [if_pos ha]
            simp (disch := omega) only [Option.bind_some, jbd_s, jjq, jz0, jz1, wr_id, Int.toNat_natCast, Int.reduceToNat, tn_lk, tn_kl, if_true, if_false, Bool.false_eq_true, reduceCtorEq, ↓reduceIte, if_pos, if_neg, f_X12_downIn, FM, s_second1 c' hx, s_maskDown c' hm, e3, q8, p1, p2, s_waysIn (I := I) (b := 1) (tb := 407) (na := blI I 409) (nd := blI I 410) (Or.inr ⟨rfl, rfl, rfl, rfl⟩)]
          · have ha : ¬ dM w n (blI I 408) (blI I 410) x = true := by simp [dM, z, blI, q8, p1, p2]
            rw [if_neg ha]
            simp (disch := omega) only [Option.bind_some, jbd_s, jjq, jz0, jz1, wr_id, Int.toNat_natCast, Int.reduceToNat, tn_lk, tn_kl, if_true, if_false, Bool.false_eq_true, reduceCtorEq, ↓reduceIte, if_pos, if_neg, f_X12_downIn, FM, s_second1 c' hx, q8, p1, p2]
        · have ha : ¬ dM w n (blI I 408) (blI I 410) x = true := by simp [dM, z, blI, q8, p1]
          rw [if_neg ha]
          simp (disch := omega) only [Option.bind_some, jbd_s, jjq, jz0, jz1, wr_id, Int.toNat_natCast, Int.reduceToNat, tn_lk, tn_kl, if_true, if_false, Bool.false_eq_true, reduceCtorEq, ↓reduceIte, if_pos, if_neg, f_X12_downIn, FM, s_second1 c' hx, q8, p1]
    · have ha : ¬ dM w n (blI I 408) nd x = true := by simp [dM, z, blI, q8]
      rw [if_neg ha]
      simp (disch := omega) only [Option.bind_some, jbd_s, jjq, jz0, jz1, wr_id, Int.toNat_natCast, Int.reduceToNat, tn_lk, tn_kl, if_true, if_false, Bool.false_eq_true, reduceCtorEq, ↓reduceIte, if_pos, if_neg, f_X12_downIn, FM, s_second1 c' hx, q8]
  · have ha : ¬ dM w n (blI I 408) nd x = true := by simp [dM, z]
    rw [if_neg ha]
    simp (disch := omega) only [Option.bind_some, jbd_s, jjq, jz0, jz1, wr_id, Int.toNat_natCast, Int.reduceToNat, tn_lk, tn_kl, if_true, if_false, Bool.false_eq_true, reduceCtorEq, ↓reduceIte, if_pos, if_neg, f_X12_downIn, FM, s_second1 c' hx]
end MC
