/-! ===== the class's rows: closing a cell ===== -/
theorem clB_eq {w y i c : Nat} (hi : i < w) : clB w y i = c ↔ y = c / w ∧ i = w - 1 - c % w := by
  unfold clB
  have hw : 0 < w := by omega
  have hm := Nat.mod_lt c hw
  have hd := Nat.div_add_mod c w
  constructor
  · intro e
    have e1 : c / w = y := by
      rw [← e, Nat.mul_comm, Nat.mul_add_div hw, Nat.div_eq_of_lt (by omega), Nat.add_zero]
    have e2 : c % w = w - 1 - i := by
      rw [← e, Nat.mul_comm, Nat.mul_add_mod, Nat.mod_eq_of_lt (by omega)]
    omega
  · rintro ⟨rfl, rfl⟩
    rw [Nat.mul_comm]
    omega
section CL
variable {t d rt : Nat} {I : Nat → Nat → Int} {r w h : Nat} {cl na nd : Nat → Bool}
theorem q_bit (hrm : r ∈ [311, 324]) (h5 : I r 5 = (w : Int)) (hw : w ≤ 6) {x : Nat} (hx : x < w) : f_X4_bit r (x : Int) (mm t d rt I) = some (((2 ^ (w - 1 - x) : Nat) : Int), mm t d rt I) := by
  have e : jd_shl 1 ((w : Int) - 1 - (x : Int)) = ((2 ^ (w - 1 - x) : Nat) : Int) := by
    rw [show (w : Int) - 1 - (x : Int) = ((w - 1 - x : Nat) : Int) by omega, shl_1 _ (by omega), Nat.one_shiftLeft]
  refine wm_eq ?_
  unfold f_X4_bit
  (repeat (first | (with_reducible apply wm_o; focus (simp (disch := omega) only [wr_id, Int.toNat_natCast, Int.reduceToNat, tn_lk, tn_kl, if_pos, if_neg, ↓reduceIte, and_self, and_true, true_and, FRows hrm, h5]; with_reducible rfl)) | (with_reducible apply wm_q) | (with_reducible apply wm_c; focus (first | assumption | decide +kernel)) | (with_reducible apply wm_d; focus (simp (disch := omega) only [wr_id, Int.toNat_natCast, Int.reduceToNat, tn_lk, tn_kl, if_pos, if_neg, ↓reduceIte, and_self, and_true, true_and, FRows hrm, h5]; with_reducible rfl)) | (with_reducible apply wm_t; focus (first | omega | (simp (disch := omega) only [wr_id, FRows hrm, h5]; omega) | (simp (disch := omega) only [wr_id, FRows hrm, h5]; done))) | (with_reducible apply wm_f; focus (first | omega | (simp (disch := omega) only [wr_id, FRows hrm, h5]; omega) | (simp (disch := omega) only [wr_id, FRows hrm, h5]; done)))))
  exact wm_r ⟨e, rfl⟩
end CL
