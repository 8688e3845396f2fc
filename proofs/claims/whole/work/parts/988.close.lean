/-! ===== the class's rows: closing a cell ===== -/
theorem clB_eq {w y i c : Nat} (hi : i < w) : clB w y i = c ↔ y = c / w ∧ i = w - 1 - c % w := by
  unfold clB
  have hw : 0 < w := by omega
  have hm := Nat.mod_lt c hw
  have hd := Nat.div_add_mod c w
  constructor
  · intro e
    have e1 : c / w = y := by
      rw [← e, Nat.mul_comm, Nat.mul_add_div hw, Nat.div_eq_of_lt (by omega), Nat.add_zero]
    have e2 : c % w = w - 1 - i := by
      rw [← e, Nat.mul_comm, Nat.mul_add_mod, Nat.mod_eq_of_lt (by omega)]
    omega
  · rintro ⟨rfl, rfl⟩
    rw [Nat.mul_comm]
    omega
def clAdd (cl : Nat → Bool) (c : Nat) : Nat → Bool := fun x => cl x || decide (x = c)
theorem clM_add {w h : Nat} {cl : Nat → Bool} {c y : Nat} (hw : 0 < w) (hc : c < w * h) : clM w h (clAdd cl c) y = if y = c / w then clM w h cl y ||| 2 ^ (w - 1 - c % w) else clM w h cl y := by
  have hdy : c / w < h := Nat.div_lt_of_lt_mul hc
  apply Nat.eq_of_testBit_eq
  intro i
  by_cases e : y = c / w
  · rw [if_pos e, Nat.testBit_or, clM_tb, clM_tb, Nat.testBit_two_pow]
    by_cases hi : i < w
    · have q := clB_eq (w := w) (y := y) (i := i) (c := c) hi
      unfold clAdd
      have hh : ¬ h ≤ y := by omega
      by_cases z : i = w - 1 - c % w
      · have z2 := q.mpr ⟨e, z⟩
        simp [hi, hh, z2, z.symm]
      · have z2 : ¬ clB w y i = c := fun k => z (q.mp k).2
        have z3 : ¬ w - 1 - c % w = i := fun k => z k.symm
        simp [hi, hh, z2, z3]
    · have z3 : ¬ w - 1 - c % w = i := by omega
      simp [hi, z3]
  · rw [if_neg e, clM_tb, clM_tb]
    by_cases hi : i < w
    · have q := clB_eq (w := w) (y := y) (i := i) (c := c) hi
      have z2 : ¬ clB w y i = c := fun k => e (q.mp k).1
      unfold clAdd
      simp [z2]
    · simp [hi]
section CL
variable {t d rt : Nat} {I : Nat → Nat → Int} {r w h : Nat} {cl na nd : Nat → Bool}
theorem q_bit (hrm : r ∈ [311, 324]) (h5 : I r 5 = (w : Int)) (hw : w ≤ 6) {x : Nat} (hx : x < w) : f_X4_bit r (x : Int) (mm t d rt I) = some (((2 ^ (w - 1 - x) : Nat) : Int), mm t d rt I) := by
  have e : jd_shl 1 ((w : Int) - 1 - (x : Int)) = ((2 ^ (w - 1 - x) : Nat) : Int) := by
    rw [show (w : Int) - 1 - (x : Int) = ((w - 1 - x : Nat) : Int) by omega, shl_1 _ (by omega), Nat.one_shiftLeft]
  refine wm_eq ?_
  unfold f_X4_bit
  (repeat (first | (with_reducible apply wm_o; focus (simp (disch := omega) only [wr_id, Int.toNat_natCast, Int.reduceToNat, tn_lk, tn_kl, if_pos, if_neg, ↓reduceIte, and_self, and_true, true_and, FRows hrm, h5]; with_reducible rfl)) | (with_reducible apply wm_q) | (with_reducible apply wm_c; focus (first | assumption | decide +kernel)) | (with_reducible apply wm_d; focus (simp (disch := omega) only [wr_id, Int.toNat_natCast, Int.reduceToNat, tn_lk, tn_kl, if_pos, if_neg, ↓reduceIte, and_self, and_true, true_and, FRows hrm, h5]; with_reducible rfl)) | (with_reducible apply wm_t; focus (first | omega | (simp (disch := omega) only [wr_id, FRows hrm, h5]; omega) | (simp (disch := omega) only [wr_id, FRows hrm, h5]; done))) | (with_reducible apply wm_f; focus (first | omega | (simp (disch := omega) only [wr_id, FRows hrm, h5]; omega) | (simp (disch := omega) only [wr_id, FRows hrm, h5]; done)))))
  exact wm_r ⟨e, rfl⟩
theorem w_close (hrm : r ∈ [311, 324]) (c' : rCfg I r w h cl na nd) {c : Nat} (hc : c < w * h) : wm t d rt (f_X4_close r (c : Int) (mm t d rt I)) (fun _ J => frm (fun a => a = r + 1) I J ∧ rCfg J r w h (clAdd cl c) na nd) := by
  obtain ⟨c1, c2, c3, c4, c5, c6, c7, c8, c9, c10, c11⟩ := c'
  have kr : (K0 r).1 = 4 ∧ r < 418 := ⟨(FRows_k r hrm).1, (FRows_k r hrm).2.1⟩
  have hm := Nat.mod_lt c (show w > 0 by omega)
  have hdy : c / w < h := Nat.div_lt_of_lt_mul hc
  have h36 : c < 36 := Nat.lt_of_lt_of_le hc (Nat.mul_le_mul c5 c7)
  have hd1 : ∀ M : jMem, f_X4_rowOf (c : Int) (w : Int) M = some (((c / w : Nat) : Int), M) := fun M => row_n (by omega) (by omega) (by omega) M
  have hr1 : ∀ M : jMem, f_X4_columnOf (c : Int) (w : Int) M = some (((c % w : Nat) : Int), M) := fun M => col_n (by omega) (by omega) (by omega) M
  have hb := q_bit (t := t) (d := d) (rt := rt) hrm c1 c5 hm
  have e8 := c8 (c / w) (by omega)
  have l1 := clM_lt (h := h) (cl := cl) (c / w) c5
  have l2 : 2 ^ (w - 1 - c % w) < 64 := Nat.lt_of_le_of_lt (Nat.pow_le_pow_right (by decide) (show w - 1 - c % w ≤ 5 by omega)) (by decide)
  have eo : jd_or (clM w h cl (c / w) : Int) ((2 ^ (w - 1 - c % w) : Nat) : Int) = ((clM w h cl (c / w) ||| 2 ^ (w - 1 - c % w) : Nat) : Int) := or_n (by omega) (by omega)
  generalize hq : c / w = q at *
  unfold f_X4_close
  (repeat (first | (with_reducible apply wm_o; focus (simp (disch := omega) only [wr_id, Int.toNat_natCast, Int.reduceToNat, tn_lk, tn_kl, if_pos, if_neg, ↓reduceIte, and_self, and_true, true_and, FRows hrm, c1, hd1, hr1, hb, e8, eo]; with_reducible rfl)) | (with_reducible apply wm_q) | (with_reducible apply wm_c; focus (first | assumption | decide +kernel)) | (with_reducible apply wm_d; focus (simp (disch := omega) only [wr_id, Int.toNat_natCast, Int.reduceToNat, tn_lk, tn_kl, if_pos, if_neg, ↓reduceIte, and_self, and_true, true_and, FRows hrm, c1, hd1, hr1, hb, e8, eo]; with_reducible rfl)) | (with_reducible apply wm_t; focus (first | omega | (simp (disch := omega) only [wr_id, FRows hrm, c1, hd1, hr1, hb, e8, eo]; omega) | (simp (disch := omega) only [wr_id, FRows hrm, c1, hd1, hr1, hb, e8, eo]; done))) | (with_reducible apply wm_f; focus (first | omega | (simp (disch := omega) only [wr_id, FRows hrm, c1, hd1, hr1, hb, e8, eo]; omega) | (simp (disch := omega) only [wr_id, FRows hrm, c1, hd1, hr1, hb, e8, eo]; done)))))
  refine wm_r ⟨frm_up (frm_refl _ _) rfl, ?_⟩
  refine ⟨by rw [up_ne (by omega)]; exact c1, by rw [up_ne (by omega)]; exact c2, by rw [up_ne (by omega)]; exact c3, c4, c5, c6, c7, fun y hy => ?_, by rw [up_ne (by omega)]; exact c9, by rw [up_ne (by omega)]; exact c10, by rw [up_ne (by omega)]; exact c11⟩
  rw [up_g, clM_add (by omega) hc, hq]
  by_cases e : y = q
  · rw [if_pos e, if_pos e, e]
  · rw [if_neg e, if_neg e]; exact c8 y hy
/-- a line's bit of a cell: asked, and drawn -/
theorem q_isDown (hrm : r ∈ [311, 324]) (h5 : I r 5 = (w : Int)) (hw : 2 ≤ w ∧ w ≤ 6) {a c m : Nat} (ha : a = 367 ∨ a = 368) (hc : c < 36) (hy : c / w < 6) (jl : I a (c / w + 1) = (m : Int)) (hm : m < 64) : f_X4_isDown r a (c : Int) (mm t d rt I) = some (if m &&& 2 ^ (w - 1 - c % w) = 0 then 0 else 1, mm t d rt I) := by
  have kr : (K0 r).1 = 4 ∧ r < 418 := ⟨(FRows_k r hrm).1, (FRows_k r hrm).2.1⟩
  have hmw := Nat.mod_lt c (show w > 0 by omega)
  have hd1 : ∀ M : jMem, f_X4_rowOf (c : Int) (w : Int) M = some (((c / w : Nat) : Int), M) := fun M => row_n (by omega) (by omega) (by omega) M
  have hr1 : ∀ M : jMem, f_X4_columnOf (c : Int) (w : Int) M = some (((c % w : Nat) : Int), M) := fun M => col_n (by omega) (by omega) (by omega) M
  have hb := q_bit (t := t) (d := d) (rt := rt) hrm h5 hw.2 hmw
  have l2 : 2 ^ (w - 1 - c % w) < 64 := Nat.lt_of_le_of_lt (Nat.pow_le_pow_right (by decide) (show w - 1 - c % w ≤ 5 by omega)) (by decide)
  have ea := and_n (a := m) (b := 2 ^ (w - 1 - c % w)) (by omega) (by omega)
  have al : m &&& 2 ^ (w - 1 - c % w) ≤ m := Nat.and_le_left
  generalize c / w = q at *
  generalize m &&& 2 ^ (w - 1 - c % w) = v at *
  refine wm_eq ?_
  unfold f_X4_isDown
  rcases ha with rfl | rfl
  · by_cases z : v = 0
    · rw [if_pos z]
      (repeat (first | (with_reducible apply wm_o; focus (simp (disch := omega) only [wr_id, Int.toNat_natCast, Int.reduceToNat, tn_lk, tn_kl, if_pos, if_neg, ↓reduceIte, and_self, and_true, true_and, FX, FRows hrm, h5, hd1, hr1, hb, jl, ea]; with_reducible rfl)) | (with_reducible apply wm_q) | (with_reducible apply wm_c; focus (first | assumption | decide +kernel)) | (with_reducible apply wm_d; focus (simp (disch := omega) only [wr_id, Int.toNat_natCast, Int.reduceToNat, tn_lk, tn_kl, if_pos, if_neg, ↓reduceIte, and_self, and_true, true_and, FX, FRows hrm, h5, hd1, hr1, hb, jl, ea]; with_reducible rfl)) | (with_reducible apply wm_t; focus (first | omega | (simp (disch := omega) only [wr_id, FX, FRows hrm, h5, hd1, hr1, hb, jl, ea]; omega) | (simp (disch := omega) only [wr_id, FX, FRows hrm, h5, hd1, hr1, hb, jl, ea]; done))) | (with_reducible apply wm_f; focus (first | omega | (simp (disch := omega) only [wr_id, FX, FRows hrm, h5, hd1, hr1, hb, jl, ea]; omega) | (simp (disch := omega) only [wr_id, FX, FRows hrm, h5, hd1, hr1, hb, jl, ea]; done)))))
      exact wm_z0 ⟨rfl, rfl⟩
    · rw [if_neg z]
      (repeat (first | (with_reducible apply wm_o; focus (simp (disch := omega) only [wr_id, Int.toNat_natCast, Int.reduceToNat, tn_lk, tn_kl, if_pos, if_neg, ↓reduceIte, and_self, and_true, true_and, FX, FRows hrm, h5, hd1, hr1, hb, jl, ea]; with_reducible rfl)) | (with_reducible apply wm_q) | (with_reducible apply wm_c; focus (first | assumption | decide +kernel)) | (with_reducible apply wm_d; focus (simp (disch := omega) only [wr_id, Int.toNat_natCast, Int.reduceToNat, tn_lk, tn_kl, if_pos, if_neg, ↓reduceIte, and_self, and_true, true_and, FX, FRows hrm, h5, hd1, hr1, hb, jl, ea]; with_reducible rfl)) | (with_reducible apply wm_t; focus (first | omega | (simp (disch := omega) only [wr_id, FX, FRows hrm, h5, hd1, hr1, hb, jl, ea]; omega) | (simp (disch := omega) only [wr_id, FX, FRows hrm, h5, hd1, hr1, hb, jl, ea]; done))) | (with_reducible apply wm_f; focus (first | omega | (simp (disch := omega) only [wr_id, FX, FRows hrm, h5, hd1, hr1, hb, jl, ea]; omega) | (simp (disch := omega) only [wr_id, FX, FRows hrm, h5, hd1, hr1, hb, jl, ea]; done)))))
      exact wm_z1 ⟨rfl, rfl⟩
  · by_cases z : v = 0
    · rw [if_pos z]
      (repeat (first | (with_reducible apply wm_o; focus (simp (disch := omega) only [wr_id, Int.toNat_natCast, Int.reduceToNat, tn_lk, tn_kl, if_pos, if_neg, ↓reduceIte, and_self, and_true, true_and, FX, FRows hrm, h5, hd1, hr1, hb, jl, ea]; with_reducible rfl)) | (with_reducible apply wm_q) | (with_reducible apply wm_c; focus (first | assumption | decide +kernel)) | (with_reducible apply wm_d; focus (simp (disch := omega) only [wr_id, Int.toNat_natCast, Int.reduceToNat, tn_lk, tn_kl, if_pos, if_neg, ↓reduceIte, and_self, and_true, true_and, FX, FRows hrm, h5, hd1, hr1, hb, jl, ea]; with_reducible rfl)) | (with_reducible apply wm_t; focus (first | omega | (simp (disch := omega) only [wr_id, FX, FRows hrm, h5, hd1, hr1, hb, jl, ea]; omega) | (simp (disch := omega) only [wr_id, FX, FRows hrm, h5, hd1, hr1, hb, jl, ea]; done))) | (with_reducible apply wm_f; focus (first | omega | (simp (disch := omega) only [wr_id, FX, FRows hrm, h5, hd1, hr1, hb, jl, ea]; omega) | (simp (disch := omega) only [wr_id, FX, FRows hrm, h5, hd1, hr1, hb, jl, ea]; done)))))
      exact wm_z0 ⟨rfl, rfl⟩
    · rw [if_neg z]
      (repeat (first | (with_reducible apply wm_o; focus (simp (disch := omega) only [wr_id, Int.toNat_natCast, Int.reduceToNat, tn_lk, tn_kl, if_pos, if_neg, ↓reduceIte, and_self, and_true, true_and, FX, FRows hrm, h5, hd1, hr1, hb, jl, ea]; with_reducible rfl)) | (with_reducible apply wm_q) | (with_reducible apply wm_c; focus (first | assumption | decide +kernel)) | (with_reducible apply wm_d; focus (simp (disch := omega) only [wr_id, Int.toNat_natCast, Int.reduceToNat, tn_lk, tn_kl, if_pos, if_neg, ↓reduceIte, and_self, and_true, true_and, FX, FRows hrm, h5, hd1, hr1, hb, jl, ea]; with_reducible rfl)) | (with_reducible apply wm_t; focus (first | omega | (simp (disch := omega) only [wr_id, FX, FRows hrm, h5, hd1, hr1, hb, jl, ea]; omega) | (simp (disch := omega) only [wr_id, FX, FRows hrm, h5, hd1, hr1, hb, jl, ea]; done))) | (with_reducible apply wm_f; focus (first | omega | (simp (disch := omega) only [wr_id, FX, FRows hrm, h5, hd1, hr1, hb, jl, ea]; omega) | (simp (disch := omega) only [wr_id, FX, FRows hrm, h5, hd1, hr1, hb, jl, ea]; done)))))
      exact wm_z1 ⟨rfl, rfl⟩
theorem q_drawDown (hrm : r ∈ [311, 324]) (h5 : I r 5 = (w : Int)) (hw : 2 ≤ w ∧ w ≤ 6) {c m : Nat} (hc : c < 36) (hy : c / w < 6) (jl : I 367 (c / w + 1) = (m : Int)) (hm : m < 64) : f_X4_drawDown r 367 (c : Int) (mm t d rt I) = some (0, mm t d rt (up I 367 (c / w + 1) ((m ||| 2 ^ (w - 1 - c % w) : Nat) : Int))) := by
  have kr : (K0 r).1 = 4 ∧ r < 418 := ⟨(FRows_k r hrm).1, (FRows_k r hrm).2.1⟩
  have hmw := Nat.mod_lt c (show w > 0 by omega)
  have hd1 : ∀ M : jMem, f_X4_rowOf (c : Int) (w : Int) M = some (((c / w : Nat) : Int), M) := fun M => row_n (by omega) (by omega) (by omega) M
  have hr1 : ∀ M : jMem, f_X4_columnOf (c : Int) (w : Int) M = some (((c % w : Nat) : Int), M) := fun M => col_n (by omega) (by omega) (by omega) M
  have hb := q_bit (t := t) (d := d) (rt := rt) hrm h5 hw.2 hmw
  have l2 : 2 ^ (w - 1 - c % w) < 64 := Nat.lt_of_le_of_lt (Nat.pow_le_pow_right (by decide) (show w - 1 - c % w ≤ 5 by omega)) (by decide)
  have eo := or_n (a := m) (b := 2 ^ (w - 1 - c % w)) (by omega) (by omega)
  generalize c / w = q at *
  refine wm_eq ?_
  unfold f_X4_drawDown
  (repeat (first | (with_reducible apply wm_o; focus (simp (disch := omega) only [wr_id, Int.toNat_natCast, Int.reduceToNat, tn_lk, tn_kl, if_pos, if_neg, ↓reduceIte, and_self, and_true, true_and, FX, FRows hrm, h5, hd1, hr1, hb, jl, eo]; with_reducible rfl)) | (with_reducible apply wm_q) | (with_reducible apply wm_c; focus (first | assumption | decide +kernel)) | (with_reducible apply wm_d; focus (simp (disch := omega) only [wr_id, Int.toNat_natCast, Int.reduceToNat, tn_lk, tn_kl, if_pos, if_neg, ↓reduceIte, and_self, and_true, true_and, FX, FRows hrm, h5, hd1, hr1, hb, jl, eo]; with_reducible rfl)) | (with_reducible apply wm_t; focus (first | omega | (simp (disch := omega) only [wr_id, FX, FRows hrm, h5, hd1, hr1, hb, jl, eo]; omega) | (simp (disch := omega) only [wr_id, FX, FRows hrm, h5, hd1, hr1, hb, jl, eo]; done))) | (with_reducible apply wm_f; focus (first | omega | (simp (disch := omega) only [wr_id, FX, FRows hrm, h5, hd1, hr1, hb, jl, eo]; omega) | (simp (disch := omega) only [wr_id, FX, FRows hrm, h5, hd1, hr1, hb, jl, eo]; done)))))
  exact wm_r ⟨rfl, rfl⟩
end CL
