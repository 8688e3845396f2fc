/-! ===== fills, canReach ===== -/
/-- a without b is nothing: a is a part of b -/
theorem nd0 : ∀ a : Nat, a < 64 → ∀ b : Nat, b < 64 → ((a &&& (63 ^^^ b) = 0) ↔ (a &&& b == a) = true) := by decide +kernel
theorem nd_le (a b : Nat) : a &&& b ≤ a := Nat.and_le_left
section CF
variable {t d rt : Nat} {I : Nat → Nat → Int} {r w h : Nat} {cl na nd : Nat → Bool}
theorem s_fills (hrm : r ∈ [311, 324]) (c : rCfg I r w h cl na nd) {y into o : Nat} (hy : y < 7) (hi : into < 64) (ho : o < 64) : f_X4_fills r (y : Int) (into : Int) (o : Int) (mm t d rt I) = some (if fill w h cl na y into o then 1 else 0, mm t d rt I) := by
  have hl := s_lonely (t := t) (d := d) (rt := rt) hrm c hy hi ho
  obtain ⟨c1, c2, c3, c4, c5, c6, c7, c8, c9, c10, c11⟩ := c
  have l1 := tlM_lt (h := h) (f := na) y c5
  have o1 := or64 hi ho
  have e : jd_and (I (r + 3) y) (jd_xor (jd_or (into : Int) (o : Int)) (-1)) = ((tlM w h na y &&& (63 ^^^ (into ||| o)) : Nat) : Int) := by
    rw [c10 y hy, or_n (by omega) (by omega), ndw_n _ l1 _ o1]
  have lx := nd_le (tlM w h na y) (63 ^^^ (into ||| o))
  have lz : lone w h cl y into o < 64 := by
    have : ∀ m, m < 64 → oddR m < 64 := by decide +kernel
    exact this _ (Nat.lt_of_lt_of_le (mkM_lt _ _) (Nat.pow_le_pow_right (by decide) c5 : 2 ^ w ≤ 2 ^ 6))
  by_cases z : tlM w h na y &&& (63 ^^^ (into ||| o)) = 0
  · have z1 := (nd0 _ l1 _ o1).mp z
    by_cases z2 : lone w h cl y into o = 0
    · rw [if_pos (by unfold fill; rw [z1, z2]; rfl)]
      simp (disch := omega) only [Option.bind_some, jbd_s, jjq, jz0, jz1, wr_id, Int.toNat_natCast, Int.reduceToNat, tn_lk, tn_kl, if_true, if_false, Bool.false_eq_true, reduceCtorEq, ↓reduceIte, if_pos, if_neg, f_X4_fills, FRows hrm, e, z, hl, z2]
    · rw [if_neg (by unfold fill; rw [z1]; simp [z2])]
      simp (disch := omega) only [Option.bind_some, jbd_s, jjq, jz0, jz1, wr_id, Int.toNat_natCast, Int.reduceToNat, tn_lk, tn_kl, if_true, if_false, Bool.false_eq_true, reduceCtorEq, ↓reduceIte, if_pos, if_neg, f_X4_fills, FRows hrm, e, z, hl]
  · have z1 : ¬ (tlM w h na y &&& (into ||| o) == tlM w h na y) = true := fun q => z ((nd0 _ l1 _ o1).mpr q)
    rw [if_neg (by unfold fill; simp only [Bool.and_eq_true]; exact fun q => z1 q.1)]
    simp (disch := omega) only [Option.bind_some, jbd_s, jjq, jz0, jz1, wr_id, Int.toNat_natCast, Int.reduceToNat, tn_lk, tn_kl, if_true, if_false, Bool.false_eq_true, reduceCtorEq, ↓reduceIte, if_pos, if_neg, f_X4_fills, FRows hrm, e]
theorem s_canReach (hrm : r ∈ [311, 324]) (c : rCfg I r w h cl na nd) {y into : Nat} (hy : y < 7) (hi : into < 64) : f_X4_canReach r (y : Int) (into : Int) (mm t d rt I) = some (if canR w h cl nd y into then 1 else 0, mm t d rt I) := by
  have c' := c
  obtain ⟨c1, c2, c3, c4, c5, c6, c7, c8, c9, c10, c11⟩ := c
  by_cases y0 : y = 0
  · have e : jd_and (into : Int) (jd_xor 0 (-1)) = ((into &&& (63 ^^^ 0) : Nat) : Int) := ndw_n _ hi 0 (by omega)
    have lx := nd_le into (63 ^^^ 0)
    have q := nd0 into hi 0 (by omega)
    rw [Nat.and_zero] at q
    by_cases z : into &&& (63 ^^^ 0) = 0
    · have z1 := q.mp z
      have z2 : into = 0 := (beq_iff_eq.mp z1).symm
      rw [if_pos (by unfold canR; rw [if_pos y0, z2]; rfl)]
      simp (disch := omega) only [Option.bind_some, jbd_s, jjq, jz0, jz1, wr_id, Int.toNat_natCast, Int.reduceToNat, tn_lk, tn_kl, if_true, if_false, Bool.false_eq_true, reduceCtorEq, ↓reduceIte, if_pos, if_neg, f_X4_canReach, FRows hrm, e, z]
    · have z2 : ¬ into = 0 := fun k => z (by rw [k]; rfl)
      rw [if_neg (by unfold canR; rw [if_pos y0]; simp [z2])]
      simp (disch := omega) only [Option.bind_some, jbd_s, jjq, jz0, jz1, wr_id, Int.toNat_natCast, Int.reduceToNat, tn_lk, tn_kl, if_true, if_false, Bool.false_eq_true, reduceCtorEq, ↓reduceIte, if_pos, if_neg, f_X4_canReach, FRows hrm, e]
  · have hb := s_roomBelow (t := t) (d := d) (rt := rt) hrm c' (y := y - 1) (into := 0) (by omega) (by omega)
    rw [show ((y - 1 : Nat) : Int) = (y : Int) - 1 by omega, show ((0 : Nat) : Int) = 0 from rfl] at hb
    have lr : room w h cl nd (y - 1) 0 < 64 := Nat.lt_of_lt_of_le room_lt (Nat.pow_le_pow_right (by decide) c5 : 2 ^ w ≤ 2 ^ 6)
    have e : jd_and (into : Int) (jd_xor (room w h cl nd (y - 1) 0 : Int) (-1)) = ((into &&& (63 ^^^ room w h cl nd (y - 1) 0) : Nat) : Int) := ndw_n _ hi _ lr
    have lx := nd_le into (63 ^^^ room w h cl nd (y - 1) 0)
    have q := nd0 into hi _ lr
    by_cases z : into &&& (63 ^^^ room w h cl nd (y - 1) 0) = 0
    · rw [if_pos (by unfold canR; rw [if_neg y0]; exact q.mp z)]
      simp (disch := omega) only [Option.bind_some, jbd_s, jjq, jz0, jz1, wr_id, Int.toNat_natCast, Int.reduceToNat, tn_lk, tn_kl, if_true, if_false, Bool.false_eq_true, reduceCtorEq, ↓reduceIte, if_pos, if_neg, f_X4_canReach, FRows hrm, hb, e, z]
    · rw [if_neg (by unfold canR; rw [if_neg y0]; exact fun k => z (q.mpr k))]
      simp (disch := omega) only [Option.bind_some, jbd_s, jjq, jz0, jz1, wr_id, Int.toNat_natCast, Int.reduceToNat, tn_lk, tn_kl, if_true, if_false, Bool.false_eq_true, reduceCtorEq, ↓reduceIte, if_pos, if_neg, f_X4_canReach, FRows hrm, hb, e]
end CF
