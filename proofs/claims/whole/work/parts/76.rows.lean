/-! ===== the class's rows ===== -/
theorem ndm_eq : ∀ w : Nat, w < 7 → ∀ b : Nat, b < 64 → (2 ^ w - 1) &&& (63 ^^^ b) = ndM w b := by decide +kernel
/-- what a Rows holds of a square w by h -/
def rCfg (I : Nat → Nat → Int) (r w h : Nat) (cl na nd : Nat → Bool) : Prop := I r 5 = (w : Int) ∧ I r 6 = (h : Int) ∧ I r 7 = ((2 ^ w - 1 : Nat) : Int) ∧ 2 ≤ w ∧ w ≤ 6 ∧ 2 ≤ h ∧ h ≤ 6 ∧ (∀ y, y < 7 → I (r + 1) y = (clM w h cl y : Int)) ∧ (∀ y, y < 7 → I (r + 2) y = (tlM w h nd y : Int)) ∧ (∀ y, y < 7 → I (r + 3) y = (tlM w h na y : Int)) ∧ ∀ m, m < 64 → I (r + 12) m = (oddR m : Int)
theorem clM_lt {w h : Nat} {cl : Nat → Bool} (y : Nat) (hw : w ≤ 6) : clM w h cl y < 64 := by
  have h1 : 2 ^ w ≤ 2 ^ 6 := Nat.pow_le_pow_right (by decide) hw
  unfold clM
  split
  · exact Nat.lt_of_lt_of_le (mkM_lt _ _) h1
  · have := Nat.two_pow_pos w
    omega
theorem tlM_lt {w h : Nat} {f : Nat → Bool} (y : Nat) (hw : w ≤ 6) : tlM w h f y < 64 := by
  have h1 : 2 ^ w ≤ 2 ^ 6 := Nat.pow_le_pow_right (by decide) hw
  unfold tlM
  split
  · exact Nat.lt_of_lt_of_le (mkM_lt _ _) h1
  · omega
theorem or64 {a b : Nat} (ha : a < 64) (hb : b < 64) : a ||| b < 64 := Nat.or_lt_two_pow (n := 6) ha hb
section CR
variable {t d rt : Nat} {I : Nat → Nat → Int} {r w h : Nat} {cl na nd : Nat → Bool}
theorem s_roomBelow (hrm : r ∈ [311, 324]) (c : rCfg I r w h cl na nd) {y into : Nat} (hy : y < 6) (hi : into < 64) : f_X4_roomBelow r (y : Int) (into : Int) (mm t d rt I) = some ((room w h cl nd y into : Int), mm t d rt I) := by
  obtain ⟨c1, c2, c3, c4, c5, c6, c7, c8, c9, c10, c11⟩ := c
  have hp : 2 ^ w ≤ 2 ^ 6 := Nat.pow_le_pow_right (by decide) c5
  have hp0 := Nat.two_pow_pos w
  have o1 := or64 (clM_lt (h := h) (cl := cl) y c5) (clM_lt (h := h) (cl := cl) (y + 1) c5)
  have o2 := or64 o1 (tlM_lt (h := h) (f := nd) y c5)
  have o3 := or64 o2 (tlM_lt (h := h) (f := nd) (y + 1) c5)
  have o4 := or64 o3 hi
  have l1 := clM_lt (h := h) (cl := cl) y c5
  have l2 := clM_lt (h := h) (cl := cl) (y + 1) c5
  have l3 := tlM_lt (h := h) (f := nd) y c5
  have l4 := tlM_lt (h := h) (f := nd) (y + 1) c5
  have e : jd_and (I r 7) (jd_xor (jd_or (jd_or (jd_or (jd_or (I (r + 1) y) (I (r + 1) (y + 1))) (I (r + 2) y)) (I (r + 2) (y + 1))) (into : Int)) (-1)) = (room w h cl nd y into : Int) := by
    rw [c3, c8 y (by omega), c8 (y + 1) (by omega), c9 y (by omega), c9 (y + 1) (by omega), or_n (by omega) (by omega), or_n (by omega) (by omega), or_n (by omega) (by omega), or_n (by omega) (by omega), ndw_n _ (by omega) _ o4, ndm_eq w (by omega) _ o4]
    rfl
  simp (disch := omega) only [Option.bind_some, jbd_s, jjq, jz0, jz1, wr_id, Int.toNat_natCast, Int.reduceToNat, tn_lk, tn_kl, if_true, if_false, Bool.false_eq_true, reduceCtorEq, ↓reduceIte, if_pos, if_neg, f_X4_roomBelow, FRows hrm, e]
theorem s_lonely (hrm : r ∈ [311, 324]) (c : rCfg I r w h cl na nd) {y into o : Nat} (hy : y < 7) (hi : into < 64) (ho : o < 64) : f_X4_lonelyCells r (y : Int) (into : Int) (o : Int) (mm t d rt I) = some ((lone w h cl y into o : Int), mm t d rt I) := by
  obtain ⟨c1, c2, c3, c4, c5, c6, c7, c8, c9, c10, c11⟩ := c
  have hp : 2 ^ w ≤ 2 ^ 6 := Nat.pow_le_pow_right (by decide) c5
  have hp0 := Nat.two_pow_pos w
  have l1 := clM_lt (h := h) (cl := cl) y c5
  have o1 := or64 l1 hi
  have o2 := or64 o1 ho
  have e : jd_and (I r 7) (jd_xor (jd_or (jd_or (I (r + 1) y) (into : Int)) (o : Int)) (-1)) = (ndM w (clM w h cl y ||| into ||| o) : Int) := by
    rw [c3, c8 y (by omega), or_n (by omega) (by omega), or_n (by omega) (by omega), ndw_n _ (by omega) _ o2, ndm_eq w (by omega) _ o2]
  have l5 : ndM w (clM w h cl y ||| into ||| o) < 64 := Nat.lt_of_lt_of_le (mkM_lt _ _) hp
  have ev := c11 _ l5
  have ev' : I (r + 12) (ndM w (clM w h cl y ||| into ||| o)) = (lone w h cl y into o : Int) := ev
  simp (disch := omega) only [Option.bind_some, jbd_s, jjq, jz0, jz1, wr_id, Int.toNat_natCast, Int.reduceToNat, tn_lk, tn_kl, if_true, if_false, Bool.false_eq_true, reduceCtorEq, ↓reduceIte, if_pos, if_neg, f_X4_lonelyCells, FRows hrm, e, ev']
end CR
