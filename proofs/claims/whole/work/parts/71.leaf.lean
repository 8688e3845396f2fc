/-! ===== the model's leaves: neighbours, ways from a cell ===== -/
def blI (I : Nat → Nat → Int) (a : Nat) : Nat → Bool := fun x => !decide (I a x = 0)
def b01 (I : Nat → Nat → Int) (a n : Nat) : Prop := ∀ x, x < n → I a x = 0 ∨ I a x = 1
section ML
variable {t d rt : Nat} {I : Nat → Nat → Int} {lv w h n : Nat}
theorem s_second0 (c : mCfg I lv w h n) {x : Nat} (hx : x < n) : f_X12_secondCell 369 (x : Int) 0 (mm t d rt I) = some (if x % w + 1 < w then ((x + 1 : Nat) : Int) else -1, mm t d rt I) := by
  have c' := c
  obtain ⟨c1, c2, c3, c4, c5, c6, c7, c8, c9, c10, c11⟩ := c
  have hm : x % w < w := Nat.mod_lt _ (by omega)
  have hr : jm_rm (x : Int) (w : Int) = some ((x % w : Nat) : Int) := rm_n (by omega) (by omega) (by omega)
  by_cases z : x % w + 1 < w
  · rw [if_pos z]
    simp (disch := omega) only [Option.bind_some, jbd_s, jjq, jz0, jz1, wr_id, Int.toNat_natCast, Int.reduceToNat, tn_lk, tn_kl, if_true, if_false, Bool.false_eq_true, reduceCtorEq, ↓reduceIte, if_pos, if_neg, f_X12_secondCell, FM, s_w c', hr]
    rfl
  · rw [if_neg z]
    simp (disch := omega) only [Option.bind_some, jbd_s, jjq, jz0, jz1, wr_id, Int.toNat_natCast, Int.reduceToNat, tn_lk, tn_kl, if_true, if_false, Bool.false_eq_true, reduceCtorEq, ↓reduceIte, if_pos, if_neg, f_X12_secondCell, FM, s_w c', hr]
theorem s_second1 (c : mCfg I lv w h n) {x : Nat} (hx : x < n) : f_X12_secondCell 369 (x : Int) 1 (mm t d rt I) = some (if x + w < n then ((x + w : Nat) : Int) else -1, mm t d rt I) := by
  have c' := c
  obtain ⟨c1, c2, c3, c4, c5, c6, c7, c8, c9, c10, c11⟩ := c
  by_cases z : x + w < n
  · rw [if_pos z]
    simp (disch := omega) only [Option.bind_some, jbd_s, jjq, jz0, jz1, wr_id, Int.toNat_natCast, Int.reduceToNat, tn_lk, tn_kl, if_true, if_false, Bool.false_eq_true, reduceCtorEq, ↓reduceIte, if_pos, if_neg, f_X12_secondCell, FM, s_w c', s_cells c']
    rfl
  · rw [if_neg z]
    simp (disch := omega) only [Option.bind_some, jbd_s, jjq, jz0, jz1, wr_id, Int.toNat_natCast, Int.reduceToNat, tn_lk, tn_kl, if_true, if_false, Bool.false_eq_true, reduceCtorEq, ↓reduceIte, if_pos, if_neg, f_X12_secondCell, FM, s_w c', s_cells c']
/-- told or not: the flag, the table, what may not be -/
def tdF (I : Nat → Nat → Int) (b : Int) (tb : Nat) (na nd : Nat → Bool) : Prop := (b = 0 ∧ tb = 406 ∧ na = noB ∧ nd = noB) ∨ (b = 1 ∧ tb = 407 ∧ na = blI I 409 ∧ nd = blI I 410)
theorem s_waysIn {b : Int} {tb : Nat} {na nd : Nat → Bool} (hb : tdF I b tb na nd) {x : Nat} (hx : x < 2368) : f_X12_waysIn 369 b (x : Int) (mm t d rt I) = some (I tb x, mm t d rt I) := by
  rcases hb with ⟨rfl, rfl, _, _⟩ | ⟨rfl, rfl, _, _⟩
  · simp (disch := omega) only [Option.bind_some, jbd_s, jjq, jz0, jz1, wr_id, Int.toNat_natCast, Int.reduceToNat, tn_lk, tn_kl, if_true, if_false, Bool.false_eq_true, reduceCtorEq, ↓reduceIte, if_pos, if_neg, f_X12_waysIn, FM]
  · simp (disch := omega) only [Option.bind_some, jbd_s, jjq, jz0, jz1, wr_id, Int.toNat_natCast, Int.reduceToNat, tn_lk, tn_kl, if_true, if_false, Bool.false_eq_true, reduceCtorEq, ↓reduceIte, if_pos, if_neg, f_X12_waysIn, FM]
end ML
