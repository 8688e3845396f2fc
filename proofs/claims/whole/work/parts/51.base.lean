/-! ===== the model's plain reads ===== -/
theorem jbd_s {β : Type} (v : Int) (M : jMem) (f : Int → jMem → Option β) : jbd (some (v, M)) f = f v M := rfl
theorem jz0 (M : jMem) : jm_z 0 M = some (0, M) := by unfold jm_z; rw [if_pos (Or.inl jw_wr0)]
theorem jz1 (M : jMem) : jm_z 1 M = some (1, M) := by unfold jm_z; rw [if_pos (Or.inr (by decide +kernel))]
theorem nd_mul {a b n : Nat} (h : n = a * b) : (a : Int) * (b : Int) = (n : Int) := by rw [h]; exact (Int.natCast_mul a b).symm
theorem tn_lk {a : Int} {b : Nat} (h : 0 ≤ a) : (a + (b : Int)).toNat = a.toNat + b := by omega
theorem tn_kl {a : Nat} {b : Int} (h : 0 ≤ b) : ((a : Int) + b).toNat = a + b.toNat := by omega
/-- the model's square: which side is live, how wide, how high, how many cells -/
def mCfg (I : Nat → Nat → Int) (lv w h n : Nat) : Prop := I 369 18 = (lv : Int) ∧ lv < 2 ∧ I 377 lv = (w : Int) ∧ I 378 lv = (h : Int) ∧ 2 ≤ w ∧ w ≤ 6 ∧ 2 ≤ h ∧ h ≤ 6 ∧ n = w * h ∧ 4 ≤ n ∧ n ≤ 36
section MB
variable {t d rt : Nat} {I : Nat → Nat → Int} {lv w h n : Nat}
theorem s_w (c : mCfg I lv w h n) : f_X12_w 369 (mm t d rt I) = some ((w : Int), mm t d rt I) := by
  obtain ⟨c1, c2, c3, c4, c5, c6, c7, c8, c9, c10, c11⟩ := c
  simp (disch := omega) only [Option.bind_some, jbd_s, jjq, jz0, jz1, wr_id, Int.toNat_natCast, Int.reduceToNat, tn_lk, tn_kl, if_true, if_false, Bool.false_eq_true, reduceCtorEq, ↓reduceIte, if_pos, if_neg, f_X12_w, FM, c1, c3]
theorem s_cells (c : mCfg I lv w h n) : f_X12_cells 369 (mm t d rt I) = some ((n : Int), mm t d rt I) := by
  obtain ⟨c1, c2, c3, c4, c5, c6, c7, c8, c9, c10, c11⟩ := c
  simp (disch := omega) only [Option.bind_some, jbd_s, jjq, jz0, jz1, wr_id, Int.toNat_natCast, Int.reduceToNat, tn_lk, tn_kl, if_true, if_false, Bool.false_eq_true, reduceCtorEq, ↓reduceIte, if_pos, if_neg, f_X12_cells, FM, c1, c3, c4, nd_mul c9]
theorem s_in_t {x a b : Int} {M : jMem} (h1 : ¬ jd_wr x < jd_wr a) (h2 : jd_wr x ≤ jd_wr b) : f_X12_in x a b M = some (1, M) := by
  simp only [f_X12_in, jjq, if_neg h1, if_pos h2, jz1]
theorem s_in_f {x a b : Int} {M : jMem} (h : jd_wr x < jd_wr a ∨ ¬ jd_wr x ≤ jd_wr b) : f_X12_in x a b M = some (0, M) := by
  by_cases h1 : jd_wr x < jd_wr a
  · simp only [f_X12_in, jjq, if_pos h1, jz0]
  · simp only [f_X12_in, jjq, if_neg h1, if_neg (h.resolve_left h1), jz0]
theorem s_isCell_t (c : mCfg I lv w h n) {x : Int} (h1 : 0 ≤ x) (h2 : x < n) : f_X12_isCell 369 x (mm t d rt I) = some (1, mm t d rt I) := by
  have c' := c
  obtain ⟨c1, c2, c3, c4, c5, c6, c7, c8, c9, c10, c11⟩ := c
  have e : f_X12_in x 0 ((n : Int) - 1) (mm t d rt I) = some (1, mm t d rt I) := s_in_t (by simp (disch := omega) only [wr_id]; omega) (by simp (disch := omega) only [wr_id]; omega)
  simp (disch := omega) only [Option.bind_some, jbd_s, jjq, jz0, jz1, wr_id, Int.toNat_natCast, Int.reduceToNat, tn_lk, tn_kl, if_true, if_false, Bool.false_eq_true, reduceCtorEq, ↓reduceIte, if_pos, if_neg, f_X12_isCell, FM, s_cells c', e]
theorem s_isCell_f (c : mCfg I lv w h n) {x : Int} (h1 : -2147483648 ≤ x ∧ x < 2147483648) (h2 : x < 0 ∨ (n : Int) ≤ x) : f_X12_isCell 369 x (mm t d rt I) = some (0, mm t d rt I) := by
  have c' := c
  obtain ⟨c1, c2, c3, c4, c5, c6, c7, c8, c9, c10, c11⟩ := c
  have e : f_X12_in x 0 ((n : Int) - 1) (mm t d rt I) = some (0, mm t d rt I) := s_in_f (by simp (disch := omega) only [wr_id]; omega)
  simp (disch := omega) only [Option.bind_some, jbd_s, jjq, jz0, jz1, wr_id, Int.toNat_natCast, Int.reduceToNat, tn_lk, tn_kl, if_true, if_false, Bool.false_eq_true, reduceCtorEq, ↓reduceIte, if_pos, if_neg, f_X12_isCell, FM, s_cells c', e]
end MB
