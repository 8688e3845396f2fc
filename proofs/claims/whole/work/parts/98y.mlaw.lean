/-! ===== the model reads a law ===== -/
section ML
variable {t d rt : Nat} {I J : Nat → Nat → Int} {K : Nat → Nat} {V : Nat → Int} {ps : Nat → Nat} {i : Nat}
theorem q_expressionF {c q : Nat} (hF : fltM ps I c q) : f_X12_expression 369 (mm t d rt I) = some (0, mm t d rt (up I 369 43 0)) := by
  have F2 := flt_fd (j := 43) (v := 0) (by decide) hF
  obtain ⟨d1, d2, d3, s, d4, d5⟩ := F2
  apply wm_eq
  unfold f_X12_expression
  (repeat (first | (with_reducible apply wm_o; focus (simp (disch := omega) only [wr_id, Int.toNat_natCast, Int.reduceToNat, tn_lk, tn_kl, if_pos, if_neg, ↓reduceIte, and_self, and_true, true_and, FM]; with_reducible rfl)) | (with_reducible apply wm_q) | (with_reducible apply wm_c; focus (first | assumption | decide +kernel)) | (with_reducible apply wm_d; focus (simp (disch := omega) only [wr_id, Int.toNat_natCast, Int.reduceToNat, tn_lk, tn_kl, if_pos, if_neg, ↓reduceIte, and_self, and_true, true_and, FM]; with_reducible rfl)) | (with_reducible apply wm_t; focus (first | omega | (simp (disch := omega) only [wr_id, FM]; omega) | (simp (disch := omega) only [wr_id, FM]; done))) | (with_reducible apply wm_f; focus (first | omega | (simp (disch := omega) only [wr_id, FM]; omega) | (simp (disch := omega) only [wr_id, FM]; done)))))
  refine wm_lp2 0 (fun k y J => y = 1 ∧ J = up I 369 43 0) ?_ (jfuel_n (by decide)) ⟨rfl, rfl⟩
  rintro k hk y J ⟨rfl, rfl⟩ rec hrec
  (repeat (first | (with_reducible apply wm_o; focus (simp (disch := omega) only [wr_id, Int.toNat_natCast, Int.reduceToNat, tn_lk, tn_kl, if_pos, if_neg, ↓reduceIte, and_self, and_true, true_and, FM, d2]; with_reducible rfl)) | (with_reducible apply wm_q) | (with_reducible apply wm_c; focus (first | assumption | decide +kernel)) | (with_reducible apply wm_d; focus (simp (disch := omega) only [wr_id, Int.toNat_natCast, Int.reduceToNat, tn_lk, tn_kl, if_pos, if_neg, ↓reduceIte, and_self, and_true, true_and, FM, d2]; with_reducible rfl)) | (with_reducible apply wm_t; focus (first | omega | (simp (disch := omega) only [wr_id, FM, d2]; omega) | (simp (disch := omega) only [wr_id, FM, d2]; done))) | (with_reducible apply wm_f; focus (first | omega | (simp (disch := omega) only [wr_id, FM, d2]; omega) | (simp (disch := omega) only [wr_id, FM, d2]; done)))))
  exact wm_r ⟨rfl, rfl⟩
def lxP : Nat → Prop := fun a => a = 387 ∨ a = 388 ∨ lwP a
/-- idle: a fault stands -/
def idM (ps : Nat → Nat) (c0 hi b0 bh : Nat) (I J : Nat → Nat → Int) (b cc qq : Nat) : Prop := frM lwP lwT I J ∧ kpL c0 hi b0 bh I J ∧ fltM ps J cc qq ∧ J 369 32 = (b : Int) ∧ b0 ≤ b
theorem id_fd {c0 hi b0 bh b cc qq j : Nat} {v : Int} (hj : j = 43 ∨ j = 12) (h : idM ps c0 hi b0 bh I J b cc qq) : idM ps c0 hi b0 bh I (up J 369 j v) b cc qq := by
  obtain ⟨h1, h2, h3, h4, h5⟩ := h
  exact ⟨frM_fd h1 (by unfold lwT; omega), kpL_fd h2, flt_fd (by omega) h3, by rw [up_g, if_neg (by omega)]; exact h4, h5⟩
theorem id_br {c0 hi b0 bh b cc qq a : Nat} {v : Int} (ha : 389 ≤ a ∧ a ≤ 393) (hb : b < bh) (h : idM ps c0 hi b0 bh I J b cc qq) : idM ps c0 hi b0 bh I (up J a b v) b cc qq := by
  obtain ⟨h1, h2, h3, h4, h5⟩ := h
  exact ⟨frM_up h1 (by omega) (by unfold lwP; omega), kpL_br h2 ha ⟨h5, hb⟩, flt_up (by omega) h3, by rw [up_ne (by omega)]; exact h4, h5⟩
theorem w_idTerm {c0 hi b0 bh b cc qq : Nat} (hb : b < bh) (hbh : bh ≤ 260) (h : idM ps c0 hi b0 bh I J b cc qq) : wm t d rt (f_X12_term 369 (mm t d rt J)) (fun _ X => idM ps c0 hi b0 bh I X (b + 1) cc qq) := by
  obtain ⟨h1, h2, h3, h4, h5⟩ := h
  refine wm_w (w_termF h3 h4 hb hbh c0 hi) (fun r X hX => ?_)
  obtain ⟨g1, g2, g3, g4⟩ := hX
  exact ⟨frM_trans h1 g1, kpL_trans h2 g2 (Nat.le_refl _) h5, g4, g3, by omega⟩
def lmQ (K : Nat → Nat) (V : Nat → Int) (ps : Nat → Nat) (sd q c0 b0 : Nat) (I : Nat → Nat → Int) (R : ER LW) (J : Nat → Nat → Int) : Prop := frM lxP lwT I J ∧ kpL c0 (420 * sd + 420) b0 (130 * sd + 130) I J ∧ ((∃ (t' : Nat) (l : LW) (b' c' : Nat), R = eok t' l ∧ rdM K V ps J t' ∧ J 369 12 = 0 ∧ J 369 32 = (b' : Int) ∧ J 369 38 = (c' : Int) ∧ b0 < b' ∧ 4 * b' ≤ t' + 520 * sd ∧ c0 ≤ c' ∧ c' ≤ 420 * sd + t' ∧ J 387 = rSet (I 387) (3 * sd + q) (b0 : Int) ∧ J 388 = rSet (I 388) (3 * sd + q) (b' : Int) ∧ lwM J b0 l.1 l.2 b' ∧ lwOK l.1 l.2 ∧ ∀ x, b0 ≤ x → x < b' → ((420 * sd : Nat) : Int) ≤ J 392 x ∧ J 393 x ≤ (c' : Int) ∧ (J 389 x = 1 → ((420 * sd : Nat) : Int) ≤ J 390 x)) ∨ (∃ c q, R = efl c q ∧ fltM ps J c q ∧ J 387 = I 387 ∧ J 388 = I 388))
theorem lx_sub {I J : Nat → Nat → Int} (h : frM lwP lwT I J) : frM lxP lwT I J := frM_sub h (fun a h => Or.inr (Or.inr h)) (fun a h => h)
theorem id_lm {sd q c0 b0 b cc qq : Nat} {R : ER LW} (hR : R = efl cc qq) (h : idM ps c0 (420 * sd + 420) b0 (130 * sd + 130) I J b cc qq) : lmQ K V ps sd q c0 b0 I R J := by
  obtain ⟨h1, h2, h3, h4, h5⟩ := h
  exact ⟨lx_sub h1, h2, Or.inr ⟨cc, qq, hR, h3, h1.1 387 (by decide) (by unfold lwP; omega), h1.1 388 (by decide) (by unfold lwP; omega)⟩⟩
end ML
