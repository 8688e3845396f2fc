/-! ===== the model's square ===== -/
theorem cell_inj {w x y x' y' : Nat} (hx : x < w) (hx' : x' < w) (h : w * y + x = w * y' + x') : x = x' ∧ y = y' := by
  have e1 : (w * y + x) % w = x := by rw [Nat.mul_add_mod, Nat.mod_eq_of_lt hx]
  have e2 : (w * y' + x') % w = x' := by rw [Nat.mul_add_mod, Nat.mod_eq_of_lt hx']
  have e3 : x = x' := by rw [← e1, ← e2, h]
  have e4 : w * y = w * y' := by omega
  exact ⟨e3, Nat.eq_of_mul_eq_mul_left (by omega) e4⟩
def tkU (I : Nat → Nat → Int) (w h : Nat) (U : Nat → Bool) : Prop := ∀ x y, x < w → y < h → I 396 (6 * y + x) = if U (w * y + x) then 1 else 0
section MQ
variable {t d rt : Nat} {I J : Nat → Nat → Int} {w h sd : Nat}
theorem w_takes (hsd : sd ≤ 1) (h19 : I 369 19 = (sd : Int)) (hw : 2 ≤ w ∧ w ≤ 6) (hh : 2 ≤ h ∧ h ≤ 6) (h0 : I 377 sd = (w : Int)) (h1 : I 378 sd = (h : Int)) {U : Nat → Bool} (hU : tkU I w h U) {x y : Nat} (hx : x ≤ 100) (hy : y ≤ 100) : wm t d rt (f_X12_takes 369 (x : Int) (y : Int) (mm t d rt I)) (fun r J => (∃ U', mkP w h U x y = some U' ∧ r = 1 ∧ frM (fun a => a = 396) (fun _ => False) I J ∧ tkU J w h U') ∨ (mkP w h U x y = none ∧ r = 0 ∧ J = I)) := by
  unfold f_X12_takes
  have eN : ¬ (x < w ∧ y < h ∧ U (w * y + x) = false) → mkP w h U x y = none := fun q => by unfold mkP; rw [if_neg q]
  have eS : (x < w ∧ y < h ∧ U (w * y + x) = false) → mkP w h U x y = some (fun c => if c = w * y + x then true else U c) := fun q => by unfold mkP; rw [if_pos q]
  by_cases c1 : x < w
  · by_cases c2 : y < h
    · have ee : 6 * (y : Int) + (x : Int) = ((6 * y + x : Nat) : Int) := by omega
      have hg := hU x y c1 c2
      have z1 : jd_z 1 = 1 := by decide
      by_cases c3 : U (w * y + x) = true
      · rw [if_pos c3] at hg
        (repeat (first | (with_reducible apply wm_o; focus (simp (disch := omega) only [wr_id, Int.toNat_natCast, Int.reduceToNat, tn_lk, tn_kl, if_pos, if_neg, ↓reduceIte, and_self, and_true, true_and, FM, h19, h0, h1, ee, hg]; with_reducible rfl)) | (with_reducible apply wm_q) | (with_reducible apply wm_c; focus (first | assumption | decide +kernel)) | (with_reducible apply wm_d; focus (simp (disch := omega) only [wr_id, Int.toNat_natCast, Int.reduceToNat, tn_lk, tn_kl, if_pos, if_neg, ↓reduceIte, and_self, and_true, true_and, FM, h19, h0, h1, ee, hg]; with_reducible rfl)) | (with_reducible apply wm_t; focus (first | omega | (simp (disch := omega) only [wr_id, FM, h19, h0, h1, ee, hg]; omega) | (simp (disch := omega) only [wr_id, FM, h19, h0, h1, ee, hg]; done))) | (with_reducible apply wm_f; focus (first | omega | (simp (disch := omega) only [wr_id, FM, h19, h0, h1, ee, hg]; omega) | (simp (disch := omega) only [wr_id, FM, h19, h0, h1, ee, hg]; done)))))
        exact wm_z0 (Or.inr ⟨eN (fun q => by rw [c3] at q; exact absurd q.2.2 (by decide)), rfl, rfl⟩)
      · have c3' : U (w * y + x) = false := by cases q : U (w * y + x); rfl; exact absurd q c3
        rw [if_neg c3] at hg
        (repeat (first | (with_reducible apply wm_o; focus (simp (disch := omega) only [wr_id, Int.toNat_natCast, Int.reduceToNat, tn_lk, tn_kl, if_pos, if_neg, ↓reduceIte, and_self, and_true, true_and, FM, h19, h0, h1, ee, hg, z1]; with_reducible rfl)) | (with_reducible apply wm_q) | (with_reducible apply wm_c; focus (first | assumption | decide +kernel)) | (with_reducible apply wm_d; focus (simp (disch := omega) only [wr_id, Int.toNat_natCast, Int.reduceToNat, tn_lk, tn_kl, if_pos, if_neg, ↓reduceIte, and_self, and_true, true_and, FM, h19, h0, h1, ee, hg, z1]; with_reducible rfl)) | (with_reducible apply wm_t; focus (first | omega | (simp (disch := omega) only [wr_id, FM, h19, h0, h1, ee, hg, z1]; omega) | (simp (disch := omega) only [wr_id, FM, h19, h0, h1, ee, hg, z1]; done))) | (with_reducible apply wm_f; focus (first | omega | (simp (disch := omega) only [wr_id, FM, h19, h0, h1, ee, hg, z1]; omega) | (simp (disch := omega) only [wr_id, FM, h19, h0, h1, ee, hg, z1]; done)))))
        refine wm_z1 (Or.inl ⟨_, eS ⟨c1, c2, c3'⟩, rfl, frM_up (frM_refl _ _ _) (by decide) rfl, fun x' y' b1 b2 => ?_⟩)
        rw [up_g]
        by_cases e : 6 * y' + x' = 6 * y + x
        · have e1 : x' = x ∧ y' = y := by omega
          have eu : (fun c => if c = w * y + x then true else U c) (w * y' + x') = true := by
            show (if w * y' + x' = w * y + x then true else U (w * y' + x')) = true
            rw [e1.1, e1.2, if_pos rfl]
          rw [if_pos e, if_pos eu]
        · have e1 : ¬ w * y' + x' = w * y + x := fun q => by
            obtain ⟨z1, z2⟩ := cell_inj b1 c1 q
            exact e (by rw [z1, z2])
          have eu : (fun c => if c = w * y + x then true else U c) (w * y' + x') = U (w * y' + x') := if_neg e1
          rw [if_neg e, eu]; exact hU x' y' b1 b2
    · (repeat (first | (with_reducible apply wm_o; focus (simp (disch := omega) only [wr_id, Int.toNat_natCast, Int.reduceToNat, tn_lk, tn_kl, if_pos, if_neg, ↓reduceIte, and_self, and_true, true_and, FM, h19, h0, h1]; with_reducible rfl)) | (with_reducible apply wm_q) | (with_reducible apply wm_c; focus (first | assumption | decide +kernel)) | (with_reducible apply wm_d; focus (simp (disch := omega) only [wr_id, Int.toNat_natCast, Int.reduceToNat, tn_lk, tn_kl, if_pos, if_neg, ↓reduceIte, and_self, and_true, true_and, FM, h19, h0, h1]; with_reducible rfl)) | (with_reducible apply wm_t; focus (first | omega | (simp (disch := omega) only [wr_id, FM, h19, h0, h1]; omega) | (simp (disch := omega) only [wr_id, FM, h19, h0, h1]; done))) | (with_reducible apply wm_f; focus (first | omega | (simp (disch := omega) only [wr_id, FM, h19, h0, h1]; omega) | (simp (disch := omega) only [wr_id, FM, h19, h0, h1]; done)))))
      exact wm_z0 (Or.inr ⟨eN (fun q => c2 q.2.1), rfl, rfl⟩)
  · (repeat (first | (with_reducible apply wm_o; focus (simp (disch := omega) only [wr_id, Int.toNat_natCast, Int.reduceToNat, tn_lk, tn_kl, if_pos, if_neg, ↓reduceIte, and_self, and_true, true_and, FM, h19, h0, h1]; with_reducible rfl)) | (with_reducible apply wm_q) | (with_reducible apply wm_c; focus (first | assumption | decide +kernel)) | (with_reducible apply wm_d; focus (simp (disch := omega) only [wr_id, Int.toNat_natCast, Int.reduceToNat, tn_lk, tn_kl, if_pos, if_neg, ↓reduceIte, and_self, and_true, true_and, FM, h19, h0, h1]; with_reducible rfl)) | (with_reducible apply wm_t; focus (first | omega | (simp (disch := omega) only [wr_id, FM, h19, h0, h1]; omega) | (simp (disch := omega) only [wr_id, FM, h19, h0, h1]; done))) | (with_reducible apply wm_f; focus (first | omega | (simp (disch := omega) only [wr_id, FM, h19, h0, h1]; omega) | (simp (disch := omega) only [wr_id, FM, h19, h0, h1]; done)))))
    exact wm_z0 (Or.inr ⟨eN (fun q => c1 q.1), rfl, rfl⟩)
end MQ
