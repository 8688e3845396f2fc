/-! ===== the model's square ===== -/
theorem cell_inj {w x y x' y' : Nat} (hx : x < w) (hx' : x' < w) (h : w * y + x = w * y' + x') : x = x' ∧ y = y' := by
  have e1 : (w * y + x) % w = x := by rw [Nat.mul_add_mod, Nat.mod_eq_of_lt hx]
  have e2 : (w * y' + x') % w = x' := by rw [Nat.mul_add_mod, Nat.mod_eq_of_lt hx']
  have e3 : x = x' := by rw [← e1, ← e2, h]
  have e4 : w * y = w * y' := by omega
  exact ⟨e3, Nat.eq_of_mul_eq_mul_left (by omega) e4⟩
def tkU (I : Nat → Nat → Int) (w h : Nat) (U : Nat → Bool) : Prop := ∀ x y, x < w → y < h → I 396 (6 * y + x) = if U (w * y + x) then 1 else 0
section MQ
variable {t d rt : Nat} {I J : Nat → Nat → Int} {w h sd : Nat}
theorem w_takes (hsd : sd ≤ 1) (h19 : I 369 19 = (sd : Int)) (hw : 2 ≤ w ∧ w ≤ 6) (hh : 2 ≤ h ∧ h ≤ 6) (h0 : I 377 sd = (w : Int)) (h1 : I 378 sd = (h : Int)) {U : Nat → Bool} (hU : tkU I w h U) {x y : Nat} (hx : x ≤ 100) (hy : y ≤ 100) : wm t d rt (f_X12_takes 369 (x : Int) (y : Int) (mm t d rt I)) (fun r J => (∃ U', mkP w h U x y = some U' ∧ r = 1 ∧ frM (fun a => a = 396) (fun _ => False) I J ∧ tkU J w h U') ∨ (mkP w h U x y = none ∧ r = 0 ∧ J = I)) := by
  unfold f_X12_takes
  have eN : ¬ (x < w ∧ y < h ∧ U (w * y + x) = false) → mkP w h U x y = none := fun q => by unfold mkP; rw [if_neg q]
  have eS : (x < w ∧ y < h ∧ U (w * y + x) = false) → mkP w h U x y = some (fun c => if c = w * y + x then true else U c) := fun q => by unfold mkP; rw [if_pos q]
  by_cases c1 : x < w
  · by_cases c2 : y < h
    · have ee : 6 * (y : Int) + (x : Int) = ((6 * y + x : Nat) : Int) := by omega
      have hg := hU x y c1 c2
      have z1 : jd_z 1 = 1 := by decide
      by_cases c3 : U (w * y + x) = true
      · rw [if_pos c3] at hg
        (repeat (first | (with_reducible apply wm_o; focus (simp (disch := omega) only [wr_id, Int.toNat_natCast, Int.reduceToNat, tn_lk, tn_kl, if_pos, if_neg, ↓reduceIte, and_self, and_true, true_and, FM, h19, h0, h1, ee, hg]; with_reducible rfl)) | (with_reducible apply wm_q) | (with_reducible apply wm_c; focus (first | assumption | decide +kernel)) | (with_reducible apply wm_d; focus (simp (disch := omega) only [wr_id, Int.toNat_natCast, Int.reduceToNat, tn_lk, tn_kl, if_pos, if_neg, ↓reduceIte, and_self, and_true, true_and, FM, h19, h0, h1, ee, hg]; with_reducible rfl)) | (with_reducible apply wm_t; focus (first | omega | (simp (disch := omega) only [wr_id, FM, h19, h0, h1, ee, hg]; omega) | (simp (disch := omega) only [wr_id, FM, h19, h0, h1, ee, hg]; done))) | (with_reducible apply wm_f; focus (first | omega | (simp (disch := omega) only [wr_id, FM, h19, h0, h1, ee, hg]; omega) | (simp (disch := omega) only [wr_id, FM, h19, h0, h1, ee, hg]; done)))))
        exact wm_z0 (Or.inr ⟨eN (fun q => by rw [c3] at q; exact absurd q.2.2 (by decide)), rfl, rfl⟩)
      · have c3' : U (w * y + x) = false := by cases q : U (w * y + x); rfl; exact absurd q c3
        rw [if_neg c3] at hg
        (repeat (first | (with_reducible apply wm_o; focus (simp (disch := omega) only [wr_id, Int.toNat_natCast, Int.reduceToNat, tn_lk, tn_kl, if_pos, if_neg, ↓reduceIte, and_self, and_true, true_and, FM, h19, h0, h1, ee, hg, z1]; with_reducible rfl)) | (with_reducible apply wm_q) | (with_reducible apply wm_c; focus (first | assumption | decide +kernel)) | (with_reducible apply wm_d; focus (simp (disch := omega) only [wr_id, Int.toNat_natCast, Int.reduceToNat, tn_lk, tn_kl, if_pos, if_neg, ↓reduceIte, and_self, and_true, true_and, FM, h19, h0, h1, ee, hg, z1]; with_reducible rfl)) | (with_reducible apply wm_t; focus (first | omega | (simp (disch := omega) only [wr_id, FM, h19, h0, h1, ee, hg, z1]; omega) | (simp (disch := omega) only [wr_id, FM, h19, h0, h1, ee, hg, z1]; done))) | (with_reducible apply wm_f; focus (first | omega | (simp (disch := omega) only [wr_id, FM, h19, h0, h1, ee, hg, z1]; omega) | (simp (disch := omega) only [wr_id, FM, h19, h0, h1, ee, hg, z1]; done)))))
        refine wm_z1 (Or.inl ⟨_, eS ⟨c1, c2, c3'⟩, rfl, frM_up (frM_refl _ _ _) (by decide) rfl, fun x' y' b1 b2 => ?_⟩)
        rw [up_g]
        by_cases e : 6 * y' + x' = 6 * y + x
        · have e1 : x' = x ∧ y' = y := by omega
          have eu : (fun c => if c = w * y + x then true else U c) (w * y' + x') = true := by
            show (if w * y' + x' = w * y + x then true else U (w * y' + x')) = true
            rw [e1.1, e1.2, if_pos rfl]
          rw [if_pos e, if_pos eu]
        · have e1 : ¬ w * y' + x' = w * y + x := fun q => by
            obtain ⟨z1, z2⟩ := cell_inj b1 c1 q
            exact e (by rw [z1, z2])
          have eu : (fun c => if c = w * y + x then true else U c) (w * y' + x') = U (w * y' + x') := if_neg e1
          rw [if_neg e, eu]; exact hU x' y' b1 b2
    · (repeat (first | (with_reducible apply wm_o; focus (simp (disch := omega) only [wr_id, Int.toNat_natCast, Int.reduceToNat, tn_lk, tn_kl, if_pos, if_neg, ↓reduceIte, and_self, and_true, true_and, FM, h19, h0, h1]; with_reducible rfl)) | (with_reducible apply wm_q) | (with_reducible apply wm_c; focus (first | assumption | decide +kernel)) | (with_reducible apply wm_d; focus (simp (disch := omega) only [wr_id, Int.toNat_natCast, Int.reduceToNat, tn_lk, tn_kl, if_pos, if_neg, ↓reduceIte, and_self, and_true, true_and, FM, h19, h0, h1]; with_reducible rfl)) | (with_reducible apply wm_t; focus (first | omega | (simp (disch := omega) only [wr_id, FM, h19, h0, h1]; omega) | (simp (disch := omega) only [wr_id, FM, h19, h0, h1]; done))) | (with_reducible apply wm_f; focus (first | omega | (simp (disch := omega) only [wr_id, FM, h19, h0, h1]; omega) | (simp (disch := omega) only [wr_id, FM, h19, h0, h1]; done)))))
      exact wm_z0 (Or.inr ⟨eN (fun q => c2 q.2.1), rfl, rfl⟩)
  · (repeat (first | (with_reducible apply wm_o; focus (simp (disch := omega) only [wr_id, Int.toNat_natCast, Int.reduceToNat, tn_lk, tn_kl, if_pos, if_neg, ↓reduceIte, and_self, and_true, true_and, FM, h19, h0, h1]; with_reducible rfl)) | (with_reducible apply wm_q) | (with_reducible apply wm_c; focus (first | assumption | decide +kernel)) | (with_reducible apply wm_d; focus (simp (disch := omega) only [wr_id, Int.toNat_natCast, Int.reduceToNat, tn_lk, tn_kl, if_pos, if_neg, ↓reduceIte, and_self, and_true, true_and, FM, h19, h0, h1]; with_reducible rfl)) | (with_reducible apply wm_t; focus (first | omega | (simp (disch := omega) only [wr_id, FM, h19, h0, h1]; omega) | (simp (disch := omega) only [wr_id, FM, h19, h0, h1]; done))) | (with_reducible apply wm_f; focus (first | omega | (simp (disch := omega) only [wr_id, FM, h19, h0, h1]; omega) | (simp (disch := omega) only [wr_id, FM, h19, h0, h1]; done)))))
    exact wm_z0 (Or.inr ⟨eN (fun q => c1 q.1), rfl, rfl⟩)
end MQ
section MS
variable {t d rt : Nat} {I J : Nat → Nat → Int} {sd : Nat}
/-- plain numbers on side sd -/
theorem w_plain (hsd : sd ≤ 1) : wm t d rt (f_X12_plain 369 (sd : Int) (mm t d rt I)) (fun _ J => frM (fun a => a = 377 ∨ a = 378 ∨ a = 379 ∨ a = 382 ∨ a = 386 ∨ a = 387 ∨ a = 388) (fun _ => False) I J ∧ J 377 = rSet (I 377) sd 4 ∧ J 378 = rSet (I 378) sd 4 ∧ J 379 = rSet (I 379) sd 0 ∧ J 382 = rSet (I 382) sd 0 ∧ J 386 = rSet (I 386) sd 0 ∧ (∀ j, J 387 j = if 3 * sd ≤ j ∧ j < 3 * sd + 3 then 0 else I 387 j) ∧ ∀ j, J 388 j = if 3 * sd ≤ j ∧ j < 3 * sd + 3 then 0 else I 388 j) := by
  unfold f_X12_plain
  (repeat (first | (with_reducible apply wm_o; focus (simp (disch := omega) only [wr_id, Int.toNat_natCast, Int.reduceToNat, tn_lk, tn_kl, if_pos, if_neg, ↓reduceIte, and_self, and_true, true_and, FM]; with_reducible rfl)) | (with_reducible apply wm_q) | (with_reducible apply wm_c; focus (first | assumption | decide +kernel)) | (with_reducible apply wm_d; focus (simp (disch := omega) only [wr_id, Int.toNat_natCast, Int.reduceToNat, tn_lk, tn_kl, if_pos, if_neg, ↓reduceIte, and_self, and_true, true_and, FM]; with_reducible rfl)) | (with_reducible apply wm_t; focus (first | omega | (simp (disch := omega) only [wr_id, FM]; omega) | (simp (disch := omega) only [wr_id, FM]; done))) | (with_reducible apply wm_f; focus (first | omega | (simp (disch := omega) only [wr_id, FM]; omega) | (simp (disch := omega) only [wr_id, FM]; done)))))
  generalize e0 : up (up (up (up (up I 377 sd 4) 378 sd 4) 379 sd 0) 382 sd 0) 386 sd 0 = I0
  refine wm_lp2 3 (fun n y J => y = (n : Int) ∧ frM (fun a => a = 387 ∨ a = 388) (fun _ => False) I0 J ∧ (∀ j, J 387 j = if 3 * sd ≤ j ∧ j < 3 * sd + n then 0 else I 387 j) ∧ ∀ j, J 388 j = if 3 * sd ≤ j ∧ j < 3 * sd + n then 0 else I 388 j) ?_ (jfuel_n (by decide)) ⟨rfl, frM_refl _ _ _, fun j => ?_, fun j => ?_⟩
  · rintro n hn y J ⟨rfl, j1, j2, j3⟩ rec hrec
    by_cases c : n < 3
    · have ee : 3 * (sd : Int) + (n : Int) = ((3 * sd + n : Nat) : Int) := by omega
      (repeat (first | (with_reducible apply wm_o; focus (simp (disch := omega) only [wr_id, Int.toNat_natCast, Int.reduceToNat, tn_lk, tn_kl, if_pos, if_neg, ↓reduceIte, and_self, and_true, true_and, FM, ee]; with_reducible rfl)) | (with_reducible apply wm_q) | (with_reducible apply wm_c; focus (first | assumption | decide +kernel)) | (with_reducible apply wm_d; focus (simp (disch := omega) only [wr_id, Int.toNat_natCast, Int.reduceToNat, tn_lk, tn_kl, if_pos, if_neg, ↓reduceIte, and_self, and_true, true_and, FM, ee]; with_reducible rfl)) | (with_reducible apply wm_t; focus (first | omega | (simp (disch := omega) only [wr_id, FM, ee]; omega) | (simp (disch := omega) only [wr_id, FM, ee]; done))) | (with_reducible apply wm_f; focus (first | omega | (simp (disch := omega) only [wr_id, FM, ee]; omega) | (simp (disch := omega) only [wr_id, FM, ee]; done)))))
      refine hrec (n + 1) _ _ (by omega) (by omega) ⟨by omega, frM_up (frM_up j1 (by decide) (Or.inl rfl)) (by decide) (Or.inr rfl), fun j => ?_, fun j => ?_⟩
      · rw [up_ne (by decide), up_g, j2 j]
        by_cases e : j = 3 * sd + n
        · rw [if_pos e, if_pos (by omega)]
        · rw [if_neg e]
          by_cases e2 : 3 * sd ≤ j ∧ j < 3 * sd + n
          · rw [if_pos e2, if_pos (by omega)]
          · rw [if_neg e2, if_neg (by omega)]
      · rw [up_g, up_ne (by decide), j3 j]
        by_cases e : j = 3 * sd + n
        · rw [if_pos e, if_pos (by omega)]
        · rw [if_neg e]
          by_cases e2 : 3 * sd ≤ j ∧ j < 3 * sd + n
          · rw [if_pos e2, if_pos (by omega)]
          · rw [if_neg e2, if_neg (by omega)]
    · have en : n = 3 := by omega
      subst en
      (repeat (first | (with_reducible apply wm_o; focus (simp (disch := omega) only [wr_id, Int.toNat_natCast, Int.reduceToNat, tn_lk, tn_kl, if_pos, if_neg, ↓reduceIte, and_self, and_true, true_and, FM]; with_reducible rfl)) | (with_reducible apply wm_q) | (with_reducible apply wm_c; focus (first | assumption | decide +kernel)) | (with_reducible apply wm_d; focus (simp (disch := omega) only [wr_id, Int.toNat_natCast, Int.reduceToNat, tn_lk, tn_kl, if_pos, if_neg, ↓reduceIte, and_self, and_true, true_and, FM]; with_reducible rfl)) | (with_reducible apply wm_t; focus (first | omega | (simp (disch := omega) only [wr_id, FM]; omega) | (simp (disch := omega) only [wr_id, FM]; done))) | (with_reducible apply wm_f; focus (first | omega | (simp (disch := omega) only [wr_id, FM]; omega) | (simp (disch := omega) only [wr_id, FM]; done)))))
      have g : ∀ a, a ≠ 387 → a ≠ 388 → a ≠ 369 → J a = I0 a := fun a h1 h2 h3 => j1.1 a h3 (by omega)
      refine wm_r ⟨⟨fun a h1 h2 => ?_, fun j _ => ?_⟩, ?_, ?_, ?_, ?_, ?_, j2, j3⟩
      · rw [g a (by omega) (by omega) h1, ← e0, up_ne (by omega), up_ne (by omega), up_ne (by omega), up_ne (by omega), up_ne (by omega)]
      · rw [j1.2 j (fun h => h), ← e0, up_ne (by decide), up_ne (by decide), up_ne (by decide), up_ne (by decide), up_ne (by decide)]
      · rw [g _ (by decide) (by decide) (by decide), ← e0, up_ne (by decide), up_ne (by decide), up_ne (by decide), up_ne (by decide), up_row]
      · rw [g _ (by decide) (by decide) (by decide), ← e0, up_ne (by decide), up_ne (by decide), up_ne (by decide), up_row, up_ne (by decide)]
      · rw [g _ (by decide) (by decide) (by decide), ← e0, up_ne (by decide), up_ne (by decide), up_row, up_ne (by decide), up_ne (by decide)]
      · rw [g _ (by decide) (by decide) (by decide), ← e0, up_ne (by decide), up_row, up_ne (by decide), up_ne (by decide), up_ne (by decide)]
      · rw [g _ (by decide) (by decide) (by decide), ← e0, up_row, up_ne (by decide), up_ne (by decide), up_ne (by decide), up_ne (by decide)]
  · rw [if_neg (by omega), ← e0, up_ne (by decide), up_ne (by decide), up_ne (by decide), up_ne (by decide), up_ne (by decide)]
  · rw [if_neg (by omega), ← e0, up_ne (by decide), up_ne (by decide), up_ne (by decide), up_ne (by decide), up_ne (by decide)]
end MS
