/-! ===== the model reads a tell ===== -/
theorem kR_tok (B : Nat → Nat) (tl i : Nat) : kR (tK B tl i) := by
  have h1 := wKd_ge (sl B (tps B tl i) (rn B isLe (tps B tl i) - tps B tl i))
  have h2 := sgK_ge (B (tps B tl i))
  show kR (tkK B tl (tps B tl i))
  unfold kR tkK
  repeat' split
  all_goals omega
section RF
variable {t d rt : Nat} {I J : Nat → Nat → Int} {K : Nat → Nat} {V : Nat → Int} {ps : Nat → Nat} {i : Nat}
theorem w_roomFor (hR : rdM K V ps I i) (hK : K i ≠ 0) {a m : Nat} {mz : Int} (hz : mz = (m : Int)) (ha : a ≤ m) (hm : m ≤ 100) : wm t d rt (f_X12_roomFor 369 (a : Int) mz (mm t d rt I)) (fun _ J => (a < m ∧ i < 400 ∧ J = up I 369 11 ((i : Int) + 1) ∧ rdM K V ps J (i + 1)) ∨ (¬ (a < m ∧ i < 400) ∧ J = flI ps I 2 i ∧ fltM ps J 2 i)) := by
  rw [hz]
  unfold f_X12_roomFor
  have e13 := hR.2.2.1
  by_cases c : a < m
  · (repeat (first | (with_reducible apply wm_o; focus (simp (disch := omega) only [wr_id, Int.toNat_natCast, Int.reduceToNat, tn_lk, tn_kl, if_pos, if_neg, ↓reduceIte, and_self, and_true, true_and, FM, e13]; with_reducible rfl)) | (with_reducible apply wm_q) | (with_reducible apply wm_c; focus (first | assumption | decide +kernel)) | (with_reducible apply wm_d; focus (simp (disch := omega) only [wr_id, Int.toNat_natCast, Int.reduceToNat, tn_lk, tn_kl, if_pos, if_neg, ↓reduceIte, and_self, and_true, true_and, FM, e13]; with_reducible rfl)) | (with_reducible apply wm_t; focus (first | omega | (simp (disch := omega) only [wr_id, FM, e13]; omega) | (simp (disch := omega) only [wr_id, FM, e13]; done))) | (with_reducible apply wm_f; focus (first | omega | (simp (disch := omega) only [wr_id, FM, e13]; omega) | (simp (disch := omega) only [wr_id, FM, e13]; done)))))
    refine wm_b (w_goesOn hR hK) (fun r X hX => ?_)
    rcases hX with ⟨_, ⟨b1, rfl, b2⟩ | ⟨b1, rfl, b2⟩⟩
    · exact wm_r (Or.inl ⟨c, b1, rfl, b2⟩)
    · exact wm_r (Or.inr ⟨fun q => b1 q.2, rfl, b2⟩)
  · have fl := q_fail (t := t) (d := d) (rt := rt) hR (c := 2) (z := 2) rfl
    have F := flI_ok hR (c := 2) (Or.inr rfl)
    have f13 : flI ps I 2 i 369 13 = 2 := F.2.1
    (repeat (first | (with_reducible apply wm_o; focus (simp (disch := omega) only [wr_id, Int.toNat_natCast, Int.reduceToNat, tn_lk, tn_kl, if_pos, if_neg, ↓reduceIte, and_self, and_true, true_and, FM, fl, f13]; with_reducible rfl)) | (with_reducible apply wm_q) | (with_reducible apply wm_c; focus (first | assumption | decide +kernel)) | (with_reducible apply wm_d; focus (simp (disch := omega) only [wr_id, Int.toNat_natCast, Int.reduceToNat, tn_lk, tn_kl, if_pos, if_neg, ↓reduceIte, and_self, and_true, true_and, FM, fl, f13]; with_reducible rfl)) | (with_reducible apply wm_t; focus (first | omega | (simp (disch := omega) only [wr_id, FM, fl, f13]; omega) | (simp (disch := omega) only [wr_id, FM, fl, f13]; done))) | (with_reducible apply wm_f; focus (first | omega | (simp (disch := omega) only [wr_id, FM, fl, f13]; omega) | (simp (disch := omega) only [wr_id, FM, fl, f13]; done)))))
    exact wm_r (Or.inr ⟨fun q => c q.1, rfl, F⟩)
end RF
