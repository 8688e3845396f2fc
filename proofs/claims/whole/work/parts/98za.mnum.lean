/-! ===== the model reads a number ===== -/
def wrM (ps : Nat → Nat) (I : Nat → Nat → Int) (i : Nat) : Option Nat → Prop
  | none => I 369 15 = 0
  | some q => I 369 15 = 5 ∧ I 369 16 = (ps q : Int) ∧ q ≤ i
def nuT : Nat → Prop := fun j => j = 11 ∨ j = 13 ∨ j = 14 ∨ j = 15 ∨ j = 16
section MN
variable {t d rt : Nat} {I J : Nat → Nat → Int} {K : Nat → Nat} {V : Nat → Int} {ps : Nat → Nat} {i : Nat} {wr : Option Nat}
theorem w_wrong (hv : kvOK K V ps) (hm : ∀ a b, a ≤ b → ps a ≤ ps b) (hR : rdM K V ps I i) (hw : wrM ps I i wr) : wm t d rt (f_X12_wrong 369 5 (i : Int) (mm t d rt I)) (fun _ J => frM (fun _ => False) (fun j => j = 15 ∨ j = 16) I J ∧ wrM ps J i (if wr = none then some i else wr)) := by
  obtain ⟨h1, h2, h3, h4, h5⟩ := hR
  have e := (h1 i h4 h5).2.1
  have pb := (hv i).2.1
  unfold f_X12_wrong
  cases wr with
  | none =>
    have hw : I 369 15 = 0 := hw
    rw [if_pos rfl]
    (repeat (first | (with_reducible apply wm_o; focus (simp (disch := omega) only [wr_id, Int.toNat_natCast, Int.reduceToNat, tn_lk, tn_kl, if_pos, if_neg, ↓reduceIte, and_self, and_true, true_and, FM, e, h3, hw]; with_reducible rfl)) | (with_reducible apply wm_q) | (with_reducible apply wm_c; focus (first | assumption | decide +kernel)) | (with_reducible apply wm_d; focus (simp (disch := omega) only [wr_id, Int.toNat_natCast, Int.reduceToNat, tn_lk, tn_kl, if_pos, if_neg, ↓reduceIte, and_self, and_true, true_and, FM, e, h3, hw]; with_reducible rfl)) | (with_reducible apply wm_t; focus (first | omega | (simp (disch := omega) only [wr_id, FM, e, h3, hw]; omega) | (simp (disch := omega) only [wr_id, FM, e, h3, hw]; done))) | (with_reducible apply wm_f; focus (first | omega | (simp (disch := omega) only [wr_id, FM, e, h3, hw]; omega) | (simp (disch := omega) only [wr_id, FM, e, h3, hw]; done)))))
    refine wm_r ⟨frM_fd (frM_fd (frM_refl _ _ _) (Or.inl rfl)) (Or.inr rfl), ?_, up_s _ _ _ _, Nat.le_refl _⟩
    rw [up_g, if_neg (by decide), up_s]
  | some q =>
    obtain ⟨w1, w2, w3⟩ := hw
    have qb := (hv q).2.1
    have mq := hm q i w3
    rw [if_neg (by simp)]
    by_cases c : ps i = ps q
    · (repeat (first | (with_reducible apply wm_o; focus (simp (disch := omega) only [wr_id, Int.toNat_natCast, Int.reduceToNat, tn_lk, tn_kl, if_pos, if_neg, ↓reduceIte, and_self, and_true, true_and, FM, e, h3, w1, w2]; with_reducible rfl)) | (with_reducible apply wm_q) | (with_reducible apply wm_c; focus (first | assumption | decide +kernel)) | (with_reducible apply wm_d; focus (simp (disch := omega) only [wr_id, Int.toNat_natCast, Int.reduceToNat, tn_lk, tn_kl, if_pos, if_neg, ↓reduceIte, and_self, and_true, true_and, FM, e, h3, w1, w2]; with_reducible rfl)) | (with_reducible apply wm_t; focus (first | omega | (simp (disch := omega) only [wr_id, FM, e, h3, w1, w2]; omega) | (simp (disch := omega) only [wr_id, FM, e, h3, w1, w2]; done))) | (with_reducible apply wm_f; focus (first | omega | (simp (disch := omega) only [wr_id, FM, e, h3, w1, w2]; omega) | (simp (disch := omega) only [wr_id, FM, e, h3, w1, w2]; done)))))
      exact wm_r ⟨frM_refl _ _ _, w1, w2, w3⟩
    · (repeat (first | (with_reducible apply wm_o; focus (simp (disch := omega) only [wr_id, Int.toNat_natCast, Int.reduceToNat, tn_lk, tn_kl, if_pos, if_neg, ↓reduceIte, and_self, and_true, true_and, FM, e, h3, w1, w2]; with_reducible rfl)) | (with_reducible apply wm_q) | (with_reducible apply wm_c; focus (first | assumption | decide +kernel)) | (with_reducible apply wm_d; focus (simp (disch := omega) only [wr_id, Int.toNat_natCast, Int.reduceToNat, tn_lk, tn_kl, if_pos, if_neg, ↓reduceIte, and_self, and_true, true_and, FM, e, h3, w1, w2]; with_reducible rfl)) | (with_reducible apply wm_t; focus (first | omega | (simp (disch := omega) only [wr_id, FM, e, h3, w1, w2]; omega) | (simp (disch := omega) only [wr_id, FM, e, h3, w1, w2]; done))) | (with_reducible apply wm_f; focus (first | omega | (simp (disch := omega) only [wr_id, FM, e, h3, w1, w2]; omega) | (simp (disch := omega) only [wr_id, FM, e, h3, w1, w2]; done)))))
      exact wm_r ⟨frM_refl _ _ _, w1, w2, w3⟩
theorem w_bounded (hk : ∀ i, kR (K i)) (hv : kvOK K V ps) (hm : ∀ a b, a ≤ b → ps a ≤ ps b) (hR : rdM K V ps I i) (hw : wrM ps I i wr) {lo hi : Int} (h1 : 0 ≤ lo ∧ lo ≤ 9999) (h2 : 0 ≤ hi ∧ hi ≤ 9999) : wm t d rt (f_X12_bounded 369 lo hi (mm t d rt I)) (fun r J => frM (fun _ => False) nuT I J ∧ ((∃ wr', numR K V lo hi i wr = eok (i + 1) wr' ∧ r = V i ∧ rdM K V ps J (i + 1) ∧ wrM ps J (i + 1) wr') ∨ (∃ c q, numR K V lo hi i wr = efl c q ∧ fltM ps J c q))) := by
  have hR' := hR
  obtain ⟨a1, a2, a3, a4, a5⟩ := hR
  have x := q_is (t := t) (d := d) (rt := rt) hk hR' (j := 3) (z := 2) rfl (Or.inl (by decide))
  unfold f_X12_bounded
  by_cases c : K i = 3
  · rw [if_pos c] at x
    have ev := (a1 i a4 a5).2.2 c
    obtain ⟨v1, v2⟩ := (hv i).2.2 c
    have tail : ∀ X, frM (fun _ => False) nuT I X → rdM K V ps X i → wrM ps X i (wrN V lo hi i wr) → wm t d rt (jbd (f_X12_goesOn 369 (mm t d rt X)) fun _ M10 => some (V i, M10)) (fun r J => frM (fun _ => False) nuT I J ∧ ((∃ wr', numR K V lo hi i wr = eok (i + 1) wr' ∧ r = V i ∧ rdM K V ps J (i + 1) ∧ wrM ps J (i + 1) wr') ∨ (∃ c q, numR K V lo hi i wr = efl c q ∧ fltM ps J c q))) := by
      intro X f1 r1 w1
      refine wm_b (w_goesOn r1 (by omega)) (fun r Y hY => ?_)
      unfold numR
      rw [if_pos c]
      rcases hY with ⟨_, ⟨b1, rfl, b2⟩ | ⟨b1, rfl, b2⟩⟩
      · rw [if_pos b1]
        refine wm_r ⟨frM_fd f1 (Or.inl rfl), Or.inl ⟨_, rfl, rfl, b2, ?_⟩⟩
        generalize wrN V lo hi i wr = wz at w1
        cases wz with
        | none =>
          show up X 369 11 ((i : Int) + 1) 369 15 = 0
          rw [up_g, if_neg (by decide)]; exact w1
        | some q =>
          obtain ⟨z1, z2, z3⟩ := w1
          exact ⟨by rw [up_g, if_neg (by decide)]; exact z1, by rw [up_g, if_neg (by decide)]; exact z2, by omega⟩
      · rw [if_neg b1]
        exact wm_r ⟨frM_trans f1 (flI_frm (by unfold nuT; omega) (by unfold nuT; omega)), Or.inr ⟨2, i, rfl, b2⟩⟩
    have bad : (V i < lo ∨ hi < V i) → wm t d rt (jbd (f_X12_wrong 369 5 (i : Int) (mm t d rt I)) fun _ M13 => jcall 12 M13 369 (f_X12_goesOn 369 M13) fun _ M10 => some (V i, M10)) (fun r J => frM (fun _ => False) nuT I J ∧ ((∃ wr', numR K V lo hi i wr = eok (i + 1) wr' ∧ r = V i ∧ rdM K V ps J (i + 1) ∧ wrM ps J (i + 1) wr') ∨ (∃ c q, numR K V lo hi i wr = efl c q ∧ fltM ps J c q))) := by
      intro cc
      refine wm_b (w_wrong hv hm hR' hw) (fun r Y hY => ?_)
      obtain ⟨g1, g2⟩ := hY
      refine wm_c (by decide +kernel) (tail Y (frM_sub g1 (fun a h => h) (fun a h => by unfold nuT; omega)) (rd_frM g1 (fun a _ _ h => h) (by decide) (by decide) hR') ?_)
      have e : wrN V lo hi i wr = if wr = none then some i else wr := by
        unfold wrN
        by_cases z : wr = none
        · rw [if_pos ⟨z, cc⟩, if_pos z]
        · rw [if_neg (fun q => z q.1), if_neg z]
      rw [e]; exact g2
    by_cases c1 : V i < lo
    · (repeat (first | (with_reducible apply wm_o; focus (simp (disch := omega) only [wr_id, Int.toNat_natCast, Int.reduceToNat, tn_lk, tn_kl, if_pos, if_neg, ↓reduceIte, and_self, and_true, true_and, FM, a3, x, a2, ev]; with_reducible rfl)) | (with_reducible apply wm_q) | (with_reducible apply wm_c; focus (first | assumption | decide +kernel)) | (with_reducible apply wm_d; focus (simp (disch := omega) only [wr_id, Int.toNat_natCast, Int.reduceToNat, tn_lk, tn_kl, if_pos, if_neg, ↓reduceIte, and_self, and_true, true_and, FM, a3, x, a2, ev]; with_reducible rfl)) | (with_reducible apply wm_t; focus (first | omega | (simp (disch := omega) only [wr_id, FM, a3, x, a2, ev]; omega) | (simp (disch := omega) only [wr_id, FM, a3, x, a2, ev]; done))) | (with_reducible apply wm_f; focus (first | omega | (simp (disch := omega) only [wr_id, FM, a3, x, a2, ev]; omega) | (simp (disch := omega) only [wr_id, FM, a3, x, a2, ev]; done)))))
      exact bad (Or.inl c1)
    · by_cases c2 : V i ≤ hi
      · (repeat (first | (with_reducible apply wm_o; focus (simp (disch := omega) only [wr_id, Int.toNat_natCast, Int.reduceToNat, tn_lk, tn_kl, if_pos, if_neg, ↓reduceIte, and_self, and_true, true_and, FM, a3, x, a2, ev]; with_reducible rfl)) | (with_reducible apply wm_q) | (with_reducible apply wm_c; focus (first | assumption | decide +kernel)) | (with_reducible apply wm_d; focus (simp (disch := omega) only [wr_id, Int.toNat_natCast, Int.reduceToNat, tn_lk, tn_kl, if_pos, if_neg, ↓reduceIte, and_self, and_true, true_and, FM, a3, x, a2, ev]; with_reducible rfl)) | (with_reducible apply wm_t; focus (first | omega | (simp (disch := omega) only [wr_id, FM, a3, x, a2, ev]; omega) | (simp (disch := omega) only [wr_id, FM, a3, x, a2, ev]; done))) | (with_reducible apply wm_f; focus (first | omega | (simp (disch := omega) only [wr_id, FM, a3, x, a2, ev]; omega) | (simp (disch := omega) only [wr_id, FM, a3, x, a2, ev]; done)))))
        have e : wrN V lo hi i wr = wr := by
          unfold wrN
          rw [if_neg (fun q => by omega)]
        exact tail I (frM_refl _ _ _) hR' (by rw [e]; exact hw)
      · (repeat (first | (with_reducible apply wm_o; focus (simp (disch := omega) only [wr_id, Int.toNat_natCast, Int.reduceToNat, tn_lk, tn_kl, if_pos, if_neg, ↓reduceIte, and_self, and_true, true_and, FM, a3, x, a2, ev]; with_reducible rfl)) | (with_reducible apply wm_q) | (with_reducible apply wm_c; focus (first | assumption | decide +kernel)) | (with_reducible apply wm_d; focus (simp (disch := omega) only [wr_id, Int.toNat_natCast, Int.reduceToNat, tn_lk, tn_kl, if_pos, if_neg, ↓reduceIte, and_self, and_true, true_and, FM, a3, x, a2, ev]; with_reducible rfl)) | (with_reducible apply wm_t; focus (first | omega | (simp (disch := omega) only [wr_id, FM, a3, x, a2, ev]; omega) | (simp (disch := omega) only [wr_id, FM, a3, x, a2, ev]; done))) | (with_reducible apply wm_f; focus (first | omega | (simp (disch := omega) only [wr_id, FM, a3, x, a2, ev]; omega) | (simp (disch := omega) only [wr_id, FM, a3, x, a2, ev]; done)))))
        exact bad (Or.inr (by omega))
  · rw [if_neg c] at x
    have fl := q_fail (t := t) (d := d) (rt := rt) hR' (c := 1) (z := 1) rfl
    unfold numR
    rw [if_neg c]
    (repeat (first | (with_reducible apply wm_o; focus (simp (disch := omega) only [wr_id, Int.toNat_natCast, Int.reduceToNat, tn_lk, tn_kl, if_pos, if_neg, ↓reduceIte, and_self, and_true, true_and, FM, a3, x, fl]; with_reducible rfl)) | (with_reducible apply wm_q) | (with_reducible apply wm_c; focus (first | assumption | decide +kernel)) | (with_reducible apply wm_d; focus (simp (disch := omega) only [wr_id, Int.toNat_natCast, Int.reduceToNat, tn_lk, tn_kl, if_pos, if_neg, ↓reduceIte, and_self, and_true, true_and, FM, a3, x, fl]; with_reducible rfl)) | (with_reducible apply wm_t; focus (first | omega | (simp (disch := omega) only [wr_id, FM, a3, x, fl]; omega) | (simp (disch := omega) only [wr_id, FM, a3, x, fl]; done))) | (with_reducible apply wm_f; focus (first | omega | (simp (disch := omega) only [wr_id, FM, a3, x, fl]; omega) | (simp (disch := omega) only [wr_id, FM, a3, x, fl]; done)))))
    exact wm_r ⟨flI_frm (by unfold nuT; omega) (by unfold nuT; omega), Or.inr ⟨1, i, rfl, flI_ok hR' (Or.inl rfl)⟩⟩
theorem w_boundedF {c q : Nat} (hF : fltM ps I c q) {lo hi : Int} : f_X12_bounded 369 lo hi (mm t d rt I) = some (lo, mm t d rt I) := by
  have fl := q_failF (t := t) (d := d) (rt := rt) hF (z := 1)
  obtain ⟨d1, d2, d3, s, d4, d5⟩ := hF
  apply wm_eq
  unfold f_X12_bounded
  (repeat (first | (with_reducible apply wm_o; focus (simp (disch := omega) only [wr_id, Int.toNat_natCast, Int.reduceToNat, tn_lk, tn_kl, if_pos, if_neg, ↓reduceIte, and_self, and_true, true_and, FM, d2, fl]; with_reducible rfl)) | (with_reducible apply wm_q) | (with_reducible apply wm_c; focus (first | assumption | decide +kernel)) | (with_reducible apply wm_d; focus (simp (disch := omega) only [wr_id, Int.toNat_natCast, Int.reduceToNat, tn_lk, tn_kl, if_pos, if_neg, ↓reduceIte, and_self, and_true, true_and, FM, d2, fl]; with_reducible rfl)) | (with_reducible apply wm_t; focus (first | omega | (simp (disch := omega) only [wr_id, FM, d2, fl]; omega) | (simp (disch := omega) only [wr_id, FM, d2, fl]; done))) | (with_reducible apply wm_f; focus (first | omega | (simp (disch := omega) only [wr_id, FM, d2, fl]; omega) | (simp (disch := omega) only [wr_id, FM, d2, fl]; done)))))
  exact wm_r ⟨rfl, rfl⟩
end MN
