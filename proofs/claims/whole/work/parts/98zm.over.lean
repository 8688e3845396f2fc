/-! ===== the class starts over with a text ===== -/
def soS : Nat → Prop := fun a => (34 ≤ a ∧ a ≤ 39) ∨ a = 46 ∨ a = 307 ∨ a = 308 ∨ (311 ≤ a ∧ a ≤ 314) ∨ (316 ≤ a ∧ a ≤ 322)
section SO
variable {t d rt : Nat} {I J : Nat → Nat → Int} {w h n nh : Nat} {hl : Nat → Bool} {sd : Int} {ifs : Nat → List LwI} {xs : Nat → List CI}
theorem w_startOver (sq : sqOK w h n nh hl) (c : cfC I t w h n nh hl sd ifs xs) {m : Nat} {sx sy sw : Nat → Int} {W : Nat → Bool} (h4 : I t 4 = (m : Int)) (hS : ∀ i, i < m → I (t + 3) i = sx i ∧ I (t + 4) i = sy i ∧ I (t + 5) i = sw i) (hrg : ∀ i, i < m → 0 ≤ sx i ∧ 0 ≤ sy i ∧ 0 ≤ sw i ∧ sw i ≤ 1) (hm : mkS w h sx sy sw hl m = some W) (hm18 : m ≤ 18) (h3 : ∀ k, k < 18 → I 36 k = 0 ∨ I 36 k = 1) (h12 : ∀ x, x < 64 → I 323 x = (oddR x : Int)) : wm t d rt (f_X11_startOver 0 (mm t d rt I)) (fun _ J => frm soS I J ∧ stR J 34 w (rwS w sx sy sw m) ∧ J 46 4 = 0 ∧ J 46 3 = I 46 3 ∧ (∀ i, i < 3 → J 307 i = 0) ∧ J 308 2 = 0 ∧ rCfg J 311 w h hl noB noB ∧ wyR J 311 w h hl noB noB) := by
  have c' := c
  have sq' := sq
  obtain ⟨c1, c2, c3, c4, c5, c6, c7⟩ := c'
  obtain ⟨s1, s2, s3, s4, s5, s6, s7, s8, s9⟩ := sq'
  have kt := (tx_k c1).1
  have kt2 := tx_k c1
  have ht : t = 3 ∨ t = 16 := by simpa using c1
  unfold f_X11_startOver
  (repeat (first | (with_reducible apply wm_o; focus (simp (disch := omega) only [wr_id, Int.toNat_natCast, Int.reduceToNat, tn_lk, tn_kl, if_pos, if_neg, ↓reduceIte, and_self, and_true, true_and, FX, FText c1, c2]; with_reducible rfl)) | (with_reducible apply wm_q) | (with_reducible apply wm_c; focus (first | assumption | decide +kernel)) | (with_reducible apply wm_d; focus (simp (disch := omega) only [wr_id, Int.toNat_natCast, Int.reduceToNat, tn_lk, tn_kl, if_pos, if_neg, ↓reduceIte, and_self, and_true, true_and, FX, FText c1, c2]; with_reducible rfl)) | (with_reducible apply wm_t; focus (first | omega | (simp (disch := omega) only [wr_id, FX, FText c1, c2]; omega) | (simp (disch := omega) only [wr_id, FX, FText c1, c2]; done))) | (with_reducible apply wm_f; focus (first | omega | (simp (disch := omega) only [wr_id, FX, FText c1, c2]; omega) | (simp (disch := omega) only [wr_id, FX, FText c1, c2]; done)))))
  refine wm_b (w_clear (w := w) now_in h3) (fun r J1 hJ1 => ?_)
  obtain ⟨f1, g1⟩ := hJ1
  refine wm_lp2 18 (fun i y J => y = (i : Int) ∧ i ≤ m ∧ frm (stF 34) I J ∧ stR J 34 w (rwS w sx sy sw i)) ?_ (jfuel_n (by decide)) ⟨rfl, Nat.zero_le _, f1, by rw [rwS_0]; exact g1⟩
  clear f1 g1 J1
  rintro i hi y J ⟨rfl, him, f1, g1⟩ rec hrec
  have e : ∀ a, a < 34 → J a = I a := fun a ha => f1 a (by unfold stF; omega)
  have j0 : J t 0 = (w : Int) := by rw [e t (by omega)]; exact c2
  have j4 : J t 4 = (m : Int) := by rw [e t (by omega)]; exact h4
  by_cases ci : i < m
  · obtain ⟨u1, u2, u3⟩ := hS i ci
    obtain ⟨v1, v2, v3, v4⟩ := hrg i ci
    rw [← e (t + 3) (by omega)] at u1
    rw [← e (t + 4) (by omega)] at u2
    rw [← e (t + 5) (by omega)] at u3
    obtain ⟨W1, e1⟩ := mkS_pre hm (show i + 1 ≤ m by omega)
    obtain ⟨W0, e0⟩ := mkS_pre hm (show i ≤ m by omega)
    have ok1 := mkS_ok (n := n) ⟨s1, s2⟩ s4 s5 (i + 1) W1 (by omega) (fun j hj => hrg j (by omega)) e1
    have ok0 := mkS_ok (n := n) ⟨s1, s2⟩ s4 s5 i W0 (by omega) (fun j hj => hrg j (by omega)) e0
    obtain ⟨cc, hc, hc36⟩ := ok1.2.2 i (by omega)
    have rs := rwS_s (w := w) (sx := sx) (sy := sy) (sw := sw) (m := i) (by omega) hc
    have k0 := rwS_k (w := w) (sx := sx) (sy := sy) (sw := sw) (m := i) (by omega)
    have put : ∀ f : Int, (f = 1 ∧ sw i = 0) ∨ (f = 0 ∧ sw i = 1) → wm t d rt (jbd (f_X6_put 34 (i : Int) ((w : Int) * sy i + sx i) f (mm t d rt J)) fun _ M21 => rec ((i : Int) + 1) M21) (fun _ J => frm soS I J ∧ stR J 34 w (rwS w sx sy sw m) ∧ J 46 4 = 0 ∧ J 46 3 = I 46 3 ∧ (∀ i, i < 3 → J 307 i = 0) ∧ J 308 2 = 0 ∧ rCfg J 311 w h hl noB noB ∧ wyR J 311 w h hl noB noB) := by
      intro f hf
      rw [hc]
      refine wm_b (w_put (h' := h) now_in ⟨s1, s2⟩ s7 s5 ok0.1 g1 (show i < 18 by omega) k0 hf (by rw [rs]; exact ok1.1)) (fun r J2 hJ2 => ?_)
      obtain ⟨f2, g2⟩ := hJ2
      rw [rs] at g2
      exact hrec (i + 1) _ _ (by omega) (by omega) ⟨by omega, by omega, frm_trans f1 f2, g2⟩
    by_cases z : sw i = 0
    · rw [z] at u3
      (repeat (first | (with_reducible apply wm_o; focus (simp (disch := omega) only [wr_id, Int.toNat_natCast, Int.reduceToNat, tn_lk, tn_kl, if_pos, if_neg, ↓reduceIte, and_self, and_true, true_and, FX, FText c1, j0, j4, u1, u2, u3]; with_reducible rfl)) | (with_reducible apply wm_q) | (with_reducible apply wm_c; focus (first | assumption | decide +kernel)) | (with_reducible apply wm_d; focus (simp (disch := omega) only [wr_id, Int.toNat_natCast, Int.reduceToNat, tn_lk, tn_kl, if_pos, if_neg, ↓reduceIte, and_self, and_true, true_and, FX, FText c1, j0, j4, u1, u2, u3]; with_reducible rfl)) | (with_reducible apply wm_t; focus (first | omega | (simp (disch := omega) only [wr_id, FX, FText c1, j0, j4, u1, u2, u3]; omega) | (simp (disch := omega) only [wr_id, FX, FText c1, j0, j4, u1, u2, u3]; done))) | (with_reducible apply wm_f; focus (first | omega | (simp (disch := omega) only [wr_id, FX, FText c1, j0, j4, u1, u2, u3]; omega) | (simp (disch := omega) only [wr_id, FX, FText c1, j0, j4, u1, u2, u3]; done)))))
      exact put 1 (Or.inl ⟨rfl, z⟩)
    · have z1 : sw i = 1 := by omega
      rw [z1] at u3
      (repeat (first | (with_reducible apply wm_o; focus (simp (disch := omega) only [wr_id, Int.toNat_natCast, Int.reduceToNat, tn_lk, tn_kl, if_pos, if_neg, ↓reduceIte, and_self, and_true, true_and, FX, FText c1, j0, j4, u1, u2, u3]; with_reducible rfl)) | (with_reducible apply wm_q) | (with_reducible apply wm_c; focus (first | assumption | decide +kernel)) | (with_reducible apply wm_d; focus (simp (disch := omega) only [wr_id, Int.toNat_natCast, Int.reduceToNat, tn_lk, tn_kl, if_pos, if_neg, ↓reduceIte, and_self, and_true, true_and, FX, FText c1, j0, j4, u1, u2, u3]; with_reducible rfl)) | (with_reducible apply wm_t; focus (first | omega | (simp (disch := omega) only [wr_id, FX, FText c1, j0, j4, u1, u2, u3]; omega) | (simp (disch := omega) only [wr_id, FX, FText c1, j0, j4, u1, u2, u3]; done))) | (with_reducible apply wm_f; focus (first | omega | (simp (disch := omega) only [wr_id, FX, FText c1, j0, j4, u1, u2, u3]; omega) | (simp (disch := omega) only [wr_id, FX, FText c1, j0, j4, u1, u2, u3]; done)))))
      exact put 0 (Or.inr ⟨rfl, z1⟩)
  have ei : i = m := by omega
  subst ei
  (repeat (first | (with_reducible apply wm_o; focus (simp (disch := omega) only [wr_id, Int.toNat_natCast, Int.reduceToNat, tn_lk, tn_kl, if_pos, if_neg, ↓reduceIte, and_self, and_true, true_and, FX, FText c1, j4]; with_reducible rfl)) | (with_reducible apply wm_q) | (with_reducible apply wm_c; focus (first | assumption | decide +kernel)) | (with_reducible apply wm_d; focus (simp (disch := omega) only [wr_id, Int.toNat_natCast, Int.reduceToNat, tn_lk, tn_kl, if_pos, if_neg, ↓reduceIte, and_self, and_true, true_and, FX, FText c1, j4]; with_reducible rfl)) | (with_reducible apply wm_t; focus (first | omega | (simp (disch := omega) only [wr_id, FX, FText c1, j4]; omega) | (simp (disch := omega) only [wr_id, FX, FText c1, j4]; done))) | (with_reducible apply wm_f; focus (first | omega | (simp (disch := omega) only [wr_id, FX, FText c1, j4]; omega) | (simp (disch := omega) only [wr_id, FX, FText c1, j4]; done)))))
  refine wm_b w_kclear (fun r J2 hJ2 => ?_)
  obtain ⟨f2, a1, a2, a3⟩ := hJ2
  (repeat (first | (with_reducible apply wm_o; focus (simp (disch := omega) only [wr_id, Int.toNat_natCast, Int.reduceToNat, tn_lk, tn_kl, if_pos, if_neg, ↓reduceIte, and_self, and_true, true_and, FX, FTold]; with_reducible rfl)) | (with_reducible apply wm_q) | (with_reducible apply wm_c; focus (first | assumption | decide +kernel)) | (with_reducible apply wm_d; focus (simp (disch := omega) only [wr_id, Int.toNat_natCast, Int.reduceToNat, tn_lk, tn_kl, if_pos, if_neg, ↓reduceIte, and_self, and_true, true_and, FX, FTold]; with_reducible rfl)) | (with_reducible apply wm_t; focus (first | omega | (simp (disch := omega) only [wr_id, FX, FTold]; omega) | (simp (disch := omega) only [wr_id, FX, FTold]; done))) | (with_reducible apply wm_f; focus (first | omega | (simp (disch := omega) only [wr_id, FX, FTold]; omega) | (simp (disch := omega) only [wr_id, FX, FTold]; done)))))
  generalize eJ3 : up J2 308 2 0 = J3
  have r3 : ∀ a, a ≠ 308 → J3 a = J2 a := fun a ha => by rw [← eJ3, up_ne ha]
  have b308 : J3 308 2 = 0 := by rw [← eJ3, up_s]
  clear eJ3
  have e3 : ∀ a, a ≠ 308 → a ≠ 46 → a ≠ 307 → ¬ (34 ≤ a ∧ a ≤ 39) → J3 a = I a := fun a n1 n2 n3 n4 => by rw [r3 a n1, f2 a (by omega), f1 a (by unfold stF; omega)]
  have cJ : cfC J3 t w h n nh hl sd ifs xs := cfC_frm (S := fun a => 34 ≤ a) (fun a ha => e3 a (by omega) (by omega) (by omega) (by omega)) (fun a a1 a2 => by omega) c
  refine wm_b (w_begin (r := 311) (by decide) sq cJ (fun x hx => by rw [e3 323 (by decide) (by decide) (by decide) (by decide)]; exact h12 x hx)) (fun r J4 hJ4 => ?_)
  obtain ⟨f4, g4⟩ := hJ4
  (repeat (first | (with_reducible apply wm_o; focus (simp (disch := omega) only [wr_id, Int.toNat_natCast, Int.reduceToNat, tn_lk, tn_kl, if_pos, if_neg, ↓reduceIte, and_self, and_true, true_and, FX]; with_reducible rfl)) | (with_reducible apply wm_q) | (with_reducible apply wm_c; focus (first | assumption | decide +kernel)) | (with_reducible apply wm_d; focus (simp (disch := omega) only [wr_id, Int.toNat_natCast, Int.reduceToNat, tn_lk, tn_kl, if_pos, if_neg, ↓reduceIte, and_self, and_true, true_and, FX]; with_reducible rfl)) | (with_reducible apply wm_t; focus (first | omega | (simp (disch := omega) only [wr_id, FX]; omega) | (simp (disch := omega) only [wr_id, FX]; done))) | (with_reducible apply wm_f; focus (first | omega | (simp (disch := omega) only [wr_id, FX]; omega) | (simp (disch := omega) only [wr_id, FX]; done)))))
  refine wm_b (w_countWays (r := 311) (by decide) g4 (fun x hx => by cases hx)) (fun r J5 hJ5 => ?_)
  obtain ⟨f5, g5, g6⟩ := hJ5
  have e5 : ∀ a, ¬ (311 ≤ a ∧ a ≤ 314) → ¬ (316 ≤ a ∧ a ≤ 322) → J5 a = J3 a := fun a n1 n2 => by rw [f5 a (by omega), f4 a (by omega)]
  refine wm_r ⟨fun a ha => ?_, ?_, ?_, ?_, fun i hi => ?_, ?_, g5, g6⟩
  · unfold soS at ha
    rw [e5 a (by omega) (by omega), e3 a (by omega) (by omega) (by omega) (by omega)]
  · refine stR_frm (S := fun a => ¬ (34 ≤ a ∧ a ≤ 39)) (fun a ha => ?_) (fun a a1 a2 => by omega) g1
    have ha' : 34 ≤ a ∧ a ≤ 39 := by omega
    rw [e5 a (by omega) (by omega), r3 a (by omega), f2 a (by omega)]
  · rw [e5 46 (by decide) (by decide), r3 46 (by decide)]; exact a1
  · rw [e5 46 (by decide) (by decide), r3 46 (by decide), a2, f1 46 (by unfold stF; omega)]
  · rw [e5 307 (by decide) (by decide), r3 307 (by decide)]; exact a3 i hi
  · rw [e5 308 (by decide) (by decide)]; exact b308
end SO
