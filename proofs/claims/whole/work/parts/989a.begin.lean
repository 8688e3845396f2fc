/-! ===== the class's rows: begin, bind ===== -/
theorem mkM_no : ∀ j : Nat, mkM j (fun _ => false) = 0
  | 0 => rfl
  | j + 1 => by rw [mkM, mkM_no j]; rfl
theorem rwM_no (w y : Nat) : rwM w noB y = 0 := mkM_no w
theorem clM_no (w h y : Nat) : clM w h noB y = if y < h then 0 else 2 ^ w - 1 := by unfold clM; rw [rwM_no]
theorem tlM_no (w h y : Nat) : tlM w h noB y = 0 := by
  unfold tlM
  rw [rwM_no]
  split <;> rfl
theorem tlM_add {w h : Nat} {f : Nat → Bool} {c y : Nat} (hw : 0 < w) (hc : c < w * h) : tlM w h (clAdd f c) y = if y = c / w then tlM w h f y ||| 2 ^ (w - 1 - c % w) else tlM w h f y := by
  have hdy : c / w < h := Nat.div_lt_of_lt_mul hc
  apply Nat.eq_of_testBit_eq
  intro i
  by_cases e : y = c / w
  · rw [if_pos e, Nat.testBit_or, tlM_tb, tlM_tb, Nat.testBit_two_pow]
    by_cases hi : i < w
    · have q := clB_eq (w := w) (y := y) (i := i) (c := c) hi
      unfold clAdd
      have hh : y < h := by omega
      by_cases z : i = w - 1 - c % w
      · have z2 := q.mpr ⟨e, z⟩
        simp [hi, hh, z2, z.symm]
      · have z2 : ¬ clB w y i = c := fun k => z (q.mp k).2
        have z3 : ¬ w - 1 - c % w = i := fun k => z k.symm
        simp [hi, hh, z2, z3]
    · have z3 : ¬ w - 1 - c % w = i := by omega
      simp [hi, z3]
  · rw [if_neg e, tlM_tb, tlM_tb]
    by_cases hi : i < w
    · have q := clB_eq (w := w) (y := y) (i := i) (c := c) hi
      have z2 : ¬ clB w y i = c := fun k => e (q.mp k).1
      unfold clAdd
      simp [z2]
    · simp [hi]
section BG
variable {t d rt : Nat} {I : Nat → Nat → Int} {r w h n nh : Nat} {cl na nd hl : Nat → Bool} {sd : Int} {ifs : Nat → List LwI} {xs : Nat → List CI}
theorem rm_ge (hrm : r ∈ [311, 324]) : r = 311 ∨ r = 324 := by simpa using hrm
theorem w_begin (hrm : r ∈ [311, 324]) (sq : sqOK w h n nh hl) (c : cfC I t w h n nh hl sd ifs xs) (h12 : ∀ m, m < 64 → I (r + 12) m = (oddR m : Int)) : wm t d rt (f_X4_begin r t (mm t d rt I)) (fun _ J => frm (fun a => r ≤ a ∧ a ≤ r + 3) I J ∧ rCfg J r w h hl noB noB) := by
  have htx := c.1
  have kt := (tx_k htx).1
  have kb := (tx_k htx).2.2.2
  have kr : (K0 r).1 = 4 ∧ r < 418 := ⟨(FRows_k r hrm).1, (FRows_k r hrm).2.1⟩
  have hr0 := rm_ge hrm
  have sq' := sq
  obtain ⟨s1, s2, s3, s4, s5, s6, s7, s8, s9⟩ := sq
  have c2 := c.2.1
  have c3 := c.2.2.1
  have hp := Nat.two_pow_pos w
  have hp6 : 2 ^ w ≤ 2 ^ 6 := Nat.pow_le_pow_right (by decide) s2
  have esh : jd_shl 1 (w : Int) - 1 = ((2 ^ w - 1 : Nat) : Int) := by rw [shl_1 w (by omega), Nat.one_shiftLeft]; omega
  unfold f_X4_begin
  (repeat (first | (with_reducible apply wm_o; focus (simp (disch := omega) only [wr_id, Int.toNat_natCast, Int.reduceToNat, tn_lk, tn_kl, if_pos, if_neg, ↓reduceIte, and_self, and_true, true_and, FText htx, FRows hrm, up_ne, up_g, c2, c3, esh]; with_reducible rfl)) | (with_reducible apply wm_q) | (with_reducible apply wm_c; focus (first | assumption | decide +kernel)) | (with_reducible apply wm_d; focus (simp (disch := omega) only [wr_id, Int.toNat_natCast, Int.reduceToNat, tn_lk, tn_kl, if_pos, if_neg, ↓reduceIte, and_self, and_true, true_and, FText htx, FRows hrm, up_ne, up_g, c2, c3, esh]; with_reducible rfl)) | (with_reducible apply wm_t; focus (first | omega | (simp (disch := omega) only [wr_id, FText htx, FRows hrm, up_ne, up_g, c2, c3, esh]; omega) | (simp (disch := omega) only [wr_id, FText htx, FRows hrm, up_ne, up_g, c2, c3, esh]; done))) | (with_reducible apply wm_f; focus (first | omega | (simp (disch := omega) only [wr_id, FText htx, FRows hrm, up_ne, up_g, c2, c3, esh]; omega) | (simp (disch := omega) only [wr_id, FText htx, FRows hrm, up_ne, up_g, c2, c3, esh]; done)))))
  refine wm_lp2 7 (fun i y J => y = (i : Int) ∧ frm (fun a => r ≤ a ∧ a ≤ r + 3) I J ∧ J r 5 = (w : Int) ∧ J r 6 = (h : Int) ∧ J r 7 = ((2 ^ w - 1 : Nat) : Int) ∧ ∀ y, y < i → J (r + 1) y = (clM w h noB y : Int) ∧ J (r + 2) y = 0 ∧ J (r + 3) y = 0) ?_ (jfuel_n (by decide)) ⟨rfl, ?_, ?_, ?_, ?_, fun y hy => by omega⟩
  · rintro i hi y J ⟨rfl, hJ, j5, j6, j7, jA⟩ rec hrec
    refine wm_if (fun cc => ?_) (fun cc => ?_)
    · simp (disch := omega) only [wr_id] at cc
      by_cases z : i < h
      · (repeat (first | (with_reducible apply wm_o; focus (simp (disch := omega) only [wr_id, Int.toNat_natCast, Int.reduceToNat, tn_lk, tn_kl, if_pos, if_neg, ↓reduceIte, and_self, and_true, true_and, FRows hrm, j6]; with_reducible rfl)) | (with_reducible apply wm_q) | (with_reducible apply wm_c; focus (first | assumption | decide +kernel)) | (with_reducible apply wm_d; focus (simp (disch := omega) only [wr_id, Int.toNat_natCast, Int.reduceToNat, tn_lk, tn_kl, if_pos, if_neg, ↓reduceIte, and_self, and_true, true_and, FRows hrm, j6]; with_reducible rfl)) | (with_reducible apply wm_t; focus (first | omega | (simp (disch := omega) only [wr_id, FRows hrm, j6]; omega) | (simp (disch := omega) only [wr_id, FRows hrm, j6]; done))) | (with_reducible apply wm_f; focus (first | omega | (simp (disch := omega) only [wr_id, FRows hrm, j6]; omega) | (simp (disch := omega) only [wr_id, FRows hrm, j6]; done)))))
        refine hrec (i + 1) _ _ (by omega) (by omega) ⟨by omega, frm_up (frm_up (frm_up hJ ⟨by omega, by omega⟩) ⟨by omega, by omega⟩) ⟨by omega, by omega⟩, ?_, ?_, ?_, fun y hy => ?_⟩
        · simp (disch := omega) only [up_ne]; exact j5
        · simp (disch := omega) only [up_ne]; exact j6
        · simp (disch := omega) only [up_ne]; exact j7
        · simp (disch := omega) only [up_ne, up_g]
          by_cases e : y = i
          · subst e
            rw [if_pos rfl, if_pos rfl, if_pos rfl, clM_no, if_pos z]
            exact ⟨rfl, rfl, rfl⟩
          · rw [if_neg e, if_neg e, if_neg e]
            exact jA y (by omega)
      · (repeat (first | (with_reducible apply wm_o; focus (simp (disch := omega) only [wr_id, Int.toNat_natCast, Int.reduceToNat, tn_lk, tn_kl, if_pos, if_neg, ↓reduceIte, and_self, and_true, true_and, FRows hrm, j6, j7]; with_reducible rfl)) | (with_reducible apply wm_q) | (with_reducible apply wm_c; focus (first | assumption | decide +kernel)) | (with_reducible apply wm_d; focus (simp (disch := omega) only [wr_id, Int.toNat_natCast, Int.reduceToNat, tn_lk, tn_kl, if_pos, if_neg, ↓reduceIte, and_self, and_true, true_and, FRows hrm, j6, j7]; with_reducible rfl)) | (with_reducible apply wm_t; focus (first | omega | (simp (disch := omega) only [wr_id, FRows hrm, j6, j7]; omega) | (simp (disch := omega) only [wr_id, FRows hrm, j6, j7]; done))) | (with_reducible apply wm_f; focus (first | omega | (simp (disch := omega) only [wr_id, FRows hrm, j6, j7]; omega) | (simp (disch := omega) only [wr_id, FRows hrm, j6, j7]; done)))))
        refine hrec (i + 1) _ _ (by omega) (by omega) ⟨by omega, frm_up (frm_up (frm_up hJ ⟨by omega, by omega⟩) ⟨by omega, by omega⟩) ⟨by omega, by omega⟩, ?_, ?_, ?_, fun y hy => ?_⟩
        · simp (disch := omega) only [up_ne]; exact j5
        · simp (disch := omega) only [up_ne]; exact j6
        · simp (disch := omega) only [up_ne]; exact j7
        · simp (disch := omega) only [up_ne, up_g]
          by_cases e : y = i
          · subst e
            rw [if_pos rfl, if_pos rfl, if_pos rfl, clM_no, if_neg z]
            exact ⟨rfl, rfl, rfl⟩
          · rw [if_neg e, if_neg e, if_neg e]
            exact jA y (by omega)
    · simp (disch := omega) only [wr_id] at cc
      obtain rfl : i = 7 := by omega
      clear hrec rec
      have c0 : rCfg J r w h noB noB noB := ⟨j5, j6, j7, s1, s2, s3, s4, fun y hy => (jA y hy).1, fun y hy => by rw [(jA y hy).2.1, tlM_no]; rfl, fun y hy => by rw [(jA y hy).2.2, tlM_no]; rfl, fun m hm => by rw [hJ _ (by omega)]; exact h12 m hm⟩
      refine wm_lp2 n (fun i y K => y = (i : Int) ∧ frm (fun a => r ≤ a ∧ a ≤ r + 3) I K ∧ rCfg K r w h (fun x => decide (x < i) && hl x) noB noB) ?_ (Nat.lt_of_le_of_lt s7 (jfuel_n (by decide))) ⟨rfl, hJ, ?_⟩
      · rintro i hi y K ⟨rfl, hK, cK⟩ rec hrec
        have cf := cfC_frm hK (fun a a1 a2 => by omega) c
        have hce := q_cells (d := d) (rt := rt) sq' cf
        by_cases e : i = n
        · subst e
          (repeat (first | (with_reducible apply wm_o; focus (simp (disch := omega) only [wr_id, Int.toNat_natCast, Int.reduceToNat, tn_lk, tn_kl, if_pos, if_neg, ↓reduceIte, and_self, and_true, true_and, hce]; with_reducible rfl)) | (with_reducible apply wm_q) | (with_reducible apply wm_c; focus (first | assumption | decide +kernel)) | (with_reducible apply wm_d; focus (simp (disch := omega) only [wr_id, Int.toNat_natCast, Int.reduceToNat, tn_lk, tn_kl, if_pos, if_neg, ↓reduceIte, and_self, and_true, true_and, hce]; with_reducible rfl)) | (with_reducible apply wm_t; focus (first | omega | (simp (disch := omega) only [wr_id, hce]; omega) | (simp (disch := omega) only [wr_id, hce]; done))) | (with_reducible apply wm_f; focus (first | omega | (simp (disch := omega) only [wr_id, hce]; omega) | (simp (disch := omega) only [wr_id, hce]; done)))))
          refine wm_r ⟨hK, ?_⟩
          have ef : (fun x => decide (x < i) && hl x) = hl := by
            funext x
            cases q : hl x with
            | false => simp
            | true => simp [s9 x q]
          rw [ef] at cK
          exact cK
        · have hi2 : i < n := by omega
          have h6 := cf.2.2.2.2.2.1 i (by omega)
          by_cases z : hl i = true
          · rw [if_pos z] at h6
            (repeat (first | (with_reducible apply wm_o; focus (simp (disch := omega) only [wr_id, Int.toNat_natCast, Int.reduceToNat, tn_lk, tn_kl, if_pos, if_neg, ↓reduceIte, and_self, and_true, true_and, hce, FText htx, h6]; with_reducible rfl)) | (with_reducible apply wm_q) | (with_reducible apply wm_c; focus (first | assumption | decide +kernel)) | (with_reducible apply wm_d; focus (simp (disch := omega) only [wr_id, Int.toNat_natCast, Int.reduceToNat, tn_lk, tn_kl, if_pos, if_neg, ↓reduceIte, and_self, and_true, true_and, hce, FText htx, h6]; with_reducible rfl)) | (with_reducible apply wm_t; focus (first | omega | (simp (disch := omega) only [wr_id, hce, FText htx, h6]; omega) | (simp (disch := omega) only [wr_id, hce, FText htx, h6]; done))) | (with_reducible apply wm_f; focus (first | omega | (simp (disch := omega) only [wr_id, hce, FText htx, h6]; omega) | (simp (disch := omega) only [wr_id, hce, FText htx, h6]; done)))))
            refine wm_b (w_close hrm cK (c := i) (by omega)) (fun v L hL => ?_)
            refine hrec (i + 1) _ _ (by omega) (by omega) ⟨by omega, frm_trans hK (frm_sub hL.1 (fun a ha => by omega)), ?_⟩
            have ef : clAdd (fun x => decide (x < i) && hl x) i = fun x => decide (x < i + 1) && hl x := by
              funext x
              unfold clAdd
              by_cases q : x = i
              · subst q; simp [z]
              · have : decide (x < i) = decide (x < i + 1) := by rw [Bool.eq_iff_iff]; simp; omega
                simp [q, this]
            rw [← ef]
            exact hL.2
          · rw [if_neg z] at h6
            (repeat (first | (with_reducible apply wm_o; focus (simp (disch := omega) only [wr_id, Int.toNat_natCast, Int.reduceToNat, tn_lk, tn_kl, if_pos, if_neg, ↓reduceIte, and_self, and_true, true_and, hce, FText htx, h6]; with_reducible rfl)) | (with_reducible apply wm_q) | (with_reducible apply wm_c; focus (first | assumption | decide +kernel)) | (with_reducible apply wm_d; focus (simp (disch := omega) only [wr_id, Int.toNat_natCast, Int.reduceToNat, tn_lk, tn_kl, if_pos, if_neg, ↓reduceIte, and_self, and_true, true_and, hce, FText htx, h6]; with_reducible rfl)) | (with_reducible apply wm_t; focus (first | omega | (simp (disch := omega) only [wr_id, hce, FText htx, h6]; omega) | (simp (disch := omega) only [wr_id, hce, FText htx, h6]; done))) | (with_reducible apply wm_f; focus (first | omega | (simp (disch := omega) only [wr_id, hce, FText htx, h6]; omega) | (simp (disch := omega) only [wr_id, hce, FText htx, h6]; done)))))
            refine hrec (i + 1) _ _ (by omega) (by omega) ⟨by omega, hK, ?_⟩
            have ef : (fun x => decide (x < i) && hl x) = fun x => decide (x < i + 1) && hl x := by
              funext x
              by_cases q : x = i
              · subst q; simp [z]
              · have : decide (x < i) = decide (x < i + 1) := by rw [Bool.eq_iff_iff]; simp; omega
                rw [this]
            rw [← ef]
            exact cK
      · have ef : (fun x => decide (x < 0) && hl x) = noB := by funext x; simp [noB]
        rw [ef]
        exact c0
  · exact frm_up (frm_up (frm_up (frm_refl _ _) ⟨by omega, by omega⟩) ⟨by omega, by omega⟩) ⟨by omega, by omega⟩
  · simp (disch := omega) only [up_g, if_neg, if_pos, ↓reduceIte]
  · simp (disch := omega) only [up_g, if_neg, if_pos, ↓reduceIte]
  · simp (disch := omega) only [up_g, if_neg, if_pos, ↓reduceIte]
theorem w_bind (hrm : r ∈ [311, 324]) (c' : rCfg I r w h cl na nd) {c : Nat} (hc : c < w * h) {f : Int} (hf : f = 0 ∨ f = 1) : wm t d rt (f_X4_bind r (c : Int) f (mm t d rt I)) (fun _ J => frm (fun a => a = r + 2 ∨ a = r + 3) I J ∧ rCfg J r w h cl (if f = 0 then clAdd na c else na) (if f = 0 then nd else clAdd nd c)) := by
  obtain ⟨c1, c2, c3, c4, c5, c6, c7, c8, c9, c10, c11⟩ := c'
  have kr : (K0 r).1 = 4 ∧ r < 418 := ⟨(FRows_k r hrm).1, (FRows_k r hrm).2.1⟩
  have hm := Nat.mod_lt c (show w > 0 by omega)
  have hdy : c / w < h := Nat.div_lt_of_lt_mul hc
  have h36 : c < 36 := Nat.lt_of_lt_of_le hc (Nat.mul_le_mul c5 c7)
  have hd1 : ∀ M : jMem, f_X4_rowOf (c : Int) (w : Int) M = some (((c / w : Nat) : Int), M) := fun M => row_n (by omega) (by omega) (by omega) M
  have hr1 : ∀ M : jMem, f_X4_columnOf (c : Int) (w : Int) M = some (((c % w : Nat) : Int), M) := fun M => col_n (by omega) (by omega) (by omega) M
  have hb := q_bit (t := t) (d := d) (rt := rt) hrm c1 c5 hm
  have e9 := c9 (c / w) (by omega)
  have e10 := c10 (c / w) (by omega)
  have l9 := tlM_lt (h := h) (f := nd) (c / w) c5
  have l10 := tlM_lt (h := h) (f := na) (c / w) c5
  have l2 : 2 ^ (w - 1 - c % w) < 64 := Nat.lt_of_le_of_lt (Nat.pow_le_pow_right (by decide) (show w - 1 - c % w ≤ 5 by omega)) (by decide)
  have eo9 : jd_or (tlM w h nd (c / w) : Int) ((2 ^ (w - 1 - c % w) : Nat) : Int) = ((tlM w h nd (c / w) ||| 2 ^ (w - 1 - c % w) : Nat) : Int) := or_n (by omega) (by omega)
  have eo10 : jd_or (tlM w h na (c / w) : Int) ((2 ^ (w - 1 - c % w) : Nat) : Int) = ((tlM w h na (c / w) ||| 2 ^ (w - 1 - c % w) : Nat) : Int) := or_n (by omega) (by omega)
  have w1 := wr_1
  have w0 := wr_0
  generalize hq : c / w = q at *
  unfold f_X4_bind
  rcases hf with rfl | rfl
  · (repeat (first | (with_reducible apply wm_o; focus (simp (disch := omega) only [wr_id, Int.toNat_natCast, Int.reduceToNat, tn_lk, tn_kl, if_pos, if_neg, ↓reduceIte, and_self, and_true, true_and, FRows hrm, c1, hd1, hr1, hb, e10, eo10, w0]; with_reducible rfl)) | (with_reducible apply wm_q) | (with_reducible apply wm_c; focus (first | assumption | decide +kernel)) | (with_reducible apply wm_d; focus (simp (disch := omega) only [wr_id, Int.toNat_natCast, Int.reduceToNat, tn_lk, tn_kl, if_pos, if_neg, ↓reduceIte, and_self, and_true, true_and, FRows hrm, c1, hd1, hr1, hb, e10, eo10, w0]; with_reducible rfl)) | (with_reducible apply wm_t; focus (first | omega | (simp (disch := omega) only [wr_id, FRows hrm, c1, hd1, hr1, hb, e10, eo10, w0]; omega) | (simp (disch := omega) only [wr_id, FRows hrm, c1, hd1, hr1, hb, e10, eo10, w0]; done))) | (with_reducible apply wm_f; focus (first | omega | (simp (disch := omega) only [wr_id, FRows hrm, c1, hd1, hr1, hb, e10, eo10, w0]; omega) | (simp (disch := omega) only [wr_id, FRows hrm, c1, hd1, hr1, hb, e10, eo10, w0]; done)))))
    refine wm_r ⟨frm_up (frm_refl _ _) (Or.inr rfl), ?_⟩
    rw [if_pos rfl, if_pos rfl]
    refine ⟨by rw [up_ne (by omega)]; exact c1, by rw [up_ne (by omega)]; exact c2, by rw [up_ne (by omega)]; exact c3, c4, c5, c6, c7, by rw [up_ne (by omega)]; exact c8, by rw [up_ne (by omega)]; exact c9, fun y hy => ?_, by rw [up_ne (by omega)]; exact c11⟩
    rw [up_g, tlM_add (by omega) hc, hq]
    by_cases e : y = q
    · rw [if_pos e, if_pos e, e]
    · rw [if_neg e, if_neg e]; exact c10 y hy
  · (repeat (first | (with_reducible apply wm_o; focus (simp (disch := omega) only [wr_id, Int.toNat_natCast, Int.reduceToNat, tn_lk, tn_kl, if_pos, if_neg, ↓reduceIte, and_self, and_true, true_and, FRows hrm, c1, hd1, hr1, hb, e9, eo9, w1]; with_reducible rfl)) | (with_reducible apply wm_q) | (with_reducible apply wm_c; focus (first | assumption | decide +kernel)) | (with_reducible apply wm_d; focus (simp (disch := omega) only [wr_id, Int.toNat_natCast, Int.reduceToNat, tn_lk, tn_kl, if_pos, if_neg, ↓reduceIte, and_self, and_true, true_and, FRows hrm, c1, hd1, hr1, hb, e9, eo9, w1]; with_reducible rfl)) | (with_reducible apply wm_t; focus (first | omega | (simp (disch := omega) only [wr_id, FRows hrm, c1, hd1, hr1, hb, e9, eo9, w1]; omega) | (simp (disch := omega) only [wr_id, FRows hrm, c1, hd1, hr1, hb, e9, eo9, w1]; done))) | (with_reducible apply wm_f; focus (first | omega | (simp (disch := omega) only [wr_id, FRows hrm, c1, hd1, hr1, hb, e9, eo9, w1]; omega) | (simp (disch := omega) only [wr_id, FRows hrm, c1, hd1, hr1, hb, e9, eo9, w1]; done)))))
    refine wm_r ⟨frm_up (frm_refl _ _) (Or.inl rfl), ?_⟩
    rw [if_neg (by decide), if_neg (by decide)]
    refine ⟨by rw [up_ne (by omega)]; exact c1, by rw [up_ne (by omega)]; exact c2, by rw [up_ne (by omega)]; exact c3, c4, c5, c6, c7, by rw [up_ne (by omega)]; exact c8, fun y hy => ?_, by rw [up_ne (by omega)]; exact c10, by rw [up_ne (by omega)]; exact c11⟩
    rw [up_g, tlM_add (by omega) hc, hq]
    by_cases e : y = q
    · rw [if_pos e, if_pos e, e]
    · rw [if_neg e, if_neg e]; exact c9 y hy
end BG
