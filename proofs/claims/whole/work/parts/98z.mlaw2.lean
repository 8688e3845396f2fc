/-! ===== the model reads a law, whole ===== -/
section MM
variable {t d rt : Nat} {I J : Nat → Nat → Int} {K : Nat → Nat} {V : Nat → Int} {ps : Nat → Nat} {i : Nat}
theorem kpL_ex {c1 hi b0 bh : Nat} (h : frM exP exT I J) (hk : ∀ p, p < c1 ∨ hi ≤ p → J 394 p = I 394 p ∧ J 395 p = I 395 p) : kpL c1 hi b0 bh I J := by
  have e : ∀ a, 389 ≤ a → a ≤ 393 → J a = I a := fun a h1 h2 => h.1 a (by omega) (by unfold exP; omega)
  refine ⟨hk, fun b _ => ?_⟩
  rw [e 389 (by decide) (by decide), e 390 (by decide) (by decide), e 391 (by decide) (by decide), e 392 (by decide) (by decide), e 393 (by decide) (by decide)]; exact ⟨rfl, rfl, rfl, rfl, rfl⟩
theorem kpL_up {c0 hi b0 bh a j : Nat} {v : Int} (h : kpL c0 hi b0 bh I J) (ha : ¬ (389 ≤ a ∧ a ≤ 395)) : kpL c0 hi b0 bh I (up J a j v) := by
  refine ⟨fun p hp => ?_, fun b hb' => ?_⟩
  · rw [up_ne (by omega), up_ne (by omega)]; exact h.1 p hp
  · rw [up_ne (by omega), up_ne (by omega), up_ne (by omega), up_ne (by omega), up_ne (by omega)]; exact h.2 b hb'
theorem tkLw (h : frM (fun _ => False) tkT I J) : frM lwP lwT I J := frM_sub h (fun a h => h.elim) (fun a h => by unfold tkT at h; unfold lwT; omega)
theorem w_tellLaw (hk : ∀ i, kR (K i)) (hR : rdM K V ps I i) (ho : I 369 12 = 0) {sd q c0 b0 : Nat} (hsd : sd ≤ 1) (hq : q < 3) (h19 : I 369 19 = (sd : Int)) (h32 : I 369 32 = (b0 : Int)) (h38 : I 369 38 = (c0 : Int)) (hb : 4 * b0 + 1 ≤ i + 520 * sd) (hb' : 130 * sd ≤ b0) (hc : c0 ≤ 420 * sd + i) (hc' : 420 * sd ≤ c0) : wm t d rt (f_X12_tellLaw 369 (q : Int) (mm t d rt I)) (fun _ J => lmQ K V ps sd q c0 b0 I (bnd (tokR K 11 i) fun t1 _ => bnd (lwR K V 4 t1 []) fun t2 l => bnd (tokR K 10 t2) fun t3 _ => eok t3 l) J) := by
  have li := hR.2.2.2.1
  have z0 : jd_z 0 = 0 := by decide
  have z1 : jd_z 1 = 1 := by decide
  unfold f_X12_tellLaw
  (repeat (first | (with_reducible apply wm_o; focus (simp (disch := omega) only [wr_id, Int.toNat_natCast, Int.reduceToNat, tn_lk, tn_kl, if_pos, if_neg, ↓reduceIte, and_self, and_true, true_and, FM]; with_reducible rfl)) | (with_reducible apply wm_q) | (with_reducible apply wm_c; focus (first | assumption | decide +kernel)) | (with_reducible apply wm_d; focus (simp (disch := omega) only [wr_id, Int.toNat_natCast, Int.reduceToNat, tn_lk, tn_kl, if_pos, if_neg, ↓reduceIte, and_self, and_true, true_and, FM]; with_reducible rfl)) | (with_reducible apply wm_t; focus (first | omega | (simp (disch := omega) only [wr_id, FM]; omega) | (simp (disch := omega) only [wr_id, FM]; done))) | (with_reducible apply wm_f; focus (first | omega | (simp (disch := omega) only [wr_id, FM]; omega) | (simp (disch := omega) only [wr_id, FM]; done)))))
  generalize eR : (bnd (tokR K 11 i) fun t1 _ => bnd (lwR K V 4 t1 []) fun t2 l => bnd (tokR K 10 t2) fun t3 _ => eok t3 l) = R
  refine wm_b (w_must hk hR (j := 11) (z := 5) rfl (Or.inr (Or.inl (by decide))) (by decide)) (fun r J1 hJ1 => ?_)
  obtain ⟨m1, m2⟩ := hJ1
  have fr1 : frM lwP lwT I J1 := frM_sub m1 (fun a h => h.elim) (fun a h => by unfold tkT at h; unfold lwT; omega)
  have kp1 : kpL c0 (420 * sd + 420) b0 (130 * sd + 130) I J1 := kpL_fr m1 (fun a _ _ h => h)
  have j32 : J1 369 32 = (b0 : Int) := by rw [m1.2 32 (by unfold tkT; omega)]; exact h32
  have j38 : J1 369 38 = (c0 : Int) := by rw [m1.2 38 (by unfold tkT; omega)]; exact h38
  have j12 : J1 369 12 = 0 := by rw [m1.2 12 (by unfold tkT; omega)]; exact ho
  (repeat (first | (with_reducible apply wm_o; focus (simp (disch := omega) only [wr_id, Int.toNat_natCast, Int.reduceToNat, tn_lk, tn_kl, if_pos, if_neg, ↓reduceIte, and_self, and_true, true_and, FM, j32]; with_reducible rfl)) | (with_reducible apply wm_q) | (with_reducible apply wm_c; focus (first | assumption | decide +kernel)) | (with_reducible apply wm_d; focus (simp (disch := omega) only [wr_id, Int.toNat_natCast, Int.reduceToNat, tn_lk, tn_kl, if_pos, if_neg, ↓reduceIte, and_self, and_true, true_and, FM, j32]; with_reducible rfl)) | (with_reducible apply wm_t; focus (first | omega | (simp (disch := omega) only [wr_id, FM, j32]; omega) | (simp (disch := omega) only [wr_id, FM, j32]; done))) | (with_reducible apply wm_f; focus (first | omega | (simp (disch := omega) only [wr_id, FM, j32]; omega) | (simp (disch := omega) only [wr_id, FM, j32]; done)))))
  refine wm_lp2 6 (fun n y J => y = (n : Int) ∧ ((n ≤ 4 ∧ ∃ (i' b c' : Nat) (acc : List LwI), (bnd (lwR K V (4 - n) i' acc) fun t2 l => bnd (tokR K 10 t2) fun t3 _ => eok t3 l) = R ∧ rdM K V ps J i' ∧ J 369 12 = 0 ∧ J 369 32 = (b : Int) ∧ J 369 38 = (c' : Int) ∧ brM J (420 * sd) c' b0 acc b ∧ kpL c0 (420 * sd + 420) b0 (130 * sd + 130) I J ∧ frM lwP lwT I J ∧ b0 ≤ b ∧ 4 * b + 2 ≤ i' + 520 * sd ∧ c0 ≤ c' ∧ c' ≤ 420 * sd + i' ∧ ∀ x, x ∈ acc → sOK x.1 ∧ sOK x.2.1 ∧ sOK x.2.2) ∨ (n ≤ 5 ∧ ∃ (b cc qq : Nat), R = efl cc qq ∧ idM ps c0 (420 * sd + 420) b0 (130 * sd + 130) I J b cc qq ∧ b ≤ 130 * sd + 110))) ?_ (jfuel_n (by decide)) ⟨rfl, ?_⟩
  rotate_left
  · rcases m2 with ⟨e1, r1⟩ | ⟨cc, qq, e1, f1⟩
    · rw [e1, bnd_ok] at eR
      exact Or.inl ⟨by decide, i + 1, b0, c0, [], eR, r1, j12, j32, j38, rfl, kp1, fr1, Nat.le_refl _, by omega, Nat.le_refl _, by omega, fun x hx => absurd hx (List.not_mem_nil)⟩
    · rw [e1, bnd_fl] at eR
      exact Or.inr ⟨by decide, b0, cc, qq, eR.symm, ⟨fr1, kp1, f1, j32, Nat.le_refl _⟩, by omega⟩
  clear m1 m2 fr1 kp1 j32 j38 j12 J1
  rintro n hn y J ⟨rfl, hcase⟩ rec hrec
  rcases hcase with ⟨hn4, i', b, c', acc, a0, a1, a2, a3, a4, a5, a6, a7, a8, a9, a10, a11, a12⟩ | ⟨hn5, b, cc, qq, e, hid, hb110⟩
  rotate_left
  · -- idle
    have hid' := hid
    obtain ⟨h1, h2, h3, h4, h5⟩ := hid
    obtain ⟨d1, d2, d3, s, d4, d5⟩ := h3
    have id1 : idM ps c0 (420 * sd + 420) b0 (130 * sd + 130) I (up J 389 b 0) b cc qq := id_br (by decide) (by omega) hid'
    (repeat (first | (with_reducible apply wm_o; focus (simp (disch := omega) only [wr_id, Int.toNat_natCast, Int.reduceToNat, tn_lk, tn_kl, if_pos, if_neg, ↓reduceIte, and_self, and_true, true_and, FM, d2, h4, z0]; with_reducible rfl)) | (with_reducible apply wm_q) | (with_reducible apply wm_c; focus (first | assumption | decide +kernel)) | (with_reducible apply wm_d; focus (simp (disch := omega) only [wr_id, Int.toNat_natCast, Int.reduceToNat, tn_lk, tn_kl, if_pos, if_neg, ↓reduceIte, and_self, and_true, true_and, FM, d2, h4, z0]; with_reducible rfl)) | (with_reducible apply wm_t; focus (first | omega | (simp (disch := omega) only [wr_id, FM, d2, h4, z0]; omega) | (simp (disch := omega) only [wr_id, FM, d2, h4, z0]; done))) | (with_reducible apply wm_f; focus (first | omega | (simp (disch := omega) only [wr_id, FM, d2, h4, z0]; omega) | (simp (disch := omega) only [wr_id, FM, d2, h4, z0]; done)))))
    refine wm_b (w_idTerm (by omega) (by omega) id1) (fun r X hX => ?_)
    have mf := q_mustF (t := t) (d := d) (rt := rt) hX.2.2.1 (z := 4)
    have x13 := hX.2.2.1.2.1
    have x12 := hX.2.2.1.1
    (repeat (first | (with_reducible apply wm_o; focus (simp (disch := omega) only [wr_id, Int.toNat_natCast, Int.reduceToNat, tn_lk, tn_kl, if_pos, if_neg, ↓reduceIte, and_self, and_true, true_and, FM, mf, x13]; with_reducible rfl)) | (with_reducible apply wm_q) | (with_reducible apply wm_c; focus (first | assumption | decide +kernel)) | (with_reducible apply wm_d; focus (simp (disch := omega) only [wr_id, Int.toNat_natCast, Int.reduceToNat, tn_lk, tn_kl, if_pos, if_neg, ↓reduceIte, and_self, and_true, true_and, FM, mf, x13]; with_reducible rfl)) | (with_reducible apply wm_t; focus (first | omega | (simp (disch := omega) only [wr_id, FM, mf, x13]; omega) | (simp (disch := omega) only [wr_id, FM, mf, x13]; done))) | (with_reducible apply wm_f; focus (first | omega | (simp (disch := omega) only [wr_id, FM, mf, x13]; omega) | (simp (disch := omega) only [wr_id, FM, mf, x13]; done)))))
    exact wm_r (id_lm e hX)
  have li' := a1.2.2.2.1
  have a13 := a1.2.2.1
  have x27 := q_is (t := t) (d := d) (rt := rt) hk a1 (j := 27) (z := 27) rfl (Or.inr (Or.inr (by decide)))
  by_cases c27 : K i' = 27
  · rw [if_pos c27] at x27
    by_cases cn : n = 4
    · subst cn
      have a0 : (bnd (lwR K V 0 i' acc) fun t2 l => bnd (tokR K 10 t2) fun t3 _ => eok t3 l) = R := a0
      rw [lwR, if_pos c27, bnd_fl] at a0
      have fl := q_fail (t := t) (d := d) (rt := rt) a1 (c := 2) (z := 2) rfl
      have F := flI_ok a1 (c := 2) (Or.inr rfl)
      have f13 := F.2.1
      have f13' : flI ps J 2 i' 369 13 = 2 := f13
      have ffr : frM (fun _ => False) (fun j => j = 13 ∨ j = 14) J (flI ps J 2 i') := flI_frm (Or.inl rfl) (Or.inr rfl)
      (repeat (first | (with_reducible apply wm_o; focus (simp (disch := omega) only [wr_id, Int.toNat_natCast, Int.reduceToNat, tn_lk, tn_kl, if_pos, if_neg, ↓reduceIte, and_self, and_true, true_and, FM, a13, x27, fl, f13']; with_reducible rfl)) | (with_reducible apply wm_q) | (with_reducible apply wm_c; focus (first | assumption | decide +kernel)) | (with_reducible apply wm_d; focus (simp (disch := omega) only [wr_id, Int.toNat_natCast, Int.reduceToNat, tn_lk, tn_kl, if_pos, if_neg, ↓reduceIte, and_self, and_true, true_and, FM, a13, x27, fl, f13']; with_reducible rfl)) | (with_reducible apply wm_t; focus (first | omega | (simp (disch := omega) only [wr_id, FM, a13, x27, fl, f13']; omega) | (simp (disch := omega) only [wr_id, FM, a13, x27, fl, f13']; done))) | (with_reducible apply wm_f; focus (first | omega | (simp (disch := omega) only [wr_id, FM, a13, x27, fl, f13']; omega) | (simp (disch := omega) only [wr_id, FM, a13, x27, fl, f13']; done)))))
      refine wm_r (id_lm (b := b) a0.symm ⟨frM_trans a7 (frM_sub ffr (fun a h => h.elim) (fun a h => by unfold lwT; omega)), kpL_trans a6 (kpL_fr ffr (fun a _ _ h => h)) (Nat.le_refl _) (Nat.le_refl _), F, ?_, a8⟩)
      rw [ffr.2 32 (by decide)]; exact a3
    · obtain ⟨m, em⟩ : ∃ m, 4 - n = m + 1 := ⟨3 - n, by omega⟩
      rw [em, lwR, if_pos c27] at a0
      sorry
  · rw [if_neg c27] at x27
    have a0' : (bnd (bnd (sumD K V 6 i' : ER (List CI)) fun t' x => eok t' (acc, x)) fun t2 l => bnd (tokR K 10 t2) fun t3 _ => eok t3 l) = R := by
      rw [← a0]
      cases hm : 4 - n with
      | zero => rw [lwR, if_neg c27]
      | succ m => rw [lwR, if_neg c27]
    (repeat (first | (with_reducible apply wm_o; focus (simp (disch := omega) only [wr_id, Int.toNat_natCast, Int.reduceToNat, tn_lk, tn_kl, if_pos, if_neg, ↓reduceIte, and_self, and_true, true_and, FM, a13, x27, a3, z0]; with_reducible rfl)) | (with_reducible apply wm_q) | (with_reducible apply wm_c; focus (first | assumption | decide +kernel)) | (with_reducible apply wm_d; focus (simp (disch := omega) only [wr_id, Int.toNat_natCast, Int.reduceToNat, tn_lk, tn_kl, if_pos, if_neg, ↓reduceIte, and_self, and_true, true_and, FM, a13, x27, a3, z0]; with_reducible rfl)) | (with_reducible apply wm_t; focus (first | omega | (simp (disch := omega) only [wr_id, FM, a13, x27, a3, z0]; omega) | (simp (disch := omega) only [wr_id, FM, a13, x27, a3, z0]; done))) | (with_reducible apply wm_f; focus (first | omega | (simp (disch := omega) only [wr_id, FM, a13, x27, a3, z0]; omega) | (simp (disch := omega) only [wr_id, FM, a13, x27, a3, z0]; done)))))
    have rd1 : rdM K V ps (up J 389 b 0) i' := rdM_up (by decide) a1
    have fr1 : frM lwP lwT I (up J 389 b 0) := frM_up a7 (by decide) (by unfold lwP; omega)
    have kp1 : kpL c0 (420 * sd + 420) b0 (130 * sd + 130) I (up J 389 b 0) := kpL_br a6 (by decide) (by omega)
    have u12 : up J 389 b 0 369 12 = 0 := by rw [up_ne (by decide)]; exact a2
    have u38 : up J 389 b 0 369 38 = (c' : Int) := by rw [up_ne (by decide)]; exact a4
    have u32 : up J 389 b 0 369 32 = (b : Int) := by rw [up_ne (by decide)]; exact a3
    refine wm_b (w_term hk rd1 u12 u38 u32 (bh := 130 * sd + 130) (hi := 420 * sd + 420) (by omega) (by omega) (by omega) (by omega) (by omega)) (fun r X hX => ?_)
    obtain ⟨g1, g2, g3, g4, g5, g6, g7⟩ := hX
    have frX : frM lwP lwT I X := frM_trans fr1 g1
    have kpX : kpL c0 (420 * sd + 420) b0 (130 * sd + 130) I X := kpL_trans kp1 g2 a10 a8
    rcases g7 with ⟨t', cs, q1, q2, q3, q4, q5, q6, q7⟩ | ⟨cc, qq, q1, q2⟩
    · have sl := sum_lt q1
      rw [show (sumD K V 6 i' : ER (List CI)) = eok t' cs from q1, bnd_ok, bnd_ok] at a0'
      refine wm_c (by decide +kernel) ?_
      refine wm_b (w_must hk q2 (j := 10) (z := 4) rfl (Or.inr (Or.inl (by decide))) (by decide)) (fun r Y hY => ?_)
      obtain ⟨m1, m2⟩ := hY
      have frY : frM lwP lwT I Y := frM_trans frX (tkLw m1)
      have kpY : kpL c0 (420 * sd + 420) b0 (130 * sd + 130) I Y := kpL_trans kpX (kpL_fr m1 (fun a _ _ h => h)) (Nat.le_refl _) (Nat.le_refl _)
      have eY : ∀ a, a ≠ 369 → Y a = X a := fun a ha => m1.1 a ha (fun h => h)
      have y32 : Y 369 32 = ((b + 1 : Nat) : Int) := by rw [m1.2 32 (by unfold tkT; omega)]; exact g3
      have y19 : Y 369 19 = (sd : Int) := by rw [frY.2 19 (by unfold lwT; omega)]; exact h19
      rcases m2 with ⟨e1, r1⟩ | ⟨cc, qq, e1, f1⟩
      · rw [e1, bnd_ok] at a0'
        have y13 := r1.2.2.1
        have e3 : 3 * (sd : Int) + (q : Int) = ((3 * sd + q : Nat) : Int) := by omega
        have v19 : up Y 387 (3 * sd + q) (b0 : Int) 369 19 = (sd : Int) := by rw [up_ne (by decide)]; exact y19
        have v32 : up Y 387 (3 * sd + q) (b0 : Int) 369 32 = ((b + 1 : Nat) : Int) := by rw [up_ne (by decide)]; exact y32
        (repeat (first | (with_reducible apply wm_o; focus (simp (disch := omega) only [wr_id, Int.toNat_natCast, Int.reduceToNat, tn_lk, tn_kl, if_pos, if_neg, ↓reduceIte, and_self, and_true, true_and, FM, y13, y19, e3, v19, v32]; with_reducible rfl)) | (with_reducible apply wm_q) | (with_reducible apply wm_c; focus (first | assumption | decide +kernel)) | (with_reducible apply wm_d; focus (simp (disch := omega) only [wr_id, Int.toNat_natCast, Int.reduceToNat, tn_lk, tn_kl, if_pos, if_neg, ↓reduceIte, and_self, and_true, true_and, FM, y13, y19, e3, v19, v32]; with_reducible rfl)) | (with_reducible apply wm_t; focus (first | omega | (simp (disch := omega) only [wr_id, FM, y13, y19, e3, v19, v32]; omega) | (simp (disch := omega) only [wr_id, FM, y13, y19, e3, v19, v32]; done))) | (with_reducible apply wm_f; focus (first | omega | (simp (disch := omega) only [wr_id, FM, y13, y19, e3, v19, v32]; omega) | (simp (disch := omega) only [wr_id, FM, y13, y19, e3, v19, v32]; done)))))
        have f0 : frM lxP lwT I (up (up Y 387 (3 * sd + q) (b0 : Int)) 388 (3 * sd + q) ((b + 1 : Nat) : Int)) := frM_up (frM_up (lx_sub frY) (by decide) (Or.inl rfl)) (by decide) (Or.inr (Or.inl rfl))
        have hz : ∀ a, a ≠ 387 → a ≠ 388 → up (up Y 387 (3 * sd + q) (b0 : Int)) 388 (3 * sd + q) ((b + 1 : Nat) : Int) a = Y a := fun a h1 h2 => by rw [up_ne h2, up_ne h1]
        have lwN : lwM X b [] cs (b + 1) := ⟨by rw [g4, up_s], ⟨c', q6, q7, q5, by omega⟩, rfl⟩
        have brX : brM X (420 * sd) c' b0 acc b := by
          have k2 : kpL c' (420 * sd + 420) b (130 * sd + 130) J X := kpL_trans (kpL_br (kpL_refl _ _ _ _ _) (by decide) (by omega)) g2 (Nat.le_refl _) (Nat.le_refl _)
          exact brM_congr k2 (Nat.le_refl _) a5
        have rgX' := brM_rg brX
        refine wm_r ⟨f0, kpL_up (kpL_up kpY (by decide)) (by decide), Or.inl ⟨t' + 1, (acc, cs), b + 1, c' + cs.length, a0'.symm, rdM_up (by decide) (rdM_up (by decide) r1), ?_, ?_, ?_, by omega, by omega, by omega, by omega, ?_, ?_, ?_, ⟨a12, sum_ok q1⟩, fun x x1 x2 => ?_⟩⟩
        · rw [hz _ (by decide) (by decide), m1.2 12 (by unfold tkT; omega)]; exact q3
        · rw [hz _ (by decide) (by decide)]; exact y32
        · rw [hz _ (by decide) (by decide), m1.2 38 (by unfold tkT; omega)]; exact q4
        · rw [up_ne (by decide), up_row, frY.1 387 (by decide) (by unfold lwP; omega)]
        · rw [up_row, up_ne (by decide), frY.1 388 (by decide) (by unfold lwP; omega)]
        · refine lwM_frm ⟨?_, ?_, ?_, ?_, ?_, ?_, ?_⟩ (brM_end (by omega) brX lwN)
          all_goals rw [hz _ (by decide) (by decide), eY _ (by decide)]
        · rw [hz 392 (by decide) (by decide), hz 393 (by decide) (by decide), hz 389 (by decide) (by decide), hz 390 (by decide) (by decide), eY 392 (by decide), eY 393 (by decide), eY 389 (by decide), eY 390 (by decide)]
          by_cases ex : x = b
          · subst ex
            rw [q6, q7, g4, up_s]
            exact ⟨by omega, by omega, fun h => absurd h (by decide)⟩
          · obtain ⟨w1, w2, w3⟩ := rgX' x x1 (by omega)
            exact ⟨w1, by omega, fun _ => w3⟩
      · rw [e1, bnd_fl] at a0'
        have f13 := f1.2.1
        have f12 := f1.1
        (repeat (first | (with_reducible apply wm_o; focus (simp (disch := omega) only [wr_id, Int.toNat_natCast, Int.reduceToNat, tn_lk, tn_kl, if_pos, if_neg, ↓reduceIte, and_self, and_true, true_and, FM, f13]; with_reducible rfl)) | (with_reducible apply wm_q) | (with_reducible apply wm_c; focus (first | assumption | decide +kernel)) | (with_reducible apply wm_d; focus (simp (disch := omega) only [wr_id, Int.toNat_natCast, Int.reduceToNat, tn_lk, tn_kl, if_pos, if_neg, ↓reduceIte, and_self, and_true, true_and, FM, f13]; with_reducible rfl)) | (with_reducible apply wm_t; focus (first | omega | (simp (disch := omega) only [wr_id, FM, f13]; omega) | (simp (disch := omega) only [wr_id, FM, f13]; done))) | (with_reducible apply wm_f; focus (first | omega | (simp (disch := omega) only [wr_id, FM, f13]; omega) | (simp (disch := omega) only [wr_id, FM, f13]; done)))))
        exact wm_r (id_lm a0'.symm ⟨frY, kpY, f1, y32, by omega⟩)
    · rw [show (sumD K V 6 i' : ER (List CI)) = efl cc qq from q1, bnd_fl, bnd_fl] at a0'
      have mf := q_mustF (t := t) (d := d) (rt := rt) q2 (z := 4)
      have f13 := q2.2.1
      have f12 := q2.1
      (repeat (first | (with_reducible apply wm_o; focus (simp (disch := omega) only [wr_id, Int.toNat_natCast, Int.reduceToNat, tn_lk, tn_kl, if_pos, if_neg, ↓reduceIte, and_self, and_true, true_and, FM, mf, f13]; with_reducible rfl)) | (with_reducible apply wm_q) | (with_reducible apply wm_c; focus (first | assumption | decide +kernel)) | (with_reducible apply wm_d; focus (simp (disch := omega) only [wr_id, Int.toNat_natCast, Int.reduceToNat, tn_lk, tn_kl, if_pos, if_neg, ↓reduceIte, and_self, and_true, true_and, FM, mf, f13]; with_reducible rfl)) | (with_reducible apply wm_t; focus (first | omega | (simp (disch := omega) only [wr_id, FM, mf, f13]; omega) | (simp (disch := omega) only [wr_id, FM, mf, f13]; done))) | (with_reducible apply wm_f; focus (first | omega | (simp (disch := omega) only [wr_id, FM, mf, f13]; omega) | (simp (disch := omega) only [wr_id, FM, mf, f13]; done)))))
      exact wm_r (id_lm a0'.symm ⟨frX, kpX, q2, g3, by omega⟩)
end MM
