/-! ===== the model reads a law, whole ===== -/
section MM
variable {t d rt : Nat} {I J : Nat → Nat → Int} {K : Nat → Nat} {V : Nat → Int} {ps : Nat → Nat} {i : Nat}
theorem brM_one {X : Nat → Nat → Int} {lo hi b p : Nat} {a bb cs : List CI} (h1 : X 389 b = 1) (h2 : X 390 b = (p : Int)) (h3 : X 391 b = ((p + a.length : Nat) : Int)) (h4 : X 392 b = ((p + a.length + bb.length : Nat) : Int)) (h5 : X 393 b = ((p + a.length + bb.length + cs.length : Nat) : Int)) (h6 : cdAt (X 394) (X 395) p (a.map mkC)) (h7 : cdAt (X 394) (X 395) (p + a.length) (bb.map mkC)) (h8 : cdAt (X 394) (X 395) (p + a.length + bb.length) (cs.map mkC)) (h9 : lo ≤ p) (h10 : p + a.length + bb.length + cs.length ≤ hi) : brM X lo hi b [(a, bb, cs)] (b + 1) := ⟨h1, ⟨p, h2, h3, h4, h5, h6, h7, h8, h9, h10⟩, rfl⟩
theorem num1 {sd b c0 c' i' t1 t3 t5 la lb lc b0 : Nat} (h1 : 4 * b + 2 ≤ i' + 520 * sd) (h2 : c' ≤ 420 * sd + i') (s1 : i' + 1 < t1 ∧ t1 ≤ 400 ∧ i' + 1 + la ≤ t1) (s3 : t1 + 1 < t3 ∧ t3 ≤ 400 ∧ t1 + 1 + lb ≤ t3) (s5 : t3 + 1 < t5 ∧ t5 ≤ 400 ∧ t3 + 1 + lc ≤ t5) (h3 : b0 ≤ b) (h4 : c0 ≤ c') : b0 ≤ b + 1 ∧ 4 * (b + 1) + 2 ≤ t5 + 1 + 520 * sd ∧ c0 ≤ c' + la + lb + lc ∧ c' + la + lb + lc ≤ 420 * sd + (t5 + 1) ∧ c' ≤ c' + la + lb + lc := by omega
theorem kpL_ex {c1 hi b0 bh : Nat} (h : frM exP exT I J) (hk : ∀ p, p < c1 ∨ hi ≤ p → J 394 p = I 394 p ∧ J 395 p = I 395 p) : kpL c1 hi b0 bh I J := by
  have e : ∀ a, 389 ≤ a → a ≤ 393 → J a = I a := fun a h1 h2 => h.1 a (by omega) (by unfold exP; omega)
  refine ⟨hk, fun b _ => ?_⟩
  rw [e 389 (by decide) (by decide), e 390 (by decide) (by decide), e 391 (by decide) (by decide), e 392 (by decide) (by decide), e 393 (by decide) (by decide)]; exact ⟨rfl, rfl, rfl, rfl, rfl⟩
theorem kpL_up {c0 hi b0 bh a j : Nat} {v : Int} (h : kpL c0 hi b0 bh I J) (ha : ¬ (389 ≤ a ∧ a ≤ 395)) : kpL c0 hi b0 bh I (up J a j v) := by
  refine ⟨fun p hp => ?_, fun b hb' => ?_⟩
  · rw [up_ne (by omega), up_ne (by omega)]; exact h.1 p hp
  · rw [up_ne (by omega), up_ne (by omega), up_ne (by omega), up_ne (by omega), up_ne (by omega)]; exact h.2 b hb'
theorem tkLw (h : frM (fun _ => False) tkT I J) : frM lwP lwT I J := frM_sub h (fun a h => h.elim) (fun a h => by unfold tkT at h; unfold lwT; omega)
set_option maxHeartbeats 4000000 in
theorem w_tellLaw (hk : ∀ i, kR (K i)) (hR : rdM K V ps I i) (ho : I 369 12 = 0) {sd q c0 b0 : Nat} (hsd : sd ≤ 1) (hq : q < 3) (h19 : I 369 19 = (sd : Int)) (h32 : I 369 32 = (b0 : Int)) (h38 : I 369 38 = (c0 : Int)) (hb : 4 * b0 + 1 ≤ i + 520 * sd) (hb' : 130 * sd ≤ b0) (hc : c0 ≤ 420 * sd + i) (hc' : 420 * sd ≤ c0) : wm t d rt (f_X12_tellLaw 369 (q : Int) (mm t d rt I)) (fun _ J => lmQ K V ps sd q c0 b0 I (bnd (tokR K 11 i) fun t1 _ => bnd (lwR K V 4 t1 []) fun t2 l => bnd (tokR K 10 t2) fun t3 _ => eok t3 l) J) := by
  have li := hR.2.2.2.1
  have z0 : jd_z 0 = 0 := by decide
  have z1 : jd_z 1 = 1 := by decide
  unfold f_X12_tellLaw
  (repeat (first | (with_reducible apply wm_o; focus (simp (disch := omega) only [wr_id, Int.toNat_natCast, Int.reduceToNat, tn_lk, tn_kl, if_pos, if_neg, ↓reduceIte, and_self, and_true, true_and, FM]; with_reducible rfl)) | (with_reducible apply wm_q) | (with_reducible apply wm_c; focus (first | assumption | decide +kernel)) | (with_reducible apply wm_d; focus (simp (disch := omega) only [wr_id, Int.toNat_natCast, Int.reduceToNat, tn_lk, tn_kl, if_pos, if_neg, ↓reduceIte, and_self, and_true, true_and, FM]; with_reducible rfl)) | (with_reducible apply wm_t; focus (first | omega | (simp (disch := omega) only [wr_id, FM]; omega) | (simp (disch := omega) only [wr_id, FM]; done))) | (with_reducible apply wm_f; focus (first | omega | (simp (disch := omega) only [wr_id, FM]; omega) | (simp (disch := omega) only [wr_id, FM]; done)))))
  generalize eR : (bnd (tokR K 11 i) fun t1 _ => bnd (lwR K V 4 t1 []) fun t2 l => bnd (tokR K 10 t2) fun t3 _ => eok t3 l) = R
  refine wm_b (w_must hk hR (j := 11) (z := 5) rfl (Or.inr (Or.inl (by decide))) (by decide)) (fun r J1 hJ1 => ?_)
  obtain ⟨m1, m2⟩ := hJ1
  have fr1 : frM lwP lwT I J1 := frM_sub m1 (fun a h => h.elim) (fun a h => by unfold tkT at h; unfold lwT; omega)
  have kp1 : kpL c0 (420 * sd + 420) b0 (130 * sd + 130) I J1 := kpL_fr m1 (fun a _ _ h => h)
  have j32 : J1 369 32 = (b0 : Int) := by rw [m1.2 32 (by unfold tkT; omega)]; exact h32
  have j38 : J1 369 38 = (c0 : Int) := by rw [m1.2 38 (by unfold tkT; omega)]; exact h38
  have j12 : J1 369 12 = 0 := by rw [m1.2 12 (by unfold tkT; omega)]; exact ho
  (repeat (first | (with_reducible apply wm_o; focus (simp (disch := omega) only [wr_id, Int.toNat_natCast, Int.reduceToNat, tn_lk, tn_kl, if_pos, if_neg, ↓reduceIte, and_self, and_true, true_and, FM, j32]; with_reducible rfl)) | (with_reducible apply wm_q) | (with_reducible apply wm_c; focus (first | assumption | decide +kernel)) | (with_reducible apply wm_d; focus (simp (disch := omega) only [wr_id, Int.toNat_natCast, Int.reduceToNat, tn_lk, tn_kl, if_pos, if_neg, ↓reduceIte, and_self, and_true, true_and, FM, j32]; with_reducible rfl)) | (with_reducible apply wm_t; focus (first | omega | (simp (disch := omega) only [wr_id, FM, j32]; omega) | (simp (disch := omega) only [wr_id, FM, j32]; done))) | (with_reducible apply wm_f; focus (first | omega | (simp (disch := omega) only [wr_id, FM, j32]; omega) | (simp (disch := omega) only [wr_id, FM, j32]; done)))))
  refine wm_lp2 6 (fun n y J => y = (n : Int) ∧ ((n ≤ 4 ∧ ∃ (i' b c' : Nat) (acc : List LwI), (bnd (lwR K V (4 - n) i' acc) fun t2 l => bnd (tokR K 10 t2) fun t3 _ => eok t3 l) = R ∧ rdM K V ps J i' ∧ J 369 12 = 0 ∧ J 369 32 = (b : Int) ∧ J 369 38 = (c' : Int) ∧ brM J (420 * sd) c' b0 acc b ∧ kpL c0 (420 * sd + 420) b0 (130 * sd + 130) I J ∧ frM lwP lwT I J ∧ b0 ≤ b ∧ 4 * b + 2 ≤ i' + 520 * sd ∧ c0 ≤ c' ∧ c' ≤ 420 * sd + i' ∧ ∀ x, x ∈ acc → sOK x.1 ∧ sOK x.2.1 ∧ sOK x.2.2) ∨ (n ≤ 5 ∧ ∃ (b cc qq : Nat), R = efl cc qq ∧ idM ps c0 (420 * sd + 420) b0 (130 * sd + 130) I J b cc qq ∧ b ≤ 130 * sd + 110))) ?_ (jfuel_n (by decide)) ⟨rfl, ?_⟩
  rotate_left
  · rcases m2 with ⟨e1, r1⟩ | ⟨cc, qq, e1, f1⟩
    · rw [e1, bnd_ok] at eR
      exact Or.inl ⟨by decide, i + 1, b0, c0, [], eR, r1, j12, j32, j38, rfl, kp1, fr1, Nat.le_refl _, by omega, Nat.le_refl _, by omega, fun x hx => absurd hx (List.not_mem_nil)⟩
    · rw [e1, bnd_fl] at eR
      exact Or.inr ⟨by decide, b0, cc, qq, eR.symm, ⟨fr1, kp1, f1, j32, Nat.le_refl _⟩, by omega⟩
  clear m1 m2 fr1 kp1 j32 j38 j12 J1
  rintro n hn y J ⟨rfl, hcase⟩ rec hrec
  rcases hcase with ⟨hn4, i', b, c', acc, a0, a1, a2, a3, a4, a5, a6, a7, a8, a9, a10, a11, a12⟩ | ⟨hn5, b, cc, qq, e, hid, hb110⟩
  rotate_left
  · -- idle
    have hid' := hid
    obtain ⟨h1, h2, h3, h4, h5⟩ := hid
    obtain ⟨d1, d2, d3, s, d4, d5⟩ := h3
    have id1 : idM ps c0 (420 * sd + 420) b0 (130 * sd + 130) I (up J 389 b 0) b cc qq := id_br (by decide) (by omega) hid'
    (repeat (first | (with_reducible apply wm_o; focus (simp (disch := omega) only [wr_id, Int.toNat_natCast, Int.reduceToNat, tn_lk, tn_kl, if_pos, if_neg, ↓reduceIte, and_self, and_true, true_and, FM, d2, h4, z0]; with_reducible rfl)) | (with_reducible apply wm_q) | (with_reducible apply wm_c; focus (first | assumption | decide +kernel)) | (with_reducible apply wm_d; focus (simp (disch := omega) only [wr_id, Int.toNat_natCast, Int.reduceToNat, tn_lk, tn_kl, if_pos, if_neg, ↓reduceIte, and_self, and_true, true_and, FM, d2, h4, z0]; with_reducible rfl)) | (with_reducible apply wm_t; focus (first | omega | (simp (disch := omega) only [wr_id, FM, d2, h4, z0]; omega) | (simp (disch := omega) only [wr_id, FM, d2, h4, z0]; done))) | (with_reducible apply wm_f; focus (first | omega | (simp (disch := omega) only [wr_id, FM, d2, h4, z0]; omega) | (simp (disch := omega) only [wr_id, FM, d2, h4, z0]; done)))))
    refine wm_b (w_idTerm (by omega) (by omega) id1) (fun r X hX => ?_)
    have mf := q_mustF (t := t) (d := d) (rt := rt) hX.2.2.1 (z := 4)
    have x13 := hX.2.2.1.2.1
    have x12 := hX.2.2.1.1
    (repeat (first | (with_reducible apply wm_o; focus (simp (disch := omega) only [wr_id, Int.toNat_natCast, Int.reduceToNat, tn_lk, tn_kl, if_pos, if_neg, ↓reduceIte, and_self, and_true, true_and, FM, mf, x13]; with_reducible rfl)) | (with_reducible apply wm_q) | (with_reducible apply wm_c; focus (first | assumption | decide +kernel)) | (with_reducible apply wm_d; focus (simp (disch := omega) only [wr_id, Int.toNat_natCast, Int.reduceToNat, tn_lk, tn_kl, if_pos, if_neg, ↓reduceIte, and_self, and_true, true_and, FM, mf, x13]; with_reducible rfl)) | (with_reducible apply wm_t; focus (first | omega | (simp (disch := omega) only [wr_id, FM, mf, x13]; omega) | (simp (disch := omega) only [wr_id, FM, mf, x13]; done))) | (with_reducible apply wm_f; focus (first | omega | (simp (disch := omega) only [wr_id, FM, mf, x13]; omega) | (simp (disch := omega) only [wr_id, FM, mf, x13]; done)))))
    exact wm_r (id_lm e hX)
  have li' := a1.2.2.2.1
  have a13 := a1.2.2.1
  have x27 := q_is (t := t) (d := d) (rt := rt) hk a1 (j := 27) (z := 27) rfl (Or.inr (Or.inr (by decide)))
  by_cases c27 : K i' = 27
  · rw [if_pos c27] at x27
    by_cases cn : n = 4
    · subst cn
      have a0 : (bnd (lwR K V 0 i' acc) fun t2 l => bnd (tokR K 10 t2) fun t3 _ => eok t3 l) = R := a0
      rw [lwR, if_pos c27, bnd_fl] at a0
      have fl := q_fail (t := t) (d := d) (rt := rt) a1 (c := 2) (z := 2) rfl
      have F := flI_ok a1 (c := 2) (Or.inr rfl)
      have f13 := F.2.1
      have f13' : flI ps J 2 i' 369 13 = 2 := f13
      have ffr : frM (fun _ => False) (fun j => j = 13 ∨ j = 14) J (flI ps J 2 i') := flI_frm (Or.inl rfl) (Or.inr rfl)
      (repeat (first | (with_reducible apply wm_o; focus (simp (disch := omega) only [wr_id, Int.toNat_natCast, Int.reduceToNat, tn_lk, tn_kl, if_pos, if_neg, ↓reduceIte, and_self, and_true, true_and, FM, a13, x27, fl, f13']; with_reducible rfl)) | (with_reducible apply wm_q) | (with_reducible apply wm_c; focus (first | assumption | decide +kernel)) | (with_reducible apply wm_d; focus (simp (disch := omega) only [wr_id, Int.toNat_natCast, Int.reduceToNat, tn_lk, tn_kl, if_pos, if_neg, ↓reduceIte, and_self, and_true, true_and, FM, a13, x27, fl, f13']; with_reducible rfl)) | (with_reducible apply wm_t; focus (first | omega | (simp (disch := omega) only [wr_id, FM, a13, x27, fl, f13']; omega) | (simp (disch := omega) only [wr_id, FM, a13, x27, fl, f13']; done))) | (with_reducible apply wm_f; focus (first | omega | (simp (disch := omega) only [wr_id, FM, a13, x27, fl, f13']; omega) | (simp (disch := omega) only [wr_id, FM, a13, x27, fl, f13']; done)))))
      refine wm_r (id_lm (b := b) a0.symm ⟨frM_trans a7 (frM_sub ffr (fun a h => h.elim) (fun a h => by unfold lwT; omega)), kpL_trans a6 (kpL_fr ffr (fun a _ _ h => h)) (Nat.le_refl _) (Nat.le_refl _), F, ?_, a8⟩)
      rw [ffr.2 32 (by decide)]; exact a3
    · obtain ⟨m, em⟩ : ∃ m, 4 - n = m + 1 := ⟨3 - n, by omega⟩
      have hm4 : 4 - (n + 1) = m := by omega
      have hn5 : n + 1 ≤ 6 := by omega
      have hn6 : n + 1 ≤ 4 := by omega
      have hn7 : (n : Int) + 1 = ((n + 1 : Nat) : Int) := by omega
      rw [em, lwR, if_pos c27] at a0
      have _QQ : (fun (_ : Int) (X : Nat → Nat → Int) => lmQ K V ps sd q c0 b0 I R X) = (fun (_ : Int) (X : Nat → Nat → Int) => lmQ K V ps sd q c0 b0 I R X) := rfl
      have b3b : ∀ X cc qq, R = efl cc qq → idM ps c0 (420 * sd + 420) b0 (130 * sd + 130) I X b cc qq → wm t d rt (jcall 12 (mm t d rt X) 369 (f_X12_term 369 (mm t d rt X)) fun _ M44 => jcall 12 M44 369 (f_X12_must 369 29 M44) fun _ M46 => rec ((n : Int) + 1) M46) (fun _ X => lmQ K V ps sd q c0 b0 I R X) := by
        intro X cc qq e hid
        refine wm_c (by decide +kernel) (wm_b (w_idTerm (by omega) (by omega) hid) (fun r Y hY => ?_))
        refine wm_c (by decide +kernel) (wm_d (q_mustF hY.2.2.1) ?_)
        exact hrec (n + 1) _ _ (by omega) (by omega) ⟨by omega, Or.inr ⟨by omega, b + 1, cc, qq, e, hY, by omega⟩⟩
      have b3 : ∀ X cc qq, R = efl cc qq → idM ps c0 (420 * sd + 420) b0 (130 * sd + 130) I X b cc qq → wm t d rt (jbd (f_X12_must 369 28 (mm t d rt X)) fun _ M42 => jcall 12 M42 369 (f_X12_term 369 M42) fun _ M44 => jcall 12 M44 369 (f_X12_must 369 29 M44) fun _ M46 => rec ((n : Int) + 1) M46) (fun _ X => lmQ K V ps sd q c0 b0 I R X) := by
        intro X cc qq e hid
        exact wm_d (q_mustF hid.2.2.1) (b3b X cc qq e hid)
      have b2b : ∀ X cc qq, R = efl cc qq → idM ps c0 (420 * sd + 420) b0 (130 * sd + 130) I X b cc qq → wm t d rt ((jm_gR 12 35 (mm t d rt X) 369).bind fun r36 =>
          (jm_gI 12 32 (mm t d rt X) 369).bind fun v37 =>
          (jm_gI 12 38 (mm t d rt X) 369).bind fun v38 =>
          (jm_st 20 (mm t d rt X) r36 v37 v38).bind fun M39 =>
          (jm_gI 12 13 M39 369).bind fun v40 =>
          jjq (fun (M_110 : jMem) =>
          jcall 12 M_110 369 (f_X12_must 369 28 M_110) fun _ M42 =>
          jcall 12 M42 369 (f_X12_term 369 M42) fun _ M44 =>
          jcall 12 M44 369 (f_X12_must 369 29 M44) fun _ M46 =>
          rec ((n : Int) + 1) M46) fun j_110 =>
          if jd_wr v40 = 0 then (jcall 12 M39 369 (f_X12_expression 369 M39) fun _ M48 =>
          j_110 M48)
          else (j_110 M39)) (fun _ X => lmQ K V ps sd q c0 b0 I R X) := by
        intro X cc qq e hid
        have h4 := hid.2.2.2.1
        obtain ⟨v38, hv⟩ : ∃ v, X 369 38 = v := ⟨_, rfl⟩
        have id2 : idM ps c0 (420 * sd + 420) b0 (130 * sd + 130) I (up X 391 b v38) b cc qq := id_br (by decide) (by omega) hid
        have f13 := id2.2.2.1.2.1
        have f12 := id2.2.2.1.1
        refine wm_o (a := 391) (by simp only [FM]) ?_
        refine wm_o (a := (b : Int)) (by rw [← h4]; simp only [FM]) ?_
        refine wm_o (a := v38) (by rw [← hv]; simp only [FM]) ?_
        refine wm_o (a := mm t d rt (up X 391 b v38)) (by simp (disch := omega) only [FM, wr_id, Int.toNat_natCast, if_pos]) ?_
        refine wm_o (a := (cc : Int)) (by rw [← f13]; simp only [FM]) ?_
        refine wm_q (wm_f (by rw [wr_id (by omega) (by omega)]; omega) ?_)
        exact wm_c (by decide +kernel) (b3 _ cc qq e id2)
      have b2 : ∀ X cc qq, R = efl cc qq → idM ps c0 (420 * sd + 420) b0 (130 * sd + 130) I X b cc qq → wm t d rt (jbd (f_X12_must 369 13 (mm t d rt X)) fun _ M35 => (jm_gR 12 35 M35 369).bind fun r36 =>
          (jm_gI 12 32 M35 369).bind fun v37 =>
          (jm_gI 12 38 M35 369).bind fun v38 =>
          (jm_st 20 M35 r36 v37 v38).bind fun M39 =>
          (jm_gI 12 13 M39 369).bind fun v40 =>
          jjq (fun (M_110 : jMem) =>
          jcall 12 M_110 369 (f_X12_must 369 28 M_110) fun _ M42 =>
          jcall 12 M42 369 (f_X12_term 369 M42) fun _ M44 =>
          jcall 12 M44 369 (f_X12_must 369 29 M44) fun _ M46 =>
          rec ((n : Int) + 1) M46) fun j_110 =>
          if jd_wr v40 = 0 then (jcall 12 M39 369 (f_X12_expression 369 M39) fun _ M48 =>
          j_110 M48)
          else (j_110 M39)) (fun _ X => lmQ K V ps sd q c0 b0 I R X) := by
        intro X cc qq e hid
        exact wm_d (q_mustF hid.2.2.1) (b2b X cc qq e hid)
      (repeat (first | (with_reducible apply wm_o; focus (simp (disch := omega) only [wr_id, Int.toNat_natCast, Int.reduceToNat, tn_lk, tn_kl, if_pos, if_neg, ↓reduceIte, and_self, and_true, true_and, FM, a13, x27]; with_reducible rfl)) | (with_reducible apply wm_q) | (with_reducible apply wm_c; focus (first | assumption | decide +kernel)) | (with_reducible apply wm_d; focus (simp (disch := omega) only [wr_id, Int.toNat_natCast, Int.reduceToNat, tn_lk, tn_kl, if_pos, if_neg, ↓reduceIte, and_self, and_true, true_and, FM, a13, x27]; with_reducible rfl)) | (with_reducible apply wm_t; focus (first | omega | (simp (disch := omega) only [wr_id, FM, a13, x27]; omega) | (simp (disch := omega) only [wr_id, FM, a13, x27]; done))) | (with_reducible apply wm_f; focus (first | omega | (simp (disch := omega) only [wr_id, FM, a13, x27]; omega) | (simp (disch := omega) only [wr_id, FM, a13, x27]; done)))))
      refine wm_b (w_goesOn a1 (by omega)) (fun r J1 hJ1 => ?_)
      rcases hJ1 with ⟨_, ⟨y1, rfl, y2⟩ | ⟨y1, rfl, y2⟩⟩
      rotate_left
      · -- no room for the if
        rw [if_neg y1, bnd_fl] at a0
        have ffr : frM (fun _ => False) (fun j => j = 13 ∨ j = 14) J (flI ps J 2 i') := flI_frm (Or.inl rfl) (Or.inr rfl)
        have id0 : idM ps c0 (420 * sd + 420) b0 (130 * sd + 130) I (flI ps J 2 i') b 2 i' := ⟨frM_trans a7 (frM_sub ffr (fun a h => h.elim) (fun a h => by unfold lwT; omega)), kpL_trans a6 (kpL_fr ffr (fun a _ _ h => h)) (Nat.le_refl _) (Nat.le_refl _), y2, by rw [ffr.2 32 (by decide)]; exact a3, a8⟩
        generalize flI ps J 2 i' = X at id0
        have h4 := id0.2.2.2.1
        have u32 : up X 389 b 1 369 32 = (b : Int) := by rw [up_ne (by decide)]; exact h4
        obtain ⟨v38, hv⟩ : ∃ v, up X 389 b 1 369 38 = v := ⟨_, rfl⟩
        have id1 : idM ps c0 (420 * sd + 420) b0 (130 * sd + 130) I (up (up X 389 b 1) 390 b v38) b 2 i' := id_br (by decide) (by omega) (id_br (by decide) (by omega) id0)
        have ex := q_expressionF (t := t) (d := d) (rt := rt) id1.2.2.1
        have id2 := id_fd (j := 43) (v := 0) (Or.inl rfl) id1
        (repeat (first | (with_reducible apply wm_o; focus (simp (disch := omega) only [wr_id, Int.toNat_natCast, Int.reduceToNat, tn_lk, tn_kl, if_pos, if_neg, ↓reduceIte, and_self, and_true, true_and, FM, h4, z1, u32, hv, ex]; with_reducible rfl)) | (with_reducible apply wm_q) | (with_reducible apply wm_c; focus (first | assumption | decide +kernel)) | (with_reducible apply wm_d; focus (simp (disch := omega) only [wr_id, Int.toNat_natCast, Int.reduceToNat, tn_lk, tn_kl, if_pos, if_neg, ↓reduceIte, and_self, and_true, true_and, FM, h4, z1, u32, hv, ex]; with_reducible rfl)) | (with_reducible apply wm_t; focus (first | omega | (simp (disch := omega) only [wr_id, FM, h4, z1, u32, hv, ex]; omega) | (simp (disch := omega) only [wr_id, FM, h4, z1, u32, hv, ex]; done))) | (with_reducible apply wm_f; focus (first | omega | (simp (disch := omega) only [wr_id, FM, h4, z1, u32, hv, ex]; omega) | (simp (disch := omega) only [wr_id, FM, h4, z1, u32, hv, ex]; done)))))
        exact b2 _ 2 i' a0.symm id2
      rw [if_pos y1] at a0
      unfold ifR at a0
      have w32 : up J 369 11 ((i' : Int) + 1) 369 32 = (b : Int) := by rw [up_g, if_neg (by decide)]; exact a3
      have u32 : up (up J 369 11 ((i' : Int) + 1)) 389 b 1 369 32 = (b : Int) := by rw [up_ne (by decide)]; exact w32
      have u38 : up (up J 369 11 ((i' : Int) + 1)) 389 b 1 369 38 = (c' : Int) := by rw [up_ne (by decide), up_g, if_neg (by decide)]; exact a4
      (repeat (first | (with_reducible apply wm_o; focus (simp (disch := omega) only [wr_id, Int.toNat_natCast, Int.reduceToNat, tn_lk, tn_kl, if_pos, if_neg, ↓reduceIte, and_self, and_true, true_and, FM, w32, z1, u32, u38]; with_reducible rfl)) | (with_reducible apply wm_q) | (with_reducible apply wm_c; focus (first | assumption | decide +kernel)) | (with_reducible apply wm_d; focus (simp (disch := omega) only [wr_id, Int.toNat_natCast, Int.reduceToNat, tn_lk, tn_kl, if_pos, if_neg, ↓reduceIte, and_self, and_true, true_and, FM, w32, z1, u32, u38]; with_reducible rfl)) | (with_reducible apply wm_t; focus (first | omega | (simp (disch := omega) only [wr_id, FM, w32, z1, u32, u38]; omega) | (simp (disch := omega) only [wr_id, FM, w32, z1, u32, u38]; done))) | (with_reducible apply wm_f; focus (first | omega | (simp (disch := omega) only [wr_id, FM, w32, z1, u32, u38]; omega) | (simp (disch := omega) only [wr_id, FM, w32, z1, u32, u38]; done)))))
      generalize eJ3 : up (up (up J 369 11 ((i' : Int) + 1)) 389 b 1) 390 b (c' : Int) = J3
      have r3 : rdM K V ps J3 (i' + 1) := by rw [← eJ3]; exact rdM_up (by decide) (rdM_up (by decide) y2)
      have f3 : frM lwP lwT I J3 := by rw [← eJ3]; exact frM_up (frM_up (frM_fd a7 (by unfold lwT; omega)) (by decide) (by unfold lwP; omega)) (by decide) (by unfold lwP; omega)
      have k3J : kpL c' (420 * sd + 420) b (130 * sd + 130) J J3 := by rw [← eJ3]; exact kpL_br (kpL_br (kpL_fd (kpL_refl _ _ _ _ _)) (by decide) (by omega)) (by decide) (by omega)
      have k3 : kpL c0 (420 * sd + 420) b0 (130 * sd + 130) I J3 := kpL_trans a6 k3J a10 a8
      have j12 : J3 369 12 = 0 := by rw [← eJ3, up_ne (by decide), up_ne (by decide), up_g, if_neg (by decide)]; exact a2
      have j38 : J3 369 38 = (c' : Int) := by rw [← eJ3, up_ne (by decide)]; exact u38
      have j32 : J3 369 32 = (b : Int) := by rw [← eJ3, up_ne (by decide)]; exact u32
      have j389 : J3 389 b = 1 := by rw [← eJ3, up_ne (by decide), up_s]
      have j390 : J3 390 b = (c' : Int) := by rw [← eJ3, up_s]
      refine wm_b (w_expression hk r3 j12 j38 (hi := 420 * sd + 420) (by omega) (by omega)) (fun r X1 hX1 => ?_)
      obtain ⟨g1, g2, g3⟩ := hX1
      have fX1 : frM lwP lwT I X1 := frM_trans f3 (exLw g1)
      have kX1 : kpL c0 (420 * sd + 420) b0 (130 * sd + 130) I X1 := kpL_trans k3 (kpL_ex g1 g2) a10 (Nat.le_refl _)
      have x132 : X1 369 32 = (b : Int) := by rw [g1.2 32 (by unfold exT; omega)]; exact j32
      have b89 : ∀ a, 389 ≤ a → a ≤ 393 → X1 a = J3 a := fun a h1 h2 => g1.1 a (by omega) (by unfold exP; omega)
      rcases g3 with ⟨t1, a, p1, p2, p3, p4, p5⟩ | ⟨cc, qq, p1, p2⟩
      rotate_left
      · simp only [show (sumD K V 6 (i' + 1) : ER (List CI)) = efl cc qq from p1, bnd_fl] at a0
        refine wm_c (by decide +kernel) ?_
        exact b2 X1 cc qq a0.symm ⟨fX1, kX1, p2, x132, a8⟩
      simp only [show (sumD K V 6 (i' + 1) : ER (List CI)) = eok t1 a from p1, bnd_ok] at a0
      have sl1 := sum_lt p1
      refine wm_c (by decide +kernel) ?_
      refine wm_b (w_must hk p2 (j := 16) (z := 13) rfl (Or.inr (Or.inl (by decide))) (by decide)) (fun r X2 hX2 => ?_)
      obtain ⟨m1, m2⟩ := hX2
      have fX2 : frM lwP lwT I X2 := frM_trans fX1 (tkLw m1)
      have kX2 : kpL c0 (420 * sd + 420) b0 (130 * sd + 130) I X2 := kpL_trans kX1 (kpL_fr m1 (fun a _ _ h => h)) (Nat.le_refl _) (Nat.le_refl _)
      have e2 : ∀ a, a ≠ 369 → X2 a = X1 a := fun a ha => m1.1 a ha (fun h => h)
      have x232 : X2 369 32 = (b : Int) := by rw [m1.2 32 (by unfold tkT; omega)]; exact x132
      rcases m2 with ⟨o1, o2⟩ | ⟨cc, qq, o1, o2⟩
      rotate_left
      · simp only [o1, bnd_fl] at a0
        exact b2b X2 cc qq a0.symm ⟨fX2, kX2, o2, x232, a8⟩
      simp only [o1, bnd_ok] at a0
      have x238 : X2 369 38 = ((c' + a.length : Nat) : Int) := by rw [m1.2 38 (by unfold tkT; omega)]; exact p4
      have x213 := o2.2.2.1
      have x213' : up X2 391 b ((c' + a.length : Nat) : Int) 369 13 = 0 := by rw [up_ne (by decide)]; exact x213
      (repeat (first | (with_reducible apply wm_o; focus (simp (disch := omega) only [wr_id, Int.toNat_natCast, Int.reduceToNat, tn_lk, tn_kl, if_pos, if_neg, ↓reduceIte, and_self, and_true, true_and, FM, x232, x238, x213']; with_reducible rfl)) | (with_reducible apply wm_q) | (with_reducible apply wm_c; focus (first | assumption | decide +kernel)) | (with_reducible apply wm_d; focus (simp (disch := omega) only [wr_id, Int.toNat_natCast, Int.reduceToNat, tn_lk, tn_kl, if_pos, if_neg, ↓reduceIte, and_self, and_true, true_and, FM, x232, x238, x213']; with_reducible rfl)) | (with_reducible apply wm_t; focus (first | omega | (simp (disch := omega) only [wr_id, FM, x232, x238, x213']; omega) | (simp (disch := omega) only [wr_id, FM, x232, x238, x213']; done))) | (with_reducible apply wm_f; focus (first | omega | (simp (disch := omega) only [wr_id, FM, x232, x238, x213']; omega) | (simp (disch := omega) only [wr_id, FM, x232, x238, x213']; done)))))
      generalize eJ4 : up X2 391 b ((c' + a.length : Nat) : Int) = J4
      have r4 : rdM K V ps J4 (t1 + 1) := by rw [← eJ4]; exact rdM_up (by decide) o2
      have f4 : frM lwP lwT I J4 := by rw [← eJ4]; exact frM_up fX2 (by decide) (by unfold lwP; omega)
      have k4 : kpL c0 (420 * sd + 420) b0 (130 * sd + 130) I J4 := by rw [← eJ4]; exact kpL_br kX2 (by decide) (by omega)
      have h12 : J4 369 12 = 0 := by rw [← eJ4, up_ne (by decide), m1.2 12 (by unfold tkT; omega)]; exact p3
      have h38' : J4 369 38 = ((c' + a.length : Nat) : Int) := by rw [← eJ4, up_ne (by decide)]; exact x238
      have h32' : J4 369 32 = (b : Int) := by rw [← eJ4, up_ne (by decide)]; exact x232
      have h391 : J4 391 b = ((c' + a.length : Nat) : Int) := by rw [← eJ4, up_s]
      have e4 : ∀ x, x ≠ 369 → x ≠ 391 → J4 x = X1 x := fun x h1 h2 => by rw [← eJ4, up_ne h2, e2 x h1]
      refine wm_b (w_expression hk r4 h12 h38' (hi := 420 * sd + 420) (by omega) (by omega)) (fun r X3 hX3 => ?_)
      obtain ⟨s1, s2, s3⟩ := hX3
      have fX3 : frM lwP lwT I X3 := frM_trans f4 (exLw s1)
      have kX3 : kpL c0 (420 * sd + 420) b0 (130 * sd + 130) I X3 := kpL_trans k4 (kpL_ex s1 s2) (by omega) (Nat.le_refl _)
      have x332 : X3 369 32 = (b : Int) := by rw [s1.2 32 (by unfold exT; omega)]; exact h32'
      have b389 : ∀ a, 389 ≤ a → a ≤ 393 → X3 a = J4 a := fun a h1 h2 => s1.1 a (by omega) (by unfold exP; omega)
      rcases s3 with ⟨t3, bb, p1', p2', p3', p4', p5'⟩ | ⟨cc, qq, p1', p2'⟩
      rotate_left
      · simp only [show (sumD K V 6 (t1 + 1) : ER (List CI)) = efl cc qq from p1', bnd_fl] at a0
        refine wm_c (by decide +kernel) ?_
        exact b3 X3 cc qq a0.symm ⟨fX3, kX3, p2', x332, a8⟩
      simp only [show (sumD K V 6 (t1 + 1) : ER (List CI)) = eok t3 bb from p1', bnd_ok] at a0
      have sl3 := sum_lt p1'
      refine wm_c (by decide +kernel) ?_
      refine wm_b (w_must hk p2' (j := 28) (z := 28) rfl (Or.inr (Or.inr (by decide))) (by decide)) (fun r X4 hX4 => ?_)
      obtain ⟨n1, n2⟩ := hX4
      have fX4 : frM lwP lwT I X4 := frM_trans fX3 (tkLw n1)
      have kX4 : kpL c0 (420 * sd + 420) b0 (130 * sd + 130) I X4 := kpL_trans kX3 (kpL_fr n1 (fun a _ _ h => h)) (Nat.le_refl _) (Nat.le_refl _)
      have e5 : ∀ a, a ≠ 369 → X4 a = X3 a := fun a ha => n1.1 a ha (fun h => h)
      have x432 : X4 369 32 = (b : Int) := by rw [n1.2 32 (by unfold tkT; omega)]; exact x332
      rcases n2 with ⟨o3, o4⟩ | ⟨cc, qq, o3, o4⟩
      rotate_left
      · simp only [o3, bnd_fl] at a0
        exact b3b X4 cc qq a0.symm ⟨fX4, kX4, o4, x432, a8⟩
      simp only [o3, bnd_ok] at a0
      have x438 : X4 369 38 = ((c' + a.length + bb.length : Nat) : Int) := by rw [n1.2 38 (by unfold tkT; omega)]; exact p4'
      have x412 : X4 369 12 = 0 := by rw [n1.2 12 (by unfold tkT; omega)]; exact p3'
      refine wm_c (by decide +kernel) ?_
      refine wm_b (w_term hk o4 x412 x438 x432 (bh := 130 * sd + 130) (hi := 420 * sd + 420) (by omega) (by omega) (by omega) (by omega) (by omega)) (fun r X5 hX5 => ?_)
      obtain ⟨u1, u2, u3, u4, u5, u6, u7⟩ := hX5
      have fX5 : frM lwP lwT I X5 := frM_trans fX4 u1
      have kX5 : kpL c0 (420 * sd + 420) b0 (130 * sd + 130) I X5 := kpL_trans kX4 u2 (by omega) a8
      rcases u7 with ⟨t5, cs, q1, q2, q3, q4, q5, q6, q7⟩ | ⟨cc, qq, q1, q2⟩
      rotate_left
      · simp only [show (sumD K V 6 (t3 + 1) : ER (List CI)) = efl cc qq from q1, bnd_fl] at a0
        refine wm_c (by decide +kernel) (wm_d (q_mustF q2) ?_)
        exact hrec (n + 1) _ _ (by omega) (by omega) ⟨by omega, Or.inr ⟨by omega, b + 1, cc, qq, a0.symm, ⟨fX5, kX5, q2, u3, by omega⟩, by omega⟩⟩
      simp only [show (sumD K V 6 (t3 + 1) : ER (List CI)) = eok t5 cs from q1, bnd_ok] at a0
      have sl5 := sum_lt q1
      refine wm_c (by decide +kernel) ?_
      refine wm_b (w_must hk q2 (j := 29) (z := 29) rfl (Or.inr (Or.inr (by decide))) (by decide)) (fun r X6 hX6 => ?_)
      obtain ⟨v1, v2⟩ := hX6
      have fX6 : frM lwP lwT I X6 := frM_trans fX5 (tkLw v1)
      have kX6 : kpL c0 (420 * sd + 420) b0 (130 * sd + 130) I X6 := kpL_trans kX5 (kpL_fr v1 (fun a _ _ h => h)) (Nat.le_refl _) (Nat.le_refl _)
      have e6 : ∀ a, a ≠ 369 → X6 a = X5 a := fun a ha => v1.1 a ha (fun h => h)
      have x632 : X6 369 32 = ((b + 1 : Nat) : Int) := by rw [v1.2 32 (by unfold tkT; omega)]; exact u3
      rcases v2 with ⟨o5, o6⟩ | ⟨cc, qq, o5, o6⟩
      rotate_left
      · simp only [o5, bnd_fl] at a0
        exact hrec (n + 1) _ _ (by omega) (by omega) ⟨by omega, Or.inr ⟨by omega, b + 1, cc, qq, a0.symm, ⟨fX6, kX6, o6, x632, by omega⟩, by omega⟩⟩
      simp only [o5, bnd_ok] at a0
      have kk1 : kpL c' (420 * sd + 420) b (130 * sd + 130) J X1 := kpL_trans k3J (kpL_ex g1 g2) (Nat.le_refl _) (Nat.le_refl _)
      have kk2 : kpL c' (420 * sd + 420) b (130 * sd + 130) J J4 := by
        rw [← eJ4]
        exact kpL_br (kpL_trans kk1 (kpL_fr m1 (fun a _ _ h => h)) (Nat.le_refl _) (Nat.le_refl _)) (by decide) (by omega)
      have kk4 : kpL c' (420 * sd + 420) b (130 * sd + 130) J X4 := kpL_trans (kpL_trans kk2 (kpL_ex s1 s2) (Nat.le_add_right _ _) (Nat.le_refl _)) (kpL_fr n1 (fun a _ _ h => h)) (Nat.le_refl _) (Nat.le_refl _)
      have kk6 : kpL c' (420 * sd + 420) b (130 * sd + 130) J X6 := kpL_trans (kpL_trans kk4 u2 (Nat.le_trans (Nat.le_add_right _ _) (Nat.le_add_right _ _)) (Nat.le_refl _)) (kpL_fr v1 (fun a _ _ h => h)) (Nat.le_refl _) (Nat.le_refl _)
      have low2 : ∀ p, p < c' + a.length + bb.length → X6 394 p = X3 394 p ∧ X6 395 p = X3 395 p := fun p hp => by
        obtain ⟨w1, w2⟩ := u2.1 p (Or.inl hp)
        rw [e6 394 (by decide), e6 395 (by decide), w1, w2, e5 394 (by decide), e5 395 (by decide)]
        exact ⟨rfl, rfl⟩
      have low1 : ∀ p, p < c' + a.length → X6 394 p = X1 394 p ∧ X6 395 p = X1 395 p := fun p hp => by
        obtain ⟨w1, w2⟩ := low2 p (Nat.lt_of_lt_of_le hp (Nat.le_add_right _ _))
        obtain ⟨w3, w4⟩ := s2 p (Or.inl hp)
        rw [w1, w2, w3, w4, e4 394 (by decide) (by decide), e4 395 (by decide) (by decide)]
        exact ⟨rfl, rfl⟩
      have n389 : X6 389 b = 1 := by rw [e6 389 (by decide), u4, e5 389 (by decide), b389 389 (by decide) (by decide), e4 389 (by decide) (by decide), b89 389 (by decide) (by decide)]; exact j389
      have n390 : X6 390 b = (c' : Int) := by rw [e6 390 (by decide), u5, e5 390 (by decide), b389 390 (by decide) (by decide), e4 390 (by decide) (by decide), b89 390 (by decide) (by decide)]; exact j390
      have n391 : X6 391 b = ((c' + a.length : Nat) : Int) := by rw [e6 391 (by decide), u6, e5 391 (by decide), b389 391 (by decide) (by decide)]; exact h391
      have n392 : X6 392 b = ((c' + a.length + bb.length : Nat) : Int) := by rw [e6 392 (by decide)]; exact q6
      have n393 : X6 393 b = ((c' + a.length + bb.length + cs.length : Nat) : Int) := by rw [e6 393 (by decide)]; exact q7
      obtain ⟨nn1, nn2, nn3, nn4, nn5⟩ := num1 a9 a11 sl1 sl3 sl5 a8 a10
      refine hrec (n + 1) _ _ (Nat.lt_succ_self n) hn5 ⟨hn7, Or.inl ⟨hn6, t5 + 1, b + 1, c' + a.length + bb.length + cs.length, acc ++ [(a, bb, cs)], by rw [hm4]; exact a0, o6, ?_, x632, ?_, ?_, kX6, fX6, nn1, nn2, nn3, nn4, fun x hx => ?_⟩⟩
      · rw [v1.2 12 (by unfold tkT; omega)]; exact q3
      · rw [v1.2 38 (by unfold tkT; omega)]; exact q4
      · have c1 : cdAt (X6 394) (X6 395) c' (a.map mkC) := cdAt_congr (fun p z1 z2 => low1 p (by rw [List.length_map] at z2; exact z2)) p5
        have c2 : cdAt (X6 394) (X6 395) (c' + a.length) (bb.map mkC) := cdAt_congr (fun p z1 z2 => low2 p (by rw [List.length_map] at z2; exact z2)) p5'
        have c3 : cdAt (X6 394) (X6 395) (c' + a.length + bb.length) (cs.map mkC) := by
          rw [e6 394 (by decide), e6 395 (by decide)]
          exact q5
        have lo' : 420 * sd ≤ c' := Nat.le_trans hc' a10
        have z1 := brM_hi nn5 (brM_congr kk6 (Nat.le_refl _) a5)
        have z2 := brM_one (lo := 420 * sd) (hi := c' + a.length + bb.length + cs.length) n389 n390 n391 n392 n393 c1 c2 c3 lo' (Nat.le_refl _)
        exact brM_snoc z1 z2
      · rcases List.mem_append.mp hx with hx | hx
        · exact a12 x hx
        · rw [List.mem_singleton] at hx
          rw [hx]
          exact ⟨sum_ok p1, sum_ok p1', sum_ok q1⟩
  · rw [if_neg c27] at x27
    have a0' : (bnd (bnd (sumD K V 6 i' : ER (List CI)) fun t' x => eok t' (acc, x)) fun t2 l => bnd (tokR K 10 t2) fun t3 _ => eok t3 l) = R := by
      rw [← a0]
      cases hm : 4 - n with
      | zero => rw [lwR, if_neg c27]
      | succ m => rw [lwR, if_neg c27]
    (repeat (first | (with_reducible apply wm_o; focus (simp (disch := omega) only [wr_id, Int.toNat_natCast, Int.reduceToNat, tn_lk, tn_kl, if_pos, if_neg, ↓reduceIte, and_self, and_true, true_and, FM, a13, x27, a3, z0]; with_reducible rfl)) | (with_reducible apply wm_q) | (with_reducible apply wm_c; focus (first | assumption | decide +kernel)) | (with_reducible apply wm_d; focus (simp (disch := omega) only [wr_id, Int.toNat_natCast, Int.reduceToNat, tn_lk, tn_kl, if_pos, if_neg, ↓reduceIte, and_self, and_true, true_and, FM, a13, x27, a3, z0]; with_reducible rfl)) | (with_reducible apply wm_t; focus (first | omega | (simp (disch := omega) only [wr_id, FM, a13, x27, a3, z0]; omega) | (simp (disch := omega) only [wr_id, FM, a13, x27, a3, z0]; done))) | (with_reducible apply wm_f; focus (first | omega | (simp (disch := omega) only [wr_id, FM, a13, x27, a3, z0]; omega) | (simp (disch := omega) only [wr_id, FM, a13, x27, a3, z0]; done)))))
    have rd1 : rdM K V ps (up J 389 b 0) i' := rdM_up (by decide) a1
    have fr1 : frM lwP lwT I (up J 389 b 0) := frM_up a7 (by decide) (by unfold lwP; omega)
    have kp1 : kpL c0 (420 * sd + 420) b0 (130 * sd + 130) I (up J 389 b 0) := kpL_br a6 (by decide) (by omega)
    have u12 : up J 389 b 0 369 12 = 0 := by rw [up_ne (by decide)]; exact a2
    have u38 : up J 389 b 0 369 38 = (c' : Int) := by rw [up_ne (by decide)]; exact a4
    have u32 : up J 389 b 0 369 32 = (b : Int) := by rw [up_ne (by decide)]; exact a3
    refine wm_b (w_term hk rd1 u12 u38 u32 (bh := 130 * sd + 130) (hi := 420 * sd + 420) (by omega) (by omega) (by omega) (by omega) (by omega)) (fun r X hX => ?_)
    obtain ⟨g1, g2, g3, g4, g5, g6, g7⟩ := hX
    have frX : frM lwP lwT I X := frM_trans fr1 g1
    have kpX : kpL c0 (420 * sd + 420) b0 (130 * sd + 130) I X := kpL_trans kp1 g2 a10 a8
    rcases g7 with ⟨t', cs, q1, q2, q3, q4, q5, q6, q7⟩ | ⟨cc, qq, q1, q2⟩
    · have sl := sum_lt q1
      rw [show (sumD K V 6 i' : ER (List CI)) = eok t' cs from q1, bnd_ok, bnd_ok] at a0'
      refine wm_c (by decide +kernel) ?_
      refine wm_b (w_must hk q2 (j := 10) (z := 4) rfl (Or.inr (Or.inl (by decide))) (by decide)) (fun r Y hY => ?_)
      obtain ⟨m1, m2⟩ := hY
      have frY : frM lwP lwT I Y := frM_trans frX (tkLw m1)
      have kpY : kpL c0 (420 * sd + 420) b0 (130 * sd + 130) I Y := kpL_trans kpX (kpL_fr m1 (fun a _ _ h => h)) (Nat.le_refl _) (Nat.le_refl _)
      have eY : ∀ a, a ≠ 369 → Y a = X a := fun a ha => m1.1 a ha (fun h => h)
      have y32 : Y 369 32 = ((b + 1 : Nat) : Int) := by rw [m1.2 32 (by unfold tkT; omega)]; exact g3
      have y19 : Y 369 19 = (sd : Int) := by rw [frY.2 19 (by unfold lwT; omega)]; exact h19
      rcases m2 with ⟨e1, r1⟩ | ⟨cc, qq, e1, f1⟩
      · rw [e1, bnd_ok] at a0'
        have y13 := r1.2.2.1
        have e3 : 3 * (sd : Int) + (q : Int) = ((3 * sd + q : Nat) : Int) := by omega
        have v19 : up Y 387 (3 * sd + q) (b0 : Int) 369 19 = (sd : Int) := by rw [up_ne (by decide)]; exact y19
        have v32 : up Y 387 (3 * sd + q) (b0 : Int) 369 32 = ((b + 1 : Nat) : Int) := by rw [up_ne (by decide)]; exact y32
        (repeat (first | (with_reducible apply wm_o; focus (simp (disch := omega) only [wr_id, Int.toNat_natCast, Int.reduceToNat, tn_lk, tn_kl, if_pos, if_neg, ↓reduceIte, and_self, and_true, true_and, FM, y13, y19, e3, v19, v32]; with_reducible rfl)) | (with_reducible apply wm_q) | (with_reducible apply wm_c; focus (first | assumption | decide +kernel)) | (with_reducible apply wm_d; focus (simp (disch := omega) only [wr_id, Int.toNat_natCast, Int.reduceToNat, tn_lk, tn_kl, if_pos, if_neg, ↓reduceIte, and_self, and_true, true_and, FM, y13, y19, e3, v19, v32]; with_reducible rfl)) | (with_reducible apply wm_t; focus (first | omega | (simp (disch := omega) only [wr_id, FM, y13, y19, e3, v19, v32]; omega) | (simp (disch := omega) only [wr_id, FM, y13, y19, e3, v19, v32]; done))) | (with_reducible apply wm_f; focus (first | omega | (simp (disch := omega) only [wr_id, FM, y13, y19, e3, v19, v32]; omega) | (simp (disch := omega) only [wr_id, FM, y13, y19, e3, v19, v32]; done)))))
        have f0 : frM lxP lwT I (up (up Y 387 (3 * sd + q) (b0 : Int)) 388 (3 * sd + q) ((b + 1 : Nat) : Int)) := frM_up (frM_up (lx_sub frY) (by decide) (Or.inl rfl)) (by decide) (Or.inr (Or.inl rfl))
        have hz : ∀ a, a ≠ 387 → a ≠ 388 → up (up Y 387 (3 * sd + q) (b0 : Int)) 388 (3 * sd + q) ((b + 1 : Nat) : Int) a = Y a := fun a h1 h2 => by rw [up_ne h2, up_ne h1]
        have lwN : lwM X b [] cs (b + 1) := ⟨by rw [g4, up_s], ⟨c', q6, q7, q5, by omega⟩, rfl⟩
        have brX : brM X (420 * sd) c' b0 acc b := by
          have k2 : kpL c' (420 * sd + 420) b (130 * sd + 130) J X := kpL_trans (kpL_br (kpL_refl _ _ _ _ _) (by decide) (by omega)) g2 (Nat.le_refl _) (Nat.le_refl _)
          exact brM_congr k2 (Nat.le_refl _) a5
        have rgX' := brM_rg brX
        refine wm_r ⟨f0, kpL_up (kpL_up kpY (by decide)) (by decide), Or.inl ⟨t' + 1, (acc, cs), b + 1, c' + cs.length, a0'.symm, rdM_up (by decide) (rdM_up (by decide) r1), ?_, ?_, ?_, by omega, by omega, by omega, by omega, ?_, ?_, ?_, ⟨a12, sum_ok q1⟩, fun x x1 x2 => ?_⟩⟩
        · rw [hz _ (by decide) (by decide), m1.2 12 (by unfold tkT; omega)]; exact q3
        · rw [hz _ (by decide) (by decide)]; exact y32
        · rw [hz _ (by decide) (by decide), m1.2 38 (by unfold tkT; omega)]; exact q4
        · rw [up_ne (by decide), up_row, frY.1 387 (by decide) (by unfold lwP; omega)]
        · rw [up_row, up_ne (by decide), frY.1 388 (by decide) (by unfold lwP; omega)]
        · refine lwM_frm ⟨?_, ?_, ?_, ?_, ?_, ?_, ?_⟩ (brM_end (by omega) brX lwN)
          all_goals rw [hz _ (by decide) (by decide), eY _ (by decide)]
        · rw [hz 392 (by decide) (by decide), hz 393 (by decide) (by decide), hz 389 (by decide) (by decide), hz 390 (by decide) (by decide), eY 392 (by decide), eY 393 (by decide), eY 389 (by decide), eY 390 (by decide)]
          by_cases ex : x = b
          · subst ex
            rw [q6, q7, g4, up_s]
            exact ⟨by omega, by omega, fun h => absurd h (by decide)⟩
          · obtain ⟨w1, w2, w3⟩ := rgX' x x1 (by omega)
            exact ⟨w1, by omega, fun _ => w3⟩
      · rw [e1, bnd_fl] at a0'
        have f13 := f1.2.1
        have f12 := f1.1
        (repeat (first | (with_reducible apply wm_o; focus (simp (disch := omega) only [wr_id, Int.toNat_natCast, Int.reduceToNat, tn_lk, tn_kl, if_pos, if_neg, ↓reduceIte, and_self, and_true, true_and, FM, f13]; with_reducible rfl)) | (with_reducible apply wm_q) | (with_reducible apply wm_c; focus (first | assumption | decide +kernel)) | (with_reducible apply wm_d; focus (simp (disch := omega) only [wr_id, Int.toNat_natCast, Int.reduceToNat, tn_lk, tn_kl, if_pos, if_neg, ↓reduceIte, and_self, and_true, true_and, FM, f13]; with_reducible rfl)) | (with_reducible apply wm_t; focus (first | omega | (simp (disch := omega) only [wr_id, FM, f13]; omega) | (simp (disch := omega) only [wr_id, FM, f13]; done))) | (with_reducible apply wm_f; focus (first | omega | (simp (disch := omega) only [wr_id, FM, f13]; omega) | (simp (disch := omega) only [wr_id, FM, f13]; done)))))
        exact wm_r (id_lm a0'.symm ⟨frY, kpY, f1, y32, by omega⟩)
    · rw [show (sumD K V 6 i' : ER (List CI)) = efl cc qq from q1, bnd_fl, bnd_fl] at a0'
      have mf := q_mustF (t := t) (d := d) (rt := rt) q2 (z := 4)
      have f13 := q2.2.1
      have f12 := q2.1
      (repeat (first | (with_reducible apply wm_o; focus (simp (disch := omega) only [wr_id, Int.toNat_natCast, Int.reduceToNat, tn_lk, tn_kl, if_pos, if_neg, ↓reduceIte, and_self, and_true, true_and, FM, mf, f13]; with_reducible rfl)) | (with_reducible apply wm_q) | (with_reducible apply wm_c; focus (first | assumption | decide +kernel)) | (with_reducible apply wm_d; focus (simp (disch := omega) only [wr_id, Int.toNat_natCast, Int.reduceToNat, tn_lk, tn_kl, if_pos, if_neg, ↓reduceIte, and_self, and_true, true_and, FM, mf, f13]; with_reducible rfl)) | (with_reducible apply wm_t; focus (first | omega | (simp (disch := omega) only [wr_id, FM, mf, f13]; omega) | (simp (disch := omega) only [wr_id, FM, mf, f13]; done))) | (with_reducible apply wm_f; focus (first | omega | (simp (disch := omega) only [wr_id, FM, mf, f13]; omega) | (simp (disch := omega) only [wr_id, FM, mf, f13]; done)))))
      exact wm_r (id_lm a0'.symm ⟨frX, kpX, q2, g3, by omega⟩)
end MM
