/-! ===== does the model's text fit its square ===== -/
def hsM (I : Nat → Nat → Int) (sd : Nat) (H : TH) (S : TS) : Prop := I 379 sd = (H.1 : Int) ∧ I 382 sd = (S.1 : Int) ∧ H.1 ≤ 12 ∧ S.1 ≤ 18 ∧ (∀ i, i < H.1 → I 380 (12 * sd + i) = H.2.1 i ∧ I 381 (12 * sd + i) = H.2.2 i) ∧ ∀ i, i < S.1 → I 383 (18 * sd + i) = S.2.1 i ∧ I 384 (18 * sd + i) = S.2.2.1 i ∧ I 385 (18 * sd + i) = S.2.2.2 i
section MSQ
variable {t d rt : Nat} {I J : Nat → Nat → Int} {w h sd : Nat}
theorem w_isSquare (hsd : sd ≤ 1) (h19 : I 369 19 = (sd : Int)) (h0 : I 377 sd = (w : Int)) (h1 : I 378 sd = (h : Int)) {sdd : Int} {H : TH} {S : TS} (hx : hsM I sd H S) (hr : rgX (w : Int) (h : Int) sdd H S) : wm t d rt (f_X12_isSquare 369 (mm t d rt I)) (fun r J => frM (fun a => a = 396) (fun _ => False) I J ∧ r = if fitB w h H S then 1 else 0) := by
  obtain ⟨x3, x4, x5, x6, x7, x8⟩ := hx
  obtain ⟨r1, r2, r3, r4, r5, r6, r7, r8⟩ := hr
  have hw : 2 ≤ w ∧ w ≤ 6 := by omega
  have hh : 2 ≤ h ∧ h ≤ 6 := by omega
  have z0 : jd_z 0 = 0 := by decide
  unfold f_X12_isSquare
  refine wm_lp2 36 (fun n y J => y = (n : Int) ∧ frM (fun a => a = 396) (fun _ => False) I J ∧ ∀ c, c < n → J 396 c = 0) ?_ (jfuel_n (by decide)) ⟨rfl, frM_refl _ _ _, fun c hc => absurd hc (Nat.not_lt_zero _)⟩
  rintro n hn y J ⟨rfl, j1, j2⟩ rec hrec
  by_cases cn : n < 36
  · (repeat (first | (with_reducible apply wm_o; focus (simp (disch := omega) only [wr_id, Int.toNat_natCast, Int.reduceToNat, tn_lk, tn_kl, if_pos, if_neg, ↓reduceIte, and_self, and_true, true_and, FM, z0]; with_reducible rfl)) | (with_reducible apply wm_q) | (with_reducible apply wm_c; focus (first | assumption | decide +kernel)) | (with_reducible apply wm_d; focus (simp (disch := omega) only [wr_id, Int.toNat_natCast, Int.reduceToNat, tn_lk, tn_kl, if_pos, if_neg, ↓reduceIte, and_self, and_true, true_and, FM, z0]; with_reducible rfl)) | (with_reducible apply wm_t; focus (first | omega | (simp (disch := omega) only [wr_id, FM, z0]; omega) | (simp (disch := omega) only [wr_id, FM, z0]; done))) | (with_reducible apply wm_f; focus (first | omega | (simp (disch := omega) only [wr_id, FM, z0]; omega) | (simp (disch := omega) only [wr_id, FM, z0]; done)))))
    refine hrec (n + 1) _ _ (by omega) (by omega) ⟨by omega, frM_up j1 (by decide) rfl, fun c hc => ?_⟩
    rw [up_g]
    by_cases e : c = n
    · rw [if_pos e]
    · rw [if_neg e]; exact j2 c (by omega)
  have j19 : J 369 19 = (sd : Int) := by rw [j1.2 19 (fun h => h)]; exact h19
  (repeat (first | (with_reducible apply wm_o; focus (simp (disch := omega) only [wr_id, Int.toNat_natCast, Int.reduceToNat, tn_lk, tn_kl, if_pos, if_neg, ↓reduceIte, and_self, and_true, true_and, FM, j19]; with_reducible rfl)) | (with_reducible apply wm_q) | (with_reducible apply wm_c; focus (first | assumption | decide +kernel)) | (with_reducible apply wm_d; focus (simp (disch := omega) only [wr_id, Int.toNat_natCast, Int.reduceToNat, tn_lk, tn_kl, if_pos, if_neg, ↓reduceIte, and_self, and_true, true_and, FM, j19]; with_reducible rfl)) | (with_reducible apply wm_t; focus (first | omega | (simp (disch := omega) only [wr_id, FM, j19]; omega) | (simp (disch := omega) only [wr_id, FM, j19]; done))) | (with_reducible apply wm_f; focus (first | omega | (simp (disch := omega) only [wr_id, FM, j19]; omega) | (simp (disch := omega) only [wr_id, FM, j19]; done)))))
  have U0 : tkU J w h (fun _ => false) := fun x y b1 b2 => by rw [j2 _ (by omega)]; rfl
  refine wm_lp2 12 (fun n y X => y = ((12 * sd + n : Nat) : Int) ∧ n ≤ H.1 ∧ frM (fun a => a = 396) (fun _ => False) I X ∧ ∃ U, mkH w h H.2.1 H.2.2 n = some U ∧ tkU X w h U) ?_ (jfuel_n (by decide)) ⟨by omega, Nat.zero_le _, j1, _, rfl, U0⟩
  clear U0 j19 j2 j1 hrec rec cn hn n J
  rintro n hn y J ⟨rfl, j0, j1, U, j2, j3⟩ rec hrec
  have e : ∀ a, a ≠ 369 → a ≠ 396 → J a = I a := fun a b1 b2 => j1.1 a b1 b2
  have j19 : J 369 19 = (sd : Int) := by rw [j1.2 19 (fun h => h)]; exact h19
  have y0 : J 377 sd = (w : Int) := by rw [e _ (by decide) (by decide)]; exact h0
  have y1 : J 378 sd = (h : Int) := by rw [e _ (by decide) (by decide)]; exact h1
  have y3 : J 379 sd = (H.1 : Int) := by rw [e _ (by decide) (by decide)]; exact x3
  have ee : 12 * (sd : Int) + (H.1 : Int) = ((12 * sd + H.1 : Nat) : Int) := by omega
  by_cases cn : n < H.1
  · obtain ⟨u1, u2⟩ := x7 n cn
    obtain ⟨v1, v2, v3, v4⟩ := r7 n cn
    rw [← e 380 (by decide) (by decide)] at u1
    rw [← e 381 (by decide) (by decide)] at u2
    rw [show H.2.1 n = ((H.2.1 n).toNat : Int) by omega] at u1
    rw [show H.2.2 n = ((H.2.2 n).toNat : Int) by omega] at u2
    (repeat (first | (with_reducible apply wm_o; focus (simp (disch := omega) only [wr_id, Int.toNat_natCast, Int.reduceToNat, tn_lk, tn_kl, if_pos, if_neg, ↓reduceIte, and_self, and_true, true_and, FM, j19, y3, ee, u1, u2]; with_reducible rfl)) | (with_reducible apply wm_q) | (with_reducible apply wm_c; focus (first | assumption | decide +kernel)) | (with_reducible apply wm_d; focus (simp (disch := omega) only [wr_id, Int.toNat_natCast, Int.reduceToNat, tn_lk, tn_kl, if_pos, if_neg, ↓reduceIte, and_self, and_true, true_and, FM, j19, y3, ee, u1, u2]; with_reducible rfl)) | (with_reducible apply wm_t; focus (first | omega | (simp (disch := omega) only [wr_id, FM, j19, y3, ee, u1, u2]; omega) | (simp (disch := omega) only [wr_id, FM, j19, y3, ee, u1, u2]; done))) | (with_reducible apply wm_f; focus (first | omega | (simp (disch := omega) only [wr_id, FM, j19, y3, ee, u1, u2]; omega) | (simp (disch := omega) only [wr_id, FM, j19, y3, ee, u1, u2]; done)))))
    refine wm_b (w_takes hsd j19 hw hh y0 y1 j3 (x := (H.2.1 n).toNat) (y := (H.2.2 n).toNat) (by omega) (by omega)) (fun r J2 hJ2 => ?_)
    have em : mkH w h H.2.1 H.2.2 (n + 1) = mkP w h U (H.2.1 n).toNat (H.2.2 n).toNat := by rw [mkH, j2]; rfl
    rcases hJ2 with ⟨U', k1, rfl, k4, k5⟩ | ⟨k1, rfl, rfl⟩
    · rw [k1] at em
      (repeat (first | (with_reducible apply wm_o; focus (simp (disch := omega) only [wr_id, Int.toNat_natCast, Int.reduceToNat, tn_lk, tn_kl, if_pos, if_neg, ↓reduceIte, and_self, and_true, true_and]; with_reducible rfl)) | (with_reducible apply wm_q) | (with_reducible apply wm_c; focus (first | assumption | decide +kernel)) | (with_reducible apply wm_d; focus (simp (disch := omega) only [wr_id, Int.toNat_natCast, Int.reduceToNat, tn_lk, tn_kl, if_pos, if_neg, ↓reduceIte, and_self, and_true, true_and]; with_reducible rfl)) | (with_reducible apply wm_t; focus (first | omega | (simp (disch := omega) only [wr_id]; omega) | (simp (disch := omega) only [wr_id]; done))) | (with_reducible apply wm_f; focus (first | omega | (simp (disch := omega) only [wr_id]; omega) | (simp (disch := omega) only [wr_id]; done)))))
      exact hrec (n + 1) _ _ (by omega) (by omega) ⟨by omega, by omega, frM_trans j1 k4, U', em, k5⟩
    · rw [k1] at em
      (repeat (first | (with_reducible apply wm_o; focus (simp (disch := omega) only [wr_id, Int.toNat_natCast, Int.reduceToNat, tn_lk, tn_kl, if_pos, if_neg, ↓reduceIte, and_self, and_true, true_and]; with_reducible rfl)) | (with_reducible apply wm_q) | (with_reducible apply wm_c; focus (first | assumption | decide +kernel)) | (with_reducible apply wm_d; focus (simp (disch := omega) only [wr_id, Int.toNat_natCast, Int.reduceToNat, tn_lk, tn_kl, if_pos, if_neg, ↓reduceIte, and_self, and_true, true_and]; with_reducible rfl)) | (with_reducible apply wm_t; focus (first | omega | (simp (disch := omega) only [wr_id]; omega) | (simp (disch := omega) only [wr_id]; done))) | (with_reducible apply wm_f; focus (first | omega | (simp (disch := omega) only [wr_id]; omega) | (simp (disch := omega) only [wr_id]; done)))))
      refine wm_z0 ⟨j1, ?_⟩
      unfold fitB
      rw [mkH_none cn em]; rfl
  have en : n = H.1 := by omega
  rw [en] at j2
  have ef : fitB w h H S = (mkS w h S.2.1 S.2.2.1 S.2.2.2 U S.1).isSome := by unfold fitB; rw [j2]; rfl
  (repeat (first | (with_reducible apply wm_o; focus (simp (disch := omega) only [wr_id, Int.toNat_natCast, Int.reduceToNat, tn_lk, tn_kl, if_pos, if_neg, ↓reduceIte, and_self, and_true, true_and, FM, j19, y3, ee]; with_reducible rfl)) | (with_reducible apply wm_q) | (with_reducible apply wm_c; focus (first | assumption | decide +kernel)) | (with_reducible apply wm_d; focus (simp (disch := omega) only [wr_id, Int.toNat_natCast, Int.reduceToNat, tn_lk, tn_kl, if_pos, if_neg, ↓reduceIte, and_self, and_true, true_and, FM, j19, y3, ee]; with_reducible rfl)) | (with_reducible apply wm_t; focus (first | omega | (simp (disch := omega) only [wr_id, FM, j19, y3, ee]; omega) | (simp (disch := omega) only [wr_id, FM, j19, y3, ee]; done))) | (with_reducible apply wm_f; focus (first | omega | (simp (disch := omega) only [wr_id, FM, j19, y3, ee]; omega) | (simp (disch := omega) only [wr_id, FM, j19, y3, ee]; done)))))
  refine wm_lp2 18 (fun m y X => y = ((18 * sd + m : Nat) : Int) ∧ m ≤ S.1 ∧ frM (fun a => a = 396) (fun _ => False) I X ∧ ∃ U', mkS w h S.2.1 S.2.2.1 S.2.2.2 U m = some U' ∧ tkU X w h U') ?_ (jfuel_n (by decide)) ⟨by omega, Nat.zero_le _, j1, U, rfl, j3⟩
  clear e j19 y0 y1 y3 ee j3 j1 hrec rec cn hn en j0 n J
  rintro m hm y J ⟨rfl, j0, j1, U', i2, i3⟩ rec hrec
  have e : ∀ a, a ≠ 369 → a ≠ 396 → J a = I a := fun a b1 b2 => j1.1 a b1 b2
  have j19 : J 369 19 = (sd : Int) := by rw [j1.2 19 (fun h => h)]; exact h19
  have y0 : J 377 sd = (w : Int) := by rw [e _ (by decide) (by decide)]; exact h0
  have y1 : J 378 sd = (h : Int) := by rw [e _ (by decide) (by decide)]; exact h1
  have y4 : J 382 sd = (S.1 : Int) := by rw [e _ (by decide) (by decide)]; exact x4
  have ee : 18 * (sd : Int) + (S.1 : Int) = ((18 * sd + S.1 : Nat) : Int) := by omega
  by_cases cm : m < S.1
  · obtain ⟨u1, u2, u3⟩ := x8 m cm
    obtain ⟨v1, v2, v3, v4, v5, v6⟩ := r8 m cm
    rw [← e 383 (by decide) (by decide)] at u1
    rw [← e 384 (by decide) (by decide)] at u2
    rw [← e 385 (by decide) (by decide)] at u3
    have u1' := u1
    have u2' := u2
    rw [show S.2.1 m = ((S.2.1 m).toNat : Int) by omega] at u1'
    rw [show S.2.2.1 m = ((S.2.2.1 m).toNat : Int) by omega] at u2'
    have em : mkS w h S.2.1 S.2.2.1 S.2.2.2 U (m + 1) = (mkP w h U' (S.2.1 m).toNat (S.2.2.1 m).toNat).bind fun U' => mkP w h U' (S.2.1 m + 1 - S.2.2.2 m).toNat (S.2.2.1 m + S.2.2.2 m).toNat := by rw [mkS, i2]; rfl
    (repeat (first | (with_reducible apply wm_o; focus (simp (disch := omega) only [wr_id, Int.toNat_natCast, Int.reduceToNat, tn_lk, tn_kl, if_pos, if_neg, ↓reduceIte, and_self, and_true, true_and, FM, j19, y4, ee, u3, u1', u2']; with_reducible rfl)) | (with_reducible apply wm_q) | (with_reducible apply wm_c; focus (first | assumption | decide +kernel)) | (with_reducible apply wm_d; focus (simp (disch := omega) only [wr_id, Int.toNat_natCast, Int.reduceToNat, tn_lk, tn_kl, if_pos, if_neg, ↓reduceIte, and_self, and_true, true_and, FM, j19, y4, ee, u3, u1', u2']; with_reducible rfl)) | (with_reducible apply wm_t; focus (first | omega | (simp (disch := omega) only [wr_id, FM, j19, y4, ee, u3, u1', u2']; omega) | (simp (disch := omega) only [wr_id, FM, j19, y4, ee, u3, u1', u2']; done))) | (with_reducible apply wm_f; focus (first | omega | (simp (disch := omega) only [wr_id, FM, j19, y4, ee, u3, u1', u2']; omega) | (simp (disch := omega) only [wr_id, FM, j19, y4, ee, u3, u1', u2']; done)))))
    refine wm_b (w_takes hsd j19 hw hh y0 y1 i3 (x := (S.2.1 m).toNat) (y := (S.2.2.1 m).toNat) (by omega) (by omega)) (fun r J2 hJ2 => ?_)
    rcases hJ2 with ⟨U2, k1, rfl, k4, k5⟩ | ⟨k1, rfl, rfl⟩
    · rw [k1, Option.bind_some] at em
      have f : ∀ a, a ≠ 369 → a ≠ 396 → J2 a = J a := fun a b1 b2 => k4.1 a b1 b2
      have b19 : J2 369 19 = (sd : Int) := by rw [k4.2 19 (fun h => h)]; exact j19
      have b1 : J2 383 (18 * sd + m) = S.2.1 m := by rw [f _ (by decide) (by decide)]; exact u1
      have b2 : J2 384 (18 * sd + m) = S.2.2.1 m := by rw [f _ (by decide) (by decide)]; exact u2
      have a1 : S.2.1 m + 1 - S.2.2.2 m = ((S.2.1 m + 1 - S.2.2.2 m).toNat : Int) := by omega
      have a2 : S.2.2.1 m + S.2.2.2 m = ((S.2.2.1 m + S.2.2.2 m).toNat : Int) := by omega
      (repeat (first | (with_reducible apply wm_o; focus (simp (disch := omega) only [wr_id, Int.toNat_natCast, Int.reduceToNat, tn_lk, tn_kl, if_pos, if_neg, ↓reduceIte, and_self, and_true, true_and, FM, b1, b2]; with_reducible rfl)) | (with_reducible apply wm_q) | (with_reducible apply wm_c; focus (first | assumption | decide +kernel)) | (with_reducible apply wm_d; focus (simp (disch := omega) only [wr_id, Int.toNat_natCast, Int.reduceToNat, tn_lk, tn_kl, if_pos, if_neg, ↓reduceIte, and_self, and_true, true_and, FM, b1, b2]; with_reducible rfl)) | (with_reducible apply wm_t; focus (first | omega | (simp (disch := omega) only [wr_id, FM, b1, b2]; omega) | (simp (disch := omega) only [wr_id, FM, b1, b2]; done))) | (with_reducible apply wm_f; focus (first | omega | (simp (disch := omega) only [wr_id, FM, b1, b2]; omega) | (simp (disch := omega) only [wr_id, FM, b1, b2]; done)))))
      rw [a1, a2]
      refine wm_b (w_takes hsd b19 hw hh (by rw [f _ (by decide) (by decide)]; exact y0) (by rw [f _ (by decide) (by decide)]; exact y1) k5 (x := (S.2.1 m + 1 - S.2.2.2 m).toNat) (y := (S.2.2.1 m + S.2.2.2 m).toNat) (by omega) (by omega)) (fun r J3 hJ3 => ?_)
      rcases hJ3 with ⟨U3, q1, rfl, q4, q5⟩ | ⟨q1, rfl, rfl⟩
      · (repeat (first | (with_reducible apply wm_o; focus (simp (disch := omega) only [wr_id, Int.toNat_natCast, Int.reduceToNat, tn_lk, tn_kl, if_pos, if_neg, ↓reduceIte, and_self, and_true, true_and]; with_reducible rfl)) | (with_reducible apply wm_q) | (with_reducible apply wm_c; focus (first | assumption | decide +kernel)) | (with_reducible apply wm_d; focus (simp (disch := omega) only [wr_id, Int.toNat_natCast, Int.reduceToNat, tn_lk, tn_kl, if_pos, if_neg, ↓reduceIte, and_self, and_true, true_and]; with_reducible rfl)) | (with_reducible apply wm_t; focus (first | omega | (simp (disch := omega) only [wr_id]; omega) | (simp (disch := omega) only [wr_id]; done))) | (with_reducible apply wm_f; focus (first | omega | (simp (disch := omega) only [wr_id]; omega) | (simp (disch := omega) only [wr_id]; done)))))
        exact hrec (m + 1) _ _ (by omega) (by omega) ⟨by omega, by omega, frM_trans j1 (frM_trans k4 q4), U3, by rw [em]; exact q1, q5⟩
      · (repeat (first | (with_reducible apply wm_o; focus (simp (disch := omega) only [wr_id, Int.toNat_natCast, Int.reduceToNat, tn_lk, tn_kl, if_pos, if_neg, ↓reduceIte, and_self, and_true, true_and]; with_reducible rfl)) | (with_reducible apply wm_q) | (with_reducible apply wm_c; focus (first | assumption | decide +kernel)) | (with_reducible apply wm_d; focus (simp (disch := omega) only [wr_id, Int.toNat_natCast, Int.reduceToNat, tn_lk, tn_kl, if_pos, if_neg, ↓reduceIte, and_self, and_true, true_and]; with_reducible rfl)) | (with_reducible apply wm_t; focus (first | omega | (simp (disch := omega) only [wr_id]; omega) | (simp (disch := omega) only [wr_id]; done))) | (with_reducible apply wm_f; focus (first | omega | (simp (disch := omega) only [wr_id]; omega) | (simp (disch := omega) only [wr_id]; done)))))
        refine wm_z0 ⟨frM_trans j1 k4, ?_⟩
        rw [ef, mkS_none cm (em.trans q1)]; rfl
    · (repeat (first | (with_reducible apply wm_o; focus (simp (disch := omega) only [wr_id, Int.toNat_natCast, Int.reduceToNat, tn_lk, tn_kl, if_pos, if_neg, ↓reduceIte, and_self, and_true, true_and]; with_reducible rfl)) | (with_reducible apply wm_q) | (with_reducible apply wm_c; focus (first | assumption | decide +kernel)) | (with_reducible apply wm_d; focus (simp (disch := omega) only [wr_id, Int.toNat_natCast, Int.reduceToNat, tn_lk, tn_kl, if_pos, if_neg, ↓reduceIte, and_self, and_true, true_and]; with_reducible rfl)) | (with_reducible apply wm_t; focus (first | omega | (simp (disch := omega) only [wr_id]; omega) | (simp (disch := omega) only [wr_id]; done))) | (with_reducible apply wm_f; focus (first | omega | (simp (disch := omega) only [wr_id]; omega) | (simp (disch := omega) only [wr_id]; done)))))
      refine wm_z0 ⟨j1, ?_⟩
      rw [ef, mkS_none cm (by rw [em, k1]; rfl)]; rfl
  · have em : m = S.1 := by omega
    (repeat (first | (with_reducible apply wm_o; focus (simp (disch := omega) only [wr_id, Int.toNat_natCast, Int.reduceToNat, tn_lk, tn_kl, if_pos, if_neg, ↓reduceIte, and_self, and_true, true_and, FM, j19, y4, ee]; with_reducible rfl)) | (with_reducible apply wm_q) | (with_reducible apply wm_c; focus (first | assumption | decide +kernel)) | (with_reducible apply wm_d; focus (simp (disch := omega) only [wr_id, Int.toNat_natCast, Int.reduceToNat, tn_lk, tn_kl, if_pos, if_neg, ↓reduceIte, and_self, and_true, true_and, FM, j19, y4, ee]; with_reducible rfl)) | (with_reducible apply wm_t; focus (first | omega | (simp (disch := omega) only [wr_id, FM, j19, y4, ee]; omega) | (simp (disch := omega) only [wr_id, FM, j19, y4, ee]; done))) | (with_reducible apply wm_f; focus (first | omega | (simp (disch := omega) only [wr_id, FM, j19, y4, ee]; omega) | (simp (disch := omega) only [wr_id, FM, j19, y4, ee]; done)))))
    refine wm_z1 ⟨j1, ?_⟩
    rw [ef, ← em, i2]; rfl
end MSQ
