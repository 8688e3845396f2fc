/-! ===== the model's read, whole ===== -/
section MRE
variable {t d rt : Nat} {I J : Nat → Nat → Int} {B : Nat → Nat} {tl lv : Nat}
theorem rg_txI : rgX 4 4 0 (0, fun _ => 0, fun _ => 0) (0, fun _ => 0, fun _ => 0, fun _ => 0) := ⟨by decide, by decide, by decide, by decide, by decide, by decide, fun i hi => absurd hi (Nat.not_lt_zero _), fun i hi => absurd hi (Nat.not_lt_zero _)⟩
set_option maxHeartbeats 20000000 in
theorem w_mread (hB : bOK B tl) (h2 : I 369 2 = (tl : Int)) (hT : ∀ i, i < tl → -128 ≤ I 370 i ∧ I 370 i < 128 ∧ jd_and (I 370 i) 255 = (B i : Int)) (hK : kyK I) (h18 : I 369 18 = (lv : Int)) (hlv : lv < 2) (z0 : ∀ j, 75 ≤ j → I 400 j = 0) (z1 : ∀ j, 75 ≤ j → I 401 j = 0) : wm t d rt (f_X12_read 369 (mm t d rt I)) (fun r J => mrQ (1 - lv) tl (tps B tl) I (tlsR (tK B tl) (tV B tl) 401 0 txI) r J) := by
  have htl := hB.1
  have hv := kv_tok hB
  have hk := kR_tok B tl
  have hm : ∀ a b, a ≤ b → tps B tl a ≤ tps B tl b := fun a b h => tps_mono2 hB h
  obtain ⟨sd, esd⟩ : ∃ sd, sd = 1 - lv := ⟨_, rfl⟩
  have hsd : sd ≤ 1 := by omega
  rw [← esd]
  generalize eR : tlsR (tK B tl) (tV B tl) 401 0 txI = R
  unfold f_X12_read
  (repeat (first | (with_reducible apply wm_o; focus (simp (disch := omega) only [wr_id, Int.toNat_natCast, Int.reduceToNat, tn_lk, tn_kl, if_pos, if_neg, ↓reduceIte, and_self, and_true, true_and, FM, h2]; with_reducible rfl)) | (with_reducible apply wm_q) | (with_reducible apply wm_c; focus (first | assumption | decide +kernel)) | (with_reducible apply wm_d; focus (simp (disch := omega) only [wr_id, Int.toNat_natCast, Int.reduceToNat, tn_lk, tn_kl, if_pos, if_neg, ↓reduceIte, and_self, and_true, true_and, FM, h2]; with_reducible rfl)) | (with_reducible apply wm_t; focus (first | omega | (simp (disch := omega) only [wr_id, FM, h2]; omega) | (simp (disch := omega) only [wr_id, FM, h2]; done))) | (with_reducible apply wm_f; focus (first | omega | (simp (disch := omega) only [wr_id, FM, h2]; omega) | (simp (disch := omega) only [wr_id, FM, h2]; done)))))
  refine wm_lp2 tl (fun n y J => y = (n : Int) ∧ frM (fun a => a = 371) (fun j => j = 4) I J ∧ J 369 4 = (tl : Int) ∧ ∀ i, i < n → J 371 i = I 370 i) ?_ (jfuel_n (by omega)) ⟨rfl, frM_fd (frM_refl _ _ _) rfl, up_s _ _ _ _, fun i hi => absurd hi (Nat.not_lt_zero _)⟩
  rintro n hn y J ⟨rfl, j1, j2, j3⟩ rec hrec
  by_cases cn : n < tl
  · have e0 : J 370 n = I 370 n := by rw [j1.1 370 (by decide) (by decide)]
    have eb := (and255 (hT n cn).1 (hT n cn).2.1).2.2
    (repeat (first | (with_reducible apply wm_o; focus (simp (disch := omega) only [wr_id, Int.toNat_natCast, Int.reduceToNat, tn_lk, tn_kl, if_pos, if_neg, ↓reduceIte, and_self, and_true, true_and, FM, j2, e0, eb]; with_reducible rfl)) | (with_reducible apply wm_q) | (with_reducible apply wm_c; focus (first | assumption | decide +kernel)) | (with_reducible apply wm_d; focus (simp (disch := omega) only [wr_id, Int.toNat_natCast, Int.reduceToNat, tn_lk, tn_kl, if_pos, if_neg, ↓reduceIte, and_self, and_true, true_and, FM, j2, e0, eb]; with_reducible rfl)) | (with_reducible apply wm_t; focus (first | omega | (simp (disch := omega) only [wr_id, FM, j2, e0, eb]; omega) | (simp (disch := omega) only [wr_id, FM, j2, e0, eb]; done))) | (with_reducible apply wm_f; focus (first | omega | (simp (disch := omega) only [wr_id, FM, j2, e0, eb]; omega) | (simp (disch := omega) only [wr_id, FM, j2, e0, eb]; done)))))
    refine hrec (n + 1) _ _ (by omega) (by omega) ⟨by omega, frM_up j1 (by decide) rfl, by rw [up_ne (by decide)]; exact j2, fun i hi => ?_⟩
    rw [up_g]
    by_cases e : i = n
    · rw [if_pos e, e]
    · rw [if_neg e]; exact j3 i (by omega)
  have en : n = tl := by omega
  subst en
  (repeat (first | (with_reducible apply wm_o; focus (simp (disch := omega) only [wr_id, Int.toNat_natCast, Int.reduceToNat, tn_lk, tn_kl, if_pos, if_neg, ↓reduceIte, and_self, and_true, true_and, FM, j2]; with_reducible rfl)) | (with_reducible apply wm_q) | (with_reducible apply wm_c; focus (first | assumption | decide +kernel)) | (with_reducible apply wm_d; focus (simp (disch := omega) only [wr_id, Int.toNat_natCast, Int.reduceToNat, tn_lk, tn_kl, if_pos, if_neg, ↓reduceIte, and_self, and_true, true_and, FM, j2]; with_reducible rfl)) | (with_reducible apply wm_t; focus (first | omega | (simp (disch := omega) only [wr_id, FM, j2]; omega) | (simp (disch := omega) only [wr_id, FM, j2]; done))) | (with_reducible apply wm_f; focus (first | omega | (simp (disch := omega) only [wr_id, FM, j2]; omega) | (simp (disch := omega) only [wr_id, FM, j2]; done)))))
  generalize eJ1 : up J 369 2 0 = J1
  have f1 : frM (fun a => a = 371) (fun j => j = 4 ∨ j = 2) I J1 := by rw [← eJ1]; exact frM_fd (frM_sub j1 (fun a h => h) (fun a h => Or.inl h)) (Or.inr rfl)
  have g2 : J1 369 2 = 0 := by rw [← eJ1, up_s]
  have hT1 : tpM J1 B n := ⟨by rw [← eJ1, up_n (Or.inr (by decide))]; exact j2, fun i hi => by rw [← eJ1, up_ne (by decide), j3 i hi]; exact (hT i hi).2.2⟩
  have hK1 : kyK J1 := fun k hk => by rw [f1.1 376 (by decide) (by decide)]; exact hK k hk
  clear eJ1 hrec rec cn j1 j2 j3 J hn
  refine wm_b (w_cut hB hT1 hK1) (fun r J2 hJ2 => ?_)
  obtain ⟨f2, nn, n1, n2, n3, n4, n5⟩ := hJ2
  have tb := tbm_of n1 n2 n3 n4
  have a18 : J2 369 18 = (lv : Int) := by rw [f2.2 18 (by decide), f1.2 18 (by decide)]; exact h18
  have a2 : J2 369 2 = 0 := by rw [f2.2 2 (by decide)]; exact g2
  have u18 : up (up (up (up J2 369 11 0) 369 12 0) 369 13 0) 369 15 0 369 18 = (lv : Int) := by
    rw [up_n (Or.inr (by decide)), up_n (Or.inr (by decide)), up_n (Or.inr (by decide)), up_n (Or.inr (by decide))]; exact a18
  have es : 1 - (lv : Int) = (sd : Int) := by omega
  (repeat (first | (with_reducible apply wm_o; focus (simp (disch := omega) only [wr_id, Int.toNat_natCast, Int.reduceToNat, tn_lk, tn_kl, if_pos, if_neg, ↓reduceIte, and_self, and_true, true_and, FM, u18]; with_reducible rfl)) | (with_reducible apply wm_q) | (with_reducible apply wm_c; focus (first | assumption | decide +kernel)) | (with_reducible apply wm_d; focus (simp (disch := omega) only [wr_id, Int.toNat_natCast, Int.reduceToNat, tn_lk, tn_kl, if_pos, if_neg, ↓reduceIte, and_self, and_true, true_and, FM, u18]; with_reducible rfl)) | (with_reducible apply wm_t; focus (first | omega | (simp (disch := omega) only [wr_id, FM, u18]; omega) | (simp (disch := omega) only [wr_id, FM, u18]; done))) | (with_reducible apply wm_f; focus (first | omega | (simp (disch := omega) only [wr_id, FM, u18]; omega) | (simp (disch := omega) only [wr_id, FM, u18]; done)))))
  rw [es]
  generalize eJ3 : up (up (up (up (up J2 369 11 0) 369 12 0) 369 13 0) 369 15 0) 369 19 (sd : Int) = J3
  have b11 : J3 369 11 = 0 := by rw [← eJ3, up_n (Or.inr (by decide)), up_n (Or.inr (by decide)), up_n (Or.inr (by decide)), up_n (Or.inr (by decide)), up_s]
  have b12 : J3 369 12 = 0 := by rw [← eJ3, up_n (Or.inr (by decide)), up_n (Or.inr (by decide)), up_n (Or.inr (by decide)), up_s]
  have b13 : J3 369 13 = 0 := by rw [← eJ3, up_n (Or.inr (by decide)), up_n (Or.inr (by decide)), up_s]
  have b15 : J3 369 15 = 0 := by rw [← eJ3, up_n (Or.inr (by decide)), up_s]
  have b19 : J3 369 19 = (sd : Int) := by rw [← eJ3, up_s]
  have f3 : frM (fun _ => False) (fun j => j = 11 ∨ j = 12 ∨ j = 13 ∨ j = 15 ∨ j = 19) J2 J3 := by rw [← eJ3]; exact frM_fd (frM_fd (frM_fd (frM_fd (frM_fd (frM_refl _ _ _) (by omega)) (by omega)) (by omega)) (by omega)) (by omega)
  clear eJ3 u18
  rw [b19]
  refine wm_b (w_plain hsd) (fun r J4 hJ4 => ?_)
  obtain ⟨f4, p1, p2, p3, p4, p5, p6, p7⟩ := hJ4
  have c19 : J4 369 19 = (sd : Int) := by rw [f4.2 19 (fun q => q)]; exact b19
  have u19 : up J4 369 32 (130 * (sd : Int)) 369 19 = (sd : Int) := by rw [up_n (Or.inr (by decide))]; exact c19
  (repeat (first | (with_reducible apply wm_o; focus (simp (disch := omega) only [wr_id, Int.toNat_natCast, Int.reduceToNat, tn_lk, tn_kl, if_pos, if_neg, ↓reduceIte, and_self, and_true, true_and, FM, c19, u19]; with_reducible rfl)) | (with_reducible apply wm_q) | (with_reducible apply wm_c; focus (first | assumption | decide +kernel)) | (with_reducible apply wm_d; focus (simp (disch := omega) only [wr_id, Int.toNat_natCast, Int.reduceToNat, tn_lk, tn_kl, if_pos, if_neg, ↓reduceIte, and_self, and_true, true_and, FM, c19, u19]; with_reducible rfl)) | (with_reducible apply wm_t; focus (first | omega | (simp (disch := omega) only [wr_id, FM, c19, u19]; omega) | (simp (disch := omega) only [wr_id, FM, c19, u19]; done))) | (with_reducible apply wm_f; focus (first | omega | (simp (disch := omega) only [wr_id, FM, c19, u19]; omega) | (simp (disch := omega) only [wr_id, FM, c19, u19]; done)))))
  generalize eJ5 : up (up J4 369 32 (130 * (sd : Int))) 369 38 (420 * (sd : Int)) = J5
  have r5 : ∀ a, a ≠ 369 → J5 a = J4 a := fun a ha => by rw [← eJ5, up_ne ha, up_ne ha]
  have d5 : ∀ j, j ≠ 32 → j ≠ 38 → J5 369 j = J4 369 j := fun j h1 h2 => by rw [← eJ5, up_n (Or.inr h2), up_n (Or.inr h1)]
  have d32 : J5 369 32 = ((130 * sd : Nat) : Int) := by rw [← eJ5, up_n (Or.inr (by decide)), up_s]; omega
  have d38 : J5 369 38 = ((420 * sd : Nat) : Int) := by rw [← eJ5, up_s]; omega
  clear eJ5 u19
  have f4' : ∀ j, J4 369 j = J3 369 j := fun j => f4.2 j (fun q => q)
  have r4 : ∀ a, a ≠ 369 → ¬ (377 ≤ a ∧ a ≤ 388) → J4 a = J3 a := fun a h1 h2 => f4.1 a h1 (by omega)
  have r3 : ∀ a, a ≠ 369 → J3 a = J2 a := fun a h1 => f3.1 a h1 (fun q => q)
  have mI : mff sd I J5 := by
    refine ⟨⟨fun a h1 h2 => ?_, fun j hj => ?_⟩, ?_, ?_⟩
    · unfold mfS at h2
      rw [r5 a h1, r4 a h1 (by omega), r3 a h1, f2.1 a h1 (by omega), f1.1 a h1 (by omega)]
    · unfold mfT at hj
      rw [d5 j (by omega) (by omega), f4' j, f3.2 j (by omega), f2.2 j (by omega), f1.2 j (by omega)]
    · rw [d5 2 (by decide) (by decide), f4' 2, f3.2 2 (by decide)]; exact a2
    · have e : ∀ a, a ≠ 369 → ¬ (371 ≤ a ∧ a ≤ 375) → J3 a = I a := fun a h1 h2 => by rw [r3 a h1, f2.1 a h1 (by omega), f1.1 a h1 (by omega)]
      have e4 : ∀ a, 389 ≤ a → a ≤ 395 → J5 a = I a := fun a h1 h2 => by rw [r5 a (by omega), r4 a (by omega) (by omega), e a (by omega) (by omega)]
      have e5 : ∀ a, a = 380 ∨ a = 381 ∨ a = 383 ∨ a = 384 ∨ a = 385 → J5 a = I a := fun a h1 => by rw [r5 a (by omega), f4.1 a (by omega) (by omega), e a (by omega) (by omega)]
      refine ⟨⟨fun p _ => ?_, fun x _ => ?_⟩, fun j hj => ?_, fun j _ => ?_, fun j _ => ?_, fun j hj => ?_⟩
      · rw [e4 394 (by decide) (by decide), e4 395 (by decide) (by decide)]; exact ⟨rfl, rfl⟩
      · rw [e4 389 (by decide) (by decide), e4 390 (by decide) (by decide), e4 391 (by decide) (by decide), e4 392 (by decide) (by decide), e4 393 (by decide) (by decide)]; exact ⟨rfl, rfl, rfl, rfl, rfl⟩
      · rw [r5 377 (by decide), r5 378 (by decide), r5 379 (by decide), r5 382 (by decide), r5 386 (by decide), p1, p2, p3, p4, p5]
        unfold rSet
        rw [if_neg hj, if_neg hj, if_neg hj, if_neg hj, if_neg hj, e 377 (by decide) (by decide), e 378 (by decide) (by decide), e 379 (by decide) (by decide), e 382 (by decide) (by decide), e 386 (by decide) (by decide)]
        exact ⟨rfl, rfl, rfl, rfl, rfl⟩
      · rw [e5 380 (by decide), e5 381 (by decide)]; exact ⟨rfl, rfl⟩
      · rw [e5 383 (by decide), e5 384 (by decide), e5 385 (by decide)]; exact ⟨rfl, rfl, rfl⟩
      · rw [r5 387 (by decide), r5 388 (by decide), p6 j, p7 j, if_neg hj, if_neg hj, e 387 (by decide) (by decide), e 388 (by decide) (by decide)]; exact ⟨rfl, rfl⟩
  have hS0 : mtS (tK B n) (tV B n) (tps B n) sd J5 0 4 4 0 (0, fun _ => 0, fun _ => 0) (0, fun _ => 0, fun _ => 0, fun _ => 0) dfLw none := by
    have q : ∀ j, j ≠ 32 → j ≠ 38 → J5 369 j = J3 369 j := fun j h1 h2 => (d5 j h1 h2).trans (f4' j)
    have e : ∀ a, 372 ≤ a → a ≤ 374 → J5 a = J2 a := fun a h1 h2 => by rw [r5 a (by omega), r4 a (by omega) (by omega), r3 a (by omega)]
    refine ⟨130 * sd, 420 * sd, ⟨tbM_frm (e 372 (by decide) (by decide)) (e 373 (by decide) (by decide)) (e 374 (by decide) (by decide)) tb, (q 11 (by decide) (by decide)).trans b11, (q 13 (by decide) (by decide)).trans b13, by decide, fun j hj => absurd hj (Nat.not_lt_zero _)⟩, (q 15 (by decide) (by decide)).trans b15, ⟨(q 12 (by decide) (by decide)).trans b12, (q 19 (by decide) (by decide)).trans b19, d32, d38, ?_, ?_, ?_, ⟨?_, ?_, by decide, by decide, fun i hi => absurd hi (Nat.not_lt_zero _), fun i hi => absurd hi (Nat.not_lt_zero _)⟩, fun x hx => ⟨dfLw_ok x, Or.inl ⟨?_, rfl⟩⟩⟩, Nat.le_refl _, by omega, Nat.le_refl _, by omega⟩
    · rw [r5 377 (by decide), p1]; exact if_pos rfl
    · rw [r5 378 (by decide), p2]; exact if_pos rfl
    · rw [r5 386 (by decide), p5]; exact if_pos rfl
    · rw [r5 379 (by decide), p3]; exact if_pos rfl
    · rw [r5 382 (by decide), p4]; exact if_pos rfl
    · rw [r5 387 (by decide), r5 388 (by decide), p6, p7, if_pos (by omega), if_pos (by omega)]
  clear p1 p2 p3 p4 p5 p6 p7 r5 d5 d32 d38 f4' r4 r3 f4 c19 f3 b11 b12 b13 b15 b19 es a2 a18 tb n1 n2 n3 n4 n5 f2 hT1 hK1 g2 f1 J4 J3 J2 J1
  refine wm_lp1 402 (fun m J => mfr sd J5 J ∧ ((m ≤ 401 ∧ ∃ i w h se H S lw wr, m ≤ i ∧ tlsR (tK B n) (tV B n) (401 - m) i (w, h, se, H, S, lw, wr) = R ∧ mtS (tK B n) (tV B n) (tps B n) sd J i w h se H S lw wr ∧ (wr = none → rgX w h se H S)) ∨ ∃ c q, R = efl c q ∧ fltM (tps B n) J c q)) ?_ (jfuel_n (by decide)) ⟨mfr_refl _ _, Or.inl ⟨by decide, 0, 4, 4, 0, _, _, _, none, Nat.le_refl _, eR, hS0, fun _ => rg_txI⟩⟩
  clear hS0
  rintro m hm' J ⟨mf, hc⟩ rec hrec
  have mJ : mff sd I J := mff_fr mI mf
  rcases hc with ⟨hm1, i, w, h, se, H, S, lw, wr, hmi, hT', hS, hrg⟩ | ⟨c, q, eR', hF⟩
  rotate_left
  · obtain ⟨c1, c2, c3, s, c4, c5⟩ := hF
    have tb := (hv q).2.1
    have v13 : up J 369 17 ((tps B n q : Nat) : Int) 369 13 = (c : Int) := by rw [up_n (Or.inr (by decide))]; exact c2
    (repeat (first | (with_reducible apply wm_o; focus (simp (disch := omega) only [wr_id, Int.toNat_natCast, Int.reduceToNat, tn_lk, tn_kl, if_pos, if_neg, ↓reduceIte, and_self, and_true, true_and, FM, c2, c3, v13]; with_reducible rfl)) | (with_reducible apply wm_q) | (with_reducible apply wm_c; focus (first | assumption | decide +kernel)) | (with_reducible apply wm_d; focus (simp (disch := omega) only [wr_id, Int.toNat_natCast, Int.reduceToNat, tn_lk, tn_kl, if_pos, if_neg, ↓reduceIte, and_self, and_true, true_and, FM, c2, c3, v13]; with_reducible rfl)) | (with_reducible apply wm_t; focus (first | omega | (simp (disch := omega) only [wr_id, FM, c2, c3, v13]; omega) | (simp (disch := omega) only [wr_id, FM, c2, c3, v13]; done))) | (with_reducible apply wm_f; focus (first | omega | (simp (disch := omega) only [wr_id, FM, c2, c3, v13]; omega) | (simp (disch := omega) only [wr_id, FM, c2, c3, v13]; done)))))
    exact wm_r (Or.inl ⟨c, q, eR', rfl, up_s _ _ _ _, mff_fd mJ (by unfold mfT; omega)⟩)
  have li : i ≤ 400 := by obtain ⟨_, _, hR, _⟩ := hS; exact hR.2.2.2.1
  obtain ⟨f, ef⟩ : ∃ f, 401 - m = f + 1 := ⟨400 - m, by omega⟩
  rw [ef, tlsR] at hT'
  have hS' := hS
  obtain ⟨b, c, hR, hw, hBB, n1, n2, n3, n4⟩ := hS'
  have a13 := hR.2.2.1
  have x0 := q_is (t := t) (d := d) (rt := rt) hk hR (j := 0) (z := 0) rfl (Or.inl (by decide))
  by_cases cz : tK B n i = 0
  rotate_left
  · rw [if_neg cz] at x0 hT'
    (repeat (first | (with_reducible apply wm_o; focus (simp (disch := omega) only [wr_id, Int.toNat_natCast, Int.reduceToNat, tn_lk, tn_kl, if_pos, if_neg, ↓reduceIte, and_self, and_true, true_and, FM, a13, x0]; with_reducible rfl)) | (with_reducible apply wm_q) | (with_reducible apply wm_c; focus (first | assumption | decide +kernel)) | (with_reducible apply wm_d; focus (simp (disch := omega) only [wr_id, Int.toNat_natCast, Int.reduceToNat, tn_lk, tn_kl, if_pos, if_neg, ↓reduceIte, and_self, and_true, true_and, FM, a13, x0]; with_reducible rfl)) | (with_reducible apply wm_t; focus (first | omega | (simp (disch := omega) only [wr_id, FM, a13, x0]; omega) | (simp (disch := omega) only [wr_id, FM, a13, x0]; done))) | (with_reducible apply wm_f; focus (first | omega | (simp (disch := omega) only [wr_id, FM, a13, x0]; omega) | (simp (disch := omega) only [wr_id, FM, a13, x0]; done)))))
    refine wm_b (w_tellOne hk hv hm hsd hS cz) (fun r X hX => ?_)
    obtain ⟨g1, g2⟩ := hX
    rcases g2 with ⟨t', w', h', se', H', S', lw', wr', e, hS'⟩ | ⟨cc, q, e, hF⟩
    · have hT' : (bnd (tell1 (tK B n) (tV B n) i w h se H S lw wr) fun t' x' => tlsR (tK B n) (tV B n) f t' x') = R := hT'
      have le := (sn_tell (K := tK B n) (V := tV B n) i w h se H S lw wr).2 t' _ e
      have rg' := fun hn' => tell_rg e hrg hn'
      rw [e, bnd_ok] at hT'
      exact hrec (m + 1) _ (by omega) (by omega) ⟨mfr_trans mf g1, Or.inl ⟨by omega, t', w', h', se', H', S', lw', wr', by omega, by rw [show 401 - (m + 1) = f by omega]; exact hT', hS', rg'⟩⟩
    · have hT' : (bnd (tell1 (tK B n) (tV B n) i w h se H S lw wr) fun t' x' => tlsR (tK B n) (tV B n) f t' x') = R := hT'
      rw [e, bnd_fl] at hT'
      exact hrec (m + 1) _ (by omega) (by omega) ⟨mfr_trans mf g1, Or.inr ⟨cc, q, hT'.symm, hF⟩⟩
  rw [if_pos cz] at x0 hT'
  cases wr with
  | some q =>
    obtain ⟨w1, w2, w3⟩ := hw
    have tb := (hv q).2.1
    have v13 : up J 369 17 ((tps B n q : Nat) : Int) 369 13 = 0 := by rw [up_n (Or.inr (by decide))]; exact a13
    have v15 : up J 369 17 ((tps B n q : Nat) : Int) 369 15 = 5 := by rw [up_n (Or.inr (by decide))]; exact w1
    (repeat (first | (with_reducible apply wm_o; focus (simp (disch := omega) only [wr_id, Int.toNat_natCast, Int.reduceToNat, tn_lk, tn_kl, if_pos, if_neg, ↓reduceIte, and_self, and_true, true_and, FM, a13, x0, w1, w2, v13, v15]; with_reducible rfl)) | (with_reducible apply wm_q) | (with_reducible apply wm_c; focus (first | assumption | decide +kernel)) | (with_reducible apply wm_d; focus (simp (disch := omega) only [wr_id, Int.toNat_natCast, Int.reduceToNat, tn_lk, tn_kl, if_pos, if_neg, ↓reduceIte, and_self, and_true, true_and, FM, a13, x0, w1, w2, v13, v15]; with_reducible rfl)) | (with_reducible apply wm_t; focus (first | omega | (simp (disch := omega) only [wr_id, FM, a13, x0, w1, w2, v13, v15]; omega) | (simp (disch := omega) only [wr_id, FM, a13, x0, w1, w2, v13, v15]; done))) | (with_reducible apply wm_f; focus (first | omega | (simp (disch := omega) only [wr_id, FM, a13, x0, w1, w2, v13, v15]; omega) | (simp (disch := omega) only [wr_id, FM, a13, x0, w1, w2, v13, v15]; done)))))
    exact wm_r (Or.inr ⟨i, w, h, se, H, S, lw, some q, hT'.symm, Or.inl ⟨q, rfl, rfl, up_s _ _ _ _, mff_fd mJ (by unfold mfT; omega)⟩⟩)
  | none =>
    have w1 : J 369 15 = 0 := hw
    have rg := hrg rfl
    have hBB' := hBB
    obtain ⟨b1, b2, b3, b4, b5, b6, b7, b8, b9⟩ := hBB
    obtain ⟨ww, eww⟩ : ∃ ww : Nat, w = (ww : Int) := ⟨w.toNat, by have := rg.1; omega⟩
    obtain ⟨hh, ehh⟩ : ∃ hh : Nat, h = (hh : Int) := ⟨h.toNat, by have := rg.2.2.1; omega⟩
    subst eww ehh
    (repeat (first | (with_reducible apply wm_o; focus (simp (disch := omega) only [wr_id, Int.toNat_natCast, Int.reduceToNat, tn_lk, tn_kl, if_pos, if_neg, ↓reduceIte, and_self, and_true, true_and, FM, a13, x0, w1]; with_reducible rfl)) | (with_reducible apply wm_q) | (with_reducible apply wm_c; focus (first | assumption | decide +kernel)) | (with_reducible apply wm_d; focus (simp (disch := omega) only [wr_id, Int.toNat_natCast, Int.reduceToNat, tn_lk, tn_kl, if_pos, if_neg, ↓reduceIte, and_self, and_true, true_and, FM, a13, x0, w1]; with_reducible rfl)) | (with_reducible apply wm_t; focus (first | omega | (simp (disch := omega) only [wr_id, FM, a13, x0, w1]; omega) | (simp (disch := omega) only [wr_id, FM, a13, x0, w1]; done))) | (with_reducible apply wm_f; focus (first | omega | (simp (disch := omega) only [wr_id, FM, a13, x0, w1]; omega) | (simp (disch := omega) only [wr_id, FM, a13, x0, w1]; done)))))
    refine wm_b (w_isSquare hsd b2 b5 b6 b8 rg) (fun r X hX => ?_)
    obtain ⟨g1, rfl⟩ := hX
    have mX := mff_396 mJ g1
    have xr : ∀ a, a ≠ 369 → a ≠ 396 → X a = J a := fun a h1 h2 => g1.1 a h1 h2
    have xf : ∀ j, X 369 j = J 369 j := fun j => g1.2 j (fun q => q)
    have x13 : X 369 13 = 0 := (xf 13).trans a13
    have x15 : X 369 15 = 0 := (xf 15).trans w1
    have x11 : X 369 11 = (i : Int) := (xf 11).trans hR.2.1
    cases hfit : fitB ww hh H S with
    | false =>
      have e0 : (if (false : Bool) = true then (1 : Int) else 0) = 0 := rfl
      rw [e0]
      have pl : tps B n i = n := Nat.le_antisymm (tps_le hB i) (tkK_END.mp cz)
      have x373 : X 373 i = (n : Int) := by rw [xr 373 (by decide) (by decide), (hR.1 i li hR.2.2.2.2).2.1, pl]
      have qw : f_X12_wrong 369 6 (i : Int) (mm t d rt X) = some (0, mm t d rt (up (up X 369 15 6) 369 16 (n : Int))) := by
        apply wm_eq
        unfold f_X12_wrong
        (repeat (first | (with_reducible apply wm_o; focus (simp (disch := omega) only [wr_id, Int.toNat_natCast, Int.reduceToNat, tn_lk, tn_kl, if_pos, if_neg, ↓reduceIte, and_self, and_true, true_and, FM, x373, x13, x15]; with_reducible rfl)) | (with_reducible apply wm_q) | (with_reducible apply wm_c; focus (first | assumption | decide +kernel)) | (with_reducible apply wm_d; focus (simp (disch := omega) only [wr_id, Int.toNat_natCast, Int.reduceToNat, tn_lk, tn_kl, if_pos, if_neg, ↓reduceIte, and_self, and_true, true_and, FM, x373, x13, x15]; with_reducible rfl)) | (with_reducible apply wm_t; focus (first | omega | (simp (disch := omega) only [wr_id, FM, x373, x13, x15]; omega) | (simp (disch := omega) only [wr_id, FM, x373, x13, x15]; done))) | (with_reducible apply wm_f; focus (first | omega | (simp (disch := omega) only [wr_id, FM, x373, x13, x15]; omega) | (simp (disch := omega) only [wr_id, FM, x373, x13, x15]; done)))))
        exact wm_r ⟨rfl, rfl⟩
      generalize eY : up (up X 369 15 6) 369 16 (n : Int) = Y at qw
      have y13 : Y 369 13 = 0 := by rw [← eY, up_n (Or.inr (by decide)), up_n (Or.inr (by decide))]; exact x13
      have y15 : Y 369 15 = 6 := by rw [← eY, up_n (Or.inr (by decide)), up_s]
      have y16 : Y 369 16 = (n : Int) := by rw [← eY, up_s]
      have mY : mff sd I Y := by rw [← eY]; exact mff_fd (mff_fd mX (by unfold mfT; omega)) (by unfold mfT; omega)
      have v13 : up Y 369 17 (n : Int) 369 13 = 0 := by rw [up_n (Or.inr (by decide))]; exact y13
      have v15 : up Y 369 17 (n : Int) 369 15 = 6 := by rw [up_n (Or.inr (by decide))]; exact y15
      (repeat (first | (with_reducible apply wm_o; focus (simp (disch := omega) only [wr_id, Int.toNat_natCast, Int.reduceToNat, tn_lk, tn_kl, if_pos, if_neg, ↓reduceIte, and_self, and_true, true_and, FM, x11, qw, y13, y15, y16, v13, v15]; with_reducible rfl)) | (with_reducible apply wm_q) | (with_reducible apply wm_c; focus (first | assumption | decide +kernel)) | (with_reducible apply wm_d; focus (simp (disch := omega) only [wr_id, Int.toNat_natCast, Int.reduceToNat, tn_lk, tn_kl, if_pos, if_neg, ↓reduceIte, and_self, and_true, true_and, FM, x11, qw, y13, y15, y16, v13, v15]; with_reducible rfl)) | (with_reducible apply wm_t; focus (first | omega | (simp (disch := omega) only [wr_id, FM, x11, qw, y13, y15, y16, v13, v15]; omega) | (simp (disch := omega) only [wr_id, FM, x11, qw, y13, y15, y16, v13, v15]; done))) | (with_reducible apply wm_f; focus (first | omega | (simp (disch := omega) only [wr_id, FM, x11, qw, y13, y15, y16, v13, v15]; omega) | (simp (disch := omega) only [wr_id, FM, x11, qw, y13, y15, y16, v13, v15]; done)))))
      exact wm_r (Or.inr ⟨i, (ww : Int), (hh : Int), se, H, S, lw, none, hT'.symm, Or.inr ⟨rfl, rg, Or.inl ⟨hfit, rfl, up_s _ _ _ _, mff_fd mY (by unfold mfT; omega)⟩⟩⟩)
    | true =>
      have e0 : (if (true : Bool) = true then (1 : Int) else 0) = 1 := rfl
      rw [e0]
      have v13 : up X 369 17 (-1) 369 13 = 0 := by rw [up_n (Or.inr (by decide))]; exact x13
      have v15 : up X 369 17 (-1) 369 15 = 0 := by rw [up_n (Or.inr (by decide))]; exact x15
      have v19 : up X 369 17 (-1) 369 19 = (sd : Int) := by rw [up_n (Or.inr (by decide)), xf 19]; exact b2
      have mY : mff sd I (up X 369 17 (-1)) := mff_fd mX (by unfold mfT; omega)
      have y17 : up X 369 17 (-1) 369 17 = -1 := up_s _ _ _ _
      have yr : ∀ a, 377 ≤ a → a ≤ 395 → up X 369 17 (-1) a = J a := fun a h1 h2 => by rw [up_ne (by omega), xr a (by omega) (by omega)]
      have bY : mtB sd (up X 369 17 (-1)) (ww : Int) (hh : Int) se H S lw b c := mb_of hBB' (fun j hj => by rw [up_n (Or.inr (by omega)), xf j]) (fun a h1 h2 => yr a (by omega) h2) (by rw [yr 377 (by decide) (by decide)]; exact b5) (by rw [yr 378 (by decide) (by decide)]; exact b6) (by rw [yr 386 (by decide) (by decide)]; exact b7) (hs_row (fun a h1 h2 => yr a (by omega) (by omega)) b8)
      have fin := m_ok (t := t) (d := d) (rt := rt) hsd mY bY rg hfit (by omega) (by omega) z0 z1
      refine wm_f (by rw [wr_1]; decide) ?_
      refine wm_o (a := 0) (by rw [← x13]; simp only [FM]) ?_
      refine wm_q (wm_t (by decide) ?_)
      refine wm_o (a := 0) (by rw [← x15]; simp only [FM]) ?_
      refine wm_t (by decide) ?_
      refine wm_o (a := mm t d rt (up X 369 17 (-1))) (by simp only [FM]) ?_
      refine wm_o (a := 0) (by rw [← v13]; simp only [FM]) ?_
      refine wm_t (by decide) ?_
      refine wm_o (a := 0) (by rw [← v15]; simp only [FM]) ?_
      refine wm_t (by decide) ?_
      refine wm_o (a := (sd : Int)) (by rw [← v19]; simp only [FM]) ?_
      refine wm_w fin (fun r K hK => ?_)
      obtain ⟨k1, k2, k3⟩ := hK
      exact Or.inr ⟨i, (ww : Int), (hh : Int), se, H, S, lw, none, hT'.symm, Or.inr ⟨rfl, rg, Or.inr ⟨hfit, k1, k2.trans y17, k3⟩⟩⟩
end MRE
