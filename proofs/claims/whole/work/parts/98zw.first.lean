/-! ===== both have begun ===== -/
theorem rF_v : rF 0 2 = some 3 ∧ rF 0 3 = some 16 ∧ rF 29 2 = some 16 := by decide +kernel
theorem R0_eq : R0 3 16 16 = rL rT := by
  funext a j
  show R0 3 16 16 a j = rF a j
  obtain ⟨v1, v2, v3⟩ := rF_v
  unfold R0
  by_cases c1 : a = 0 ∧ j = 2
  · rw [if_pos c1, c1.1, c1.2, v1]
  · rw [if_neg c1]
    by_cases c2 : a = 0 ∧ j = 3
    · rw [if_pos c2, c2.1, c2.2, v2]
    · rw [if_neg c2]
      by_cases c3 : a = 29 ∧ j = 2
      · rw [if_pos c3, c3.1, c3.2, v3]
      · rw [if_neg c3]
theorem kM_eq : kT.take 369 ++ sgM.take 49 = kT := by decide +kernel
theorem rM_eq : (rT.take 369 ++ (rwMM (kT.take 369).length :: List.replicate 48 [])).map nrm = rT.map nrm := by decide +kernel
theorem kT_n : kT.length = 418 ∧ (kT.take 369).length = 369 ∧ (rT.take 369).length = 369 := by decide +kernel
theorem mM_eq (J : Nat → Nat → Int) : mS (kT.take 369) (rT.take 369) 48 (rwMM (kT.take 369).length) J = mm 3 16 16 J := by
  show (((kT.take 369 ++ sgM.take 49).length, kL (kT.take 369 ++ sgM.take 49)), J, rL (rT.take 369 ++ (rwMM (kT.take 369).length :: List.replicate 48 []))) = ((418, K0), J, R0 3 16 16)
  rw [rL_eq rM_eq, R0_eq, kM_eq, kT_n.1]
  rfl
def apW (a x : Int) : Int := if jd_wr x = 0 then a else (27 * a) + (jd_wr ((x - 97) + 1))
theorem q_app (a x : Int) (M : jMem) : f_X12_appends a x M = some (apW a x, M) := by
  show (if jd_wr x = 0 then some (a, M) else some ((27 * a) + (jd_wr ((x - 97) + 1)), M)) = _
  unfold apW
  by_cases h : jd_wr x = 0
  · rw [if_pos h, if_pos h]
  · rw [if_neg h, if_neg h]
theorem q_word (c0 c1 c2 c3 c4 c5 c6 : Int) (M : jMem) : f_X12_word c0 c1 c2 c3 c4 c5 c6 M = some (apW (apW (apW (apW (apW (apW (apW 0 c0) c1) c2) c3) c4) c5) c6, M) := by
  unfold f_X12_word
  rw [q_app, jbd_s, q_app, jbd_s, q_app, jbd_s, q_app, jbd_s, q_app, jbd_s, q_app, jbd_s, q_app, jbd_s]
theorem wd_0 (M : jMem) : f_X12_word 115 113 117 97 114 101 0 M = some (wdV (keyL.getD 0 []), M) := by rw [q_word, show apW (apW (apW (apW (apW (apW (apW 0 115) 113) 117) 97) 114) 101) 0 = wdV (keyL.getD 0 []) by decide +kernel]
theorem wd_1 (M : jMem) : f_X12_word 104 111 108 101 0 0 0 M = some (wdV (keyL.getD 1 []), M) := by rw [q_word, show apW (apW (apW (apW (apW (apW (apW 0 104) 111) 108) 101) 0) 0) 0 = wdV (keyL.getD 1 []) by decide +kernel]
theorem wd_2 (M : jMem) : f_X12_word 115 116 111 110 101 0 0 M = some (wdV (keyL.getD 2 []), M) := by rw [q_word, show apW (apW (apW (apW (apW (apW (apW 0 115) 116) 111) 110) 101) 0) 0 = wdV (keyL.getD 2 []) by decide +kernel]
theorem wd_3 (M : jMem) : f_X12_word 97 115 107 115 0 0 0 M = some (wdV (keyL.getD 3 []), M) := by rw [q_word, show apW (apW (apW (apW (apW (apW (apW 0 97) 115) 107) 115) 0) 0) 0 = wdV (keyL.getD 3 []) by decide +kernel]
theorem wd_4 (M : jMem) : f_X12_word 108 111 111 115 101 110 115 M = some (wdV (keyL.getD 4 []), M) := by rw [q_word, show apW (apW (apW (apW (apW (apW (apW 0 108) 111) 111) 115) 101) 110) 115 = wdV (keyL.getD 4 []) by decide +kernel]
theorem wd_5 (M : jMem) : f_X12_word 108 97 121 115 0 0 0 M = some (wdV (keyL.getD 5 []), M) := by rw [q_word, show apW (apW (apW (apW (apW (apW (apW 0 108) 97) 121) 115) 0) 0) 0 = wdV (keyL.getD 5 []) by decide +kernel]
theorem wd_6 (M : jMem) : f_X12_word 115 101 101 100 0 0 0 M = some (wdV (keyL.getD 6 []), M) := by rw [q_word, show apW (apW (apW (apW (apW (apW (apW 0 115) 101) 101) 100) 0) 0) 0 = wdV (keyL.getD 6 []) by decide +kernel]
theorem wd_7 (M : jMem) : f_X12_word 105 102 0 0 0 0 0 M = some (wdV (keyL.getD 7 []), M) := by rw [q_word, show apW (apW (apW (apW (apW (apW (apW 0 105) 102) 0) 0) 0) 0) 0 = wdV (keyL.getD 7 []) by decide +kernel]
theorem wd_8 (M : jMem) : f_X12_word 116 104 101 110 0 0 0 M = some (wdV (keyL.getD 8 []), M) := by rw [q_word, show apW (apW (apW (apW (apW (apW (apW 0 116) 104) 101) 110) 0) 0) 0 = wdV (keyL.getD 8 []) by decide +kernel]
theorem wd_9 (M : jMem) : f_X12_word 101 108 115 101 0 0 0 M = some (wdV (keyL.getD 9 []), M) := by rw [q_word, show apW (apW (apW (apW (apW (apW (apW 0 101) 108) 115) 101) 0) 0) 0 = wdV (keyL.getD 9 []) by decide +kernel]
theorem wd_10 (M : jMem) : f_X12_word 97 99 114 111 115 115 0 M = some (wdV (keyL.getD 10 []), M) := by rw [q_word, show apW (apW (apW (apW (apW (apW (apW 0 97) 99) 114) 111) 115) 115) 0 = wdV (keyL.getD 10 []) by decide +kernel]
theorem wd_11 (M : jMem) : f_X12_word 108 101 102 116 0 0 0 M = some (wdV (keyL.getD 11 []), M) := by rw [q_word, show apW (apW (apW (apW (apW (apW (apW 0 108) 101) 102) 116) 0) 0) 0 = wdV (keyL.getD 11 []) by decide +kernel]
theorem wd_12 (M : jMem) : f_X12_word 116 111 112 0 0 0 0 M = some (wdV (keyL.getD 12 []), M) := by rw [q_word, show apW (apW (apW (apW (apW (apW (apW 0 116) 111) 112) 0) 0) 0) 0 = wdV (keyL.getD 12 []) by decide +kernel]
theorem wd_13 (M : jMem) : f_X12_word 116 117 114 110 101 100 0 M = some (wdV (keyL.getD 13 []), M) := by rw [q_word, show apW (apW (apW (apW (apW (apW (apW 0 116) 117) 114) 110) 101) 100) 0 = wdV (keyL.getD 13 []) by decide +kernel]
theorem wd_14 (M : jMem) : f_X12_word 97 103 101 0 0 0 0 M = some (wdV (keyL.getD 14 []), M) := by rw [q_word, show apW (apW (apW (apW (apW (apW (apW 0 97) 103) 101) 0) 0) 0) 0 = wdV (keyL.getD 14 []) by decide +kernel]
theorem wd_15 (M : jMem) : f_X12_word 115 101 97 115 111 110 0 M = some (wdV (keyL.getD 15 []), M) := by rw [q_word, show apW (apW (apW (apW (apW (apW (apW 0 115) 101) 97) 115) 111) 110) 0 = wdV (keyL.getD 15 []) by decide +kernel]
theorem wd_16 (M : jMem) : f_X12_word 119 104 105 99 104 0 0 M = some (wdV (keyL.getD 16 []), M) := by rw [q_word, show apW (apW (apW (apW (apW (apW (apW 0 119) 104) 105) 99) 104) 0) 0 = wdV (keyL.getD 16 []) by decide +kernel]
theorem wd_17 (M : jMem) : f_X12_word 115 116 111 110 101 115 0 M = some (wdV (keyL.getD 17 []), M) := by rw [q_word, show apW (apW (apW (apW (apW (apW (apW 0 115) 116) 111) 110) 101) 115) 0 = wdV (keyL.getD 17 []) by decide +kernel]
theorem wd_18 (M : jMem) : f_X12_word 104 111 108 101 115 0 0 M = some (wdV (keyL.getD 18 []), M) := by rw [q_word, show apW (apW (apW (apW (apW (apW (apW 0 104) 111) 108) 101) 115) 0) 0 = wdV (keyL.getD 18 []) by decide +kernel]
theorem w_x12 {J : Nat → Nat → Int} (hc : clB0 J) : wm 3 16 16 (x12R 369 (mm 3 16 16 (up J 369 17 (-1)))) (fun r K => INV 3 16 16 K) := by
  obtain ⟨hz, c1, c2, c3, c4, c5, c6, c7, c8, c9, c10, c11⟩ := hc
  unfold x12R
  generalize eI : up J 369 17 (-1) = I
  have iI : ∀ a, a ≠ 369 → I a = J a := fun a ha => by rw [← eI, up_ne ha]
  have fI : ∀ j, j ≠ 17 → I 369 j = 0 := fun j hj => by rw [← eI, up_n (Or.inr hj)]; exact hz 369 (by decide) j
  have f17 : I 369 17 = -1 := by rw [← eI, up_s]
  have zr : ∀ a, 370 ≤ a → ∀ j, I a j = 0 := fun a ha j => by rw [iI a (by omega)]; exact hz a (by omega) j
  clear eI
  (repeat (first | (with_reducible apply wm_o; focus (simp (disch := omega) only [wr_id, Int.toNat_natCast, Int.reduceToNat, tn_lk, tn_kl, if_pos, if_neg, ↓reduceIte, and_self, and_true, true_and, FM]; with_reducible rfl)) | (with_reducible apply wm_q) | (with_reducible apply wm_c; focus (first | assumption | decide +kernel)) | (with_reducible apply wm_d; focus (simp (disch := omega) only [wr_id, Int.toNat_natCast, Int.reduceToNat, tn_lk, tn_kl, if_pos, if_neg, ↓reduceIte, and_self, and_true, true_and, FM]; with_reducible rfl)) | (with_reducible apply wm_t; focus (first | omega | (simp (disch := omega) only [wr_id, FM]; omega) | (simp (disch := omega) only [wr_id, FM]; done))) | (with_reducible apply wm_f; focus (first | omega | (simp (disch := omega) only [wr_id, FM]; omega) | (simp (disch := omega) only [wr_id, FM]; done)))))
  refine wm_b (w_plain (sd := 0) (by decide)) (fun r K1 h1 => ?_)
  obtain ⟨a0, a1, a2, a3, a4, a5, a6, a7⟩ := h1
  (repeat (first | (with_reducible apply wm_o; focus (simp (disch := omega) only [wr_id, Int.toNat_natCast, Int.reduceToNat, tn_lk, tn_kl, if_pos, if_neg, ↓reduceIte, and_self, and_true, true_and, FM]; with_reducible rfl)) | (with_reducible apply wm_q) | (with_reducible apply wm_c; focus (first | assumption | decide +kernel)) | (with_reducible apply wm_d; focus (simp (disch := omega) only [wr_id, Int.toNat_natCast, Int.reduceToNat, tn_lk, tn_kl, if_pos, if_neg, ↓reduceIte, and_self, and_true, true_and, FM]; with_reducible rfl)) | (with_reducible apply wm_t; focus (first | omega | (simp (disch := omega) only [wr_id, FM]; omega) | (simp (disch := omega) only [wr_id, FM]; done))) | (with_reducible apply wm_f; focus (first | omega | (simp (disch := omega) only [wr_id, FM]; omega) | (simp (disch := omega) only [wr_id, FM]; done)))))
  refine wm_b (w_plain (sd := 1) (by decide)) (fun r K2 h2 => ?_)
  obtain ⟨b0, b1, b2, b3, b4, b5, b6, b7⟩ := h2
  have k2 : ∀ a, a ≠ 369 → ¬ (377 ≤ a ∧ a ≤ 388) → K2 a = I a := fun a n1 n2 => by rw [b0.1 a n1 (by omega), a0.1 a n1 (by omega)]
  have g2 : ∀ j, K2 369 j = I 369 j := fun j => by rw [b0.2 j (fun q => q), a0.2 j (fun q => q)]
  have e377 : K2 377 0 = 4 := by rw [b1, a1]; rfl
  have e378 : K2 378 0 = 4 := by rw [b2, a2]; rfl
  have e379 : K2 379 0 = 0 := by rw [b3, a3]; rfl
  have e382 : K2 382 0 = 0 := by rw [b4, a4]; rfl
  have e386 : K2 386 0 = 0 := by rw [b5, a5]; rfl
  have e387 : ∀ q, q < 3 → K2 387 q = 0 ∧ K2 388 q = 0 := fun q hq => by
    exact ⟨by rw [b6, if_neg (by omega), a6, if_pos (by omega)], by rw [b7, if_neg (by omega), a7, if_pos (by omega)]⟩
  clear a0 a1 a2 a3 a4 a5 a6 a7 b0 b1 b2 b3 b4 b5 b6 b7 K1
  (repeat (first | (with_reducible apply wm_o; focus (simp (disch := omega) only [wr_id, Int.toNat_natCast, Int.reduceToNat, tn_lk, tn_kl, if_pos, if_neg, ↓reduceIte, and_self, and_true, true_and, FM, wd_0, wd_1, wd_2, wd_3, wd_4, wd_5, wd_6, wd_7, wd_8, wd_9, wd_10, wd_11, wd_12, wd_13, wd_14, wd_15, wd_16, wd_17, wd_18]; with_reducible rfl)) | (with_reducible apply wm_q) | (with_reducible apply wm_c; focus (first | assumption | decide +kernel)) | (with_reducible apply wm_d; focus (simp (disch := omega) only [wr_id, Int.toNat_natCast, Int.reduceToNat, tn_lk, tn_kl, if_pos, if_neg, ↓reduceIte, and_self, and_true, true_and, FM, wd_0, wd_1, wd_2, wd_3, wd_4, wd_5, wd_6, wd_7, wd_8, wd_9, wd_10, wd_11, wd_12, wd_13, wd_14, wd_15, wd_16, wd_17, wd_18]; with_reducible rfl)) | (with_reducible apply wm_t; focus (first | omega | (simp (disch := omega) only [wr_id, FM, wd_0, wd_1, wd_2, wd_3, wd_4, wd_5, wd_6, wd_7, wd_8, wd_9, wd_10, wd_11, wd_12, wd_13, wd_14, wd_15, wd_16, wd_17, wd_18]; omega) | (simp (disch := omega) only [wr_id, FM, wd_0, wd_1, wd_2, wd_3, wd_4, wd_5, wd_6, wd_7, wd_8, wd_9, wd_10, wd_11, wd_12, wd_13, wd_14, wd_15, wd_16, wd_17, wd_18]; done))) | (with_reducible apply wm_f; focus (first | omega | (simp (disch := omega) only [wr_id, FM, wd_0, wd_1, wd_2, wd_3, wd_4, wd_5, wd_6, wd_7, wd_8, wd_9, wd_10, wd_11, wd_12, wd_13, wd_14, wd_15, wd_16, wd_17, wd_18]; omega) | (simp (disch := omega) only [wr_id, FM, wd_0, wd_1, wd_2, wd_3, wd_4, wd_5, wd_6, wd_7, wd_8, wd_9, wd_10, wd_11, wd_12, wd_13, wd_14, wd_15, wd_16, wd_17, wd_18]; done)))))
  have word : ∀ X, (∀ a, a ≠ 376 → X a = K2 a) → (∀ k, k < 19 → X 376 k = wdV (keyL.getD k [])) → wm 3 16 16 (jbd (f_X12_begins 369 (mm 3 16 16 X)) fun _ M227 => jcall 12 M227 369 (f_X12_keepsRow 369 M227) fun _ M229 => some (0, M229)) (fun r K => INV 3 16 16 K) := by
    intro X x1 x2
    have x : ∀ j, X 369 j = I 369 j := fun j => by rw [x1 369 (by decide)]; exact g2 j
    refine wm_b (w_begins (sd := 0) (w := 4) (h := 4) (H := (0, fun _ => 0, fun _ => 0)) (S := (0, fun _ => 0, fun _ => 0, fun _ => 0)) (U := noH) (se := 0) (by decide) (by rw [x 18]; exact fI 18 (by decide)) (by rw [x1 377 (by decide)]; exact e377) (by rw [x1 378 (by decide)]; exact e378) (by rw [x1 386 (by decide)]; exact e386) ⟨by rw [x1 379 (by decide)]; exact e379, by rw [x1 382 (by decide)]; exact e382, by decide, by decide, fun i hi => absurd hi (Nat.not_lt_zero _), fun i hi => absurd hi (Nat.not_lt_zero _)⟩ rg_txI rfl (fun i hi => absurd hi (Nat.not_lt_zero _))) (fun r K4 h4 => ?_)
    obtain ⟨q1, q2, q3⟩ := h4
    have ek := s_keepsRow (t := 3) (d := 16) (rt := 16) (I := K4)
    (repeat (first | (with_reducible apply wm_o; focus (simp (disch := omega) only [wr_id, Int.toNat_natCast, Int.reduceToNat, tn_lk, tn_kl, if_pos, if_neg, ↓reduceIte, and_self, and_true, true_and, FM, ek]; with_reducible rfl)) | (with_reducible apply wm_q) | (with_reducible apply wm_c; focus (first | assumption | decide +kernel)) | (with_reducible apply wm_d; focus (simp (disch := omega) only [wr_id, Int.toNat_natCast, Int.reduceToNat, tn_lk, tn_kl, if_pos, if_neg, ↓reduceIte, and_self, and_true, true_and, FM, ek]; with_reducible rfl)) | (with_reducible apply wm_t; focus (first | omega | (simp (disch := omega) only [wr_id, FM, ek]; omega) | (simp (disch := omega) only [wr_id, FM, ek]; done))) | (with_reducible apply wm_f; focus (first | omega | (simp (disch := omega) only [wr_id, FM, ek]; omega) | (simp (disch := omega) only [wr_id, FM, ek]; done)))))
    refine wm_r ?_
    generalize eK : fl K4 400 75 (K4 401) = K
    have n : ∀ a, a ≠ 400 → K a = K4 a := fun a ha => by rw [← eK]; exact flne ha
    have m : ∀ a, a ≠ 369 → a ≠ 376 → ¬ (377 ≤ a ∧ a ≤ 388) → a ≠ 400 → a ≠ 401 → a ≠ 402 → K a = J a := fun a n1 n2 n3 n4 n5 n6 => by rw [n a n4, q1.1 a n1 (by omega), x1 a n2, k2 a n1 n3, iI a n1]
    have s : ∀ a, 377 ≤ a → a ≤ 388 → K a = K2 a := fun a n1 n2 => by rw [n a (by omega), q1.1 a (by omega) (by omega), x1 a (by omega)]
    have f : ∀ j, j ≠ 49 → K 369 j = I 369 j := fun j hj => by rw [n 369 (by decide), q1.2 j hj, x j]
    have lo : ∀ a, a < 369 → K a = J a := fun a ha => m a (by omega) (by omega) (by omega) (by omega) (by omega) (by omega)
    have hi0 : ∀ a, 389 ≤ a → a ≠ 400 → a ≠ 401 → a ≠ 402 → ∀ j, K a j = 0 := fun a n1 n4 n5 n6 j => by rw [m a (by omega) (by omega) (by omega) n4 n5 n6]; exact hz a (by omega) j
    have k400 : K 400 = rNil := by
      funext j
      rw [← eK]
      by_cases c : j < 75
      · rw [fl_in c, q2 j, if_pos c, rwS_0]
      · rw [fl_out (by omega), q1.1 400 (by decide) (by decide), x1 400 (by decide), k2 400 (by decide) (by decide), zr 400 (by decide) j]
        unfold rNil
        rw [if_neg (by omega)]
    clear eK
    have mf : frm (fun a => 369 ≤ a) J K := fun a ha => lo a (by omega)
    refine ⟨0, 4, 4, 16, 0, noH, 0, fun q => (dfLw q).1, fun q => (dfLw q).2, ⟨⟨by decide, by decide, by decide⟩, sq_0, cfC_frm mf (fun a a1 a2 => by omega) c3, ⟨⟨?_, by decide, ?_, ?_, by decide, by decide, by decide, by decide, rfl, by decide, by decide⟩, ?_, ?_, fun c hc => ?_, fun q hq => ⟨dfLw_ok q, Or.inl ⟨?_, rfl, rfl⟩⟩⟩, ⟨0, by decide, ?_, ?_, fun i hi => absurd hi (Nat.not_lt_zero _)⟩, ⟨0, by decide, ?_, ?_, fun i hi => absurd hi (Nat.not_lt_zero _)⟩, ?_, ⟨rCfg_frm (lo _ (by decide)) (lo _ (by decide)) (lo _ (by decide)) (lo _ (by decide)) (lo _ (by decide)) c9, fun y hy m' hm' => ?_, fun m' hm' => ?_⟩, ⟨fun k hk => ?_, ?_, ⟨0, ?_, fun q hq b e h1 h2 => ?_⟩⟩, ⟨fun j hj => ?_, fun i hi => ?_, fun i hi => ?_⟩⟩, rNil, 0, fun _ => rNil, fun _ => false, fun _ => rNil, ⟨rOK_nil, stR_frm mf (fun a a1 a2 => by omega) c4, ⟨0, ?_, by decide, ?_, by decide, fun i hi => absurd hi (Nat.not_lt_zero _)⟩, fun i hi => absurd hi (Nat.not_lt_zero _), fun i hi => ⟨Or.inl ?_, fun z => ?_⟩, fun i hi => ⟨?_, fun z => (by cases z)⟩⟩, ⟨k400, fun j hj => ?_, ⟨?_, by decide, fun i hi => absurd hi (Nat.not_lt_zero _)⟩, fun i hi => ⟨?_, fun z => (by cases z)⟩⟩⟩
    · rw [f 18 (by decide)]; exact fI 18 (by decide)
    · rw [s 377 (by decide) (by decide)]; exact e377
    · rw [s 378 (by decide) (by decide)]; exact e378
    · rw [s 379 (by decide) (by decide)]; exact e379
    · rw [s 386 (by decide) (by decide)]; exact e386
    · rw [n 402 (by decide)]; exact q3 c hc
    · show K 387 (3 * 0 + q) = K 388 (3 * 0 + q)
      rw [Nat.mul_zero, Nat.zero_add, s 387 (by decide) (by decide), s 388 (by decide) (by decide), (e387 q hq).1, (e387 q hq).2]
    · rw [lo 308 (by decide)]; exact c8
    · rw [f 63 (by decide)]; exact fI 63 (by decide)
    · rw [lo 1 (by decide)]; exact c1
    · rw [f 2 (by decide)]; exact fI 2 (by decide)
    · unfold plI
      rw [lo 29 (by decide), c2, f 17 (by decide), f17]
    · rw [lo _ (by omega)]; exact c10 y hy m' hm'
    · rw [lo 336 (by decide)]; exact c11 m' hm'
    · rw [n 376 (by decide), q1.1 376 (by decide) (by decide)]; exact x2 k hk
    · exact hi0 412 (by decide) (by decide) (by decide) (by decide) 0
    · rw [f 18 (by decide)]; exact fI 18 (by decide)
    · rw [Nat.mul_zero, Nat.zero_add, s 387 (by decide) (by decide), (e387 q hq).1] at h1
      rw [Nat.mul_zero, Nat.zero_add, s 388 (by decide) (by decide), (e387 q hq).2] at h2
      exact Or.inl (by omega)
    · rw [n 401 (by decide), q2 j, if_neg (by omega), x1 401 (by decide), k2 401 (by decide) (by decide)]; exact zr 401 (by decide) j
    · exact Or.inl (hi0 409 (by decide) (by decide) (by decide) (by decide) i)
    · exact Or.inl (hi0 410 (by decide) (by decide) (by decide) (by decide) i)
    · rw [lo 46 (by decide)]; exact c6
    · rw [lo 46 (by decide)]; exact c5
    · rw [lo 307 (by decide)]; exact c7 i hi
    · rw [lo 307 (by decide), c7 i hi] at z; omega
    · rw [lo 307 (by decide), c7 i hi]; rfl
    · unfold rNil
      rw [if_neg (by omega)]
    · rw [f 53 (by decide)]; exact fI 53 (by decide)
    · rw [hi0 416 (by decide) (by decide) (by decide) (by decide) i]; rfl
  refine word _ (fun a ha => ?_) (fun k hk => ?_)
  · simp only [up_ne ha]
  · simp only [up_g]
    rcases (by omega : k = 0 ∨ k = 1 ∨ k = 2 ∨ k = 3 ∨ k = 4 ∨ k = 5 ∨ k = 6 ∨ k = 7 ∨ k = 8 ∨ k = 9 ∨ k = 10 ∨ k = 11 ∨ k = 12 ∨ k = 13 ∨ k = 14 ∨ k = 15 ∨ k = 16 ∨ k = 17 ∨ k = 18) with rfl | rfl | rfl | rfl | rfl | rfl | rfl | rfl | rfl | rfl | rfl | rfl | rfl | rfl | rfl | rfl | rfl | rfl | rfl <;> rfl
