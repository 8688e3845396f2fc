/-! ===== calls: forget, tell, back, feed ===== -/
section PT
variable {t d rt : Nat} {I J K : Nat → Nat → Int} {lv w h n nh : Nat} {hl : Nat → Bool} {sd : Int} {ifs : Nat → List LwI} {xs : Nat → List CI} {ρ σ : Nat → Int} {u : Nat} {H : Nat → Nat → Int} {hd : Nat → Bool} {G : Nat → Nat → Int}
/-- a call that changes the told, the tape -/
theorem INV_x (hR : REST t d rt lv w h n nh hl sd ifs xs I) (hC : stC I w n hl ρ u H hd G) (hM : stM I ρ u H hd G) (hp : ∀ a, a ≠ 369 → ¬ (a = 1 ∨ a = 2 ∨ (308 ≤ a ∧ a ≤ 310) ∨ a = 370 ∨ a = 414 ∨ a = 415) → K a = I a) (hj : ∀ j, j ≠ 2 → j ≠ 63 → K 369 j = I 369 j) (htd : tdI K n hl) (htp : tpI K) : INV t d rt K := by
  obtain ⟨r0, r1, r2, r3, r4, r5, r6, r7, r8, r9⟩ := hR
  have kt := tx_k r2.1
  have cf : frm (fun a => a = 369 ∨ (a = 1 ∨ a = 2 ∨ (308 ≤ a ∧ a ≤ 310) ∨ a = 370 ∨ a = 414 ∨ a = 415)) I K := fun a ha => hp a (fun q => ha (Or.inl q)) (fun q => ha (Or.inr q))
  have mf : frM (fun a => a = 1 ∨ a = 2 ∨ (308 ≤ a ∧ a ≤ 310) ∨ a = 370 ∨ a = 414 ∨ a = 415) (fun j => j = 2 ∨ j = 63) I K := ⟨fun a h0 ha => hp a h0 ha, fun j hj' => hj j (by omega) (by omega)⟩
  refine ⟨lv, w, h, n, nh, hl, sd, ifs, xs, ⟨r0, r1, cfC_frm cf (fun a a1 a2 => by omega) r2, cfM_frm mf (fun a a1 a2 _ _ _ _ _ _ => by omega) (by omega) r3, htd, htp, ?_, ?_, ?_, ?_⟩, ρ, u, H, hd, G, stC_frm cf (fun a ha => by unfold stS at ha; omega) hC, stM_frm (hp _ (by decide) (by omega)) (hp _ (by decide) (by omega)) (hp _ (by decide) (by omega)) (hp _ (by decide) (by omega)) (hj _ (by decide) (by decide)) hM⟩
  · unfold plI at r6 ⊢
    rw [hp 29 (by decide) (by omega), hj 17 (by decide) (by decide)]
    exact r6
  · obtain ⟨q1, q2, q3⟩ := r7
    have hh : h ≤ 6 := r1.2.2.2.1
    refine ⟨rCfg_frm (hp _ (by omega) (by omega)) (hp _ (by omega) (by omega)) (hp _ (by omega) (by omega)) (hp _ (by omega) (by omega)) (hp _ (by omega) (by omega)) q1, fun y hy mm' hm => ?_, ?_⟩
    · rw [hp _ (by omega) (by omega)]; exact q2 y hy mm' hm
    · rw [hp 336 (by decide) (by omega)]; exact q3
  · unfold kyI rgI at r8 ⊢
    rw [hp 376 (by decide) (by omega), hp 412 (by decide) (by omega), hj 18 (by decide) (by decide), hp 387 (by decide) (by omega), hp 388 (by decide) (by omega), hp 389 (by decide) (by omega), hp 390 (by decide) (by omega), hp 392 (by decide) (by omega), hp 393 (by decide) (by omega)]
    exact r8
  · unfold zM b01 at r9 ⊢
    rw [hp 401 (by decide) (by omega), hp 409 (by decide) (by omega), hp 410 (by decide) (by omega)]
    exact r9
theorem P_forget (hI : INV t d rt I) : both t d rt (f_X11_forget 0 (mm t d rt I)) (fun M => f_X12_forget 369 M) := by
  obtain ⟨lv, w, h, n, nh, hl, sd, ifs, xs, hR, ρ, u, H, hd, G, hC, hM⟩ := hI
  obtain ⟨td, q1, q2, q3, q4⟩ := hR.2.2.2.2.1
  obtain ⟨tl, p1, p2, p3, p4⟩ := hR.2.2.2.2.2.1
  unfold both f_X11_forget
  (repeat (first | (with_reducible apply wm_o; focus (simp (disch := omega) only [wr_id, Int.toNat_natCast, Int.reduceToNat, tn_lk, tn_kl, if_pos, if_neg, ↓reduceIte, and_self, and_true, true_and, FX, FTold, q2]; with_reducible rfl)) | (with_reducible apply wm_q) | (with_reducible apply wm_c; focus (first | assumption | decide +kernel)) | (with_reducible apply wm_d; focus (simp (disch := omega) only [wr_id, Int.toNat_natCast, Int.reduceToNat, tn_lk, tn_kl, if_pos, if_neg, ↓reduceIte, and_self, and_true, true_and, FX, FTold, q2]; with_reducible rfl)) | (with_reducible apply wm_t; focus (first | omega | (simp (disch := omega) only [wr_id, FX, FTold, q2]; omega) | (simp (disch := omega) only [wr_id, FX, FTold, q2]; done))) | (with_reducible apply wm_f; focus (first | omega | (simp (disch := omega) only [wr_id, FX, FTold, q2]; omega) | (simp (disch := omega) only [wr_id, FX, FTold, q2]; done)))))
  refine wm_r ?_
  show wm t d rt (f_X12_forget 369 (mm t d rt (up I 308 2 0))) _
  unfold f_X12_forget
  have e : up I 308 2 0 369 63 = (td : Int) := by rw [up_ne (by decide)]; exact q3
  (repeat (first | (with_reducible apply wm_o; focus (simp (disch := omega) only [wr_id, Int.toNat_natCast, Int.reduceToNat, tn_lk, tn_kl, if_pos, if_neg, ↓reduceIte, and_self, and_true, true_and, FM, e]; with_reducible rfl)) | (with_reducible apply wm_q) | (with_reducible apply wm_c; focus (first | assumption | decide +kernel)) | (with_reducible apply wm_d; focus (simp (disch := omega) only [wr_id, Int.toNat_natCast, Int.reduceToNat, tn_lk, tn_kl, if_pos, if_neg, ↓reduceIte, and_self, and_true, true_and, FM, e]; with_reducible rfl)) | (with_reducible apply wm_t; focus (first | omega | (simp (disch := omega) only [wr_id, FM, e]; omega) | (simp (disch := omega) only [wr_id, FM, e]; done))) | (with_reducible apply wm_f; focus (first | omega | (simp (disch := omega) only [wr_id, FM, e]; omega) | (simp (disch := omega) only [wr_id, FM, e]; done)))))
  refine wm_r ⟨rfl, INV_x hR hC hM (fun a h0 ha => by rw [up_ne h0, up_ne (by omega)]) (fun j h1 h2 => by rw [up_g, if_neg h2, up_ne (by decide)]) ⟨0, by omega, ?_, ?_, fun i hi => by omega⟩ ⟨tl, p1, ?_, ?_, fun i hi => ?_⟩⟩
  · rw [up_ne (by decide), up_g, if_pos rfl]; rfl
  · rw [up_g, if_pos rfl]; rfl
  · rw [up_ne (by decide), up_ne (by decide)]; exact p2
  · rw [up_g, if_neg (by decide), up_ne (by decide)]; exact p3
  · rw [up_ne (by decide), up_ne (by decide), up_ne (by decide), up_ne (by decide)]; exact p4 i hi
theorem P_tell (hI : INV t d rt I) {x b : Int} (hx : in32 x) (hb : b = 0 ∨ b = 1) : both t d rt (f_X11_tell 0 x b (mm t d rt I)) (fun M => f_X12_tell 369 x b M) := by
  have hI' := hI
  obtain ⟨lv, w, h, n, nh, hl, sd, ifs, xs, hR, ρ, u, H, hd, G, hC, hM⟩ := hI
  obtain ⟨td, q1, q2, q3, q4⟩ := hR.2.2.2.2.1
  obtain ⟨tl, p1, p2, p3, p4⟩ := hR.2.2.2.2.2.1
  have hq := q_isOpen (d := d) (rt := rt) hR.2.1 hR.2.2.1 hx
  have kt := (tx_k hR.2.2.1.1).1
  have ez : jd_z b = b := by
    rcases hb with rfl | rfl
    · exact jdz0
    · exact jdz1
  unfold both f_X11_tell
  by_cases z : opB n hl x = true
  · rw [if_pos z] at hq
    by_cases z2 : td < 20
    · have hn : f_X10_note 308 x b (mm t d rt I) = some ((td : Int) + 1 - 1, mm t d rt (up (up (up I 309 td x) 310 td b) 308 2 ((td : Int) + 1))) := by
        refine wm_eq ?_
        unfold f_X10_note
        (repeat (first | (with_reducible apply wm_o; focus (simp (disch := omega) only [wr_id, Int.toNat_natCast, Int.reduceToNat, tn_lk, tn_kl, if_pos, if_neg, ↓reduceIte, and_self, and_true, true_and, FTold, q2, up_ne, ez, up_g]; with_reducible rfl)) | (with_reducible apply wm_q) | (with_reducible apply wm_c; focus (first | assumption | decide +kernel)) | (with_reducible apply wm_d; focus (simp (disch := omega) only [wr_id, Int.toNat_natCast, Int.reduceToNat, tn_lk, tn_kl, if_pos, if_neg, ↓reduceIte, and_self, and_true, true_and, FTold, q2, up_ne, ez, up_g]; with_reducible rfl)) | (with_reducible apply wm_t; focus (first | omega | (simp (disch := omega) only [wr_id, FTold, q2, up_ne, ez, up_g]; omega) | (simp (disch := omega) only [wr_id, FTold, q2, up_ne, ez, up_g]; done))) | (with_reducible apply wm_f; focus (first | omega | (simp (disch := omega) only [wr_id, FTold, q2, up_ne, ez, up_g]; omega) | (simp (disch := omega) only [wr_id, FTold, q2, up_ne, ez, up_g]; done)))))
        exact wm_r ⟨rfl, rfl⟩
      (repeat (first | (with_reducible apply wm_o; focus (simp (disch := omega) only [wr_id, Int.toNat_natCast, Int.reduceToNat, tn_lk, tn_kl, if_pos, if_neg, ↓reduceIte, and_self, and_true, true_and, FX, hq, hn]; with_reducible rfl)) | (with_reducible apply wm_q) | (with_reducible apply wm_c; focus (first | assumption | decide +kernel)) | (with_reducible apply wm_d; focus (simp (disch := omega) only [wr_id, Int.toNat_natCast, Int.reduceToNat, tn_lk, tn_kl, if_pos, if_neg, ↓reduceIte, and_self, and_true, true_and, FX, hq, hn]; with_reducible rfl)) | (with_reducible apply wm_t; focus (first | omega | (simp (disch := omega) only [wr_id, FX, hq, hn]; omega) | (simp (disch := omega) only [wr_id, FX, hq, hn]; done))) | (with_reducible apply wm_f; focus (first | omega | (simp (disch := omega) only [wr_id, FX, hq, hn]; omega) | (simp (disch := omega) only [wr_id, FX, hq, hn]; done)))))
      refine wm_r ?_
      have hf : ∀ a, a ≠ 308 → a ≠ 309 → a ≠ 310 → up (up (up I 309 td x) 310 td b) 308 2 ((td : Int) + 1) a = I a := fun a h1 h2 h3 => by rw [up_ne h1, up_ne h3, up_ne h2]
      generalize hJ : up (up (up I 309 td x) 310 td b) 308 2 ((td : Int) + 1) = J at hf
      have j308 : J 308 2 = (td : Int) + 1 := by rw [← hJ, up_g, if_pos rfl]
      have j309 : ∀ i, J 309 i = if i = td then x else I 309 i := fun i => by rw [← hJ, up_ne (by decide), up_ne (by decide), up_g]
      have j310 : ∀ i, J 310 i = if i = td then b else I 310 i := fun i => by rw [← hJ, up_ne (by decide), up_g, up_ne (by decide)]
      have j63 : J 369 63 = (td : Int) := by rw [hf _ (by decide) (by decide) (by decide)]; exact q3
      have hfr : frM (fun a => a < 369) (fun _ => False) I J := ⟨fun a h0 ha => hf a (by omega) (by omega) (by omega), fun j _ => by rw [hf _ (by decide) (by decide) (by decide)]⟩
      have hmJ := cfM_frm hfr (fun a a1 a2 _ _ _ _ _ _ => by omega) (fun q => q) hR.2.2.2.1
      have hg := m_isGround (t := t) (d := d) (rt := rt) hmJ.1 hmJ.2.2.2.1 hx
      rw [if_pos z] at hg
      show wm t d rt (f_X12_tell 369 x b (mm t d rt J)) _
      unfold f_X12_tell
      (repeat (first | (with_reducible apply wm_o; focus (simp (disch := omega) only [wr_id, Int.toNat_natCast, Int.reduceToNat, tn_lk, tn_kl, if_pos, if_neg, ↓reduceIte, and_self, and_true, true_and, FM, j63, hg, up_ne, ez, up_g]; with_reducible rfl)) | (with_reducible apply wm_q) | (with_reducible apply wm_c; focus (first | assumption | decide +kernel)) | (with_reducible apply wm_d; focus (simp (disch := omega) only [wr_id, Int.toNat_natCast, Int.reduceToNat, tn_lk, tn_kl, if_pos, if_neg, ↓reduceIte, and_self, and_true, true_and, FM, j63, hg, up_ne, ez, up_g]; with_reducible rfl)) | (with_reducible apply wm_t; focus (first | omega | (simp (disch := omega) only [wr_id, FM, j63, hg, up_ne, ez, up_g]; omega) | (simp (disch := omega) only [wr_id, FM, j63, hg, up_ne, ez, up_g]; done))) | (with_reducible apply wm_f; focus (first | omega | (simp (disch := omega) only [wr_id, FM, j63, hg, up_ne, ez, up_g]; omega) | (simp (disch := omega) only [wr_id, FM, j63, hg, up_ne, ez, up_g]; done)))))
      refine wm_r ⟨rfl, INV_x hR hC hM (fun a h0 ha => ?_) (fun j h1 h2 => ?_) ⟨td + 1, by omega, ?_, ?_, fun i hi => ?_⟩ ⟨tl, p1, ?_, ?_, fun i hi => ?_⟩⟩
      · rw [up_ne h0, up_ne (by omega), up_ne (by omega), hf a (by omega) (by omega) (by omega)]
      · rw [up_g, if_neg h2, up_ne (by decide), up_ne (by decide), hf _ (by decide) (by decide) (by decide)]
      · rw [up_ne (by decide), up_ne (by decide), up_ne (by decide), j308]; rfl
      · rw [up_g, if_pos rfl]; rfl
      · simp (disch := decide) only [up_ne, up_g]
        rw [j309, j310, hf 414 (by decide) (by decide) (by decide), hf 415 (by decide) (by decide) (by decide)]
        by_cases e : i = td
        · rw [if_pos e, if_pos e, if_pos e, if_pos e]
          exact ⟨rfl, rfl, hb, z⟩
        · rw [if_neg e, if_neg e, if_neg e, if_neg e]
          exact q4 i (by omega)
      · simp (disch := decide) only [up_ne, up_g]
        rw [hf 1 (by decide) (by decide) (by decide)]; exact p2
      · rw [up_g, if_neg (by decide), up_ne (by decide), up_ne (by decide), hf 369 (by decide) (by decide) (by decide)]; exact p3
      · simp (disch := decide) only [up_ne, up_g]
        rw [hf 2 (by decide) (by decide) (by decide), hf 370 (by decide) (by decide) (by decide)]; exact p4 i hi
    · have hn : f_X10_note 308 x b (mm t d rt I) = some (-1, mm t d rt I) := by
        refine wm_eq ?_
        unfold f_X10_note
        (repeat (first | (with_reducible apply wm_o; focus (simp (disch := omega) only [wr_id, Int.toNat_natCast, Int.reduceToNat, tn_lk, tn_kl, if_pos, if_neg, ↓reduceIte, and_self, and_true, true_and, FTold, q2]; with_reducible rfl)) | (with_reducible apply wm_q) | (with_reducible apply wm_c; focus (first | assumption | decide +kernel)) | (with_reducible apply wm_d; focus (simp (disch := omega) only [wr_id, Int.toNat_natCast, Int.reduceToNat, tn_lk, tn_kl, if_pos, if_neg, ↓reduceIte, and_self, and_true, true_and, FTold, q2]; with_reducible rfl)) | (with_reducible apply wm_t; focus (first | omega | (simp (disch := omega) only [wr_id, FTold, q2]; omega) | (simp (disch := omega) only [wr_id, FTold, q2]; done))) | (with_reducible apply wm_f; focus (first | omega | (simp (disch := omega) only [wr_id, FTold, q2]; omega) | (simp (disch := omega) only [wr_id, FTold, q2]; done)))))
        exact wm_r ⟨rfl, rfl⟩
      (repeat (first | (with_reducible apply wm_o; focus (simp (disch := omega) only [wr_id, Int.toNat_natCast, Int.reduceToNat, tn_lk, tn_kl, if_pos, if_neg, ↓reduceIte, and_self, and_true, true_and, FX, hq, hn]; with_reducible rfl)) | (with_reducible apply wm_q) | (with_reducible apply wm_c; focus (first | assumption | decide +kernel)) | (with_reducible apply wm_d; focus (simp (disch := omega) only [wr_id, Int.toNat_natCast, Int.reduceToNat, tn_lk, tn_kl, if_pos, if_neg, ↓reduceIte, and_self, and_true, true_and, FX, hq, hn]; with_reducible rfl)) | (with_reducible apply wm_t; focus (first | omega | (simp (disch := omega) only [wr_id, FX, hq, hn]; omega) | (simp (disch := omega) only [wr_id, FX, hq, hn]; done))) | (with_reducible apply wm_f; focus (first | omega | (simp (disch := omega) only [wr_id, FX, hq, hn]; omega) | (simp (disch := omega) only [wr_id, FX, hq, hn]; done)))))
      refine wm_r ?_
      show wm t d rt (f_X12_tell 369 x b (mm t d rt I)) _
      unfold f_X12_tell
      (repeat (first | (with_reducible apply wm_o; focus (simp (disch := omega) only [wr_id, Int.toNat_natCast, Int.reduceToNat, tn_lk, tn_kl, if_pos, if_neg, ↓reduceIte, and_self, and_true, true_and, FM, q3]; with_reducible rfl)) | (with_reducible apply wm_q) | (with_reducible apply wm_c; focus (first | assumption | decide +kernel)) | (with_reducible apply wm_d; focus (simp (disch := omega) only [wr_id, Int.toNat_natCast, Int.reduceToNat, tn_lk, tn_kl, if_pos, if_neg, ↓reduceIte, and_self, and_true, true_and, FM, q3]; with_reducible rfl)) | (with_reducible apply wm_t; focus (first | omega | (simp (disch := omega) only [wr_id, FM, q3]; omega) | (simp (disch := omega) only [wr_id, FM, q3]; done))) | (with_reducible apply wm_f; focus (first | omega | (simp (disch := omega) only [wr_id, FM, q3]; omega) | (simp (disch := omega) only [wr_id, FM, q3]; done)))))
      exact wm_r ⟨rfl, hI'⟩
  · rw [if_neg z] at hq
    have hg := m_isGround (t := t) (d := d) (rt := rt) hR.2.2.2.1.1 hR.2.2.2.1.2.2.2.1 hx
    rw [if_neg z] at hg
    (repeat (first | (with_reducible apply wm_o; focus (simp (disch := omega) only [wr_id, Int.toNat_natCast, Int.reduceToNat, tn_lk, tn_kl, if_pos, if_neg, ↓reduceIte, and_self, and_true, true_and, FX, hq]; with_reducible rfl)) | (with_reducible apply wm_q) | (with_reducible apply wm_c; focus (first | assumption | decide +kernel)) | (with_reducible apply wm_d; focus (simp (disch := omega) only [wr_id, Int.toNat_natCast, Int.reduceToNat, tn_lk, tn_kl, if_pos, if_neg, ↓reduceIte, and_self, and_true, true_and, FX, hq]; with_reducible rfl)) | (with_reducible apply wm_t; focus (first | omega | (simp (disch := omega) only [wr_id, FX, hq]; omega) | (simp (disch := omega) only [wr_id, FX, hq]; done))) | (with_reducible apply wm_f; focus (first | omega | (simp (disch := omega) only [wr_id, FX, hq]; omega) | (simp (disch := omega) only [wr_id, FX, hq]; done)))))
    refine wm_r ?_
    show wm t d rt (f_X12_tell 369 x b (mm t d rt I)) _
    unfold f_X12_tell
    by_cases z2 : td < 20
    · (repeat (first | (with_reducible apply wm_o; focus (simp (disch := omega) only [wr_id, Int.toNat_natCast, Int.reduceToNat, tn_lk, tn_kl, if_pos, if_neg, ↓reduceIte, and_self, and_true, true_and, FM, q3, hg]; with_reducible rfl)) | (with_reducible apply wm_q) | (with_reducible apply wm_c; focus (first | assumption | decide +kernel)) | (with_reducible apply wm_d; focus (simp (disch := omega) only [wr_id, Int.toNat_natCast, Int.reduceToNat, tn_lk, tn_kl, if_pos, if_neg, ↓reduceIte, and_self, and_true, true_and, FM, q3, hg]; with_reducible rfl)) | (with_reducible apply wm_t; focus (first | omega | (simp (disch := omega) only [wr_id, FM, q3, hg]; omega) | (simp (disch := omega) only [wr_id, FM, q3, hg]; done))) | (with_reducible apply wm_f; focus (first | omega | (simp (disch := omega) only [wr_id, FM, q3, hg]; omega) | (simp (disch := omega) only [wr_id, FM, q3, hg]; done)))))
      exact wm_r ⟨rfl, hI'⟩
    · (repeat (first | (with_reducible apply wm_o; focus (simp (disch := omega) only [wr_id, Int.toNat_natCast, Int.reduceToNat, tn_lk, tn_kl, if_pos, if_neg, ↓reduceIte, and_self, and_true, true_and, FM, q3, hg]; with_reducible rfl)) | (with_reducible apply wm_q) | (with_reducible apply wm_c; focus (first | assumption | decide +kernel)) | (with_reducible apply wm_d; focus (simp (disch := omega) only [wr_id, Int.toNat_natCast, Int.reduceToNat, tn_lk, tn_kl, if_pos, if_neg, ↓reduceIte, and_self, and_true, true_and, FM, q3, hg]; with_reducible rfl)) | (with_reducible apply wm_t; focus (first | omega | (simp (disch := omega) only [wr_id, FM, q3, hg]; omega) | (simp (disch := omega) only [wr_id, FM, q3, hg]; done))) | (with_reducible apply wm_f; focus (first | omega | (simp (disch := omega) only [wr_id, FM, q3, hg]; omega) | (simp (disch := omega) only [wr_id, FM, q3, hg]; done)))))
      exact wm_r ⟨rfl, hI'⟩
theorem P_back (hI : INV t d rt I) {x : Int} (hx : in32 x) : both t d rt (f_X11_back 0 x (mm t d rt I)) (fun M => f_X12_back 369 x M) := by
  have hI' := hI
  obtain ⟨lv, w, h, n, nh, hl, sd, ifs, xs, hR, ρ, u, H, hd, G, hC, hM⟩ := hI
  obtain ⟨td, q1, q2, q3, q4⟩ := hR.2.2.2.2.1
  obtain ⟨tl, p1, p2, p3, p4⟩ := hR.2.2.2.2.2.1
  have hxw := wr_in hx
  unfold both f_X11_back
  by_cases z : 0 ≤ x ∧ x ≤ tl
  · (repeat (first | (with_reducible apply wm_o; focus (simp (disch := omega) only [wr_id, Int.toNat_natCast, Int.reduceToNat, tn_lk, tn_kl, if_pos, if_neg, ↓reduceIte, and_self, and_true, true_and, FX, FTape, p2, up_g]; with_reducible rfl)) | (with_reducible apply wm_q) | (with_reducible apply wm_c; focus (first | assumption | decide +kernel)) | (with_reducible apply wm_d; focus (simp (disch := omega) only [wr_id, Int.toNat_natCast, Int.reduceToNat, tn_lk, tn_kl, if_pos, if_neg, ↓reduceIte, and_self, and_true, true_and, FX, FTape, p2, up_g]; with_reducible rfl)) | (with_reducible apply wm_t; focus (first | omega | (simp (disch := omega) only [wr_id, FX, FTape, p2, up_g]; omega) | (simp (disch := omega) only [wr_id, FX, FTape, p2, up_g]; done))) | (with_reducible apply wm_f; focus (first | omega | (simp (disch := omega) only [wr_id, FX, FTape, p2, up_g]; omega) | (simp (disch := omega) only [wr_id, FX, FTape, p2, up_g]; done)))))
    refine wm_r ?_
    show wm t d rt (f_X12_back 369 x (mm t d rt (up I 1 1 ((tl : Int) - x)))) _
    unfold f_X12_back
    have e : up I 1 1 ((tl : Int) - x) 369 2 = (tl : Int) := by rw [up_ne (by decide)]; exact p3
    (repeat (first | (with_reducible apply wm_o; focus (simp (disch := omega) only [wr_id, Int.toNat_natCast, Int.reduceToNat, tn_lk, tn_kl, if_pos, if_neg, ↓reduceIte, and_self, and_true, true_and, FM, e, up_g]; with_reducible rfl)) | (with_reducible apply wm_q) | (with_reducible apply wm_c; focus (first | assumption | decide +kernel)) | (with_reducible apply wm_d; focus (simp (disch := omega) only [wr_id, Int.toNat_natCast, Int.reduceToNat, tn_lk, tn_kl, if_pos, if_neg, ↓reduceIte, and_self, and_true, true_and, FM, e, up_g]; with_reducible rfl)) | (with_reducible apply wm_t; focus (first | omega | (simp (disch := omega) only [wr_id, FM, e, up_g]; omega) | (simp (disch := omega) only [wr_id, FM, e, up_g]; done))) | (with_reducible apply wm_f; focus (first | omega | (simp (disch := omega) only [wr_id, FM, e, up_g]; omega) | (simp (disch := omega) only [wr_id, FM, e, up_g]; done)))))
    obtain ⟨y, ey⟩ : ∃ y : Nat, (tl : Int) - x = (y : Int) := ⟨((tl : Int) - x).toNat, by omega⟩
    rw [ey]
    refine wm_r ⟨rfl, INV_x hR hC hM (fun a h0 ha => by rw [up_ne h0, up_ne (by omega)]) (fun j h1 h2 => by rw [up_g, if_neg h1, up_ne (by decide)]) ⟨td, q1, ?_, ?_, fun i hi => ?_⟩ ⟨y, by omega, ?_, ?_, fun i hi => ?_⟩⟩
    · simp (disch := decide) only [up_ne]; exact q2
    · rw [up_g, if_neg (by decide), up_ne (by decide)]; exact q3
    · simp (disch := decide) only [up_ne]; exact q4 i hi
    · rw [up_ne (by decide), up_g, if_pos rfl]
    · rw [up_g, if_pos rfl]
    · simp (disch := decide) only [up_ne]; exact p4 i (by omega)
  · by_cases z2 : x < 0
    · (repeat (first | (with_reducible apply wm_o; focus (simp (disch := omega) only [wr_id, Int.toNat_natCast, Int.reduceToNat, tn_lk, tn_kl, if_pos, if_neg, ↓reduceIte, and_self, and_true, true_and, FX, FTape, p2]; with_reducible rfl)) | (with_reducible apply wm_q) | (with_reducible apply wm_c; focus (first | assumption | decide +kernel)) | (with_reducible apply wm_d; focus (simp (disch := omega) only [wr_id, Int.toNat_natCast, Int.reduceToNat, tn_lk, tn_kl, if_pos, if_neg, ↓reduceIte, and_self, and_true, true_and, FX, FTape, p2]; with_reducible rfl)) | (with_reducible apply wm_t; focus (first | omega | (simp (disch := omega) only [wr_id, FX, FTape, p2]; omega) | (simp (disch := omega) only [wr_id, FX, FTape, p2]; done))) | (with_reducible apply wm_f; focus (first | omega | (simp (disch := omega) only [wr_id, FX, FTape, p2]; omega) | (simp (disch := omega) only [wr_id, FX, FTape, p2]; done)))))
      refine wm_r ?_
      show wm t d rt (f_X12_back 369 x (mm t d rt I)) _
      unfold f_X12_back
      (repeat (first | (with_reducible apply wm_o; focus (simp (disch := omega) only [wr_id, Int.toNat_natCast, Int.reduceToNat, tn_lk, tn_kl, if_pos, if_neg, ↓reduceIte, and_self, and_true, true_and, FM, p3]; with_reducible rfl)) | (with_reducible apply wm_q) | (with_reducible apply wm_c; focus (first | assumption | decide +kernel)) | (with_reducible apply wm_d; focus (simp (disch := omega) only [wr_id, Int.toNat_natCast, Int.reduceToNat, tn_lk, tn_kl, if_pos, if_neg, ↓reduceIte, and_self, and_true, true_and, FM, p3]; with_reducible rfl)) | (with_reducible apply wm_t; focus (first | omega | (simp (disch := omega) only [wr_id, FM, p3]; omega) | (simp (disch := omega) only [wr_id, FM, p3]; done))) | (with_reducible apply wm_f; focus (first | omega | (simp (disch := omega) only [wr_id, FM, p3]; omega) | (simp (disch := omega) only [wr_id, FM, p3]; done)))))
      exact wm_r ⟨rfl, hI'⟩
    · (repeat (first | (with_reducible apply wm_o; focus (simp (disch := omega) only [wr_id, Int.toNat_natCast, Int.reduceToNat, tn_lk, tn_kl, if_pos, if_neg, ↓reduceIte, and_self, and_true, true_and, FX, FTape, p2]; with_reducible rfl)) | (with_reducible apply wm_q) | (with_reducible apply wm_c; focus (first | assumption | decide +kernel)) | (with_reducible apply wm_d; focus (simp (disch := omega) only [wr_id, Int.toNat_natCast, Int.reduceToNat, tn_lk, tn_kl, if_pos, if_neg, ↓reduceIte, and_self, and_true, true_and, FX, FTape, p2]; with_reducible rfl)) | (with_reducible apply wm_t; focus (first | omega | (simp (disch := omega) only [wr_id, FX, FTape, p2]; omega) | (simp (disch := omega) only [wr_id, FX, FTape, p2]; done))) | (with_reducible apply wm_f; focus (first | omega | (simp (disch := omega) only [wr_id, FX, FTape, p2]; omega) | (simp (disch := omega) only [wr_id, FX, FTape, p2]; done)))))
      refine wm_r ?_
      show wm t d rt (f_X12_back 369 x (mm t d rt I)) _
      unfold f_X12_back
      (repeat (first | (with_reducible apply wm_o; focus (simp (disch := omega) only [wr_id, Int.toNat_natCast, Int.reduceToNat, tn_lk, tn_kl, if_pos, if_neg, ↓reduceIte, and_self, and_true, true_and, FM, p3]; with_reducible rfl)) | (with_reducible apply wm_q) | (with_reducible apply wm_c; focus (first | assumption | decide +kernel)) | (with_reducible apply wm_d; focus (simp (disch := omega) only [wr_id, Int.toNat_natCast, Int.reduceToNat, tn_lk, tn_kl, if_pos, if_neg, ↓reduceIte, and_self, and_true, true_and, FM, p3]; with_reducible rfl)) | (with_reducible apply wm_t; focus (first | omega | (simp (disch := omega) only [wr_id, FM, p3]; omega) | (simp (disch := omega) only [wr_id, FM, p3]; done))) | (with_reducible apply wm_f; focus (first | omega | (simp (disch := omega) only [wr_id, FM, p3]; omega) | (simp (disch := omega) only [wr_id, FM, p3]; done)))))
      exact wm_r ⟨rfl, hI'⟩
end PT
