/-! ===== the model reads a text ===== -/
theorem and255a : ∀ k : Nat, k < 256 → 0 ≤ jd_and ((k : Int) - 128) 255 ∧ jd_and ((k : Int) - 128) 255 < 256 ∧ jd_b ((k : Int) - 128) = (k : Int) - 128 := by decide +kernel
theorem and255 {x : Int} (h1 : -128 ≤ x) (h2 : x < 128) : 0 ≤ jd_and x 255 ∧ jd_and x 255 < 256 ∧ jd_b x = x := by
  obtain ⟨k, hk⟩ : ∃ k : Nat, x = (k : Int) - 128 := ⟨(x + 128).toNat, by omega⟩
  rw [hk]
  exact and255a k (by omega)
/-- the other side's entries stay -/
def msd (sd : Nat) (I J : Nat → Nat → Int) : Prop := kpL (420 * sd) (420 * sd + 420) (130 * sd) (130 * sd + 130) I J ∧ (∀ j, j ≠ sd → J 377 j = I 377 j ∧ J 378 j = I 378 j ∧ J 379 j = I 379 j ∧ J 382 j = I 382 j ∧ J 386 j = I 386 j) ∧ (∀ j, ¬ (12 * sd ≤ j ∧ j < 12 * sd + 12) → J 380 j = I 380 j ∧ J 381 j = I 381 j) ∧ (∀ j, ¬ (18 * sd ≤ j ∧ j < 18 * sd + 18) → J 383 j = I 383 j ∧ J 384 j = I 384 j ∧ J 385 j = I 385 j) ∧ ∀ j, ¬ (3 * sd ≤ j ∧ j < 3 * sd + 3) → J 387 j = I 387 j ∧ J 388 j = I 388 j
theorem msd_trans {sd : Nat} {I J K : Nat → Nat → Int} (h1 : msd sd I J) (h2 : msd sd J K) : msd sd I K := by
  obtain ⟨a3, a4, a5, a6, a7⟩ := h1
  obtain ⟨b3, b4, b5, b6, b7⟩ := h2
  refine ⟨kpL_trans a3 b3 (Nat.le_refl _) (Nat.le_refl _), fun j c => ?_, fun j c => ?_, fun j c => ?_, fun j c => ?_⟩
  · obtain ⟨x1, x2, x3, x4, x5⟩ := a4 j c
    obtain ⟨y1, y2, y3, y4, y5⟩ := b4 j c
    exact ⟨y1.trans x1, y2.trans x2, y3.trans x3, y4.trans x4, y5.trans x5⟩
  · obtain ⟨x1, x2⟩ := a5 j c
    obtain ⟨y1, y2⟩ := b5 j c
    exact ⟨y1.trans x1, y2.trans x2⟩
  · obtain ⟨x1, x2, x3⟩ := a6 j c
    obtain ⟨y1, y2, y3⟩ := b6 j c
    exact ⟨y1.trans x1, y2.trans x2, y3.trans x3⟩
  · obtain ⟨x1, x2⟩ := a7 j c
    obtain ⟨y1, y2⟩ := b7 j c
    exact ⟨y1.trans x1, y2.trans x2⟩
theorem msd_row {sd : Nat} {I J : Nat → Nat → Int} (e : ∀ a, 377 ≤ a → a ≤ 395 → J a = I a) : msd sd I J := by
  have q : ∀ a, 377 ≤ a ∧ a ≤ 395 → J a = I a := fun a h => e a h.1 h.2
  refine ⟨kpL_row (fun a h1 h2 => e a (by omega) h2), fun j _ => ?_, fun j _ => ?_, fun j _ => ?_, fun j _ => ?_⟩
  · rw [q 377 (by decide), q 378 (by decide), q 379 (by decide), q 382 (by decide), q 386 (by decide)]; exact ⟨rfl, rfl, rfl, rfl, rfl⟩
  · rw [q 380 (by decide), q 381 (by decide)]; exact ⟨rfl, rfl⟩
  · rw [q 383 (by decide), q 384 (by decide), q 385 (by decide)]; exact ⟨rfl, rfl, rfl⟩
  · rw [q 387 (by decide), q 388 (by decide)]; exact ⟨rfl, rfl⟩
def mfS : Nat → Prop := fun a => (371 ≤ a ∧ a ≤ 375) ∨ (377 ≤ a ∧ a ≤ 397)
def mfT : Nat → Prop := fun j => j = 2 ∨ j = 4 ∨ (10 ≤ j ∧ j ≤ 17) ∨ j = 19 ∨ j = 32 ∨ j = 38 ∨ j = 43
def mff (sd : Nat) (I J : Nat → Nat → Int) : Prop := frM mfS mfT I J ∧ J 369 2 = 0 ∧ msd sd I J
def mok (sd : Nat) (I : Nat → Nat → Int) (w h : Nat) (se : Int) (H : TH) (S : TS) (lw : Nat → LW) (J : Nat → Nat → Int) : Prop := frM (fun a => mfS a ∨ a = 400 ∨ a = 401 ∨ a = 402 ∨ a = 416) (fun j => mfT j ∨ j = 18 ∨ j = 49 ∨ j = 53 ∨ j = 63) I J ∧ J 369 2 = 0 ∧ J 369 18 = (sd : Int) ∧ J 377 sd = (w : Int) ∧ J 378 sd = (h : Int) ∧ J 386 sd = se ∧ J 379 sd = (H.1 : Int) ∧ (∃ b c : Nat, b ≤ 130 * sd + 130 ∧ c ≤ 420 * sd + 420 ∧ ∀ q, q < 3 → lwS J sd b c q (lw q)) ∧ (∃ U, mkH w h H.2.1 H.2.2 H.1 = some U ∧ ∀ c, c < 36 → J 402 c = if U c then 1 else 0) ∧ J 400 = rwS w S.2.1 S.2.2.1 S.2.2.2 S.1 ∧ (∀ j, 75 ≤ j → J 401 j = 0) ∧ J 369 53 = 0 ∧ J 369 63 = 0 ∧ ∀ i, i < 3 → J 416 i = 0
/-- what the model's read comes to -/
def mrQ (sd tl : Nat) (ps : Nat → Nat) (I : Nat → Nat → Int) (R : ER TX) (r : Int) (J : Nat → Nat → Int) : Prop := (∃ c q, R = efl c q ∧ r = (c : Int) ∧ J 369 17 = (ps q : Int) ∧ mff sd I J) ∨ ∃ t' w h se H S lw wr, R = eok t' (w, h, se, H, S, lw, wr) ∧ ((∃ q, wr = some q ∧ r = 5 ∧ J 369 17 = (ps q : Int) ∧ mff sd I J) ∨ (wr = none ∧ rgX w h se H S ∧ ((fitB w.toNat h.toNat H S = false ∧ r = 6 ∧ J 369 17 = (tl : Int) ∧ mff sd I J) ∨ (fitB w.toNat h.toNat H S = true ∧ r = 0 ∧ J 369 17 = -1 ∧ mok sd I w.toNat h.toNat se H S lw J))))
theorem tbm_of {I : Nat → Nat → Int} {B : Nat → Nat} {tl n : Nat} (hn : n ≤ 401) (h : toM I B tl n) (h0 : 0 < n) (h1 : n = 401 ∨ tK B tl (n - 1) = 0) : tbM (tK B tl) (tV B tl) (tps B tl) I := by
  intro i hi hj
  have : i < n := by
    rcases Nat.lt_or_ge i n with c | c
    · exact c
    · exfalso
      rcases h1 with h1 | h1
      · omega
      · exact hj (n - 1) (by omega) h1
  exact h i this
theorem mff_fr {sd : Nat} {I0 I J : Nat → Nat → Int} (h0 : mff sd I0 I) (h : mfr sd I J) : mff sd I0 J := by
  obtain ⟨a1, a2, a3⟩ := h0
  obtain ⟨b1, b2, b3⟩ := h
  refine ⟨⟨fun a n1 n2 => (b1 a n1 (fun q => n2 (by unfold mfS; omega)) (fun q => n2 (by unfold mfS; omega))).trans (a1.1 a n1 n2), fun j nj => (b2 j (fun q => nj (by unfold rdT at q; unfold mfT; omega))).trans (a1.2 j nj)⟩, ?_, msd_trans a3 b3⟩
  rw [b2 2 (by unfold rdT; omega)]; exact a2
theorem mff_fd {sd j : Nat} {v : Int} {I J : Nat → Nat → Int} (h : mff sd I J) (hj : mfT j ∧ j ≠ 2) : mff sd I (up J 369 j v) := by
  obtain ⟨a1, a2, a3⟩ := h
  exact ⟨frM_fd a1 hj.1, by rw [up_n (Or.inr (by omega))]; exact a2, msd_trans a3 (msd_row (fun a h1 _ => up_ne (by omega)))⟩
theorem mff_396 {sd : Nat} {I J K : Nat → Nat → Int} (h : mff sd I J) (h2 : frM (fun a => a = 396) (fun _ => False) J K) : mff sd I K := by
  obtain ⟨a1, a2, a3⟩ := h
  exact ⟨frM_trans a1 (frM_sub h2 (fun a h => by unfold mfS; omega) (fun a h => h.elim)), by rw [h2.2 2 (fun q => q)]; exact a2, msd_trans a3 (msd_row (fun a h1 h3 => h2.1 a (by omega) (by omega)))⟩
section MRD
variable {t d rt : Nat} {I J : Nat → Nat → Int} {B : Nat → Nat} {tl lv : Nat}
/-- the last of a text that is read: all that is told comes to be -/
theorem m_ok {sd w h : Nat} {se : Int} {H : TH} {S : TS} {lw : Nat → LW} {b c : Nat} (hsd : sd ≤ 1) (hf : mff sd I J) (hB : mtB sd J (w : Int) (h : Int) se H S lw b c) (hr : rgX (w : Int) (h : Int) se H S) (hfit : fitB w h H S = true) (hb : b ≤ 130 * sd + 130) (hc : c ≤ 420 * sd + 420) (z0 : ∀ j, 75 ≤ j → I 400 j = 0) (z1 : ∀ j, 75 ≤ j → I 401 j = 0) : wm t d rt ((jm_pI 12 18 (mm t d rt J) 369 (sd : Int)).bind fun M31 =>
    jcall 12 M31 369 (f_X12_begins 369 M31) fun _ M33 =>
    jcall 12 M33 369 (f_X12_keepsRow 369 M33) fun _ M35 =>
    (jm_pI 12 53 M35 369 0).bind fun M36 =>
    (jm_pI 12 63 M36 369 0).bind fun M37 =>
    jlp2 (fun rec_245 (y1_245 : Int) (M_245 : jMem) =>
    if jd_wr y1_245 < jd_wr 3 then ((jm_gR 12 66 M_245 369).bind fun r38 =>
    (jm_st 22 M_245 r38 y1_245 (jd_z 0)).bind fun M39 =>
    rec_245 (y1_245 + 1) M39)
    else (some (0, M_245))) jfuel 0 M37) (fun r K => r = 0 ∧ K 369 17 = J 369 17 ∧ mok sd I w h se H S lw K) := by
  have hB' := hB
  obtain ⟨b1, b2, b3, b4, b5, b6, b7, b8, b9⟩ := hB
  have jz : jd_z 0 = 0 := by decide
  have hr' := hr
  obtain ⟨r1, r2, r3, r4, r5, r6, r7, r8⟩ := hr'
  have hS18 := b8.2.2.2.1
  have hU : ∃ U, mkH w h H.2.1 H.2.2 H.1 = some U ∧ ∃ W, mkS w h S.2.1 S.2.2.1 S.2.2.2 U S.1 = some W := by
    unfold fitB at hfit
    cases e : mkH w h H.2.1 H.2.2 H.1 with
    | none => rw [e] at hfit; cases hfit
    | some U =>
      rw [e] at hfit
      have hfit : (mkS w h S.2.1 S.2.2.1 S.2.2.2 U S.1).isSome = true := hfit
      cases e2 : mkS w h S.2.1 S.2.2.1 S.2.2.2 U S.1 with
      | none => rw [e2] at hfit; cases hfit
      | some W => exact ⟨U, rfl, W, e2⟩
  obtain ⟨U, eU, W, eW⟩ := hU
  have hok := mkS_ok (hl := U) (h := h) (n := w * h) (by omega) (by omega) rfl S.1 W hS18 (fun i hi => by obtain ⟨q1, q2, q3, q4, q5, q6⟩ := r8 i hi; exact ⟨q1, q3, q5, q6⟩) eW
  (repeat (first | (with_reducible apply wm_o; focus (simp (disch := omega) only [wr_id, Int.toNat_natCast, Int.reduceToNat, tn_lk, tn_kl, if_pos, if_neg, ↓reduceIte, and_self, and_true, true_and, FM]; with_reducible rfl)) | (with_reducible apply wm_q) | (with_reducible apply wm_c; focus (first | assumption | decide +kernel)) | (with_reducible apply wm_d; focus (simp (disch := omega) only [wr_id, Int.toNat_natCast, Int.reduceToNat, tn_lk, tn_kl, if_pos, if_neg, ↓reduceIte, and_self, and_true, true_and, FM]; with_reducible rfl)) | (with_reducible apply wm_t; focus (first | omega | (simp (disch := omega) only [wr_id, FM]; omega) | (simp (disch := omega) only [wr_id, FM]; done))) | (with_reducible apply wm_f; focus (first | omega | (simp (disch := omega) only [wr_id, FM]; omega) | (simp (disch := omega) only [wr_id, FM]; done)))))
  have g : ∀ a, a ≠ 369 → up J 369 18 (sd : Int) a = J a := fun a ha => up_ne ha
  refine wm_b (w_begins hsd (up_s _ _ _ _) (by rw [g _ (by decide)]; exact b5) (by rw [g _ (by decide)]; exact b6) (by rw [g _ (by decide)]; exact b7) (hs_row (fun a h1 h2 => g a (by omega)) b8) hr eU hok.2.2) (fun r K1 hK1 => ?_)
  obtain ⟨k1, k2, k3⟩ := hK1
  have ek := s_keepsRow (t := t) (d := d) (rt := rt) (I := K1)
  (repeat (first | (with_reducible apply wm_o; focus (simp (disch := omega) only [wr_id, Int.toNat_natCast, Int.reduceToNat, tn_lk, tn_kl, if_pos, if_neg, ↓reduceIte, and_self, and_true, true_and, FM, ek]; with_reducible rfl)) | (with_reducible apply wm_q) | (with_reducible apply wm_c; focus (first | assumption | decide +kernel)) | (with_reducible apply wm_d; focus (simp (disch := omega) only [wr_id, Int.toNat_natCast, Int.reduceToNat, tn_lk, tn_kl, if_pos, if_neg, ↓reduceIte, and_self, and_true, true_and, FM, ek]; with_reducible rfl)) | (with_reducible apply wm_t; focus (first | omega | (simp (disch := omega) only [wr_id, FM, ek]; omega) | (simp (disch := omega) only [wr_id, FM, ek]; done))) | (with_reducible apply wm_f; focus (first | omega | (simp (disch := omega) only [wr_id, FM, ek]; omega) | (simp (disch := omega) only [wr_id, FM, ek]; done)))))
  generalize eK2 : up (up (fl K1 400 75 (K1 401)) 369 53 0) 369 63 0 = K2
  have q1 : ∀ a, a ≠ 369 → a ≠ 400 → K2 a = K1 a := fun a n1 n2 => by
    rw [← eK2, up_ne n1, up_ne n1]
    funext j
    exact fl_ne n2
  have q2 : ∀ j, j ≠ 53 → j ≠ 63 → K2 369 j = K1 369 j := fun j n1 n2 => by
    rw [← eK2, up_n (Or.inr n2), up_n (Or.inr n1)]
    exact fl_ne (by decide)
  have q3 : K2 369 53 = 0 := by rw [← eK2, up_n (Or.inr (by decide)), up_s]
  have q4 : K2 369 63 = 0 := by rw [← eK2, up_s]
  have q5 : K2 400 = rwS w S.2.1 S.2.2.1 S.2.2.2 S.1 := by
    funext j
    rw [← eK2, up_ne (by decide), up_ne (by decide)]
    by_cases c : j < 75
    · rw [fl_in c, k2 j, if_pos c]
    · rw [fl_out (by omega), rwS_out j (by omega), k1.1 400 (by decide) (by decide), g _ (by decide), hf.1.1 400 (by decide) (by unfold mfS; omega)]
      exact z0 j (by omega)
  clear eK2 ek
  refine wm_lp2 3 (fun n y K => y = (n : Int) ∧ frM (fun a => a = 416) (fun _ => False) K2 K ∧ ∀ i, i < n → K 416 i = 0) ?_ (jfuel_n (by decide)) ⟨rfl, frM_refl _ _ _, fun i hi => absurd hi (Nat.not_lt_zero _)⟩
  rintro n hn y K ⟨rfl, s1, s2⟩ rec hrec
  by_cases cn : n < 3
  · (repeat (first | (with_reducible apply wm_o; focus (simp (disch := omega) only [wr_id, Int.toNat_natCast, Int.reduceToNat, tn_lk, tn_kl, if_pos, if_neg, ↓reduceIte, and_self, and_true, true_and, FM, jz]; with_reducible rfl)) | (with_reducible apply wm_q) | (with_reducible apply wm_c; focus (first | assumption | decide +kernel)) | (with_reducible apply wm_d; focus (simp (disch := omega) only [wr_id, Int.toNat_natCast, Int.reduceToNat, tn_lk, tn_kl, if_pos, if_neg, ↓reduceIte, and_self, and_true, true_and, FM, jz]; with_reducible rfl)) | (with_reducible apply wm_t; focus (first | omega | (simp (disch := omega) only [wr_id, FM, jz]; omega) | (simp (disch := omega) only [wr_id, FM, jz]; done))) | (with_reducible apply wm_f; focus (first | omega | (simp (disch := omega) only [wr_id, FM, jz]; omega) | (simp (disch := omega) only [wr_id, FM, jz]; done)))))
    refine hrec (n + 1) _ _ (by omega) (by omega) ⟨by omega, frM_up s1 (by decide) rfl, fun i hi => ?_⟩
    rw [up_g]
    by_cases e : i = n
    · rw [if_pos e]
    · rw [if_neg e]; exact s2 i (by omega)
  (repeat (first | (with_reducible apply wm_o; focus (simp (disch := omega) only [wr_id, Int.toNat_natCast, Int.reduceToNat, tn_lk, tn_kl, if_pos, if_neg, ↓reduceIte, and_self, and_true, true_and]; with_reducible rfl)) | (with_reducible apply wm_q) | (with_reducible apply wm_c; focus (first | assumption | decide +kernel)) | (with_reducible apply wm_d; focus (simp (disch := omega) only [wr_id, Int.toNat_natCast, Int.reduceToNat, tn_lk, tn_kl, if_pos, if_neg, ↓reduceIte, and_self, and_true, true_and]; with_reducible rfl)) | (with_reducible apply wm_t; focus (first | omega | (simp (disch := omega) only [wr_id]; omega) | (simp (disch := omega) only [wr_id]; done))) | (with_reducible apply wm_f; focus (first | omega | (simp (disch := omega) only [wr_id]; omega) | (simp (disch := omega) only [wr_id]; done)))))
  have p1 : ∀ a, a ≠ 369 → a ≠ 400 → a ≠ 416 → K a = K1 a := fun a n1 n2 n3 => (s1.1 a n1 n3).trans (q1 a n1 n2)
  have p2 : ∀ j, j ≠ 53 → j ≠ 63 → K 369 j = K1 369 j := fun j n1 n2 => (s1.2 j (fun q => q)).trans (q2 j n1 n2)
  have p3 : ∀ a, a ≠ 369 → a ≠ 400 → a ≠ 401 → a ≠ 402 → a ≠ 416 → K a = J a := fun a n1 n2 n3 n4 n5 => by rw [p1 a n1 n2 n5, k1.1 a n1 (by omega), g a n1]
  have p4 : ∀ j, j ≠ 53 → j ≠ 63 → j ≠ 49 → j ≠ 18 → K 369 j = J 369 j := fun j n1 n2 n3 n4 => by rw [p2 j n1 n2, k1.2 j n3, up_n (Or.inr n4)]
  have p5 : ∀ a, 377 ≤ a → a ≤ 395 → K a = J a := fun a n1 n2 => p3 a (by omega) (by omega) (by omega) (by omega) (by omega)
  refine wm_r ⟨rfl, p4 17 (by decide) (by decide) (by decide) (by decide), ⟨fun a n1 n2 => ?_, fun j nj => ?_⟩, ?_, ?_, ?_, ?_, ?_, ?_, ⟨b, c, hb, hc, fun q hq => ?_⟩, ⟨U, eU, fun c hc => ?_⟩, ?_, fun j hj => ?_, ?_, ?_, fun i hi => s2 i (by omega)⟩
  · have n2' : a ≠ 400 ∧ a ≠ 401 ∧ a ≠ 402 ∧ a ≠ 416 := by omega
    rw [p3 a n1 n2'.1 n2'.2.1 n2'.2.2.1 n2'.2.2.2]
    exact hf.1.1 a n1 (fun q => n2 (Or.inl q))
  · have nj' : j ≠ 18 ∧ j ≠ 49 ∧ j ≠ 53 ∧ j ≠ 63 := by omega
    rw [p4 j nj'.2.2.1 nj'.2.2.2 nj'.2.1 nj'.1]
    exact hf.1.2 j (fun q => nj (Or.inl q))
  · rw [p4 2 (by decide) (by decide) (by decide) (by decide)]; exact hf.2.1
  · rw [p2 18 (by decide) (by decide), k1.2 18 (by decide), up_s]
  · rw [p5 377 (by decide) (by decide)]; exact b5
  · rw [p5 378 (by decide) (by decide)]; exact b6
  · rw [p5 386 (by decide) (by decide)]; exact b7
  · rw [p5 379 (by decide) (by decide)]; exact b8.1
  · exact lws_kp (hi := 0) (bh := 0) (kpL_row (fun a n1 n2 => p5 a (by omega) n2)) (by rw [p5 387 (by decide) (by decide)]) (by rw [p5 388 (by decide) (by decide)]) (Nat.le_refl _) (Nat.le_refl _) (b9 q hq)
  · rw [p1 402 (by decide) (by decide) (by decide)]; exact k3 c hc
  · rw [s1.1 400 (by decide) (by decide)]; exact q5
  · rw [p1 401 (by decide) (by decide) (by decide), k2 j, if_neg (by omega), g _ (by decide), hf.1.1 401 (by decide) (by unfold mfS; omega)]
    exact z1 j hj
  · rw [s1.2 53 (fun q => q)]; exact q3
  · rw [s1.2 63 (fun q => q)]; exact q4
end MRD
