/-! ===== the model begins with what it read ===== -/
theorem rwS_st {w : Nat} {sx sy sw : Nat → Int} {m : Nat} (hm : m < 18) {c : Int} (hc : (w : Int) * sy m + sx m = c) (j : Nat) : (if j = 18 + m then sw m else if j = m then c else rwS w sx sy sw m j) = rwS w sx sy sw (m + 1) j := by
  rw [← rwS_s hm hc]
  unfold rPut
  by_cases a4 : j = 54 + m
  · rw [if_pos a4, if_neg (by omega), if_neg (by omega)]
    unfold rwS
    rw [if_neg (by omega), if_neg (by omega)]
  · rw [if_neg a4]
    by_cases a3 : j = 36 + m
    · rw [if_pos a3, if_neg (by omega), if_neg (by omega)]
      unfold rwS
      rw [if_neg (by omega), if_neg (by omega)]
    · rw [if_neg a3]
theorem mkH_pre {w h : Nat} {hx hy : Nat → Int} {n : Nat} {V : Nat → Bool} (e : mkH w h hx hy n = some V) {k : Nat} (hk : k ≤ n) : ∃ W, mkH w h hx hy k = some W := by
  cases e0 : mkH w h hx hy k with
  | none => rw [mkH_none hk e0] at e; cases e
  | some W => exact ⟨W, rfl⟩
section BG
variable {t d rt : Nat} {I J : Nat → Nat → Int} {w h sd : Nat} {H : TH} {S : TS} {U : Nat → Bool} {se : Int}
theorem w_begins (hsd : sd ≤ 1) (h18 : I 369 18 = (sd : Int)) (h0 : I 377 sd = (w : Int)) (h1 : I 378 sd = (h : Int)) (h6 : I 386 sd = se) (hx : hsM I sd H S) (hr : rgX (w : Int) (h : Int) se H S) (hU : mkH w h H.2.1 H.2.2 H.1 = some U) (hS : ∀ i, i < S.1 → ∃ c : Nat, (w : Int) * S.2.2.1 i + S.2.1 i = (c : Int) ∧ c < 36) : wm t d rt (f_X12_begins 369 (mm t d rt I)) (fun _ J => frM (fun a => a = 401 ∨ a = 402) (fun j => j = 49) I J ∧ (∀ j, J 401 j = if j < 75 then rwS w S.2.1 S.2.2.1 S.2.2.2 S.1 j else I 401 j) ∧ ∀ c, c < 36 → J 402 c = if U c then 1 else 0) := by
  obtain ⟨x3, x4, x5, x6, x7, x8⟩ := hx
  obtain ⟨r1, r2, r3, r4, r5, r6, r7, r8⟩ := hr
  have hw : 2 ≤ w ∧ w ≤ 6 := by omega
  have hh : 2 ≤ h ∧ h ≤ 6 := by omega
  have hn : 4 ≤ w * h ∧ w * h ≤ 36 := by
    have a := Nat.mul_le_mul hw.1 hh.1
    have b := Nat.mul_le_mul hw.2 hh.2
    omega
  have z0 : jd_z 0 = 0 := by decide
  have z1 : jd_z 1 = 1 := by decide
  unfold f_X12_begins
  refine wm_lp2 75 (fun n y J => y = (n : Int) ∧ frM (fun a => a = 401) (fun _ => False) I J ∧ ∀ j, J 401 j = if j < n then (if j < 18 then -2 else 0) else I 401 j) ?_ (jfuel_n (by decide)) ⟨rfl, frM_refl _ _ _, fun j => by rw [if_neg (Nat.not_lt_zero _)]⟩
  rintro n hn' y J ⟨rfl, j1, j2⟩ rec hrec
  by_cases cn : n < 75
  · by_cases c18 : n < 18
    · (repeat (first | (with_reducible apply wm_o; focus (simp (disch := omega) only [wr_id, Int.toNat_natCast, Int.reduceToNat, tn_lk, tn_kl, if_pos, if_neg, ↓reduceIte, and_self, and_true, true_and, FM]; with_reducible rfl)) | (with_reducible apply wm_q) | (with_reducible apply wm_c; focus (first | assumption | decide +kernel)) | (with_reducible apply wm_d; focus (simp (disch := omega) only [wr_id, Int.toNat_natCast, Int.reduceToNat, tn_lk, tn_kl, if_pos, if_neg, ↓reduceIte, and_self, and_true, true_and, FM]; with_reducible rfl)) | (with_reducible apply wm_t; focus (first | omega | (simp (disch := omega) only [wr_id, FM]; omega) | (simp (disch := omega) only [wr_id, FM]; done))) | (with_reducible apply wm_f; focus (first | omega | (simp (disch := omega) only [wr_id, FM]; omega) | (simp (disch := omega) only [wr_id, FM]; done)))))
      refine hrec (n + 1) _ _ (by omega) (by omega) ⟨by omega, frM_up j1 (by decide) rfl, fun j => ?_⟩
      rw [up_g, j2 j]
      by_cases e : j = n
      · rw [if_pos e, if_pos (by omega), if_pos (by omega)]
      · rw [if_neg e]
        by_cases e2 : j < n
        · rw [if_pos e2, if_pos (show j < n + 1 by omega)]
        · rw [if_neg e2, if_neg (show ¬ j < n + 1 by omega)]
    · (repeat (first | (with_reducible apply wm_o; focus (simp (disch := omega) only [wr_id, Int.toNat_natCast, Int.reduceToNat, tn_lk, tn_kl, if_pos, if_neg, ↓reduceIte, and_self, and_true, true_and, FM]; with_reducible rfl)) | (with_reducible apply wm_q) | (with_reducible apply wm_c; focus (first | assumption | decide +kernel)) | (with_reducible apply wm_d; focus (simp (disch := omega) only [wr_id, Int.toNat_natCast, Int.reduceToNat, tn_lk, tn_kl, if_pos, if_neg, ↓reduceIte, and_self, and_true, true_and, FM]; with_reducible rfl)) | (with_reducible apply wm_t; focus (first | omega | (simp (disch := omega) only [wr_id, FM]; omega) | (simp (disch := omega) only [wr_id, FM]; done))) | (with_reducible apply wm_f; focus (first | omega | (simp (disch := omega) only [wr_id, FM]; omega) | (simp (disch := omega) only [wr_id, FM]; done)))))
      refine hrec (n + 1) _ _ (by omega) (by omega) ⟨by omega, frM_up j1 (by decide) rfl, fun j => ?_⟩
      rw [up_g, j2 j]
      by_cases e : j = n
      · rw [if_pos e, if_pos (by omega), if_neg (by omega)]
      · rw [if_neg e]
        by_cases e2 : j < n
        · rw [if_pos e2, if_pos (show j < n + 1 by omega)]
        · rw [if_neg e2, if_neg (show ¬ j < n + 1 by omega)]
  have en : n = 75 := by omega
  subst en
  (repeat (first | (with_reducible apply wm_o; focus (simp (disch := omega) only [wr_id, Int.toNat_natCast, Int.reduceToNat, tn_lk, tn_kl, if_pos, if_neg, ↓reduceIte, and_self, and_true, true_and]; with_reducible rfl)) | (with_reducible apply wm_q) | (with_reducible apply wm_c; focus (first | assumption | decide +kernel)) | (with_reducible apply wm_d; focus (simp (disch := omega) only [wr_id, Int.toNat_natCast, Int.reduceToNat, tn_lk, tn_kl, if_pos, if_neg, ↓reduceIte, and_self, and_true, true_and]; with_reducible rfl)) | (with_reducible apply wm_t; focus (first | omega | (simp (disch := omega) only [wr_id]; omega) | (simp (disch := omega) only [wr_id]; done))) | (with_reducible apply wm_f; focus (first | omega | (simp (disch := omega) only [wr_id]; omega) | (simp (disch := omega) only [wr_id]; done)))))
  have k2 : ∀ j, J 401 j = if j < 75 then rwS w S.2.1 S.2.2.1 S.2.2.2 0 j else I 401 j := fun j => by
    rw [j2 j, rwS_0]; rfl
  refine wm_lp2 36 (fun n y X => y = (n : Int) ∧ frM (fun a => a = 401 ∨ a = 402) (fun _ => False) I X ∧ X 401 = J 401 ∧ ∀ c, c < n → X 402 c = 0) ?_ (jfuel_n (by decide)) ⟨rfl, frM_sub j1 (fun a h => Or.inl h) (fun a h => h), rfl, fun c hc => absurd hc (Nat.not_lt_zero _)⟩
  clear hrec rec cn hn'
  rintro n hn' y X ⟨rfl, i1, i2, i3⟩ rec hrec
  by_cases cn : n < 36
  · (repeat (first | (with_reducible apply wm_o; focus (simp (disch := omega) only [wr_id, Int.toNat_natCast, Int.reduceToNat, tn_lk, tn_kl, if_pos, if_neg, ↓reduceIte, and_self, and_true, true_and, FM, z0]; with_reducible rfl)) | (with_reducible apply wm_q) | (with_reducible apply wm_c; focus (first | assumption | decide +kernel)) | (with_reducible apply wm_d; focus (simp (disch := omega) only [wr_id, Int.toNat_natCast, Int.reduceToNat, tn_lk, tn_kl, if_pos, if_neg, ↓reduceIte, and_self, and_true, true_and, FM, z0]; with_reducible rfl)) | (with_reducible apply wm_t; focus (first | omega | (simp (disch := omega) only [wr_id, FM, z0]; omega) | (simp (disch := omega) only [wr_id, FM, z0]; done))) | (with_reducible apply wm_f; focus (first | omega | (simp (disch := omega) only [wr_id, FM, z0]; omega) | (simp (disch := omega) only [wr_id, FM, z0]; done)))))
    refine hrec (n + 1) _ _ (by omega) (by omega) ⟨by omega, frM_up i1 (by decide) (Or.inr rfl), (up_ne (by decide)).trans i2, fun c hc => ?_⟩
    rw [up_g]
    by_cases e : c = n
    · rw [if_pos e]
    · rw [if_neg e]; exact i3 c (by omega)
  have i18 : X 369 18 = (sd : Int) := by rw [i1.2 18 (fun h => h)]; exact h18
  (repeat (first | (with_reducible apply wm_o; focus (simp (disch := omega) only [wr_id, Int.toNat_natCast, Int.reduceToNat, tn_lk, tn_kl, if_pos, if_neg, ↓reduceIte, and_self, and_true, true_and, FM, i18]; with_reducible rfl)) | (with_reducible apply wm_q) | (with_reducible apply wm_c; focus (first | assumption | decide +kernel)) | (with_reducible apply wm_d; focus (simp (disch := omega) only [wr_id, Int.toNat_natCast, Int.reduceToNat, tn_lk, tn_kl, if_pos, if_neg, ↓reduceIte, and_self, and_true, true_and, FM, i18]; with_reducible rfl)) | (with_reducible apply wm_t; focus (first | omega | (simp (disch := omega) only [wr_id, FM, i18]; omega) | (simp (disch := omega) only [wr_id, FM, i18]; done))) | (with_reducible apply wm_f; focus (first | omega | (simp (disch := omega) only [wr_id, FM, i18]; omega) | (simp (disch := omega) only [wr_id, FM, i18]; done)))))
  refine wm_lp2 12 (fun n y Y => y = ((12 * sd + n : Nat) : Int) ∧ n ≤ H.1 ∧ frM (fun a => a = 401 ∨ a = 402) (fun _ => False) I Y ∧ Y 401 = J 401 ∧ ∃ U', mkH w h H.2.1 H.2.2 n = some U' ∧ ∀ c, c < 36 → Y 402 c = if U' c then 1 else 0) ?_ (jfuel_n (by decide)) ⟨by omega, Nat.zero_le _, i1, i2, _, rfl, fun c hc => by rw [i3 c (by omega)]; rfl⟩
  clear hrec rec cn hn' i18 i1 i2 i3 X n
  rintro n hn' y X ⟨rfl, i0, i1, i2, U', i3, i4⟩ rec hrec
  have e : ∀ a, a ≠ 369 → a ≠ 401 → a ≠ 402 → X a = I a := fun a b1 b2 b3 => i1.1 a b1 (by omega)
  have i18 : X 369 18 = (sd : Int) := by rw [i1.2 18 (fun h => h)]; exact h18
  have y3 : X 379 sd = (H.1 : Int) := by rw [e _ (by decide) (by decide) (by decide)]; exact x3
  have y0 : X 377 sd = (w : Int) := by rw [e _ (by decide) (by decide) (by decide)]; exact h0
  have y1 : X 378 sd = (h : Int) := by rw [e _ (by decide) (by decide) (by decide)]; exact h1
  have sw := s_w (t := t) (d := d) (rt := rt) (I := X) (lv := sd) (w := w) (h := h) (n := w * h) ⟨i18, by omega, y0, y1, hw.1, hw.2, hh.1, hh.2, rfl, hn.1, hn.2⟩
  have ee : 12 * (sd : Int) + (H.1 : Int) = ((12 * sd + H.1 : Nat) : Int) := by omega
  by_cases cn : n < H.1
  · obtain ⟨u1, u2⟩ := x7 n cn
    obtain ⟨v1, v2, v3, v4⟩ := r7 n cn
    rw [← e 380 (by decide) (by decide) (by decide)] at u1
    rw [← e 381 (by decide) (by decide) (by decide)] at u2
    obtain ⟨U2, p⟩ := mkH_pre hU (show n + 1 ≤ H.1 by omega)
    have p' := p
    rw [mkH, i3] at p'
    have p' : mkP w h U' (H.2.1 n).toNat (H.2.2 n).toNat = some U2 := p'
    obtain ⟨p1, p2, p3, p4⟩ := mkP_some p'
    have cl := cell_lt hw.2 hh.2 p1 p2
    have ec : (w : Int) * H.2.2 n + H.2.1 n = ((w * (H.2.2 n).toNat + (H.2.1 n).toNat : Nat) : Int) := by
      rw [show H.2.2 n = ((H.2.2 n).toNat : Int) by omega, show H.2.1 n = ((H.2.1 n).toNat : Int) by omega]
      simp
    generalize w * (H.2.2 n).toNat + (H.2.1 n).toNat = cc at ec cl p3 p4
    (repeat (first | (with_reducible apply wm_o; focus (simp (disch := omega) only [wr_id, Int.toNat_natCast, Int.reduceToNat, tn_lk, tn_kl, if_pos, if_neg, ↓reduceIte, and_self, and_true, true_and, FM, i18, y3, ee, sw, u1, u2, ec, z1]; with_reducible rfl)) | (with_reducible apply wm_q) | (with_reducible apply wm_c; focus (first | assumption | decide +kernel)) | (with_reducible apply wm_d; focus (simp (disch := omega) only [wr_id, Int.toNat_natCast, Int.reduceToNat, tn_lk, tn_kl, if_pos, if_neg, ↓reduceIte, and_self, and_true, true_and, FM, i18, y3, ee, sw, u1, u2, ec, z1]; with_reducible rfl)) | (with_reducible apply wm_t; focus (first | omega | (simp (disch := omega) only [wr_id, FM, i18, y3, ee, sw, u1, u2, ec, z1]; omega) | (simp (disch := omega) only [wr_id, FM, i18, y3, ee, sw, u1, u2, ec, z1]; done))) | (with_reducible apply wm_f; focus (first | omega | (simp (disch := omega) only [wr_id, FM, i18, y3, ee, sw, u1, u2, ec, z1]; omega) | (simp (disch := omega) only [wr_id, FM, i18, y3, ee, sw, u1, u2, ec, z1]; done)))))
    refine hrec (n + 1) _ _ (by omega) (by omega) ⟨by omega, by omega, frM_up i1 (by decide) (Or.inr rfl), (up_ne (by decide)).trans i2, U2, p, fun c hc => ?_⟩
    rw [up_g, p4]
    by_cases e : c = cc
    · rw [if_pos e, if_pos e]; rfl
    · rw [if_neg e, if_neg e]; exact i4 c hc
  have en : n = H.1 := by omega
  rw [en, hU] at i3
  injection i3 with i3
  rw [← i3] at i4
  (repeat (first | (with_reducible apply wm_o; focus (simp (disch := omega) only [wr_id, Int.toNat_natCast, Int.reduceToNat, tn_lk, tn_kl, if_pos, if_neg, ↓reduceIte, and_self, and_true, true_and, FM, i18, y3, ee]; with_reducible rfl)) | (with_reducible apply wm_q) | (with_reducible apply wm_c; focus (first | assumption | decide +kernel)) | (with_reducible apply wm_d; focus (simp (disch := omega) only [wr_id, Int.toNat_natCast, Int.reduceToNat, tn_lk, tn_kl, if_pos, if_neg, ↓reduceIte, and_self, and_true, true_and, FM, i18, y3, ee]; with_reducible rfl)) | (with_reducible apply wm_t; focus (first | omega | (simp (disch := omega) only [wr_id, FM, i18, y3, ee]; omega) | (simp (disch := omega) only [wr_id, FM, i18, y3, ee]; done))) | (with_reducible apply wm_f; focus (first | omega | (simp (disch := omega) only [wr_id, FM, i18, y3, ee]; omega) | (simp (disch := omega) only [wr_id, FM, i18, y3, ee]; done)))))
  refine wm_lp2 18 (fun n y Y => y = (n : Int) ∧ n ≤ S.1 ∧ frM (fun a => a = 401 ∨ a = 402) (fun _ => False) I Y ∧ Y 402 = X 402 ∧ ∀ j, Y 401 j = if j < 75 then rwS w S.2.1 S.2.2.1 S.2.2.2 n j else I 401 j) ?_ (jfuel_n (by decide)) ⟨rfl, Nat.zero_le _, i1, rfl, fun j => by rw [i2]; exact k2 j⟩
  clear hrec rec cn hn' i18 y3 y0 y1 sw ee e en i0 n
  rintro n hn' y Y ⟨rfl, g0, g1, g2, g3⟩ rec hrec
  have e : ∀ a, a ≠ 369 → a ≠ 401 → a ≠ 402 → Y a = I a := fun a b1 b2 b3 => g1.1 a b1 (by omega)
  have i18 : Y 369 18 = (sd : Int) := by rw [g1.2 18 (fun h => h)]; exact h18
  have y4 : Y 382 sd = (S.1 : Int) := by rw [e _ (by decide) (by decide) (by decide)]; exact x4
  have y0 : Y 377 sd = (w : Int) := by rw [e _ (by decide) (by decide) (by decide)]; exact h0
  have y1 : Y 378 sd = (h : Int) := by rw [e _ (by decide) (by decide) (by decide)]; exact h1
  have sw := s_w (t := t) (d := d) (rt := rt) (I := Y) (lv := sd) (w := w) (h := h) (n := w * h) ⟨i18, by omega, y0, y1, hw.1, hw.2, hh.1, hh.2, rfl, hn.1, hn.2⟩
  have ee : 18 * (sd : Int) + (n : Int) = ((18 * sd + n : Nat) : Int) := by omega
  by_cases cn : n < S.1
  · obtain ⟨u1, u2, u3⟩ := x8 n cn
    obtain ⟨c, hc, hc36⟩ := hS n cn
    rw [← e 383 (by decide) (by decide) (by decide)] at u1
    rw [← e 384 (by decide) (by decide) (by decide)] at u2
    rw [← e 385 (by decide) (by decide) (by decide)] at u3
    have f18 : up Y 401 n (c : Int) 369 18 = (sd : Int) := by rw [up_ne (by decide)]; exact i18
    have f3 : up Y 401 n (c : Int) 385 (18 * sd + n) = S.2.2.2 n := by rw [up_ne (by decide)]; exact u3
    (repeat (first | (with_reducible apply wm_o; focus (simp (disch := omega) only [wr_id, Int.toNat_natCast, Int.reduceToNat, tn_lk, tn_kl, if_pos, if_neg, ↓reduceIte, and_self, and_true, true_and, FM, i18, y4, ee, sw, u1, u2, u3, hc, f18, f3]; with_reducible rfl)) | (with_reducible apply wm_q) | (with_reducible apply wm_c; focus (first | assumption | decide +kernel)) | (with_reducible apply wm_d; focus (simp (disch := omega) only [wr_id, Int.toNat_natCast, Int.reduceToNat, tn_lk, tn_kl, if_pos, if_neg, ↓reduceIte, and_self, and_true, true_and, FM, i18, y4, ee, sw, u1, u2, u3, hc, f18, f3]; with_reducible rfl)) | (with_reducible apply wm_t; focus (first | omega | (simp (disch := omega) only [wr_id, FM, i18, y4, ee, sw, u1, u2, u3, hc, f18, f3]; omega) | (simp (disch := omega) only [wr_id, FM, i18, y4, ee, sw, u1, u2, u3, hc, f18, f3]; done))) | (with_reducible apply wm_f; focus (first | omega | (simp (disch := omega) only [wr_id, FM, i18, y4, ee, sw, u1, u2, u3, hc, f18, f3]; omega) | (simp (disch := omega) only [wr_id, FM, i18, y4, ee, sw, u1, u2, u3, hc, f18, f3]; done)))))
    refine hrec (n + 1) _ _ (by omega) (by omega) ⟨by omega, by omega, frM_up (frM_up g1 (by decide) (Or.inl rfl)) (by decide) (Or.inl rfl), (up_ne (by decide)).trans ((up_ne (by decide)).trans g2), fun j => ?_⟩
    rw [← rwS_st (show n < 18 by omega) hc j, up_g, up_g, g3 j]
    by_cases e1 : j = 18 + n
    · rw [if_pos e1, if_pos e1, if_pos (by omega)]
    · rw [if_neg e1, if_neg e1]
      by_cases e2 : j = n
      · rw [if_pos e2, if_pos e2, if_pos (by omega)]
      · rw [if_neg e2, if_neg e2]
  · have en : n = S.1 := by omega
    have y6 : Y 386 sd = se := by rw [e _ (by decide) (by decide) (by decide)]; exact h6
    (repeat (first | (with_reducible apply wm_o; focus (simp (disch := omega) only [wr_id, Int.toNat_natCast, Int.reduceToNat, tn_lk, tn_kl, if_pos, if_neg, ↓reduceIte, and_self, and_true, true_and, FM, i18, y4, y6]; with_reducible rfl)) | (with_reducible apply wm_q) | (with_reducible apply wm_c; focus (first | assumption | decide +kernel)) | (with_reducible apply wm_d; focus (simp (disch := omega) only [wr_id, Int.toNat_natCast, Int.reduceToNat, tn_lk, tn_kl, if_pos, if_neg, ↓reduceIte, and_self, and_true, true_and, FM, i18, y4, y6]; with_reducible rfl)) | (with_reducible apply wm_t; focus (first | omega | (simp (disch := omega) only [wr_id, FM, i18, y4, y6]; omega) | (simp (disch := omega) only [wr_id, FM, i18, y4, y6]; done))) | (with_reducible apply wm_f; focus (first | omega | (simp (disch := omega) only [wr_id, FM, i18, y4, y6]; omega) | (simp (disch := omega) only [wr_id, FM, i18, y4, y6]; done)))))
    refine wm_r ⟨frM_fd (frM_sub g1 (fun a h => h) (fun a h => h.elim)) rfl, fun j => ?_, fun c hc => ?_⟩
    · rw [up_ne (by decide), g3 j, en]
    · rw [up_ne (by decide), g2]; exact i4 c hc
end BG
