/-! ===== the model's tokens ===== -/
section MD
variable {t d rt : Nat} {I J : Nat → Nat → Int} {B : Nat → Nat} {tl : Nat}
/-- what stands behind the cutting -/
def cutQ (I : Nat → Nat → Int) (B : Nat → Nat) (tl : Nat) (J : Nat → Nat → Int) : Prop := frM (fun a => 372 ≤ a ∧ a ≤ 375) (fun j => j = 10) I J ∧ ∃ n, n ≤ 401 ∧ toM J B tl n ∧ 0 < n ∧ (n = 401 ∨ tK B tl (n - 1) = 0) ∧ ∀ i, i + 1 < n → tK B tl i ≠ 0
def cutN (I : Nat → Nat → Int) (B : Nat → Nat) (tl p : Nat) (J : Nat → Nat → Int) : Prop := frM (fun a => 372 ≤ a ∧ a ≤ 375) (fun j => j = 10) I J ∧ p ≤ tl ∧ ∃ n : Nat, n ≤ 401 ∧ J 369 10 = (n : Int) ∧ rn B isBl p = tps B tl n ∧ toM J B tl n ∧ ∀ i, i < n → tK B tl i ≠ 0
theorem cutN_next (hB : bOK B tl) {n p : Nat} {a b c e : Int} (hJ : frM (fun a => 372 ≤ a ∧ a ≤ 375) (fun j => j = 10) I J) (hn : n ≤ 400) (hm : toM J B tl n) (h0 : ∀ i, i < n → tK B tl i ≠ 0) (hp : p < tl) (hpn : tps B tl n = p) (ha : a = (mkK (tkK B tl p) : Int)) (hb : b = (p : Int)) (hc : tkK B tl p = 3 → c = tkV B p) : cutN I B tl (tkE B tl p) (tkI J n a b c e) := by
  have k0 : tK B tl n = tkK B tl p := by unfold tK; rw [hpn]
  have k1 : tV B tl n = tkV B p := by unfold tV; rw [hpn]
  obtain ⟨z1, z2⟩ := tkI_to (a := a) (b := b) (c := c) (e := e) hm (by rw [k0]; exact ha) (by rw [hpn]; exact hb) (by rw [k0, k1]; exact hc)
  refine ⟨frM_trans hJ tkI_frm, ?_, n + 1, by omega, z2, ?_, z1, fun i hi => ?_⟩
  · have h1 := (rn_spec hB (P := isBl) rfl (tkE B tl p)).1
    have h2 := tps_le hB (n + 1)
    rw [tps, hpn] at h2
    omega
  · rw [tps, hpn]
  · by_cases ei : i = n
    · rw [ei, k0]
      intro h
      have := tkK_END.mp h
      omega
    · exact h0 i (by omega)
theorem w_cut (hB : bOK B tl) (hT : tpM I B tl) (hK : kyK I) : wm t d rt (f_X12_cut 369 (mm t d rt I)) (fun _ J => cutQ I B tl J) := by
  have ht := hB.1
  unfold f_X12_cut
  (repeat (first | (with_reducible apply wm_o; focus (simp (disch := omega) only [wr_id, Int.toNat_natCast, Int.reduceToNat, tn_lk, tn_kl, if_pos, if_neg, ↓reduceIte, and_self, and_true, true_and, FM]; with_reducible rfl)) | (with_reducible apply wm_q) | (with_reducible apply wm_c; focus (first | assumption | decide +kernel)) | (with_reducible apply wm_d; focus (simp (disch := omega) only [wr_id, Int.toNat_natCast, Int.reduceToNat, tn_lk, tn_kl, if_pos, if_neg, ↓reduceIte, and_self, and_true, true_and, FM]; with_reducible rfl)) | (with_reducible apply wm_t; focus (first | omega | (simp (disch := omega) only [wr_id, FM]; omega) | (simp (disch := omega) only [wr_id, FM]; done))) | (with_reducible apply wm_f; focus (first | omega | (simp (disch := omega) only [wr_id, FM]; omega) | (simp (disch := omega) only [wr_id, FM]; done)))))
  refine wm_lp2 2001 (fun m y J => ∃ p : Nat, y = (p : Int) ∧ m ≤ p ∧ cutN I B tl p J) ?_ (jfuel_n (by decide)) ⟨0, rfl, Nat.le_refl _, ⟨fun a h1 _ => up_ne h1, fun j hj => by rw [up_g, if_neg hj]⟩, Nat.zero_le _, 0, by decide, up_s _ _ _ _, rfl, fun i hi => absurd hi (Nat.not_lt_zero _), fun i hi => absurd hi (Nat.not_lt_zero _)⟩
  rintro m hm y J ⟨p, rfl, hmp, j1, j2, n, j3, j4, j5, j6, j7⟩ rec hrec
  have hTJ : tpM J B tl := by
    refine ⟨by rw [j1.2 4 (by decide)]; exact hT.1, ?_⟩
    rw [j1.1 371 (by decide) (by omega)]; exact hT.2
  have hKJ : kyK J := by
    unfold kyK
    rw [j1.1 376 (by decide) (by omega)]; exact hK
  by_cases cn : n ≤ 400
  · have e1 := q_byteAt (t := t) (d := d) (rt := rt) hB hTJ p (by omega)
    have eT := hTJ.1
    have hb := hB.2.2 p
    by_cases cp : p < tl
    · have go : ∀ p' J', m < p' → cutN I B tl p' J' → wm t d rt (rec (p' : Int) (mm t d rt J')) (fun _ J => cutQ I B tl J) := by
        intro p' J' h1 h2
        have := h2.2.1
        exact hrec p' _ _ h1 (by omega) ⟨p', rfl, Nat.le_refl _, h2⟩
      by_cases cb : isBl (B p) = true
      · have e9 : rn B isBl (p + 1) = rn B isBl p := by
          obtain ⟨r1, r2, r3, _⟩ := rn_spec hB (P := isBl) rfl p
          refine rn_uniq hB rfl ?_ (fun j h1 h2 => r2 j (by omega) h2) r3
          rcases Nat.lt_or_ge p (rn B isBl p) with z | z
          · exact z
          · exfalso
            rw [show rn B isBl p = p by omega] at r3
            rw [r3] at cb; exact absurd cb (by decide)
        have gg : wm t d rt (rec ((p : Int) + 1) (mm t d rt J)) (fun _ J => cutQ I B tl J) := by
          have := go (p + 1) J (by omega) ⟨j1, by omega, n, j3, j4, by rw [e9]; exact j5, j6, j7⟩
          rw [show ((p : Int) + 1) = ((p + 1 : Nat) : Int) by omega]
          exact this
        have cb' : B p = 9 ∨ B p = 10 ∨ B p = 13 ∨ B p = 32 := by
          unfold isBl at cb
          simp only [Bool.or_eq_true, beq_iff_eq] at cb
          omega
        rcases cb' with cb' | cb' | cb' | cb'
        all_goals
          rw [cb'] at e1
          (repeat (first | (with_reducible apply wm_o; focus (simp (disch := omega) only [wr_id, Int.toNat_natCast, Int.reduceToNat, tn_lk, tn_kl, if_pos, if_neg, ↓reduceIte, and_self, and_true, true_and, FM, j4, e1, eT]; with_reducible rfl)) | (with_reducible apply wm_q) | (with_reducible apply wm_c; focus (first | assumption | decide +kernel)) | (with_reducible apply wm_d; focus (simp (disch := omega) only [wr_id, Int.toNat_natCast, Int.reduceToNat, tn_lk, tn_kl, if_pos, if_neg, ↓reduceIte, and_self, and_true, true_and, FM, j4, e1, eT]; with_reducible rfl)) | (with_reducible apply wm_t; focus (first | omega | (simp (disch := omega) only [wr_id, FM, j4, e1, eT]; omega) | (simp (disch := omega) only [wr_id, FM, j4, e1, eT]; done))) | (with_reducible apply wm_f; focus (first | omega | (simp (disch := omega) only [wr_id, FM, j4, e1, eT]; omega) | (simp (disch := omega) only [wr_id, FM, j4, e1, eT]; done)))))
          exact gg
      · have nb : B p ≠ 9 ∧ B p ≠ 10 ∧ B p ≠ 13 ∧ B p ≠ 32 := by
          unfold isBl at cb
          simp only [Bool.or_eq_true, beq_iff_eq] at cb
          omega
        obtain ⟨n1, n2, n3, n4⟩ := nb
        have e9 : tps B tl n = p := by
          rw [← j5]
          exact rn_uniq hB rfl (Nat.le_refl _) (fun j h1 h2 => by omega) (by cases h : isBl (B p); rfl; exact absurd h cb)
        have nx : ∀ (a b c e : Int), a = (mkK (tkK B tl p) : Int) → b = (p : Int) → (tkK B tl p = 3 → c = tkV B p) → p < tkE B tl p → wm t d rt (rec (tkE B tl p : Int) (mm t d rt (tkI J n a b c e))) (fun _ J => cutQ I B tl J) :=
          fun a b c e ha hb' hc he => go _ _ (by omega) (cutN_next hB j1 cn j6 j7 cp e9 ha hb' hc)
        have e2 := q_mLe (t := t) (d := d) (rt := rt) (I := J) hb
        have e3 := q_mDi (t := t) (d := d) (rt := rt) (I := J) hb
        by_cases c2 : isLe (B p) = true
        · rw [if_pos c2] at e2
          obtain ⟨r1, r2, r3, r4⟩ := rn_spec hB (P := isLe) rfl p
          have r4 := r4 (by omega)
          have k0 : tkK B tl p = if 8 < rn B isLe p - p then 1 else wKd (sl B p (rn B isLe p - p)) := by unfold tkK; rw [if_neg (by omega), if_pos c2]
          have k1 : tkE B tl p = rn B isLe p := by unfold tkE; rw [if_neg (by omega), if_pos c2]
          rw [k1, k0] at nx
          generalize he : rn B isLe p = e at r1 r2 r3 r4 k0 nx
          have pe : p < e := by
            rcases Nat.lt_or_ge p e with z | z
            · exact z
            · exfalso
              rw [show e = p by omega, c2] at r3
              exact absurd r3 (by decide)
          have lets : ∀ k, k ≤ e - p → leL (sl B p k) := fun k hk x hx => by
            obtain ⟨j, h1, h2⟩ := sl_mem hx
            have h3 := r2 (p + j) (by omega) (by omega)
            unfold isLe at h3
            simp only [Bool.and_eq_true, decide_eq_true_eq] at h3
            omega
          (repeat (first | (with_reducible apply wm_o; focus (simp (disch := omega) only [wr_id, Int.toNat_natCast, Int.reduceToNat, tn_lk, tn_kl, if_pos, if_neg, ↓reduceIte, and_self, and_true, true_and, FM, j4, e1, eT, e2]; with_reducible rfl)) | (with_reducible apply wm_q) | (with_reducible apply wm_c; focus (first | assumption | decide +kernel)) | (with_reducible apply wm_d; focus (simp (disch := omega) only [wr_id, Int.toNat_natCast, Int.reduceToNat, tn_lk, tn_kl, if_pos, if_neg, ↓reduceIte, and_self, and_true, true_and, FM, j4, e1, eT, e2]; with_reducible rfl)) | (with_reducible apply wm_t; focus (first | omega | (simp (disch := omega) only [wr_id, FM, j4, e1, eT, e2]; omega) | (simp (disch := omega) only [wr_id, FM, j4, e1, eT, e2]; done))) | (with_reducible apply wm_f; focus (first | omega | (simp (disch := omega) only [wr_id, FM, j4, e1, eT, e2]; omega) | (simp (disch := omega) only [wr_id, FM, j4, e1, eT, e2]; done)))))
          refine wm_lp3 2000 (fun i y3 y4 J' => y3 = (i : Int) ∧ p + i ≤ e ∧ y4 = wdV (sl B p (min i 8)) ∧ J' = J) ?_ (jfuel_n (by decide)) ⟨rfl, by omega, rfl, rfl⟩
          rintro i hi y3 y4 J' ⟨rfl, i1, rfl, rfl⟩ rec2 hrec2
          have hbi := hB.2.2 (p + i)
          have f1 := q_byteAt (t := t) (d := d) (rt := rt) hB hTJ (p + i) (by omega)
          rw [show (((p + i : Nat)) : Int) = (p : Int) + (i : Int) by omega] at f1
          have f2 := q_mLe (t := t) (d := d) (rt := rt) (I := J') hbi
          by_cases c3 : isLe (B (p + i)) = true
          · rw [if_pos c3] at f2
            have z : p + i < e := by
              rcases Nat.lt_or_ge (p + i) e with z | z
              · exact z
              · exfalso
                rw [show p + i = e by omega, r3] at c3
                exact absurd c3 (by decide)
            unfold isLe at c3
            simp only [Bool.and_eq_true, decide_eq_true_eq] at c3
            by_cases c4 : i < 8
            · have f3 : f_X12_appends (wdV (sl B p (min i 8))) (B (p + i) : Int) (mm t d rt J') = some (wdV (sl B p (min (i + 1) 8)), mm t d rt J') := by
                apply wm_eq
                unfold f_X12_appends
                (repeat (first | (with_reducible apply wm_o; focus (simp (disch := omega) only [wr_id, Int.toNat_natCast, Int.reduceToNat, tn_lk, tn_kl, if_pos, if_neg, ↓reduceIte, and_self, and_true, true_and]; with_reducible rfl)) | (with_reducible apply wm_q) | (with_reducible apply wm_c; focus (first | assumption | decide +kernel)) | (with_reducible apply wm_d; focus (simp (disch := omega) only [wr_id, Int.toNat_natCast, Int.reduceToNat, tn_lk, tn_kl, if_pos, if_neg, ↓reduceIte, and_self, and_true, true_and]; with_reducible rfl)) | (with_reducible apply wm_t; focus (first | omega | (simp (disch := omega) only [wr_id]; omega) | (simp (disch := omega) only [wr_id]; done))) | (with_reducible apply wm_f; focus (first | omega | (simp (disch := omega) only [wr_id]; omega) | (simp (disch := omega) only [wr_id]; done)))))
                refine wm_r ⟨?_, rfl⟩
                rw [Nat.min_eq_left (by omega), Nat.min_eq_left (by omega), sl_succ, wdV_snoc, wr_id (by omega) (by omega)]
              (repeat (first | (with_reducible apply wm_o; focus (simp (disch := omega) only [wr_id, Int.toNat_natCast, Int.reduceToNat, tn_lk, tn_kl, if_pos, if_neg, ↓reduceIte, and_self, and_true, true_and, FM, f1, f2, f3]; with_reducible rfl)) | (with_reducible apply wm_q) | (with_reducible apply wm_c; focus (first | assumption | decide +kernel)) | (with_reducible apply wm_d; focus (simp (disch := omega) only [wr_id, Int.toNat_natCast, Int.reduceToNat, tn_lk, tn_kl, if_pos, if_neg, ↓reduceIte, and_self, and_true, true_and, FM, f1, f2, f3]; with_reducible rfl)) | (with_reducible apply wm_t; focus (first | omega | (simp (disch := omega) only [wr_id, FM, f1, f2, f3]; omega) | (simp (disch := omega) only [wr_id, FM, f1, f2, f3]; done))) | (with_reducible apply wm_f; focus (first | omega | (simp (disch := omega) only [wr_id, FM, f1, f2, f3]; omega) | (simp (disch := omega) only [wr_id, FM, f1, f2, f3]; done)))))
              exact hrec2 (i + 1) _ _ _ (by omega) (by omega) ⟨by omega, by omega, rfl, rfl⟩
            · (repeat (first | (with_reducible apply wm_o; focus (simp (disch := omega) only [wr_id, Int.toNat_natCast, Int.reduceToNat, tn_lk, tn_kl, if_pos, if_neg, ↓reduceIte, and_self, and_true, true_and, FM, f1, f2]; with_reducible rfl)) | (with_reducible apply wm_q) | (with_reducible apply wm_c; focus (first | assumption | decide +kernel)) | (with_reducible apply wm_d; focus (simp (disch := omega) only [wr_id, Int.toNat_natCast, Int.reduceToNat, tn_lk, tn_kl, if_pos, if_neg, ↓reduceIte, and_self, and_true, true_and, FM, f1, f2]; with_reducible rfl)) | (with_reducible apply wm_t; focus (first | omega | (simp (disch := omega) only [wr_id, FM, f1, f2]; omega) | (simp (disch := omega) only [wr_id, FM, f1, f2]; done))) | (with_reducible apply wm_f; focus (first | omega | (simp (disch := omega) only [wr_id, FM, f1, f2]; omega) | (simp (disch := omega) only [wr_id, FM, f1, f2]; done)))))
              refine hrec2 (i + 1) _ _ _ (by omega) (by omega) ⟨by omega, by omega, ?_, rfl⟩
              rw [Nat.min_eq_right (by omega), Nat.min_eq_right (by omega)]
          · rw [if_neg c3] at f2
            have e10 : e = p + i := by
              rw [← he]
              exact rn_uniq hB rfl (by omega) (fun j h1 h2 => r2 j h1 (by omega)) (by cases h : isLe (B (p + i)); rfl; exact absurd h c3)
            have e11 : e - p = i := by omega
            rw [e11] at nx k0 lets
            have e12 : (e : Int) = (p : Int) + (i : Int) := by omega
            rw [e12] at nx
            by_cases c4 : 8 < i
            · rw [if_pos c4] at nx
              have f4 : ∀ a b c e', f_X12_token 369 a b c e' (mm t d rt J') = some (0, mm t d rt (tkI J' n a b c e')) := fun a b c e' => q_token cn j4
              (repeat (first | (with_reducible apply wm_o; focus (simp (disch := omega) only [wr_id, Int.toNat_natCast, Int.reduceToNat, tn_lk, tn_kl, if_pos, if_neg, ↓reduceIte, and_self, and_true, true_and, FM, f1, f2, f4]; with_reducible rfl)) | (with_reducible apply wm_q) | (with_reducible apply wm_c; focus (first | assumption | decide +kernel)) | (with_reducible apply wm_d; focus (simp (disch := omega) only [wr_id, Int.toNat_natCast, Int.reduceToNat, tn_lk, tn_kl, if_pos, if_neg, ↓reduceIte, and_self, and_true, true_and, FM, f1, f2, f4]; with_reducible rfl)) | (with_reducible apply wm_t; focus (first | omega | (simp (disch := omega) only [wr_id, FM, f1, f2, f4]; omega) | (simp (disch := omega) only [wr_id, FM, f1, f2, f4]; done))) | (with_reducible apply wm_f; focus (first | omega | (simp (disch := omega) only [wr_id, FM, f1, f2, f4]; omega) | (simp (disch := omega) only [wr_id, FM, f1, f2, f4]; done)))))
              exact nx _ _ _ _ rfl rfl (fun h => absurd h (by decide)) pe
            · rw [if_neg c4] at nx
              have f4 : ∀ a b c e', f_X12_token 369 a b c e' (mm t d rt J') = some (0, mm t d rt (tkI J' n a b c e')) := fun a b c e' => q_token cn j4
              (repeat (first | (with_reducible apply wm_o; focus (simp (disch := omega) only [wr_id, Int.toNat_natCast, Int.reduceToNat, tn_lk, tn_kl, if_pos, if_neg, ↓reduceIte, and_self, and_true, true_and, FM, f1, f2, f4]; with_reducible rfl)) | (with_reducible apply wm_q) | (with_reducible apply wm_c; focus (first | assumption | decide +kernel)) | (with_reducible apply wm_d; focus (simp (disch := omega) only [wr_id, Int.toNat_natCast, Int.reduceToNat, tn_lk, tn_kl, if_pos, if_neg, ↓reduceIte, and_self, and_true, true_and, FM, f1, f2, f4]; with_reducible rfl)) | (with_reducible apply wm_t; focus (first | omega | (simp (disch := omega) only [wr_id, FM, f1, f2, f4]; omega) | (simp (disch := omega) only [wr_id, FM, f1, f2, f4]; done))) | (with_reducible apply wm_f; focus (first | omega | (simp (disch := omega) only [wr_id, FM, f1, f2, f4]; omega) | (simp (disch := omega) only [wr_id, FM, f1, f2, f4]; done)))))
              have ls := lets i (Nat.le_refl _)
              have wr := wdV_nn i (sl B p i) (sl_len _ _ _) ls
              have w27 : ∀ n, n ≤ 8 → (27 : Int) ^ n < 4611686018427387904 := by decide
              have w27' := w27 i (by omega)
              refine wm_lq2 19 (fun k y6 y7 => y7 = (k : Int) ∧ ((y6 = 1 ∧ ∀ k', k' < k → keyL.getD k' [] ≠ sl B p i) ∨ ∃ k' : Nat, k' < k ∧ keyL.getD k' [] = sl B p i ∧ y6 = 20 + (k' : Int))) ?_ (jfuel_n (by decide)) ⟨rfl, Or.inl ⟨rfl, fun k' h => absurd h (Nat.not_lt_zero _)⟩⟩
              rintro k hk y6 y7 ⟨rfl, hy⟩ rec3 hrec3
              by_cases ck : k < 19
              · have g1 := hKJ k ck
                have g2 := wdV_nn (keyL.getD k []).length (keyL.getD k []) rfl (fun x hx => key_mem ck hx)
                have g3 := w27 (keyL.getD k []).length (by have := (key_len k ck).1; omega)
                have g4 := lcmp_0 (a := wdV (keyL.getD k [])) (b := wdV (sl B p i)) g2.1 (by omega) wr.1 (by omega)
                rw [Nat.min_eq_left (by omega)]
                by_cases c5 : keyL.getD k [] = sl B p i
                · have g5 : jd_wr (jd_lcmp (wdV (keyL.getD k [])) (wdV (sl B p i))) = 0 := g4.mpr (by rw [c5])
                  (repeat (first | (with_reducible apply wm_o; focus (simp (disch := omega) only [wr_id, Int.toNat_natCast, Int.reduceToNat, tn_lk, tn_kl, if_pos, if_neg, ↓reduceIte, and_self, and_true, true_and, FM, g1, g5]; with_reducible rfl)) | (with_reducible apply wm_q) | (with_reducible apply wm_c; focus (first | assumption | decide +kernel)) | (with_reducible apply wm_d; focus (simp (disch := omega) only [wr_id, Int.toNat_natCast, Int.reduceToNat, tn_lk, tn_kl, if_pos, if_neg, ↓reduceIte, and_self, and_true, true_and, FM, g1, g5]; with_reducible rfl)) | (with_reducible apply wm_t; focus (first | omega | (simp (disch := omega) only [wr_id, FM, g1, g5]; omega) | (simp (disch := omega) only [wr_id, FM, g1, g5]; done))) | (with_reducible apply wm_f; focus (first | omega | (simp (disch := omega) only [wr_id, FM, g1, g5]; omega) | (simp (disch := omega) only [wr_id, FM, g1, g5]; done)))))
                  exact hrec3 (k + 1) _ _ (by omega) (by omega) ⟨by omega, Or.inr ⟨k, by omega, c5, rfl⟩⟩
                · have g5 : ¬ jd_wr (jd_lcmp (wdV (keyL.getD k [])) (wdV (sl B p i))) = 0 := fun h => c5 (wdV_inj _ _ _ rfl (fun x hx => key_mem ck hx) ls (g4.mp h))
                  (repeat (first | (with_reducible apply wm_o; focus (simp (disch := omega) only [wr_id, Int.toNat_natCast, Int.reduceToNat, tn_lk, tn_kl, if_pos, if_neg, ↓reduceIte, and_self, and_true, true_and, FM, g1, g5]; with_reducible rfl)) | (with_reducible apply wm_q) | (with_reducible apply wm_c; focus (first | assumption | decide +kernel)) | (with_reducible apply wm_d; focus (simp (disch := omega) only [wr_id, Int.toNat_natCast, Int.reduceToNat, tn_lk, tn_kl, if_pos, if_neg, ↓reduceIte, and_self, and_true, true_and, FM, g1, g5]; with_reducible rfl)) | (with_reducible apply wm_t; focus (first | omega | (simp (disch := omega) only [wr_id, FM, g1, g5]; omega) | (simp (disch := omega) only [wr_id, FM, g1, g5]; done))) | (with_reducible apply wm_f; focus (first | omega | (simp (disch := omega) only [wr_id, FM, g1, g5]; omega) | (simp (disch := omega) only [wr_id, FM, g1, g5]; done)))))
                  refine hrec3 (k + 1) _ _ (by omega) (by omega) ⟨by omega, ?_⟩
                  rcases hy with ⟨h1, h2⟩ | ⟨k', h1, h2, h3⟩
                  · refine Or.inl ⟨h1, fun k' hk' => ?_⟩
                    by_cases ek : k' = k
                    · rw [ek]; exact c5
                    · exact h2 k' (by omega)
                  · exact Or.inr ⟨k', by omega, h2, h3⟩
              · have y6e : y6 = (mkK (wKd (sl B p i)) : Int) := by
                  rcases hy with ⟨h1, h2⟩ | ⟨k', h1, h2, h3⟩
                  · rw [wKd_none (fun k' hk' => h2 k' (by omega)), h1]; rfl
                  · rw [wKd_some (by omega) h2, h3]
                    unfold mkK
                    rw [if_neg (by omega), if_neg (by omega), if_neg (by omega), if_neg (by omega)]
                    omega
                (repeat (first | (with_reducible apply wm_o; focus (simp (disch := omega) only [wr_id, Int.toNat_natCast, Int.reduceToNat, tn_lk, tn_kl, if_pos, if_neg, ↓reduceIte, and_self, and_true, true_and, FM, f4]; with_reducible rfl)) | (with_reducible apply wm_q) | (with_reducible apply wm_c; focus (first | assumption | decide +kernel)) | (with_reducible apply wm_d; focus (simp (disch := omega) only [wr_id, Int.toNat_natCast, Int.reduceToNat, tn_lk, tn_kl, if_pos, if_neg, ↓reduceIte, and_self, and_true, true_and, FM, f4]; with_reducible rfl)) | (with_reducible apply wm_t; focus (first | omega | (simp (disch := omega) only [wr_id, FM, f4]; omega) | (simp (disch := omega) only [wr_id, FM, f4]; done))) | (with_reducible apply wm_f; focus (first | omega | (simp (disch := omega) only [wr_id, FM, f4]; omega) | (simp (disch := omega) only [wr_id, FM, f4]; done)))))
                refine nx _ _ _ _ y6e rfl (fun h => ?_) pe
                exfalso
                have := wKd_ge (sl B p i)
                omega
        · rw [if_neg c2] at e2
          by_cases c3 : isDi (B p) = true
          · rw [if_pos c3] at e3
            obtain ⟨r1, r2, r3, r4⟩ := rn_spec hB (P := isDi) rfl p
            have r4 := r4 (by omega)
            have k0 : tkK B tl p = if 4 < rn B isDi p - p then 1 else 3 := by unfold tkK; rw [if_neg (by omega), if_neg c2, if_pos c3]
            have k1 : tkE B tl p = rn B isDi p := by unfold tkE; rw [if_neg (by omega), if_neg c2, if_pos c3]
            have k2 : tkV B p = dgV B p (rn B isDi p - p) := rfl
            rw [k1, k0, k2] at nx
            generalize he : rn B isDi p = e at r1 r2 r3 r4 k0 k2 nx
            have pe : p < e := by
              rcases Nat.lt_or_ge p e with z | z
              · exact z
              · exfalso
                rw [show e = p by omega, c3] at r3
                exact absurd r3 (by decide)
            (repeat (first | (with_reducible apply wm_o; focus (simp (disch := omega) only [wr_id, Int.toNat_natCast, Int.reduceToNat, tn_lk, tn_kl, if_pos, if_neg, ↓reduceIte, and_self, and_true, true_and, FM, j4, e1, eT, e2, e3]; with_reducible rfl)) | (with_reducible apply wm_q) | (with_reducible apply wm_c; focus (first | assumption | decide +kernel)) | (with_reducible apply wm_d; focus (simp (disch := omega) only [wr_id, Int.toNat_natCast, Int.reduceToNat, tn_lk, tn_kl, if_pos, if_neg, ↓reduceIte, and_self, and_true, true_and, FM, j4, e1, eT, e2, e3]; with_reducible rfl)) | (with_reducible apply wm_t; focus (first | omega | (simp (disch := omega) only [wr_id, FM, j4, e1, eT, e2, e3]; omega) | (simp (disch := omega) only [wr_id, FM, j4, e1, eT, e2, e3]; done))) | (with_reducible apply wm_f; focus (first | omega | (simp (disch := omega) only [wr_id, FM, j4, e1, eT, e2, e3]; omega) | (simp (disch := omega) only [wr_id, FM, j4, e1, eT, e2, e3]; done)))))
            refine wm_lp3 2000 (fun i y3 y4 J' => y3 = (i : Int) ∧ p + i ≤ e ∧ (i ≤ 4 → y4 = dgV B p i) ∧ J' = J) ?_ (jfuel_n (by decide)) ⟨rfl, by omega, fun _ => rfl, rfl⟩
            rintro i hi y3 y4 J' ⟨rfl, i1, i2, rfl⟩ rec2 hrec2
            have hbi := hB.2.2 (p + i)
            have f1 := q_byteAt (t := t) (d := d) (rt := rt) hB hTJ (p + i) (by omega)
            rw [show (((p + i : Nat)) : Int) = (p : Int) + (i : Int) by omega] at f1
            have f2 := q_mDi (t := t) (d := d) (rt := rt) (I := J') hbi
            by_cases c4 : isDi (B (p + i)) = true
            · rw [if_pos c4] at f2
              have z : p + i < e := by
                rcases Nat.lt_or_ge (p + i) e with z | z
                · exact z
                · exfalso
                  rw [show p + i = e by omega, r3] at c4
                  exact absurd c4 (by decide)
              by_cases c5 : i < 4
              · (repeat (first | (with_reducible apply wm_o; focus (simp (disch := omega) only [wr_id, Int.toNat_natCast, Int.reduceToNat, tn_lk, tn_kl, if_pos, if_neg, ↓reduceIte, and_self, and_true, true_and, FM, f1, f2]; with_reducible rfl)) | (with_reducible apply wm_q) | (with_reducible apply wm_c; focus (first | assumption | decide +kernel)) | (with_reducible apply wm_d; focus (simp (disch := omega) only [wr_id, Int.toNat_natCast, Int.reduceToNat, tn_lk, tn_kl, if_pos, if_neg, ↓reduceIte, and_self, and_true, true_and, FM, f1, f2]; with_reducible rfl)) | (with_reducible apply wm_t; focus (first | omega | (simp (disch := omega) only [wr_id, FM, f1, f2]; omega) | (simp (disch := omega) only [wr_id, FM, f1, f2]; done))) | (with_reducible apply wm_f; focus (first | omega | (simp (disch := omega) only [wr_id, FM, f1, f2]; omega) | (simp (disch := omega) only [wr_id, FM, f1, f2]; done)))))
                refine hrec2 (i + 1) _ _ _ (by omega) (by omega) ⟨by omega, by omega, fun _ => ?_, rfl⟩
                rw [dgV, i2 (by omega)]
                omega
              · (repeat (first | (with_reducible apply wm_o; focus (simp (disch := omega) only [wr_id, Int.toNat_natCast, Int.reduceToNat, tn_lk, tn_kl, if_pos, if_neg, ↓reduceIte, and_self, and_true, true_and, FM, f1, f2]; with_reducible rfl)) | (with_reducible apply wm_q) | (with_reducible apply wm_c; focus (first | assumption | decide +kernel)) | (with_reducible apply wm_d; focus (simp (disch := omega) only [wr_id, Int.toNat_natCast, Int.reduceToNat, tn_lk, tn_kl, if_pos, if_neg, ↓reduceIte, and_self, and_true, true_and, FM, f1, f2]; with_reducible rfl)) | (with_reducible apply wm_t; focus (first | omega | (simp (disch := omega) only [wr_id, FM, f1, f2]; omega) | (simp (disch := omega) only [wr_id, FM, f1, f2]; done))) | (with_reducible apply wm_f; focus (first | omega | (simp (disch := omega) only [wr_id, FM, f1, f2]; omega) | (simp (disch := omega) only [wr_id, FM, f1, f2]; done)))))
                exact hrec2 (i + 1) _ _ _ (by omega) (by omega) ⟨by omega, by omega, fun h => by omega, rfl⟩
            · rw [if_neg c4] at f2
              have e10 : e = p + i := by
                rw [← he]
                exact rn_uniq hB rfl (by omega) (fun j h1 h2 => r2 j h1 (by omega)) (by cases h : isDi (B (p + i)); rfl; exact absurd h c4)
              have e11 : e - p = i := by omega
              rw [e11] at nx
              have e12 : (e : Int) = (p : Int) + (i : Int) := by omega
              rw [e12] at nx
              have f4 : ∀ a b c e', f_X12_token 369 a b c e' (mm t d rt J') = some (0, mm t d rt (tkI J' n a b c e')) := fun a b c e' => q_token cn j4
              by_cases c5 : 4 < i
              · rw [if_pos c5] at nx
                (repeat (first | (with_reducible apply wm_o; focus (simp (disch := omega) only [wr_id, Int.toNat_natCast, Int.reduceToNat, tn_lk, tn_kl, if_pos, if_neg, ↓reduceIte, and_self, and_true, true_and, FM, f1, f2, f4]; with_reducible rfl)) | (with_reducible apply wm_q) | (with_reducible apply wm_c; focus (first | assumption | decide +kernel)) | (with_reducible apply wm_d; focus (simp (disch := omega) only [wr_id, Int.toNat_natCast, Int.reduceToNat, tn_lk, tn_kl, if_pos, if_neg, ↓reduceIte, and_self, and_true, true_and, FM, f1, f2, f4]; with_reducible rfl)) | (with_reducible apply wm_t; focus (first | omega | (simp (disch := omega) only [wr_id, FM, f1, f2, f4]; omega) | (simp (disch := omega) only [wr_id, FM, f1, f2, f4]; done))) | (with_reducible apply wm_f; focus (first | omega | (simp (disch := omega) only [wr_id, FM, f1, f2, f4]; omega) | (simp (disch := omega) only [wr_id, FM, f1, f2, f4]; done)))))
                exact nx _ _ _ _ rfl rfl (fun h => absurd h (by decide)) pe
              · rw [if_neg c5] at nx
                (repeat (first | (with_reducible apply wm_o; focus (simp (disch := omega) only [wr_id, Int.toNat_natCast, Int.reduceToNat, tn_lk, tn_kl, if_pos, if_neg, ↓reduceIte, and_self, and_true, true_and, FM, f1, f2, f4]; with_reducible rfl)) | (with_reducible apply wm_q) | (with_reducible apply wm_c; focus (first | assumption | decide +kernel)) | (with_reducible apply wm_d; focus (simp (disch := omega) only [wr_id, Int.toNat_natCast, Int.reduceToNat, tn_lk, tn_kl, if_pos, if_neg, ↓reduceIte, and_self, and_true, true_and, FM, f1, f2, f4]; with_reducible rfl)) | (with_reducible apply wm_t; focus (first | omega | (simp (disch := omega) only [wr_id, FM, f1, f2, f4]; omega) | (simp (disch := omega) only [wr_id, FM, f1, f2, f4]; done))) | (with_reducible apply wm_f; focus (first | omega | (simp (disch := omega) only [wr_id, FM, f1, f2, f4]; omega) | (simp (disch := omega) only [wr_id, FM, f1, f2, f4]; done)))))
                exact nx _ _ _ _ rfl rfl (fun _ => i2 (by omega)) pe
          · rw [if_neg c3] at e3
            have k0 : tkK B tl p = sgK (B p) := by unfold tkK; rw [if_neg (by omega), if_neg c2, if_neg c3]
            have k1 : tkE B tl p = p + 1 := by unfold tkE; rw [if_neg (by omega), if_neg c2, if_neg c3]
            rw [k1, k0] at nx
            have f1 := q_byteAt (t := t) (d := d) (rt := rt) hB hTJ (p + 1) (by omega)
            rw [show (((p + 1 : Nat)) : Int) = (p : Int) + 1 by omega] at f1 nx
            have f4 := q_sign (t := t) (d := d) (rt := rt) (dd := (B (p + 1) : Int)) cn hb (by omega : p ≤ 100000) j4
            (repeat (first | (with_reducible apply wm_o; focus (simp (disch := omega) only [wr_id, Int.toNat_natCast, Int.reduceToNat, tn_lk, tn_kl, if_pos, if_neg, ↓reduceIte, and_self, and_true, true_and, FM, j4, e1, eT, e2, e3, f1, f4]; with_reducible rfl)) | (with_reducible apply wm_q) | (with_reducible apply wm_c; focus (first | assumption | decide +kernel)) | (with_reducible apply wm_d; focus (simp (disch := omega) only [wr_id, Int.toNat_natCast, Int.reduceToNat, tn_lk, tn_kl, if_pos, if_neg, ↓reduceIte, and_self, and_true, true_and, FM, j4, e1, eT, e2, e3, f1, f4]; with_reducible rfl)) | (with_reducible apply wm_t; focus (first | omega | (simp (disch := omega) only [wr_id, FM, j4, e1, eT, e2, e3, f1, f4]; omega) | (simp (disch := omega) only [wr_id, FM, j4, e1, eT, e2, e3, f1, f4]; done))) | (with_reducible apply wm_f; focus (first | omega | (simp (disch := omega) only [wr_id, FM, j4, e1, eT, e2, e3, f1, f4]; omega) | (simp (disch := omega) only [wr_id, FM, j4, e1, eT, e2, e3, f1, f4]; done)))))
            refine nx _ _ _ _ rfl rfl (fun h => ?_) (by omega)
            exfalso
            have := sgK_ge (B p)
            omega
    · have ep : p = tl := by omega
      have e9 : tps B tl n = tl := by
        rw [← j5, ep]
        exact rn_uniq hB rfl (Nat.le_refl _) (fun j h1 h2 => by omega) (by rw [hB.2.1 tl (Nat.le_refl _)]; rfl)
      have k0 : tK B tl n = 0 := by unfold tK; rw [tkK_END, e9]; exact Nat.le_refl _
      have f4 : ∀ a b c e', f_X12_token 369 a b c e' (mm t d rt J) = some (0, mm t d rt (tkI J n a b c e')) := fun a b c e' => q_token cn j4
      (repeat (first | (with_reducible apply wm_o; focus (simp (disch := omega) only [wr_id, Int.toNat_natCast, Int.reduceToNat, tn_lk, tn_kl, if_pos, if_neg, ↓reduceIte, and_self, and_true, true_and, FM, j4, e1, eT, f4]; with_reducible rfl)) | (with_reducible apply wm_q) | (with_reducible apply wm_c; focus (first | assumption | decide +kernel)) | (with_reducible apply wm_d; focus (simp (disch := omega) only [wr_id, Int.toNat_natCast, Int.reduceToNat, tn_lk, tn_kl, if_pos, if_neg, ↓reduceIte, and_self, and_true, true_and, FM, j4, e1, eT, f4]; with_reducible rfl)) | (with_reducible apply wm_t; focus (first | omega | (simp (disch := omega) only [wr_id, FM, j4, e1, eT, f4]; omega) | (simp (disch := omega) only [wr_id, FM, j4, e1, eT, f4]; done))) | (with_reducible apply wm_f; focus (first | omega | (simp (disch := omega) only [wr_id, FM, j4, e1, eT, f4]; omega) | (simp (disch := omega) only [wr_id, FM, j4, e1, eT, f4]; done)))))
      refine wm_r ⟨frM_trans j1 tkI_frm, n + 1, by omega, (tkI_to j6 ?_ ?_ ?_).1, by omega, Or.inr k0, fun i hi => j7 i (by omega)⟩
      · rw [k0]; rfl
      · rw [e9]
      · intro h; omega
  · (repeat (first | (with_reducible apply wm_o; focus (simp (disch := omega) only [wr_id, Int.toNat_natCast, Int.reduceToNat, tn_lk, tn_kl, if_pos, if_neg, ↓reduceIte, and_self, and_true, true_and, FM, j4]; with_reducible rfl)) | (with_reducible apply wm_q) | (with_reducible apply wm_c; focus (first | assumption | decide +kernel)) | (with_reducible apply wm_d; focus (simp (disch := omega) only [wr_id, Int.toNat_natCast, Int.reduceToNat, tn_lk, tn_kl, if_pos, if_neg, ↓reduceIte, and_self, and_true, true_and, FM, j4]; with_reducible rfl)) | (with_reducible apply wm_t; focus (first | omega | (simp (disch := omega) only [wr_id, FM, j4]; omega) | (simp (disch := omega) only [wr_id, FM, j4]; done))) | (with_reducible apply wm_f; focus (first | omega | (simp (disch := omega) only [wr_id, FM, j4]; omega) | (simp (disch := omega) only [wr_id, FM, j4]; done)))))
    exact wm_r ⟨j1, n, j3, j6, by omega, Or.inl (by omega), fun i hi => j7 i (by omega)⟩
end MD
