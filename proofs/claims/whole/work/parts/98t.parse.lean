/-! ===== the class reads a text ===== -/
section PA
variable {t d rt : Nat} {I J : Nat → Nat → Int} {B : Nat → Nat} {tl : Nat}
theorem pR_rt {x : Nat} : jm_pR 3 2 (mm t d rt I) 29 x = some (mm t d x I) := by
  have h0 : (K0 29).1 = 3 ∧ 29 < 418 := by decide +kernel
  have h : (jK (mm t d rt I) 29).1 = 3 ∧ 29 < jN (mm t d rt I) := h0
  unfold jm_pR
  rw [if_pos h]
  congr 1
  show ((418, K0), I, _) = ((418, K0), I, _)
  congr 2
  funext a j
  show (if a = 29 ∧ j = 2 then some x else R0 t d rt a j) = R0 t d x a j
  unfold R0
  by_cases c : a = 29 ∧ j = 2
  · rw [if_pos c, if_neg (by omega), if_neg (by omega), if_pos c]
  · rw [if_neg c, if_neg c, if_neg c]
/-- what a text comes to: its fault and its place -/
def prQ (rt tl : Nat) (ps : Nat → Nat) (R : ER TX) (r : Int) (J : Nat → Nat → Int) : Prop := (∃ c q, R = efl c q ∧ r = (c : Int) ∧ J 29 8 = (ps q : Int)) ∨ ∃ t' w h sd H S lw wr, R = eok t' (w, h, sd, H, S, lw, wr) ∧ ((∃ q, wr = some q ∧ r = 5 ∧ J 29 8 = (ps q : Int)) ∨ (wr = none ∧ rgX w h sd H S ∧ ((fitB w.toNat h.toNat H S = false ∧ r = 6 ∧ J 29 8 = (tl : Int)) ∨ (fitB w.toNat h.toNat H S = true ∧ r = 0 ∧ J 29 8 = -1 ∧ J rt 0 = w ∧ J rt 1 = h ∧ J rt 2 = sd ∧ J rt 3 = (H.1 : Int) ∧ J rt 4 = (S.1 : Int) ∧ H.1 ≤ 12 ∧ S.1 ≤ 18 ∧ (∀ i, i < S.1 → J (rt + 3) i = S.2.1 i ∧ J (rt + 4) i = S.2.2.1 i ∧ J (rt + 5) i = S.2.2.2 i) ∧ (∃ U, mkH w.toNat h.toNat H.2.1 H.2.2 H.1 = some U ∧ ∀ c, c < 36 → J (rt + 6) c = if U c then 1 else 0) ∧ ∀ q, q < 3 → lawC J (rt + 8) q (lw q).1 (lw q).2))))
theorem kv_tok (hB : bOK B tl) : kvOK (tK B tl) (tV B tl) (tps B tl) := by
  intro i
  have ht := hB.1
  refine ⟨?_, Nat.le_trans (tps_le hB i) ht, fun h => tkK_INT hB h⟩
  have h1 := wKd_ge (sl B (tps B tl i) (rn B isLe (tps B tl i) - tps B tl i))
  have h2 := sgK_ge (B (tps B tl i))
  show tkK B tl (tps B tl i) < 39
  unfold tkK
  repeat' split
  all_goals omega
theorem tb_of {n : Nat} (hn : n ≤ 401) (h : toC I B tl n) (h0 : 0 < n) (h1 : n = 401 ∨ tK B tl (n - 1) = 0) : tbC (tK B tl) (tV B tl) (tps B tl) I := by
  intro i hi hj
  have : i < n := by
    rcases Nat.lt_or_ge i n with c | c
    · exact c
    · exfalso
      rcases h1 with h1 | h1
      · omega
      · exact hj (n - 1) (by omega) h1
  exact h i this
theorem w_parse (hB : bOK B tl) (hT : tpB I B tl) (ht : rt ∈ [3, 16]) {rt0 : Nat} : wm t d rt (f_X3_parse 29 rt (mm t d rt0 I)) (fun r J => frm (fun a => (29 ≤ a ∧ a ≤ 33) ∨ (rt ≤ a ∧ a ≤ rt + 11)) I J ∧ prQ rt tl (tps B tl) (tlsR (tK B tl) (tV B tl) 401 0 txI) r J) := by
  have rt3 : rt = 3 ∨ rt = 16 := by simpa using ht
  have hl : rt + 8 = 11 ∨ rt + 8 = 24 := by omega
  have kt8 : (K0 rt).1 = 8 ∧ rt < 418 := ⟨(FText_k _ ht).1, (FText_k _ ht).2.1⟩
  have htl := hB.1
  have hv := kv_tok hB
  unfold f_X3_parse
  refine wm_o pR_rt ?_
  (repeat (first | (with_reducible apply wm_o; focus (simp (disch := omega) only [wr_id, Int.toNat_natCast, Int.reduceToNat, tn_lk, tn_kl, if_pos, if_neg, ↓reduceIte, and_self, and_true, true_and, FReader]; with_reducible rfl)) | (with_reducible apply wm_q) | (with_reducible apply wm_c; focus (first | assumption | decide +kernel)) | (with_reducible apply wm_d; focus (simp (disch := omega) only [wr_id, Int.toNat_natCast, Int.reduceToNat, tn_lk, tn_kl, if_pos, if_neg, ↓reduceIte, and_self, and_true, true_and, FReader]; with_reducible rfl)) | (with_reducible apply wm_t; focus (first | omega | (simp (disch := omega) only [wr_id, FReader]; omega) | (simp (disch := omega) only [wr_id, FReader]; done))) | (with_reducible apply wm_f; focus (first | omega | (simp (disch := omega) only [wr_id, FReader]; omega) | (simp (disch := omega) only [wr_id, FReader]; done)))))
  refine wm_b (w_tclear ht) (fun r J1 hJ1 => ?_)
  obtain ⟨a1, a2, a3⟩ := hJ1
  (repeat (first | (with_reducible apply wm_o; focus (simp (disch := omega) only [wr_id, Int.toNat_natCast, Int.reduceToNat, tn_lk, tn_kl, if_pos, if_neg, ↓reduceIte, and_self, and_true, true_and, FReader]; with_reducible rfl)) | (with_reducible apply wm_q) | (with_reducible apply wm_c; focus (first | assumption | decide +kernel)) | (with_reducible apply wm_d; focus (simp (disch := omega) only [wr_id, Int.toNat_natCast, Int.reduceToNat, tn_lk, tn_kl, if_pos, if_neg, ↓reduceIte, and_self, and_true, true_and, FReader]; with_reducible rfl)) | (with_reducible apply wm_t; focus (first | omega | (simp (disch := omega) only [wr_id, FReader]; omega) | (simp (disch := omega) only [wr_id, FReader]; done))) | (with_reducible apply wm_f; focus (first | omega | (simp (disch := omega) only [wr_id, FReader]; omega) | (simp (disch := omega) only [wr_id, FReader]; done)))))
  generalize e2 : up (up (up J1 29 6 (-1)) 29 7 0) 29 8 (-1) = J2
  have f2 : frm (fun a => a = 29) J1 J2 := by rw [← e2]; exact frm_up (frm_up (frm_up (frm_refl _ _) rfl) rfl) rfl
  have g2 : J2 29 6 = -1 ∧ J2 29 7 = 0 ∧ J2 29 8 = -1 := by
    rw [← e2]
    refine ⟨?_, ?_, up_s _ _ _ _⟩
    · rw [up_g, if_neg (by decide), up_g, if_neg (by decide), up_s]
    · rw [up_g, if_neg (by decide), up_s]
  have hT2 : tpB J2 B tl := tpB_frm (by rw [f2 1 (by omega), a1 1 (by omega)]) (by rw [f2 2 (by omega), a1 2 (by omega)]) hT
  refine wm_b (w_cutAll hB hT2) (fun r J3 hJ3 => ?_)
  obtain ⟨f3, n, n1, n2, n3, n4, n5⟩ := hJ3
  have T3 := tb_of n1 n2 n3 n4
  have T4 : tbC (tK B tl) (tV B tl) (tps B tl) (up J3 29 3 0) := tbC_frm (up_ne (by decide)) (up_ne (by decide)) (up_ne (by decide)) T3
  have k1 := q_kindOf (t := t) (d := d) (rt := rt) hv T4 (by decide : 0 ≤ 400) (fun j hj => absurd hj (Nat.not_lt_zero _))
  have T5 : tbC (tK B tl) (tV B tl) (tps B tl) (up (up J3 29 3 0) 29 4 (tK B tl 0 : Int)) := tbC_frm (up_ne (by decide)) (up_ne (by decide)) (up_ne (by decide)) T4
  have k2 := q_placeOf (t := t) (d := d) (rt := rt) hv T5 (by decide : 0 ≤ 400) (fun j hj => absurd hj (Nat.not_lt_zero _))
  have k1' : f_X9_kindOf 30 0 (mm t d rt (up J3 29 3 0)) = some ((tK B tl 0 : Int), mm t d rt (up J3 29 3 0)) := k1
  have k2' : f_X9_placeOf 30 0 (mm t d rt (up (up J3 29 3 0) 29 4 (tK B tl 0 : Int))) = some ((tps B tl 0 : Int), mm t d rt (up (up J3 29 3 0) 29 4 (tK B tl 0 : Int))) := k2
  have u1 : up J3 29 3 0 29 3 = 0 := up_s _ _ _ _
  have u2 : up (up J3 29 3 0) 29 4 (tK B tl 0 : Int) 29 3 = 0 := by rw [up_g, if_neg (by decide)]; exact u1
  (repeat (first | (with_reducible apply wm_o; focus (simp (disch := omega) only [wr_id, Int.toNat_natCast, Int.reduceToNat, tn_lk, tn_kl, if_pos, if_neg, ↓reduceIte, and_self, and_true, true_and, FReader, u1, k1', u2, k2']; with_reducible rfl)) | (with_reducible apply wm_q) | (with_reducible apply wm_c; focus (first | assumption | decide +kernel)) | (with_reducible apply wm_d; focus (simp (disch := omega) only [wr_id, Int.toNat_natCast, Int.reduceToNat, tn_lk, tn_kl, if_pos, if_neg, ↓reduceIte, and_self, and_true, true_and, FReader, u1, k1', u2, k2']; with_reducible rfl)) | (with_reducible apply wm_t; focus (first | omega | (simp (disch := omega) only [wr_id, FReader, u1, k1', u2, k2']; omega) | (simp (disch := omega) only [wr_id, FReader, u1, k1', u2, k2']; done))) | (with_reducible apply wm_f; focus (first | omega | (simp (disch := omega) only [wr_id, FReader, u1, k1', u2, k2']; omega) | (simp (disch := omega) only [wr_id, FReader, u1, k1', u2, k2']; done)))))
  generalize e6 : up (up (up J3 29 3 0) 29 4 (tK B tl 0 : Int)) 29 5 (tps B tl 0 : Int) = J6
  have f6 : frm (fun a => a = 29) J3 J6 := by rw [← e6]; exact frm_up (frm_up (frm_up (frm_refl _ _) rfl) rfl) rfl
  have h3 : ∀ j, J3 29 j = J2 29 j := fun j => by rw [f3 29 (by omega)]
  have g6 : ∀ j, J6 29 j = if j = 5 then (tps B tl 0 : Int) else if j = 4 then (tK B tl 0 : Int) else if j = 3 then 0 else J2 29 j := fun j => by
    rw [← e6, up_g, up_g, up_g, h3]
  have frA : ∀ a, a ≠ 29 → ¬ (30 ≤ a ∧ a ≤ 33) → J6 a = J1 a := fun a b1 b2 => by rw [f6 a b1, f3 a b2, f2 a b1]
  have fr6 : frm (fun a => (29 ≤ a ∧ a ≤ 33) ∨ (rt ≤ a ∧ a ≤ rt + 11)) I J6 := fun a ha => by rw [frA a (by omega) (by omega), a1 a (by omega)]
  have T6 : tbC (tK B tl) (tV B tl) (tps B tl) J6 := tbC_frm (f6 _ (by omega)) (f6 _ (by omega)) (f6 _ (by omega)) T3
  have rd6 : rdC (tK B tl) (tV B tl) (tps B tl) (rt + 8) J6 0 4 := by
    refine ⟨T6, by rw [g6]; rfl, by rw [g6]; rfl, by rw [g6]; rfl, by rw [g6]; exact g2.2.1, by rw [frA _ (by omega) (by omega)]; exact a2, by decide, fun j hj => absurd hj (Nat.not_lt_zero _), by rw [g6]; exact g2.2.2⟩
  have tx6 : txC rt J6 4 4 4 0 (0, fun _ => 0, fun _ => 0) (0, fun _ => 0, fun _ => 0, fun _ => 0) dfLw := by
    unfold txC at a3 ⊢
    rw [frA rt (by omega) (by omega), frA (rt + 1) (by omega) (by omega), frA (rt + 2) (by omega) (by omega), frA (rt + 3) (by omega) (by omega), frA (rt + 4) (by omega) (by omega), frA (rt + 5) (by omega) (by omega), frA (rt + 6) (by omega) (by omega), frA (rt + 7) (by omega) (by omega), frA (rt + 8 + 1) (by omega) (by omega), frA (rt + 8 + 2) (by omega) (by omega), frA (rt + 8 + 3) (by omega) (by omega)]
    exact a3
  have p8 : J6 29 8 = -1 := by rw [g6]; exact g2.2.2
  have w6 : J6 29 6 = wrV (tps B tl) none := by rw [g6]; exact g2.1
  have l6 : J6 1 1 = (tl : Int) := by rw [fr6 1 (by omega)]; exact hT.1
  generalize eR : tlsR (tK B tl) (tV B tl) 401 0 txI = R
  refine wm_lp2 401 (fun n y J => y = (n : Int) ∧ frm (fun a => (29 ≤ a ∧ a ≤ 33) ∨ (rt ≤ a ∧ a ≤ rt + 11)) I J ∧ ((∃ i sp w h sd H S lw wr, tlsR (tK B tl) (tV B tl) (401 - n) i (w, h, sd, H, S, lw, wr) = R ∧ rdC (tK B tl) (tV B tl) (tps B tl) (rt + 8) J i sp ∧ sp ≤ 4 + i ∧ txC rt J sp w h sd H S lw ∧ J 29 6 = wrV (tps B tl) wr ∧ J 29 8 = -1 ∧ (wr = none → rgX w h sd H S)) ∨ (∃ c q, R = efl c q ∧ (c = 1 ∨ c = 2) ∧ J 29 7 = (c : Int) ∧ J 29 8 = (tps B tl q : Int)))) ?_ (jfuel_n (by decide)) ⟨rfl, fr6, Or.inl ⟨0, 4, 4, 4, 0, _, _, dfLw, none, eR, rd6, by decide, tx6, w6, p8, fun _ => ⟨by decide, by decide, by decide, by decide, by decide, by decide, fun i hi => absurd hi (Nat.not_lt_zero _), fun i hi => absurd hi (Nat.not_lt_zero _)⟩⟩⟩
  rintro n hn y J ⟨rfl, fJ, hc⟩ rec hrec
  rcases hc with ⟨i, sp, w, h, sd, H, S, lw, wr, e, r1, r2, r3, r4, r5, r6⟩ | ⟨c, q, e, c12, b1, b2⟩
  · have ki := (hv i).1
    have eK := r1.2.2.1
    have eF := r1.2.2.2.2.1
    have li := rd_i r1
    -- behind the last tell
    have fin : R = eok i (w, h, sd, H, S, lw, wr) → wm t d rt ((jm_gI 3 7 (mm t d rt J) 29).bind fun v22 =>
        jjq (fun (M_128 : jMem) =>
        (jm_gI 3 7 M_128 29).bind fun v23 =>
        jjq (fun (M_159 : jMem) =>
        (jm_gI 3 7 M_159 29).bind fun v24 =>
        some (v24, M_159)) fun j_159 =>
        if jd_wr v23 = 0 then ((jm_gR 3 2 M_128 29).bind fun r25 =>
        jcall 8 M_128 r25 (f_X8_fitsSquare r25 M_128) fun v26 M27 =>
        if jd_wr v26 = 0 then ((jm_gR 3 0 M27 29).bind fun r28 =>
        (jm_gI 7 1 M27 r28).bind fun v29 =>
        jcall 3 M27 29 (f_X3_refuse 29 6 v29 M27) fun v30 M31 =>
        j_159 M31)
        else (j_159 M27))
        else (j_159 M_128)) fun j_128 =>
        if jd_wr v22 = 0 then ((jm_gI 3 6 (mm t d rt J) 29).bind fun v32 =>
        if jd_wr v32 = jd_wr (-1) then (j_128 (mm t d rt J))
        else ((jm_gI 3 6 (mm t d rt J) 29).bind fun v33 =>
        jcall 3 (mm t d rt J) 29 (f_X3_refuse 29 5 v33 (mm t d rt J)) fun v34 M35 =>
        j_128 M35))
        else (j_128 (mm t d rt J))) (fun r J => frm (fun a => (29 ≤ a ∧ a ≤ 33) ∨ (rt ≤ a ∧ a ≤ rt + 11)) I J ∧ prQ rt tl (tps B tl) R r J) := by
      intro hR
      cases wr with
      | some q =>
        have qb := (hv q).2.1
        have r4 : J 29 6 = (tps B tl q : Int) := r4
        have rf : f_X3_refuse 29 5 (tps B tl q : Int) (mm t d rt J) = some (0, mm t d rt (up (up J 29 7 5) 29 8 (tps B tl q : Int))) := q_refuse
        have v7 : up (up J 29 7 5) 29 8 (tps B tl q : Int) 29 7 = 5 := by rw [up_g, if_neg (by decide), up_s]
        (repeat (first | (with_reducible apply wm_o; focus (simp (disch := omega) only [wr_id, Int.toNat_natCast, Int.reduceToNat, tn_lk, tn_kl, if_pos, if_neg, ↓reduceIte, and_self, and_true, true_and, FReader, eF, r4, rf, v7]; with_reducible rfl)) | (with_reducible apply wm_q) | (with_reducible apply wm_c; focus (first | assumption | decide +kernel)) | (with_reducible apply wm_d; focus (simp (disch := omega) only [wr_id, Int.toNat_natCast, Int.reduceToNat, tn_lk, tn_kl, if_pos, if_neg, ↓reduceIte, and_self, and_true, true_and, FReader, eF, r4, rf, v7]; with_reducible rfl)) | (with_reducible apply wm_t; focus (first | omega | (simp (disch := omega) only [wr_id, FReader, eF, r4, rf, v7]; omega) | (simp (disch := omega) only [wr_id, FReader, eF, r4, rf, v7]; done))) | (with_reducible apply wm_f; focus (first | omega | (simp (disch := omega) only [wr_id, FReader, eF, r4, rf, v7]; omega) | (simp (disch := omega) only [wr_id, FReader, eF, r4, rf, v7]; done)))))
        exact wm_r ⟨frm_up (frm_up fJ (by omega)) (by omega), Or.inr ⟨i, w, h, sd, H, S, lw, some q, hR, Or.inl ⟨q, rfl, rfl, up_s _ _ _ _⟩⟩⟩
      | none =>
        have r4 : J 29 6 = -1 := r4
        have rg := r6 rfl
        have rg' := rg
        obtain ⟨q1, q2, q3, q4, q5, q6, q7, q8⟩ := rg'
        obtain ⟨w', rfl⟩ : ∃ w' : Nat, w = (w' : Int) := ⟨w.toNat, by omega⟩
        obtain ⟨h', rfl⟩ : ∃ h' : Nat, h = (h' : Int) := ⟨h.toNat, by omega⟩
        (repeat (first | (with_reducible apply wm_o; focus (simp (disch := omega) only [wr_id, Int.toNat_natCast, Int.reduceToNat, tn_lk, tn_kl, if_pos, if_neg, ↓reduceIte, and_self, and_true, true_and, FReader, eF, r4]; with_reducible rfl)) | (with_reducible apply wm_q) | (with_reducible apply wm_c; focus (first | assumption | decide +kernel)) | (with_reducible apply wm_d; focus (simp (disch := omega) only [wr_id, Int.toNat_natCast, Int.reduceToNat, tn_lk, tn_kl, if_pos, if_neg, ↓reduceIte, and_self, and_true, true_and, FReader, eF, r4]; with_reducible rfl)) | (with_reducible apply wm_t; focus (first | omega | (simp (disch := omega) only [wr_id, FReader, eF, r4]; omega) | (simp (disch := omega) only [wr_id, FReader, eF, r4]; done))) | (with_reducible apply wm_f; focus (first | omega | (simp (disch := omega) only [wr_id, FReader, eF, r4]; omega) | (simp (disch := omega) only [wr_id, FReader, eF, r4]; done)))))
        refine wm_b (w_fits ht r3 rg) (fun r J7 hJ7 => ?_)
        obtain ⟨f7, hf⟩ := hJ7
        have e29 : J7 29 = J 29 := f7 29 (by omega)
        have fJ7 : frm (fun a => (29 ≤ a ∧ a ≤ 33) ∨ (rt ≤ a ∧ a ≤ rt + 11)) I J7 := frm_trans fJ (frm_sub f7 (fun a ha => by omega))
        rcases hf with ⟨t1, rfl, U, t2, t3⟩ | ⟨t1, rfl⟩
        · have v7 : J7 29 7 = 0 := by rw [e29]; exact eF
          (repeat (first | (with_reducible apply wm_o; focus (simp (disch := omega) only [wr_id, Int.toNat_natCast, Int.reduceToNat, tn_lk, tn_kl, if_pos, if_neg, ↓reduceIte, and_self, and_true, true_and, FReader, v7]; with_reducible rfl)) | (with_reducible apply wm_q) | (with_reducible apply wm_c; focus (first | assumption | decide +kernel)) | (with_reducible apply wm_d; focus (simp (disch := omega) only [wr_id, Int.toNat_natCast, Int.reduceToNat, tn_lk, tn_kl, if_pos, if_neg, ↓reduceIte, and_self, and_true, true_and, FReader, v7]; with_reducible rfl)) | (with_reducible apply wm_t; focus (first | omega | (simp (disch := omega) only [wr_id, FReader, v7]; omega) | (simp (disch := omega) only [wr_id, FReader, v7]; done))) | (with_reducible apply wm_f; focus (first | omega | (simp (disch := omega) only [wr_id, FReader, v7]; omega) | (simp (disch := omega) only [wr_id, FReader, v7]; done)))))
          obtain ⟨x0, x1, x2, x3, x4, x5, x6, x7, x8, x9, x10⟩ := r3
          refine wm_r ⟨fJ7, Or.inr ⟨i, _, _, sd, H, S, lw, none, hR, Or.inr ⟨rfl, rg, Or.inr ⟨?_, rfl, ?_, ?_, ?_, ?_, ?_, ?_, x5, x6, ?_, ⟨U, ?_, t3⟩, fun q hq => ?_⟩⟩⟩⟩
          · rw [Int.toNat_natCast, Int.toNat_natCast]; exact t1
          · rw [e29]; exact r5
          · rw [f7 rt (by omega)]; exact x0
          · rw [f7 rt (by omega)]; exact x1
          · rw [f7 rt (by omega)]; exact x2
          · rw [f7 rt (by omega)]; exact x3
          · rw [f7 rt (by omega)]; exact x4
          · rw [f7 (rt + 3) (by omega), f7 (rt + 4) (by omega), f7 (rt + 5) (by omega)]; exact x8
          · rw [Int.toNat_natCast, Int.toNat_natCast]; exact t2
          · obtain ⟨o1, p, e', o2, o3, o4⟩ := x9 q hq
            refine lawC_frm (f7 _ (by omega)) (f7 _ (by omega)) (f7 _ (by omega)) (f7 _ (by omega)) ⟨o1, sp, p, e', r1.2.2.2.2.2.1, by omega, o2, o3, o4⟩
        · have l7 : J7 1 1 = (tl : Int) := by rw [fJ7 1 (by omega)]; exact hT.1
          have rf : f_X3_refuse 29 6 (tl : Int) (mm t d rt J7) = some (0, mm t d rt (up (up J7 29 7 6) 29 8 (tl : Int))) := q_refuse
          have v7 : up (up J7 29 7 6) 29 8 (tl : Int) 29 7 = 6 := by rw [up_g, if_neg (by decide), up_s]
          (repeat (first | (with_reducible apply wm_o; focus (simp (disch := omega) only [wr_id, Int.toNat_natCast, Int.reduceToNat, tn_lk, tn_kl, if_pos, if_neg, ↓reduceIte, and_self, and_true, true_and, FReader, FTape, l7, rf, v7]; with_reducible rfl)) | (with_reducible apply wm_q) | (with_reducible apply wm_c; focus (first | assumption | decide +kernel)) | (with_reducible apply wm_d; focus (simp (disch := omega) only [wr_id, Int.toNat_natCast, Int.reduceToNat, tn_lk, tn_kl, if_pos, if_neg, ↓reduceIte, and_self, and_true, true_and, FReader, FTape, l7, rf, v7]; with_reducible rfl)) | (with_reducible apply wm_t; focus (first | omega | (simp (disch := omega) only [wr_id, FReader, FTape, l7, rf, v7]; omega) | (simp (disch := omega) only [wr_id, FReader, FTape, l7, rf, v7]; done))) | (with_reducible apply wm_f; focus (first | omega | (simp (disch := omega) only [wr_id, FReader, FTape, l7, rf, v7]; omega) | (simp (disch := omega) only [wr_id, FReader, FTape, l7, rf, v7]; done)))))
          refine wm_r ⟨frm_up (frm_up fJ7 (by omega)) (by omega), Or.inr ⟨i, _, _, sd, H, S, lw, none, hR, Or.inr ⟨rfl, rg, Or.inl ⟨?_, rfl, up_s _ _ _ _⟩⟩⟩⟩
          rw [Int.toNat_natCast, Int.toNat_natCast]; exact t1
    refine wm_q ?_
    by_cases cn : n = 401
    · refine wm_f (by simp (disch := omega) only [wr_id]; omega) ?_
      refine fin ?_
      rw [← e, cn]; rfl
    · refine wm_t (by simp (disch := omega) only [wr_id]; omega) ?_
      obtain ⟨m, em⟩ : ∃ m, 401 - n = m + 1 := ⟨400 - n, by omega⟩
      rw [em, tlsR] at e
      by_cases cK : tK B tl i = 0
      · rw [if_pos cK] at e
        refine wm_o (a := (tK B tl i : Int)) (by rw [← eK]; simp only [FReader]) ?_
        refine wm_t (by rw [cK]; decide) ?_
        exact fin e.symm
      · rw [if_neg cK] at e
        (repeat (first | (with_reducible apply wm_o; focus (simp (disch := omega) only [wr_id, Int.toNat_natCast, Int.reduceToNat, tn_lk, tn_kl, if_pos, if_neg, ↓reduceIte, and_self, and_true, true_and, FReader, eK, eF]; with_reducible rfl)) | (with_reducible apply wm_q) | (with_reducible apply wm_c; focus (first | assumption | decide +kernel)) | (with_reducible apply wm_d; focus (simp (disch := omega) only [wr_id, Int.toNat_natCast, Int.reduceToNat, tn_lk, tn_kl, if_pos, if_neg, ↓reduceIte, and_self, and_true, true_and, FReader, eK, eF]; with_reducible rfl)) | (with_reducible apply wm_t; focus (first | omega | (simp (disch := omega) only [wr_id, FReader, eK, eF]; omega) | (simp (disch := omega) only [wr_id, FReader, eK, eF]; done))) | (with_reducible apply wm_f; focus (first | omega | (simp (disch := omega) only [wr_id, FReader, eK, eF]; omega) | (simp (disch := omega) only [wr_id, FReader, eK, eF]; done)))))
        refine wm_b (w_takeTell ht hv r1 r2 r3 r4 cK) (fun r J7 hJ7 => ?_)
        have e' : bnd (tell1 (tK B tl) (tV B tl) i w h sd H S lw wr) (fun t' x' => tlsR (tK B tl) (tV B tl) m t' x') = R := e
        rcases hJ7 with ⟨t', w', h', sd', H', S', lw', wr', sp', e1, rfl, d1, d2, d3, d4, d5⟩ | ⟨c, q, e1, rfl, d1⟩
        · have rg := tell_rg e1 r6
          rw [e1, bnd_ok] at e'
          have e8 : J7 29 8 = -1 := d2.2.2.2.2.2.2.2.2
          exact hrec (n + 1) _ _ (by omega) (by omega) ⟨by omega, frm_trans fJ (fun a ha => d1 a (by omega) (by omega)), Or.inl ⟨t', sp', w', h', sd', H', S', lw', wr', by rw [show 401 - (n + 1) = m by omega]; exact e', d2, d3, d4, d5, e8, rg⟩⟩
        · have c12 := (sn_tell i w h sd H S lw wr).1 c q e1
          rw [e1, bnd_fl] at e'
          exact hrec (n + 1) _ _ (by omega) (by omega) ⟨by omega, frm_trans fJ (fun a ha => d1.1 a (by omega) (by omega)), Or.inr ⟨c, q, e'.symm, c12, d1.2.1, d1.2.2⟩⟩
  · have fin : wm t d rt ((jm_gI 3 7 (mm t d rt J) 29).bind fun v22 =>
        jjq (fun (M_128 : jMem) =>
        (jm_gI 3 7 M_128 29).bind fun v23 =>
        jjq (fun (M_159 : jMem) =>
        (jm_gI 3 7 M_159 29).bind fun v24 =>
        some (v24, M_159)) fun j_159 =>
        if jd_wr v23 = 0 then ((jm_gR 3 2 M_128 29).bind fun r25 =>
        jcall 8 M_128 r25 (f_X8_fitsSquare r25 M_128) fun v26 M27 =>
        if jd_wr v26 = 0 then ((jm_gR 3 0 M27 29).bind fun r28 =>
        (jm_gI 7 1 M27 r28).bind fun v29 =>
        jcall 3 M27 29 (f_X3_refuse 29 6 v29 M27) fun v30 M31 =>
        j_159 M31)
        else (j_159 M27))
        else (j_159 M_128)) fun j_128 =>
        if jd_wr v22 = 0 then ((jm_gI 3 6 (mm t d rt J) 29).bind fun v32 =>
        if jd_wr v32 = jd_wr (-1) then (j_128 (mm t d rt J))
        else ((jm_gI 3 6 (mm t d rt J) 29).bind fun v33 =>
        jcall 3 (mm t d rt J) 29 (f_X3_refuse 29 5 v33 (mm t d rt J)) fun v34 M35 =>
        j_128 M35))
        else (j_128 (mm t d rt J))) (fun r J => frm (fun a => (29 ≤ a ∧ a ≤ 33) ∨ (rt ≤ a ∧ a ≤ rt + 11)) I J ∧ prQ rt tl (tps B tl) R r J) := by
      (repeat (first | (with_reducible apply wm_o; focus (simp (disch := omega) only [wr_id, Int.toNat_natCast, Int.reduceToNat, tn_lk, tn_kl, if_pos, if_neg, ↓reduceIte, and_self, and_true, true_and, FReader, b1]; with_reducible rfl)) | (with_reducible apply wm_q) | (with_reducible apply wm_c; focus (first | assumption | decide +kernel)) | (with_reducible apply wm_d; focus (simp (disch := omega) only [wr_id, Int.toNat_natCast, Int.reduceToNat, tn_lk, tn_kl, if_pos, if_neg, ↓reduceIte, and_self, and_true, true_and, FReader, b1]; with_reducible rfl)) | (with_reducible apply wm_t; focus (first | omega | (simp (disch := omega) only [wr_id, FReader, b1]; omega) | (simp (disch := omega) only [wr_id, FReader, b1]; done))) | (with_reducible apply wm_f; focus (first | omega | (simp (disch := omega) only [wr_id, FReader, b1]; omega) | (simp (disch := omega) only [wr_id, FReader, b1]; done)))))
      exact wm_r ⟨fJ, Or.inl ⟨c, q, e, rfl, b2⟩⟩
    refine wm_q ?_
    by_cases cn : n = 401
    · refine wm_f (by simp (disch := omega) only [wr_id]; omega) ?_
      exact fin
    · refine wm_t (by simp (disch := omega) only [wr_id]; omega) ?_
      refine wm_o (a := J 29 4) (by simp only [FReader]) ?_
      refine wm_if (fun _ => fin) (fun _ => ?_)
      refine wm_o (a := (c : Int)) (by rw [← b1]; simp only [FReader]) ?_
      refine wm_f (by rw [wr_id (by omega) (by omega)]; omega) ?_
      exact fin
end PA
