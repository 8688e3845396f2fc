/-! ===== traceNow, fillsNow; calls: rank ===== -/
section RK
variable {t d rt : Nat} {I J K : Nat → Nat → Int} {lv w h n nh r : Nat} {hl cl na nd U : Nat → Bool} {sd : Int} {ifs : Nat → List LwI} {xs : Nat → List CI} {ρ : Nat → Int} {u : Nat} {H : Nat → Nat → Int} {hd : Nat → Bool} {G : Nat → Nat → Int}
theorem c_trace (sq : sqOK w h n nh hl) (c' : cfC I t w h n nh hl sd ifs xs) (hr : rOK w n hl ρ) (hst : stR I 34 w ρ) (h5 : I 311 5 = (w : Int)) : wm t d rt (f_X11_traceNow 0 (mm t d rt I)) (fun _ J => frm (fun a => a = 367) I J ∧ lnI J 367 (lnP w h (pvR ρ n))) := by
  have htx := c'.1
  have kt := (tx_k htx).1
  have kb := (tx_k htx).2.2.2
  have hn := sq.2.2.2.2.2.2.1
  have hnw := sq.2.2.2.2.1
  have hw : 2 ≤ w ∧ w ≤ 6 := ⟨sq.1, sq.2.1⟩
  have hh : 2 ≤ h ∧ h ≤ 6 := ⟨sq.2.2.1, sq.2.2.2.1⟩
  have hfl := w_fill (t := t) (d := d) (rt := rt) (I := I) (a := 367) (m := 7) (by decide +kernel) (by decide) (by decide) 0
  unfold f_X11_traceNow
  (repeat (first | (with_reducible apply wm_o; focus (simp (disch := omega) only [wr_id, Int.toNat_natCast, Int.reduceToNat, tn_lk, tn_kl, if_pos, if_neg, ↓reduceIte, and_self, and_true, true_and, FX, hfl]; with_reducible rfl)) | (with_reducible apply wm_q) | (with_reducible apply wm_c; focus (first | assumption | decide +kernel)) | (with_reducible apply wm_d; focus (simp (disch := omega) only [wr_id, Int.toNat_natCast, Int.reduceToNat, tn_lk, tn_kl, if_pos, if_neg, ↓reduceIte, and_self, and_true, true_and, FX, hfl]; with_reducible rfl)) | (with_reducible apply wm_t; focus (first | omega | (simp (disch := omega) only [wr_id, FX, hfl]; omega) | (simp (disch := omega) only [wr_id, FX, hfl]; done))) | (with_reducible apply wm_f; focus (first | omega | (simp (disch := omega) only [wr_id, FX, hfl]; omega) | (simp (disch := omega) only [wr_id, FX, hfl]; done)))))
  refine wm_lp2 18 (fun i y J => y = (i : Int) ∧ frm (fun a => a = 367) I J ∧ J 367 0 = 0 ∧ ∀ y, y < 6 → J 367 (y + 1) = (tlM w h (dwn ρ i) y : Int)) ?_ (jfuel_n (by decide)) ⟨rfl, fun a ha => flne ha, fl_in (by decide), fun y hy => ?_⟩
  · rintro i hi y J ⟨rfl, hJ, j0, jA⟩ rec hrec
    have sJ := stR_frm hJ (fun a a1 a2 => by omega) hst
    have cJ := cfC_frm hJ (fun a a1 a2 => by omega) c'
    have c2 := cJ.2.1
    refine wm_if (fun cc => ?_) (fun cc => ?_)
    · simp (disch := omega) only [wr_id] at cc
      have hi2 : i < 18 := by omega
      have hli := w_lies (t := t) (d := d) (rt := rt) now_in hr hn sJ hi2
      by_cases z : 0 ≤ ρ i
      · rw [if_pos z] at hli
        have f2 := (sJ.2.1 i hi2 z).1
        have f1 := sJ.1 i hi2
        rw [if_pos z] at f1
        rcases hr.1 i hi2 with q | ⟨q1, q2, q3, q4, q5⟩
        · omega
        · rcases q3 with ⟨e, _⟩ | ⟨e, _⟩
          · rw [e] at f2
            (repeat (first | (with_reducible apply wm_o; focus (simp (disch := omega) only [wr_id, Int.toNat_natCast, Int.reduceToNat, tn_lk, tn_kl, if_pos, if_neg, ↓reduceIte, and_self, and_true, true_and, FX, FState now_in, hli, f2]; with_reducible rfl)) | (with_reducible apply wm_q) | (with_reducible apply wm_c; focus (first | assumption | decide +kernel)) | (with_reducible apply wm_d; focus (simp (disch := omega) only [wr_id, Int.toNat_natCast, Int.reduceToNat, tn_lk, tn_kl, if_pos, if_neg, ↓reduceIte, and_self, and_true, true_and, FX, FState now_in, hli, f2]; with_reducible rfl)) | (with_reducible apply wm_t; focus (first | omega | (simp (disch := omega) only [wr_id, FX, FState now_in, hli, f2]; omega) | (simp (disch := omega) only [wr_id, FX, FState now_in, hli, f2]; done))) | (with_reducible apply wm_f; focus (first | omega | (simp (disch := omega) only [wr_id, FX, FState now_in, hli, f2]; omega) | (simp (disch := omega) only [wr_id, FX, FState now_in, hli, f2]; done)))))
            refine hrec (i + 1) _ _ (by omega) (by omega) ⟨by omega, hJ, j0, fun y hy => ?_⟩
            have ed : dwn ρ (i + 1) = dwn ρ i := by
              funext c; rw [dwn_s, e]; simp
            rw [ed]; exact jA y hy
          · rw [e] at f2
            obtain ⟨q, eq⟩ : ∃ q : Nat, ρ i = (q : Int) := ⟨(ρ i).toNat, by omega⟩
            rw [eq] at f1
            have hqn : q < n := by omega
            have hm := Nat.mod_lt q (show w > 0 by omega)
            have hdy : q / w < h := Nat.div_lt_of_lt_mul (by omega)
            have ja := jA (q / w) (by omega)
            have l1 := tlM_lt (h := h) (f := dwn ρ i) (q / w) hw.2
            have hdd := q_drawDown (t := t) (d := d) (rt := rt) (r := 311) (I := J) (c := q) ev_in (by rw [hJ _ (by omega)]; exact h5) hw (by omega) (by omega) ja l1
            have ed : dwn ρ (i + 1) = clAdd (dwn ρ i) q := by
              funext c
              rw [dwn_s, e, decide_eq_true z, eq]
              unfold clAdd
              congr 1
              rw [Bool.eq_iff_iff]
              simp only [Bool.and_eq_true, decide_eq_true_eq, true_and]
              omega
            have hadd := fun y => tlM_add (w := w) (h := h) (f := dwn ρ i) (c := q) (y := y) (by omega) (by omega)
            generalize hQ : q / w = Q at *
            (repeat (first | (with_reducible apply wm_o; focus (simp (disch := omega) only [wr_id, Int.toNat_natCast, Int.reduceToNat, tn_lk, tn_kl, if_pos, if_neg, ↓reduceIte, and_self, and_true, true_and, FX, FState now_in, hli, f2, f1, hdd]; with_reducible rfl)) | (with_reducible apply wm_q) | (with_reducible apply wm_c; focus (first | assumption | decide +kernel)) | (with_reducible apply wm_d; focus (simp (disch := omega) only [wr_id, Int.toNat_natCast, Int.reduceToNat, tn_lk, tn_kl, if_pos, if_neg, ↓reduceIte, and_self, and_true, true_and, FX, FState now_in, hli, f2, f1, hdd]; with_reducible rfl)) | (with_reducible apply wm_t; focus (first | omega | (simp (disch := omega) only [wr_id, FX, FState now_in, hli, f2, f1, hdd]; omega) | (simp (disch := omega) only [wr_id, FX, FState now_in, hli, f2, f1, hdd]; done))) | (with_reducible apply wm_f; focus (first | omega | (simp (disch := omega) only [wr_id, FX, FState now_in, hli, f2, f1, hdd]; omega) | (simp (disch := omega) only [wr_id, FX, FState now_in, hli, f2, f1, hdd]; done)))))
            refine hrec (i + 1) _ _ (by omega) (by omega) ⟨by omega, frm_up hJ rfl, by rw [up_g, if_neg (by omega)]; exact j0, fun y hy => ?_⟩
            rw [ed, up_g, hadd y]
            by_cases ey : y = Q
            · rw [if_pos (by omega), if_pos ey, ey]
            · rw [if_neg (by omega), if_neg ey]; exact jA y hy
      · rw [if_neg z] at hli
        (repeat (first | (with_reducible apply wm_o; focus (simp (disch := omega) only [wr_id, Int.toNat_natCast, Int.reduceToNat, tn_lk, tn_kl, if_pos, if_neg, ↓reduceIte, and_self, and_true, true_and, FX, hli]; with_reducible rfl)) | (with_reducible apply wm_q) | (with_reducible apply wm_c; focus (first | assumption | decide +kernel)) | (with_reducible apply wm_d; focus (simp (disch := omega) only [wr_id, Int.toNat_natCast, Int.reduceToNat, tn_lk, tn_kl, if_pos, if_neg, ↓reduceIte, and_self, and_true, true_and, FX, hli]; with_reducible rfl)) | (with_reducible apply wm_t; focus (first | omega | (simp (disch := omega) only [wr_id, FX, hli]; omega) | (simp (disch := omega) only [wr_id, FX, hli]; done))) | (with_reducible apply wm_f; focus (first | omega | (simp (disch := omega) only [wr_id, FX, hli]; omega) | (simp (disch := omega) only [wr_id, FX, hli]; done)))))
        refine hrec (i + 1) _ _ (by omega) (by omega) ⟨by omega, hJ, j0, fun y hy => ?_⟩
        have ed : dwn ρ (i + 1) = dwn ρ i := by
          funext c; rw [dwn_s, decide_eq_false z]; simp
        rw [ed]; exact jA y hy
    · simp (disch := omega) only [wr_id] at cc
      obtain rfl : i = 18 := by omega
      refine wm_r ⟨hJ, fun j hj => ?_⟩
      cases j with
      | zero => rw [j0]; rfl
      | succ j =>
        rw [gd_s1, jA j (by omega)]
        by_cases z : j < h
        · rw [lnP_get z, tl_row hr hnw z]
        · unfold tlM
          rw [if_neg z, List.getD_eq_getElem?_getD, List.getElem?_eq_none (by rw [lnP_len]; omega)]
          rfl
  · rw [fl_in (by omega)]
    have : dwn ρ 0 = noB := rfl
    rw [this, tlM_no]; rfl
/-- the model's ways are the paving's -/
theorem m_fillsNow (c : cfM I lv w h n nh hl sd ifs xs) (hz : zM I) (hr : rOK w n hl ρ) (h0 : I 400 = ρ) (hρ : ∀ j, 75 ≤ j → ρ j = 0) : wm t d rt (f_X12_fillsNow 369 (mm t d rt I)) (fun _ J => frM (fun a => a = 401 ∨ a = 411) (fun j => j = 49) I J ∧ zM J ∧ cfM J lv w h n nh hl sd ifs xs ∧ J 401 = ρ ∧ ∀ x, x < 36 → J 411 x = rwy ρ 18 x) := by
  have hn : n ≤ 36 := c.1.2.2.2.2.2.2.2.2.2.2
  have hv := vRow_of hr hn
  unfold f_X12_fillsNow
  (repeat (first | (with_reducible apply wm_o; focus (simp (disch := omega) only [wr_id, Int.toNat_natCast, Int.reduceToNat, tn_lk, tn_kl, if_pos, if_neg, ↓reduceIte, and_self, and_true, true_and]; with_reducible rfl)) | (with_reducible apply wm_q) | (with_reducible apply wm_c; focus (first | assumption | decide +kernel)) | (with_reducible apply wm_d; focus (simp (disch := omega) only [wr_id, Int.toNat_natCast, Int.reduceToNat, tn_lk, tn_kl, if_pos, if_neg, ↓reduceIte, and_self, and_true, true_and]; with_reducible rfl)) | (with_reducible apply wm_t; focus (first | omega | (simp (disch := omega) only [wr_id]; omega) | (simp (disch := omega) only [wr_id]; done))) | (with_reducible apply wm_f; focus (first | omega | (simp (disch := omega) only [wr_id]; omega) | (simp (disch := omega) only [wr_id]; done)))))
  refine wm_b (m_copies c.1 c.2.2.1 (by rw [h0]; exact hρ) hz.1) (fun v J hJ => ?_)
  obtain ⟨j1, j2, j3⟩ := hJ
  rw [h0] at j2
  have j1' : frM (fun a => a = 401 ∨ a = 411) (fun j => j = 49) I J := frM_sub j1 (fun a ha => Or.inl ha) (fun a ha => ha)
  refine wm_lp2 36 (fun i y K => y = (i : Int) ∧ frM (fun a => a = 411) (fun _ => False) J K ∧ ∀ x, x < i → K 411 x = -1) ?_ (jfuel_n (by decide)) ⟨rfl, frM_refl _ _ _, fun x hx => by omega⟩
  rintro i hi y K ⟨rfl, hK, kA⟩ rec hrec
  refine wm_if (fun cc => ?_) (fun cc => ?_)
  · simp (disch := omega) only [wr_id] at cc
    (repeat (first | (with_reducible apply wm_o; focus (simp (disch := omega) only [wr_id, Int.toNat_natCast, Int.reduceToNat, tn_lk, tn_kl, if_pos, if_neg, ↓reduceIte, and_self, and_true, true_and, FM]; with_reducible rfl)) | (with_reducible apply wm_q) | (with_reducible apply wm_c; focus (first | assumption | decide +kernel)) | (with_reducible apply wm_d; focus (simp (disch := omega) only [wr_id, Int.toNat_natCast, Int.reduceToNat, tn_lk, tn_kl, if_pos, if_neg, ↓reduceIte, and_self, and_true, true_and, FM]; with_reducible rfl)) | (with_reducible apply wm_t; focus (first | omega | (simp (disch := omega) only [wr_id, FM]; omega) | (simp (disch := omega) only [wr_id, FM]; done))) | (with_reducible apply wm_f; focus (first | omega | (simp (disch := omega) only [wr_id, FM]; omega) | (simp (disch := omega) only [wr_id, FM]; done)))))
    refine hrec (i + 1) _ _ (by omega) (by omega) ⟨by omega, frM_up hK (by decide) rfl, fun x hx => ?_⟩
    rw [up_g]
    by_cases e : x = i
    · rw [if_pos e]
    · rw [if_neg e]; exact kA x (by omega)
  · simp (disch := omega) only [wr_id] at cc
    obtain rfl : i = 36 := by omega
    clear hrec rec
    refine wm_lp2 18 (fun i y L => y = (i : Int) ∧ frM (fun a => a = 411) (fun _ => False) J L ∧ ∀ x, x < 36 → L 411 x = rwy ρ i x) ?_ (jfuel_n (by decide)) ⟨rfl, hK, fun x hx => kA x hx⟩
    rintro i hi' y L ⟨rfl, hL, lA⟩ rec hrec
    have L4 : L 401 = ρ := (hL.1 401 (by decide) (by decide)).trans j2
    refine wm_if (fun cc2 => ?_) (fun cc2 => ?_)
    · simp (disch := omega) only [wr_id] at cc2
      have hi2 : i < 18 := by omega
      have hli := s_lies (t := t) (d := d) (rt := rt) (I := L) (by rw [L4]; exact hv) hi2
      rw [L4] at hli
      by_cases z : 0 ≤ ρ i
      · rw [if_pos (by unfold rLies; exact decide_eq_true z)] at hli
        obtain ⟨q, eq⟩ : ∃ q : Nat, ρ i = (q : Int) := ⟨(ρ i).toNat, by omega⟩
        have hq36 : q < 36 := by rcases hr.1 i hi2 with k | k <;> omega
        have e1 : L 401 i = (q : Int) := by rw [L4]; exact eq
        have e2 : L 401 (18 + i) = ρ (18 + i) := by rw [L4]
        have ei : (18 : Int) + (i : Int) = ((18 + i : Nat) : Int) := by omega
        (repeat (first | (with_reducible apply wm_o; focus (simp (disch := omega) only [wr_id, Int.toNat_natCast, Int.reduceToNat, tn_lk, tn_kl, if_pos, if_neg, ↓reduceIte, and_self, and_true, true_and, FM, hli, e1, ei, e2]; with_reducible rfl)) | (with_reducible apply wm_q) | (with_reducible apply wm_c; focus (first | assumption | decide +kernel)) | (with_reducible apply wm_d; focus (simp (disch := omega) only [wr_id, Int.toNat_natCast, Int.reduceToNat, tn_lk, tn_kl, if_pos, if_neg, ↓reduceIte, and_self, and_true, true_and, FM, hli, e1, ei, e2]; with_reducible rfl)) | (with_reducible apply wm_t; focus (first | omega | (simp (disch := omega) only [wr_id, FM, hli, e1, ei, e2]; omega) | (simp (disch := omega) only [wr_id, FM, hli, e1, ei, e2]; done))) | (with_reducible apply wm_f; focus (first | omega | (simp (disch := omega) only [wr_id, FM, hli, e1, ei, e2]; omega) | (simp (disch := omega) only [wr_id, FM, hli, e1, ei, e2]; done)))))
        refine hrec (i + 1) _ _ (by omega) (by omega) ⟨by omega, frM_up hL (by decide) rfl, fun x hx => ?_⟩
        rw [up_g, rwy_s]
        by_cases e : x = q
        · rw [if_pos e, if_pos ⟨z, by omega⟩]
        · rw [if_neg e, if_neg (by omega)]; exact lA x hx
      · rw [if_neg (by unfold rLies; rw [decide_eq_false z]; decide)] at hli
        (repeat (first | (with_reducible apply wm_o; focus (simp (disch := omega) only [wr_id, Int.toNat_natCast, Int.reduceToNat, tn_lk, tn_kl, if_pos, if_neg, ↓reduceIte, and_self, and_true, true_and, FM, hli]; with_reducible rfl)) | (with_reducible apply wm_q) | (with_reducible apply wm_c; focus (first | assumption | decide +kernel)) | (with_reducible apply wm_d; focus (simp (disch := omega) only [wr_id, Int.toNat_natCast, Int.reduceToNat, tn_lk, tn_kl, if_pos, if_neg, ↓reduceIte, and_self, and_true, true_and, FM, hli]; with_reducible rfl)) | (with_reducible apply wm_t; focus (first | omega | (simp (disch := omega) only [wr_id, FM, hli]; omega) | (simp (disch := omega) only [wr_id, FM, hli]; done))) | (with_reducible apply wm_f; focus (first | omega | (simp (disch := omega) only [wr_id, FM, hli]; omega) | (simp (disch := omega) only [wr_id, FM, hli]; done)))))
        refine hrec (i + 1) _ _ (by omega) (by omega) ⟨by omega, hL, fun x hx => ?_⟩
        rw [rwy_s, if_neg (fun q => z q.1)]; exact lA x hx
    · simp (disch := omega) only [wr_id] at cc2
      obtain rfl : i = 18 := by omega
      have fL := frM_trans j1' (frM_f (S' := fun a => a = 401 ∨ a = 411) (T' := fun j => j = 49) hL (fun a ha => Or.inr ha))
      refine wm_r ⟨fL, ⟨by rw [L4]; exact hρ, ?_, ?_⟩, cfM_frm fL (fun a _ _ _ _ _ _ _ _ => by omega) (by decide) c, L4, lA⟩
      · unfold b01; rw [fL.1 409 (by decide) (by decide)]; exact hz.2.1
      · unfold b01; rw [fL.1 410 (by decide) (by decide)]; exact hz.2.2
theorem q_isPaved (sq : sqOK w h n nh hl) (c : cfC I t w h n nh hl sd ifs xs) (hr : rOK w n hl ρ) (hst : stR I 34 w ρ) : f_X11_isPaved 0 (mm t d rt I) = some (if nh + 2 * rMany ρ = n then 1 else 0, mm t d rt I) := by
  have hf := q_freeCells (d := d) (rt := rt) sq c hst
  have hn := sq.2.2.2.2.2.2.1
  have hle := (free_nn hr sq).1
  refine wm_eq ?_
  unfold f_X11_isPaved
  by_cases z : nh + 2 * rMany ρ = n
  · rw [if_pos z]
    (repeat (first | (with_reducible apply wm_o; focus (simp (disch := omega) only [wr_id, Int.toNat_natCast, Int.reduceToNat, tn_lk, tn_kl, if_pos, if_neg, ↓reduceIte, and_self, and_true, true_and, hf]; with_reducible rfl)) | (with_reducible apply wm_q) | (with_reducible apply wm_c; focus (first | assumption | decide +kernel)) | (with_reducible apply wm_d; focus (simp (disch := omega) only [wr_id, Int.toNat_natCast, Int.reduceToNat, tn_lk, tn_kl, if_pos, if_neg, ↓reduceIte, and_self, and_true, true_and, hf]; with_reducible rfl)) | (with_reducible apply wm_t; focus (first | omega | (simp (disch := omega) only [wr_id, hf]; omega) | (simp (disch := omega) only [wr_id, hf]; done))) | (with_reducible apply wm_f; focus (first | omega | (simp (disch := omega) only [wr_id, hf]; omega) | (simp (disch := omega) only [wr_id, hf]; done)))))
    exact wm_z1 ⟨rfl, rfl⟩
  · rw [if_neg z]
    (repeat (first | (with_reducible apply wm_o; focus (simp (disch := omega) only [wr_id, Int.toNat_natCast, Int.reduceToNat, tn_lk, tn_kl, if_pos, if_neg, ↓reduceIte, and_self, and_true, true_and, hf]; with_reducible rfl)) | (with_reducible apply wm_q) | (with_reducible apply wm_c; focus (first | assumption | decide +kernel)) | (with_reducible apply wm_d; focus (simp (disch := omega) only [wr_id, Int.toNat_natCast, Int.reduceToNat, tn_lk, tn_kl, if_pos, if_neg, ↓reduceIte, and_self, and_true, true_and, hf]; with_reducible rfl)) | (with_reducible apply wm_t; focus (first | omega | (simp (disch := omega) only [wr_id, hf]; omega) | (simp (disch := omega) only [wr_id, hf]; done))) | (with_reducible apply wm_f; focus (first | omega | (simp (disch := omega) only [wr_id, hf]; omega) | (simp (disch := omega) only [wr_id, hf]; done)))))
    exact wm_z0 ⟨rfl, rfl⟩
theorem P_rank (hI : INV t d rt I) : both t d rt (f_X11_rank 0 (mm t d rt I)) (fun M => f_X12_rank 369 M) := by
  have hI' := hI
  obtain ⟨lv, w, h, n, nh, hl, sd, ifs, xs, hR, ρ, u, H, hd, G, hC, hM⟩ := hI
  have sq := hR.2.1
  have hcf := hR.2.2.1
  have hmf := hR.2.2.2.1
  have hE := hR.2.2.2.2.2.2.2.1
  have hnw := sq.2.2.2.2.1
  have hn := sq.2.2.2.2.2.2.1
  have hw : 2 ≤ w ∧ w ≤ 6 := ⟨sq.1, sq.2.1⟩
  have hh : 2 ≤ h ∧ h ≤ 6 := ⟨sq.2.2.1, sq.2.2.2.1⟩
  have hv := vRow_of hC.1 hn
  have hp := q_isPaved (d := d) (rt := rt) sq hcf hC.1 hC.2.1
  have hle := (free_nn hC.1 sq).1
  have hr := hr_of (w := w) (h := h) (by omega) hnw
  -- the model up to its walk
  have mod : ∀ (J : Nat → Nat → Int) (Q : Int → (Nat → Nat → Int) → Prop) (g : Int → jMem → Option (Int × jMem)), frm scrC I J → (∀ K, frM scrM scrF J K → zM K → cfM K lv w h n nh hl sd ifs xs → mTab K w n hl → (∀ x, x < 36 → K 411 x = rwy ρ 18 x) → wm t d rt (g ((n : Int) - (nh : Int) - 2 * (rMany ρ : Int)) (mm t d rt K)) Q) → wm t d rt (jbd (f_X12_countsAll 369 (mm t d rt J)) fun v1 M2 =>
jcall 12 M2 369 (f_X12_fillsNow 369 M2) fun _ M4 =>
jcall 12 M4 369 (f_X12_freeMany 369 M4) fun v5 M6 => g v5 M6) Q := by
    intro J Q g jC hg
    have jS : frm (fun a => scrC a ∨ stS a) I J := frm_sub jC (fun a ha => Or.inl ha)
    have hRJ := REST_c jS hR
    have hMJ := stM_c jS hM
    refine wm_b (m_countsAll hRJ.2.2.2.1 hRJ.2.2.2.2.2.2.2.2.2) (fun v K hK => ?_)
    obtain ⟨_, k1, k2⟩ := hK
    have cK := cfM_frm k1 (fun a _ _ _ _ _ _ _ _ => by omega) (fun q => q) hRJ.2.2.2.1
    have zK := zM_fr hRJ.2.2.2.2.2.2.2.2.2 k1 (by decide) (by decide) (by decide)
    (repeat (first | (with_reducible apply wm_o; focus (simp (disch := omega) only [wr_id, Int.toNat_natCast, Int.reduceToNat, tn_lk, tn_kl, if_pos, if_neg, ↓reduceIte, and_self, and_true, true_and]; with_reducible rfl)) | (with_reducible apply wm_q) | (with_reducible apply wm_c; focus (first | assumption | decide +kernel)) | (with_reducible apply wm_d; focus (simp (disch := omega) only [wr_id, Int.toNat_natCast, Int.reduceToNat, tn_lk, tn_kl, if_pos, if_neg, ↓reduceIte, and_self, and_true, true_and]; with_reducible rfl)) | (with_reducible apply wm_t; focus (first | omega | (simp (disch := omega) only [wr_id]; omega) | (simp (disch := omega) only [wr_id]; done))) | (with_reducible apply wm_f; focus (first | omega | (simp (disch := omega) only [wr_id]; omega) | (simp (disch := omega) only [wr_id]; done)))))
    refine wm_b (m_fillsNow cK zK hC.1 ((k1.1 400 (by decide) (by decide)).trans hMJ.1) hMJ.2.1) (fun v2 L hL => ?_)
    obtain ⟨l1, l2, l3, l4, l5⟩ := hL
    have hfm := m_freeMany (t := t) (d := d) (rt := rt) l3.1 l3.2.1 (by rw [l4]; exact hv)
    rw [l4] at hfm
    (repeat (first | (with_reducible apply wm_o; focus (simp (disch := omega) only [wr_id, Int.toNat_natCast, Int.reduceToNat, tn_lk, tn_kl, if_pos, if_neg, ↓reduceIte, and_self, and_true, true_and, hfm]; with_reducible rfl)) | (with_reducible apply wm_q) | (with_reducible apply wm_c; focus (first | assumption | decide +kernel)) | (with_reducible apply wm_d; focus (simp (disch := omega) only [wr_id, Int.toNat_natCast, Int.reduceToNat, tn_lk, tn_kl, if_pos, if_neg, ↓reduceIte, and_self, and_true, true_and, hfm]; with_reducible rfl)) | (with_reducible apply wm_t; focus (first | omega | (simp (disch := omega) only [wr_id, hfm]; omega) | (simp (disch := omega) only [wr_id, hfm]; done))) | (with_reducible apply wm_f; focus (first | omega | (simp (disch := omega) only [wr_id, hfm]; omega) | (simp (disch := omega) only [wr_id, hfm]; done)))))
    refine hg L (frM_trans (frM_f k1 (fun a ha => by unfold scrM; omega)) (frM_sub l1 (fun a ha => by unfold scrM; omega) (fun a ha => by unfold scrF; omega))) l2 l3 ⟨flg_ne (l1.1 408 (by decide) (by decide)) k2.1, fun c m hc hm => by rw [l1.1 406 (by decide) (by decide)]; exact k2.2 c m hc hm⟩ l5
  unfold both f_X11_rank
  by_cases z : nh + 2 * rMany ρ = n
  · rw [if_pos z] at hp
    (repeat (first | (with_reducible apply wm_o; focus (simp (disch := omega) only [wr_id, Int.toNat_natCast, Int.reduceToNat, tn_lk, tn_kl, if_pos, if_neg, ↓reduceIte, and_self, and_true, true_and, hp]; with_reducible rfl)) | (with_reducible apply wm_q) | (with_reducible apply wm_c; focus (first | assumption | decide +kernel)) | (with_reducible apply wm_d; focus (simp (disch := omega) only [wr_id, Int.toNat_natCast, Int.reduceToNat, tn_lk, tn_kl, if_pos, if_neg, ↓reduceIte, and_self, and_true, true_and, hp]; with_reducible rfl)) | (with_reducible apply wm_t; focus (first | omega | (simp (disch := omega) only [wr_id, hp]; omega) | (simp (disch := omega) only [wr_id, hp]; done))) | (with_reducible apply wm_f; focus (first | omega | (simp (disch := omega) only [wr_id, hp]; omega) | (simp (disch := omega) only [wr_id, hp]; done)))))
    refine wm_b (c_trace sq hcf hC.1 hC.2.1 hE.1.1) (fun v J hJ => ?_)
    obtain ⟨j1, j2⟩ := hJ
    have jC : frm scrC I J := frm_sub j1 (fun a ha => by unfold scrC; omega)
    have eE : evI J w h hl := (REST_c (frm_sub jC (fun a ha => Or.inl ha)) hR).2.2.2.2.2.2.2.1
    have hno := w_numberOf (t := t) (d := d) (rt := rt) (Or.inl rfl) ev_in eE.1 eE.2.1 j2 (lnP_len w h _) (lnP_b w h _)
    have hpm := pv_mem hC.1 sq z
    rw [nb_line (by omega) hw.2 (by omega) hnw hpm] at hno
    (repeat (first | (with_reducible apply wm_o; focus (simp (disch := omega) only [wr_id, Int.toNat_natCast, Int.reduceToNat, tn_lk, tn_kl, if_pos, if_neg, ↓reduceIte, and_self, and_true, true_and, FX, hno]; with_reducible rfl)) | (with_reducible apply wm_q) | (with_reducible apply wm_c; focus (first | assumption | decide +kernel)) | (with_reducible apply wm_d; focus (simp (disch := omega) only [wr_id, Int.toNat_natCast, Int.reduceToNat, tn_lk, tn_kl, if_pos, if_neg, ↓reduceIte, and_self, and_true, true_and, FX, hno]; with_reducible rfl)) | (with_reducible apply wm_t; focus (first | omega | (simp (disch := omega) only [wr_id, FX, hno]; omega) | (simp (disch := omega) only [wr_id, FX, hno]; done))) | (with_reducible apply wm_f; focus (first | omega | (simp (disch := omega) only [wr_id, FX, hno]; omega) | (simp (disch := omega) only [wr_id, FX, hno]; done)))))
    refine wm_r ?_
    show wm t d rt (f_X12_rank 369 (mm t d rt J)) _
    unfold f_X12_rank
    (repeat (first | (with_reducible apply wm_o; focus (simp (disch := omega) only [wr_id, Int.toNat_natCast, Int.reduceToNat, tn_lk, tn_kl, if_pos, if_neg, ↓reduceIte, and_self, and_true, true_and]; with_reducible rfl)) | (with_reducible apply wm_q) | (with_reducible apply wm_c; focus (first | assumption | decide +kernel)) | (with_reducible apply wm_d; focus (simp (disch := omega) only [wr_id, Int.toNat_natCast, Int.reduceToNat, tn_lk, tn_kl, if_pos, if_neg, ↓reduceIte, and_self, and_true, true_and]; with_reducible rfl)) | (with_reducible apply wm_t; focus (first | omega | (simp (disch := omega) only [wr_id]; omega) | (simp (disch := omega) only [wr_id]; done))) | (with_reducible apply wm_f; focus (first | omega | (simp (disch := omega) only [wr_id]; omega) | (simp (disch := omega) only [wr_id]; done)))))
    refine mod J _ _ jC (fun K k1 k2 k3 kT kA => ?_)
    have hce := s_cells (t := t) (d := d) (rt := rt) k3.1
    have e0 := rkM_eq (w := w) (n := n) (cl := hl) (na := noB) (nd := noB) (by omega) hr (k := n) (c := 0) (mask := 0) (p := pvR ρ n) (na' := noB) (nd' := noB) (by omega) (gM_00 w n) (by rw [Um_00]; exact hpm)
    rw [Um_00] at e0
    (repeat (first | (with_reducible apply wm_o; focus (simp (disch := omega) only [wr_id, Int.toNat_natCast, Int.reduceToNat, tn_lk, tn_kl, if_pos, if_neg, ↓reduceIte, and_self, and_true, true_and]; with_reducible rfl)) | (with_reducible apply wm_q) | (with_reducible apply wm_c; focus (first | assumption | decide +kernel)) | (with_reducible apply wm_d; focus (simp (disch := omega) only [wr_id, Int.toNat_natCast, Int.reduceToNat, tn_lk, tn_kl, if_pos, if_neg, ↓reduceIte, and_self, and_true, true_and]; with_reducible rfl)) | (with_reducible apply wm_t; focus (first | omega | (simp (disch := omega) only [wr_id]; omega) | (simp (disch := omega) only [wr_id]; done))) | (with_reducible apply wm_f; focus (first | omega | (simp (disch := omega) only [wr_id]; omega) | (simp (disch := omega) only [wr_id]; done)))))
    refine wm_lp4 n (fun x a m y L => L = K ∧ y = (x : Int) ∧ ∃ mask : Nat, m = (mask : Int) ∧ gM w n x mask ∧ (pvR ρ n).drop x ∈ Lp w n noB noB (n - x) x (Um hl x mask) ∧ a + rkM w n hl noB noB (n - x) x mask ((pvR ρ n).drop x) = rkM w n hl noB noB n 0 0 (pvR ρ n)) ?_ (Nat.lt_of_le_of_lt hn (jfuel_n (by decide))) ⟨rfl, rfl, 0, rfl, gM_00 w n, by rw [Um_00]; exact hpm, by rw [List.drop_zero]; exact Int.zero_add _⟩
    rintro x hx a m y L ⟨rfl, rfl, mask, rfl, gm, hmem, es⟩ rec hrec
    by_cases e : x = n
    · subst e
      rw [Nat.sub_self, rkM] at es
      (repeat (first | (with_reducible apply wm_o; focus (simp (disch := omega) only [wr_id, Int.toNat_natCast, Int.reduceToNat, tn_lk, tn_kl, if_pos, if_neg, ↓reduceIte, and_self, and_true, true_and, hce]; with_reducible rfl)) | (with_reducible apply wm_q) | (with_reducible apply wm_c; focus (first | assumption | decide +kernel)) | (with_reducible apply wm_d; focus (simp (disch := omega) only [wr_id, Int.toNat_natCast, Int.reduceToNat, tn_lk, tn_kl, if_pos, if_neg, ↓reduceIte, and_self, and_true, true_and, hce]; with_reducible rfl)) | (with_reducible apply wm_t; focus (first | omega | (simp (disch := omega) only [wr_id, hce]; omega) | (simp (disch := omega) only [wr_id, hce]; done))) | (with_reducible apply wm_f; focus (first | omega | (simp (disch := omega) only [wr_id, hce]; omega) | (simp (disch := omega) only [wr_id, hce]; done)))))
      exact wm_r ⟨by rw [← e0, ← es, Int.add_zero], INV_q hR hC hM jC k1 k2⟩
    · have hxn : x < n := by omega
      have hm64 := gM_64 hw.2 gm
      have hmd := s_maskDown (t := t) (d := d) (rt := rt) k3.1 hm64
      have ha0 := m_acr (t := t) (d := d) (rt := rt) k3.1 kT.1 k2.2.1 kT.2 hxn hm64
      have es1 := shr_1 mask (by omega)
      have ea := mA_b hm64
      have kx := kA x (by omega)
      have hdr : (pvR ρ n).drop x = rwy ρ 18 x :: (pvR ρ n).drop (x + 1) := by
        rw [List.drop_eq_getElem_cons (by rw [pv_len]; omega)]
        congr 1
        have := pv_get (ρ := ρ) hxn
        rw [List.getD_eq_getElem?_getD, List.getElem?_eq_getElem (by rw [pv_len]; omega)] at this
        exact this
      rw [hdr, show n - x = (n - (x + 1)) + 1 by omega] at hmem es
      rw [rkM_s] at es
      rcases Lp_cases hmem with ⟨u1, q, eq, hq⟩ | ⟨u1, u2, q, eq, hq⟩ | ⟨u1, u2, q, eq, hq⟩
      · injection eq with eq1 eq2
        rw [eq1] at es kx
        rw [if_neg (by decide), if_pos (by decide)] at es
        (repeat (first | (with_reducible apply wm_o; focus (simp (disch := omega) only [wr_id, Int.toNat_natCast, Int.reduceToNat, tn_lk, tn_kl, if_pos, if_neg, ↓reduceIte, and_self, and_true, true_and, hce, FM, kx]; with_reducible rfl)) | (with_reducible apply wm_q) | (with_reducible apply wm_c; focus (first | assumption | decide +kernel)) | (with_reducible apply wm_d; focus (simp (disch := omega) only [wr_id, Int.toNat_natCast, Int.reduceToNat, tn_lk, tn_kl, if_pos, if_neg, ↓reduceIte, and_self, and_true, true_and, hce, FM, kx]; with_reducible rfl)) | (with_reducible apply wm_t; focus (first | omega | (simp (disch := omega) only [wr_id, hce, FM, kx]; omega) | (simp (disch := omega) only [wr_id, hce, FM, kx]; done))) | (with_reducible apply wm_f; focus (first | omega | (simp (disch := omega) only [wr_id, hce, FM, kx]; omega) | (simp (disch := omega) only [wr_id, hce, FM, kx]; done)))))
        rw [es1]
        refine hrec (x + 1) _ _ _ _ (by omega) (by omega) ⟨rfl, by omega, mask >>> 1, rfl, gM_s gm, ?_, by omega⟩
        have hlp : Lp w n noB noB (n - (x + 1)) (x + 1) (Um hl (x + 1) (mask >>> 1)) = Lp w n noB noB (n - (x + 1)) (x + 1) (Um hl x mask) := Lp_congr (fun y hy => Um_s hy)
        rw [eq2, hlp]; exact hq
      · injection eq with eq1 eq2
        rw [eq1] at es kx
        rw [if_neg (by decide), if_neg (by decide), if_pos rfl] at es
        (repeat (first | (with_reducible apply wm_o; focus (simp (disch := omega) only [wr_id, Int.toNat_natCast, Int.reduceToNat, tn_lk, tn_kl, if_pos, if_neg, ↓reduceIte, and_self, and_true, true_and, hce, FM, kx]; with_reducible rfl)) | (with_reducible apply wm_q) | (with_reducible apply wm_c; focus (first | assumption | decide +kernel)) | (with_reducible apply wm_d; focus (simp (disch := omega) only [wr_id, Int.toNat_natCast, Int.reduceToNat, tn_lk, tn_kl, if_pos, if_neg, ↓reduceIte, and_self, and_true, true_and, hce, FM, kx]; with_reducible rfl)) | (with_reducible apply wm_t; focus (first | omega | (simp (disch := omega) only [wr_id, hce, FM, kx]; omega) | (simp (disch := omega) only [wr_id, hce, FM, kx]; done))) | (with_reducible apply wm_f; focus (first | omega | (simp (disch := omega) only [wr_id, hce, FM, kx]; omega) | (simp (disch := omega) only [wr_id, hce, FM, kx]; done)))))
        rw [ea]
        refine hrec (x + 1) _ _ _ _ (by omega) (by omega) ⟨rfl, by omega, mA mask, rfl, aM_gM (cl := hl) (na := noB) hr hxn gm (by rw [aM_eq]; exact u2), ?_, by omega⟩
        have hlp : Lp w n noB noB (n - (x + 1)) (x + 1) (Um hl (x + 1) (mA mask)) = Lp w n noB noB (n - (x + 1)) (x + 1) (cov (Um hl x mask) (x + 1)) := Lp_congr (fun y hy => Um_a hy)
        rw [eq2, hlp]; exact hq
      · injection eq with eq1 eq2
        rw [eq1] at es kx
        rw [if_pos rfl, if_neg (by decide), if_neg (by decide)] at es
        (repeat (first | (with_reducible apply wm_o; focus (simp (disch := omega) only [wr_id, Int.toNat_natCast, Int.reduceToNat, tn_lk, tn_kl, if_pos, if_neg, ↓reduceIte, and_self, and_true, true_and, hce, FM, kx, ha0, hmd]; with_reducible rfl)) | (with_reducible apply wm_q) | (with_reducible apply wm_c; focus (first | assumption | decide +kernel)) | (with_reducible apply wm_d; focus (simp (disch := omega) only [wr_id, Int.toNat_natCast, Int.reduceToNat, tn_lk, tn_kl, if_pos, if_neg, ↓reduceIte, and_self, and_true, true_and, hce, FM, kx, ha0, hmd]; with_reducible rfl)) | (with_reducible apply wm_t; focus (first | omega | (simp (disch := omega) only [wr_id, hce, FM, kx, ha0, hmd]; omega) | (simp (disch := omega) only [wr_id, hce, FM, kx, ha0, hmd]; done))) | (with_reducible apply wm_f; focus (first | omega | (simp (disch := omega) only [wr_id, hce, FM, kx, ha0, hmd]; omega) | (simp (disch := omega) only [wr_id, hce, FM, kx, ha0, hmd]; done)))))
        refine hrec (x + 1) _ _ _ _ (by omega) (by omega) ⟨rfl, by omega, mD w mask, rfl, dM_gM (cl := hl) (nd := noB) (by omega) gm (by rw [dM_eq gm.1]; exact u2), ?_, by omega⟩
        have hlp : Lp w n noB noB (n - (x + 1)) (x + 1) (Um hl (x + 1) (mD w mask)) = Lp w n noB noB (n - (x + 1)) (x + 1) (cov (Um hl x mask) (x + w)) := Lp_congr (fun y hy => Um_d (by omega) hy)
        rw [eq2, hlp]; exact hq
  · rw [if_neg z] at hp
    (repeat (first | (with_reducible apply wm_o; focus (simp (disch := omega) only [wr_id, Int.toNat_natCast, Int.reduceToNat, tn_lk, tn_kl, if_pos, if_neg, ↓reduceIte, and_self, and_true, true_and, hp]; with_reducible rfl)) | (with_reducible apply wm_q) | (with_reducible apply wm_c; focus (first | assumption | decide +kernel)) | (with_reducible apply wm_d; focus (simp (disch := omega) only [wr_id, Int.toNat_natCast, Int.reduceToNat, tn_lk, tn_kl, if_pos, if_neg, ↓reduceIte, and_self, and_true, true_and, hp]; with_reducible rfl)) | (with_reducible apply wm_t; focus (first | omega | (simp (disch := omega) only [wr_id, hp]; omega) | (simp (disch := omega) only [wr_id, hp]; done))) | (with_reducible apply wm_f; focus (first | omega | (simp (disch := omega) only [wr_id, hp]; omega) | (simp (disch := omega) only [wr_id, hp]; done)))))
    refine wm_r ?_
    show wm t d rt (f_X12_rank 369 (mm t d rt I)) _
    unfold f_X12_rank
    (repeat (first | (with_reducible apply wm_o; focus (simp (disch := omega) only [wr_id, Int.toNat_natCast, Int.reduceToNat, tn_lk, tn_kl, if_pos, if_neg, ↓reduceIte, and_self, and_true, true_and]; with_reducible rfl)) | (with_reducible apply wm_q) | (with_reducible apply wm_c; focus (first | assumption | decide +kernel)) | (with_reducible apply wm_d; focus (simp (disch := omega) only [wr_id, Int.toNat_natCast, Int.reduceToNat, tn_lk, tn_kl, if_pos, if_neg, ↓reduceIte, and_self, and_true, true_and]; with_reducible rfl)) | (with_reducible apply wm_t; focus (first | omega | (simp (disch := omega) only [wr_id]; omega) | (simp (disch := omega) only [wr_id]; done))) | (with_reducible apply wm_f; focus (first | omega | (simp (disch := omega) only [wr_id]; omega) | (simp (disch := omega) only [wr_id]; done)))))
    refine mod I _ _ (frm_refl _ _) (fun K k1 k2 k3 kT kA => ?_)
    (repeat (first | (with_reducible apply wm_o; focus (simp (disch := omega) only [wr_id, Int.toNat_natCast, Int.reduceToNat, tn_lk, tn_kl, if_pos, if_neg, ↓reduceIte, and_self, and_true, true_and]; with_reducible rfl)) | (with_reducible apply wm_q) | (with_reducible apply wm_c; focus (first | assumption | decide +kernel)) | (with_reducible apply wm_d; focus (simp (disch := omega) only [wr_id, Int.toNat_natCast, Int.reduceToNat, tn_lk, tn_kl, if_pos, if_neg, ↓reduceIte, and_self, and_true, true_and]; with_reducible rfl)) | (with_reducible apply wm_t; focus (first | omega | (simp (disch := omega) only [wr_id]; omega) | (simp (disch := omega) only [wr_id]; done))) | (with_reducible apply wm_f; focus (first | omega | (simp (disch := omega) only [wr_id]; omega) | (simp (disch := omega) only [wr_id]; done)))))
    exact wm_r ⟨rfl, INV_q hR hC hM (frm_refl _ _) k1 k2⟩
end RK
