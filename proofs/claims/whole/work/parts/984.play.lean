/-! ===== calls: lay ===== -/
section PY
variable {t d rt : Nat} {I J K : Nat → Nat → Int} {lv w h n nh s k : Nat} {hl : Nat → Bool} {sd : Int} {ifs : Nat → List LwI} {xs : Nat → List CI} {ρ σ : Nat → Int} {u : Nat} {H : Nat → Nat → Int} {hd : Nat → Bool} {G : Nat → Nat → Int}
theorem stR_paid {v v' : Int} (hv : jd_wr v = jd_wr v') (h' : stR I s w ρ) : stR (up I s 8 v) s w (rSet ρ 73 v') := by
  obtain ⟨h1, h2, h3, h4, h5, h6, h7, h8, h9⟩ := stR_fld (j := 8) (r := 73) (v := v) (Or.inr (Or.inl ⟨rfl, rfl⟩)) h'
  have hc : ∀ x, x ≠ 73 → rSet ρ 73 v' x = rSet ρ 73 v x := fun x hx => by rw [rSet_n hx, rSet_n hx]
  have hc36 : ∀ x, x < 36 → rSet ρ 73 v' x = rSet ρ 73 v x := fun x hx => hc x (by omega)
  refine ⟨fun k hk => ?_, fun k hk q => ?_, h3, fun c hc' => ?_, h5, ?_, ?_, ?_, ?_⟩
  · rw [hc k (by omega)]; exact h1 k hk
  · rw [hc k (by omega)] at q
    rw [hc _ (by omega), hc _ (by omega), hc _ (by omega)]; exact h2 k hk q
  · rw [onI_congr hc36]; exact h4 c hc'
  · rw [rMany_congr hc36]; exact h6
  · rw [hc _ (by omega)]; exact h7
  · rw [h8, rSet_s, rSet_s]; exact hv
  · rw [hc _ (by omega)]; exact h9
theorem c_lay (sq : sqOK w h n nh hl) (c' : cfC I t w h n nh hl sd ifs xs) (hC : stC I w n hl ρ u H hd G) {c : Nat} {way f : Int} (hk : k < 18) (h0 : ρ k = -2) (hf : (f = 1 ∧ way = 0) ∨ (f = 0 ∧ way = 1)) (hok : rOK w n hl (rPut ρ k (c : Int) way)) : wm t d rt (jbd (f_X1_keepForUndo 46 34 (mm t d rt I)) fun _ M11 =>
    (jm_gR 11 4 M11 0).bind fun r12 =>
    jcall 6 M11 r12 (f_X6_put r12 (k : Int) (c : Int) f M11) fun _ M14 =>
    (jm_gR 11 4 M14 0).bind fun r15 =>
    (jm_gI 6 8 M14 r15).bind fun v16 =>
    (jm_gR 11 2 M14 0).bind fun r17 =>
    (jm_gR 8 12 M14 r17).bind fun r18 =>
    (jm_gR 11 4 M14 0).bind fun r19 =>
    (jm_gR 11 2 M14 0).bind fun r20 =>
    (jm_gI 8 3 M14 r20).bind fun v21 =>
    jcall 2 M14 r18 (f_X2_held r18 2 r19 (k : Int) v21 M14) fun v22 M23 =>
    (jm_pI 6 8 M23 r15 (v16 + v22)).bind fun M24 =>
    some ((k : Int), M24)) (fun r J => r = (k : Int) ∧ frm (fun a => scrC a ∨ stS a) I J ∧ ∀ v, jd_wr v = jd_wr (ρ 73 + LV ifs xs w nh (rPut ρ k (c : Int) way) k 2) → stC J w n hl (rSet (rPut ρ k (c : Int) way) 73 v) (min (u + 1) 40) (hCons ρ H) hd G) := by
  have htx := c'.1
  have kl := (tx_k htx).2.1
  have hlt := (tx_k htx).2.2.2
  refine wm_b (c_keep hC) (fun v J hJ => ?_)
  obtain ⟨j1, j2⟩ := hJ
  (repeat (first | (with_reducible apply wm_o; focus (simp (disch := omega) only [wr_id, Int.toNat_natCast, Int.reduceToNat, tn_lk, tn_kl, if_pos, if_neg, ↓reduceIte, and_self, and_true, true_and, FX]; with_reducible rfl)) | (with_reducible apply wm_q) | (with_reducible apply wm_c; focus (first | assumption | decide +kernel)) | (with_reducible apply wm_d; focus (simp (disch := omega) only [wr_id, Int.toNat_natCast, Int.reduceToNat, tn_lk, tn_kl, if_pos, if_neg, ↓reduceIte, and_self, and_true, true_and, FX]; with_reducible rfl)) | (with_reducible apply wm_t; focus (first | omega | (simp (disch := omega) only [wr_id, FX]; omega) | (simp (disch := omega) only [wr_id, FX]; done))) | (with_reducible apply wm_f; focus (first | omega | (simp (disch := omega) only [wr_id, FX]; omega) | (simp (disch := omega) only [wr_id, FX]; done)))))
  refine wm_b (w_put now_in ⟨sq.1, sq.2.1⟩ sq.2.2.2.2.2.2.1 sq.2.2.2.2.1 j2.1 j2.2.1 hk h0 hf hok) (fun v2 J2 hJ2 => ?_)
  obtain ⟨p1, p2⟩ := hJ2
  have f2 : frm (fun a => scrC a ∨ stS a) I J2 := frm_trans j1 (frm_sub p1 (fun a ha => Or.inr (by unfold stF at ha; unfold stS; omega)))
  have ht : t = 3 ∨ t = 16 := by simpa using htx
  have c2 := cfC_frm f2 (fun a a1 a2 => by unfold scrC stS; omega) c'
  have c5 := c2.2.2.2.2.1
  have hC2 := stC_now j2 p1 hok p2
  (repeat (first | (with_reducible apply wm_o; focus (simp (disch := omega) only [wr_id, Int.toNat_natCast, Int.reduceToNat, tn_lk, tn_kl, if_pos, if_neg, ↓reduceIte, and_self, and_true, true_and, FX, FState now_in, FText htx, c5]; with_reducible rfl)) | (with_reducible apply wm_q) | (with_reducible apply wm_c; focus (first | assumption | decide +kernel)) | (with_reducible apply wm_d; focus (simp (disch := omega) only [wr_id, Int.toNat_natCast, Int.reduceToNat, tn_lk, tn_kl, if_pos, if_neg, ↓reduceIte, and_self, and_true, true_and, FX, FState now_in, FText htx, c5]; with_reducible rfl)) | (with_reducible apply wm_t; focus (first | omega | (simp (disch := omega) only [wr_id, FX, FState now_in, FText htx, c5]; omega) | (simp (disch := omega) only [wr_id, FX, FState now_in, FText htx, c5]; done))) | (with_reducible apply wm_f; focus (first | omega | (simp (disch := omega) only [wr_id, FX, FState now_in, FText htx, c5]; omega) | (simp (disch := omega) only [wr_id, FX, FState now_in, FText htx, c5]; done)))))
  refine wm_b (c_held (q := 2) sq c2 now_in hok p2 hk (by rw [rPut_k]; omega) (by decide)) (fun v3 J3 hJ3 => ?_)
  obtain ⟨q1, q2⟩ := hJ3
  (repeat (first | (with_reducible apply wm_o; focus (simp (disch := omega) only [wr_id, Int.toNat_natCast, Int.reduceToNat, tn_lk, tn_kl, if_pos, if_neg, ↓reduceIte, and_self, and_true, true_and, FState now_in]; with_reducible rfl)) | (with_reducible apply wm_q) | (with_reducible apply wm_c; focus (first | assumption | decide +kernel)) | (with_reducible apply wm_d; focus (simp (disch := omega) only [wr_id, Int.toNat_natCast, Int.reduceToNat, tn_lk, tn_kl, if_pos, if_neg, ↓reduceIte, and_self, and_true, true_and, FState now_in]; with_reducible rfl)) | (with_reducible apply wm_t; focus (first | omega | (simp (disch := omega) only [wr_id, FState now_in]; omega) | (simp (disch := omega) only [wr_id, FState now_in]; done))) | (with_reducible apply wm_f; focus (first | omega | (simp (disch := omega) only [wr_id, FState now_in]; omega) | (simp (disch := omega) only [wr_id, FState now_in]; done)))))
  refine wm_r ⟨rfl, frm_up (frm_trans f2 (frm_sub q2 (fun a ha => Or.inl (scr_12 htx a ha)))) (Or.inr (by unfold stS; omega)), fun v hv => ?_⟩
  have hC3 : stC J3 w n hl (rPut ρ k (c : Int) way) (min (u + 1) 40) (hCons ρ H) hd G := stC_frm q2 (fun a ha => by unfold stS at ha; omega) hC2
  have e8 : jd_wr (J2 34 8) = jd_wr (ρ 73) := by rw [p2.2.2.2.2.2.2.2.1, rPut_n (by omega)]
  have lb := LV_b (ifs := ifs) (xs := xs) (w := w) (nh := nh) (ρ := rPut ρ k (c : Int) way) (k := k) 2
  have ew : jd_wr (J2 34 8 + v3) = jd_wr v := by
    rw [hv, wr_add, e8, q1, wr_add (ρ 73), wr_id (x := LV ifs xs w nh (rPut ρ k (c : Int) way) k 2) (by omega) (by omega)]
  refine stC_now hC3 (frm_up (frm_refl _ _) stF_0) (rOK_set72 hok (by omega) _) (stR_paid ew hC3.2.1)
def lyB (x1 x2 : Int) : (Int → jMem → Option (Int × jMem)) → Int → jMem → Option (Int × jMem) :=
(fun rec_48 (y3_48 : Int) (M_48 : jMem) =>
jcall 12 M_48 369 (f_X12_lies 369 y3_48 M_48) fun v13 M14 =>
if jd_wr v13 = 0 then (jcall 12 M14 369 (f_X12_laid 369 y3_48 x1 x2 M14) fun _ M16 =>
(jm_gR 12 48 M16 369).bind fun r17 =>
(jm_ld 20 M16 r17 73).bind fun v18 =>
jcall 12 M16 369 (f_X12_tellsOf 369 y3_48 2 0 99 M16) fun v19 M20 =>
(jm_st 20 M20 r17 73 (v18 + v19)).bind fun M21 =>
jcall 12 M21 369 (f_X12_records 369 M21) fun _ M23 =>
some (y3_48, M23))
else (rec_48 (y3_48 + 1) M14))
theorem m_lay (c' : cfM I lv w h n nh hl sd ifs xs) (hn : n ≤ 36) (hr : rOK w n hl ρ) (hM : stM I ρ u H hd G) (hz : zM I) (h1 : I 401 = ρ) {c : Nat} {way : Int} (hk : k < 18) (h0 : ρ k = -2) (hlt : ∀ j, j < k → 0 ≤ ρ j) (hok : rOK w n hl (rPut ρ k (c : Int) way)) : wm t d rt (jlp2 (lyB (c : Int) way) jfuel 0 (mm t d rt I)) (fun r L => r = (k : Int) ∧ frM (fun a => scrM a ∨ stMS a) (fun j => scrF j ∨ j = 53) I L ∧ zM L ∧ ∃ v, jd_wr v = jd_wr (ρ 73 + LV ifs xs w nh (rPut ρ k (c : Int) way) k 2) ∧ stM L (rSet (rPut ρ k (c : Int) way) 73 v) (min (u + 1) 40) (hCons ρ H) hd G) := by
  have hv := vRow_of hr hn
  refine wm_lp2 k (fun i y J => y = (i : Int) ∧ J = I) ?_ (Nat.lt_trans hk (jfuel_n (by decide))) ⟨rfl, rfl⟩
  rintro i hi y J ⟨rfl, rfl⟩ rec hrec
  have hli := s_lies (t := t) (d := d) (rt := rt) (I := J) (k := i) (by rw [h1]; exact hv) (by omega)
  rw [h1] at hli
  unfold lyB
  by_cases e : i = k
  · subst e
    rw [if_neg (by unfold rLies; rw [h0]; decide)] at hli
    (repeat (first | (with_reducible apply wm_o; focus (simp (disch := omega) only [wr_id, Int.toNat_natCast, Int.reduceToNat, tn_lk, tn_kl, if_pos, if_neg, ↓reduceIte, and_self, and_true, true_and, hli]; with_reducible rfl)) | (with_reducible apply wm_q) | (with_reducible apply wm_c; focus (first | assumption | decide +kernel)) | (with_reducible apply wm_d; focus (simp (disch := omega) only [wr_id, Int.toNat_natCast, Int.reduceToNat, tn_lk, tn_kl, if_pos, if_neg, ↓reduceIte, and_self, and_true, true_and, hli]; with_reducible rfl)) | (with_reducible apply wm_t; focus (first | omega | (simp (disch := omega) only [wr_id, hli]; omega) | (simp (disch := omega) only [wr_id, hli]; done))) | (with_reducible apply wm_f; focus (first | omega | (simp (disch := omega) only [wr_id, hli]; omega) | (simp (disch := omega) only [wr_id, hli]; done)))))
    refine wm_b (m_laid hk) (fun v K hK => ?_)
    obtain ⟨k1, k2⟩ := hK
    rw [h1] at k2
    have k1' : frM scrM scrF J K := frM_sub k1 (fun a ha => by unfold scrM; omega) (fun a ha => ha.elim)
    have cK := cfM_frm k1' (fun a _ _ _ _ _ _ _ _ => by unfold scrM; omega) (by unfold scrF; omega) c'
    have e73 : K 401 73 = ρ 73 := by rw [k2, rPut_n (by omega)]
    (repeat (first | (with_reducible apply wm_o; focus (simp (disch := omega) only [wr_id, Int.toNat_natCast, Int.reduceToNat, tn_lk, tn_kl, if_pos, if_neg, ↓reduceIte, and_self, and_true, true_and, FM, e73]; with_reducible rfl)) | (with_reducible apply wm_q) | (with_reducible apply wm_c; focus (first | assumption | decide +kernel)) | (with_reducible apply wm_d; focus (simp (disch := omega) only [wr_id, Int.toNat_natCast, Int.reduceToNat, tn_lk, tn_kl, if_pos, if_neg, ↓reduceIte, and_self, and_true, true_and, FM, e73]; with_reducible rfl)) | (with_reducible apply wm_t; focus (first | omega | (simp (disch := omega) only [wr_id, FM, e73]; omega) | (simp (disch := omega) only [wr_id, FM, e73]; done))) | (with_reducible apply wm_f; focus (first | omega | (simp (disch := omega) only [wr_id, FM, e73]; omega) | (simp (disch := omega) only [wr_id, FM, e73]; done)))))
    refine wm_b (m_tells (q := 2) cK hok k2 hk (by rw [rPut_k]; omega) (by decide) rfl rfl) (fun v2 K2 hK2 => ?_)
    obtain ⟨l1, l2⟩ := hK2
    (repeat (first | (with_reducible apply wm_o; focus (simp (disch := omega) only [wr_id, Int.toNat_natCast, Int.reduceToNat, tn_lk, tn_kl, if_pos, if_neg, ↓reduceIte, and_self, and_true, true_and, FM]; with_reducible rfl)) | (with_reducible apply wm_q) | (with_reducible apply wm_c; focus (first | assumption | decide +kernel)) | (with_reducible apply wm_d; focus (simp (disch := omega) only [wr_id, Int.toNat_natCast, Int.reduceToNat, tn_lk, tn_kl, if_pos, if_neg, ↓reduceIte, and_self, and_true, true_and, FM]; with_reducible rfl)) | (with_reducible apply wm_t; focus (first | omega | (simp (disch := omega) only [wr_id, FM]; omega) | (simp (disch := omega) only [wr_id, FM]; done))) | (with_reducible apply wm_f; focus (first | omega | (simp (disch := omega) only [wr_id, FM]; omega) | (simp (disch := omega) only [wr_id, FM]; done)))))
    have K2401 : up K2 401 73 (ρ 73 + v2) 401 = rSet (rPut ρ i (c : Int) way) 73 (ρ 73 + v2) := by rw [up_row, l2.1 401 (by decide) (by omega), k2]
    have lf : frM scrM scrF J (up K2 401 73 (ρ 73 + v2)) := frM_up (frM_trans k1' (frM_lw l2)) (by decide) (by unfold scrM; omega)
    have hzr : ∀ j, 75 ≤ j → rSet (rPut ρ i (c : Int) way) 73 (ρ 73 + v2) j = 0 := fun j hj => by rw [rSet_n (by omega)]; exact rPut_z hk hM.2.1 j hj
    refine wm_b (m_rec (stM_q lf hM) K2401 hzr) (fun v4 K3 hK3 => ?_)
    obtain ⟨e1, e2⟩ := hK3
    have lb := LV_b (ifs := ifs) (xs := xs) (w := w) (nh := nh) (ρ := rPut ρ i (c : Int) way) (k := i) 2
    refine wm_r ⟨rfl, frM_trans (frM_sub lf (fun a ha => Or.inl ha) (fun a ha => Or.inl ha)) (frM_sub e1 (fun a ha => Or.inr ha) (fun a ha => Or.inr ha)), zM_st ⟨by rw [K2401]; exact hzr, ?_, ?_⟩ e1, ρ 73 + v2, ?_, e2⟩
    · unfold b01; rw [up_ne (by decide), l2.1 409 (by decide) (by omega), k1.1 409 (by decide) (by decide)]; exact hz.2.1
    · unfold b01; rw [up_ne (by decide), l2.1 410 (by decide) (by omega), k1.1 410 (by decide) (by decide)]; exact hz.2.2
    · rw [wr_add, l1, wr_add (ρ 73), wr_id (x := LV ifs xs w nh (rPut ρ i (c : Int) way) i 2) (by omega) (by omega)]
  · rw [if_pos (by unfold rLies; exact decide_eq_true (hlt i (by omega)))] at hli
    (repeat (first | (with_reducible apply wm_o; focus (simp (disch := omega) only [wr_id, Int.toNat_natCast, Int.reduceToNat, tn_lk, tn_kl, if_pos, if_neg, ↓reduceIte, and_self, and_true, true_and, hli]; with_reducible rfl)) | (with_reducible apply wm_q) | (with_reducible apply wm_c; focus (first | assumption | decide +kernel)) | (with_reducible apply wm_d; focus (simp (disch := omega) only [wr_id, Int.toNat_natCast, Int.reduceToNat, tn_lk, tn_kl, if_pos, if_neg, ↓reduceIte, and_self, and_true, true_and, hli]; with_reducible rfl)) | (with_reducible apply wm_t; focus (first | omega | (simp (disch := omega) only [wr_id, hli]; omega) | (simp (disch := omega) only [wr_id, hli]; done))) | (with_reducible apply wm_f; focus (first | omega | (simp (disch := omega) only [wr_id, hli]; omega) | (simp (disch := omega) only [wr_id, hli]; done)))))
    exact hrec (i + 1) _ _ (by omega) (by omega) ⟨by omega, rfl⟩
end PY
