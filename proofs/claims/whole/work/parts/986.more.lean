/-! ===== calls: more ===== -/
def blV (w c : Nat) : Int := if (c / w + c % w) % 2 = 0 then 1 else -1
section PM
variable {t d rt : Nat} {I J K : Nat → Nat → Int} {lv w h n nh s k : Nat} {hl : Nat → Bool} {sd : Int} {ifs : Nat → List LwI} {xs : Nat → List CI} {ρ σ : Nat → Int} {u : Nat} {H : Nat → Nat → Int} {hd : Nat → Bool} {G : Nat → Nat → Int}
theorem c_more (sq : sqOK w h n nh hl) (c' : cfC I t w h n nh hl sd ifs xs) (hst : stR I 34 w ρ) : f_X11_more 0 (mm t d rt I) = some (sumF (fun c => frB w n hl ρ (c : Int)) (blV w) n, mm t d rt I) := by
  have hn := sq.2.2.2.2.2.2.1
  have kt := (tx_k c'.1).1
  have hce := q_cells (d := d) (rt := rt) sq c'
  refine wm_eq ?_
  unfold f_X11_more
  refine wm_lp3 n (fun i a y J => a = sumF (fun c => frB w n hl ρ (c : Int)) (blV w) i ∧ y = (i : Int) ∧ J = I) ?_ (Nat.lt_of_le_of_lt hn (jfuel_n (by decide))) ⟨rfl, rfl, rfl⟩
  rintro i hi a y J ⟨rfl, rfl, rfl⟩ rec hrec
  by_cases e : i = n
  · subst e
    (repeat (first | (with_reducible apply wm_o; focus (simp (disch := omega) only [wr_id, Int.toNat_natCast, Int.reduceToNat, tn_lk, tn_kl, if_pos, if_neg, ↓reduceIte, and_self, and_true, true_and, FX, hce]; with_reducible rfl)) | (with_reducible apply wm_q) | (with_reducible apply wm_c; focus (first | assumption | decide +kernel)) | (with_reducible apply wm_d; focus (simp (disch := omega) only [wr_id, Int.toNat_natCast, Int.reduceToNat, tn_lk, tn_kl, if_pos, if_neg, ↓reduceIte, and_self, and_true, true_and, FX, hce]; with_reducible rfl)) | (with_reducible apply wm_t; focus (first | omega | (simp (disch := omega) only [wr_id, FX, hce]; omega) | (simp (disch := omega) only [wr_id, FX, hce]; done))) | (with_reducible apply wm_f; focus (first | omega | (simp (disch := omega) only [wr_id, FX, hce]; omega) | (simp (disch := omega) only [wr_id, FX, hce]; done)))))
    exact wm_r ⟨rfl, rfl⟩
  · have hi2 : i < n := by omega
    have hq := q_isFree (d := d) (rt := rt) (x := (i : Int)) sq c' hst (i32 (by omega) (by omega))
    have hb := q_isBlack (d := d) (rt := rt) sq c' hi2
    by_cases z : frB w n hl ρ (i : Int) = true
    · rw [if_pos z] at hq
      by_cases zb : (i / w + i % w) % 2 = 0
      · rw [if_pos zb] at hb
        have es : sumF (fun c => frB w n hl ρ (c : Int)) (blV w) (i + 1) = sumF (fun c => frB w n hl ρ (c : Int)) (blV w) i + 1 := by
          rw [sumF, if_pos z, blV, if_pos zb]
        (repeat (first | (with_reducible apply wm_o; focus (simp (disch := omega) only [wr_id, Int.toNat_natCast, Int.reduceToNat, tn_lk, tn_kl, if_pos, if_neg, ↓reduceIte, and_self, and_true, true_and, FX, hce, hq, hb]; with_reducible rfl)) | (with_reducible apply wm_q) | (with_reducible apply wm_c; focus (first | assumption | decide +kernel)) | (with_reducible apply wm_d; focus (simp (disch := omega) only [wr_id, Int.toNat_natCast, Int.reduceToNat, tn_lk, tn_kl, if_pos, if_neg, ↓reduceIte, and_self, and_true, true_and, FX, hce, hq, hb]; with_reducible rfl)) | (with_reducible apply wm_t; focus (first | omega | (simp (disch := omega) only [wr_id, FX, hce, hq, hb]; omega) | (simp (disch := omega) only [wr_id, FX, hce, hq, hb]; done))) | (with_reducible apply wm_f; focus (first | omega | (simp (disch := omega) only [wr_id, FX, hce, hq, hb]; omega) | (simp (disch := omega) only [wr_id, FX, hce, hq, hb]; done)))))
        exact hrec (i + 1) _ _ _ (by omega) (by omega) ⟨es.symm, by omega, rfl⟩
      · rw [if_neg zb] at hb
        have es : sumF (fun c => frB w n hl ρ (c : Int)) (blV w) (i + 1) = sumF (fun c => frB w n hl ρ (c : Int)) (blV w) i + (-1) := by
          rw [sumF, if_pos z, blV, if_neg zb]
        (repeat (first | (with_reducible apply wm_o; focus (simp (disch := omega) only [wr_id, Int.toNat_natCast, Int.reduceToNat, tn_lk, tn_kl, if_pos, if_neg, ↓reduceIte, and_self, and_true, true_and, FX, hce, hq, hb]; with_reducible rfl)) | (with_reducible apply wm_q) | (with_reducible apply wm_c; focus (first | assumption | decide +kernel)) | (with_reducible apply wm_d; focus (simp (disch := omega) only [wr_id, Int.toNat_natCast, Int.reduceToNat, tn_lk, tn_kl, if_pos, if_neg, ↓reduceIte, and_self, and_true, true_and, FX, hce, hq, hb]; with_reducible rfl)) | (with_reducible apply wm_t; focus (first | omega | (simp (disch := omega) only [wr_id, FX, hce, hq, hb]; omega) | (simp (disch := omega) only [wr_id, FX, hce, hq, hb]; done))) | (with_reducible apply wm_f; focus (first | omega | (simp (disch := omega) only [wr_id, FX, hce, hq, hb]; omega) | (simp (disch := omega) only [wr_id, FX, hce, hq, hb]; done)))))
        exact hrec (i + 1) _ _ _ (by omega) (by omega) ⟨es.symm, by omega, rfl⟩
    · rw [if_neg z] at hq
      have es : sumF (fun c => frB w n hl ρ (c : Int)) (blV w) (i + 1) = sumF (fun c => frB w n hl ρ (c : Int)) (blV w) i := by
        rw [sumF, if_neg z]
      (repeat (first | (with_reducible apply wm_o; focus (simp (disch := omega) only [wr_id, Int.toNat_natCast, Int.reduceToNat, tn_lk, tn_kl, if_pos, if_neg, ↓reduceIte, and_self, and_true, true_and, FX, hce, hq]; with_reducible rfl)) | (with_reducible apply wm_q) | (with_reducible apply wm_c; focus (first | assumption | decide +kernel)) | (with_reducible apply wm_d; focus (simp (disch := omega) only [wr_id, Int.toNat_natCast, Int.reduceToNat, tn_lk, tn_kl, if_pos, if_neg, ↓reduceIte, and_self, and_true, true_and, FX, hce, hq]; with_reducible rfl)) | (with_reducible apply wm_t; focus (first | omega | (simp (disch := omega) only [wr_id, FX, hce, hq]; omega) | (simp (disch := omega) only [wr_id, FX, hce, hq]; done))) | (with_reducible apply wm_f; focus (first | omega | (simp (disch := omega) only [wr_id, FX, hce, hq]; omega) | (simp (disch := omega) only [wr_id, FX, hce, hq]; done)))))
      exact hrec (i + 1) _ _ _ (by omega) (by omega) ⟨es.symm, by omega, rfl⟩
theorem P_more (hI : INV t d rt I) : both t d rt (f_X11_more 0 (mm t d rt I)) (fun M => f_X12_more 369 M) := by
  obtain ⟨lv, w, h, n, nh, hl, sd, ifs, xs, hR, ρ, u, H, hd, G, hC, hM⟩ := hI
  have hcf := hR.2.2.1
  have hmf := hR.2.2.2.1
  have hz := hR.2.2.2.2.2.2.2.2.2
  have sq := hR.2.1
  have hn := sq.2.2.2.2.2.2.1
  have hv := vRow_of hC.1 hn
  unfold both
  rw [c_more sq hcf hC.2.1]
  refine wm_r ?_
  show wm t d rt (f_X12_more 369 (mm t d rt I)) _
  unfold f_X12_more
  (repeat (first | (with_reducible apply wm_o; focus (simp (disch := omega) only [wr_id, Int.toNat_natCast, Int.reduceToNat, tn_lk, tn_kl, if_pos, if_neg, ↓reduceIte, and_self, and_true, true_and]; with_reducible rfl)) | (with_reducible apply wm_q) | (with_reducible apply wm_c; focus (first | assumption | decide +kernel)) | (with_reducible apply wm_d; focus (simp (disch := omega) only [wr_id, Int.toNat_natCast, Int.reduceToNat, tn_lk, tn_kl, if_pos, if_neg, ↓reduceIte, and_self, and_true, true_and]; with_reducible rfl)) | (with_reducible apply wm_t; focus (first | omega | (simp (disch := omega) only [wr_id]; omega) | (simp (disch := omega) only [wr_id]; done))) | (with_reducible apply wm_f; focus (first | omega | (simp (disch := omega) only [wr_id]; omega) | (simp (disch := omega) only [wr_id]; done)))))
  refine wm_b (m_cop hmf hz hM.1 hM.2.1) (fun v' K hK => ?_)
  obtain ⟨k1, k2, k3, k4, k5⟩ := hK
  have hce := s_cells (t := t) (d := d) (rt := rt) k3.1
  refine wm_lp3 n (fun i a y J => a = sumF (fun c => frB w n hl ρ (c : Int)) (blV w) i ∧ y = (i : Int) ∧ J = K) ?_ (Nat.lt_of_le_of_lt hn (jfuel_n (by decide))) ⟨rfl, rfl, rfl⟩
  rintro i hi a y J ⟨rfl, rfl, rfl⟩ rec hrec
  by_cases e : i = n
  · subst e
    (repeat (first | (with_reducible apply wm_o; focus (simp (disch := omega) only [wr_id, Int.toNat_natCast, Int.reduceToNat, tn_lk, tn_kl, if_pos, if_neg, ↓reduceIte, and_self, and_true, true_and, hce]; with_reducible rfl)) | (with_reducible apply wm_q) | (with_reducible apply wm_c; focus (first | assumption | decide +kernel)) | (with_reducible apply wm_d; focus (simp (disch := omega) only [wr_id, Int.toNat_natCast, Int.reduceToNat, tn_lk, tn_kl, if_pos, if_neg, ↓reduceIte, and_self, and_true, true_and, hce]; with_reducible rfl)) | (with_reducible apply wm_t; focus (first | omega | (simp (disch := omega) only [wr_id, hce]; omega) | (simp (disch := omega) only [wr_id, hce]; done))) | (with_reducible apply wm_f; focus (first | omega | (simp (disch := omega) only [wr_id, hce]; omega) | (simp (disch := omega) only [wr_id, hce]; done)))))
    exact wm_r ⟨rfl, INV_q hR hC hM (frm_refl _ _) k1 k2⟩
  · have hi2 : i < n := by omega
    have hq := m_isFree (t := t) (d := d) (rt := rt) (x := (i : Int)) k3.1 k3.2.2.2.1 (by rw [k4]; exact hv) (i32 (by omega) (by omega))
    rw [k4] at hq
    have hb := m_isBlack (t := t) (d := d) (rt := rt) k3.1 hi2
    by_cases z : frB w n hl ρ (i : Int) = true
    · rw [if_pos z] at hq
      by_cases zb : (i / w + i % w) % 2 = 0
      · rw [if_pos zb] at hb
        have es : sumF (fun c => frB w n hl ρ (c : Int)) (blV w) (i + 1) = sumF (fun c => frB w n hl ρ (c : Int)) (blV w) i + 1 := by
          rw [sumF, if_pos z, blV, if_pos zb]
        (repeat (first | (with_reducible apply wm_o; focus (simp (disch := omega) only [wr_id, Int.toNat_natCast, Int.reduceToNat, tn_lk, tn_kl, if_pos, if_neg, ↓reduceIte, and_self, and_true, true_and, hce, hq, hb]; with_reducible rfl)) | (with_reducible apply wm_q) | (with_reducible apply wm_c; focus (first | assumption | decide +kernel)) | (with_reducible apply wm_d; focus (simp (disch := omega) only [wr_id, Int.toNat_natCast, Int.reduceToNat, tn_lk, tn_kl, if_pos, if_neg, ↓reduceIte, and_self, and_true, true_and, hce, hq, hb]; with_reducible rfl)) | (with_reducible apply wm_t; focus (first | omega | (simp (disch := omega) only [wr_id, hce, hq, hb]; omega) | (simp (disch := omega) only [wr_id, hce, hq, hb]; done))) | (with_reducible apply wm_f; focus (first | omega | (simp (disch := omega) only [wr_id, hce, hq, hb]; omega) | (simp (disch := omega) only [wr_id, hce, hq, hb]; done)))))
        exact hrec (i + 1) _ _ _ (by omega) (by omega) ⟨es.symm, by omega, rfl⟩
      · rw [if_neg zb] at hb
        have es : sumF (fun c => frB w n hl ρ (c : Int)) (blV w) (i + 1) = sumF (fun c => frB w n hl ρ (c : Int)) (blV w) i + (-1) := by
          rw [sumF, if_pos z, blV, if_neg zb]
        (repeat (first | (with_reducible apply wm_o; focus (simp (disch := omega) only [wr_id, Int.toNat_natCast, Int.reduceToNat, tn_lk, tn_kl, if_pos, if_neg, ↓reduceIte, and_self, and_true, true_and, hce, hq, hb]; with_reducible rfl)) | (with_reducible apply wm_q) | (with_reducible apply wm_c; focus (first | assumption | decide +kernel)) | (with_reducible apply wm_d; focus (simp (disch := omega) only [wr_id, Int.toNat_natCast, Int.reduceToNat, tn_lk, tn_kl, if_pos, if_neg, ↓reduceIte, and_self, and_true, true_and, hce, hq, hb]; with_reducible rfl)) | (with_reducible apply wm_t; focus (first | omega | (simp (disch := omega) only [wr_id, hce, hq, hb]; omega) | (simp (disch := omega) only [wr_id, hce, hq, hb]; done))) | (with_reducible apply wm_f; focus (first | omega | (simp (disch := omega) only [wr_id, hce, hq, hb]; omega) | (simp (disch := omega) only [wr_id, hce, hq, hb]; done)))))
        exact hrec (i + 1) _ _ _ (by omega) (by omega) ⟨es.symm, by omega, rfl⟩
    · rw [if_neg z] at hq
      have es : sumF (fun c => frB w n hl ρ (c : Int)) (blV w) (i + 1) = sumF (fun c => frB w n hl ρ (c : Int)) (blV w) i := by
        rw [sumF, if_neg z]
      (repeat (first | (with_reducible apply wm_o; focus (simp (disch := omega) only [wr_id, Int.toNat_natCast, Int.reduceToNat, tn_lk, tn_kl, if_pos, if_neg, ↓reduceIte, and_self, and_true, true_and, hce, hq]; with_reducible rfl)) | (with_reducible apply wm_q) | (with_reducible apply wm_c; focus (first | assumption | decide +kernel)) | (with_reducible apply wm_d; focus (simp (disch := omega) only [wr_id, Int.toNat_natCast, Int.reduceToNat, tn_lk, tn_kl, if_pos, if_neg, ↓reduceIte, and_self, and_true, true_and, hce, hq]; with_reducible rfl)) | (with_reducible apply wm_t; focus (first | omega | (simp (disch := omega) only [wr_id, hce, hq]; omega) | (simp (disch := omega) only [wr_id, hce, hq]; done))) | (with_reducible apply wm_f; focus (first | omega | (simp (disch := omega) only [wr_id, hce, hq]; omega) | (simp (disch := omega) only [wr_id, hce, hq]; done)))))
      exact hrec (i + 1) _ _ _ (by omega) (by omega) ⟨es.symm, by omega, rfl⟩
end PM
