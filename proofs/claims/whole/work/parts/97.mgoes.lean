/-! ===== the model's seasons ===== -/
section MG
variable {t d rt : Nat} {I J K : Nat → Nat → Int} {lv w h n nh s k : Nat} {hl : Nat → Bool} {sd : Int} {ifs : Nat → List LwI} {xs : Nat → List CI} {ρ σ : Nat → Int}
theorem m_tells (c : cfM I lv w h n nh hl sd ifs xs) (hr : rOK w n hl ρ) (h1 : I 401 = ρ) (hk : k < 18) (h0 : 0 ≤ ρ k) {q : Nat} (hq : q < 3) {pl most : Int} (hp : pl = plV q) (hm : most = if q = 1 then 100 else 99) : wm t d rt (f_X12_tellsOf 369 (k : Int) (q : Int) pl most (mm t d rt I)) (fun r J => jd_wr r = LV ifs xs w nh ρ k q ∧ frM (fun a => a = 398 ∨ a = 399) (fun j => j = 46) I J) := by
  subst hp hm
  have q1 := w_tellsOf (t := t) (d := d) (rt := rt) (most := if q = 1 then 100 else 99) c.1 (by rw [h1]; exact hr) c.2.1 hk (by rw [h1]; exact h0) hq (by split <;> simp) (c.2.2.2.2 q hq)
  rw [h1] at q1
  exact q1
theorem m_asks (c : cfM I lv w h n nh hl sd ifs xs) (hr : rOK w n hl ρ) (h1 : I 401 = ρ) (hk : k < 18) (h0 : 0 ≤ ρ k) : wm t d rt (f_X12_asksOf 369 (k : Int) (mm t d rt I)) (fun r J => jd_wr r = LV ifs xs w nh ρ k 0 ∧ frM (fun a => a = 398 ∨ a = 399) (fun j => j = 46) I J) := by
  unfold f_X12_asksOf
  (repeat (first | (with_reducible apply wm_o; focus (simp (disch := omega) only [wr_id, Int.toNat_natCast, Int.reduceToNat, tn_lk, tn_kl, if_pos, if_neg, ↓reduceIte, and_self, and_true, true_and]; with_reducible rfl)) | (with_reducible apply wm_q) | (with_reducible apply wm_c; focus (first | assumption | decide +kernel)) | (with_reducible apply wm_d; focus (simp (disch := omega) only [wr_id, Int.toNat_natCast, Int.reduceToNat, tn_lk, tn_kl, if_pos, if_neg, ↓reduceIte, and_self, and_true, true_and]; with_reducible rfl)) | (with_reducible apply wm_t; focus (first | omega | (simp (disch := omega) only [wr_id]; omega) | (simp (disch := omega) only [wr_id]; done))) | (with_reducible apply wm_f; focus (first | omega | (simp (disch := omega) only [wr_id]; omega) | (simp (disch := omega) only [wr_id]; done)))))
  exact wm_b (m_tells (q := 0) c hr h1 hk h0 (by decide) rfl rfl) (fun v J hJ => wm_r hJ)
theorem m_loosens (c : cfM I lv w h n nh hl sd ifs xs) (hr : rOK w n hl ρ) (h1 : I 401 = ρ) (hk : k < 18) (h0 : 0 ≤ ρ k) : wm t d rt (f_X12_loosensOf 369 (k : Int) (mm t d rt I)) (fun r J => jd_wr r = LV ifs xs w nh ρ k 1 ∧ frM (fun a => a = 398 ∨ a = 399) (fun j => j = 46) I J) := by
  unfold f_X12_loosensOf
  (repeat (first | (with_reducible apply wm_o; focus (simp (disch := omega) only [wr_id, Int.toNat_natCast, Int.reduceToNat, tn_lk, tn_kl, if_pos, if_neg, ↓reduceIte, and_self, and_true, true_and]; with_reducible rfl)) | (with_reducible apply wm_q) | (with_reducible apply wm_c; focus (first | assumption | decide +kernel)) | (with_reducible apply wm_d; focus (simp (disch := omega) only [wr_id, Int.toNat_natCast, Int.reduceToNat, tn_lk, tn_kl, if_pos, if_neg, ↓reduceIte, and_self, and_true, true_and]; with_reducible rfl)) | (with_reducible apply wm_t; focus (first | omega | (simp (disch := omega) only [wr_id]; omega) | (simp (disch := omega) only [wr_id]; done))) | (with_reducible apply wm_f; focus (first | omega | (simp (disch := omega) only [wr_id]; omega) | (simp (disch := omega) only [wr_id]; done)))))
  exact wm_b (m_tells (q := 1) c hr h1 hk h0 (by decide) rfl rfl) (fun v J hJ => wm_r hJ)
theorem m_lotOf {b sd' : Int} (h49 : I 369 49 = sd') : f_X12_lotOf 369 b (mm t d rt I) = some (lotF sd' b, mm t d rt I) := by
  refine wm_eq ?_
  unfold f_X12_lotOf f_X12_mixed
  have e : jm_rm (jd_ushr (mixF (mixF sd' 169) b) 1) 100 = some (lotF sd' b) := by
    unfold jm_rm
    rw [if_neg (by rw [wr_100]; decide)]
    rfl
  (repeat (first | (with_reducible apply wm_o; focus (simp (disch := omega) only [wr_id, Int.toNat_natCast, Int.reduceToNat, tn_lk, tn_kl, if_pos, if_neg, ↓reduceIte, and_self, and_true, true_and, FM, h49]; with_reducible rfl)) | (with_reducible apply wm_q) | (with_reducible apply wm_c; focus (first | assumption | decide +kernel)) | (with_reducible apply wm_d; focus (simp (disch := omega) only [wr_id, Int.toNat_natCast, Int.reduceToNat, tn_lk, tn_kl, if_pos, if_neg, ↓reduceIte, and_self, and_true, true_and, FM, h49]; with_reducible rfl)) | (with_reducible apply wm_t; focus (first | omega | (simp (disch := omega) only [wr_id, FM, h49]; omega) | (simp (disch := omega) only [wr_id, FM, h49]; done))) | (with_reducible apply wm_f; focus (first | omega | (simp (disch := omega) only [wr_id, FM, h49]; omega) | (simp (disch := omega) only [wr_id, FM, h49]; done)))))
  refine wm_d rfl (wm_d rfl ?_)
  refine wm_o e ?_
  exact wm_r ⟨rfl, rfl⟩
theorem agS_at (L : Nat → Bool) (ρ : Nat → Int) : ∀ m j, m ≤ j → j < 18 → agS L ρ m j = ρ j
  | 0, _, _, _ => rfl
  | m + 1, j, h1, h2 => by
    have ih := agS_at L ρ m j (by omega) h2
    rw [agS_s]
    split
    · split
      · rw [rSet_n (by omega), rPut_n (by omega)]; exact ih
      · rw [rSet_n (by omega)]; exact ih
    · exact ih
theorem agS_z {L : Nat → Bool} {ρ : Nat → Int} (hz : ∀ j, 75 ≤ j → ρ j = 0) : ∀ m, m ≤ 18 → ∀ j, 75 ≤ j → agS L ρ m j = 0
  | 0, _ => hz
  | m + 1, hm => fun j hj => by
    have ih := agS_z (L := L) hz m (by omega) j hj
    rw [agS_s]
    split
    · split
      · rw [rSet_n (by omega), rPut_n (by omega)]; exact ih
      · rw [rSet_n (by omega)]; exact ih
    · exact ih
theorem rAge_z {L : Nat → Bool} {ρ : Nat → Int} (hz : ∀ j, 75 ≤ j → ρ j = 0) : ∀ j, 75 ≤ j → rAge L ρ j = 0 := fun j hj => by
  unfold rAge
  rw [rSet_n (by omega)]
  exact agS_z hz 18 (by omega) j hj
theorem gs_z {sd' : Int} (hz : ∀ j, 75 ≤ j → ρ j = 0) : ∀ m j, 75 ≤ j → gsR ifs xs w nh sd' ρ m j = 0
  | 0 => hz
  | m + 1 => rAge_z (gs_z hz m)
theorem m_season {sd' : Int} (c : cfM I lv w h n nh hl sd ifs xs) (hr : rOK w n hl ρ) (h1 : I 401 = ρ) (h49 : I 369 49 = sd') : wm t d rt (f_X12_seasonGoes 369 (mm t d rt I)) (fun _ J => frM (fun a => a = 398 ∨ a = 399 ∨ a = 401 ∨ a = 404) (fun j => j = 46) I J ∧ J 401 = rAge (lsL ifs xs w nh sd' ρ) ρ) := by
  have hn : n ≤ 36 := c.1.2.2.2.2.2.2.2.2.2.2
  unfold f_X12_seasonGoes
  refine wm_lp2 18 (fun i y J => y = (i : Int) ∧ frM (fun a => a = 398 ∨ a = 399 ∨ a = 404) (fun j => j = 46) I J ∧ ∀ k, k < i → J 404 k = if lsL ifs xs w nh sd' ρ k then 1 else 0) ?_ (jfuel_n (by decide)) ⟨rfl, frM_refl _ _ _, fun k hk => by omega⟩
  rintro i hi y J ⟨rfl, hJ, j4⟩ rec hrec
  have cJ := cfM_frm hJ (fun a _ _ _ _ _ _ _ _ => by omega) (by omega) c
  have J401 : J 401 = ρ := (hJ.1 401 (by decide) (by omega)).trans h1
  have J49 : J 369 49 = sd' := (hJ.2 49 (by decide)).trans h49
  refine wm_if (fun cc => ?_) (fun cc => ?_)
  · simp (disch := omega) only [wr_id] at cc
    have hi2 : i < 18 := by omega
    have hli := s_lies (t := t) (d := d) (rt := rt) (I := J) (by rw [J401]; exact vRow_of hr hn) hi2
    rw [J401] at hli
    by_cases z : 0 ≤ ρ i
    · rw [if_pos (by unfold rLies; exact decide_eq_true z)] at hli
      have e72 : J 401 72 = ρ 72 := by rw [J401]
      have hlo := m_lotOf (t := t) (d := d) (rt := rt) (b := 32 * ρ 72 + (i : Int)) J49
      (repeat (first | (with_reducible apply wm_o; focus (simp (disch := omega) only [wr_id, Int.toNat_natCast, Int.reduceToNat, tn_lk, tn_kl, if_pos, if_neg, ↓reduceIte, and_self, and_true, true_and, FM, hli, e72, hlo]; with_reducible rfl)) | (with_reducible apply wm_q) | (with_reducible apply wm_c; focus (first | assumption | decide +kernel)) | (with_reducible apply wm_d; focus (simp (disch := omega) only [wr_id, Int.toNat_natCast, Int.reduceToNat, tn_lk, tn_kl, if_pos, if_neg, ↓reduceIte, and_self, and_true, true_and, FM, hli, e72, hlo]; with_reducible rfl)) | (with_reducible apply wm_t; focus (first | omega | (simp (disch := omega) only [wr_id, FM, hli, e72, hlo]; omega) | (simp (disch := omega) only [wr_id, FM, hli, e72, hlo]; done))) | (with_reducible apply wm_f; focus (first | omega | (simp (disch := omega) only [wr_id, FM, hli, e72, hlo]; omega) | (simp (disch := omega) only [wr_id, FM, hli, e72, hlo]; done)))))
      refine wm_b (m_loosens cJ hr J401 hi2 z) (fun v K hK => ?_)
      obtain ⟨k1, k2⟩ := hK
      have kJ : frM (fun a => a = 398 ∨ a = 399 ∨ a = 404) (fun j => j = 46) I K := frM_trans hJ (frM_sub k2 (fun a ha => by omega) (fun a ha => ha))
      have k404 : K 404 = J 404 := k2.1 404 (by decide) (by omega)
      have lt := lot_b sd' (32 * ρ 72 + (i : Int))
      have wl : jd_wr (lotF sd' (32 * ρ 72 + (i : Int))) = lotF sd' (32 * ρ 72 + (i : Int)) := wr_id (by omega) (by omega)
      by_cases zl : lotF sd' (32 * ρ 72 + (i : Int)) < LV ifs xs w nh ρ i 1
      · have hL : lsL ifs xs w nh sd' ρ i = true := by unfold lsL rLies; rw [decide_eq_true z, decide_eq_true zl]; rfl
        (repeat (first | (with_reducible apply wm_o; focus (simp (disch := omega) only [wr_id, Int.toNat_natCast, Int.reduceToNat, tn_lk, tn_kl, if_pos, if_neg, ↓reduceIte, and_self, and_true, true_and, FM, k1, wl, jdz1]; with_reducible rfl)) | (with_reducible apply wm_q) | (with_reducible apply wm_c; focus (first | assumption | decide +kernel)) | (with_reducible apply wm_d; focus (simp (disch := omega) only [wr_id, Int.toNat_natCast, Int.reduceToNat, tn_lk, tn_kl, if_pos, if_neg, ↓reduceIte, and_self, and_true, true_and, FM, k1, wl, jdz1]; with_reducible rfl)) | (with_reducible apply wm_t; focus (first | omega | (simp (disch := omega) only [wr_id, FM, k1, wl, jdz1]; omega) | (simp (disch := omega) only [wr_id, FM, k1, wl, jdz1]; done))) | (with_reducible apply wm_f; focus (first | omega | (simp (disch := omega) only [wr_id, FM, k1, wl, jdz1]; omega) | (simp (disch := omega) only [wr_id, FM, k1, wl, jdz1]; done)))))
        refine hrec (i + 1) _ _ (by omega) (by omega) ⟨by omega, frM_up kJ (by decide) (by omega), fun k hk => ?_⟩
        rw [up_g]
        by_cases e : k = i
        · rw [if_pos e, e, if_pos hL]
        · rw [if_neg e, k404]; exact j4 k (by omega)
      · have hL : ¬ lsL ifs xs w nh sd' ρ i = true := by unfold lsL; rw [decide_eq_false zl, Bool.and_false]; decide
        (repeat (first | (with_reducible apply wm_o; focus (simp (disch := omega) only [wr_id, Int.toNat_natCast, Int.reduceToNat, tn_lk, tn_kl, if_pos, if_neg, ↓reduceIte, and_self, and_true, true_and, FM, k1, wl, jdz0]; with_reducible rfl)) | (with_reducible apply wm_q) | (with_reducible apply wm_c; focus (first | assumption | decide +kernel)) | (with_reducible apply wm_d; focus (simp (disch := omega) only [wr_id, Int.toNat_natCast, Int.reduceToNat, tn_lk, tn_kl, if_pos, if_neg, ↓reduceIte, and_self, and_true, true_and, FM, k1, wl, jdz0]; with_reducible rfl)) | (with_reducible apply wm_t; focus (first | omega | (simp (disch := omega) only [wr_id, FM, k1, wl, jdz0]; omega) | (simp (disch := omega) only [wr_id, FM, k1, wl, jdz0]; done))) | (with_reducible apply wm_f; focus (first | omega | (simp (disch := omega) only [wr_id, FM, k1, wl, jdz0]; omega) | (simp (disch := omega) only [wr_id, FM, k1, wl, jdz0]; done)))))
        refine hrec (i + 1) _ _ (by omega) (by omega) ⟨by omega, frM_up kJ (by decide) (by omega), fun k hk => ?_⟩
        rw [up_g]
        by_cases e : k = i
        · rw [if_pos e, e, if_neg hL]
        · rw [if_neg e, k404]; exact j4 k (by omega)
    · have hL : ¬ lsL ifs xs w nh sd' ρ i = true := by unfold lsL rLies; rw [decide_eq_false z]; simp
      rw [if_neg (by unfold rLies; rw [decide_eq_false z]; decide)] at hli
      (repeat (first | (with_reducible apply wm_o; focus (simp (disch := omega) only [wr_id, Int.toNat_natCast, Int.reduceToNat, tn_lk, tn_kl, if_pos, if_neg, ↓reduceIte, and_self, and_true, true_and, FM, hli, jdz0]; with_reducible rfl)) | (with_reducible apply wm_q) | (with_reducible apply wm_c; focus (first | assumption | decide +kernel)) | (with_reducible apply wm_d; focus (simp (disch := omega) only [wr_id, Int.toNat_natCast, Int.reduceToNat, tn_lk, tn_kl, if_pos, if_neg, ↓reduceIte, and_self, and_true, true_and, FM, hli, jdz0]; with_reducible rfl)) | (with_reducible apply wm_t; focus (first | omega | (simp (disch := omega) only [wr_id, FM, hli, jdz0]; omega) | (simp (disch := omega) only [wr_id, FM, hli, jdz0]; done))) | (with_reducible apply wm_f; focus (first | omega | (simp (disch := omega) only [wr_id, FM, hli, jdz0]; omega) | (simp (disch := omega) only [wr_id, FM, hli, jdz0]; done)))))
      refine hrec (i + 1) _ _ (by omega) (by omega) ⟨by omega, frM_up hJ (by decide) (by omega), fun k hk => ?_⟩
      rw [up_g]
      by_cases e : k = i
      · rw [if_pos e, e, if_neg hL]
      · rw [if_neg e]; exact j4 k (by omega)
  · simp (disch := omega) only [wr_id] at cc
    obtain rfl : i = 18 := by omega
    clear hrec rec hi cc
    have hJ' : frM (fun a => a = 398 ∨ a = 399 ∨ a = 401 ∨ a = 404) (fun j => j = 46) I J := frM_sub hJ (fun a ha => by omega) (fun a ha => ha)
    refine wm_lp2 18 (fun i y K => y = (i : Int) ∧ frM (fun a => a = 401) (fun _ => False) J K ∧ K 401 = agS (lsL ifs xs w nh sd' ρ) ρ i) ?_ (jfuel_n (by decide)) ⟨rfl, frM_refl _ _ _, J401⟩
    rintro i hi y K ⟨rfl, hK, k1⟩ rec hrec
    have rK := rOK_agS (L := lsL ifs xs w nh sd' ρ) hr i hi
    have fin := frM_trans hJ' (frM_sub (S' := fun a => a = 398 ∨ a = 399 ∨ a = 401 ∨ a = 404) (T' := fun j => j = 46) hK (fun a ha => by omega) (fun a ha => ha.elim))
    refine wm_if (fun cc => ?_) (fun cc => ?_)
    · simp (disch := omega) only [wr_id] at cc
      have hi2 : i < 18 := by omega
      have e4 : K 404 i = if lsL ifs xs w nh sd' ρ i then 1 else 0 := by rw [hK.1 404 (by decide) (by decide)]; exact j4 i hi2
      have at' := agS_at (lsL ifs xs w nh sd' ρ) ρ i i (by omega) hi2
      have hli := s_lies (t := t) (d := d) (rt := rt) (I := K) (by rw [k1]; exact vRow_of rK hn) hi2
      by_cases zL : lsL ifs xs w nh sd' ρ i = true
      · rw [if_pos zL] at e4
        have zl : 0 ≤ ρ i := by
          unfold lsL rLies at zL
          simp only [Bool.and_eq_true, decide_eq_true_eq] at zL
          exact zL.1
        (repeat (first | (with_reducible apply wm_o; focus (simp (disch := omega) only [wr_id, Int.toNat_natCast, Int.reduceToNat, tn_lk, tn_kl, if_pos, if_neg, ↓reduceIte, and_self, and_true, true_and, FM, e4]; with_reducible rfl)) | (with_reducible apply wm_q) | (with_reducible apply wm_c; focus (first | assumption | decide +kernel)) | (with_reducible apply wm_d; focus (simp (disch := omega) only [wr_id, Int.toNat_natCast, Int.reduceToNat, tn_lk, tn_kl, if_pos, if_neg, ↓reduceIte, and_self, and_true, true_and, FM, e4]; with_reducible rfl)) | (with_reducible apply wm_t; focus (first | omega | (simp (disch := omega) only [wr_id, FM, e4]; omega) | (simp (disch := omega) only [wr_id, FM, e4]; done))) | (with_reducible apply wm_f; focus (first | omega | (simp (disch := omega) only [wr_id, FM, e4]; omega) | (simp (disch := omega) only [wr_id, FM, e4]; done)))))
        refine wm_b (m_lifted hi2) (fun v K2 hK2 => ?_)
        obtain ⟨p1, p2⟩ := hK2
        (repeat (first | (with_reducible apply wm_o; focus (simp (disch := omega) only [wr_id, Int.toNat_natCast, Int.reduceToNat, tn_lk, tn_kl, if_pos, if_neg, ↓reduceIte, and_self, and_true, true_and, FM]; with_reducible rfl)) | (with_reducible apply wm_q) | (with_reducible apply wm_c; focus (first | assumption | decide +kernel)) | (with_reducible apply wm_d; focus (simp (disch := omega) only [wr_id, Int.toNat_natCast, Int.reduceToNat, tn_lk, tn_kl, if_pos, if_neg, ↓reduceIte, and_self, and_true, true_and, FM]; with_reducible rfl)) | (with_reducible apply wm_t; focus (first | omega | (simp (disch := omega) only [wr_id, FM]; omega) | (simp (disch := omega) only [wr_id, FM]; done))) | (with_reducible apply wm_f; focus (first | omega | (simp (disch := omega) only [wr_id, FM]; omega) | (simp (disch := omega) only [wr_id, FM]; done)))))
        refine hrec (i + 1) _ _ (by omega) (by omega) ⟨by omega, frM_up (frM_trans hK p1) (by decide) rfl, ?_⟩
        rw [up_row, agS_s, at', if_pos zl, if_pos zL, p2, rPut_n (by omega), k1]
      · rw [if_neg zL] at e4
        by_cases z : 0 ≤ ρ i
        · rw [k1, if_pos (by unfold rLies; rw [at']; exact decide_eq_true z)] at hli
          have e54 : ((54 : Int) + (i : Int)) = ((54 + i : Nat) : Int) := by omega
          (repeat (first | (with_reducible apply wm_o; focus (simp (disch := omega) only [wr_id, Int.toNat_natCast, Int.reduceToNat, tn_lk, tn_kl, if_pos, if_neg, ↓reduceIte, and_self, and_true, true_and, FM, e4, hli, e54]; with_reducible rfl)) | (with_reducible apply wm_q) | (with_reducible apply wm_c; focus (first | assumption | decide +kernel)) | (with_reducible apply wm_d; focus (simp (disch := omega) only [wr_id, Int.toNat_natCast, Int.reduceToNat, tn_lk, tn_kl, if_pos, if_neg, ↓reduceIte, and_self, and_true, true_and, FM, e4, hli, e54]; with_reducible rfl)) | (with_reducible apply wm_t; focus (first | omega | (simp (disch := omega) only [wr_id, FM, e4, hli, e54]; omega) | (simp (disch := omega) only [wr_id, FM, e4, hli, e54]; done))) | (with_reducible apply wm_f; focus (first | omega | (simp (disch := omega) only [wr_id, FM, e4, hli, e54]; omega) | (simp (disch := omega) only [wr_id, FM, e4, hli, e54]; done)))))
          refine hrec (i + 1) _ _ (by omega) (by omega) ⟨by omega, frM_up hK (by decide) rfl, ?_⟩
          rw [up_row, agS_s, at', if_pos z, if_neg zL, k1]
        · rw [k1, if_neg (by unfold rLies; rw [at', decide_eq_false z]; decide)] at hli
          (repeat (first | (with_reducible apply wm_o; focus (simp (disch := omega) only [wr_id, Int.toNat_natCast, Int.reduceToNat, tn_lk, tn_kl, if_pos, if_neg, ↓reduceIte, and_self, and_true, true_and, FM, e4, hli]; with_reducible rfl)) | (with_reducible apply wm_q) | (with_reducible apply wm_c; focus (first | assumption | decide +kernel)) | (with_reducible apply wm_d; focus (simp (disch := omega) only [wr_id, Int.toNat_natCast, Int.reduceToNat, tn_lk, tn_kl, if_pos, if_neg, ↓reduceIte, and_self, and_true, true_and, FM, e4, hli]; with_reducible rfl)) | (with_reducible apply wm_t; focus (first | omega | (simp (disch := omega) only [wr_id, FM, e4, hli]; omega) | (simp (disch := omega) only [wr_id, FM, e4, hli]; done))) | (with_reducible apply wm_f; focus (first | omega | (simp (disch := omega) only [wr_id, FM, e4, hli]; omega) | (simp (disch := omega) only [wr_id, FM, e4, hli]; done)))))
          refine hrec (i + 1) _ _ (by omega) (by omega) ⟨by omega, hK, ?_⟩
          rw [agS_s, at', if_neg z, k1]
    · simp (disch := omega) only [wr_id] at cc
      obtain rfl : i = 18 := by omega
      (repeat (first | (with_reducible apply wm_o; focus (simp (disch := omega) only [wr_id, Int.toNat_natCast, Int.reduceToNat, tn_lk, tn_kl, if_pos, if_neg, ↓reduceIte, and_self, and_true, true_and, FM]; with_reducible rfl)) | (with_reducible apply wm_q) | (with_reducible apply wm_c; focus (first | assumption | decide +kernel)) | (with_reducible apply wm_d; focus (simp (disch := omega) only [wr_id, Int.toNat_natCast, Int.reduceToNat, tn_lk, tn_kl, if_pos, if_neg, ↓reduceIte, and_self, and_true, true_and, FM]; with_reducible rfl)) | (with_reducible apply wm_t; focus (first | omega | (simp (disch := omega) only [wr_id, FM]; omega) | (simp (disch := omega) only [wr_id, FM]; done))) | (with_reducible apply wm_f; focus (first | omega | (simp (disch := omega) only [wr_id, FM]; omega) | (simp (disch := omega) only [wr_id, FM]; done)))))
      refine wm_r ⟨frM_up fin (by decide) (by omega), ?_⟩
      rw [up_row, k1]
      rfl
theorem m_goes {sd' : Int} (c : cfM I lv w h n nh hl sd ifs xs) (hr : rOK w n hl ρ) (h1 : I 401 = ρ) (h49 : I 369 49 = sd') {m : Nat} (hm : m ≤ 60) : wm t d rt (f_X12_goes 369 (m : Int) (mm t d rt I)) (fun _ J => frM (fun a => a = 398 ∨ a = 399 ∨ a = 401 ∨ a = 404) (fun j => j = 46) I J ∧ J 401 = gsR ifs xs w nh sd' ρ m) := by
  unfold f_X12_goes
  refine wm_lp2 m (fun i y J => y = (i : Int) ∧ frM (fun a => a = 398 ∨ a = 399 ∨ a = 401 ∨ a = 404) (fun j => j = 46) I J ∧ J 401 = gsR ifs xs w nh sd' ρ i) ?_ (Nat.lt_of_le_of_lt hm (jfuel_n (by decide))) ⟨rfl, frM_refl _ _ _, h1⟩
  rintro i hi y J ⟨rfl, hJ, j1⟩ rec hrec
  refine wm_if (fun cc => ?_) (fun cc => ?_)
  · simp (disch := omega) only [wr_id] at cc
    have cJ := cfM_frm hJ (fun a _ _ _ _ _ _ _ _ => by omega) (by omega) c
    (repeat (first | (with_reducible apply wm_o; focus (simp (disch := omega) only [wr_id, Int.toNat_natCast, Int.reduceToNat, tn_lk, tn_kl, if_pos, if_neg, ↓reduceIte, and_self, and_true, true_and]; with_reducible rfl)) | (with_reducible apply wm_q) | (with_reducible apply wm_c; focus (first | assumption | decide +kernel)) | (with_reducible apply wm_d; focus (simp (disch := omega) only [wr_id, Int.toNat_natCast, Int.reduceToNat, tn_lk, tn_kl, if_pos, if_neg, ↓reduceIte, and_self, and_true, true_and]; with_reducible rfl)) | (with_reducible apply wm_t; focus (first | omega | (simp (disch := omega) only [wr_id]; omega) | (simp (disch := omega) only [wr_id]; done))) | (with_reducible apply wm_f; focus (first | omega | (simp (disch := omega) only [wr_id]; omega) | (simp (disch := omega) only [wr_id]; done)))))
    refine wm_b (m_season cJ (rOK_gs hr i) j1 ((hJ.2 49 (by decide)).trans h49)) (fun v K hK => ?_)
    exact hrec (i + 1) _ _ (by omega) (by omega) ⟨by omega, frM_trans hJ hK.1, hK.2⟩
  · simp (disch := omega) only [wr_id] at cc
    obtain rfl : i = m := by omega
    exact wm_r ⟨hJ, j1⟩
end MG
