/-! ===== calls: turns, cheapest ===== -/
/-- what turning costs -/
def prV (ifs : Nat → List LwI) (xs : Nat → List CI) (w nh : Nat) (ρ : Nat → Int) (c : Nat) : Int := match rCpl w ρ (c : Int), rCpl w ρ ((c + w + 1 : Nat) : Int) with
  | some k0, some k1 => LV ifs xs w nh ρ k0 0 + LV ifs xs w nh ρ k1 0
  | _, _ => 0
section TS
variable {t d rt : Nat} {I J K : Nat → Nat → Int} {lv w h n nh r : Nat} {hl cl na nd U : Nat → Bool} {sd : Int} {ifs : Nat → List LwI} {xs : Nat → List CI} {ρ : Nat → Int} {u : Nat} {H : Nat → Nat → Int} {hd : Nat → Bool} {G : Nat → Nat → Int}
theorem prV_x (hr : rOK w n hl ρ) {c k0 k1 : Nat} {a : Int} (hX : ctX w n ρ c a k0 k1) : prV ifs xs w nh ρ c = LV ifs xs w nh ρ k0 0 + LV ifs xs w nh ρ k1 0 := by
  unfold prV
  rw [rCpl_some hr hX.2.2.1.1 (ct_at hX).1, rCpl_some hr hX.2.2.1.2 (ct_at hX).2]
theorem prV_b (c : Nat) : 0 ≤ prV ifs xs w nh ρ c ∧ prV ifs xs w nh ρ c ≤ 200 := by
  unfold prV
  split
  · rename_i k0 k1 _ _
    have := LV_b (ifs := ifs) (xs := xs) (w := w) (nh := nh) (ρ := ρ) (k := k0) 0
    have := LV_b (ifs := ifs) (xs := xs) (w := w) (nh := nh) (ρ := ρ) (k := k1) 0
    omega
  · omega
theorem wr_sum {a b x y : Int} (h1 : jd_wr a = x) (h2 : jd_wr b = y) (hx : 0 ≤ x ∧ x ≤ 100) (hy : 0 ≤ y ∧ y ≤ 100) : jd_wr (a + b) = x + y := by
  rw [wr_add, h1, h2, wr_id (by omega) (by omega)]
theorem c_price (sq : sqOK w h n nh hl) (c' : cfC I t w h n nh hl sd ifs xs) (hr : rOK w n hl ρ) (hst : stR I 34 w ρ) {c k0 k1 : Nat} {a : Int} (hX : ctX w n ρ c a k0 k1) : wm t d rt (f_X11_priceOfTurning 0 (c : Int) (mm t d rt I)) (fun r J => jd_wr r = prV ifs xs w nh ρ c ∧ frm (fun a => a = t + 12) I J) := by
  have hn := sq.2.2.2.2.2.2.1
  have htx := c'.1
  have kt := (tx_k htx).1
  have kl := (tx_k htx).2.1
  have kb := (tx_k htx).2.2.2
  have c2 := c'.2.1
  have c5 := c'.2.2.2.2.1
  have hX' := hX
  obtain ⟨q1, q2, q3, q4, q5, q6, q7, q8, q9⟩ := hX
  have hwn : 2 ≤ w := sq.1
  have hc1 : c + w + 1 < 36 := by
    have hcn : c + w < n := q1.2
    have := hr_of (w := w) (h := h) (by omega) sq.2.2.2.2.1 (c + w) (by rw [Nat.add_mod_right]; exact q1.1) hcn
    omega
  have p1 : I 39 c = (k0 : Int) := (hst.2.2.2.1 c (by omega)).trans (onI_some hr q3.1 (ct_at hX').1)
  have r1 : I 39 (c + w + 1) = (k1 : Int) := (hst.2.2.2.1 (c + w + 1) hc1).trans (onI_some hr q3.2 (ct_at hX').2)
  have ei : (c : Int) + (w : Int) + 1 = ((c + w + 1 : Nat) : Int) := by omega
  unfold f_X11_priceOfTurning
  (repeat (first | (with_reducible apply wm_o; focus (simp (disch := omega) only [wr_id, Int.toNat_natCast, Int.reduceToNat, tn_lk, tn_kl, if_pos, if_neg, ↓reduceIte, and_self, and_true, true_and, FX, FState now_in, FText htx, c2, c5, ei, p1, r1]; with_reducible rfl)) | (with_reducible apply wm_q) | (with_reducible apply wm_c; focus (first | assumption | decide +kernel)) | (with_reducible apply wm_d; focus (simp (disch := omega) only [wr_id, Int.toNat_natCast, Int.reduceToNat, tn_lk, tn_kl, if_pos, if_neg, ↓reduceIte, and_self, and_true, true_and, FX, FState now_in, FText htx, c2, c5, ei, p1, r1]; with_reducible rfl)) | (with_reducible apply wm_t; focus (first | omega | (simp (disch := omega) only [wr_id, FX, FState now_in, FText htx, c2, c5, ei, p1, r1]; omega) | (simp (disch := omega) only [wr_id, FX, FState now_in, FText htx, c2, c5, ei, p1, r1]; done))) | (with_reducible apply wm_f; focus (first | omega | (simp (disch := omega) only [wr_id, FX, FState now_in, FText htx, c2, c5, ei, p1, r1]; omega) | (simp (disch := omega) only [wr_id, FX, FState now_in, FText htx, c2, c5, ei, p1, r1]; done)))))
  refine wm_b (c_held (q := 0) sq c' now_in hr hst q3.1 q4 (by decide)) (fun v J hJ => ?_)
  obtain ⟨j1, j2⟩ := hJ
  have cJ := cfC_frm j2 (fun a a1 a2 => by omega) c'
  have sJ := stR_frm j2 (fun a a1 a2 => by omega) hst
  have c5J := cJ.2.2.2.2.1
  (repeat (first | (with_reducible apply wm_o; focus (simp (disch := omega) only [wr_id, Int.toNat_natCast, Int.reduceToNat, tn_lk, tn_kl, if_pos, if_neg, ↓reduceIte, and_self, and_true, true_and, FX, FText htx, c5J]; with_reducible rfl)) | (with_reducible apply wm_q) | (with_reducible apply wm_c; focus (first | assumption | decide +kernel)) | (with_reducible apply wm_d; focus (simp (disch := omega) only [wr_id, Int.toNat_natCast, Int.reduceToNat, tn_lk, tn_kl, if_pos, if_neg, ↓reduceIte, and_self, and_true, true_and, FX, FText htx, c5J]; with_reducible rfl)) | (with_reducible apply wm_t; focus (first | omega | (simp (disch := omega) only [wr_id, FX, FText htx, c5J]; omega) | (simp (disch := omega) only [wr_id, FX, FText htx, c5J]; done))) | (with_reducible apply wm_f; focus (first | omega | (simp (disch := omega) only [wr_id, FX, FText htx, c5J]; omega) | (simp (disch := omega) only [wr_id, FX, FText htx, c5J]; done)))))
  refine wm_b (c_held (q := 0) sq cJ now_in hr sJ q3.2 q5 (by decide)) (fun v2 J2 hJ2 => ?_)
  obtain ⟨l1, l2⟩ := hJ2
  refine wm_r ⟨?_, frm_trans j2 l2⟩
  rw [prV_x hr hX', wr_sum j1 l1 (by have := LV_b (ifs := ifs) (xs := xs) (w := w) (nh := nh) (ρ := ρ) (k := k0) 0; omega) (by have := LV_b (ifs := ifs) (xs := xs) (w := w) (nh := nh) (ρ := ρ) (k := k1) 0; omega)]
theorem m_price (c' : cfM I lv w h n nh hl sd ifs xs) (hr : rOK w n hl ρ) (h1 : I 401 = ρ) {c k0 k1 : Nat} {a : Int} (hX : ctX w n ρ c a k0 k1) (g0 : I 403 0 = (k0 : Int)) (g1 : I 403 1 = (k1 : Int)) : wm t d rt (f_X12_turnAsks 369 (mm t d rt I)) (fun r J => jd_wr r = prV ifs xs w nh ρ c ∧ frM (fun a => a = 398 ∨ a = 399) (fun j => j = 46) I J) := by
  have hX' := hX
  obtain ⟨q1, q2, q3, q4, q5, q6, q7, q8, q9⟩ := hX
  unfold f_X12_turnAsks
  (repeat (first | (with_reducible apply wm_o; focus (simp (disch := omega) only [wr_id, Int.toNat_natCast, Int.reduceToNat, tn_lk, tn_kl, if_pos, if_neg, ↓reduceIte, and_self, and_true, true_and, FM, g0]; with_reducible rfl)) | (with_reducible apply wm_q) | (with_reducible apply wm_c; focus (first | assumption | decide +kernel)) | (with_reducible apply wm_d; focus (simp (disch := omega) only [wr_id, Int.toNat_natCast, Int.reduceToNat, tn_lk, tn_kl, if_pos, if_neg, ↓reduceIte, and_self, and_true, true_and, FM, g0]; with_reducible rfl)) | (with_reducible apply wm_t; focus (first | omega | (simp (disch := omega) only [wr_id, FM, g0]; omega) | (simp (disch := omega) only [wr_id, FM, g0]; done))) | (with_reducible apply wm_f; focus (first | omega | (simp (disch := omega) only [wr_id, FM, g0]; omega) | (simp (disch := omega) only [wr_id, FM, g0]; done)))))
  refine wm_b (m_asks c' hr h1 q3.1 q4) (fun v J hJ => ?_)
  obtain ⟨j1, j2⟩ := hJ
  have cJ := cfM_frm j2 (fun a _ _ _ _ _ _ _ _ => by omega) (by decide) c'
  have gJ : J 403 1 = (k1 : Int) := by rw [j2.1 403 (by decide) (by decide)]; exact g1
  (repeat (first | (with_reducible apply wm_o; focus (simp (disch := omega) only [wr_id, Int.toNat_natCast, Int.reduceToNat, tn_lk, tn_kl, if_pos, if_neg, ↓reduceIte, and_self, and_true, true_and, FM, gJ]; with_reducible rfl)) | (with_reducible apply wm_q) | (with_reducible apply wm_c; focus (first | assumption | decide +kernel)) | (with_reducible apply wm_d; focus (simp (disch := omega) only [wr_id, Int.toNat_natCast, Int.reduceToNat, tn_lk, tn_kl, if_pos, if_neg, ↓reduceIte, and_self, and_true, true_and, FM, gJ]; with_reducible rfl)) | (with_reducible apply wm_t; focus (first | omega | (simp (disch := omega) only [wr_id, FM, gJ]; omega) | (simp (disch := omega) only [wr_id, FM, gJ]; done))) | (with_reducible apply wm_f; focus (first | omega | (simp (disch := omega) only [wr_id, FM, gJ]; omega) | (simp (disch := omega) only [wr_id, FM, gJ]; done)))))
  refine wm_b (m_asks cJ hr ((j2.1 401 (by decide) (by decide)).trans h1) q3.2 q5) (fun v2 J2 hJ2 => ?_)
  obtain ⟨l1, l2⟩ := hJ2
  refine wm_r ⟨?_, frM_trans j2 l2⟩
  rw [prV_x hr hX', wr_sum j1 l1 (by have := LV_b (ifs := ifs) (xs := xs) (w := w) (nh := nh) (ρ := ρ) (k := k0) 0; omega) (by have := LV_b (ifs := ifs) (xs := xs) (w := w) (nh := nh) (ρ := ρ) (k := k1) 0; omega)]
def trV (w n : Nat) (ρ : Nat → Int) (x : Int) : Int := match fnd (fun c => ctB w n ρ c && decide ((cntB (ctB w n ρ) c : Int) = x)) n 0 with
  | some c => (c : Int)
  | none => if x = -1 then (cntB (ctB w n ρ) n : Int) else -1
theorem P_turns (hI : INV t d rt I) {x : Int} (hx : in32 x) : both t d rt (f_X11_turns 0 x (mm t d rt I)) (fun M => f_X12_turns 369 x M) := by
  have hI' := hI
  obtain ⟨lv, w, h, n, nh, hl, sd, ifs, xs, hR, ρ, u, H, hd, G, hC, hM⟩ := hI
  have sq := hR.2.1
  have hcf := hR.2.2.1
  have hmf := hR.2.2.2.1
  have hz := hR.2.2.2.2.2.2.2.2.2
  have hn := sq.2.2.2.2.2.2.1
  have kt := (tx_k hcf.1).1
  have ex := wr_in hx
  have hx' := hx
  unfold in32 at hx'
  have wm1 : jd_wr (-1) = -1 := by decide +kernel
  have hce := q_cells (d := d) (rt := rt) sq hcf
  have yes : ∀ i, i < n → ctB w n ρ i = true → (cntB (ctB w n ρ) i : Int) = x → (∀ j, j < i → ¬ (ctB w n ρ j = true ∧ (cntB (ctB w n ρ) j : Int) = x)) → trV w n ρ x = (i : Int) := by
    intro i hi h1 h2 h3
    unfold trV
    rw [fnd_first (k := i) (by omega) (by omega) (by rw [h1, decide_eq_true h2]; rfl) (fun j _ hj => by
      rw [Bool.eq_false_iff]
      intro q
      rw [Bool.and_eq_true, decide_eq_true_eq] at q
      exact h3 j hj q)]
  have none' : (∀ j, j < n → ¬ (ctB w n ρ j = true ∧ (cntB (ctB w n ρ) j : Int) = x)) → trV w n ρ x = if x = -1 then (cntB (ctB w n ρ) n : Int) else -1 := by
    intro h3
    unfold trV
    rw [fnd_none (fun j _ hj => by
      rw [Bool.eq_false_iff]
      intro q
      rw [Bool.and_eq_true, decide_eq_true_eq] at q
      exact h3 j (by omega) q)]
  unfold both f_X11_turns
  by_cases z : x < -1
  · (repeat (first | (with_reducible apply wm_o; focus (simp (disch := omega) only [wr_id, Int.toNat_natCast, Int.reduceToNat, tn_lk, tn_kl, if_pos, if_neg, ↓reduceIte, and_self, and_true, true_and, ex, wm1]; with_reducible rfl)) | (with_reducible apply wm_q) | (with_reducible apply wm_c; focus (first | assumption | decide +kernel)) | (with_reducible apply wm_d; focus (simp (disch := omega) only [wr_id, Int.toNat_natCast, Int.reduceToNat, tn_lk, tn_kl, if_pos, if_neg, ↓reduceIte, and_self, and_true, true_and, ex, wm1]; with_reducible rfl)) | (with_reducible apply wm_t; focus (first | omega | (simp (disch := omega) only [wr_id, ex, wm1]; omega) | (simp (disch := omega) only [wr_id, ex, wm1]; done))) | (with_reducible apply wm_f; focus (first | omega | (simp (disch := omega) only [wr_id, ex, wm1]; omega) | (simp (disch := omega) only [wr_id, ex, wm1]; done)))))
    refine wm_r ?_
    show wm t d rt (f_X12_turns 369 x (mm t d rt I)) _
    unfold f_X12_turns
    (repeat (first | (with_reducible apply wm_o; focus (simp (disch := omega) only [wr_id, Int.toNat_natCast, Int.reduceToNat, tn_lk, tn_kl, if_pos, if_neg, ↓reduceIte, and_self, and_true, true_and, ex, wm1]; with_reducible rfl)) | (with_reducible apply wm_q) | (with_reducible apply wm_c; focus (first | assumption | decide +kernel)) | (with_reducible apply wm_d; focus (simp (disch := omega) only [wr_id, Int.toNat_natCast, Int.reduceToNat, tn_lk, tn_kl, if_pos, if_neg, ↓reduceIte, and_self, and_true, true_and, ex, wm1]; with_reducible rfl)) | (with_reducible apply wm_t; focus (first | omega | (simp (disch := omega) only [wr_id, ex, wm1]; omega) | (simp (disch := omega) only [wr_id, ex, wm1]; done))) | (with_reducible apply wm_f; focus (first | omega | (simp (disch := omega) only [wr_id, ex, wm1]; omega) | (simp (disch := omega) only [wr_id, ex, wm1]; done)))))
    exact wm_r ⟨rfl, hI'⟩
  · have mod : wm t d rt (f_X12_turns 369 x (mm t d rt I)) (fun r' K => jd_wr (trV w n ρ x) = jd_wr r' ∧ INV t d rt K) := by
      unfold f_X12_turns
      (repeat (first | (with_reducible apply wm_o; focus (simp (disch := omega) only [wr_id, Int.toNat_natCast, Int.reduceToNat, tn_lk, tn_kl, if_pos, if_neg, ↓reduceIte, and_self, and_true, true_and, ex, wm1]; with_reducible rfl)) | (with_reducible apply wm_q) | (with_reducible apply wm_c; focus (first | assumption | decide +kernel)) | (with_reducible apply wm_d; focus (simp (disch := omega) only [wr_id, Int.toNat_natCast, Int.reduceToNat, tn_lk, tn_kl, if_pos, if_neg, ↓reduceIte, and_self, and_true, true_and, ex, wm1]; with_reducible rfl)) | (with_reducible apply wm_t; focus (first | omega | (simp (disch := omega) only [wr_id, ex, wm1]; omega) | (simp (disch := omega) only [wr_id, ex, wm1]; done))) | (with_reducible apply wm_f; focus (first | omega | (simp (disch := omega) only [wr_id, ex, wm1]; omega) | (simp (disch := omega) only [wr_id, ex, wm1]; done)))))
      refine wm_b (m_cop hmf hz hM.1 hM.2.1) (fun v K hK => ?_)
      obtain ⟨k1, k2, k3, k4, k5⟩ := hK
      refine wm_lp3 n (fun i a y L => a = (cntB (ctB w n ρ) i : Int) ∧ y = (i : Int) ∧ frM (fun a => a = 403) (fun _ => False) K L ∧ ∀ j, j < i → ¬ (ctB w n ρ j = true ∧ (cntB (ctB w n ρ) j : Int) = x)) ?_ (Nat.lt_of_le_of_lt hn (jfuel_n (by decide))) ⟨rfl, rfl, frM_refl _ _ _, fun j hj => by omega⟩
      rintro i hi a y L ⟨rfl, rfl, hL, nA⟩ rec hrec
      have cL := cfM_frm hL (fun a _ _ _ _ _ _ _ _ => by omega) (fun q => q) k3
      have hceL := s_cells (t := t) (d := d) (rt := rt) cL.1
      have fin : ∀ N, frM (fun a => a = 403) (fun _ => False) L N → INV t d rt N := fun N hN => INV_q hR hC hM (frm_refl _ _) (frM_trans k1 (frM_f (frM_trans hL hN) (fun a ha => by unfold scrM; omega))) (zM_fr k2 (frM_trans hL hN) (by decide) (by decide) (by decide))
      have cle := cntB_le (ctB w n ρ) i
      by_cases e : i = n
      · subst e
        have := none' nA
        by_cases z1 : x = -1
        · rw [if_pos z1] at this
          (repeat (first | (with_reducible apply wm_o; focus (simp (disch := omega) only [wr_id, Int.toNat_natCast, Int.reduceToNat, tn_lk, tn_kl, if_pos, if_neg, ↓reduceIte, and_self, and_true, true_and, hceL, ex, wm1]; with_reducible rfl)) | (with_reducible apply wm_q) | (with_reducible apply wm_c; focus (first | assumption | decide +kernel)) | (with_reducible apply wm_d; focus (simp (disch := omega) only [wr_id, Int.toNat_natCast, Int.reduceToNat, tn_lk, tn_kl, if_pos, if_neg, ↓reduceIte, and_self, and_true, true_and, hceL, ex, wm1]; with_reducible rfl)) | (with_reducible apply wm_t; focus (first | omega | (simp (disch := omega) only [wr_id, hceL, ex, wm1]; omega) | (simp (disch := omega) only [wr_id, hceL, ex, wm1]; done))) | (with_reducible apply wm_f; focus (first | omega | (simp (disch := omega) only [wr_id, hceL, ex, wm1]; omega) | (simp (disch := omega) only [wr_id, hceL, ex, wm1]; done)))))
          exact wm_r ⟨by rw [this], fin L (frM_refl _ _ _)⟩
        · rw [if_neg z1] at this
          (repeat (first | (with_reducible apply wm_o; focus (simp (disch := omega) only [wr_id, Int.toNat_natCast, Int.reduceToNat, tn_lk, tn_kl, if_pos, if_neg, ↓reduceIte, and_self, and_true, true_and, hceL, ex, wm1]; with_reducible rfl)) | (with_reducible apply wm_q) | (with_reducible apply wm_c; focus (first | assumption | decide +kernel)) | (with_reducible apply wm_d; focus (simp (disch := omega) only [wr_id, Int.toNat_natCast, Int.reduceToNat, tn_lk, tn_kl, if_pos, if_neg, ↓reduceIte, and_self, and_true, true_and, hceL, ex, wm1]; with_reducible rfl)) | (with_reducible apply wm_t; focus (first | omega | (simp (disch := omega) only [wr_id, hceL, ex, wm1]; omega) | (simp (disch := omega) only [wr_id, hceL, ex, wm1]; done))) | (with_reducible apply wm_f; focus (first | omega | (simp (disch := omega) only [wr_id, hceL, ex, wm1]; omega) | (simp (disch := omega) only [wr_id, hceL, ex, wm1]; done)))))
          exact wm_r ⟨by rw [this], fin L (frM_refl _ _ _)⟩
      · (repeat (first | (with_reducible apply wm_o; focus (simp (disch := omega) only [wr_id, Int.toNat_natCast, Int.reduceToNat, tn_lk, tn_kl, if_pos, if_neg, ↓reduceIte, and_self, and_true, true_and, hceL]; with_reducible rfl)) | (with_reducible apply wm_q) | (with_reducible apply wm_c; focus (first | assumption | decide +kernel)) | (with_reducible apply wm_d; focus (simp (disch := omega) only [wr_id, Int.toNat_natCast, Int.reduceToNat, tn_lk, tn_kl, if_pos, if_neg, ↓reduceIte, and_self, and_true, true_and, hceL]; with_reducible rfl)) | (with_reducible apply wm_t; focus (first | omega | (simp (disch := omega) only [wr_id, hceL]; omega) | (simp (disch := omega) only [wr_id, hceL]; done))) | (with_reducible apply wm_f; focus (first | omega | (simp (disch := omega) only [wr_id, hceL]; omega) | (simp (disch := omega) only [wr_id, hceL]; done)))))
        refine wm_b (m_canTurn cL.1 hC.1 ((hL.1 401 (by decide) (by decide)).trans k4) (x := (i : Int)) (i32 (by omega) (by omega))) (fun v2 N hN => ?_)
        obtain ⟨n1, n2⟩ := hN
        rw [Int.toNat_natCast] at n2
        rcases n2 with ⟨rfl, q⟩ | ⟨rfl, q, a, k0, k1', hX, _, _⟩
        · have hb : ctB w n ρ i = false := by
            cases e2 : ctB w n ρ i with
            | false => rfl
            | true => exact absurd ⟨⟨by omega, by omega⟩, e2⟩ q
          have es : cntB (ctB w n ρ) (i + 1) = cntB (ctB w n ρ) i := by rw [cntB, hb]; rfl
          (repeat (first | (with_reducible apply wm_o; focus (simp (disch := omega) only [wr_id, Int.toNat_natCast, Int.reduceToNat, tn_lk, tn_kl, if_pos, if_neg, ↓reduceIte, and_self, and_true, true_and]; with_reducible rfl)) | (with_reducible apply wm_q) | (with_reducible apply wm_c; focus (first | assumption | decide +kernel)) | (with_reducible apply wm_d; focus (simp (disch := omega) only [wr_id, Int.toNat_natCast, Int.reduceToNat, tn_lk, tn_kl, if_pos, if_neg, ↓reduceIte, and_self, and_true, true_and]; with_reducible rfl)) | (with_reducible apply wm_t; focus (first | omega | (simp (disch := omega) only [wr_id]; omega) | (simp (disch := omega) only [wr_id]; done))) | (with_reducible apply wm_f; focus (first | omega | (simp (disch := omega) only [wr_id]; omega) | (simp (disch := omega) only [wr_id]; done)))))
          refine hrec (i + 1) _ _ _ (by omega) (by omega) ⟨by rw [es], by omega, frM_trans hL n1, fun j hj => ?_⟩
          by_cases ej : j = i
          · rw [ej, hb]; exact fun k => by cases k.1
          · exact nA j (by omega)
        · have hb : ctB w n ρ i = true := (ct_iff hC.1).mpr ⟨a, k0, k1', hX⟩
          have es : cntB (ctB w n ρ) (i + 1) = cntB (ctB w n ρ) i + 1 := by rw [cntB, hb]; rfl
          by_cases ze : (cntB (ctB w n ρ) i : Int) = x
          · have := yes i (by omega) hb ze nA
            (repeat (first | (with_reducible apply wm_o; focus (simp (disch := omega) only [wr_id, Int.toNat_natCast, Int.reduceToNat, tn_lk, tn_kl, if_pos, if_neg, ↓reduceIte, and_self, and_true, true_and, ex]; with_reducible rfl)) | (with_reducible apply wm_q) | (with_reducible apply wm_c; focus (first | assumption | decide +kernel)) | (with_reducible apply wm_d; focus (simp (disch := omega) only [wr_id, Int.toNat_natCast, Int.reduceToNat, tn_lk, tn_kl, if_pos, if_neg, ↓reduceIte, and_self, and_true, true_and, ex]; with_reducible rfl)) | (with_reducible apply wm_t; focus (first | omega | (simp (disch := omega) only [wr_id, ex]; omega) | (simp (disch := omega) only [wr_id, ex]; done))) | (with_reducible apply wm_f; focus (first | omega | (simp (disch := omega) only [wr_id, ex]; omega) | (simp (disch := omega) only [wr_id, ex]; done)))))
            exact wm_r ⟨by rw [this], fin N n1⟩
          · (repeat (first | (with_reducible apply wm_o; focus (simp (disch := omega) only [wr_id, Int.toNat_natCast, Int.reduceToNat, tn_lk, tn_kl, if_pos, if_neg, ↓reduceIte, and_self, and_true, true_and, ex]; with_reducible rfl)) | (with_reducible apply wm_q) | (with_reducible apply wm_c; focus (first | assumption | decide +kernel)) | (with_reducible apply wm_d; focus (simp (disch := omega) only [wr_id, Int.toNat_natCast, Int.reduceToNat, tn_lk, tn_kl, if_pos, if_neg, ↓reduceIte, and_self, and_true, true_and, ex]; with_reducible rfl)) | (with_reducible apply wm_t; focus (first | omega | (simp (disch := omega) only [wr_id, ex]; omega) | (simp (disch := omega) only [wr_id, ex]; done))) | (with_reducible apply wm_f; focus (first | omega | (simp (disch := omega) only [wr_id, ex]; omega) | (simp (disch := omega) only [wr_id, ex]; done)))))
            refine hrec (i + 1) _ _ _ (by omega) (by omega) ⟨by rw [es]; omega, by omega, frM_trans hL n1, fun j hj => ?_⟩
            by_cases ej : j = i
            · rw [ej]; exact fun k => ze k.2
            · exact nA j (by omega)
    (repeat (first | (with_reducible apply wm_o; focus (simp (disch := omega) only [wr_id, Int.toNat_natCast, Int.reduceToNat, tn_lk, tn_kl, if_pos, if_neg, ↓reduceIte, and_self, and_true, true_and, ex, wm1]; with_reducible rfl)) | (with_reducible apply wm_q) | (with_reducible apply wm_c; focus (first | assumption | decide +kernel)) | (with_reducible apply wm_d; focus (simp (disch := omega) only [wr_id, Int.toNat_natCast, Int.reduceToNat, tn_lk, tn_kl, if_pos, if_neg, ↓reduceIte, and_self, and_true, true_and, ex, wm1]; with_reducible rfl)) | (with_reducible apply wm_t; focus (first | omega | (simp (disch := omega) only [wr_id, ex, wm1]; omega) | (simp (disch := omega) only [wr_id, ex, wm1]; done))) | (with_reducible apply wm_f; focus (first | omega | (simp (disch := omega) only [wr_id, ex, wm1]; omega) | (simp (disch := omega) only [wr_id, ex, wm1]; done)))))
    refine wm_lp3 n (fun i a y L => a = (cntB (ctB w n ρ) i : Int) ∧ y = (i : Int) ∧ L = I ∧ ∀ j, j < i → ¬ (ctB w n ρ j = true ∧ (cntB (ctB w n ρ) j : Int) = x)) ?_ (Nat.lt_of_le_of_lt hn (jfuel_n (by decide))) ⟨rfl, rfl, rfl, fun j hj => by omega⟩
    rintro i hi a y L ⟨rfl, rfl, rfl, nA⟩ rec hrec
    have cle := cntB_le (ctB w n ρ) i
    by_cases e : i = n
    · subst e
      have := none' nA
      by_cases z1 : x = -1
      · rw [if_pos z1] at this
        (repeat (first | (with_reducible apply wm_o; focus (simp (disch := omega) only [wr_id, Int.toNat_natCast, Int.reduceToNat, tn_lk, tn_kl, if_pos, if_neg, ↓reduceIte, and_self, and_true, true_and, FX, hce, ex, wm1]; with_reducible rfl)) | (with_reducible apply wm_q) | (with_reducible apply wm_c; focus (first | assumption | decide +kernel)) | (with_reducible apply wm_d; focus (simp (disch := omega) only [wr_id, Int.toNat_natCast, Int.reduceToNat, tn_lk, tn_kl, if_pos, if_neg, ↓reduceIte, and_self, and_true, true_and, FX, hce, ex, wm1]; with_reducible rfl)) | (with_reducible apply wm_t; focus (first | omega | (simp (disch := omega) only [wr_id, FX, hce, ex, wm1]; omega) | (simp (disch := omega) only [wr_id, FX, hce, ex, wm1]; done))) | (with_reducible apply wm_f; focus (first | omega | (simp (disch := omega) only [wr_id, FX, hce, ex, wm1]; omega) | (simp (disch := omega) only [wr_id, FX, hce, ex, wm1]; done)))))
        refine wm_r ?_
        rw [← this]; exact mod
      · rw [if_neg z1] at this
        (repeat (first | (with_reducible apply wm_o; focus (simp (disch := omega) only [wr_id, Int.toNat_natCast, Int.reduceToNat, tn_lk, tn_kl, if_pos, if_neg, ↓reduceIte, and_self, and_true, true_and, FX, hce, ex, wm1]; with_reducible rfl)) | (with_reducible apply wm_q) | (with_reducible apply wm_c; focus (first | assumption | decide +kernel)) | (with_reducible apply wm_d; focus (simp (disch := omega) only [wr_id, Int.toNat_natCast, Int.reduceToNat, tn_lk, tn_kl, if_pos, if_neg, ↓reduceIte, and_self, and_true, true_and, FX, hce, ex, wm1]; with_reducible rfl)) | (with_reducible apply wm_t; focus (first | omega | (simp (disch := omega) only [wr_id, FX, hce, ex, wm1]; omega) | (simp (disch := omega) only [wr_id, FX, hce, ex, wm1]; done))) | (with_reducible apply wm_f; focus (first | omega | (simp (disch := omega) only [wr_id, FX, hce, ex, wm1]; omega) | (simp (disch := omega) only [wr_id, FX, hce, ex, wm1]; done)))))
        refine wm_r ?_
        rw [← this]; exact mod
    · have hct := c_canTurn (d := d) (rt := rt) sq hcf hC.1 hC.2.1 (x := (i : Int)) (i32 (by omega) (by omega))
      rw [Int.toNat_natCast] at hct
      by_cases zb : ctB w n ρ i = true
      · rw [if_pos (show (0 ≤ (i : Int) ∧ (i : Int) < n) ∧ ctB w n ρ i = true from ⟨⟨by omega, by omega⟩, zb⟩)] at hct
        have es : cntB (ctB w n ρ) (i + 1) = cntB (ctB w n ρ) i + 1 := by rw [cntB, zb]; rfl
        by_cases ze : (cntB (ctB w n ρ) i : Int) = x
        · have := yes i (by omega) zb ze nA
          (repeat (first | (with_reducible apply wm_o; focus (simp (disch := omega) only [wr_id, Int.toNat_natCast, Int.reduceToNat, tn_lk, tn_kl, if_pos, if_neg, ↓reduceIte, and_self, and_true, true_and, FX, hce, hct, ex]; with_reducible rfl)) | (with_reducible apply wm_q) | (with_reducible apply wm_c; focus (first | assumption | decide +kernel)) | (with_reducible apply wm_d; focus (simp (disch := omega) only [wr_id, Int.toNat_natCast, Int.reduceToNat, tn_lk, tn_kl, if_pos, if_neg, ↓reduceIte, and_self, and_true, true_and, FX, hce, hct, ex]; with_reducible rfl)) | (with_reducible apply wm_t; focus (first | omega | (simp (disch := omega) only [wr_id, FX, hce, hct, ex]; omega) | (simp (disch := omega) only [wr_id, FX, hce, hct, ex]; done))) | (with_reducible apply wm_f; focus (first | omega | (simp (disch := omega) only [wr_id, FX, hce, hct, ex]; omega) | (simp (disch := omega) only [wr_id, FX, hce, hct, ex]; done)))))
          refine wm_r ?_
          rw [← this]; exact mod
        · (repeat (first | (with_reducible apply wm_o; focus (simp (disch := omega) only [wr_id, Int.toNat_natCast, Int.reduceToNat, tn_lk, tn_kl, if_pos, if_neg, ↓reduceIte, and_self, and_true, true_and, FX, hce, hct, ex]; with_reducible rfl)) | (with_reducible apply wm_q) | (with_reducible apply wm_c; focus (first | assumption | decide +kernel)) | (with_reducible apply wm_d; focus (simp (disch := omega) only [wr_id, Int.toNat_natCast, Int.reduceToNat, tn_lk, tn_kl, if_pos, if_neg, ↓reduceIte, and_self, and_true, true_and, FX, hce, hct, ex]; with_reducible rfl)) | (with_reducible apply wm_t; focus (first | omega | (simp (disch := omega) only [wr_id, FX, hce, hct, ex]; omega) | (simp (disch := omega) only [wr_id, FX, hce, hct, ex]; done))) | (with_reducible apply wm_f; focus (first | omega | (simp (disch := omega) only [wr_id, FX, hce, hct, ex]; omega) | (simp (disch := omega) only [wr_id, FX, hce, hct, ex]; done)))))
          refine hrec (i + 1) _ _ _ (by omega) (by omega) ⟨by rw [es]; omega, by omega, rfl, fun j hj => ?_⟩
          by_cases ej : j = i
          · rw [ej]; exact fun k => ze k.2
          · exact nA j (by omega)
      · rw [if_neg (fun q => zb q.2)] at hct
        have es : cntB (ctB w n ρ) (i + 1) = cntB (ctB w n ρ) i := by rw [cntB, if_neg zb]; rfl
        (repeat (first | (with_reducible apply wm_o; focus (simp (disch := omega) only [wr_id, Int.toNat_natCast, Int.reduceToNat, tn_lk, tn_kl, if_pos, if_neg, ↓reduceIte, and_self, and_true, true_and, FX, hce, hct]; with_reducible rfl)) | (with_reducible apply wm_q) | (with_reducible apply wm_c; focus (first | assumption | decide +kernel)) | (with_reducible apply wm_d; focus (simp (disch := omega) only [wr_id, Int.toNat_natCast, Int.reduceToNat, tn_lk, tn_kl, if_pos, if_neg, ↓reduceIte, and_self, and_true, true_and, FX, hce, hct]; with_reducible rfl)) | (with_reducible apply wm_t; focus (first | omega | (simp (disch := omega) only [wr_id, FX, hce, hct]; omega) | (simp (disch := omega) only [wr_id, FX, hce, hct]; done))) | (with_reducible apply wm_f; focus (first | omega | (simp (disch := omega) only [wr_id, FX, hce, hct]; omega) | (simp (disch := omega) only [wr_id, FX, hce, hct]; done)))))
        refine hrec (i + 1) _ _ _ (by omega) (by omega) ⟨by rw [es], by omega, rfl, fun j hj => ?_⟩
        by_cases ej : j = i
        · rw [ej]; exact fun k => zb k.1
        · exact nA j (by omega)
theorem P_cheapest (hI : INV t d rt I) {x : Int} (hx : in32 x) : both t d rt (f_X11_cheapest 0 x (mm t d rt I)) (fun M => f_X12_cheapest 369 x M) := by
  have hI' := hI
  obtain ⟨lv, w, h, n, nh, hl, sd, ifs, xs, hR, ρ, u, H, hd, G, hC, hM⟩ := hI
  have sq := hR.2.1
  have hcf := hR.2.2.1
  have hmf := hR.2.2.2.1
  have hz := hR.2.2.2.2.2.2.2.2.2
  have hn := sq.2.2.2.2.2.2.1
  have htx := hcf.1
  have kt := (tx_k htx).1
  have kb := (tx_k htx).2.2.2
  have ex := wr_in hx
  have hx' := hx
  unfold in32 at hx'
  have wm2 : jd_wr (-2) = -2 := by decide +kernel
  have w0 := wr_0
  have w1 := wr_1
  unfold both f_X11_cheapest
  by_cases z : 0 ≤ x ∧ x ≤ 1
  · have in1 := fun (M : jMem) => m_in_t (a := 0) (b := 1) (M := M) hx (i32 (by omega) (by omega)) (i32 (by omega) (by omega)) z
    have hx2 : x = 0 ∨ x = 1 := by omega
    obtain ⟨S, hS⟩ : ∃ S, S = lkS (prV ifs xs w nh ρ) (ctB w n ρ) := ⟨_, rfl⟩
    have sb : ∀ {i b v}, S i = some (b, v) → b < i ∧ v = prV ifs xs w nh ρ b := fun {i b v} q => by
      rw [hS] at q
      exact ⟨(lkS_at q).1, (lkS_at q).2.1⟩
    -- the model
    have mdl : ∀ J, frm scrC I J → wm t d rt (f_X12_cheapest 369 x (mm t d rt J)) (fun r' K => (if x = 0 then lkA (S n) else lkB (-2) (S n)) = jd_wr r' ∧ INV t d rt K) := by
      intro J jC
      have jS : frm (fun a => scrC a ∨ stS a) I J := frm_sub jC (fun a ha => Or.inl ha)
      have hRJ := REST_c jS hR
      have hMJ := stM_c jS hM
      unfold f_X12_cheapest
      (repeat (first | (with_reducible apply wm_o; focus (simp (disch := omega) only [wr_id, Int.toNat_natCast, Int.reduceToNat, tn_lk, tn_kl, if_pos, if_neg, ↓reduceIte, and_self, and_true, true_and, in1]; with_reducible rfl)) | (with_reducible apply wm_q) | (with_reducible apply wm_c; focus (first | assumption | decide +kernel)) | (with_reducible apply wm_d; focus (simp (disch := omega) only [wr_id, Int.toNat_natCast, Int.reduceToNat, tn_lk, tn_kl, if_pos, if_neg, ↓reduceIte, and_self, and_true, true_and, in1]; with_reducible rfl)) | (with_reducible apply wm_t; focus (first | omega | (simp (disch := omega) only [wr_id, in1]; omega) | (simp (disch := omega) only [wr_id, in1]; done))) | (with_reducible apply wm_f; focus (first | omega | (simp (disch := omega) only [wr_id, in1]; omega) | (simp (disch := omega) only [wr_id, in1]; done)))))
      refine wm_b (m_cop hRJ.2.2.2.1 hRJ.2.2.2.2.2.2.2.2.2 hMJ.1 hMJ.2.1) (fun v K hK => ?_)
      obtain ⟨k1, k2, k3, k4, k5⟩ := hK
      refine wm_lp4 n (fun i a b y L => a = lkA (S i) ∧ jd_wr b = lkB (-2) (S i) ∧ y = (i : Int) ∧ frM (fun a => a = 398 ∨ a = 399 ∨ a = 403) (fun j => j = 46) K L) ?_ (Nat.lt_of_le_of_lt hn (jfuel_n (by decide))) ⟨by rw [hS]; rfl, by rw [hS, wm2]; rfl, rfl, frM_refl _ _ _⟩
      rintro i hi a b y L ⟨rfl, hb, rfl, hL⟩ rec hrec
      have cL := cfM_frm hL (fun a _ _ _ _ _ _ _ _ => by omega) (by decide) k3
      have hceL := s_cells (t := t) (d := d) (rt := rt) cL.1
      have L4 : L 401 = ρ := (hL.1 401 (by decide) (by decide)).trans k4
      by_cases e : i = n
      · subst e
        have fin : INV t d rt L := INV_q hR hC hM jC (frM_trans k1 (frM_sub hL (fun a ha => by unfold scrM; omega) (fun a ha => by unfold scrF; omega))) (zM_fr k2 hL (by decide) (by decide) (by decide))
        have hA : jd_wr (lkA (S i)) = lkA (S i) := by
          cases q : S i with
          | none => exact wm2
          | some bv =>
            obtain ⟨b', v'⟩ := bv
            have := (sb q).1
            show jd_wr (b' : Int) = (b' : Int)
            exact wr_id (by omega) (by omega)
        rcases hx2 with rfl | rfl
        · (repeat (first | (with_reducible apply wm_o; focus (simp (disch := omega) only [wr_id, Int.toNat_natCast, Int.reduceToNat, tn_lk, tn_kl, if_pos, if_neg, ↓reduceIte, and_self, and_true, true_and, hceL]; with_reducible rfl)) | (with_reducible apply wm_q) | (with_reducible apply wm_c; focus (first | assumption | decide +kernel)) | (with_reducible apply wm_d; focus (simp (disch := omega) only [wr_id, Int.toNat_natCast, Int.reduceToNat, tn_lk, tn_kl, if_pos, if_neg, ↓reduceIte, and_self, and_true, true_and, hceL]; with_reducible rfl)) | (with_reducible apply wm_t; focus (first | omega | (simp (disch := omega) only [wr_id, hceL]; omega) | (simp (disch := omega) only [wr_id, hceL]; done))) | (with_reducible apply wm_f; focus (first | omega | (simp (disch := omega) only [wr_id, hceL]; omega) | (simp (disch := omega) only [wr_id, hceL]; done)))))
          exact wm_r ⟨by rw [if_pos rfl, hA], fin⟩
        · (repeat (first | (with_reducible apply wm_o; focus (simp (disch := omega) only [wr_id, Int.toNat_natCast, Int.reduceToNat, tn_lk, tn_kl, if_pos, if_neg, ↓reduceIte, and_self, and_true, true_and, hceL]; with_reducible rfl)) | (with_reducible apply wm_q) | (with_reducible apply wm_c; focus (first | assumption | decide +kernel)) | (with_reducible apply wm_d; focus (simp (disch := omega) only [wr_id, Int.toNat_natCast, Int.reduceToNat, tn_lk, tn_kl, if_pos, if_neg, ↓reduceIte, and_self, and_true, true_and, hceL]; with_reducible rfl)) | (with_reducible apply wm_t; focus (first | omega | (simp (disch := omega) only [wr_id, hceL]; omega) | (simp (disch := omega) only [wr_id, hceL]; done))) | (with_reducible apply wm_f; focus (first | omega | (simp (disch := omega) only [wr_id, hceL]; omega) | (simp (disch := omega) only [wr_id, hceL]; done)))))
          exact wm_r ⟨by rw [if_neg (by decide), hb], fin⟩
      · (repeat (first | (with_reducible apply wm_o; focus (simp (disch := omega) only [wr_id, Int.toNat_natCast, Int.reduceToNat, tn_lk, tn_kl, if_pos, if_neg, ↓reduceIte, and_self, and_true, true_and, hceL]; with_reducible rfl)) | (with_reducible apply wm_q) | (with_reducible apply wm_c; focus (first | assumption | decide +kernel)) | (with_reducible apply wm_d; focus (simp (disch := omega) only [wr_id, Int.toNat_natCast, Int.reduceToNat, tn_lk, tn_kl, if_pos, if_neg, ↓reduceIte, and_self, and_true, true_and, hceL]; with_reducible rfl)) | (with_reducible apply wm_t; focus (first | omega | (simp (disch := omega) only [wr_id, hceL]; omega) | (simp (disch := omega) only [wr_id, hceL]; done))) | (with_reducible apply wm_f; focus (first | omega | (simp (disch := omega) only [wr_id, hceL]; omega) | (simp (disch := omega) only [wr_id, hceL]; done)))))
        refine wm_b (m_canTurn cL.1 hC.1 L4 (x := (i : Int)) (i32 (by omega) (by omega))) (fun v2 N hN => ?_)
        obtain ⟨n1, n2⟩ := hN
        rw [Int.toNat_natCast] at n2
        have hLN : frM (fun a => a = 398 ∨ a = 399 ∨ a = 403) (fun j => j = 46) K N := frM_trans hL (frM_f n1 (fun a ha => by omega))
        have cN := cfM_frm hLN (fun a _ _ _ _ _ _ _ _ => by omega) (by decide) k3
        have N4 : N 401 = ρ := (hLN.1 401 (by decide) (by decide)).trans k4
        rcases n2 with ⟨rfl, q⟩ | ⟨rfl, q, a, k0, k1', hX, g0, g1⟩
        · have hb' : ctB w n ρ i = false := by
            cases e2 : ctB w n ρ i with
            | false => rfl
            | true => exact absurd ⟨⟨by omega, by omega⟩, e2⟩ q
          have es : S (i + 1) = S i := by rw [hS]; exact lkS_no hb'
          (repeat (first | (with_reducible apply wm_o; focus (simp (disch := omega) only [wr_id, Int.toNat_natCast, Int.reduceToNat, tn_lk, tn_kl, if_pos, if_neg, ↓reduceIte, and_self, and_true, true_and]; with_reducible rfl)) | (with_reducible apply wm_q) | (with_reducible apply wm_c; focus (first | assumption | decide +kernel)) | (with_reducible apply wm_d; focus (simp (disch := omega) only [wr_id, Int.toNat_natCast, Int.reduceToNat, tn_lk, tn_kl, if_pos, if_neg, ↓reduceIte, and_self, and_true, true_and]; with_reducible rfl)) | (with_reducible apply wm_t; focus (first | omega | (simp (disch := omega) only [wr_id]; omega) | (simp (disch := omega) only [wr_id]; done))) | (with_reducible apply wm_f; focus (first | omega | (simp (disch := omega) only [wr_id]; omega) | (simp (disch := omega) only [wr_id]; done)))))
          exact hrec (i + 1) _ _ _ _ (by omega) (by omega) ⟨by rw [es], by rw [es]; exact hb, by omega, hLN⟩
        · have hb' : ctB w n ρ i = true := (ct_iff hC.1).mpr ⟨a, k0, k1', hX⟩
          have pb := prV_b (ifs := ifs) (xs := xs) (w := w) (nh := nh) (ρ := ρ) i
          -- taken
          have take : ∀ P, frM (fun a => a = 398 ∨ a = 399 ∨ a = 403) (fun j => j = 46) K P → P 403 = N 403 → S (i + 1) = some (i, prV ifs xs w nh ρ i) → wm t d rt (jbd (f_X12_turnAsks 369 (mm t d rt P)) fun v9 M10 => rec (i : Int) v9 ((i : Int) + 1) M10) (fun r' K => (if x = 0 then lkA (S n) else lkB (-2) (S n)) = jd_wr r' ∧ INV t d rt K) := by
            intro P hP h403 es
            have cP := cfM_frm hP (fun a _ _ _ _ _ _ _ _ => by omega) (by decide) k3
            refine wm_b (m_price cP hC.1 ((hP.1 401 (by decide) (by decide)).trans k4) hX (by rw [h403]; exact g0) (by rw [h403]; exact g1)) (fun v9 P2 hP2 => ?_)
            exact hrec (i + 1) _ _ _ _ (by omega) (by omega) ⟨by rw [es]; rfl, by rw [es]; exact hP2.1, by omega, frM_trans hP (frM_sub hP2.2 (fun a ha => by omega) (fun a ha => ha))⟩
          cases q : S i with
          | none =>
            have es : S (i + 1) = some (i, prV ifs xs w nh ρ i) := by rw [hS] at q ⊢; exact lkS_n hb' q
            have eA : lkA none = -2 := rfl
            (repeat (first | (with_reducible apply wm_o; focus (simp (disch := omega) only [wr_id, Int.toNat_natCast, Int.reduceToNat, tn_lk, tn_kl, if_pos, if_neg, ↓reduceIte, and_self, and_true, true_and, eA]; with_reducible rfl)) | (with_reducible apply wm_q) | (with_reducible apply wm_c; focus (first | assumption | decide +kernel)) | (with_reducible apply wm_d; focus (simp (disch := omega) only [wr_id, Int.toNat_natCast, Int.reduceToNat, tn_lk, tn_kl, if_pos, if_neg, ↓reduceIte, and_self, and_true, true_and, eA]; with_reducible rfl)) | (with_reducible apply wm_t; focus (first | omega | (simp (disch := omega) only [wr_id, eA]; omega) | (simp (disch := omega) only [wr_id, eA]; done))) | (with_reducible apply wm_f; focus (first | omega | (simp (disch := omega) only [wr_id, eA]; omega) | (simp (disch := omega) only [wr_id, eA]; done)))))
            exact take N hLN rfl es
          | some bv =>
            obtain ⟨b', v'⟩ := bv
            have eA : lkA (some (b', v')) = (b' : Int) := rfl
            have b1 := (sb q).1
            have hbv : jd_wr b = v' := by rw [hb, q]; rfl
            (repeat (first | (with_reducible apply wm_o; focus (simp (disch := omega) only [wr_id, Int.toNat_natCast, Int.reduceToNat, tn_lk, tn_kl, if_pos, if_neg, ↓reduceIte, and_self, and_true, true_and, eA]; with_reducible rfl)) | (with_reducible apply wm_q) | (with_reducible apply wm_c; focus (first | assumption | decide +kernel)) | (with_reducible apply wm_d; focus (simp (disch := omega) only [wr_id, Int.toNat_natCast, Int.reduceToNat, tn_lk, tn_kl, if_pos, if_neg, ↓reduceIte, and_self, and_true, true_and, eA]; with_reducible rfl)) | (with_reducible apply wm_t; focus (first | omega | (simp (disch := omega) only [wr_id, eA]; omega) | (simp (disch := omega) only [wr_id, eA]; done))) | (with_reducible apply wm_f; focus (first | omega | (simp (disch := omega) only [wr_id, eA]; omega) | (simp (disch := omega) only [wr_id, eA]; done)))))
            refine wm_b (m_price cN hC.1 N4 hX g0 g1) (fun v9 P hP => ?_)
            obtain ⟨p1, p2⟩ := hP
            have fP := frM_trans hLN (frM_sub (S' := fun a => a = 398 ∨ a = 399 ∨ a = 403) (T' := fun j => j = 46) p2 (fun a ha => by omega) (fun a ha => ha))
            by_cases zl : prV ifs xs w nh ρ i < v'
            · have es : S (i + 1) = some (i, prV ifs xs w nh ρ i) := by rw [hS] at q ⊢; exact lkS_lt hb' q zl
              refine wm_t (by rw [p1, hbv]; exact zl) ?_
              (repeat (first | (with_reducible apply wm_o; focus (simp (disch := omega) only [wr_id, Int.toNat_natCast, Int.reduceToNat, tn_lk, tn_kl, if_pos, if_neg, ↓reduceIte, and_self, and_true, true_and]; with_reducible rfl)) | (with_reducible apply wm_q) | (with_reducible apply wm_c; focus (first | assumption | decide +kernel)) | (with_reducible apply wm_d; focus (simp (disch := omega) only [wr_id, Int.toNat_natCast, Int.reduceToNat, tn_lk, tn_kl, if_pos, if_neg, ↓reduceIte, and_self, and_true, true_and]; with_reducible rfl)) | (with_reducible apply wm_t; focus (first | omega | (simp (disch := omega) only [wr_id]; omega) | (simp (disch := omega) only [wr_id]; done))) | (with_reducible apply wm_f; focus (first | omega | (simp (disch := omega) only [wr_id]; omega) | (simp (disch := omega) only [wr_id]; done)))))
              exact take P fP (p2.1 403 (by decide) (by decide)) es
            · have es : S (i + 1) = some (b', v') := by rw [hS] at q ⊢; exact lkS_ge q zl
              refine wm_f (by rw [p1, hbv]; exact zl) ?_
              exact hrec (i + 1) _ _ _ _ (by omega) (by omega) ⟨by rw [es], by rw [es]; exact hbv, by omega, fP⟩
    have cls : wm t d rt (jlp4 (fun rec_20 (y2_20 : Int) (y3_20 : Int) (y4_20 : Int) (M_20 : jMem) =>
(jm_gR 11 2 M_20 0).bind fun r1 =>
jcall 8 M_20 r1 (f_X8_cells r1 M_20) fun v2 M3 =>
if jd_wr y4_20 < jd_wr v2 then (jcall 11 M3 0 (f_X11_canTurn 0 y4_20 M3) fun v4 M5 =>
jjq (fun (y2_67 : Int) (y3_67 : Int) (M_67 : jMem) =>
rec_20 y2_67 y3_67 (y4_20 + 1) M_67) fun j_67 =>
if jd_wr v4 = 0 then (j_67 y2_20 y3_20 M5)
else (jcall 11 M5 0 (f_X11_priceOfTurning 0 y4_20 M5) fun v6 M7 =>
jjq (j_67 y4_20 v6 M7) fun j_61 =>
if jd_wr y2_20 = jd_wr (-2) then (j_61 )
else (if jd_wr v6 < jd_wr y3_20 then (j_61 )
else (j_67 y2_20 y3_20 M7))))
else (if jd_wr x = 0 then (some (y2_20, M3))
else (some (y3_20, M3)))) jfuel (-2) (-2) 0 (mm t d rt I)) (fun r J => jd_wr r = (if x = 0 then lkA (S n) else lkB (-2) (S n)) ∧ frm scrC I J) := by
      refine wm_lp4 n (fun i a b y L => a = lkA (S i) ∧ jd_wr b = lkB (-2) (S i) ∧ y = (i : Int) ∧ frm (fun a => a = t + 12) I L) ?_ (Nat.lt_of_le_of_lt hn (jfuel_n (by decide))) ⟨by rw [hS]; rfl, by rw [hS, wm2]; rfl, rfl, frm_refl _ _⟩
      rintro i hi a b y L ⟨rfl, hb, rfl, hL⟩ rec hrec
      have cL := cfC_frm hL (fun a a1 a2 => by omega) hcf
      have sL := stR_frm hL (fun a a1 a2 => by omega) hC.2.1
      have hce := q_cells (d := d) (rt := rt) sq cL
      by_cases e : i = n
      · subst e
        have hA : jd_wr (lkA (S i)) = lkA (S i) := by
          cases q : S i with
          | none => exact wm2
          | some bv =>
            obtain ⟨b', v'⟩ := bv
            have := (sb q).1
            show jd_wr (b' : Int) = (b' : Int)
            exact wr_id (by omega) (by omega)
        rcases hx2 with rfl | rfl
        · (repeat (first | (with_reducible apply wm_o; focus (simp (disch := omega) only [wr_id, Int.toNat_natCast, Int.reduceToNat, tn_lk, tn_kl, if_pos, if_neg, ↓reduceIte, and_self, and_true, true_and, FX, hce]; with_reducible rfl)) | (with_reducible apply wm_q) | (with_reducible apply wm_c; focus (first | assumption | decide +kernel)) | (with_reducible apply wm_d; focus (simp (disch := omega) only [wr_id, Int.toNat_natCast, Int.reduceToNat, tn_lk, tn_kl, if_pos, if_neg, ↓reduceIte, and_self, and_true, true_and, FX, hce]; with_reducible rfl)) | (with_reducible apply wm_t; focus (first | omega | (simp (disch := omega) only [wr_id, FX, hce]; omega) | (simp (disch := omega) only [wr_id, FX, hce]; done))) | (with_reducible apply wm_f; focus (first | omega | (simp (disch := omega) only [wr_id, FX, hce]; omega) | (simp (disch := omega) only [wr_id, FX, hce]; done)))))
          exact wm_r ⟨by rw [if_pos rfl, hA], frm_sub hL (fun a ha => scr_12 htx a ha)⟩
        · (repeat (first | (with_reducible apply wm_o; focus (simp (disch := omega) only [wr_id, Int.toNat_natCast, Int.reduceToNat, tn_lk, tn_kl, if_pos, if_neg, ↓reduceIte, and_self, and_true, true_and, FX, hce]; with_reducible rfl)) | (with_reducible apply wm_q) | (with_reducible apply wm_c; focus (first | assumption | decide +kernel)) | (with_reducible apply wm_d; focus (simp (disch := omega) only [wr_id, Int.toNat_natCast, Int.reduceToNat, tn_lk, tn_kl, if_pos, if_neg, ↓reduceIte, and_self, and_true, true_and, FX, hce]; with_reducible rfl)) | (with_reducible apply wm_t; focus (first | omega | (simp (disch := omega) only [wr_id, FX, hce]; omega) | (simp (disch := omega) only [wr_id, FX, hce]; done))) | (with_reducible apply wm_f; focus (first | omega | (simp (disch := omega) only [wr_id, FX, hce]; omega) | (simp (disch := omega) only [wr_id, FX, hce]; done)))))
          exact wm_r ⟨by rw [if_neg (by decide), hb], frm_sub hL (fun a ha => scr_12 htx a ha)⟩
      · have hct := c_canTurn (d := d) (rt := rt) sq cL hC.1 sL (x := (i : Int)) (i32 (by omega) (by omega))
        rw [Int.toNat_natCast] at hct
        by_cases zb : ctB w n ρ i = true
        · rw [if_pos (show (0 ≤ (i : Int) ∧ (i : Int) < n) ∧ ctB w n ρ i = true from ⟨⟨by omega, by omega⟩, zb⟩)] at hct
          obtain ⟨a, k0, k1', hX⟩ := (ct_iff hC.1).mp zb
          have pb := prV_b (ifs := ifs) (xs := xs) (w := w) (nh := nh) (ρ := ρ) i
          (repeat (first | (with_reducible apply wm_o; focus (simp (disch := omega) only [wr_id, Int.toNat_natCast, Int.reduceToNat, tn_lk, tn_kl, if_pos, if_neg, ↓reduceIte, and_self, and_true, true_and, FX, hce, hct]; with_reducible rfl)) | (with_reducible apply wm_q) | (with_reducible apply wm_c; focus (first | assumption | decide +kernel)) | (with_reducible apply wm_d; focus (simp (disch := omega) only [wr_id, Int.toNat_natCast, Int.reduceToNat, tn_lk, tn_kl, if_pos, if_neg, ↓reduceIte, and_self, and_true, true_and, FX, hce, hct]; with_reducible rfl)) | (with_reducible apply wm_t; focus (first | omega | (simp (disch := omega) only [wr_id, FX, hce, hct]; omega) | (simp (disch := omega) only [wr_id, FX, hce, hct]; done))) | (with_reducible apply wm_f; focus (first | omega | (simp (disch := omega) only [wr_id, FX, hce, hct]; omega) | (simp (disch := omega) only [wr_id, FX, hce, hct]; done)))))
          refine wm_b (c_price sq cL hC.1 sL hX) (fun v6 P hP => ?_)
          obtain ⟨p1, p2⟩ := hP
          cases q : S i with
          | none =>
            have es : S (i + 1) = some (i, prV ifs xs w nh ρ i) := by rw [hS] at q ⊢; exact lkS_n zb q
            have eA : lkA none = -2 := rfl
            (repeat (first | (with_reducible apply wm_o; focus (simp (disch := omega) only [wr_id, Int.toNat_natCast, Int.reduceToNat, tn_lk, tn_kl, if_pos, if_neg, ↓reduceIte, and_self, and_true, true_and, eA]; with_reducible rfl)) | (with_reducible apply wm_q) | (with_reducible apply wm_c; focus (first | assumption | decide +kernel)) | (with_reducible apply wm_d; focus (simp (disch := omega) only [wr_id, Int.toNat_natCast, Int.reduceToNat, tn_lk, tn_kl, if_pos, if_neg, ↓reduceIte, and_self, and_true, true_and, eA]; with_reducible rfl)) | (with_reducible apply wm_t; focus (first | omega | (simp (disch := omega) only [wr_id, eA]; omega) | (simp (disch := omega) only [wr_id, eA]; done))) | (with_reducible apply wm_f; focus (first | omega | (simp (disch := omega) only [wr_id, eA]; omega) | (simp (disch := omega) only [wr_id, eA]; done)))))
            exact hrec (i + 1) _ _ _ _ (by omega) (by omega) ⟨by rw [es]; rfl, by rw [es]; exact p1, by omega, frm_trans hL p2⟩
          | some bv =>
            obtain ⟨b', v'⟩ := bv
            have eA : lkA (some (b', v')) = (b' : Int) := rfl
            have b1 := (sb q).1
            have hbv : jd_wr b = v' := by rw [hb, q]; rfl
            (repeat (first | (with_reducible apply wm_o; focus (simp (disch := omega) only [wr_id, Int.toNat_natCast, Int.reduceToNat, tn_lk, tn_kl, if_pos, if_neg, ↓reduceIte, and_self, and_true, true_and, eA]; with_reducible rfl)) | (with_reducible apply wm_q) | (with_reducible apply wm_c; focus (first | assumption | decide +kernel)) | (with_reducible apply wm_d; focus (simp (disch := omega) only [wr_id, Int.toNat_natCast, Int.reduceToNat, tn_lk, tn_kl, if_pos, if_neg, ↓reduceIte, and_self, and_true, true_and, eA]; with_reducible rfl)) | (with_reducible apply wm_t; focus (first | omega | (simp (disch := omega) only [wr_id, eA]; omega) | (simp (disch := omega) only [wr_id, eA]; done))) | (with_reducible apply wm_f; focus (first | omega | (simp (disch := omega) only [wr_id, eA]; omega) | (simp (disch := omega) only [wr_id, eA]; done)))))
            by_cases zl : prV ifs xs w nh ρ i < v'
            · have es : S (i + 1) = some (i, prV ifs xs w nh ρ i) := by rw [hS] at q ⊢; exact lkS_lt zb q zl
              refine wm_t (by rw [p1, hbv]; exact zl) ?_
              exact hrec (i + 1) _ _ _ _ (by omega) (by omega) ⟨by rw [es]; rfl, by rw [es]; exact p1, by omega, frm_trans hL p2⟩
            · have es : S (i + 1) = some (b', v') := by rw [hS] at q ⊢; exact lkS_ge q zl
              refine wm_f (by rw [p1, hbv]; exact zl) ?_
              exact hrec (i + 1) _ _ _ _ (by omega) (by omega) ⟨by rw [es], by rw [es]; exact hbv, by omega, frm_trans hL p2⟩
        · rw [if_neg (fun q => zb q.2)] at hct
          have es : S (i + 1) = S i := by rw [hS]; exact lkS_no (by simpa using zb)
          (repeat (first | (with_reducible apply wm_o; focus (simp (disch := omega) only [wr_id, Int.toNat_natCast, Int.reduceToNat, tn_lk, tn_kl, if_pos, if_neg, ↓reduceIte, and_self, and_true, true_and, FX, hce, hct]; with_reducible rfl)) | (with_reducible apply wm_q) | (with_reducible apply wm_c; focus (first | assumption | decide +kernel)) | (with_reducible apply wm_d; focus (simp (disch := omega) only [wr_id, Int.toNat_natCast, Int.reduceToNat, tn_lk, tn_kl, if_pos, if_neg, ↓reduceIte, and_self, and_true, true_and, FX, hce, hct]; with_reducible rfl)) | (with_reducible apply wm_t; focus (first | omega | (simp (disch := omega) only [wr_id, FX, hce, hct]; omega) | (simp (disch := omega) only [wr_id, FX, hce, hct]; done))) | (with_reducible apply wm_f; focus (first | omega | (simp (disch := omega) only [wr_id, FX, hce, hct]; omega) | (simp (disch := omega) only [wr_id, FX, hce, hct]; done)))))
          exact hrec (i + 1) _ _ _ _ (by omega) (by omega) ⟨by rw [es], by rw [es]; exact hb, by omega, hL⟩
    have both' := wm_w cls (fun r J hJ => (by rw [hJ.1]; exact mdl J hJ.2 : wm t d rt (f_X12_cheapest 369 x (mm t d rt J)) (fun r' K => jd_wr r = jd_wr r' ∧ INV t d rt K)))
    rcases hx2 with rfl | rfl
    · exact wm_q (wm_t (by rw [w0]) both')
    · exact wm_q (wm_f (by rw [w1]; decide) (wm_t rfl both'))
  · have in1 := fun (M : jMem) => m_in_f (a := 0) (b := 1) (M := M) hx (i32 (by omega) (by omega)) (i32 (by omega) (by omega)) z
    (repeat (first | (with_reducible apply wm_o; focus (simp (disch := omega) only [wr_id, Int.toNat_natCast, Int.reduceToNat, tn_lk, tn_kl, if_pos, if_neg, ↓reduceIte, and_self, and_true, true_and, ex, w1]; with_reducible rfl)) | (with_reducible apply wm_q) | (with_reducible apply wm_c; focus (first | assumption | decide +kernel)) | (with_reducible apply wm_d; focus (simp (disch := omega) only [wr_id, Int.toNat_natCast, Int.reduceToNat, tn_lk, tn_kl, if_pos, if_neg, ↓reduceIte, and_self, and_true, true_and, ex, w1]; with_reducible rfl)) | (with_reducible apply wm_t; focus (first | omega | (simp (disch := omega) only [wr_id, ex, w1]; omega) | (simp (disch := omega) only [wr_id, ex, w1]; done))) | (with_reducible apply wm_f; focus (first | omega | (simp (disch := omega) only [wr_id, ex, w1]; omega) | (simp (disch := omega) only [wr_id, ex, w1]; done)))))
    refine wm_r ?_
    show wm t d rt (f_X12_cheapest 369 x (mm t d rt I)) _
    unfold f_X12_cheapest
    (repeat (first | (with_reducible apply wm_o; focus (simp (disch := omega) only [wr_id, Int.toNat_natCast, Int.reduceToNat, tn_lk, tn_kl, if_pos, if_neg, ↓reduceIte, and_self, and_true, true_and, in1]; with_reducible rfl)) | (with_reducible apply wm_q) | (with_reducible apply wm_c; focus (first | assumption | decide +kernel)) | (with_reducible apply wm_d; focus (simp (disch := omega) only [wr_id, Int.toNat_natCast, Int.reduceToNat, tn_lk, tn_kl, if_pos, if_neg, ↓reduceIte, and_self, and_true, true_and, in1]; with_reducible rfl)) | (with_reducible apply wm_t; focus (first | omega | (simp (disch := omega) only [wr_id, in1]; omega) | (simp (disch := omega) only [wr_id, in1]; done))) | (with_reducible apply wm_f; focus (first | omega | (simp (disch := omega) only [wr_id, in1]; omega) | (simp (disch := omega) only [wr_id, in1]; done)))))
    exact wm_r ⟨rfl, hI'⟩
end TS
