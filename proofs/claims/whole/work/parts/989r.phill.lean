/-! ===== calls: hill ===== -/
section PH
variable {t d rt : Nat} {I J K : Nat → Nat → Int} {lv w h n nh r : Nat} {hl cl na nd U : Nat → Bool} {sd : Int} {ifs : Nat → List LwI} {xs : Nat → List CI} {ρ : Nat → Int} {u : Nat} {H : Nat → Nat → Int} {hd : Nat → Bool} {G : Nat → Nat → Int} {p : List Int}
theorem REST_h (hf : frM (fun a => a = 412) (fun _ => False) I J) (h0 : J 412 0 = 0) (hR : REST t d rt lv w h n nh hl sd ifs xs I) : REST t d rt lv w h n nh hl sd ifs xs J := by
  obtain ⟨r0, r1, r2, r3, r4, r5, r6, r7, r8, r9⟩ := hR
  have kt := tx_k r2.1
  have c : ∀ a, a ≠ 412 → J a = I a := fun a ha => by
    by_cases e : a = 369
    · subst e; funext j; exact hf.2 j (fun q => q)
    · exact hf.1 a e ha
  have cf : frm (fun a => a = 412) I J := fun a ha => c a ha
  refine ⟨r0, r1, cfC_frm cf (fun a a1 a2 => by omega) r2, cfM_frm hf (fun a a1 a2 _ _ _ _ _ _ => by omega) (fun q => q) r3, ?_, ?_, ?_, ?_, ?_, ?_⟩
  · unfold tdI at r4 ⊢
    rw [c 308 (by omega), c 309 (by omega), c 310 (by omega), c 369 (by omega), c 414 (by omega), c 415 (by omega)]
    exact r4
  · unfold tpI at r5 ⊢
    rw [c 1 (by omega), c 2 (by omega), c 369 (by omega), c 370 (by omega)]
    exact r5
  · unfold plI at r6 ⊢
    rw [c 29 (by omega), c 369 (by omega)]
    exact r6
  · obtain ⟨q1, q2, q3⟩ := r7
    have hh : h ≤ 6 := r1.2.2.2.1
    refine ⟨rCfg_frm (c _ (by omega)) (c _ (by omega)) (c _ (by omega)) (c _ (by omega)) (c _ (by omega)) q1, fun y hy mm' hm => ?_, ?_⟩
    · rw [c _ (by omega)]; exact q2 y hy mm' hm
    · rw [c 336 (by omega)]; exact q3
  · obtain ⟨k1, k2, k3⟩ := r8
    refine ⟨by rw [c 376 (by omega)]; exact k1, h0, ?_⟩
    unfold rgI at k3 ⊢
    rw [c 369 (by omega), c 387 (by omega), c 388 (by omega), c 389 (by omega), c 390 (by omega), c 392 (by omega), c 393 (by omega)]
    exact k3
  · unfold zM b01 at r9 ⊢
    rw [c 401 (by omega), c 409 (by omega), c 410 (by omega)]
    exact r9
/-- a call that asks for hills -/
theorem INV_h (hR : REST t d rt lv w h n nh hl sd ifs xs I) (hC : stC I w n hl ρ u H hd G) (hM : stM I ρ u H hd G) (hf : frm scrC I J) (hm : frM (fun a => scrM a ∨ a = 412) scrF J K) (hz : zM K) (h0 : K 412 0 = 0) : INV t d rt K := by
  -- first all but 412, then 412
  obtain ⟨K', hK'⟩ : ∃ K' : Nat → Nat → Int, K' = fun a => if a = 412 then J 412 else K a := ⟨_, rfl⟩
  have e1 : ∀ a, a ≠ 412 → K' a = K a := fun a ha => by rw [hK']; exact if_neg ha
  have e2 : K' 412 = J 412 := by rw [hK']; exact if_pos rfl
  have f1 : frM scrM scrF J K' := ⟨fun a ha hS => by
    by_cases e : a = 412
    · rw [e, e2]
    · rw [e1 a e]; exact hm.1 a ha (fun q => q.elim hS e), fun j hj => by rw [e1 369 (by decide)]; exact hm.2 j hj⟩
  have f2 : frM (fun a => a = 412) (fun _ => False) K' K := ⟨fun a ha hS => (e1 a hS).symm, fun j _ => by rw [e1 369 (by decide)]⟩
  have z1 : zM K' := by
    unfold zM b01 at hz ⊢
    rw [e1 401 (by decide), e1 409 (by decide), e1 410 (by decide)]
    exact hz
  have hf' : frm (fun a => scrC a ∨ stS a) I J := frm_sub hf (fun a ha => Or.inl ha)
  have hR1 := REST_h f2 h0 (REST_m (frM_sub f1 (fun a ha => Or.inl ha) (fun a ha => Or.inl ha)) z1 (REST_c hf' hR))
  have hC1 : stC K w n hl ρ u H hd G := stC_m hm (fun a ha => by unfold scrM; omega) (stC_frm hf (fun a ha => by unfold stS at ha; unfold scrC; omega) hC)
  have hM1 : stM K ρ u H hd G := stM_frm (hm.1 400 (by decide) (by unfold scrM; omega)) (hm.1 405 (by decide) (by unfold scrM; omega)) (hm.1 416 (by decide) (by unfold scrM; omega)) (hm.1 417 (by decide) (by unfold scrM; omega)) (hm.2 53 (by unfold scrF; omega)) (stM_c hf' hM)
  exact ⟨lv, w, h, n, nh, hl, sd, ifs, xs, hR1, ρ, u, H, hd, G, hC1, hM1⟩
theorem q_hasHills (sq : sqOK w h n nh hl) (c : cfC I t w h n nh hl sd ifs xs) (hr : rOK w n hl ρ) (hst : stR I 34 w ρ) : f_X11_hasHills 0 (mm t d rt I) = some (if nh = 0 ∧ 2 * rMany ρ = n then 1 else 0, mm t d rt I) := by
  have hp := q_isPaved (d := d) (rt := rt) sq c hr hst
  have hle := (free_nn hr sq).1
  have hn := sq.2.2.2.2.2.2.1
  have c5 := c.2.2.2.2.1
  have htx := c.1
  have kt := (tx_k htx).1
  refine wm_eq ?_
  unfold f_X11_hasHills
  by_cases z0 : nh = 0
  · by_cases z : 2 * rMany ρ = n
    · rw [if_pos ⟨z0, z⟩]
      rw [if_pos (by omega)] at hp
      (repeat (first | (with_reducible apply wm_o; focus (simp (disch := omega) only [wr_id, Int.toNat_natCast, Int.reduceToNat, tn_lk, tn_kl, if_pos, if_neg, ↓reduceIte, and_self, and_true, true_and, FX, FText htx, c5, hp]; with_reducible rfl)) | (with_reducible apply wm_q) | (with_reducible apply wm_c; focus (first | assumption | decide +kernel)) | (with_reducible apply wm_d; focus (simp (disch := omega) only [wr_id, Int.toNat_natCast, Int.reduceToNat, tn_lk, tn_kl, if_pos, if_neg, ↓reduceIte, and_self, and_true, true_and, FX, FText htx, c5, hp]; with_reducible rfl)) | (with_reducible apply wm_t; focus (first | omega | (simp (disch := omega) only [wr_id, FX, FText htx, c5, hp]; omega) | (simp (disch := omega) only [wr_id, FX, FText htx, c5, hp]; done))) | (with_reducible apply wm_f; focus (first | omega | (simp (disch := omega) only [wr_id, FX, FText htx, c5, hp]; omega) | (simp (disch := omega) only [wr_id, FX, FText htx, c5, hp]; done)))))
      exact wm_z1 ⟨rfl, rfl⟩
    · rw [if_neg (fun q => z q.2)]
      rw [if_neg (by omega)] at hp
      (repeat (first | (with_reducible apply wm_o; focus (simp (disch := omega) only [wr_id, Int.toNat_natCast, Int.reduceToNat, tn_lk, tn_kl, if_pos, if_neg, ↓reduceIte, and_self, and_true, true_and, FX, FText htx, c5, hp]; with_reducible rfl)) | (with_reducible apply wm_q) | (with_reducible apply wm_c; focus (first | assumption | decide +kernel)) | (with_reducible apply wm_d; focus (simp (disch := omega) only [wr_id, Int.toNat_natCast, Int.reduceToNat, tn_lk, tn_kl, if_pos, if_neg, ↓reduceIte, and_self, and_true, true_and, FX, FText htx, c5, hp]; with_reducible rfl)) | (with_reducible apply wm_t; focus (first | omega | (simp (disch := omega) only [wr_id, FX, FText htx, c5, hp]; omega) | (simp (disch := omega) only [wr_id, FX, FText htx, c5, hp]; done))) | (with_reducible apply wm_f; focus (first | omega | (simp (disch := omega) only [wr_id, FX, FText htx, c5, hp]; omega) | (simp (disch := omega) only [wr_id, FX, FText htx, c5, hp]; done)))))
      exact wm_z0 ⟨rfl, rfl⟩
  · rw [if_neg (fun q => z0 q.1)]
    (repeat (first | (with_reducible apply wm_o; focus (simp (disch := omega) only [wr_id, Int.toNat_natCast, Int.reduceToNat, tn_lk, tn_kl, if_pos, if_neg, ↓reduceIte, and_self, and_true, true_and, FX, FText htx, c5]; with_reducible rfl)) | (with_reducible apply wm_q) | (with_reducible apply wm_c; focus (first | assumption | decide +kernel)) | (with_reducible apply wm_d; focus (simp (disch := omega) only [wr_id, Int.toNat_natCast, Int.reduceToNat, tn_lk, tn_kl, if_pos, if_neg, ↓reduceIte, and_self, and_true, true_and, FX, FText htx, c5]; with_reducible rfl)) | (with_reducible apply wm_t; focus (first | omega | (simp (disch := omega) only [wr_id, FX, FText htx, c5]; omega) | (simp (disch := omega) only [wr_id, FX, FText htx, c5]; done))) | (with_reducible apply wm_f; focus (first | omega | (simp (disch := omega) only [wr_id, FX, FText htx, c5]; omega) | (simp (disch := omega) only [wr_id, FX, FText htx, c5]; done)))))
    exact wm_z0 ⟨rfl, rfl⟩
theorem m_isHilly (c : cfM I lv w h n nh hl sd ifs xs) (sq : sqOK w h n nh hl) (hz : zM I) (hr : rOK w n hl ρ) (h0 : I 400 = ρ) (hρ : ∀ j, 75 ≤ j → ρ j = 0) : wm t d rt (f_X12_isHilly 369 (mm t d rt I)) (fun r K => r = (if nh = 0 ∧ 2 * rMany ρ = n then 1 else 0) ∧ frM (fun a => a = 401) (fun j => j = 49) I K ∧ zM K ∧ cfM K lv w h n nh hl sd ifs xs ∧ K 401 = ρ) := by
  have hle := (free_nn hr sq).1
  have hn := sq.2.2.2.2.2.2.1
  have hv := vRow_of hr hn
  unfold f_X12_isHilly
  (repeat (first | (with_reducible apply wm_o; focus (simp (disch := omega) only [wr_id, Int.toNat_natCast, Int.reduceToNat, tn_lk, tn_kl, if_pos, if_neg, ↓reduceIte, and_self, and_true, true_and]; with_reducible rfl)) | (with_reducible apply wm_q) | (with_reducible apply wm_c; focus (first | assumption | decide +kernel)) | (with_reducible apply wm_d; focus (simp (disch := omega) only [wr_id, Int.toNat_natCast, Int.reduceToNat, tn_lk, tn_kl, if_pos, if_neg, ↓reduceIte, and_self, and_true, true_and]; with_reducible rfl)) | (with_reducible apply wm_t; focus (first | omega | (simp (disch := omega) only [wr_id]; omega) | (simp (disch := omega) only [wr_id]; done))) | (with_reducible apply wm_f; focus (first | omega | (simp (disch := omega) only [wr_id]; omega) | (simp (disch := omega) only [wr_id]; done)))))
  refine wm_b (m_copies c.1 c.2.2.1 (by rw [h0]; exact hρ) hz.1) (fun v K hK => ?_)
  obtain ⟨k1, k4, k5⟩ := hK
  rw [h0] at k4
  have k2 : zM K := by
    refine ⟨by rw [k4]; exact hρ, ?_, ?_⟩
    · unfold b01; rw [k1.1 409 (by decide) (by decide)]; exact hz.2.1
    · unfold b01; rw [k1.1 410 (by decide) (by decide)]; exact hz.2.2
  have k3 := cfM_frm k1 (fun a _ _ _ _ _ _ _ _ => by omega) (by decide) c
  have e18 := k3.1.1
  have elv := k3.1.2.1
  have e79 := k3.2.1
  have hfm := m_freeMany (t := t) (d := d) (rt := rt) k3.1 k3.2.1 (by rw [k4]; exact hv)
  rw [k4] at hfm
  by_cases z0 : nh = 0
  · by_cases z : 2 * rMany ρ = n
    · rw [if_pos ⟨z0, z⟩]
      (repeat (first | (with_reducible apply wm_o; focus (simp (disch := omega) only [wr_id, Int.toNat_natCast, Int.reduceToNat, tn_lk, tn_kl, if_pos, if_neg, ↓reduceIte, and_self, and_true, true_and, FM, e18, e79, hfm]; with_reducible rfl)) | (with_reducible apply wm_q) | (with_reducible apply wm_c; focus (first | assumption | decide +kernel)) | (with_reducible apply wm_d; focus (simp (disch := omega) only [wr_id, Int.toNat_natCast, Int.reduceToNat, tn_lk, tn_kl, if_pos, if_neg, ↓reduceIte, and_self, and_true, true_and, FM, e18, e79, hfm]; with_reducible rfl)) | (with_reducible apply wm_t; focus (first | omega | (simp (disch := omega) only [wr_id, FM, e18, e79, hfm]; omega) | (simp (disch := omega) only [wr_id, FM, e18, e79, hfm]; done))) | (with_reducible apply wm_f; focus (first | omega | (simp (disch := omega) only [wr_id, FM, e18, e79, hfm]; omega) | (simp (disch := omega) only [wr_id, FM, e18, e79, hfm]; done)))))
      exact wm_z1 ⟨rfl, k1, k2, k3, k4⟩
    · rw [if_neg (fun q => z q.2)]
      (repeat (first | (with_reducible apply wm_o; focus (simp (disch := omega) only [wr_id, Int.toNat_natCast, Int.reduceToNat, tn_lk, tn_kl, if_pos, if_neg, ↓reduceIte, and_self, and_true, true_and, FM, e18, e79, hfm]; with_reducible rfl)) | (with_reducible apply wm_q) | (with_reducible apply wm_c; focus (first | assumption | decide +kernel)) | (with_reducible apply wm_d; focus (simp (disch := omega) only [wr_id, Int.toNat_natCast, Int.reduceToNat, tn_lk, tn_kl, if_pos, if_neg, ↓reduceIte, and_self, and_true, true_and, FM, e18, e79, hfm]; with_reducible rfl)) | (with_reducible apply wm_t; focus (first | omega | (simp (disch := omega) only [wr_id, FM, e18, e79, hfm]; omega) | (simp (disch := omega) only [wr_id, FM, e18, e79, hfm]; done))) | (with_reducible apply wm_f; focus (first | omega | (simp (disch := omega) only [wr_id, FM, e18, e79, hfm]; omega) | (simp (disch := omega) only [wr_id, FM, e18, e79, hfm]; done)))))
      exact wm_z0 ⟨rfl, k1, k2, k3, k4⟩
  · rw [if_neg (fun q => z0 q.1)]
    (repeat (first | (with_reducible apply wm_o; focus (simp (disch := omega) only [wr_id, Int.toNat_natCast, Int.reduceToNat, tn_lk, tn_kl, if_pos, if_neg, ↓reduceIte, and_self, and_true, true_and, FM, e18, e79]; with_reducible rfl)) | (with_reducible apply wm_q) | (with_reducible apply wm_c; focus (first | assumption | decide +kernel)) | (with_reducible apply wm_d; focus (simp (disch := omega) only [wr_id, Int.toNat_natCast, Int.reduceToNat, tn_lk, tn_kl, if_pos, if_neg, ↓reduceIte, and_self, and_true, true_and, FM, e18, e79]; with_reducible rfl)) | (with_reducible apply wm_t; focus (first | omega | (simp (disch := omega) only [wr_id, FM, e18, e79]; omega) | (simp (disch := omega) only [wr_id, FM, e18, e79]; done))) | (with_reducible apply wm_f; focus (first | omega | (simp (disch := omega) only [wr_id, FM, e18, e79]; omega) | (simp (disch := omega) only [wr_id, FM, e18, e79]; done)))))
    exact wm_z0 ⟨rfl, k1, k2, k3, k4⟩
/-- the model's hills of what lies -/
theorem m_hillsNow (c : cfM I lv w h n nh hl sd ifs xs) (sq : sqOK w h n nh hl) (hz : zM I) (hr : rOK w n hl ρ) (h0 : I 400 = ρ) (hρ : ∀ j, 75 ≤ j → ρ j = 0) (hf : nh + 2 * rMany ρ = n) (h12 : I 412 0 = 0) : wm t d rt (f_X12_fillsHillsNow 369 (mm t d rt I)) (fun _ K => frM (fun a => a = 401 ∨ a = 411 ∨ a = 412) (fun j => j = 49) I K ∧ zM K ∧ cfM K lv w h n nh hl sd ifs xs ∧ K 401 = ρ ∧ K 412 0 = 0 ∧ ∀ y, y ≤ h → ∀ x, x ≤ w → K 412 (7 * y + x) = hlC w y (lnF w h (pvR ρ n) y) x) := by
  have hpm := pv_mem hr sq hf
  have hn := sq.2.2.2.2.2.2.1
  unfold f_X12_fillsHillsNow
  (repeat (first | (with_reducible apply wm_o; focus (simp (disch := omega) only [wr_id, Int.toNat_natCast, Int.reduceToNat, tn_lk, tn_kl, if_pos, if_neg, ↓reduceIte, and_self, and_true, true_and]; with_reducible rfl)) | (with_reducible apply wm_q) | (with_reducible apply wm_c; focus (first | assumption | decide +kernel)) | (with_reducible apply wm_d; focus (simp (disch := omega) only [wr_id, Int.toNat_natCast, Int.reduceToNat, tn_lk, tn_kl, if_pos, if_neg, ↓reduceIte, and_self, and_true, true_and]; with_reducible rfl)) | (with_reducible apply wm_t; focus (first | omega | (simp (disch := omega) only [wr_id]; omega) | (simp (disch := omega) only [wr_id]; done))) | (with_reducible apply wm_f; focus (first | omega | (simp (disch := omega) only [wr_id]; omega) | (simp (disch := omega) only [wr_id]; done)))))
  refine wm_b (m_fillsNow c hz hr h0 hρ) (fun v J hJ => ?_)
  obtain ⟨j1, j2, j3, j4, j5⟩ := hJ
  (repeat (first | (with_reducible apply wm_o; focus (simp (disch := omega) only [wr_id, Int.toNat_natCast, Int.reduceToNat, tn_lk, tn_kl, if_pos, if_neg, ↓reduceIte, and_self, and_true, true_and]; with_reducible rfl)) | (with_reducible apply wm_q) | (with_reducible apply wm_c; focus (first | assumption | decide +kernel)) | (with_reducible apply wm_d; focus (simp (disch := omega) only [wr_id, Int.toNat_natCast, Int.reduceToNat, tn_lk, tn_kl, if_pos, if_neg, ↓reduceIte, and_self, and_true, true_and]; with_reducible rfl)) | (with_reducible apply wm_t; focus (first | omega | (simp (disch := omega) only [wr_id]; omega) | (simp (disch := omega) only [wr_id]; done))) | (with_reducible apply wm_f; focus (first | omega | (simp (disch := omega) only [wr_id]; omega) | (simp (disch := omega) only [wr_id]; done)))))
  refine wm_b (m_fillsHills j3.1 sq hpm ((congrFun (j1.1 412 (by decide) (by decide)) 0).trans h12) (fun x hx => by rw [j5 x (by omega), pv_get hx])) (fun v2 K hK => ?_)
  obtain ⟨k1, k2, k3⟩ := hK
  refine wm_r ⟨frM_trans (frM_sub j1 (fun a ha => by omega) (fun a ha => ha)) (frM_f k1 (fun a ha => by omega)), zM_fr j2 k1 (by decide) (by decide) (by decide), cfM_frm k1 (fun a _ _ _ _ _ _ _ _ => by omega) (fun q => q) j3, (k1.1 401 (by decide) (by decide)).trans j4, k2, k3⟩
theorem P_hill (hI : INV t d rt I) {x y : Int} (hx : in32 x) (hy : in32 y) : both t d rt (f_X11_hill 0 x y (mm t d rt I)) (fun M => f_X12_hill 369 x y M) := by
  have hI' := hI
  obtain ⟨lv, w, h, n, nh, hl, sd, ifs, xs, hR, ρ, u, H, hd, G, hC, hM⟩ := hI
  have sq := hR.2.1
  have hcf := hR.2.2.1
  have hmf := hR.2.2.2.1
  have hz := hR.2.2.2.2.2.2.2.2.2
  have hE := hR.2.2.2.2.2.2.2.1
  have hky := hR.2.2.2.2.2.2.2.2.1
  have htx := hcf.1
  have kt := (tx_k htx).1
  have hnw := sq.2.2.2.2.1
  have hn := sq.2.2.2.2.2.2.1
  have hw : 2 ≤ w ∧ w ≤ 6 := ⟨sq.1, sq.2.1⟩
  have hh : 2 ≤ h ∧ h ≤ 6 := ⟨sq.2.2.1, sq.2.2.2.1⟩
  have hhi := q_hasHills (d := d) (rt := rt) sq hcf hC.1 hC.2.1
  have c20 := hcf.2.1
  have c30 := hcf.2.2.1
  have ex := wr_in hx
  have ey := wr_in hy
  have hx' := hx
  have hy' := hy
  unfold in32 at hx' hy'
  -- the model, where nothing is to be told
  have no : ¬ ((nh = 0 ∧ 2 * rMany ρ = n) ∧ (0 ≤ x ∧ x ≤ w) ∧ (0 ≤ y ∧ y ≤ h)) → wm t d rt (f_X12_hill 369 x y (mm t d rt I)) (fun r' K => jd_wr (-100) = jd_wr r' ∧ INV t d rt K) := by
    intro hno
    have hwm := s_w (t := t) (d := d) (rt := rt) hmf.1
    have e18 := hmf.1.1
    have elv := hmf.1.2.1
    have e78 := hmf.1.2.2.2.1
    unfold f_X12_hill
    by_cases zx : 0 ≤ x ∧ x ≤ w
    · have in1 := fun (M : jMem) => m_in_t (a := 0) (b := (w : Int)) (M := M) hx (i32 (by omega) (by omega)) (i32 (by omega) (by omega)) zx
      by_cases zy : 0 ≤ y ∧ y ≤ h
      · have in2 := fun (M : jMem) => m_in_t (a := 0) (b := (h : Int)) (M := M) hy (i32 (by omega) (by omega)) (i32 (by omega) (by omega)) zy
        (repeat (first | (with_reducible apply wm_o; focus (simp (disch := omega) only [wr_id, Int.toNat_natCast, Int.reduceToNat, tn_lk, tn_kl, if_pos, if_neg, ↓reduceIte, and_self, and_true, true_and, hwm, in1, FM, e18, e78, in2]; with_reducible rfl)) | (with_reducible apply wm_q) | (with_reducible apply wm_c; focus (first | assumption | decide +kernel)) | (with_reducible apply wm_d; focus (simp (disch := omega) only [wr_id, Int.toNat_natCast, Int.reduceToNat, tn_lk, tn_kl, if_pos, if_neg, ↓reduceIte, and_self, and_true, true_and, hwm, in1, FM, e18, e78, in2]; with_reducible rfl)) | (with_reducible apply wm_t; focus (first | omega | (simp (disch := omega) only [wr_id, hwm, in1, FM, e18, e78, in2]; omega) | (simp (disch := omega) only [wr_id, hwm, in1, FM, e18, e78, in2]; done))) | (with_reducible apply wm_f; focus (first | omega | (simp (disch := omega) only [wr_id, hwm, in1, FM, e18, e78, in2]; omega) | (simp (disch := omega) only [wr_id, hwm, in1, FM, e18, e78, in2]; done)))))
        refine wm_b (m_isHilly hmf sq hz hC.1 hM.1 hM.2.1) (fun v K hK => ?_)
        obtain ⟨rfl, k1, k2, k3, k4⟩ := hK
        rw [if_neg (fun q => hno ⟨q, zx, zy⟩)]
        (repeat (first | (with_reducible apply wm_o; focus (simp (disch := omega) only [wr_id, Int.toNat_natCast, Int.reduceToNat, tn_lk, tn_kl, if_pos, if_neg, ↓reduceIte, and_self, and_true, true_and]; with_reducible rfl)) | (with_reducible apply wm_q) | (with_reducible apply wm_c; focus (first | assumption | decide +kernel)) | (with_reducible apply wm_d; focus (simp (disch := omega) only [wr_id, Int.toNat_natCast, Int.reduceToNat, tn_lk, tn_kl, if_pos, if_neg, ↓reduceIte, and_self, and_true, true_and]; with_reducible rfl)) | (with_reducible apply wm_t; focus (first | omega | (simp (disch := omega) only [wr_id]; omega) | (simp (disch := omega) only [wr_id]; done))) | (with_reducible apply wm_f; focus (first | omega | (simp (disch := omega) only [wr_id]; omega) | (simp (disch := omega) only [wr_id]; done)))))
        exact wm_r ⟨rfl, INV_q hR hC hM (frm_refl _ _) (frM_sub k1 (fun a ha => by unfold scrM; omega) (fun a ha => by unfold scrF; omega)) k2⟩
      · have in2 := fun (M : jMem) => m_in_f (a := 0) (b := (h : Int)) (M := M) hy (i32 (by omega) (by omega)) (i32 (by omega) (by omega)) zy
        (repeat (first | (with_reducible apply wm_o; focus (simp (disch := omega) only [wr_id, Int.toNat_natCast, Int.reduceToNat, tn_lk, tn_kl, if_pos, if_neg, ↓reduceIte, and_self, and_true, true_and, hwm, in1, FM, e18, e78, in2]; with_reducible rfl)) | (with_reducible apply wm_q) | (with_reducible apply wm_c; focus (first | assumption | decide +kernel)) | (with_reducible apply wm_d; focus (simp (disch := omega) only [wr_id, Int.toNat_natCast, Int.reduceToNat, tn_lk, tn_kl, if_pos, if_neg, ↓reduceIte, and_self, and_true, true_and, hwm, in1, FM, e18, e78, in2]; with_reducible rfl)) | (with_reducible apply wm_t; focus (first | omega | (simp (disch := omega) only [wr_id, hwm, in1, FM, e18, e78, in2]; omega) | (simp (disch := omega) only [wr_id, hwm, in1, FM, e18, e78, in2]; done))) | (with_reducible apply wm_f; focus (first | omega | (simp (disch := omega) only [wr_id, hwm, in1, FM, e18, e78, in2]; omega) | (simp (disch := omega) only [wr_id, hwm, in1, FM, e18, e78, in2]; done)))))
        exact wm_r ⟨rfl, hI'⟩
    · have in1 := fun (M : jMem) => m_in_f (a := 0) (b := (w : Int)) (M := M) hx (i32 (by omega) (by omega)) (i32 (by omega) (by omega)) zx
      (repeat (first | (with_reducible apply wm_o; focus (simp (disch := omega) only [wr_id, Int.toNat_natCast, Int.reduceToNat, tn_lk, tn_kl, if_pos, if_neg, ↓reduceIte, and_self, and_true, true_and, hwm, in1]; with_reducible rfl)) | (with_reducible apply wm_q) | (with_reducible apply wm_c; focus (first | assumption | decide +kernel)) | (with_reducible apply wm_d; focus (simp (disch := omega) only [wr_id, Int.toNat_natCast, Int.reduceToNat, tn_lk, tn_kl, if_pos, if_neg, ↓reduceIte, and_self, and_true, true_and, hwm, in1]; with_reducible rfl)) | (with_reducible apply wm_t; focus (first | omega | (simp (disch := omega) only [wr_id, hwm, in1]; omega) | (simp (disch := omega) only [wr_id, hwm, in1]; done))) | (with_reducible apply wm_f; focus (first | omega | (simp (disch := omega) only [wr_id, hwm, in1]; omega) | (simp (disch := omega) only [wr_id, hwm, in1]; done)))))
      exact wm_r ⟨rfl, hI'⟩
  unfold both f_X11_hill
  by_cases zh : nh = 0 ∧ 2 * rMany ρ = n
  · rw [if_pos zh] at hhi
    by_cases zx0 : x < 0
    · (repeat (first | (with_reducible apply wm_o; focus (simp (disch := omega) only [wr_id, Int.toNat_natCast, Int.reduceToNat, tn_lk, tn_kl, if_pos, if_neg, ↓reduceIte, and_self, and_true, true_and, hhi, ex]; with_reducible rfl)) | (with_reducible apply wm_q) | (with_reducible apply wm_c; focus (first | assumption | decide +kernel)) | (with_reducible apply wm_d; focus (simp (disch := omega) only [wr_id, Int.toNat_natCast, Int.reduceToNat, tn_lk, tn_kl, if_pos, if_neg, ↓reduceIte, and_self, and_true, true_and, hhi, ex]; with_reducible rfl)) | (with_reducible apply wm_t; focus (first | omega | (simp (disch := omega) only [wr_id, hhi, ex]; omega) | (simp (disch := omega) only [wr_id, hhi, ex]; done))) | (with_reducible apply wm_f; focus (first | omega | (simp (disch := omega) only [wr_id, hhi, ex]; omega) | (simp (disch := omega) only [wr_id, hhi, ex]; done)))))
      exact wm_r (no (by omega))
    · by_cases zx : x ≤ w
      · by_cases zy0 : y < 0
        · (repeat (first | (with_reducible apply wm_o; focus (simp (disch := omega) only [wr_id, Int.toNat_natCast, Int.reduceToNat, tn_lk, tn_kl, if_pos, if_neg, ↓reduceIte, and_self, and_true, true_and, hhi, ex, ey, FX, FText htx, c20]; with_reducible rfl)) | (with_reducible apply wm_q) | (with_reducible apply wm_c; focus (first | assumption | decide +kernel)) | (with_reducible apply wm_d; focus (simp (disch := omega) only [wr_id, Int.toNat_natCast, Int.reduceToNat, tn_lk, tn_kl, if_pos, if_neg, ↓reduceIte, and_self, and_true, true_and, hhi, ex, ey, FX, FText htx, c20]; with_reducible rfl)) | (with_reducible apply wm_t; focus (first | omega | (simp (disch := omega) only [wr_id, hhi, ex, ey, FX, FText htx, c20]; omega) | (simp (disch := omega) only [wr_id, hhi, ex, ey, FX, FText htx, c20]; done))) | (with_reducible apply wm_f; focus (first | omega | (simp (disch := omega) only [wr_id, hhi, ex, ey, FX, FText htx, c20]; omega) | (simp (disch := omega) only [wr_id, hhi, ex, ey, FX, FText htx, c20]; done)))))
          exact wm_r (no (by omega))
        · by_cases zy : y ≤ h
          · obtain ⟨a, rfl⟩ : ∃ a : Nat, x = (a : Int) := ⟨x.toNat, by omega⟩
            obtain ⟨b, rfl⟩ : ∃ b : Nat, y = (b : Int) := ⟨y.toNat, by omega⟩
            have kE : (K0 348).1 = 0 ∧ 348 < 418 := be_k
            (repeat (first | (with_reducible apply wm_o; focus (simp (disch := omega) only [wr_id, Int.toNat_natCast, Int.reduceToNat, tn_lk, tn_kl, if_pos, if_neg, ↓reduceIte, and_self, and_true, true_and, hhi, FX, FText htx, c20, c30]; with_reducible rfl)) | (with_reducible apply wm_q) | (with_reducible apply wm_c; focus (first | assumption | decide +kernel)) | (with_reducible apply wm_d; focus (simp (disch := omega) only [wr_id, Int.toNat_natCast, Int.reduceToNat, tn_lk, tn_kl, if_pos, if_neg, ↓reduceIte, and_self, and_true, true_and, hhi, FX, FText htx, c20, c30]; with_reducible rfl)) | (with_reducible apply wm_t; focus (first | omega | (simp (disch := omega) only [wr_id, hhi, FX, FText htx, c20, c30]; omega) | (simp (disch := omega) only [wr_id, hhi, FX, FText htx, c20, c30]; done))) | (with_reducible apply wm_f; focus (first | omega | (simp (disch := omega) only [wr_id, hhi, FX, FText htx, c20, c30]; omega) | (simp (disch := omega) only [wr_id, hhi, FX, FText htx, c20, c30]; done)))))
            refine wm_b (c_trace sq hcf hC.1 hC.2.1 hE.1.1) (fun v J hJ => ?_)
            obtain ⟨j1, j2⟩ := hJ
            have jC : frm scrC I J := frm_sub j1 (fun a ha => by unfold scrC; omega)
            have jl : J 367 b = ((lnF w h (pvR ρ n) b : Nat) : Int) := j2 b (by omega)
            have hm64 : lnF w h (pvR ρ n) b < 64 := Nat.lt_of_lt_of_le (lnF_b hw.2 b) (Nat.pow_le_pow_right (by decide) hw.2 : 2 ^ w ≤ 2 ^ 6)
            (repeat (first | (with_reducible apply wm_o; focus (simp (disch := omega) only [wr_id, Int.toNat_natCast, Int.reduceToNat, tn_lk, tn_kl, if_pos, if_neg, ↓reduceIte, and_self, and_true, true_and, FX, jl]; with_reducible rfl)) | (with_reducible apply wm_q) | (with_reducible apply wm_c; focus (first | assumption | decide +kernel)) | (with_reducible apply wm_d; focus (simp (disch := omega) only [wr_id, Int.toNat_natCast, Int.reduceToNat, tn_lk, tn_kl, if_pos, if_neg, ↓reduceIte, and_self, and_true, true_and, FX, jl]; with_reducible rfl)) | (with_reducible apply wm_t; focus (first | omega | (simp (disch := omega) only [wr_id, FX, jl]; omega) | (simp (disch := omega) only [wr_id, FX, jl]; done))) | (with_reducible apply wm_f; focus (first | omega | (simp (disch := omega) only [wr_id, FX, jl]; omega) | (simp (disch := omega) only [wr_id, FX, jl]; done)))))
            unfold f_X0_hillAt
            refine wm_b (P := fun r J2 => r = hlC w b (lnF w h (pvR ρ n) b) a ∧ frm (fun x => x = 365) J J2) ?_ (fun v2 J2 hJ2 => ?_)
            · (repeat (first | (with_reducible apply wm_o; focus (simp (disch := omega) only [wr_id, Int.toNat_natCast, Int.reduceToNat, tn_lk, tn_kl, if_pos, if_neg, ↓reduceIte, and_self, and_true, true_and, FBest]; with_reducible rfl)) | (with_reducible apply wm_q) | (with_reducible apply wm_c; focus (first | assumption | decide +kernel)) | (with_reducible apply wm_d; focus (simp (disch := omega) only [wr_id, Int.toNat_natCast, Int.reduceToNat, tn_lk, tn_kl, if_pos, if_neg, ↓reduceIte, and_self, and_true, true_and, FBest]; with_reducible rfl)) | (with_reducible apply wm_t; focus (first | omega | (simp (disch := omega) only [wr_id, FBest]; omega) | (simp (disch := omega) only [wr_id, FBest]; done))) | (with_reducible apply wm_f; focus (first | omega | (simp (disch := omega) only [wr_id, FBest]; omega) | (simp (disch := omega) only [wr_id, FBest]; done)))))
              refine wm_b (w_climb (Or.inl rfl) hw (by rw [j1 _ (by omega)]; exact hE.1.1) (show b ≤ 6 by omega) hm64) (fun v3 J3 hJ3 => ?_)
              have ja := hJ3.2 a (by omega)
              (repeat (first | (with_reducible apply wm_o; focus (simp (disch := omega) only [wr_id, Int.toNat_natCast, Int.reduceToNat, tn_lk, tn_kl, if_pos, if_neg, ↓reduceIte, and_self, and_true, true_and, FBest, ja]; with_reducible rfl)) | (with_reducible apply wm_q) | (with_reducible apply wm_c; focus (first | assumption | decide +kernel)) | (with_reducible apply wm_d; focus (simp (disch := omega) only [wr_id, Int.toNat_natCast, Int.reduceToNat, tn_lk, tn_kl, if_pos, if_neg, ↓reduceIte, and_self, and_true, true_and, FBest, ja]; with_reducible rfl)) | (with_reducible apply wm_t; focus (first | omega | (simp (disch := omega) only [wr_id, FBest, ja]; omega) | (simp (disch := omega) only [wr_id, FBest, ja]; done))) | (with_reducible apply wm_f; focus (first | omega | (simp (disch := omega) only [wr_id, FBest, ja]; omega) | (simp (disch := omega) only [wr_id, FBest, ja]; done)))))
              exact wm_r ⟨rfl, hJ3.1⟩
            · obtain ⟨rfl, q1⟩ := hJ2
              refine wm_r ?_
              have jC2 : frm scrC I J2 := frm_trans jC (frm_sub q1 (fun a ha => by unfold scrC; omega))
              have jS : frm (fun a => scrC a ∨ stS a) I J2 := frm_sub jC2 (fun a ha => Or.inl ha)
              have hRJ := REST_c jS hR
              have hMJ := stM_c jS hM
              have hmJ := hRJ.2.2.2.1
              have hwm := s_w (t := t) (d := d) (rt := rt) hmJ.1
              have e18 := hmJ.1.1
              have elv := hmJ.1.2.1
              have e78 := hmJ.1.2.2.2.1
              have in1 := fun (M : jMem) => m_in_t (a := 0) (b := (w : Int)) (M := M) hx (i32 (by omega) (by omega)) (i32 (by omega) (by omega)) (by omega)
              have in2 := fun (M : jMem) => m_in_t (a := 0) (b := (h : Int)) (M := M) hy (i32 (by omega) (by omega)) (i32 (by omega) (by omega)) (by omega)
              show wm t d rt (f_X12_hill 369 (a : Int) (b : Int) (mm t d rt J2)) _
              unfold f_X12_hill
              (repeat (first | (with_reducible apply wm_o; focus (simp (disch := omega) only [wr_id, Int.toNat_natCast, Int.reduceToNat, tn_lk, tn_kl, if_pos, if_neg, ↓reduceIte, and_self, and_true, true_and, hwm, in1, FM, e18, e78, in2]; with_reducible rfl)) | (with_reducible apply wm_q) | (with_reducible apply wm_c; focus (first | assumption | decide +kernel)) | (with_reducible apply wm_d; focus (simp (disch := omega) only [wr_id, Int.toNat_natCast, Int.reduceToNat, tn_lk, tn_kl, if_pos, if_neg, ↓reduceIte, and_self, and_true, true_and, hwm, in1, FM, e18, e78, in2]; with_reducible rfl)) | (with_reducible apply wm_t; focus (first | omega | (simp (disch := omega) only [wr_id, hwm, in1, FM, e18, e78, in2]; omega) | (simp (disch := omega) only [wr_id, hwm, in1, FM, e18, e78, in2]; done))) | (with_reducible apply wm_f; focus (first | omega | (simp (disch := omega) only [wr_id, hwm, in1, FM, e18, e78, in2]; omega) | (simp (disch := omega) only [wr_id, hwm, in1, FM, e18, e78, in2]; done)))))
              refine wm_b (m_isHilly hmJ sq hRJ.2.2.2.2.2.2.2.2.2 hC.1 hMJ.1 hMJ.2.1) (fun v4 K hK => ?_)
              obtain ⟨rfl, k1, k2, k3, k4⟩ := hK
              rw [if_pos zh]
              (repeat (first | (with_reducible apply wm_o; focus (simp (disch := omega) only [wr_id, Int.toNat_natCast, Int.reduceToNat, tn_lk, tn_kl, if_pos, if_neg, ↓reduceIte, and_self, and_true, true_and]; with_reducible rfl)) | (with_reducible apply wm_q) | (with_reducible apply wm_c; focus (first | assumption | decide +kernel)) | (with_reducible apply wm_d; focus (simp (disch := omega) only [wr_id, Int.toNat_natCast, Int.reduceToNat, tn_lk, tn_kl, if_pos, if_neg, ↓reduceIte, and_self, and_true, true_and]; with_reducible rfl)) | (with_reducible apply wm_t; focus (first | omega | (simp (disch := omega) only [wr_id]; omega) | (simp (disch := omega) only [wr_id]; done))) | (with_reducible apply wm_f; focus (first | omega | (simp (disch := omega) only [wr_id]; omega) | (simp (disch := omega) only [wr_id]; done)))))
              refine wm_b (m_hillsNow k3 sq k2 hC.1 ((k1.1 400 (by decide) (by decide)).trans hMJ.1) hMJ.2.1 (by omega) ((congrFun (k1.1 412 (by decide) (by decide)) 0).trans hRJ.2.2.2.2.2.2.2.2.1.2.1)) (fun v5 L hL => ?_)
              obtain ⟨l1, l2, l3, l4, l5, l6⟩ := hL
              have lx := l6 b (by omega) a (by omega)
              have ei : ((7 : Int) * (b : Int)) + (a : Int) = ((7 * b + a : Nat) : Int) := by omega
              (repeat (first | (with_reducible apply wm_o; focus (simp (disch := omega) only [wr_id, Int.toNat_natCast, Int.reduceToNat, tn_lk, tn_kl, if_pos, if_neg, ↓reduceIte, and_self, and_true, true_and, FM, ei, lx]; with_reducible rfl)) | (with_reducible apply wm_q) | (with_reducible apply wm_c; focus (first | assumption | decide +kernel)) | (with_reducible apply wm_d; focus (simp (disch := omega) only [wr_id, Int.toNat_natCast, Int.reduceToNat, tn_lk, tn_kl, if_pos, if_neg, ↓reduceIte, and_self, and_true, true_and, FM, ei, lx]; with_reducible rfl)) | (with_reducible apply wm_t; focus (first | omega | (simp (disch := omega) only [wr_id, FM, ei, lx]; omega) | (simp (disch := omega) only [wr_id, FM, ei, lx]; done))) | (with_reducible apply wm_f; focus (first | omega | (simp (disch := omega) only [wr_id, FM, ei, lx]; omega) | (simp (disch := omega) only [wr_id, FM, ei, lx]; done)))))
              exact wm_r ⟨rfl, INV_h hR hC hM jC2 (frM_trans (frM_sub k1 (fun a ha => Or.inl (by unfold scrM; omega)) (fun a ha => by unfold scrF; omega)) (frM_sub l1 (fun a ha => by unfold scrM; omega) (fun a ha => by unfold scrF; omega))) l2 l5⟩
          · (repeat (first | (with_reducible apply wm_o; focus (simp (disch := omega) only [wr_id, Int.toNat_natCast, Int.reduceToNat, tn_lk, tn_kl, if_pos, if_neg, ↓reduceIte, and_self, and_true, true_and, hhi, ex, ey, FX, FText htx, c20, c30]; with_reducible rfl)) | (with_reducible apply wm_q) | (with_reducible apply wm_c; focus (first | assumption | decide +kernel)) | (with_reducible apply wm_d; focus (simp (disch := omega) only [wr_id, Int.toNat_natCast, Int.reduceToNat, tn_lk, tn_kl, if_pos, if_neg, ↓reduceIte, and_self, and_true, true_and, hhi, ex, ey, FX, FText htx, c20, c30]; with_reducible rfl)) | (with_reducible apply wm_t; focus (first | omega | (simp (disch := omega) only [wr_id, hhi, ex, ey, FX, FText htx, c20, c30]; omega) | (simp (disch := omega) only [wr_id, hhi, ex, ey, FX, FText htx, c20, c30]; done))) | (with_reducible apply wm_f; focus (first | omega | (simp (disch := omega) only [wr_id, hhi, ex, ey, FX, FText htx, c20, c30]; omega) | (simp (disch := omega) only [wr_id, hhi, ex, ey, FX, FText htx, c20, c30]; done)))))
            exact wm_r (no (by omega))
      · (repeat (first | (with_reducible apply wm_o; focus (simp (disch := omega) only [wr_id, Int.toNat_natCast, Int.reduceToNat, tn_lk, tn_kl, if_pos, if_neg, ↓reduceIte, and_self, and_true, true_and, hhi, ex, FX, FText htx, c20]; with_reducible rfl)) | (with_reducible apply wm_q) | (with_reducible apply wm_c; focus (first | assumption | decide +kernel)) | (with_reducible apply wm_d; focus (simp (disch := omega) only [wr_id, Int.toNat_natCast, Int.reduceToNat, tn_lk, tn_kl, if_pos, if_neg, ↓reduceIte, and_self, and_true, true_and, hhi, ex, FX, FText htx, c20]; with_reducible rfl)) | (with_reducible apply wm_t; focus (first | omega | (simp (disch := omega) only [wr_id, hhi, ex, FX, FText htx, c20]; omega) | (simp (disch := omega) only [wr_id, hhi, ex, FX, FText htx, c20]; done))) | (with_reducible apply wm_f; focus (first | omega | (simp (disch := omega) only [wr_id, hhi, ex, FX, FText htx, c20]; omega) | (simp (disch := omega) only [wr_id, hhi, ex, FX, FText htx, c20]; done)))))
        exact wm_r (no (by omega))
  · rw [if_neg zh] at hhi
    (repeat (first | (with_reducible apply wm_o; focus (simp (disch := omega) only [wr_id, Int.toNat_natCast, Int.reduceToNat, tn_lk, tn_kl, if_pos, if_neg, ↓reduceIte, and_self, and_true, true_and, hhi]; with_reducible rfl)) | (with_reducible apply wm_q) | (with_reducible apply wm_c; focus (first | assumption | decide +kernel)) | (with_reducible apply wm_d; focus (simp (disch := omega) only [wr_id, Int.toNat_natCast, Int.reduceToNat, tn_lk, tn_kl, if_pos, if_neg, ↓reduceIte, and_self, and_true, true_and, hhi]; with_reducible rfl)) | (with_reducible apply wm_t; focus (first | omega | (simp (disch := omega) only [wr_id, hhi]; omega) | (simp (disch := omega) only [wr_id, hhi]; done))) | (with_reducible apply wm_f; focus (first | omega | (simp (disch := omega) only [wr_id, hhi]; omega) | (simp (disch := omega) only [wr_id, hhi]; done)))))
    exact wm_r (no (fun q => zh q.1))
end PH
