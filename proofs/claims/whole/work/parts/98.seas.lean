/-! ===== calls: seasons, then, stone ===== -/
section PS
variable {t d rt : Nat} {I J K : Nat → Nat → Int} {lv w h n nh s k : Nat} {hl : Nat → Bool} {sd : Int} {ifs : Nat → List LwI} {xs : Nat → List CI} {ρ σ : Nat → Int} {u : Nat} {H : Nat → Nat → Int} {hd : Nat → Bool} {G : Nat → Nat → Int}
theorem stC_now2 {S : Nat → Prop} (h' : stC I w n hl ρ u H hd G) (hf : frm S I J) (hs : ∀ a, S a → a ≤ 45) (h1 : rOK w n hl σ) (h2 : stR J 34 w σ) : stC J w n hl σ u H hd G := by
  obtain ⟨s1, s2, ⟨nw, s3⟩, s4, s5, s6⟩ := h'
  have ns : ∀ a, 46 ≤ a → ¬ S a := fun a ha q => by have := hs a q; omega
  refine ⟨h1, h2, ⟨nw, kpR_frm hf (fun a ha => ns a (by omega)) s3⟩, s4, slR_frm hf (fun a a1 a2 => ns a (by omega)) s5, ?_⟩
  rw [hf 307 (ns _ (by omega))]
  exact s6
theorem zM_go (hz : zM I) (hf : frM (fun a => a = 398 ∨ a = 399 ∨ a = 401 ∨ a = 404) (fun j => j = 46) I J) (h1 : ∀ j, 75 ≤ j → J 401 j = 0) : zM J := by
  refine ⟨h1, ?_, ?_⟩
  · unfold b01; rw [hf.1 409 (by decide) (by omega)]; exact hz.2.1
  · unfold b01; rw [hf.1 410 (by decide) (by omega)]; exact hz.2.2
theorem m_long_t {x : Int} {M : jMem} (hx : in32 x) (h : 0 ≤ x ∧ x ≤ 60) : f_X12_isLong x M = some (1, M) := by
  unfold f_X12_isLong
  rw [m_in_t hx (i32 (by omega) (by omega)) (i32 (by omega) (by omega)) h, jbd_s, jz1]
theorem m_long_f {x : Int} {M : jMem} (hx : in32 x) (h : ¬ (0 ≤ x ∧ x ≤ 60)) : f_X12_isLong x M = some (0, M) := by
  unfold f_X12_isLong
  rw [m_in_f hx (i32 (by omega) (by omega)) (i32 (by omega) (by omega)) h, jbd_s, jz0]
theorem P_seasons (hI : INV t d rt I) {x : Int} (hx : in32 x) : both t d rt (f_X11_seasons 0 x (mm t d rt I)) (fun M => f_X12_seasons 369 x M) := by
  have hI' := hI
  obtain ⟨lv, w, h, n, nh, hl, sd, ifs, xs, hR, ρ, u, H, hd, G, hC, hM⟩ := hI
  have hcf := hR.2.2.1
  have sq := hR.2.1
  have htx := hcf.1
  have kt := tx_k htx
  have hxw := wr_in hx
  have w60 : jd_wr 60 = 60 := by decide +kernel
  unfold both f_X11_seasons
  by_cases z : 0 ≤ x ∧ x ≤ 60
  · obtain ⟨m, rfl⟩ : ∃ m : Nat, x = (m : Int) := ⟨x.toNat, by omega⟩
    have hlg := fun (M : jMem) => m_long_t (M := M) hx z
    by_cases z0 : m = 0
    · subst z0
      have e7 : I 34 7 = ρ 72 := hC.2.1.2.2.2.2.2.2.1
      (repeat (first | (with_reducible apply wm_o; focus (simp (disch := omega) only [wr_id, Int.toNat_natCast, Int.reduceToNat, tn_lk, tn_kl, if_pos, if_neg, ↓reduceIte, and_self, and_true, true_and, FX, FState now_in, e7]; with_reducible rfl)) | (with_reducible apply wm_q) | (with_reducible apply wm_c; focus (first | assumption | decide +kernel)) | (with_reducible apply wm_d; focus (simp (disch := omega) only [wr_id, Int.toNat_natCast, Int.reduceToNat, tn_lk, tn_kl, if_pos, if_neg, ↓reduceIte, and_self, and_true, true_and, FX, FState now_in, e7]; with_reducible rfl)) | (with_reducible apply wm_t; focus (first | omega | (simp (disch := omega) only [wr_id, FX, FState now_in, e7]; omega) | (simp (disch := omega) only [wr_id, FX, FState now_in, e7]; done))) | (with_reducible apply wm_f; focus (first | omega | (simp (disch := omega) only [wr_id, FX, FState now_in, e7]; omega) | (simp (disch := omega) only [wr_id, FX, FState now_in, e7]; done)))))
      refine wm_r ?_
      show wm t d rt (f_X12_seasons 369 ((0 : Nat) : Int) (mm t d rt I)) _
      unfold f_X12_seasons
      have e72 : I 400 72 = ρ 72 := by rw [hM.1]
      (repeat (first | (with_reducible apply wm_o; focus (simp (disch := omega) only [wr_id, Int.toNat_natCast, Int.reduceToNat, tn_lk, tn_kl, if_pos, if_neg, ↓reduceIte, and_self, and_true, true_and, hlg, FM, e72]; with_reducible rfl)) | (with_reducible apply wm_q) | (with_reducible apply wm_c; focus (first | assumption | decide +kernel)) | (with_reducible apply wm_d; focus (simp (disch := omega) only [wr_id, Int.toNat_natCast, Int.reduceToNat, tn_lk, tn_kl, if_pos, if_neg, ↓reduceIte, and_self, and_true, true_and, hlg, FM, e72]; with_reducible rfl)) | (with_reducible apply wm_t; focus (first | omega | (simp (disch := omega) only [wr_id, hlg, FM, e72]; omega) | (simp (disch := omega) only [wr_id, hlg, FM, e72]; done))) | (with_reducible apply wm_f; focus (first | omega | (simp (disch := omega) only [wr_id, hlg, FM, e72]; omega) | (simp (disch := omega) only [wr_id, hlg, FM, e72]; done)))))
      exact wm_r ⟨rfl, hI'⟩
    · (repeat (first | (with_reducible apply wm_o; focus (simp (disch := omega) only [wr_id, Int.toNat_natCast, Int.reduceToNat, tn_lk, tn_kl, if_pos, if_neg, ↓reduceIte, and_self, and_true, true_and, FX]; with_reducible rfl)) | (with_reducible apply wm_q) | (with_reducible apply wm_c; focus (first | assumption | decide +kernel)) | (with_reducible apply wm_d; focus (simp (disch := omega) only [wr_id, Int.toNat_natCast, Int.reduceToNat, tn_lk, tn_kl, if_pos, if_neg, ↓reduceIte, and_self, and_true, true_and, FX]; with_reducible rfl)) | (with_reducible apply wm_t; focus (first | omega | (simp (disch := omega) only [wr_id, FX]; omega) | (simp (disch := omega) only [wr_id, FX]; done))) | (with_reducible apply wm_f; focus (first | omega | (simp (disch := omega) only [wr_id, FX]; omega) | (simp (disch := omega) only [wr_id, FX]; done)))))
      refine wm_b (c_keep hC) (fun v J hJ => ?_)
      obtain ⟨j1, j2⟩ := hJ
      have hR1 := REST_c j1 hR
      (repeat (first | (with_reducible apply wm_o; focus (simp (disch := omega) only [wr_id, Int.toNat_natCast, Int.reduceToNat, tn_lk, tn_kl, if_pos, if_neg, ↓reduceIte, and_self, and_true, true_and, FX]; with_reducible rfl)) | (with_reducible apply wm_q) | (with_reducible apply wm_c; focus (first | assumption | decide +kernel)) | (with_reducible apply wm_d; focus (simp (disch := omega) only [wr_id, Int.toNat_natCast, Int.reduceToNat, tn_lk, tn_kl, if_pos, if_neg, ↓reduceIte, and_self, and_true, true_and, FX]; with_reducible rfl)) | (with_reducible apply wm_t; focus (first | omega | (simp (disch := omega) only [wr_id, FX]; omega) | (simp (disch := omega) only [wr_id, FX]; done))) | (with_reducible apply wm_f; focus (first | omega | (simp (disch := omega) only [wr_id, FX]; omega) | (simp (disch := omega) only [wr_id, FX]; done)))))
      refine wm_b (c_pass (m := m) sq hR1.2.2.1 now_in j2.1 j2.2.1 (by omega)) (fun v2 J2 hJ2 => ?_)
      obtain ⟨p1, p2⟩ := hJ2
      have hC2 := stC_now2 j2 p1 (fun a ha => by unfold stF at ha; omega) (rOK_gs j2.1 m) p2
      have hf : frm (fun a => scrC a ∨ stS a) I J2 := frm_trans j1 (frm_sub p1 (fun a ha => by
        rcases ha with ha | ha
        · exact Or.inl (scr_12 htx a ha)
        · exact Or.inr (by unfold stF at ha; unfold stS; omega)))
      have e7 : J2 34 7 = gsR ifs xs w nh sd ρ m 72 := p2.2.2.2.2.2.2.1
      (repeat (first | (with_reducible apply wm_o; focus (simp (disch := omega) only [wr_id, Int.toNat_natCast, Int.reduceToNat, tn_lk, tn_kl, if_pos, if_neg, ↓reduceIte, and_self, and_true, true_and, FX, FState now_in, e7]; with_reducible rfl)) | (with_reducible apply wm_q) | (with_reducible apply wm_c; focus (first | assumption | decide +kernel)) | (with_reducible apply wm_d; focus (simp (disch := omega) only [wr_id, Int.toNat_natCast, Int.reduceToNat, tn_lk, tn_kl, if_pos, if_neg, ↓reduceIte, and_self, and_true, true_and, FX, FState now_in, e7]; with_reducible rfl)) | (with_reducible apply wm_t; focus (first | omega | (simp (disch := omega) only [wr_id, FX, FState now_in, e7]; omega) | (simp (disch := omega) only [wr_id, FX, FState now_in, e7]; done))) | (with_reducible apply wm_f; focus (first | omega | (simp (disch := omega) only [wr_id, FX, FState now_in, e7]; omega) | (simp (disch := omega) only [wr_id, FX, FState now_in, e7]; done)))))
      refine wm_r ?_
      have hR2 := REST_c hf hR
      have hM2 := stM_c hf hM
      show wm t d rt (f_X12_seasons 369 (m : Int) (mm t d rt J2)) _
      unfold f_X12_seasons
      (repeat (first | (with_reducible apply wm_o; focus (simp (disch := omega) only [wr_id, Int.toNat_natCast, Int.reduceToNat, tn_lk, tn_kl, if_pos, if_neg, ↓reduceIte, and_self, and_true, true_and, hlg]; with_reducible rfl)) | (with_reducible apply wm_q) | (with_reducible apply wm_c; focus (first | assumption | decide +kernel)) | (with_reducible apply wm_d; focus (simp (disch := omega) only [wr_id, Int.toNat_natCast, Int.reduceToNat, tn_lk, tn_kl, if_pos, if_neg, ↓reduceIte, and_self, and_true, true_and, hlg]; with_reducible rfl)) | (with_reducible apply wm_t; focus (first | omega | (simp (disch := omega) only [wr_id, hlg]; omega) | (simp (disch := omega) only [wr_id, hlg]; done))) | (with_reducible apply wm_f; focus (first | omega | (simp (disch := omega) only [wr_id, hlg]; omega) | (simp (disch := omega) only [wr_id, hlg]; done)))))
      refine wm_b (m_cop hR2.2.2.2.1 hR2.2.2.2.2.2.2.2.2.2 hM2.1 hM2.2.1) (fun v K hK => ?_)
      obtain ⟨k1, k2, k3, k4, k5⟩ := hK
      (repeat (first | (with_reducible apply wm_o; focus (simp (disch := omega) only [wr_id, Int.toNat_natCast, Int.reduceToNat, tn_lk, tn_kl, if_pos, if_neg, ↓reduceIte, and_self, and_true, true_and]; with_reducible rfl)) | (with_reducible apply wm_q) | (with_reducible apply wm_c; focus (first | assumption | decide +kernel)) | (with_reducible apply wm_d; focus (simp (disch := omega) only [wr_id, Int.toNat_natCast, Int.reduceToNat, tn_lk, tn_kl, if_pos, if_neg, ↓reduceIte, and_self, and_true, true_and]; with_reducible rfl)) | (with_reducible apply wm_t; focus (first | omega | (simp (disch := omega) only [wr_id]; omega) | (simp (disch := omega) only [wr_id]; done))) | (with_reducible apply wm_f; focus (first | omega | (simp (disch := omega) only [wr_id]; omega) | (simp (disch := omega) only [wr_id]; done)))))
      refine wm_b (m_goes (m := m) k3 hC.1 k4 k5 (by omega)) (fun v3 K2 hK2 => ?_)
      obtain ⟨l1, l2⟩ := hK2
      have l1' : frM scrM scrF K K2 := frM_sub l1 (fun a ha => by unfold scrM; omega) (fun a ha => by unfold scrF; omega)
      have hzr := gs_z (ifs := ifs) (xs := xs) (w := w) (nh := nh) (sd' := sd) hM.2.1 m
      (repeat (first | (with_reducible apply wm_o; focus (simp (disch := omega) only [wr_id, Int.toNat_natCast, Int.reduceToNat, tn_lk, tn_kl, if_pos, if_neg, ↓reduceIte, and_self, and_true, true_and]; with_reducible rfl)) | (with_reducible apply wm_q) | (with_reducible apply wm_c; focus (first | assumption | decide +kernel)) | (with_reducible apply wm_d; focus (simp (disch := omega) only [wr_id, Int.toNat_natCast, Int.reduceToNat, tn_lk, tn_kl, if_pos, if_neg, ↓reduceIte, and_self, and_true, true_and]; with_reducible rfl)) | (with_reducible apply wm_t; focus (first | omega | (simp (disch := omega) only [wr_id]; omega) | (simp (disch := omega) only [wr_id]; done))) | (with_reducible apply wm_f; focus (first | omega | (simp (disch := omega) only [wr_id]; omega) | (simp (disch := omega) only [wr_id]; done)))))
      refine wm_b (m_rec (stM_q l1' (stM_q k1 hM2)) l2 hzr) (fun v4 K3 hK3 => ?_)
      obtain ⟨e1, e2⟩ := hK3
      have e72 : K3 400 72 = gsR ifs xs w nh sd ρ m 72 := by rw [e2.1]
      (repeat (first | (with_reducible apply wm_o; focus (simp (disch := omega) only [wr_id, Int.toNat_natCast, Int.reduceToNat, tn_lk, tn_kl, if_pos, if_neg, ↓reduceIte, and_self, and_true, true_and, FM, e72]; with_reducible rfl)) | (with_reducible apply wm_q) | (with_reducible apply wm_c; focus (first | assumption | decide +kernel)) | (with_reducible apply wm_d; focus (simp (disch := omega) only [wr_id, Int.toNat_natCast, Int.reduceToNat, tn_lk, tn_kl, if_pos, if_neg, ↓reduceIte, and_self, and_true, true_and, FM, e72]; with_reducible rfl)) | (with_reducible apply wm_t; focus (first | omega | (simp (disch := omega) only [wr_id, FM, e72]; omega) | (simp (disch := omega) only [wr_id, FM, e72]; done))) | (with_reducible apply wm_f; focus (first | omega | (simp (disch := omega) only [wr_id, FM, e72]; omega) | (simp (disch := omega) only [wr_id, FM, e72]; done)))))
      exact wm_r ⟨rfl, INV_s hR hf (frM_trans (frM_sub (frM_trans k1 l1') (fun a ha => Or.inl ha) (fun a ha => Or.inl ha)) (frM_sub e1 (fun a ha => Or.inr ha) (fun a ha => Or.inr ha))) (zM_st (zM_go k2 l1 (by rw [l2]; exact hzr)) e1) hC2 e2⟩
  · have hlg := fun (M : jMem) => m_long_f (M := M) hx z
    by_cases z1 : x < 0
    · (repeat (first | (with_reducible apply wm_o; focus (simp (disch := omega) only [wr_id, Int.toNat_natCast, Int.reduceToNat, tn_lk, tn_kl, if_pos, if_neg, ↓reduceIte, and_self, and_true, true_and]; with_reducible rfl)) | (with_reducible apply wm_q) | (with_reducible apply wm_c; focus (first | assumption | decide +kernel)) | (with_reducible apply wm_d; focus (simp (disch := omega) only [wr_id, Int.toNat_natCast, Int.reduceToNat, tn_lk, tn_kl, if_pos, if_neg, ↓reduceIte, and_self, and_true, true_and]; with_reducible rfl)) | (with_reducible apply wm_t; focus (first | omega | (simp (disch := omega) only [wr_id]; omega) | (simp (disch := omega) only [wr_id]; done))) | (with_reducible apply wm_f; focus (first | omega | (simp (disch := omega) only [wr_id]; omega) | (simp (disch := omega) only [wr_id]; done)))))
      refine wm_r ?_
      show wm t d rt (f_X12_seasons 369 x (mm t d rt I)) _
      unfold f_X12_seasons
      (repeat (first | (with_reducible apply wm_o; focus (simp (disch := omega) only [wr_id, Int.toNat_natCast, Int.reduceToNat, tn_lk, tn_kl, if_pos, if_neg, ↓reduceIte, and_self, and_true, true_and, hlg]; with_reducible rfl)) | (with_reducible apply wm_q) | (with_reducible apply wm_c; focus (first | assumption | decide +kernel)) | (with_reducible apply wm_d; focus (simp (disch := omega) only [wr_id, Int.toNat_natCast, Int.reduceToNat, tn_lk, tn_kl, if_pos, if_neg, ↓reduceIte, and_self, and_true, true_and, hlg]; with_reducible rfl)) | (with_reducible apply wm_t; focus (first | omega | (simp (disch := omega) only [wr_id, hlg]; omega) | (simp (disch := omega) only [wr_id, hlg]; done))) | (with_reducible apply wm_f; focus (first | omega | (simp (disch := omega) only [wr_id, hlg]; omega) | (simp (disch := omega) only [wr_id, hlg]; done)))))
      exact wm_r ⟨rfl, hI'⟩
    · (repeat (first | (with_reducible apply wm_o; focus (simp (disch := omega) only [wr_id, Int.toNat_natCast, Int.reduceToNat, tn_lk, tn_kl, if_pos, if_neg, ↓reduceIte, and_self, and_true, true_and]; with_reducible rfl)) | (with_reducible apply wm_q) | (with_reducible apply wm_c; focus (first | assumption | decide +kernel)) | (with_reducible apply wm_d; focus (simp (disch := omega) only [wr_id, Int.toNat_natCast, Int.reduceToNat, tn_lk, tn_kl, if_pos, if_neg, ↓reduceIte, and_self, and_true, true_and]; with_reducible rfl)) | (with_reducible apply wm_t; focus (first | omega | (simp (disch := omega) only [wr_id]; omega) | (simp (disch := omega) only [wr_id]; done))) | (with_reducible apply wm_f; focus (first | omega | (simp (disch := omega) only [wr_id]; omega) | (simp (disch := omega) only [wr_id]; done)))))
      refine wm_r ?_
      show wm t d rt (f_X12_seasons 369 x (mm t d rt I)) _
      unfold f_X12_seasons
      (repeat (first | (with_reducible apply wm_o; focus (simp (disch := omega) only [wr_id, Int.toNat_natCast, Int.reduceToNat, tn_lk, tn_kl, if_pos, if_neg, ↓reduceIte, and_self, and_true, true_and, hlg]; with_reducible rfl)) | (with_reducible apply wm_q) | (with_reducible apply wm_c; focus (first | assumption | decide +kernel)) | (with_reducible apply wm_d; focus (simp (disch := omega) only [wr_id, Int.toNat_natCast, Int.reduceToNat, tn_lk, tn_kl, if_pos, if_neg, ↓reduceIte, and_self, and_true, true_and, hlg]; with_reducible rfl)) | (with_reducible apply wm_t; focus (first | omega | (simp (disch := omega) only [wr_id, hlg]; omega) | (simp (disch := omega) only [wr_id, hlg]; done))) | (with_reducible apply wm_f; focus (first | omega | (simp (disch := omega) only [wr_id, hlg]; omega) | (simp (disch := omega) only [wr_id, hlg]; done)))))
      exact wm_r ⟨rfl, hI'⟩
end PS
