/-! ===== calls: lift, undo, hold, restore ===== -/
section PL
variable {t d rt : Nat} {I J K : Nat → Nat → Int} {lv w h n nh : Nat} {hl : Nat → Bool} {sd : Int} {ifs : Nat → List LwI} {xs : Nat → List CI} {ρ σ : Nat → Int} {u : Nat} {H : Nat → Nat → Int} {hd : Nat → Bool} {G : Nat → Nat → Int}
theorem stM_q (hf : frM scrM scrF I J) (h' : stM I ρ u H hd G) : stM J ρ u H hd G :=
  stM_frm (hf.1 400 (by decide) (by unfold scrM; omega)) (hf.1 405 (by decide) (by unfold scrM; omega)) (hf.1 416 (by decide) (by unfold scrM; omega)) (hf.1 417 (by decide) (by unfold scrM; omega)) (hf.2 53 (by unfold scrF; omega)) h'
theorem stC_now (h' : stC I w n hl ρ u H hd G) (hf : frm (stF 34) I J) (h1 : rOK w n hl σ) (h2 : stR J 34 w σ) : stC J w n hl σ u H hd G := by
  obtain ⟨s1, s2, ⟨nw, s3⟩, s4, s5, s6⟩ := h'
  refine ⟨h1, h2, ⟨nw, kpR_frm hf (fun a ha => by unfold stF; omega) s3⟩, s4, slR_frm hf (fun a a1 a2 => by unfold stF; omega) s5, ?_⟩
  rw [hf 307 (by unfold stF; omega)]
  exact s6
theorem c_keep (h' : stC I w n hl ρ u H hd G) : wm t d rt (f_X1_keepForUndo 46 34 (mm t d rt I)) (fun _ J => frm (fun a => scrC a ∨ stS a) I J ∧ stC J w n hl ρ (min (u + 1) 40) (hCons ρ H) hd G) := by
  obtain ⟨s1, s2, ⟨nw, s3⟩, s4, s5, s6⟩ := h'
  refine wm_w (w_keep s2 s3) (fun v J hJ => ?_)
  obtain ⟨j1, j2⟩ := hJ
  refine ⟨frm_sub j1 (fun a ha => Or.inr (by unfold stS; omega)), s1, stR_frm j1 (fun a a1 a2 => by omega) s2, ⟨_, j2⟩, fun i hi => ?_, slR_frm j1 (fun a a1 a2 => by omega) s5, ?_⟩
  · by_cases z : i = 0
    · subst z; rw [hCons_0]; exact s1
    · rw [hCons_n z]; exact s4 (i - 1) (by omega)
  · rw [j1 307 (by omega)]; exact s6
theorem m_rec (hM : stM I ρ u H hd G) (h1 : I 401 = σ) (hσ : ∀ j, 75 ≤ j → σ j = 0) : wm t d rt (f_X12_records 369 (mm t d rt I)) (fun _ J => frM stMS (fun j => j = 53) I J ∧ stM J σ (min (u + 1) 40) (hCons ρ H) hd G) := by
  obtain ⟨s1, s2, s3, s4⟩ := hM
  refine wm_w (m_records s3 (by rw [h1]; exact hσ) (by rw [s1]; exact s2)) (fun v J hJ => ?_)
  obtain ⟨j1, j2, j3⟩ := hJ
  refine ⟨frM_sub j1 (fun a ha => by unfold stMS; omega) (fun a ha => ha), j2.trans h1, hσ, by rw [s1] at j3; exact j3, ?_⟩
  rw [j1.1 416 (by decide) (by decide), j1.1 417 (by decide) (by decide)]
  exact s4
theorem rPut_z {k : Nat} {c way : Int} (hk : k < 18) (h : ∀ j, 75 ≤ j → ρ j = 0) : ∀ j, 75 ≤ j → rPut ρ k c way j = 0 := fun j hj => by rw [rPut_n (by omega)]; exact h j hj
theorem zM_401 (hz : zM I) (hf : frM (fun a => a = 401) (fun _ => False) I J) (h1 : ∀ j, 75 ≤ j → J 401 j = 0) : zM J := by
  refine ⟨h1, ?_, ?_⟩
  · unfold b01; rw [hf.1 409 (by decide) (by decide)]; exact hz.2.1
  · unfold b01; rw [hf.1 410 (by decide) (by decide)]; exact hz.2.2
theorem zM_st (hz : zM I) (hf : frM stMS (fun j => j = 53) I J) : zM J := by
  unfold zM b01 at hz ⊢
  rw [hf.1 401 (by decide) (by unfold stMS; omega), hf.1 409 (by decide) (by unfold stMS; omega), hf.1 410 (by decide) (by unfold stMS; omega)]
  exact hz
theorem P_lift (hI : INV t d rt I) {x : Int} (hx : in32 x) : both t d rt (f_X11_lift 0 x (mm t d rt I)) (fun M => f_X12_lift 369 x M) := by
  have hI' := hI
  obtain ⟨lv, w, h, n, nh, hl, sd, ifs, xs, hR, ρ, u, H, hd, G, hC, hM⟩ := hI
  have hq := q_hasCell (d := d) (rt := rt) hR.2.1 hR.2.2.1 hx
  have hcf := hR.2.2.1
  have hmf := hR.2.2.2.1
  have hz := hR.2.2.2.2.2.2.2.2.2
  have sq := hR.2.1
  have htx := hcf.1
  have kt := (tx_k htx).1
  have hn : n ≤ 36 := sq.2.2.2.2.2.2.1
  unfold both f_X11_lift
  by_cases z : 0 ≤ x ∧ x < n
  · rw [if_pos z] at hq
    obtain ⟨c, rfl⟩ : ∃ c : Nat, x = (c : Int) := ⟨x.toNat, by omega⟩
    have hv := vRow_of hC.1 hn
    rcases on_w hC.2.1 (show c < 36 by omega) with ⟨o1, o2⟩ | ⟨k, o0, o1, o2, o3⟩
    · (repeat (first | (with_reducible apply wm_o; focus (simp (disch := omega) only [wr_id, Int.toNat_natCast, Int.reduceToNat, tn_lk, tn_kl, if_pos, if_neg, ↓reduceIte, and_self, and_true, true_and, FX, hq, FState now_in, o1]; with_reducible rfl)) | (with_reducible apply wm_q) | (with_reducible apply wm_c; focus (first | assumption | decide +kernel)) | (with_reducible apply wm_d; focus (simp (disch := omega) only [wr_id, Int.toNat_natCast, Int.reduceToNat, tn_lk, tn_kl, if_pos, if_neg, ↓reduceIte, and_self, and_true, true_and, FX, hq, FState now_in, o1]; with_reducible rfl)) | (with_reducible apply wm_t; focus (first | omega | (simp (disch := omega) only [wr_id, FX, hq, FState now_in, o1]; omega) | (simp (disch := omega) only [wr_id, FX, hq, FState now_in, o1]; done))) | (with_reducible apply wm_f; focus (first | omega | (simp (disch := omega) only [wr_id, FX, hq, FState now_in, o1]; omega) | (simp (disch := omega) only [wr_id, FX, hq, FState now_in, o1]; done)))))
      refine wm_z0 ?_
      have hic := s_isCell_t (t := t) (d := d) (rt := rt) hmf.1 z.1 z.2
      show wm t d rt (f_X12_lift 369 (c : Int) (mm t d rt I)) _
      unfold f_X12_lift
      (repeat (first | (with_reducible apply wm_o; focus (simp (disch := omega) only [wr_id, Int.toNat_natCast, Int.reduceToNat, tn_lk, tn_kl, if_pos, if_neg, ↓reduceIte, and_self, and_true, true_and, hic]; with_reducible rfl)) | (with_reducible apply wm_q) | (with_reducible apply wm_c; focus (first | assumption | decide +kernel)) | (with_reducible apply wm_d; focus (simp (disch := omega) only [wr_id, Int.toNat_natCast, Int.reduceToNat, tn_lk, tn_kl, if_pos, if_neg, ↓reduceIte, and_self, and_true, true_and, hic]; with_reducible rfl)) | (with_reducible apply wm_t; focus (first | omega | (simp (disch := omega) only [wr_id, hic]; omega) | (simp (disch := omega) only [wr_id, hic]; done))) | (with_reducible apply wm_f; focus (first | omega | (simp (disch := omega) only [wr_id, hic]; omega) | (simp (disch := omega) only [wr_id, hic]; done)))))
      refine wm_b (m_cop hmf hz hM.1 hM.2.1) (fun v K hK => ?_)
      obtain ⟨k1, k2, k3, k4, k5⟩ := hK
      have cpl : f_X12_coupleAt 369 (c : Int) (mm t d rt K) = some (-2, mm t d rt K) := by
        rw [s_coupleAt k3.1 (by rw [k4]; exact hv) hx, k4, o2]; rfl
      (repeat (first | (with_reducible apply wm_o; focus (simp (disch := omega) only [wr_id, Int.toNat_natCast, Int.reduceToNat, tn_lk, tn_kl, if_pos, if_neg, ↓reduceIte, and_self, and_true, true_and, cpl]; with_reducible rfl)) | (with_reducible apply wm_q) | (with_reducible apply wm_c; focus (first | assumption | decide +kernel)) | (with_reducible apply wm_d; focus (simp (disch := omega) only [wr_id, Int.toNat_natCast, Int.reduceToNat, tn_lk, tn_kl, if_pos, if_neg, ↓reduceIte, and_self, and_true, true_and, cpl]; with_reducible rfl)) | (with_reducible apply wm_t; focus (first | omega | (simp (disch := omega) only [wr_id, cpl]; omega) | (simp (disch := omega) only [wr_id, cpl]; done))) | (with_reducible apply wm_f; focus (first | omega | (simp (disch := omega) only [wr_id, cpl]; omega) | (simp (disch := omega) only [wr_id, cpl]; done)))))
      exact wm_z0 ⟨rfl, INV_q hR hC hM (frm_refl _ _) k1 k2⟩
    · have hl0 : 0 ≤ ρ k := (rAt_iff.mp o3).1
      (repeat (first | (with_reducible apply wm_o; focus (simp (disch := omega) only [wr_id, Int.toNat_natCast, Int.reduceToNat, tn_lk, tn_kl, if_pos, if_neg, ↓reduceIte, and_self, and_true, true_and, FX, hq, FState now_in, o1]; with_reducible rfl)) | (with_reducible apply wm_q) | (with_reducible apply wm_c; focus (first | assumption | decide +kernel)) | (with_reducible apply wm_d; focus (simp (disch := omega) only [wr_id, Int.toNat_natCast, Int.reduceToNat, tn_lk, tn_kl, if_pos, if_neg, ↓reduceIte, and_self, and_true, true_and, FX, hq, FState now_in, o1]; with_reducible rfl)) | (with_reducible apply wm_t; focus (first | omega | (simp (disch := omega) only [wr_id, FX, hq, FState now_in, o1]; omega) | (simp (disch := omega) only [wr_id, FX, hq, FState now_in, o1]; done))) | (with_reducible apply wm_f; focus (first | omega | (simp (disch := omega) only [wr_id, FX, hq, FState now_in, o1]; omega) | (simp (disch := omega) only [wr_id, FX, hq, FState now_in, o1]; done)))))
      refine wm_b (c_keep hC) (fun v J hJ => ?_)
      obtain ⟨j1, j2⟩ := hJ
      have o1' : J 39 c = (k : Int) := by
        have := j2.2.1.2.2.2.1 c (by omega)
        rw [this, onI_some j2.1 o0 o3]
      (repeat (first | (with_reducible apply wm_o; focus (simp (disch := omega) only [wr_id, Int.toNat_natCast, Int.reduceToNat, tn_lk, tn_kl, if_pos, if_neg, ↓reduceIte, and_self, and_true, true_and, FX, FState now_in, o1']; with_reducible rfl)) | (with_reducible apply wm_q) | (with_reducible apply wm_c; focus (first | assumption | decide +kernel)) | (with_reducible apply wm_d; focus (simp (disch := omega) only [wr_id, Int.toNat_natCast, Int.reduceToNat, tn_lk, tn_kl, if_pos, if_neg, ↓reduceIte, and_self, and_true, true_and, FX, FState now_in, o1']; with_reducible rfl)) | (with_reducible apply wm_t; focus (first | omega | (simp (disch := omega) only [wr_id, FX, FState now_in, o1']; omega) | (simp (disch := omega) only [wr_id, FX, FState now_in, o1']; done))) | (with_reducible apply wm_f; focus (first | omega | (simp (disch := omega) only [wr_id, FX, FState now_in, o1']; omega) | (simp (disch := omega) only [wr_id, FX, FState now_in, o1']; done)))))
      refine wm_b (w_take now_in ⟨sq.1, sq.2.1⟩ hn sq.2.2.2.2.1 j2.1 j2.2.1 o0 hl0) (fun v2 J2 hJ2 => ?_)
      obtain ⟨j3, j4⟩ := hJ2
      refine wm_z1 ?_
      have hf : frm (fun a => scrC a ∨ stS a) I J2 := frm_trans j1 (frm_sub j3 (fun a ha => Or.inr (by unfold stF at ha; unfold stS; omega)))
      have hC2 := stC_now j2 j3 (rOK_take j2.1 o0) j4
      have hR2 := REST_c hf hR
      have hM2 := stM_c hf hM
      have hic := s_isCell_t (t := t) (d := d) (rt := rt) hR2.2.2.2.1.1 z.1 z.2
      show wm t d rt (f_X12_lift 369 (c : Int) (mm t d rt J2)) _
      unfold f_X12_lift
      (repeat (first | (with_reducible apply wm_o; focus (simp (disch := omega) only [wr_id, Int.toNat_natCast, Int.reduceToNat, tn_lk, tn_kl, if_pos, if_neg, ↓reduceIte, and_self, and_true, true_and, hic]; with_reducible rfl)) | (with_reducible apply wm_q) | (with_reducible apply wm_c; focus (first | assumption | decide +kernel)) | (with_reducible apply wm_d; focus (simp (disch := omega) only [wr_id, Int.toNat_natCast, Int.reduceToNat, tn_lk, tn_kl, if_pos, if_neg, ↓reduceIte, and_self, and_true, true_and, hic]; with_reducible rfl)) | (with_reducible apply wm_t; focus (first | omega | (simp (disch := omega) only [wr_id, hic]; omega) | (simp (disch := omega) only [wr_id, hic]; done))) | (with_reducible apply wm_f; focus (first | omega | (simp (disch := omega) only [wr_id, hic]; omega) | (simp (disch := omega) only [wr_id, hic]; done)))))
      refine wm_b (m_cop hR2.2.2.2.1 hR2.2.2.2.2.2.2.2.2.2 hM2.1 hM2.2.1) (fun v K hK => ?_)
      obtain ⟨k1, k2, k3, k4, k5⟩ := hK
      have cpl : f_X12_coupleAt 369 (c : Int) (mm t d rt K) = some ((k : Int), mm t d rt K) := by
        rw [s_coupleAt k3.1 (by rw [k4]; exact hv) hx, k4, o2]; rfl
      (repeat (first | (with_reducible apply wm_o; focus (simp (disch := omega) only [wr_id, Int.toNat_natCast, Int.reduceToNat, tn_lk, tn_kl, if_pos, if_neg, ↓reduceIte, and_self, and_true, true_and, cpl]; with_reducible rfl)) | (with_reducible apply wm_q) | (with_reducible apply wm_c; focus (first | assumption | decide +kernel)) | (with_reducible apply wm_d; focus (simp (disch := omega) only [wr_id, Int.toNat_natCast, Int.reduceToNat, tn_lk, tn_kl, if_pos, if_neg, ↓reduceIte, and_self, and_true, true_and, cpl]; with_reducible rfl)) | (with_reducible apply wm_t; focus (first | omega | (simp (disch := omega) only [wr_id, cpl]; omega) | (simp (disch := omega) only [wr_id, cpl]; done))) | (with_reducible apply wm_f; focus (first | omega | (simp (disch := omega) only [wr_id, cpl]; omega) | (simp (disch := omega) only [wr_id, cpl]; done)))))
      refine wm_b (m_lifted o0) (fun v3 K2 hK2 => ?_)
      obtain ⟨l1, l2⟩ := hK2
      rw [k4] at l2
      have hzr := rPut_z (c := -2) (way := 0) o0 hM.2.1
      have l1' : frM scrM scrF K K2 := frM_sub l1 (fun a ha => by unfold scrM; omega) (fun a ha => ha.elim)
      (repeat (first | (with_reducible apply wm_o; focus (simp (disch := omega) only [wr_id, Int.toNat_natCast, Int.reduceToNat, tn_lk, tn_kl, if_pos, if_neg, ↓reduceIte, and_self, and_true, true_and]; with_reducible rfl)) | (with_reducible apply wm_q) | (with_reducible apply wm_c; focus (first | assumption | decide +kernel)) | (with_reducible apply wm_d; focus (simp (disch := omega) only [wr_id, Int.toNat_natCast, Int.reduceToNat, tn_lk, tn_kl, if_pos, if_neg, ↓reduceIte, and_self, and_true, true_and]; with_reducible rfl)) | (with_reducible apply wm_t; focus (first | omega | (simp (disch := omega) only [wr_id]; omega) | (simp (disch := omega) only [wr_id]; done))) | (with_reducible apply wm_f; focus (first | omega | (simp (disch := omega) only [wr_id]; omega) | (simp (disch := omega) only [wr_id]; done)))))
      refine wm_b (m_rec (stM_q l1' (stM_q k1 hM2)) l2 hzr) (fun v4 K3 hK3 => ?_)
      obtain ⟨e1, e2⟩ := hK3
      refine wm_z1 ⟨rfl, INV_s hR hf (frM_trans (frM_sub (frM_trans k1 l1') (fun a ha => Or.inl ha) (fun a ha => Or.inl ha)) (frM_sub e1 (fun a ha => Or.inr ha) (fun a ha => Or.inr ha))) (zM_st (zM_401 k2 l1 (by rw [l2]; exact hzr)) e1) hC2 e2⟩
  · rw [if_neg z] at hq
    have hic := s_isCell_f (t := t) (d := d) (rt := rt) hmf.1 hx (by omega)
    (repeat (first | (with_reducible apply wm_o; focus (simp (disch := omega) only [wr_id, Int.toNat_natCast, Int.reduceToNat, tn_lk, tn_kl, if_pos, if_neg, ↓reduceIte, and_self, and_true, true_and, FX, hq]; with_reducible rfl)) | (with_reducible apply wm_q) | (with_reducible apply wm_c; focus (first | assumption | decide +kernel)) | (with_reducible apply wm_d; focus (simp (disch := omega) only [wr_id, Int.toNat_natCast, Int.reduceToNat, tn_lk, tn_kl, if_pos, if_neg, ↓reduceIte, and_self, and_true, true_and, FX, hq]; with_reducible rfl)) | (with_reducible apply wm_t; focus (first | omega | (simp (disch := omega) only [wr_id, FX, hq]; omega) | (simp (disch := omega) only [wr_id, FX, hq]; done))) | (with_reducible apply wm_f; focus (first | omega | (simp (disch := omega) only [wr_id, FX, hq]; omega) | (simp (disch := omega) only [wr_id, FX, hq]; done)))))
    refine wm_z0 ?_
    show wm t d rt (f_X12_lift 369 x (mm t d rt I)) _
    unfold f_X12_lift
    (repeat (first | (with_reducible apply wm_o; focus (simp (disch := omega) only [wr_id, Int.toNat_natCast, Int.reduceToNat, tn_lk, tn_kl, if_pos, if_neg, ↓reduceIte, and_self, and_true, true_and, hic]; with_reducible rfl)) | (with_reducible apply wm_q) | (with_reducible apply wm_c; focus (first | assumption | decide +kernel)) | (with_reducible apply wm_d; focus (simp (disch := omega) only [wr_id, Int.toNat_natCast, Int.reduceToNat, tn_lk, tn_kl, if_pos, if_neg, ↓reduceIte, and_self, and_true, true_and, hic]; with_reducible rfl)) | (with_reducible apply wm_t; focus (first | omega | (simp (disch := omega) only [wr_id, hic]; omega) | (simp (disch := omega) only [wr_id, hic]; done))) | (with_reducible apply wm_f; focus (first | omega | (simp (disch := omega) only [wr_id, hic]; omega) | (simp (disch := omega) only [wr_id, hic]; done)))))
    exact wm_z0 ⟨rfl, hI'⟩
end PL
