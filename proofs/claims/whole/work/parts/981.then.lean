/-! ===== calls: then ===== -/
section PH
variable {t d rt : Nat} {I J K : Nat → Nat → Int} {lv w h n nh s k : Nat} {hl : Nat → Bool} {sd : Int} {ifs : Nat → List LwI} {xs : Nat → List CI} {ρ σ : Nat → Int} {u : Nat} {H : Nat → Nat → Int} {hd : Nat → Bool} {G : Nat → Nat → Int}
theorem P_then (hI : INV t d rt I) {x y : Int} (hx : in32 x) (hy : in32 y) : both t d rt (f_X11_then 0 x y (mm t d rt I)) (fun M => f_X12_then 369 x y M) := by
  have hI' := hI
  obtain ⟨lv, w, h, n, nh, hl, sd, ifs, xs, hR, ρ, u, H, hd, G, hC, hM⟩ := hI
  have hcf := hR.2.2.1
  have sq := hR.2.1
  have htx := hcf.1
  have kt := (tx_k htx).1
  have hn := sq.2.2.2.2.2.2.1
  have hxw := wr_in hx
  have hyw := wr_in hy
  have wm1 : jd_wr (-1) = -1 := by decide +kernel
  have w60 : jd_wr 60 = 60 := by decide +kernel
  have hq := q_hasCell (d := d) (rt := rt) hR.2.1 hR.2.2.1 hx
  unfold both f_X11_then
  by_cases zx : x = -1 ∨ (0 ≤ x ∧ x < n)
  · by_cases zy : 0 ≤ y ∧ y ≤ 60
    · obtain ⟨m, rfl⟩ : ∃ m : Nat, y = (m : Int) := ⟨y.toNat, by omega⟩
      have hlg := fun (M : jMem) => m_long_t (M := M) hy zy
      -- the class: later is what now will be
      have cls : ∀ Q : Int → (Nat → Nat → Int) → Prop, (∀ J, frm scrC I J → stR J 40 w (gsR ifs xs w nh sd ρ m) → wm t d rt (if jd_wr x = jd_wr (-1) then ((jm_gR 11 5 (mm t d rt J) 0).bind fun r8 =>
          (jm_gI 6 6 (mm t d rt J) r8).bind fun v9 =>
          some (v9, (mm t d rt J)))
          else ((jm_gR 11 5 (mm t d rt J) 0).bind fun r10 =>
          (jm_gR 6 4 (mm t d rt J) r10).bind fun r11 =>
          (jm_ld 20 (mm t d rt J) r11 x).bind fun v12 =>
          if jd_wr v12 = jd_wr (-1) then (some (0, (mm t d rt J)))
          else (some (1, (mm t d rt J))))) Q) → wm t d rt (jbd (f_X6_copyOf 40 34 (mm t d rt I)) fun _ M4 =>
          (jm_gR 11 5 M4 0).bind fun r5 =>
          jcall 11 M4 0 (f_X11_passSeasons 0 r5 (m : Int) M4) fun _ M7 =>
          if jd_wr x = jd_wr (-1) then ((jm_gR 11 5 M7 0).bind fun r8 =>
          (jm_gI 6 6 M7 r8).bind fun v9 =>
          some (v9, M7))
          else ((jm_gR 11 5 M7 0).bind fun r10 =>
          (jm_gR 6 4 M7 r10).bind fun r11 =>
          (jm_ld 20 M7 r11 x).bind fun v12 =>
          if jd_wr v12 = jd_wr (-1) then (some (0, M7))
          else (some (1, M7)))) Q := by
        intro Q hQ
        refine wm_b (w_copyOf lat_in now_in (by decide) hC.2.1) (fun v J hJ => ?_)
        obtain ⟨j1, j2⟩ := hJ
        have j1' : frm scrC I J := frm_sub j1 (fun a ha => by unfold stF at ha; unfold scrC; omega)
        have hRJ := REST_c (frm_sub j1' (fun a ha => Or.inl ha)) hR
        (repeat (first | (with_reducible apply wm_o; focus (simp (disch := omega) only [wr_id, Int.toNat_natCast, Int.reduceToNat, tn_lk, tn_kl, if_pos, if_neg, ↓reduceIte, and_self, and_true, true_and, FX]; with_reducible rfl)) | (with_reducible apply wm_q) | (with_reducible apply wm_c; focus (first | assumption | decide +kernel)) | (with_reducible apply wm_d; focus (simp (disch := omega) only [wr_id, Int.toNat_natCast, Int.reduceToNat, tn_lk, tn_kl, if_pos, if_neg, ↓reduceIte, and_self, and_true, true_and, FX]; with_reducible rfl)) | (with_reducible apply wm_t; focus (first | omega | (simp (disch := omega) only [wr_id, FX]; omega) | (simp (disch := omega) only [wr_id, FX]; done))) | (with_reducible apply wm_f; focus (first | omega | (simp (disch := omega) only [wr_id, FX]; omega) | (simp (disch := omega) only [wr_id, FX]; done)))))
        refine wm_b (c_pass (m := m) sq hRJ.2.2.1 lat_in hC.1 j2 (by omega)) (fun v2 J2 hJ2 => ?_)
        obtain ⟨p1, p2⟩ := hJ2
        exact hQ J2 (frm_trans j1' (frm_sub p1 (fun a ha => by
          rcases ha with ha | ha
          · exact scr_12 htx a ha
          · unfold stF at ha; unfold scrC; omega))) p2
      -- the model
      have mod : ∀ (J : Nat → Nat → Int) (r : Int), frm scrC I J → (∀ K, K 401 = gsR ifs xs w nh sd ρ m → cfM K lv w h n nh hl sd ifs xs → wm t d rt (if jd_wr x = jd_wr (-1) then (jcall 12 (mm t d rt K) 369 (f_X12_stoneMany 369 (mm t d rt K)) fun v7 M8 =>
          some (v7, M8))
          else (jcall 12 (mm t d rt K) 369 (f_X12_coupleAt 369 x (mm t d rt K)) fun v9 M10 =>
          if jd_wr v9 < 0 then (some (0, M10))
          else (some (1, M10)))) (fun r' L => jd_wr r = jd_wr r' ∧ L = K)) → wm t d rt (f_X12_then 369 x (m : Int) (mm t d rt J)) (fun r' K => jd_wr r = jd_wr r' ∧ INV t d rt K) := by
        intro J r hJ hK
        have hf' : frm (fun a => scrC a ∨ stS a) I J := frm_sub hJ (fun a ha => Or.inl ha)
        have hR2 := REST_c hf' hR
        have hM2 := stM_c hf' hM
        have tail : wm t d rt (jbd (f_X12_copies 369 (mm t d rt J)) fun _ M4 =>
            jcall 12 M4 369 (f_X12_goes 369 (m : Int) M4) fun _ M6 =>
            if jd_wr x = jd_wr (-1) then (jcall 12 M6 369 (f_X12_stoneMany 369 M6) fun v7 M8 =>
            some (v7, M8))
            else (jcall 12 M6 369 (f_X12_coupleAt 369 x M6) fun v9 M10 =>
            if jd_wr v9 < 0 then (some (0, M10))
            else (some (1, M10)))) (fun r' K => jd_wr r = jd_wr r' ∧ INV t d rt K) := by
          refine wm_b (m_cop hR2.2.2.2.1 hR2.2.2.2.2.2.2.2.2.2 hM2.1 hM2.2.1) (fun v K hK' => ?_)
          obtain ⟨k1, k2, k3, k4, k5⟩ := hK'
          (repeat (first | (with_reducible apply wm_o; focus (simp (disch := omega) only [wr_id, Int.toNat_natCast, Int.reduceToNat, tn_lk, tn_kl, if_pos, if_neg, ↓reduceIte, and_self, and_true, true_and]; with_reducible rfl)) | (with_reducible apply wm_q) | (with_reducible apply wm_c; focus (first | assumption | decide +kernel)) | (with_reducible apply wm_d; focus (simp (disch := omega) only [wr_id, Int.toNat_natCast, Int.reduceToNat, tn_lk, tn_kl, if_pos, if_neg, ↓reduceIte, and_self, and_true, true_and]; with_reducible rfl)) | (with_reducible apply wm_t; focus (first | omega | (simp (disch := omega) only [wr_id]; omega) | (simp (disch := omega) only [wr_id]; done))) | (with_reducible apply wm_f; focus (first | omega | (simp (disch := omega) only [wr_id]; omega) | (simp (disch := omega) only [wr_id]; done)))))
          refine wm_b (m_goes (m := m) k3 hC.1 k4 k5 (by omega)) (fun v3 K2 hK2 => ?_)
          obtain ⟨l1, l2⟩ := hK2
          have l1' : frM scrM scrF K K2 := frM_sub l1 (fun a ha => by unfold scrM; omega) (fun a ha => by unfold scrF; omega)
          have hzr := gs_z (ifs := ifs) (xs := xs) (w := w) (nh := nh) (sd' := sd) hM.2.1 m
          refine wm_w (hK K2 l2 (cfM_frm l1 (fun a _ _ _ _ _ _ _ _ => by omega) (by omega) k3)) (fun r' L hL => ⟨hL.1, ?_⟩)
          rw [hL.2]
          exact INV_q hR hC hM hJ (frM_trans k1 l1') (zM_go k2 l1 (by rw [l2]; exact hzr))
        unfold f_X12_then
        by_cases z1 : x = -1
        · (repeat (first | (with_reducible apply wm_o; focus (simp (disch := omega) only [wr_id, Int.toNat_natCast, Int.reduceToNat, tn_lk, tn_kl, if_pos, if_neg, ↓reduceIte, and_self, and_true, true_and, hlg]; with_reducible rfl)) | (with_reducible apply wm_q) | (with_reducible apply wm_c; focus (first | assumption | decide +kernel)) | (with_reducible apply wm_d; focus (simp (disch := omega) only [wr_id, Int.toNat_natCast, Int.reduceToNat, tn_lk, tn_kl, if_pos, if_neg, ↓reduceIte, and_self, and_true, true_and, hlg]; with_reducible rfl)) | (with_reducible apply wm_t; focus (first | omega | (simp (disch := omega) only [wr_id, hlg]; omega) | (simp (disch := omega) only [wr_id, hlg]; done))) | (with_reducible apply wm_f; focus (first | omega | (simp (disch := omega) only [wr_id, hlg]; omega) | (simp (disch := omega) only [wr_id, hlg]; done)))))
          exact tail
        · have hic := s_isCell_t (t := t) (d := d) (rt := rt) hR2.2.2.2.1.1 (show 0 ≤ x by omega) (by omega)
          (repeat (first | (with_reducible apply wm_o; focus (simp (disch := omega) only [wr_id, Int.toNat_natCast, Int.reduceToNat, tn_lk, tn_kl, if_pos, if_neg, ↓reduceIte, and_self, and_true, true_and, hic, hlg]; with_reducible rfl)) | (with_reducible apply wm_q) | (with_reducible apply wm_c; focus (first | assumption | decide +kernel)) | (with_reducible apply wm_d; focus (simp (disch := omega) only [wr_id, Int.toNat_natCast, Int.reduceToNat, tn_lk, tn_kl, if_pos, if_neg, ↓reduceIte, and_self, and_true, true_and, hic, hlg]; with_reducible rfl)) | (with_reducible apply wm_t; focus (first | omega | (simp (disch := omega) only [wr_id, hic, hlg]; omega) | (simp (disch := omega) only [wr_id, hic, hlg]; done))) | (with_reducible apply wm_f; focus (first | omega | (simp (disch := omega) only [wr_id, hic, hlg]; omega) | (simp (disch := omega) only [wr_id, hic, hlg]; done)))))
          exact tail
      have rg := rOK_gs (ifs := ifs) (xs := xs) (nh := nh) (sd := sd) hC.1 m
      have hv := vRow_of rg hn
      by_cases z1 : x = -1
      · subst z1
        (repeat (first | (with_reducible apply wm_o; focus (simp (disch := omega) only [wr_id, Int.toNat_natCast, Int.reduceToNat, tn_lk, tn_kl, if_pos, if_neg, ↓reduceIte, and_self, and_true, true_and, FX]; with_reducible rfl)) | (with_reducible apply wm_q) | (with_reducible apply wm_c; focus (first | assumption | decide +kernel)) | (with_reducible apply wm_d; focus (simp (disch := omega) only [wr_id, Int.toNat_natCast, Int.reduceToNat, tn_lk, tn_kl, if_pos, if_neg, ↓reduceIte, and_self, and_true, true_and, FX]; with_reducible rfl)) | (with_reducible apply wm_t; focus (first | omega | (simp (disch := omega) only [wr_id, FX]; omega) | (simp (disch := omega) only [wr_id, FX]; done))) | (with_reducible apply wm_f; focus (first | omega | (simp (disch := omega) only [wr_id, FX]; omega) | (simp (disch := omega) only [wr_id, FX]; done)))))
        refine cls _ (fun J j1 j2 => ?_)
        have e6 : J 40 6 = (rMany (gsR ifs xs w nh sd ρ m) : Int) := j2.2.2.2.2.2.1
        (repeat (first | (with_reducible apply wm_o; focus (simp (disch := omega) only [wr_id, Int.toNat_natCast, Int.reduceToNat, tn_lk, tn_kl, if_pos, if_neg, ↓reduceIte, and_self, and_true, true_and, FX, FState lat_in, e6]; with_reducible rfl)) | (with_reducible apply wm_q) | (with_reducible apply wm_c; focus (first | assumption | decide +kernel)) | (with_reducible apply wm_d; focus (simp (disch := omega) only [wr_id, Int.toNat_natCast, Int.reduceToNat, tn_lk, tn_kl, if_pos, if_neg, ↓reduceIte, and_self, and_true, true_and, FX, FState lat_in, e6]; with_reducible rfl)) | (with_reducible apply wm_t; focus (first | omega | (simp (disch := omega) only [wr_id, FX, FState lat_in, e6]; omega) | (simp (disch := omega) only [wr_id, FX, FState lat_in, e6]; done))) | (with_reducible apply wm_f; focus (first | omega | (simp (disch := omega) only [wr_id, FX, FState lat_in, e6]; omega) | (simp (disch := omega) only [wr_id, FX, FState lat_in, e6]; done)))))
        refine wm_r (mod J _ j1 (fun K k1 k2 => ?_))
        have hsm := s_stoneMany (t := t) (d := d) (rt := rt) (I := K) (by rw [k1]; exact hv)
        rw [k1] at hsm
        (repeat (first | (with_reducible apply wm_o; focus (simp (disch := omega) only [wr_id, Int.toNat_natCast, Int.reduceToNat, tn_lk, tn_kl, if_pos, if_neg, ↓reduceIte, and_self, and_true, true_and, hsm]; with_reducible rfl)) | (with_reducible apply wm_q) | (with_reducible apply wm_c; focus (first | assumption | decide +kernel)) | (with_reducible apply wm_d; focus (simp (disch := omega) only [wr_id, Int.toNat_natCast, Int.reduceToNat, tn_lk, tn_kl, if_pos, if_neg, ↓reduceIte, and_self, and_true, true_and, hsm]; with_reducible rfl)) | (with_reducible apply wm_t; focus (first | omega | (simp (disch := omega) only [wr_id, hsm]; omega) | (simp (disch := omega) only [wr_id, hsm]; done))) | (with_reducible apply wm_f; focus (first | omega | (simp (disch := omega) only [wr_id, hsm]; omega) | (simp (disch := omega) only [wr_id, hsm]; done)))))
        exact wm_r ⟨rfl, rfl⟩
      · obtain ⟨c, rfl⟩ : ∃ c : Nat, x = (c : Int) := ⟨x.toNat, by omega⟩
        rw [if_pos (by omega)] at hq
        (repeat (first | (with_reducible apply wm_o; focus (simp (disch := omega) only [wr_id, Int.toNat_natCast, Int.reduceToNat, tn_lk, tn_kl, if_pos, if_neg, ↓reduceIte, and_self, and_true, true_and, FX, hq]; with_reducible rfl)) | (with_reducible apply wm_q) | (with_reducible apply wm_c; focus (first | assumption | decide +kernel)) | (with_reducible apply wm_d; focus (simp (disch := omega) only [wr_id, Int.toNat_natCast, Int.reduceToNat, tn_lk, tn_kl, if_pos, if_neg, ↓reduceIte, and_self, and_true, true_and, FX, hq]; with_reducible rfl)) | (with_reducible apply wm_t; focus (first | omega | (simp (disch := omega) only [wr_id, FX, hq]; omega) | (simp (disch := omega) only [wr_id, FX, hq]; done))) | (with_reducible apply wm_f; focus (first | omega | (simp (disch := omega) only [wr_id, FX, hq]; omega) | (simp (disch := omega) only [wr_id, FX, hq]; done)))))
        refine cls _ (fun J j1 j2 => ?_)
        have e5 : J 45 c = onI w (gsR ifs xs w nh sd ρ m) c := j2.2.2.2.1 c (by omega)
        rcases onI_cases w (gsR ifs xs w nh sd ρ m) c with ⟨o1, o2⟩ | ⟨k, o0, o1, o2, _⟩
        · rw [o1] at e5
          (repeat (first | (with_reducible apply wm_o; focus (simp (disch := omega) only [wr_id, Int.toNat_natCast, Int.reduceToNat, tn_lk, tn_kl, if_pos, if_neg, ↓reduceIte, and_self, and_true, true_and, FX, FState lat_in, e5]; with_reducible rfl)) | (with_reducible apply wm_q) | (with_reducible apply wm_c; focus (first | assumption | decide +kernel)) | (with_reducible apply wm_d; focus (simp (disch := omega) only [wr_id, Int.toNat_natCast, Int.reduceToNat, tn_lk, tn_kl, if_pos, if_neg, ↓reduceIte, and_self, and_true, true_and, FX, FState lat_in, e5]; with_reducible rfl)) | (with_reducible apply wm_t; focus (first | omega | (simp (disch := omega) only [wr_id, FX, FState lat_in, e5]; omega) | (simp (disch := omega) only [wr_id, FX, FState lat_in, e5]; done))) | (with_reducible apply wm_f; focus (first | omega | (simp (disch := omega) only [wr_id, FX, FState lat_in, e5]; omega) | (simp (disch := omega) only [wr_id, FX, FState lat_in, e5]; done)))))
          refine wm_r (mod J _ j1 (fun K k1 k2 => ?_))
          have cpl : f_X12_coupleAt 369 (c : Int) (mm t d rt K) = some (-2, mm t d rt K) := by
            rw [s_coupleAt k2.1 (by rw [k1]; exact hv) hx, k1, o2]; rfl
          (repeat (first | (with_reducible apply wm_o; focus (simp (disch := omega) only [wr_id, Int.toNat_natCast, Int.reduceToNat, tn_lk, tn_kl, if_pos, if_neg, ↓reduceIte, and_self, and_true, true_and, cpl]; with_reducible rfl)) | (with_reducible apply wm_q) | (with_reducible apply wm_c; focus (first | assumption | decide +kernel)) | (with_reducible apply wm_d; focus (simp (disch := omega) only [wr_id, Int.toNat_natCast, Int.reduceToNat, tn_lk, tn_kl, if_pos, if_neg, ↓reduceIte, and_self, and_true, true_and, cpl]; with_reducible rfl)) | (with_reducible apply wm_t; focus (first | omega | (simp (disch := omega) only [wr_id, cpl]; omega) | (simp (disch := omega) only [wr_id, cpl]; done))) | (with_reducible apply wm_f; focus (first | omega | (simp (disch := omega) only [wr_id, cpl]; omega) | (simp (disch := omega) only [wr_id, cpl]; done)))))
          exact wm_r ⟨rfl, rfl⟩
        · rw [o1] at e5
          (repeat (first | (with_reducible apply wm_o; focus (simp (disch := omega) only [wr_id, Int.toNat_natCast, Int.reduceToNat, tn_lk, tn_kl, if_pos, if_neg, ↓reduceIte, and_self, and_true, true_and, FX, FState lat_in, e5]; with_reducible rfl)) | (with_reducible apply wm_q) | (with_reducible apply wm_c; focus (first | assumption | decide +kernel)) | (with_reducible apply wm_d; focus (simp (disch := omega) only [wr_id, Int.toNat_natCast, Int.reduceToNat, tn_lk, tn_kl, if_pos, if_neg, ↓reduceIte, and_self, and_true, true_and, FX, FState lat_in, e5]; with_reducible rfl)) | (with_reducible apply wm_t; focus (first | omega | (simp (disch := omega) only [wr_id, FX, FState lat_in, e5]; omega) | (simp (disch := omega) only [wr_id, FX, FState lat_in, e5]; done))) | (with_reducible apply wm_f; focus (first | omega | (simp (disch := omega) only [wr_id, FX, FState lat_in, e5]; omega) | (simp (disch := omega) only [wr_id, FX, FState lat_in, e5]; done)))))
          refine wm_r (mod J _ j1 (fun K k1 k2 => ?_))
          have cpl : f_X12_coupleAt 369 (c : Int) (mm t d rt K) = some ((k : Int), mm t d rt K) := by
            rw [s_coupleAt k2.1 (by rw [k1]; exact hv) hx, k1, o2]; rfl
          (repeat (first | (with_reducible apply wm_o; focus (simp (disch := omega) only [wr_id, Int.toNat_natCast, Int.reduceToNat, tn_lk, tn_kl, if_pos, if_neg, ↓reduceIte, and_self, and_true, true_and, cpl]; with_reducible rfl)) | (with_reducible apply wm_q) | (with_reducible apply wm_c; focus (first | assumption | decide +kernel)) | (with_reducible apply wm_d; focus (simp (disch := omega) only [wr_id, Int.toNat_natCast, Int.reduceToNat, tn_lk, tn_kl, if_pos, if_neg, ↓reduceIte, and_self, and_true, true_and, cpl]; with_reducible rfl)) | (with_reducible apply wm_t; focus (first | omega | (simp (disch := omega) only [wr_id, cpl]; omega) | (simp (disch := omega) only [wr_id, cpl]; done))) | (with_reducible apply wm_f; focus (first | omega | (simp (disch := omega) only [wr_id, cpl]; omega) | (simp (disch := omega) only [wr_id, cpl]; done)))))
          exact wm_r ⟨rfl, rfl⟩
    · have hlg := fun (M : jMem) => m_long_f (M := M) hy zy
      have mod : wm t d rt (f_X12_then 369 x y (mm t d rt I)) (fun r' K => jd_wr (-1) = jd_wr r' ∧ INV t d rt K) := by
        unfold f_X12_then
        by_cases z1 : x = -1
        · (repeat (first | (with_reducible apply wm_o; focus (simp (disch := omega) only [wr_id, Int.toNat_natCast, Int.reduceToNat, tn_lk, tn_kl, if_pos, if_neg, ↓reduceIte, and_self, and_true, true_and, hlg]; with_reducible rfl)) | (with_reducible apply wm_q) | (with_reducible apply wm_c; focus (first | assumption | decide +kernel)) | (with_reducible apply wm_d; focus (simp (disch := omega) only [wr_id, Int.toNat_natCast, Int.reduceToNat, tn_lk, tn_kl, if_pos, if_neg, ↓reduceIte, and_self, and_true, true_and, hlg]; with_reducible rfl)) | (with_reducible apply wm_t; focus (first | omega | (simp (disch := omega) only [wr_id, hlg]; omega) | (simp (disch := omega) only [wr_id, hlg]; done))) | (with_reducible apply wm_f; focus (first | omega | (simp (disch := omega) only [wr_id, hlg]; omega) | (simp (disch := omega) only [wr_id, hlg]; done)))))
          exact wm_r ⟨rfl, hI'⟩
        · have hic := s_isCell_t (t := t) (d := d) (rt := rt) hR.2.2.2.1.1 (show 0 ≤ x by omega) (by omega)
          (repeat (first | (with_reducible apply wm_o; focus (simp (disch := omega) only [wr_id, Int.toNat_natCast, Int.reduceToNat, tn_lk, tn_kl, if_pos, if_neg, ↓reduceIte, and_self, and_true, true_and, hic, hlg]; with_reducible rfl)) | (with_reducible apply wm_q) | (with_reducible apply wm_c; focus (first | assumption | decide +kernel)) | (with_reducible apply wm_d; focus (simp (disch := omega) only [wr_id, Int.toNat_natCast, Int.reduceToNat, tn_lk, tn_kl, if_pos, if_neg, ↓reduceIte, and_self, and_true, true_and, hic, hlg]; with_reducible rfl)) | (with_reducible apply wm_t; focus (first | omega | (simp (disch := omega) only [wr_id, hic, hlg]; omega) | (simp (disch := omega) only [wr_id, hic, hlg]; done))) | (with_reducible apply wm_f; focus (first | omega | (simp (disch := omega) only [wr_id, hic, hlg]; omega) | (simp (disch := omega) only [wr_id, hic, hlg]; done)))))
          exact wm_r ⟨rfl, hI'⟩
      by_cases z1 : x = -1
      · by_cases z2 : y < 0
        · (repeat (first | (with_reducible apply wm_o; focus (simp (disch := omega) only [wr_id, Int.toNat_natCast, Int.reduceToNat, tn_lk, tn_kl, if_pos, if_neg, ↓reduceIte, and_self, and_true, true_and]; with_reducible rfl)) | (with_reducible apply wm_q) | (with_reducible apply wm_c; focus (first | assumption | decide +kernel)) | (with_reducible apply wm_d; focus (simp (disch := omega) only [wr_id, Int.toNat_natCast, Int.reduceToNat, tn_lk, tn_kl, if_pos, if_neg, ↓reduceIte, and_self, and_true, true_and]; with_reducible rfl)) | (with_reducible apply wm_t; focus (first | omega | (simp (disch := omega) only [wr_id]; omega) | (simp (disch := omega) only [wr_id]; done))) | (with_reducible apply wm_f; focus (first | omega | (simp (disch := omega) only [wr_id]; omega) | (simp (disch := omega) only [wr_id]; done)))))
          exact wm_r mod
        · (repeat (first | (with_reducible apply wm_o; focus (simp (disch := omega) only [wr_id, Int.toNat_natCast, Int.reduceToNat, tn_lk, tn_kl, if_pos, if_neg, ↓reduceIte, and_self, and_true, true_and]; with_reducible rfl)) | (with_reducible apply wm_q) | (with_reducible apply wm_c; focus (first | assumption | decide +kernel)) | (with_reducible apply wm_d; focus (simp (disch := omega) only [wr_id, Int.toNat_natCast, Int.reduceToNat, tn_lk, tn_kl, if_pos, if_neg, ↓reduceIte, and_self, and_true, true_and]; with_reducible rfl)) | (with_reducible apply wm_t; focus (first | omega | (simp (disch := omega) only [wr_id]; omega) | (simp (disch := omega) only [wr_id]; done))) | (with_reducible apply wm_f; focus (first | omega | (simp (disch := omega) only [wr_id]; omega) | (simp (disch := omega) only [wr_id]; done)))))
          exact wm_r mod
      · rw [if_pos (by omega)] at hq
        by_cases z2 : y < 0
        · (repeat (first | (with_reducible apply wm_o; focus (simp (disch := omega) only [wr_id, Int.toNat_natCast, Int.reduceToNat, tn_lk, tn_kl, if_pos, if_neg, ↓reduceIte, and_self, and_true, true_and, FX, hq]; with_reducible rfl)) | (with_reducible apply wm_q) | (with_reducible apply wm_c; focus (first | assumption | decide +kernel)) | (with_reducible apply wm_d; focus (simp (disch := omega) only [wr_id, Int.toNat_natCast, Int.reduceToNat, tn_lk, tn_kl, if_pos, if_neg, ↓reduceIte, and_self, and_true, true_and, FX, hq]; with_reducible rfl)) | (with_reducible apply wm_t; focus (first | omega | (simp (disch := omega) only [wr_id, FX, hq]; omega) | (simp (disch := omega) only [wr_id, FX, hq]; done))) | (with_reducible apply wm_f; focus (first | omega | (simp (disch := omega) only [wr_id, FX, hq]; omega) | (simp (disch := omega) only [wr_id, FX, hq]; done)))))
          exact wm_r mod
        · (repeat (first | (with_reducible apply wm_o; focus (simp (disch := omega) only [wr_id, Int.toNat_natCast, Int.reduceToNat, tn_lk, tn_kl, if_pos, if_neg, ↓reduceIte, and_self, and_true, true_and, FX, hq]; with_reducible rfl)) | (with_reducible apply wm_q) | (with_reducible apply wm_c; focus (first | assumption | decide +kernel)) | (with_reducible apply wm_d; focus (simp (disch := omega) only [wr_id, Int.toNat_natCast, Int.reduceToNat, tn_lk, tn_kl, if_pos, if_neg, ↓reduceIte, and_self, and_true, true_and, FX, hq]; with_reducible rfl)) | (with_reducible apply wm_t; focus (first | omega | (simp (disch := omega) only [wr_id, FX, hq]; omega) | (simp (disch := omega) only [wr_id, FX, hq]; done))) | (with_reducible apply wm_f; focus (first | omega | (simp (disch := omega) only [wr_id, FX, hq]; omega) | (simp (disch := omega) only [wr_id, FX, hq]; done)))))
          exact wm_r mod
  · rw [if_neg (by omega)] at hq
    have hic := s_isCell_f (t := t) (d := d) (rt := rt) hR.2.2.2.1.1 hx (by omega)
    (repeat (first | (with_reducible apply wm_o; focus (simp (disch := omega) only [wr_id, Int.toNat_natCast, Int.reduceToNat, tn_lk, tn_kl, if_pos, if_neg, ↓reduceIte, and_self, and_true, true_and, FX, hq]; with_reducible rfl)) | (with_reducible apply wm_q) | (with_reducible apply wm_c; focus (first | assumption | decide +kernel)) | (with_reducible apply wm_d; focus (simp (disch := omega) only [wr_id, Int.toNat_natCast, Int.reduceToNat, tn_lk, tn_kl, if_pos, if_neg, ↓reduceIte, and_self, and_true, true_and, FX, hq]; with_reducible rfl)) | (with_reducible apply wm_t; focus (first | omega | (simp (disch := omega) only [wr_id, FX, hq]; omega) | (simp (disch := omega) only [wr_id, FX, hq]; done))) | (with_reducible apply wm_f; focus (first | omega | (simp (disch := omega) only [wr_id, FX, hq]; omega) | (simp (disch := omega) only [wr_id, FX, hq]; done)))))
    refine wm_r ?_
    show wm t d rt (f_X12_then 369 x y (mm t d rt I)) _
    unfold f_X12_then
    (repeat (first | (with_reducible apply wm_o; focus (simp (disch := omega) only [wr_id, Int.toNat_natCast, Int.reduceToNat, tn_lk, tn_kl, if_pos, if_neg, ↓reduceIte, and_self, and_true, true_and, hic]; with_reducible rfl)) | (with_reducible apply wm_q) | (with_reducible apply wm_c; focus (first | assumption | decide +kernel)) | (with_reducible apply wm_d; focus (simp (disch := omega) only [wr_id, Int.toNat_natCast, Int.reduceToNat, tn_lk, tn_kl, if_pos, if_neg, ↓reduceIte, and_self, and_true, true_and, hic]; with_reducible rfl)) | (with_reducible apply wm_t; focus (first | omega | (simp (disch := omega) only [wr_id, hic]; omega) | (simp (disch := omega) only [wr_id, hic]; done))) | (with_reducible apply wm_f; focus (first | omega | (simp (disch := omega) only [wr_id, hic]; omega) | (simp (disch := omega) only [wr_id, hic]; done)))))
    exact wm_r ⟨rfl, hI'⟩
end PH
