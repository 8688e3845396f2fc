/-! ===== calls: farthest, lowest ===== -/
section PF
variable {t d rt : Nat} {I J K : Nat → Nat → Int} {lv w h n nh r : Nat} {hl cl na nd U : Nat → Bool} {sd : Int} {ifs : Nat → List LwI} {xs : Nat → List CI} {ρ : Nat → Int} {u : Nat} {H : Nat → Nat → Int} {hd : Nat → Bool} {G : Nat → Nat → Int} {p p' : List Int}
theorem nth_num (sq : sqOK w h n nh hl) {b : Nat} (hb : b < Np w n noB noB n 0 hl) : nbL w h hl noB noB h 0 0 (lnP w h (nthP w n noB noB n 0 hl b)) = b := by
  have h1 := sq.1
  have h2 := sq.2.2.1
  rw [nb_line (by omega) sq.2.1 (by omega) sq.2.2.2.2.1 (nth_mem hb), rkP_nth hb]
theorem apV_c (w h : Nat) (p p' : List Int) : apV w h p p' = apV w h p' p := smI_congr (fun y _ => smI_congr (fun x _ => abD_c _ _))
theorem P_farthest (hI : INV t d rt I) {x : Int} (hx : in32 x) : both t d rt (f_X11_farthest 0 x (mm t d rt I)) (fun M => f_X12_farthest 369 x M) := by
  have hI' := hI
  obtain ⟨lv, w, h, n, nh, hl, sd, ifs, xs, hR, ρ, u, H, hd, G, hC, hM⟩ := hI
  have sq := hR.2.1
  have hcf := hR.2.2.1
  have hmf := hR.2.2.2.1
  have hz := hR.2.2.2.2.2.2.2.2.2
  have hE := hR.2.2.2.2.2.2.2.1
  have hnw := sq.2.2.2.2.1
  have hn := sq.2.2.2.2.2.2.1
  have hw : 2 ≤ w ∧ w ≤ 6 := ⟨sq.1, sq.2.1⟩
  have hh : 2 ≤ h ∧ h ≤ 6 := ⟨sq.2.2.1, sq.2.2.2.1⟩
  have hhi := q_hasHills (d := d) (rt := rt) sq hcf hC.1 hC.2.1
  have hx' := hx
  unfold in32 at hx'
  have ex := wr_in hx
  have w0 := wr_0
  have w1 := wr_1
  have hTb := Np_b (na := noB) (nd := noB) (cl := hl) (show 0 < w by omega) hnw hn
  obtain ⟨T, hT⟩ : ∃ T, T = Np w n noB noB n 0 hl := ⟨_, rfl⟩
  rw [← hT] at hTb
  unfold both f_X11_farthest
  by_cases z : 0 ≤ x ∧ x ≤ 1
  · have in1 := fun (M : jMem) => m_in_t (a := 0) (b := 1) (M := M) hx (i32 (by omega) (by omega)) (i32 (by omega) (by omega)) z
    -- the model up to its hills
    have mod : ∀ (J : Nat → Nat → Int) (Q : Int → (Nat → Nat → Int) → Prop) (g : Int → jMem → Option (Int × jMem)), frm scrC I J → (∀ K, frM scrM scrF J K → zM K → cfM K lv w h n nh hl sd ifs xs → K 400 = ρ → K 412 0 = 0 → wm t d rt (g (if nh = 0 ∧ 2 * rMany ρ = n then 1 else 0) (mm t d rt K)) Q) → wm t d rt (jbd (f_X12_isHilly 369 (mm t d rt J)) g) Q := by
      intro J Q g jC hQ
      have jS : frm (fun a => scrC a ∨ stS a) I J := frm_sub jC (fun a ha => Or.inl ha)
      have hRJ := REST_c jS hR
      have hMJ := stM_c jS hM
      refine wm_b (m_isHilly hRJ.2.2.2.1 sq hRJ.2.2.2.2.2.2.2.2.2 hC.1 hMJ.1 hMJ.2.1) (fun v4 K hK => ?_)
      obtain ⟨rfl, k1, k2, k3, k4⟩ := hK
      exact hQ K (frM_sub k1 (fun a ha => by unfold scrM; omega) (fun a ha => by unfold scrF; omega)) k2 k3 ((k1.1 400 (by decide) (by decide)).trans hMJ.1) ((congrFun (k1.1 412 (by decide) (by decide)) 0).trans hRJ.2.2.2.2.2.2.2.2.1.2.1)
    have hx2 : x = 0 ∨ x = 1 := by omega
    by_cases zh : nh = 0 ∧ 2 * rMany ρ = n
    · rw [if_pos zh] at hhi
      have kE := be_k
      have hpm := pv_mem hC.1 sq (show nh + 2 * rMany ρ = n by omega)
      have hpos : 0 < Np w n noB noB n 0 hl := List.length_pos_of_mem hpm
      have hwt : ∀ y m, -10000 ≤ apR w y m (lnF w h (pvR ρ n) y) ∧ apR w y m (lnF w h (pvR ρ n) y) ≤ 10000 := fun y m => by
        have := apR_b hw.2 y m (lnF w h (pvR ρ n) y)
        omega
      obtain ⟨b, b1, b2, b3, b4⟩ := best_F sq (wt := fun y m => apR w y m (lnF w h (pvR ρ n) y)) hwt hpos
      have eS : ∀ i, smI (fun y => apR w y (lnF w h (nthP w n noB noB n 0 hl i) y) (lnF w h (pvR ρ n) y)) (h + 1) = apV w h (pvR ρ n) (nthP w n noB noB n 0 hl i) := fun i => apV_c w h _ _
      have b3' : Gn (fun y m => apR w y m (lnF w h (pvR ρ n) y)) w h hl noB noB h 0 0 = apV w h (pvR ρ n) (nthP w n noB noB n 0 hl b) := b3.trans (eS b)
      have b4' : ∀ i, i < T → apV w h (pvR ρ n) (nthP w n noB noB n 0 hl i) ≤ apV w h (pvR ρ n) (nthP w n noB noB n 0 hl b) ∧ (i < b → apV w h (pvR ρ n) (nthP w n noB noB n 0 hl i) < apV w h (pvR ρ n) (nthP w n noB noB n 0 hl b)) := fun i hi => by
        have := b4 i (by rw [← hT]; exact hi)
        simp only [eS] at this
        exact this
      have bd : ∀ i, 0 ≤ apV w h (pvR ρ n) (nthP w n noB noB n 0 hl i) ∧ apV w h (pvR ρ n) (nthP w n noB noB n 0 hl i) ≤ 2100 := fun i => apV_b hw.2 hh.2 _ _
      have d4 : ∀ i, (4 : Int) ∣ apV w h (pvR ρ n) (nthP w n noB noB n 0 hl i) := fun i => apV_4 w h _ _
      rw [← hT] at b1 hpos
      -- the class
      have cls : wm t d rt (jcall 11 (mm t d rt I) 0 (f_X11_hasHills 0 (mm t d rt I)) fun v1 M2 =>
if jd_wr v1 = 0 then (some ((-2), M2))
else (jcall 11 M2 0 (f_X11_traceNow 0 M2) fun _ M4 =>
(jm_gR 11 11 M4 0).bind fun r5 =>
(jm_gR 11 8 M4 0).bind fun r6 =>
(jm_gR 11 12 M4 0).bind fun r7 =>
jcall 0 M4 r5 (f_X0_weighFar r5 r6 r7 M4) fun _ M9 =>
(jm_gR 11 11 M9 0).bind fun r10 =>
(jm_gR 11 8 M9 0).bind fun r11 =>
(jm_gR 11 13 M9 0).bind fun r12 =>
jcall 0 M9 r10 (f_X0_choose r10 r11 r12 M9) fun v13 M14 =>
if jd_wr x = 0 then ((jm_gR 11 8 M14 0).bind fun r15 =>
(jm_gR 11 13 M14 0).bind fun r16 =>
jcall 4 M14 r15 (f_X4_numberOf r15 r16 M14) fun v17 M18 =>
some (v17, M18))
else ((jm_dv v13 4).bind fun v19 =>
some (v19, M14)))) (fun r J => r = (if x = 0 then (b : Int) else dvF (apV w h (pvR ρ n) (nthP w n noB noB n 0 hl b))) ∧ frm scrC I J) := by
        (repeat (first | (with_reducible apply wm_o; focus (simp (disch := omega) only [wr_id, Int.toNat_natCast, Int.reduceToNat, tn_lk, tn_kl, if_pos, if_neg, ↓reduceIte, and_self, and_true, true_and, hhi]; with_reducible rfl)) | (with_reducible apply wm_q) | (with_reducible apply wm_c; focus (first | assumption | decide +kernel)) | (with_reducible apply wm_d; focus (simp (disch := omega) only [wr_id, Int.toNat_natCast, Int.reduceToNat, tn_lk, tn_kl, if_pos, if_neg, ↓reduceIte, and_self, and_true, true_and, hhi]; with_reducible rfl)) | (with_reducible apply wm_t; focus (first | omega | (simp (disch := omega) only [wr_id, hhi]; omega) | (simp (disch := omega) only [wr_id, hhi]; done))) | (with_reducible apply wm_f; focus (first | omega | (simp (disch := omega) only [wr_id, hhi]; omega) | (simp (disch := omega) only [wr_id, hhi]; done)))))
        refine wm_b (c_trace sq hcf hC.1 hC.2.1 hE.1.1) (fun v J hJ => ?_)
        obtain ⟨j1, j2⟩ := hJ
        have jC : frm scrC I J := frm_sub j1 (fun a ha => by unfold scrC; omega)
        have eE : evI J w h hl := (REST_c (frm_sub jC (fun a ha => Or.inl ha)) hR).2.2.2.2.2.2.2.1
        (repeat (first | (with_reducible apply wm_o; focus (simp (disch := omega) only [wr_id, Int.toNat_natCast, Int.reduceToNat, tn_lk, tn_kl, if_pos, if_neg, ↓reduceIte, and_self, and_true, true_and, FX]; with_reducible rfl)) | (with_reducible apply wm_q) | (with_reducible apply wm_c; focus (first | assumption | decide +kernel)) | (with_reducible apply wm_d; focus (simp (disch := omega) only [wr_id, Int.toNat_natCast, Int.reduceToNat, tn_lk, tn_kl, if_pos, if_neg, ↓reduceIte, and_self, and_true, true_and, FX]; with_reducible rfl)) | (with_reducible apply wm_t; focus (first | omega | (simp (disch := omega) only [wr_id, FX]; omega) | (simp (disch := omega) only [wr_id, FX]; done))) | (with_reducible apply wm_f; focus (first | omega | (simp (disch := omega) only [wr_id, FX]; omega) | (simp (disch := omega) only [wr_id, FX]; done)))))
        refine wm_b (w_weighFar eE.1 j2) (fun v2 J2 hJ2 => ?_)
        obtain ⟨q1, q2⟩ := hJ2
        have jC2 : frm scrC I J2 := frm_trans jC (frm_sub q1 (fun a ha => by unfold scrC; omega))
        have eE2 : evI J2 w h hl := (REST_c (frm_sub jC2 (fun a ha => Or.inl ha)) hR).2.2.2.2.2.2.2.1
        (repeat (first | (with_reducible apply wm_o; focus (simp (disch := omega) only [wr_id, Int.toNat_natCast, Int.reduceToNat, tn_lk, tn_kl, if_pos, if_neg, ↓reduceIte, and_self, and_true, true_and, FX]; with_reducible rfl)) | (with_reducible apply wm_q) | (with_reducible apply wm_c; focus (first | assumption | decide +kernel)) | (with_reducible apply wm_d; focus (simp (disch := omega) only [wr_id, Int.toNat_natCast, Int.reduceToNat, tn_lk, tn_kl, if_pos, if_neg, ↓reduceIte, and_self, and_true, true_and, FX]; with_reducible rfl)) | (with_reducible apply wm_t; focus (first | omega | (simp (disch := omega) only [wr_id, FX]; omega) | (simp (disch := omega) only [wr_id, FX]; done))) | (with_reducible apply wm_f; focus (first | omega | (simp (disch := omega) only [wr_id, FX]; omega) | (simp (disch := omega) only [wr_id, FX]; done)))))
        refine wm_b (w_choose (wt := fun y m => apR w y m (lnF w h (pvR ρ n) y)) eE2.1 eE2.2.1 no_cl hwt q2) (fun v3 J3 hJ3 => ?_)
        obtain ⟨rfl, q3, q4⟩ := hJ3
        rw [b3']
        rw [b2] at q4
        have jC3 : frm scrC I J3 := frm_trans jC2 (frm_sub q3 (fun a ha => by unfold scrC; omega))
        have eE3 : evI J3 w h hl := (REST_c (frm_sub jC3 (fun a ha => Or.inl ha)) hR).2.2.2.2.2.2.2.1
        rcases hx2 with rfl | rfl
        · have hno := w_numberOf (t := t) (d := d) (rt := rt) (Or.inr rfl) ev_in eE3.1 eE3.2.1 q4 (lnP_len w h _) (lnP_b w h _)
          rw [nth_num sq (by rw [← hT]; exact b1)] at hno
          (repeat (first | (with_reducible apply wm_o; focus (simp (disch := omega) only [wr_id, Int.toNat_natCast, Int.reduceToNat, tn_lk, tn_kl, if_pos, if_neg, ↓reduceIte, and_self, and_true, true_and, FX, hno]; with_reducible rfl)) | (with_reducible apply wm_q) | (with_reducible apply wm_c; focus (first | assumption | decide +kernel)) | (with_reducible apply wm_d; focus (simp (disch := omega) only [wr_id, Int.toNat_natCast, Int.reduceToNat, tn_lk, tn_kl, if_pos, if_neg, ↓reduceIte, and_self, and_true, true_and, FX, hno]; with_reducible rfl)) | (with_reducible apply wm_t; focus (first | omega | (simp (disch := omega) only [wr_id, FX, hno]; omega) | (simp (disch := omega) only [wr_id, FX, hno]; done))) | (with_reducible apply wm_f; focus (first | omega | (simp (disch := omega) only [wr_id, FX, hno]; omega) | (simp (disch := omega) only [wr_id, FX, hno]; done)))))
          exact wm_r ⟨by rw [if_pos rfl], jC3⟩
        · have hd4 := dv_4 (apV w h (pvR ρ n) (nthP w n noB noB n 0 hl b))
          (repeat (first | (with_reducible apply wm_o; focus (simp (disch := omega) only [wr_id, Int.toNat_natCast, Int.reduceToNat, tn_lk, tn_kl, if_pos, if_neg, ↓reduceIte, and_self, and_true, true_and, hd4]; with_reducible rfl)) | (with_reducible apply wm_q) | (with_reducible apply wm_c; focus (first | assumption | decide +kernel)) | (with_reducible apply wm_d; focus (simp (disch := omega) only [wr_id, Int.toNat_natCast, Int.reduceToNat, tn_lk, tn_kl, if_pos, if_neg, ↓reduceIte, and_self, and_true, true_and, hd4]; with_reducible rfl)) | (with_reducible apply wm_t; focus (first | omega | (simp (disch := omega) only [wr_id, hd4]; omega) | (simp (disch := omega) only [wr_id, hd4]; done))) | (with_reducible apply wm_f; focus (first | omega | (simp (disch := omega) only [wr_id, hd4]; omega) | (simp (disch := omega) only [wr_id, hd4]; done)))))
          exact wm_r ⟨by rw [if_neg (by decide)], jC3⟩
      -- the model
      have mdl : ∀ J, frm scrC I J → wm t d rt (f_X12_farthest 369 x (mm t d rt J)) (fun r' K => jd_wr (if x = 0 then (b : Int) else dvF (apV w h (pvR ρ n) (nthP w n noB noB n 0 hl b))) = jd_wr r' ∧ INV t d rt K) := by
        intro J jC
        unfold f_X12_farthest
        (repeat (first | (with_reducible apply wm_o; focus (simp (disch := omega) only [wr_id, Int.toNat_natCast, Int.reduceToNat, tn_lk, tn_kl, if_pos, if_neg, ↓reduceIte, and_self, and_true, true_and, in1]; with_reducible rfl)) | (with_reducible apply wm_q) | (with_reducible apply wm_c; focus (first | assumption | decide +kernel)) | (with_reducible apply wm_d; focus (simp (disch := omega) only [wr_id, Int.toNat_natCast, Int.reduceToNat, tn_lk, tn_kl, if_pos, if_neg, ↓reduceIte, and_self, and_true, true_and, in1]; with_reducible rfl)) | (with_reducible apply wm_t; focus (first | omega | (simp (disch := omega) only [wr_id, in1]; omega) | (simp (disch := omega) only [wr_id, in1]; done))) | (with_reducible apply wm_f; focus (first | omega | (simp (disch := omega) only [wr_id, in1]; omega) | (simp (disch := omega) only [wr_id, in1]; done)))))
        refine mod J _ _ jC (fun K k1 k2 k3 k4 k5 => ?_)
        rw [if_pos zh]
        (repeat (first | (with_reducible apply wm_o; focus (simp (disch := omega) only [wr_id, Int.toNat_natCast, Int.reduceToNat, tn_lk, tn_kl, if_pos, if_neg, ↓reduceIte, and_self, and_true, true_and]; with_reducible rfl)) | (with_reducible apply wm_q) | (with_reducible apply wm_c; focus (first | assumption | decide +kernel)) | (with_reducible apply wm_d; focus (simp (disch := omega) only [wr_id, Int.toNat_natCast, Int.reduceToNat, tn_lk, tn_kl, if_pos, if_neg, ↓reduceIte, and_self, and_true, true_and]; with_reducible rfl)) | (with_reducible apply wm_t; focus (first | omega | (simp (disch := omega) only [wr_id]; omega) | (simp (disch := omega) only [wr_id]; done))) | (with_reducible apply wm_f; focus (first | omega | (simp (disch := omega) only [wr_id]; omega) | (simp (disch := omega) only [wr_id]; done)))))
        refine wm_b (m_countsAll k3 k2) (fun v L hL => ?_)
        obtain ⟨rfl, l1, l2⟩ := hL
        rw [← hT]
        have cL := cfM_frm l1 (fun a _ _ _ _ _ _ _ _ => by omega) (fun q => q) k3
        have zL := zM_fr k2 l1 (by decide) (by decide) (by decide)
        have L12 : L 412 0 = 0 := (congrFun (l1.1 412 (by decide) (by decide)) 0).trans k5
        (repeat (first | (with_reducible apply wm_o; focus (simp (disch := omega) only [wr_id, Int.toNat_natCast, Int.reduceToNat, tn_lk, tn_kl, if_pos, if_neg, ↓reduceIte, and_self, and_true, true_and]; with_reducible rfl)) | (with_reducible apply wm_q) | (with_reducible apply wm_c; focus (first | assumption | decide +kernel)) | (with_reducible apply wm_d; focus (simp (disch := omega) only [wr_id, Int.toNat_natCast, Int.reduceToNat, tn_lk, tn_kl, if_pos, if_neg, ↓reduceIte, and_self, and_true, true_and]; with_reducible rfl)) | (with_reducible apply wm_t; focus (first | omega | (simp (disch := omega) only [wr_id]; omega) | (simp (disch := omega) only [wr_id]; done))) | (with_reducible apply wm_f; focus (first | omega | (simp (disch := omega) only [wr_id]; omega) | (simp (disch := omega) only [wr_id]; done)))))
        refine wm_b (m_hillsNow cL sq zL hC.1 ((l1.1 400 (by decide) (by decide)).trans k4) hM.2.1 (by omega) L12) (fun v5 N hN => ?_)
        obtain ⟨n1, n2, n3, n4, n5, n6⟩ := hN
        have w1' := wlk_fr n1 (by decide) (by decide) (by decide) (by decide) (by decide) (by decide) n5 ⟨cL.1, l2.1, zL.2.1, l2.2, L12⟩
        (repeat (first | (with_reducible apply wm_o; focus (simp (disch := omega) only [wr_id, Int.toNat_natCast, Int.reduceToNat, tn_lk, tn_kl, if_pos, if_neg, ↓reduceIte, and_self, and_true, true_and]; with_reducible rfl)) | (with_reducible apply wm_q) | (with_reducible apply wm_c; focus (first | assumption | decide +kernel)) | (with_reducible apply wm_d; focus (simp (disch := omega) only [wr_id, Int.toNat_natCast, Int.reduceToNat, tn_lk, tn_kl, if_pos, if_neg, ↓reduceIte, and_self, and_true, true_and]; with_reducible rfl)) | (with_reducible apply wm_t; focus (first | omega | (simp (disch := omega) only [wr_id]; omega) | (simp (disch := omega) only [wr_id]; done))) | (with_reducible apply wm_f; focus (first | omega | (simp (disch := omega) only [wr_id]; omega) | (simp (disch := omega) only [wr_id]; done)))))
        refine wm_b m_keepsHills (fun v6 P hP => ?_)
        obtain ⟨p1, p2⟩ := hP
        have w2' := wlk_fr p1 (by decide) (by decide) (by decide) (by decide) (by decide) (fun q => q) ((congrFun (p1.1 412 (by decide) (by decide)) 0).trans n5) w1'
        have zP := zM_fr n2 p1 (by decide) (by decide) (by decide)
        have fP : frM (fun a => scrM a ∨ a = 412) scrF J P := frM_trans (frM_sub k1 (fun a ha => Or.inl ha) (fun a ha => ha)) (frM_trans (frM_f l1 (fun a ha => by unfold scrM; omega)) (frM_trans (frM_sub n1 (fun a ha => by unfold scrM; omega) (fun a ha => by unfold scrF; omega)) (frM_f p1 (fun a ha => by unfold scrM; omega))))
        refine wm_lp4 T (fun i a m y N => y = (i : Int) ∧ frM (fun a => a = 411 ∨ a = 412) (fun _ => False) P N ∧ wlk N lv w h n hl ∧ ((i = 0 ∧ a = 0 ∧ m = -1) ∨ ∃ c : Nat, a = (c : Int) ∧ c < i ∧ m = dvF (apV w h (pvR ρ n) (nthP w n noB noB n 0 hl c)) ∧ (∀ j, j < i → dvF (apV w h (pvR ρ n) (nthP w n noB noB n 0 hl j)) ≤ m) ∧ ∀ j, j < c → dvF (apV w h (pvR ρ n) (nthP w n noB noB n 0 hl j)) < m)) ?_ (Nat.lt_of_le_of_lt hTb (jfuel_n (by decide))) ⟨rfl, frM_refl _ _ _, w2', Or.inl ⟨rfl, rfl, rfl⟩⟩
        rintro i hi a m y N ⟨rfl, hN, wN, inv⟩ rec hrec
        by_cases e : i = T
        · subst e
          rcases inv with ⟨q, _⟩ | ⟨c, rfl, c1, c2, c3, c4⟩
          · omega
          · have ecb : c = b := by
              have g1 := b4' c (by omega)
              have g2 := c3 b (by omega)
              have e1 := dvF_e (bd c).1 (by have := (bd c).2; omega)
              have e2 := dvF_e (bd b).1 (by have := (bd b).2; omega)
              have dc := d4 c
              have db := d4 b
              rcases Nat.lt_trichotomy c b with q | q | q
              · have := g1.2 q; omega
              · exact q
              · have := c4 b q; omega
            subst ecb
            have zN := zM_fr zP hN (by decide) (by decide) (by decide)
            have fin : INV t d rt N := INV_h hR hC hM jC (frM_trans fP (frM_f hN (fun a ha => by unfold scrM; omega))) zN wN.2.2.2.2
            rcases hx2 with rfl | rfl
            · (repeat (first | (with_reducible apply wm_o; focus (simp (disch := omega) only [wr_id, Int.toNat_natCast, Int.reduceToNat, tn_lk, tn_kl, if_pos, if_neg, ↓reduceIte, and_self, and_true, true_and]; with_reducible rfl)) | (with_reducible apply wm_q) | (with_reducible apply wm_c; focus (first | assumption | decide +kernel)) | (with_reducible apply wm_d; focus (simp (disch := omega) only [wr_id, Int.toNat_natCast, Int.reduceToNat, tn_lk, tn_kl, if_pos, if_neg, ↓reduceIte, and_self, and_true, true_and]; with_reducible rfl)) | (with_reducible apply wm_t; focus (first | omega | (simp (disch := omega) only [wr_id]; omega) | (simp (disch := omega) only [wr_id]; done))) | (with_reducible apply wm_f; focus (first | omega | (simp (disch := omega) only [wr_id]; omega) | (simp (disch := omega) only [wr_id]; done)))))
              exact wm_r ⟨by rw [if_pos rfl], fin⟩
            · (repeat (first | (with_reducible apply wm_o; focus (simp (disch := omega) only [wr_id, Int.toNat_natCast, Int.reduceToNat, tn_lk, tn_kl, if_pos, if_neg, ↓reduceIte, and_self, and_true, true_and]; with_reducible rfl)) | (with_reducible apply wm_q) | (with_reducible apply wm_c; focus (first | assumption | decide +kernel)) | (with_reducible apply wm_d; focus (simp (disch := omega) only [wr_id, Int.toNat_natCast, Int.reduceToNat, tn_lk, tn_kl, if_pos, if_neg, ↓reduceIte, and_self, and_true, true_and]; with_reducible rfl)) | (with_reducible apply wm_t; focus (first | omega | (simp (disch := omega) only [wr_id]; omega) | (simp (disch := omega) only [wr_id]; done))) | (with_reducible apply wm_f; focus (first | omega | (simp (disch := omega) only [wr_id]; omega) | (simp (disch := omega) only [wr_id]; done)))))
              exact wm_r ⟨by rw [if_neg (by decide), c2], fin⟩
        · have hiT : i < T := by omega
          (repeat (first | (with_reducible apply wm_o; focus (simp (disch := omega) only [wr_id, Int.toNat_natCast, Int.reduceToNat, tn_lk, tn_kl, if_pos, if_neg, ↓reduceIte, and_self, and_true, true_and]; with_reducible rfl)) | (with_reducible apply wm_q) | (with_reducible apply wm_c; focus (first | assumption | decide +kernel)) | (with_reducible apply wm_d; focus (simp (disch := omega) only [wr_id, Int.toNat_natCast, Int.reduceToNat, tn_lk, tn_kl, if_pos, if_neg, ↓reduceIte, and_self, and_true, true_and]; with_reducible rfl)) | (with_reducible apply wm_t; focus (first | omega | (simp (disch := omega) only [wr_id]; omega) | (simp (disch := omega) only [wr_id]; done))) | (with_reducible apply wm_f; focus (first | omega | (simp (disch := omega) only [wr_id]; omega) | (simp (disch := omega) only [wr_id]; done)))))
          refine wm_b (m_wayTo (p := pvR ρ n) sq wN (i := i) (by rw [← hT]; exact hiT) (fun y hy x hx => ?_)) (fun v7 N2 hN2 => ?_)
          · rw [hN.1 413 (by decide) (by decide), p2 _ (by omega)]; exact n6 y hy x hx
          · obtain ⟨rfl, q1, q2⟩ := hN2
            have e1 := dvF_e (bd i).1 (by have := (bd i).2; omega)
            have bi := bd i
            have dib : 0 ≤ dvF (apV w h (pvR ρ n) (nthP w n noB noB n 0 hl i)) ∧ dvF (apV w h (pvR ρ n) (nthP w n noB noB n 0 hl i)) ≤ 600 := by omega
            rcases inv with ⟨q, rfl, rfl⟩ | ⟨c, rfl, c1, c2, c3, c4⟩
            · generalize hgv : dvF (apV w h (pvR ρ n) (nthP w n noB noB n 0 hl i)) = v at *
              (repeat (first | (with_reducible apply wm_o; focus (simp (disch := omega) only [wr_id, Int.toNat_natCast, Int.reduceToNat, tn_lk, tn_kl, if_pos, if_neg, ↓reduceIte, and_self, and_true, true_and]; with_reducible rfl)) | (with_reducible apply wm_q) | (with_reducible apply wm_c; focus (first | assumption | decide +kernel)) | (with_reducible apply wm_d; focus (simp (disch := omega) only [wr_id, Int.toNat_natCast, Int.reduceToNat, tn_lk, tn_kl, if_pos, if_neg, ↓reduceIte, and_self, and_true, true_and]; with_reducible rfl)) | (with_reducible apply wm_t; focus (first | omega | (simp (disch := omega) only [wr_id]; omega) | (simp (disch := omega) only [wr_id]; done))) | (with_reducible apply wm_f; focus (first | omega | (simp (disch := omega) only [wr_id]; omega) | (simp (disch := omega) only [wr_id]; done)))))
              refine hrec (i + 1) _ _ _ _ (by omega) (by omega) ⟨by omega, frM_trans hN q1, q2, Or.inr ⟨i, rfl, by omega, hgv.symm, fun j hj => ?_, fun j hj => by omega⟩⟩
              have : j = i := by omega
              rw [this, hgv]; exact Int.le_refl _
            · have ec := dvF_e (bd c).1 (by have := (bd c).2; omega)
              have bc := bd c
              have mb : 0 ≤ m ∧ m ≤ 600 := by rw [c2]; omega
              by_cases zl : dvF (apV w h (pvR ρ n) (nthP w n noB noB n 0 hl i)) ≤ m
              · generalize hgv : dvF (apV w h (pvR ρ n) (nthP w n noB noB n 0 hl i)) = v at *
                (repeat (first | (with_reducible apply wm_o; focus (simp (disch := omega) only [wr_id, Int.toNat_natCast, Int.reduceToNat, tn_lk, tn_kl, if_pos, if_neg, ↓reduceIte, and_self, and_true, true_and]; with_reducible rfl)) | (with_reducible apply wm_q) | (with_reducible apply wm_c; focus (first | assumption | decide +kernel)) | (with_reducible apply wm_d; focus (simp (disch := omega) only [wr_id, Int.toNat_natCast, Int.reduceToNat, tn_lk, tn_kl, if_pos, if_neg, ↓reduceIte, and_self, and_true, true_and]; with_reducible rfl)) | (with_reducible apply wm_t; focus (first | omega | (simp (disch := omega) only [wr_id]; omega) | (simp (disch := omega) only [wr_id]; done))) | (with_reducible apply wm_f; focus (first | omega | (simp (disch := omega) only [wr_id]; omega) | (simp (disch := omega) only [wr_id]; done)))))
                refine hrec (i + 1) _ _ _ _ (by omega) (by omega) ⟨by omega, frM_trans hN q1, q2, Or.inr ⟨c, rfl, by omega, c2, fun j hj => ?_, c4⟩⟩
                by_cases ej : j = i
                · rw [ej, hgv]; exact zl
                · exact c3 j (by omega)
              · generalize hgv : dvF (apV w h (pvR ρ n) (nthP w n noB noB n 0 hl i)) = v at *
                (repeat (first | (with_reducible apply wm_o; focus (simp (disch := omega) only [wr_id, Int.toNat_natCast, Int.reduceToNat, tn_lk, tn_kl, if_pos, if_neg, ↓reduceIte, and_self, and_true, true_and]; with_reducible rfl)) | (with_reducible apply wm_q) | (with_reducible apply wm_c; focus (first | assumption | decide +kernel)) | (with_reducible apply wm_d; focus (simp (disch := omega) only [wr_id, Int.toNat_natCast, Int.reduceToNat, tn_lk, tn_kl, if_pos, if_neg, ↓reduceIte, and_self, and_true, true_and]; with_reducible rfl)) | (with_reducible apply wm_t; focus (first | omega | (simp (disch := omega) only [wr_id]; omega) | (simp (disch := omega) only [wr_id]; done))) | (with_reducible apply wm_f; focus (first | omega | (simp (disch := omega) only [wr_id]; omega) | (simp (disch := omega) only [wr_id]; done)))))
                refine hrec (i + 1) _ _ _ _ (by omega) (by omega) ⟨by omega, frM_trans hN q1, q2, Or.inr ⟨i, rfl, by omega, hgv.symm, fun j hj => ?_, fun j hj => ?_⟩⟩
                · by_cases ej : j = i
                  · rw [ej, hgv]; exact Int.le_refl _
                  · have := c3 j (by omega); omega
                · have := c3 j hj; omega
      have both' := wm_w cls (fun r J hJ => (by rw [hJ.1]; exact mdl J hJ.2 : wm t d rt (f_X12_farthest 369 x (mm t d rt J)) (fun r' K => jd_wr r = jd_wr r' ∧ INV t d rt K)))
      rcases hx2 with rfl | rfl
      · refine wm_q (wm_t (by rw [w0]) both')
      · refine wm_q (wm_f (by rw [w1]; decide) (wm_t rfl both'))
    · rw [if_neg zh] at hhi
      have mdl : wm t d rt (f_X12_farthest 369 x (mm t d rt I)) (fun r' K => jd_wr (-2) = jd_wr r' ∧ INV t d rt K) := by
        unfold f_X12_farthest
        (repeat (first | (with_reducible apply wm_o; focus (simp (disch := omega) only [wr_id, Int.toNat_natCast, Int.reduceToNat, tn_lk, tn_kl, if_pos, if_neg, ↓reduceIte, and_self, and_true, true_and, in1]; with_reducible rfl)) | (with_reducible apply wm_q) | (with_reducible apply wm_c; focus (first | assumption | decide +kernel)) | (with_reducible apply wm_d; focus (simp (disch := omega) only [wr_id, Int.toNat_natCast, Int.reduceToNat, tn_lk, tn_kl, if_pos, if_neg, ↓reduceIte, and_self, and_true, true_and, in1]; with_reducible rfl)) | (with_reducible apply wm_t; focus (first | omega | (simp (disch := omega) only [wr_id, in1]; omega) | (simp (disch := omega) only [wr_id, in1]; done))) | (with_reducible apply wm_f; focus (first | omega | (simp (disch := omega) only [wr_id, in1]; omega) | (simp (disch := omega) only [wr_id, in1]; done)))))
        refine mod I _ _ (frm_refl _ _) (fun K k1 k2 k3 k4 k5 => ?_)
        rw [if_neg zh]
        (repeat (first | (with_reducible apply wm_o; focus (simp (disch := omega) only [wr_id, Int.toNat_natCast, Int.reduceToNat, tn_lk, tn_kl, if_pos, if_neg, ↓reduceIte, and_self, and_true, true_and]; with_reducible rfl)) | (with_reducible apply wm_q) | (with_reducible apply wm_c; focus (first | assumption | decide +kernel)) | (with_reducible apply wm_d; focus (simp (disch := omega) only [wr_id, Int.toNat_natCast, Int.reduceToNat, tn_lk, tn_kl, if_pos, if_neg, ↓reduceIte, and_self, and_true, true_and]; with_reducible rfl)) | (with_reducible apply wm_t; focus (first | omega | (simp (disch := omega) only [wr_id]; omega) | (simp (disch := omega) only [wr_id]; done))) | (with_reducible apply wm_f; focus (first | omega | (simp (disch := omega) only [wr_id]; omega) | (simp (disch := omega) only [wr_id]; done)))))
        exact wm_r ⟨rfl, INV_q hR hC hM (frm_refl _ _) k1 k2⟩
      rcases hx2 with rfl | rfl
      · (repeat (first | (with_reducible apply wm_o; focus (simp (disch := omega) only [wr_id, Int.toNat_natCast, Int.reduceToNat, tn_lk, tn_kl, if_pos, if_neg, ↓reduceIte, and_self, and_true, true_and, hhi]; with_reducible rfl)) | (with_reducible apply wm_q) | (with_reducible apply wm_c; focus (first | assumption | decide +kernel)) | (with_reducible apply wm_d; focus (simp (disch := omega) only [wr_id, Int.toNat_natCast, Int.reduceToNat, tn_lk, tn_kl, if_pos, if_neg, ↓reduceIte, and_self, and_true, true_and, hhi]; with_reducible rfl)) | (with_reducible apply wm_t; focus (first | omega | (simp (disch := omega) only [wr_id, hhi]; omega) | (simp (disch := omega) only [wr_id, hhi]; done))) | (with_reducible apply wm_f; focus (first | omega | (simp (disch := omega) only [wr_id, hhi]; omega) | (simp (disch := omega) only [wr_id, hhi]; done)))))
        exact wm_r mdl
      · (repeat (first | (with_reducible apply wm_o; focus (simp (disch := omega) only [wr_id, Int.toNat_natCast, Int.reduceToNat, tn_lk, tn_kl, if_pos, if_neg, ↓reduceIte, and_self, and_true, true_and, hhi]; with_reducible rfl)) | (with_reducible apply wm_q) | (with_reducible apply wm_c; focus (first | assumption | decide +kernel)) | (with_reducible apply wm_d; focus (simp (disch := omega) only [wr_id, Int.toNat_natCast, Int.reduceToNat, tn_lk, tn_kl, if_pos, if_neg, ↓reduceIte, and_self, and_true, true_and, hhi]; with_reducible rfl)) | (with_reducible apply wm_t; focus (first | omega | (simp (disch := omega) only [wr_id, hhi]; omega) | (simp (disch := omega) only [wr_id, hhi]; done))) | (with_reducible apply wm_f; focus (first | omega | (simp (disch := omega) only [wr_id, hhi]; omega) | (simp (disch := omega) only [wr_id, hhi]; done)))))
        exact wm_r mdl
  · have in1 := fun (M : jMem) => m_in_f (a := 0) (b := 1) (M := M) hx (i32 (by omega) (by omega)) (i32 (by omega) (by omega)) z
    (repeat (first | (with_reducible apply wm_o; focus (simp (disch := omega) only [wr_id, Int.toNat_natCast, Int.reduceToNat, tn_lk, tn_kl, if_pos, if_neg, ↓reduceIte, and_self, and_true, true_and, ex]; with_reducible rfl)) | (with_reducible apply wm_q) | (with_reducible apply wm_c; focus (first | assumption | decide +kernel)) | (with_reducible apply wm_d; focus (simp (disch := omega) only [wr_id, Int.toNat_natCast, Int.reduceToNat, tn_lk, tn_kl, if_pos, if_neg, ↓reduceIte, and_self, and_true, true_and, ex]; with_reducible rfl)) | (with_reducible apply wm_t; focus (first | omega | (simp (disch := omega) only [wr_id, ex]; omega) | (simp (disch := omega) only [wr_id, ex]; done))) | (with_reducible apply wm_f; focus (first | omega | (simp (disch := omega) only [wr_id, ex]; omega) | (simp (disch := omega) only [wr_id, ex]; done)))))
    refine wm_r ?_
    show wm t d rt (f_X12_farthest 369 x (mm t d rt I)) _
    unfold f_X12_farthest
    (repeat (first | (with_reducible apply wm_o; focus (simp (disch := omega) only [wr_id, Int.toNat_natCast, Int.reduceToNat, tn_lk, tn_kl, if_pos, if_neg, ↓reduceIte, and_self, and_true, true_and, in1]; with_reducible rfl)) | (with_reducible apply wm_q) | (with_reducible apply wm_c; focus (first | assumption | decide +kernel)) | (with_reducible apply wm_d; focus (simp (disch := omega) only [wr_id, Int.toNat_natCast, Int.reduceToNat, tn_lk, tn_kl, if_pos, if_neg, ↓reduceIte, and_self, and_true, true_and, in1]; with_reducible rfl)) | (with_reducible apply wm_t; focus (first | omega | (simp (disch := omega) only [wr_id, in1]; omega) | (simp (disch := omega) only [wr_id, in1]; done))) | (with_reducible apply wm_f; focus (first | omega | (simp (disch := omega) only [wr_id, in1]; omega) | (simp (disch := omega) only [wr_id, in1]; done)))))
    exact wm_r ⟨rfl, hI'⟩
theorem lsV_b (hw : w ≤ 6) (hh : h ≤ 6) (p : List Int) : -2000 ≤ lsV w h p ∧ lsV w h p ≤ 2000 := by
  have h1 := smI_b (f := fun y => smI (hlC w y (lnF w h p y)) (w + 1)) (a := -140) (b := 140) (k := h + 1) (fun j _ => by
    have h2 := smI_b (f := hlC w j (lnF w h p j)) (a := -20) (b := 20) (k := w + 1) (fun i hi => by have := hlC_b w j (lnF w h p j) i; omega)
    have e1 : ((w + 1 : Nat) : Int) ≤ 7 := by omega
    have e2 : ((w + 1 : Nat) : Int) * 20 ≤ 7 * 20 := Int.mul_le_mul_of_nonneg_right e1 (by decide)
    have e3 : ((w + 1 : Nat) : Int) * (-20) = -(((w + 1 : Nat) : Int) * 20) := by rw [Int.mul_neg]
    omega)
  unfold lsV
  have e1 : ((h + 1 : Nat) : Int) ≤ 7 := by omega
  have e2 : ((h + 1 : Nat) : Int) * 140 ≤ 7 * 140 := Int.mul_le_mul_of_nonneg_right e1 (by decide)
  have e3 : ((h + 1 : Nat) : Int) * (-140) = -(((h + 1 : Nat) : Int) * 140) := by rw [Int.mul_neg]
  omega
theorem m_sumHills (hk : wlk I lv w h n hl) (q3 : ∀ y, y ≤ h → ∀ x, x ≤ w → I 412 (7 * y + x) = hlC w y (lnF w h p y) x) : f_X12_sumHills 369 (mm t d rt I) = some (lsV w h p, mm t d rt I) := by
  have e18 := hk.1.1
  have elv := hk.1.2.1
  have e78 := hk.1.2.2.2.1
  have hw : w ≤ 6 := hk.1.2.2.2.2.2.1
  have hh : h ≤ 6 := hk.1.2.2.2.2.2.2.2.1
  have hwm := s_w (t := t) (d := d) (rt := rt) hk.1
  refine wm_eq ?_
  unfold f_X12_sumHills
  refine wm_lp3 (h + 1) (fun y a b L => a = smI (fun y => smI (hlC w y (lnF w h p y)) (w + 1)) y ∧ b = (y : Int) ∧ L = I) ?_ (Nat.lt_of_le_of_lt (show h + 1 ≤ 7 by omega) (jfuel_n (by decide))) ⟨rfl, rfl, rfl⟩
  rintro y hy a b L ⟨rfl, rfl, rfl⟩ rec hrec
  by_cases e : y = h + 1
  · subst e
    (repeat (first | (with_reducible apply wm_o; focus (simp (disch := omega) only [wr_id, Int.toNat_natCast, Int.reduceToNat, tn_lk, tn_kl, if_pos, if_neg, ↓reduceIte, and_self, and_true, true_and, FM, e18, e78]; with_reducible rfl)) | (with_reducible apply wm_q) | (with_reducible apply wm_c; focus (first | assumption | decide +kernel)) | (with_reducible apply wm_d; focus (simp (disch := omega) only [wr_id, Int.toNat_natCast, Int.reduceToNat, tn_lk, tn_kl, if_pos, if_neg, ↓reduceIte, and_self, and_true, true_and, FM, e18, e78]; with_reducible rfl)) | (with_reducible apply wm_t; focus (first | omega | (simp (disch := omega) only [wr_id, FM, e18, e78]; omega) | (simp (disch := omega) only [wr_id, FM, e18, e78]; done))) | (with_reducible apply wm_f; focus (first | omega | (simp (disch := omega) only [wr_id, FM, e18, e78]; omega) | (simp (disch := omega) only [wr_id, FM, e18, e78]; done)))))
    exact wm_r ⟨rfl, rfl⟩
  · (repeat (first | (with_reducible apply wm_o; focus (simp (disch := omega) only [wr_id, Int.toNat_natCast, Int.reduceToNat, tn_lk, tn_kl, if_pos, if_neg, ↓reduceIte, and_self, and_true, true_and, FM, e18, e78]; with_reducible rfl)) | (with_reducible apply wm_q) | (with_reducible apply wm_c; focus (first | assumption | decide +kernel)) | (with_reducible apply wm_d; focus (simp (disch := omega) only [wr_id, Int.toNat_natCast, Int.reduceToNat, tn_lk, tn_kl, if_pos, if_neg, ↓reduceIte, and_self, and_true, true_and, FM, e18, e78]; with_reducible rfl)) | (with_reducible apply wm_t; focus (first | omega | (simp (disch := omega) only [wr_id, FM, e18, e78]; omega) | (simp (disch := omega) only [wr_id, FM, e18, e78]; done))) | (with_reducible apply wm_f; focus (first | omega | (simp (disch := omega) only [wr_id, FM, e18, e78]; omega) | (simp (disch := omega) only [wr_id, FM, e18, e78]; done)))))
    refine wm_lp3 (w + 1) (fun x a b N => a = smI (fun y => smI (hlC w y (lnF w h p y)) (w + 1)) y + smI (hlC w y (lnF w h p y)) x ∧ b = (x : Int) ∧ N = L) ?_ (Nat.lt_of_le_of_lt (show w + 1 ≤ 7 by omega) (jfuel_n (by decide))) ⟨(Int.add_zero _).symm, rfl, rfl⟩
    rintro x hx a b N ⟨rfl, rfl, rfl⟩ rec2 hrec2
    by_cases ex : x = w + 1
    · subst ex
      (repeat (first | (with_reducible apply wm_o; focus (simp (disch := omega) only [wr_id, Int.toNat_natCast, Int.reduceToNat, tn_lk, tn_kl, if_pos, if_neg, ↓reduceIte, and_self, and_true, true_and, hwm]; with_reducible rfl)) | (with_reducible apply wm_q) | (with_reducible apply wm_c; focus (first | assumption | decide +kernel)) | (with_reducible apply wm_d; focus (simp (disch := omega) only [wr_id, Int.toNat_natCast, Int.reduceToNat, tn_lk, tn_kl, if_pos, if_neg, ↓reduceIte, and_self, and_true, true_and, hwm]; with_reducible rfl)) | (with_reducible apply wm_t; focus (first | omega | (simp (disch := omega) only [wr_id, hwm]; omega) | (simp (disch := omega) only [wr_id, hwm]; done))) | (with_reducible apply wm_f; focus (first | omega | (simp (disch := omega) only [wr_id, hwm]; omega) | (simp (disch := omega) only [wr_id, hwm]; done)))))
      exact hrec (y + 1) _ _ _ (by omega) (by omega) ⟨rfl, by omega, rfl⟩
    · have ei : ((7 : Int) * (y : Int)) + (x : Int) = ((7 * y + x : Nat) : Int) := by omega
      have e1 := q3 y (by omega) x (by omega)
      (repeat (first | (with_reducible apply wm_o; focus (simp (disch := omega) only [wr_id, Int.toNat_natCast, Int.reduceToNat, tn_lk, tn_kl, if_pos, if_neg, ↓reduceIte, and_self, and_true, true_and, hwm, FM, ei, e1]; with_reducible rfl)) | (with_reducible apply wm_q) | (with_reducible apply wm_c; focus (first | assumption | decide +kernel)) | (with_reducible apply wm_d; focus (simp (disch := omega) only [wr_id, Int.toNat_natCast, Int.reduceToNat, tn_lk, tn_kl, if_pos, if_neg, ↓reduceIte, and_self, and_true, true_and, hwm, FM, ei, e1]; with_reducible rfl)) | (with_reducible apply wm_t; focus (first | omega | (simp (disch := omega) only [wr_id, hwm, FM, ei, e1]; omega) | (simp (disch := omega) only [wr_id, hwm, FM, ei, e1]; done))) | (with_reducible apply wm_f; focus (first | omega | (simp (disch := omega) only [wr_id, hwm, FM, ei, e1]; omega) | (simp (disch := omega) only [wr_id, hwm, FM, ei, e1]; done)))))
      exact hrec2 (x + 1) _ _ _ (by omega) (by omega) ⟨by rw [smI_s]; omega, by omega, rfl⟩
theorem P_lowest (hI : INV t d rt I) {x : Int} (hx : in32 x) : both t d rt (f_X11_lowest 0 x (mm t d rt I)) (fun M => f_X12_lowest 369 x M) := by
  have hI' := hI
  obtain ⟨lv, w, h, n, nh, hl, sd, ifs, xs, hR, ρ, u, H, hd, G, hC, hM⟩ := hI
  have sq := hR.2.1
  have hcf := hR.2.2.1
  have hmf := hR.2.2.2.1
  have hz := hR.2.2.2.2.2.2.2.2.2
  have hE := hR.2.2.2.2.2.2.2.1
  have htx := hcf.1
  have kt := (tx_k htx).1
  have hnw := sq.2.2.2.2.1
  have hn := sq.2.2.2.2.2.2.1
  have hnh : nh ≤ n := by rw [sq.2.2.2.2.2.2.2.1]; exact cntB_le hl n
  have hw : 2 ≤ w ∧ w ≤ 6 := ⟨sq.1, sq.2.1⟩
  have hh : 2 ≤ h ∧ h ≤ 6 := ⟨sq.2.2.1, sq.2.2.2.1⟩
  have c5 := hcf.2.2.2.2.1
  have hx' := hx
  unfold in32 at hx'
  have ex := wr_in hx
  have w0 := wr_0
  have w1 := wr_1
  have ht := c_every hR
  have hTb := Np_b (na := noB) (nd := noB) (cl := hl) (show 0 < w by omega) hnw hn
  obtain ⟨T, hT⟩ : ∃ T, T = Np w n noB noB n 0 hl := ⟨_, rfl⟩
  rw [← hT] at hTb ht
  -- where nothing is to be told
  have no : ¬ ((0 ≤ x ∧ x ≤ 1) ∧ nh = 0 ∧ T ≠ 0) → wm t d rt (f_X12_lowest 369 x (mm t d rt I)) (fun r' K => jd_wr (-100000) = jd_wr r' ∧ INV t d rt K) := by
    intro hno
    unfold f_X12_lowest
    (repeat (first | (with_reducible apply wm_o; focus (simp (disch := omega) only [wr_id, Int.toNat_natCast, Int.reduceToNat, tn_lk, tn_kl, if_pos, if_neg, ↓reduceIte, and_self, and_true, true_and]; with_reducible rfl)) | (with_reducible apply wm_q) | (with_reducible apply wm_c; focus (first | assumption | decide +kernel)) | (with_reducible apply wm_d; focus (simp (disch := omega) only [wr_id, Int.toNat_natCast, Int.reduceToNat, tn_lk, tn_kl, if_pos, if_neg, ↓reduceIte, and_self, and_true, true_and]; with_reducible rfl)) | (with_reducible apply wm_t; focus (first | omega | (simp (disch := omega) only [wr_id]; omega) | (simp (disch := omega) only [wr_id]; done))) | (with_reducible apply wm_f; focus (first | omega | (simp (disch := omega) only [wr_id]; omega) | (simp (disch := omega) only [wr_id]; done)))))
    refine wm_b (m_countsAll hmf hz) (fun v K hK => ?_)
    obtain ⟨rfl, k1, k2⟩ := hK
    rw [← hT]
    have cK := cfM_frm k1 (fun a _ _ _ _ _ _ _ _ => by omega) (fun q => q) hmf
    have e18 := cK.1.1
    have elv := cK.1.2.1
    have e79 := cK.2.1
    have fin : INV t d rt K := INV_q hR hC hM (frm_refl _ _) (frM_f k1 (fun a ha => by unfold scrM; omega)) (zM_fr hz k1 (by decide) (by decide) (by decide))
    by_cases z : 0 ≤ x ∧ x ≤ 1
    · have in1 := fun (M : jMem) => m_in_t (a := 0) (b := 1) (M := M) hx (i32 (by omega) (by omega)) (i32 (by omega) (by omega)) z
      by_cases zn : nh = 0
      · have zT : T = 0 := by
          by_cases q : T = 0
          · exact q
          · exact absurd ⟨z, zn, q⟩ hno
        (repeat (first | (with_reducible apply wm_o; focus (simp (disch := omega) only [wr_id, Int.toNat_natCast, Int.reduceToNat, tn_lk, tn_kl, if_pos, if_neg, ↓reduceIte, and_self, and_true, true_and, in1, FM, e18, e79]; with_reducible rfl)) | (with_reducible apply wm_q) | (with_reducible apply wm_c; focus (first | assumption | decide +kernel)) | (with_reducible apply wm_d; focus (simp (disch := omega) only [wr_id, Int.toNat_natCast, Int.reduceToNat, tn_lk, tn_kl, if_pos, if_neg, ↓reduceIte, and_self, and_true, true_and, in1, FM, e18, e79]; with_reducible rfl)) | (with_reducible apply wm_t; focus (first | omega | (simp (disch := omega) only [wr_id, in1, FM, e18, e79]; omega) | (simp (disch := omega) only [wr_id, in1, FM, e18, e79]; done))) | (with_reducible apply wm_f; focus (first | omega | (simp (disch := omega) only [wr_id, in1, FM, e18, e79]; omega) | (simp (disch := omega) only [wr_id, in1, FM, e18, e79]; done)))))
        exact wm_r ⟨rfl, fin⟩
      · (repeat (first | (with_reducible apply wm_o; focus (simp (disch := omega) only [wr_id, Int.toNat_natCast, Int.reduceToNat, tn_lk, tn_kl, if_pos, if_neg, ↓reduceIte, and_self, and_true, true_and, in1, FM, e18, e79]; with_reducible rfl)) | (with_reducible apply wm_q) | (with_reducible apply wm_c; focus (first | assumption | decide +kernel)) | (with_reducible apply wm_d; focus (simp (disch := omega) only [wr_id, Int.toNat_natCast, Int.reduceToNat, tn_lk, tn_kl, if_pos, if_neg, ↓reduceIte, and_self, and_true, true_and, in1, FM, e18, e79]; with_reducible rfl)) | (with_reducible apply wm_t; focus (first | omega | (simp (disch := omega) only [wr_id, in1, FM, e18, e79]; omega) | (simp (disch := omega) only [wr_id, in1, FM, e18, e79]; done))) | (with_reducible apply wm_f; focus (first | omega | (simp (disch := omega) only [wr_id, in1, FM, e18, e79]; omega) | (simp (disch := omega) only [wr_id, in1, FM, e18, e79]; done)))))
        exact wm_r ⟨rfl, fin⟩
    · have in1 := fun (M : jMem) => m_in_f (a := 0) (b := 1) (M := M) hx (i32 (by omega) (by omega)) (i32 (by omega) (by omega)) z
      (repeat (first | (with_reducible apply wm_o; focus (simp (disch := omega) only [wr_id, Int.toNat_natCast, Int.reduceToNat, tn_lk, tn_kl, if_pos, if_neg, ↓reduceIte, and_self, and_true, true_and, in1]; with_reducible rfl)) | (with_reducible apply wm_q) | (with_reducible apply wm_c; focus (first | assumption | decide +kernel)) | (with_reducible apply wm_d; focus (simp (disch := omega) only [wr_id, Int.toNat_natCast, Int.reduceToNat, tn_lk, tn_kl, if_pos, if_neg, ↓reduceIte, and_self, and_true, true_and, in1]; with_reducible rfl)) | (with_reducible apply wm_t; focus (first | omega | (simp (disch := omega) only [wr_id, in1]; omega) | (simp (disch := omega) only [wr_id, in1]; done))) | (with_reducible apply wm_f; focus (first | omega | (simp (disch := omega) only [wr_id, in1]; omega) | (simp (disch := omega) only [wr_id, in1]; done)))))
      exact wm_r ⟨rfl, fin⟩
  unfold both f_X11_lowest
  by_cases z : 0 ≤ x ∧ x ≤ 1
  · have hx2 : x = 0 ∨ x = 1 := by omega
    by_cases zn : nh = 0
    · by_cases zT : T = 0
      · rw [zT] at ht
        have := no (fun q => q.2.2 zT)
        rcases hx2 with rfl | rfl
        · (repeat (first | (with_reducible apply wm_o; focus (simp (disch := omega) only [wr_id, Int.toNat_natCast, Int.reduceToNat, tn_lk, tn_kl, if_pos, if_neg, ↓reduceIte, and_self, and_true, true_and, FX, FText htx, c5, ht]; with_reducible rfl)) | (with_reducible apply wm_q) | (with_reducible apply wm_c; focus (first | assumption | decide +kernel)) | (with_reducible apply wm_d; focus (simp (disch := omega) only [wr_id, Int.toNat_natCast, Int.reduceToNat, tn_lk, tn_kl, if_pos, if_neg, ↓reduceIte, and_self, and_true, true_and, FX, FText htx, c5, ht]; with_reducible rfl)) | (with_reducible apply wm_t; focus (first | omega | (simp (disch := omega) only [wr_id, FX, FText htx, c5, ht]; omega) | (simp (disch := omega) only [wr_id, FX, FText htx, c5, ht]; done))) | (with_reducible apply wm_f; focus (first | omega | (simp (disch := omega) only [wr_id, FX, FText htx, c5, ht]; omega) | (simp (disch := omega) only [wr_id, FX, FText htx, c5, ht]; done)))))
          exact wm_r this
        · (repeat (first | (with_reducible apply wm_o; focus (simp (disch := omega) only [wr_id, Int.toNat_natCast, Int.reduceToNat, tn_lk, tn_kl, if_pos, if_neg, ↓reduceIte, and_self, and_true, true_and, FX, FText htx, c5, ht]; with_reducible rfl)) | (with_reducible apply wm_q) | (with_reducible apply wm_c; focus (first | assumption | decide +kernel)) | (with_reducible apply wm_d; focus (simp (disch := omega) only [wr_id, Int.toNat_natCast, Int.reduceToNat, tn_lk, tn_kl, if_pos, if_neg, ↓reduceIte, and_self, and_true, true_and, FX, FText htx, c5, ht]; with_reducible rfl)) | (with_reducible apply wm_t; focus (first | omega | (simp (disch := omega) only [wr_id, FX, FText htx, c5, ht]; omega) | (simp (disch := omega) only [wr_id, FX, FText htx, c5, ht]; done))) | (with_reducible apply wm_f; focus (first | omega | (simp (disch := omega) only [wr_id, FX, FText htx, c5, ht]; omega) | (simp (disch := omega) only [wr_id, FX, FText htx, c5, ht]; done)))))
          exact wm_r this
      · have kE := be_k
        have in1 := fun (M : jMem) => m_in_t (a := 0) (b := 1) (M := M) hx (i32 (by omega) (by omega)) (i32 (by omega) (by omega)) z
        have hwt : ∀ y m, -10000 ≤ -smI (hlC w y m) (w + 1) ∧ -smI (hlC w y m) (w + 1) ≤ 10000 := fun y m => by
          have h2 := smI_b (f := hlC w y m) (a := -20) (b := 20) (k := w + 1) (fun i hi => by have := hlC_b w y m i; omega)
          have e1 : ((w + 1 : Nat) : Int) ≤ 7 := by omega
          have e2 : ((w + 1 : Nat) : Int) * 20 ≤ 7 * 20 := Int.mul_le_mul_of_nonneg_right e1 (by decide)
          have e3 : ((w + 1 : Nat) : Int) * (-20) = -(((w + 1 : Nat) : Int) * 20) := by rw [Int.mul_neg]
          omega
        obtain ⟨b, b1, b2, b3, b4⟩ := best_F sq (wt := fun y m => -smI (hlC w y m) (w + 1)) hwt (by rw [← hT]; omega)
        have eS : ∀ i, smI (fun y => -smI (hlC w y (lnF w h (nthP w n noB noB n 0 hl i) y)) (w + 1)) (h + 1) = -lsV w h (nthP w n noB noB n 0 hl i) := fun i => smI_neg
        have b3' : Gn (fun y m => -smI (hlC w y m) (w + 1)) w h hl noB noB h 0 0 = -lsV w h (nthP w n noB noB n 0 hl b) := b3.trans (eS b)
        have b4' : ∀ i, i < T → lsV w h (nthP w n noB noB n 0 hl b) ≤ lsV w h (nthP w n noB noB n 0 hl i) ∧ (i < b → lsV w h (nthP w n noB noB n 0 hl b) < lsV w h (nthP w n noB noB n 0 hl i)) := fun i hi => by
          have := b4 i (by rw [← hT]; exact hi)
          simp only [eS] at this
          exact ⟨by omega, fun q => by have := this.2 q; omega⟩
        have bd : ∀ i, -2000 ≤ lsV w h (nthP w n noB noB n 0 hl i) ∧ lsV w h (nthP w n noB noB n 0 hl i) ≤ 2000 := fun i => lsV_b hw.2 hh.2 _
        rw [← hT] at b1
        have cls : wm t d rt (jbd (f_X0_weighLow 348 311 (mm t d rt I)) fun _ M9 =>
(jm_gR 11 11 M9 0).bind fun r10 =>
(jm_gR 11 8 M9 0).bind fun r11 =>
(jm_gR 11 13 M9 0).bind fun r12 =>
jcall 0 M9 r10 (f_X0_choose r10 r11 r12 M9) fun v13 M14 =>
if jd_wr x = 0 then ((jm_gR 11 8 M14 0).bind fun r15 =>
(jm_gR 11 13 M14 0).bind fun r16 =>
jcall 4 M14 r15 (f_X4_numberOf r15 r16 M14) fun v17 M18 =>
some (v17, M18))
else (some ((0 - v13), M14))) (fun r J => r = (if x = 0 then (b : Int) else lsV w h (nthP w n noB noB n 0 hl b)) ∧ frm scrC I J) := by
          refine wm_b (w_weighLow hE.1) (fun v2 J2 hJ2 => ?_)
          obtain ⟨q1, q2⟩ := hJ2
          have jC2 : frm scrC I J2 := frm_sub q1 (fun a ha => by unfold scrC; omega)
          have eE2 : evI J2 w h hl := (REST_c (frm_sub jC2 (fun a ha => Or.inl ha)) hR).2.2.2.2.2.2.2.1
          (repeat (first | (with_reducible apply wm_o; focus (simp (disch := omega) only [wr_id, Int.toNat_natCast, Int.reduceToNat, tn_lk, tn_kl, if_pos, if_neg, ↓reduceIte, and_self, and_true, true_and, FX]; with_reducible rfl)) | (with_reducible apply wm_q) | (with_reducible apply wm_c; focus (first | assumption | decide +kernel)) | (with_reducible apply wm_d; focus (simp (disch := omega) only [wr_id, Int.toNat_natCast, Int.reduceToNat, tn_lk, tn_kl, if_pos, if_neg, ↓reduceIte, and_self, and_true, true_and, FX]; with_reducible rfl)) | (with_reducible apply wm_t; focus (first | omega | (simp (disch := omega) only [wr_id, FX]; omega) | (simp (disch := omega) only [wr_id, FX]; done))) | (with_reducible apply wm_f; focus (first | omega | (simp (disch := omega) only [wr_id, FX]; omega) | (simp (disch := omega) only [wr_id, FX]; done)))))
          refine wm_b (w_choose (wt := fun y m => -smI (hlC w y m) (w + 1)) eE2.1 eE2.2.1 no_cl hwt q2) (fun v3 J3 hJ3 => ?_)
          obtain ⟨rfl, q3, q4⟩ := hJ3
          rw [b3']
          rw [b2] at q4
          have jC3 : frm scrC I J3 := frm_trans jC2 (frm_sub q3 (fun a ha => by unfold scrC; omega))
          have eE3 : evI J3 w h hl := (REST_c (frm_sub jC3 (fun a ha => Or.inl ha)) hR).2.2.2.2.2.2.2.1
          rcases hx2 with rfl | rfl
          · have hno := w_numberOf (t := t) (d := d) (rt := rt) (Or.inr rfl) ev_in eE3.1 eE3.2.1 q4 (lnP_len w h _) (lnP_b w h _)
            rw [nth_num sq (by rw [← hT]; exact b1)] at hno
            (repeat (first | (with_reducible apply wm_o; focus (simp (disch := omega) only [wr_id, Int.toNat_natCast, Int.reduceToNat, tn_lk, tn_kl, if_pos, if_neg, ↓reduceIte, and_self, and_true, true_and, FX, hno]; with_reducible rfl)) | (with_reducible apply wm_q) | (with_reducible apply wm_c; focus (first | assumption | decide +kernel)) | (with_reducible apply wm_d; focus (simp (disch := omega) only [wr_id, Int.toNat_natCast, Int.reduceToNat, tn_lk, tn_kl, if_pos, if_neg, ↓reduceIte, and_self, and_true, true_and, FX, hno]; with_reducible rfl)) | (with_reducible apply wm_t; focus (first | omega | (simp (disch := omega) only [wr_id, FX, hno]; omega) | (simp (disch := omega) only [wr_id, FX, hno]; done))) | (with_reducible apply wm_f; focus (first | omega | (simp (disch := omega) only [wr_id, FX, hno]; omega) | (simp (disch := omega) only [wr_id, FX, hno]; done)))))
            exact wm_r ⟨by rw [if_pos rfl], jC3⟩
          · (repeat (first | (with_reducible apply wm_o; focus (simp (disch := omega) only [wr_id, Int.toNat_natCast, Int.reduceToNat, tn_lk, tn_kl, if_pos, if_neg, ↓reduceIte, and_self, and_true, true_and]; with_reducible rfl)) | (with_reducible apply wm_q) | (with_reducible apply wm_c; focus (first | assumption | decide +kernel)) | (with_reducible apply wm_d; focus (simp (disch := omega) only [wr_id, Int.toNat_natCast, Int.reduceToNat, tn_lk, tn_kl, if_pos, if_neg, ↓reduceIte, and_self, and_true, true_and]; with_reducible rfl)) | (with_reducible apply wm_t; focus (first | omega | (simp (disch := omega) only [wr_id]; omega) | (simp (disch := omega) only [wr_id]; done))) | (with_reducible apply wm_f; focus (first | omega | (simp (disch := omega) only [wr_id]; omega) | (simp (disch := omega) only [wr_id]; done)))))
            exact wm_r ⟨by rw [if_neg (by decide)]; omega, jC3⟩
        have mdl : ∀ J, frm scrC I J → wm t d rt (f_X12_lowest 369 x (mm t d rt J)) (fun r' K => jd_wr (if x = 0 then (b : Int) else lsV w h (nthP w n noB noB n 0 hl b)) = jd_wr r' ∧ INV t d rt K) := by
          intro J jC
          have jS : frm (fun a => scrC a ∨ stS a) I J := frm_sub jC (fun a ha => Or.inl ha)
          have hRJ := REST_c jS hR
          have hMJ := stM_c jS hM
          unfold f_X12_lowest
          (repeat (first | (with_reducible apply wm_o; focus (simp (disch := omega) only [wr_id, Int.toNat_natCast, Int.reduceToNat, tn_lk, tn_kl, if_pos, if_neg, ↓reduceIte, and_self, and_true, true_and]; with_reducible rfl)) | (with_reducible apply wm_q) | (with_reducible apply wm_c; focus (first | assumption | decide +kernel)) | (with_reducible apply wm_d; focus (simp (disch := omega) only [wr_id, Int.toNat_natCast, Int.reduceToNat, tn_lk, tn_kl, if_pos, if_neg, ↓reduceIte, and_self, and_true, true_and]; with_reducible rfl)) | (with_reducible apply wm_t; focus (first | omega | (simp (disch := omega) only [wr_id]; omega) | (simp (disch := omega) only [wr_id]; done))) | (with_reducible apply wm_f; focus (first | omega | (simp (disch := omega) only [wr_id]; omega) | (simp (disch := omega) only [wr_id]; done)))))
          refine wm_b (m_countsAll hRJ.2.2.2.1 hRJ.2.2.2.2.2.2.2.2.2) (fun v P hP => ?_)
          obtain ⟨rfl, l1, l2⟩ := hP
          rw [← hT]
          have cL := cfM_frm l1 (fun a _ _ _ _ _ _ _ _ => by omega) (fun q => q) hRJ.2.2.2.1
          have zP := zM_fr hRJ.2.2.2.2.2.2.2.2.2 l1 (by decide) (by decide) (by decide)
          have L12 : P 412 0 = 0 := (congrFun (l1.1 412 (by decide) (by decide)) 0).trans hRJ.2.2.2.2.2.2.2.2.1.2.1
          have w2' : wlk P lv w h n hl := ⟨cL.1, l2.1, zP.2.1, l2.2, L12⟩
          have e18 := cL.1.1
          have elv := cL.1.2.1
          have e79 := cL.2.1
          have fP : frM (fun a => scrM a ∨ a = 412) scrF J P := frM_f l1 (fun a ha => by unfold scrM; omega)
          (repeat (first | (with_reducible apply wm_o; focus (simp (disch := omega) only [wr_id, Int.toNat_natCast, Int.reduceToNat, tn_lk, tn_kl, if_pos, if_neg, ↓reduceIte, and_self, and_true, true_and, in1, FM, e18, e79]; with_reducible rfl)) | (with_reducible apply wm_q) | (with_reducible apply wm_c; focus (first | assumption | decide +kernel)) | (with_reducible apply wm_d; focus (simp (disch := omega) only [wr_id, Int.toNat_natCast, Int.reduceToNat, tn_lk, tn_kl, if_pos, if_neg, ↓reduceIte, and_self, and_true, true_and, in1, FM, e18, e79]; with_reducible rfl)) | (with_reducible apply wm_t; focus (first | omega | (simp (disch := omega) only [wr_id, in1, FM, e18, e79]; omega) | (simp (disch := omega) only [wr_id, in1, FM, e18, e79]; done))) | (with_reducible apply wm_f; focus (first | omega | (simp (disch := omega) only [wr_id, in1, FM, e18, e79]; omega) | (simp (disch := omega) only [wr_id, in1, FM, e18, e79]; done)))))
          refine wm_lp4 T (fun i a m y N => y = (i : Int) ∧ frM (fun a => a = 411 ∨ a = 412) (fun _ => False) P N ∧ wlk N lv w h n hl ∧ ((i = 0 ∧ a = -1 ∧ m = 0) ∨ ∃ c : Nat, a = (c : Int) ∧ c < i ∧ m = lsV w h (nthP w n noB noB n 0 hl c) ∧ (∀ j, j < i → m ≤ lsV w h (nthP w n noB noB n 0 hl j)) ∧ ∀ j, j < c → m < lsV w h (nthP w n noB noB n 0 hl j))) ?_ (Nat.lt_of_le_of_lt hTb (jfuel_n (by decide))) ⟨rfl, frM_refl _ _ _, w2', Or.inl ⟨rfl, rfl, rfl⟩⟩
          rintro i hi a m y N ⟨rfl, hN, wN, inv⟩ rec hrec
          by_cases e : i = T
          · subst e
            rcases inv with ⟨q, _⟩ | ⟨c, rfl, c1, c2, c3, c4⟩
            · omega
            · have ecb : c = b := by
                have g1 := b4' c (by omega)
                have g2 := c3 b (by omega)
                rcases Nat.lt_trichotomy c b with q | q | q
                · have := g1.2 q; omega
                · exact q
                · have := c4 b q; omega
              subst ecb
              have zN := zM_fr zP hN (by decide) (by decide) (by decide)
              have fin : INV t d rt N := INV_h hR hC hM jC (frM_trans fP (frM_f hN (fun a ha => by unfold scrM; omega))) zN wN.2.2.2.2
              rcases hx2 with rfl | rfl
              · (repeat (first | (with_reducible apply wm_o; focus (simp (disch := omega) only [wr_id, Int.toNat_natCast, Int.reduceToNat, tn_lk, tn_kl, if_pos, if_neg, ↓reduceIte, and_self, and_true, true_and]; with_reducible rfl)) | (with_reducible apply wm_q) | (with_reducible apply wm_c; focus (first | assumption | decide +kernel)) | (with_reducible apply wm_d; focus (simp (disch := omega) only [wr_id, Int.toNat_natCast, Int.reduceToNat, tn_lk, tn_kl, if_pos, if_neg, ↓reduceIte, and_self, and_true, true_and]; with_reducible rfl)) | (with_reducible apply wm_t; focus (first | omega | (simp (disch := omega) only [wr_id]; omega) | (simp (disch := omega) only [wr_id]; done))) | (with_reducible apply wm_f; focus (first | omega | (simp (disch := omega) only [wr_id]; omega) | (simp (disch := omega) only [wr_id]; done)))))
                exact wm_r ⟨by rw [if_pos rfl], fin⟩
              · (repeat (first | (with_reducible apply wm_o; focus (simp (disch := omega) only [wr_id, Int.toNat_natCast, Int.reduceToNat, tn_lk, tn_kl, if_pos, if_neg, ↓reduceIte, and_self, and_true, true_and]; with_reducible rfl)) | (with_reducible apply wm_q) | (with_reducible apply wm_c; focus (first | assumption | decide +kernel)) | (with_reducible apply wm_d; focus (simp (disch := omega) only [wr_id, Int.toNat_natCast, Int.reduceToNat, tn_lk, tn_kl, if_pos, if_neg, ↓reduceIte, and_self, and_true, true_and]; with_reducible rfl)) | (with_reducible apply wm_t; focus (first | omega | (simp (disch := omega) only [wr_id]; omega) | (simp (disch := omega) only [wr_id]; done))) | (with_reducible apply wm_f; focus (first | omega | (simp (disch := omega) only [wr_id]; omega) | (simp (disch := omega) only [wr_id]; done)))))
                exact wm_r ⟨by rw [if_neg (by decide), c2], fin⟩
          · have hiT : i < T := by omega
            (repeat (first | (with_reducible apply wm_o; focus (simp (disch := omega) only [wr_id, Int.toNat_natCast, Int.reduceToNat, tn_lk, tn_kl, if_pos, if_neg, ↓reduceIte, and_self, and_true, true_and]; with_reducible rfl)) | (with_reducible apply wm_q) | (with_reducible apply wm_c; focus (first | assumption | decide +kernel)) | (with_reducible apply wm_d; focus (simp (disch := omega) only [wr_id, Int.toNat_natCast, Int.reduceToNat, tn_lk, tn_kl, if_pos, if_neg, ↓reduceIte, and_self, and_true, true_and]; with_reducible rfl)) | (with_reducible apply wm_t; focus (first | omega | (simp (disch := omega) only [wr_id]; omega) | (simp (disch := omega) only [wr_id]; done))) | (with_reducible apply wm_f; focus (first | omega | (simp (disch := omega) only [wr_id]; omega) | (simp (disch := omega) only [wr_id]; done)))))
            refine wm_b (m_hillsOf sq wN (i := i) (by rw [← hT]; exact hiT)) (fun v7 N1 hN1 => ?_)
            obtain ⟨o1, o2⟩ := hN1
            (repeat (first | (with_reducible apply wm_o; focus (simp (disch := omega) only [wr_id, Int.toNat_natCast, Int.reduceToNat, tn_lk, tn_kl, if_pos, if_neg, ↓reduceIte, and_self, and_true, true_and]; with_reducible rfl)) | (with_reducible apply wm_q) | (with_reducible apply wm_c; focus (first | assumption | decide +kernel)) | (with_reducible apply wm_d; focus (simp (disch := omega) only [wr_id, Int.toNat_natCast, Int.reduceToNat, tn_lk, tn_kl, if_pos, if_neg, ↓reduceIte, and_self, and_true, true_and]; with_reducible rfl)) | (with_reducible apply wm_t; focus (first | omega | (simp (disch := omega) only [wr_id]; omega) | (simp (disch := omega) only [wr_id]; done))) | (with_reducible apply wm_f; focus (first | omega | (simp (disch := omega) only [wr_id]; omega) | (simp (disch := omega) only [wr_id]; done)))))
            refine wm_b o2 (fun v8 N2 hN2 => ?_)
            obtain ⟨q1, q2, q3⟩ := hN2
            have hsh := m_sumHills (t := t) (d := d) (rt := rt) q2 q3
            have bi := bd i
            rcases inv with ⟨q, rfl, rfl⟩ | ⟨c, rfl, c1, c2, c3, c4⟩
            · generalize hgv : lsV w h (nthP w n noB noB n 0 hl i) = v at *
              (repeat (first | (with_reducible apply wm_o; focus (simp (disch := omega) only [wr_id, Int.toNat_natCast, Int.reduceToNat, tn_lk, tn_kl, if_pos, if_neg, ↓reduceIte, and_self, and_true, true_and, hsh]; with_reducible rfl)) | (with_reducible apply wm_q) | (with_reducible apply wm_c; focus (first | assumption | decide +kernel)) | (with_reducible apply wm_d; focus (simp (disch := omega) only [wr_id, Int.toNat_natCast, Int.reduceToNat, tn_lk, tn_kl, if_pos, if_neg, ↓reduceIte, and_self, and_true, true_and, hsh]; with_reducible rfl)) | (with_reducible apply wm_t; focus (first | omega | (simp (disch := omega) only [wr_id, hsh]; omega) | (simp (disch := omega) only [wr_id, hsh]; done))) | (with_reducible apply wm_f; focus (first | omega | (simp (disch := omega) only [wr_id, hsh]; omega) | (simp (disch := omega) only [wr_id, hsh]; done)))))
              refine hrec (i + 1) _ _ _ _ (by omega) (by omega) ⟨by omega, frM_trans hN q1, q2, Or.inr ⟨i, rfl, by omega, hgv.symm, fun j hj => ?_, fun j hj => by omega⟩⟩
              have : j = i := by omega
              rw [this, hgv]; exact Int.le_refl _
            · have bc := bd c
              have mb : -2000 ≤ m ∧ m ≤ 2000 := by rw [c2]; omega
              by_cases zl : lsV w h (nthP w n noB noB n 0 hl i) < m
              · generalize hgv : lsV w h (nthP w n noB noB n 0 hl i) = v at *
                (repeat (first | (with_reducible apply wm_o; focus (simp (disch := omega) only [wr_id, Int.toNat_natCast, Int.reduceToNat, tn_lk, tn_kl, if_pos, if_neg, ↓reduceIte, and_self, and_true, true_and, hsh]; with_reducible rfl)) | (with_reducible apply wm_q) | (with_reducible apply wm_c; focus (first | assumption | decide +kernel)) | (with_reducible apply wm_d; focus (simp (disch := omega) only [wr_id, Int.toNat_natCast, Int.reduceToNat, tn_lk, tn_kl, if_pos, if_neg, ↓reduceIte, and_self, and_true, true_and, hsh]; with_reducible rfl)) | (with_reducible apply wm_t; focus (first | omega | (simp (disch := omega) only [wr_id, hsh]; omega) | (simp (disch := omega) only [wr_id, hsh]; done))) | (with_reducible apply wm_f; focus (first | omega | (simp (disch := omega) only [wr_id, hsh]; omega) | (simp (disch := omega) only [wr_id, hsh]; done)))))
                refine hrec (i + 1) _ _ _ _ (by omega) (by omega) ⟨by omega, frM_trans hN q1, q2, Or.inr ⟨i, rfl, by omega, hgv.symm, fun j hj => ?_, fun j hj => ?_⟩⟩
                · by_cases ej : j = i
                  · rw [ej, hgv]; exact Int.le_refl _
                  · have := c3 j (by omega); omega
                · have := c3 j hj; omega
              · generalize hgv : lsV w h (nthP w n noB noB n 0 hl i) = v at *
                (repeat (first | (with_reducible apply wm_o; focus (simp (disch := omega) only [wr_id, Int.toNat_natCast, Int.reduceToNat, tn_lk, tn_kl, if_pos, if_neg, ↓reduceIte, and_self, and_true, true_and, hsh]; with_reducible rfl)) | (with_reducible apply wm_q) | (with_reducible apply wm_c; focus (first | assumption | decide +kernel)) | (with_reducible apply wm_d; focus (simp (disch := omega) only [wr_id, Int.toNat_natCast, Int.reduceToNat, tn_lk, tn_kl, if_pos, if_neg, ↓reduceIte, and_self, and_true, true_and, hsh]; with_reducible rfl)) | (with_reducible apply wm_t; focus (first | omega | (simp (disch := omega) only [wr_id, hsh]; omega) | (simp (disch := omega) only [wr_id, hsh]; done))) | (with_reducible apply wm_f; focus (first | omega | (simp (disch := omega) only [wr_id, hsh]; omega) | (simp (disch := omega) only [wr_id, hsh]; done)))))
                refine hrec (i + 1) _ _ _ _ (by omega) (by omega) ⟨by omega, frM_trans hN q1, q2, Or.inr ⟨c, rfl, by omega, c2, fun j hj => ?_, c4⟩⟩
                by_cases ej : j = i
                · rw [ej, hgv]; omega
                · exact c3 j (by omega)
        have both' := wm_w cls (fun r J hJ => (by rw [hJ.1]; exact mdl J hJ.2 : wm t d rt (f_X12_lowest 369 x (mm t d rt J)) (fun r' K => jd_wr r = jd_wr r' ∧ INV t d rt K)))
        rcases hx2 with rfl | rfl
        · (repeat (first | (with_reducible apply wm_o; focus (simp (disch := omega) only [wr_id, Int.toNat_natCast, Int.reduceToNat, tn_lk, tn_kl, if_pos, if_neg, ↓reduceIte, and_self, and_true, true_and, FX, FText htx, c5, ht]; with_reducible rfl)) | (with_reducible apply wm_q) | (with_reducible apply wm_c; focus (first | assumption | decide +kernel)) | (with_reducible apply wm_d; focus (simp (disch := omega) only [wr_id, Int.toNat_natCast, Int.reduceToNat, tn_lk, tn_kl, if_pos, if_neg, ↓reduceIte, and_self, and_true, true_and, FX, FText htx, c5, ht]; with_reducible rfl)) | (with_reducible apply wm_t; focus (first | omega | (simp (disch := omega) only [wr_id, FX, FText htx, c5, ht]; omega) | (simp (disch := omega) only [wr_id, FX, FText htx, c5, ht]; done))) | (with_reducible apply wm_f; focus (first | omega | (simp (disch := omega) only [wr_id, FX, FText htx, c5, ht]; omega) | (simp (disch := omega) only [wr_id, FX, FText htx, c5, ht]; done)))))
          exact both'
        · (repeat (first | (with_reducible apply wm_o; focus (simp (disch := omega) only [wr_id, Int.toNat_natCast, Int.reduceToNat, tn_lk, tn_kl, if_pos, if_neg, ↓reduceIte, and_self, and_true, true_and, FX, FText htx, c5, ht]; with_reducible rfl)) | (with_reducible apply wm_q) | (with_reducible apply wm_c; focus (first | assumption | decide +kernel)) | (with_reducible apply wm_d; focus (simp (disch := omega) only [wr_id, Int.toNat_natCast, Int.reduceToNat, tn_lk, tn_kl, if_pos, if_neg, ↓reduceIte, and_self, and_true, true_and, FX, FText htx, c5, ht]; with_reducible rfl)) | (with_reducible apply wm_t; focus (first | omega | (simp (disch := omega) only [wr_id, FX, FText htx, c5, ht]; omega) | (simp (disch := omega) only [wr_id, FX, FText htx, c5, ht]; done))) | (with_reducible apply wm_f; focus (first | omega | (simp (disch := omega) only [wr_id, FX, FText htx, c5, ht]; omega) | (simp (disch := omega) only [wr_id, FX, FText htx, c5, ht]; done)))))
          exact both'
    · have := no (fun q => zn q.2.1)
      rcases hx2 with rfl | rfl
      · (repeat (first | (with_reducible apply wm_o; focus (simp (disch := omega) only [wr_id, Int.toNat_natCast, Int.reduceToNat, tn_lk, tn_kl, if_pos, if_neg, ↓reduceIte, and_self, and_true, true_and, FX, FText htx, c5]; with_reducible rfl)) | (with_reducible apply wm_q) | (with_reducible apply wm_c; focus (first | assumption | decide +kernel)) | (with_reducible apply wm_d; focus (simp (disch := omega) only [wr_id, Int.toNat_natCast, Int.reduceToNat, tn_lk, tn_kl, if_pos, if_neg, ↓reduceIte, and_self, and_true, true_and, FX, FText htx, c5]; with_reducible rfl)) | (with_reducible apply wm_t; focus (first | omega | (simp (disch := omega) only [wr_id, FX, FText htx, c5]; omega) | (simp (disch := omega) only [wr_id, FX, FText htx, c5]; done))) | (with_reducible apply wm_f; focus (first | omega | (simp (disch := omega) only [wr_id, FX, FText htx, c5]; omega) | (simp (disch := omega) only [wr_id, FX, FText htx, c5]; done)))))
        exact wm_r this
      · (repeat (first | (with_reducible apply wm_o; focus (simp (disch := omega) only [wr_id, Int.toNat_natCast, Int.reduceToNat, tn_lk, tn_kl, if_pos, if_neg, ↓reduceIte, and_self, and_true, true_and, FX, FText htx, c5]; with_reducible rfl)) | (with_reducible apply wm_q) | (with_reducible apply wm_c; focus (first | assumption | decide +kernel)) | (with_reducible apply wm_d; focus (simp (disch := omega) only [wr_id, Int.toNat_natCast, Int.reduceToNat, tn_lk, tn_kl, if_pos, if_neg, ↓reduceIte, and_self, and_true, true_and, FX, FText htx, c5]; with_reducible rfl)) | (with_reducible apply wm_t; focus (first | omega | (simp (disch := omega) only [wr_id, FX, FText htx, c5]; omega) | (simp (disch := omega) only [wr_id, FX, FText htx, c5]; done))) | (with_reducible apply wm_f; focus (first | omega | (simp (disch := omega) only [wr_id, FX, FText htx, c5]; omega) | (simp (disch := omega) only [wr_id, FX, FText htx, c5]; done)))))
        exact wm_r this
  · (repeat (first | (with_reducible apply wm_o; focus (simp (disch := omega) only [wr_id, Int.toNat_natCast, Int.reduceToNat, tn_lk, tn_kl, if_pos, if_neg, ↓reduceIte, and_self, and_true, true_and, ex]; with_reducible rfl)) | (with_reducible apply wm_q) | (with_reducible apply wm_c; focus (first | assumption | decide +kernel)) | (with_reducible apply wm_d; focus (simp (disch := omega) only [wr_id, Int.toNat_natCast, Int.reduceToNat, tn_lk, tn_kl, if_pos, if_neg, ↓reduceIte, and_self, and_true, true_and, ex]; with_reducible rfl)) | (with_reducible apply wm_t; focus (first | omega | (simp (disch := omega) only [wr_id, ex]; omega) | (simp (disch := omega) only [wr_id, ex]; done))) | (with_reducible apply wm_f; focus (first | omega | (simp (disch := omega) only [wr_id, ex]; omega) | (simp (disch := omega) only [wr_id, ex]; done)))))
    exact wm_r (no (fun q => z q.1))
end PF
