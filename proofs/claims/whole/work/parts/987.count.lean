/-! ===== calls: count ===== -/
/-- count behind its copies -/
def f_X12_countX (x : Int) (M : jMem) : Option (Int × jMem) :=
if jd_wr x = 0 then (jcall 12 M 369 (f_X12_w 369 M) fun v3 M4 =>
some (v3, M4))
else if jd_wr x = 1 then ((jm_gR 12 21 M 369).bind fun r5 =>
(jm_gI 12 18 M 369).bind fun v6 =>
(jm_ld 20 M r5 v6).bind fun v7 =>
some (v7, M))
else if jd_wr x = 2 then ((jm_gR 12 22 M 369).bind fun r8 =>
(jm_gI 12 18 M 369).bind fun v9 =>
(jm_ld 20 M r8 v9).bind fun v10 =>
some (v10, M))
else if jd_wr x = 3 then (jcall 12 M 369 (f_X12_stoneMany 369 M) fun v11 M12 =>
some (v11, M12))
else if jd_wr x = 4 then (jlp3 (fun rec_120 (y2_120 : Int) (y3_120 : Int) (M_120 : jMem) =>
if jd_wr y3_120 < jd_wr 18 then (jcall 12 M_120 369 (f_X12_lies 369 y3_120 M_120) fun v13 M14 =>
jjq (fun (y2_149 : Int) =>
rec_120 y2_149 (y3_120 + 1) M14) fun j_149 =>
if jd_wr v13 = 0 then (j_149 y2_120)
else ((jm_gR 12 48 M14 369).bind fun r15 =>
(jm_ld 20 M14 r15 (18 + y3_120)).bind fun v16 =>
if jd_wr v16 = 0 then (j_149 (y2_120 + 1))
else (j_149 y2_120)))
else (some (y2_120, M_120))) jfuel 0 0 M)
else if jd_wr x = 5 then ((jm_gR 12 48 M 369).bind fun r17 =>
(jm_ld 20 M r17 72).bind fun v18 =>
some (v18, M))
else if jd_wr x = 6 then ((jm_gR 12 48 M 369).bind fun r19 =>
(jm_ld 20 M r19 73).bind fun v20 =>
some (v20, M))
else if jd_wr x = 7 then (jcall 12 M 369 (f_X12_freeMany 369 M) fun v21 M2 =>
if jd_wr v21 = 0 then (some (1, M2))
else (some (0, M2)))
else if jd_wr x = 8 then ((jm_gI 12 2 M 369).bind fun v23 =>
some (v23, M))
else if jd_wr x = 9 then ((jm_gI 12 53 M 369).bind fun v24 =>
some (v24, M))
else if jd_wr x = 10 then ((jm_gI 12 63 M 369).bind fun v25 =>
some (v25, M))
else if jd_wr x = 11 then ((jm_gR 12 66 M 369).bind fun r26 =>
(jm_ld 22 M r26 0).bind fun v27 =>
jjq (fun (z0_215 : Int) =>
(jm_gR 12 66 M 369).bind fun r28 =>
(jm_ld 22 M r28 1).bind fun v29 =>
jjq (fun (z0_229 : Int) =>
(jm_gR 12 66 M 369).bind fun r30 =>
(jm_ld 22 M r30 2).bind fun v31 =>
jjq (fun (z0_244 : Int) =>
some (((z0_215 + z0_229) + z0_244), M)) fun j_244 =>
if jd_wr v31 = 0 then (j_244 0)
else (j_244 1)) fun j_229 =>
if jd_wr v29 = 0 then (j_229 0)
else (j_229 1)) fun j_215 =>
if jd_wr v27 = 0 then (j_215 0)
else (j_215 1))
else if jd_wr x = 12 then ((jm_gR 12 48 M 369).bind fun r32 =>
(jm_ld 20 M r32 74).bind fun v33 =>
some (v33, M))
else if jd_wr x = 13 then (jlp3 (fun rec_256 (y2_256 : Int) (y3_256 : Int) (M_256 : jMem) =>
if jd_wr y3_256 < jd_wr 18 then (jcall 12 M_256 369 (f_X12_lies 369 y3_256 M_256) fun v34 M35 =>
jjq (fun (y2_276 : Int) =>
rec_256 y2_276 (y3_256 + 1) M35) fun j_276 =>
if jd_wr v34 = 0 then (j_276 y2_256)
else (j_276 (jd_or y2_256 (jd_shl 1 y3_256))))
else (some (y2_256, M_256))) jfuel 0 0 M)
else if jd_wr x = 14 then (jcall 12 M 369 (f_X12_freeMany 369 M) fun v36 M37 =>
some (v36, M37))
else if jd_wr x = 15 then (jlp3 (fun rec_291 (y2_291 : Int) (y3_291 : Int) (M_291 : jMem) =>
if jd_wr y3_291 < jd_wr 18 then (jcall 12 M_291 369 (f_X12_lies 369 y3_291 M_291) fun v38 M39 =>
jjq (fun (y2_313 : Int) (M_313 : jMem) =>
rec_291 y2_313 (y3_291 + 1) M_313) fun j_313 =>
if jd_wr v38 = 0 then (j_313 y2_291 M39)
else (jcall 12 M39 369 (f_X12_asksOf 369 y3_291 M39) fun v40 M41 =>
j_313 (y2_291 + v40) M41))
else (some (y2_291, M_291))) jfuel 0 0 M)
else if jd_wr x = 16 then (jlp3 (fun rec_323 (y2_323 : Int) (y3_323 : Int) (M_323 : jMem) =>
if jd_wr y3_323 < jd_wr 18 then (jcall 12 M_323 369 (f_X12_lies 369 y3_323 M_323) fun v42 M43 =>
jjq (fun (y2_349 : Int) =>
rec_323 y2_349 (y3_323 + 1) M43) fun j_349 =>
if jd_wr v42 = 0 then (j_349 y2_323)
else ((jm_gR 12 48 M43 369).bind fun r44 =>
(jm_ld 20 M43 r44 (36 + y3_323)).bind fun v45 =>
j_349 (y2_323 + v45)))
else (some (y2_323, M_323))) jfuel 0 0 M)
else (some ((-1), M))
section PC
variable {t d rt : Nat} {I J K : Nat → Nat → Int} {lv w h n nh s k : Nat} {hl : Nat → Bool} {sd : Int} {ifs : Nat → List LwI} {xs : Nat → List CI} {ρ σ : Nat → Int} {u : Nat} {H : Nat → Nat → Int} {hd : Nat → Bool} {G : Nat → Nat → Int}
theorem wr_add2 {a b c e : Int} (h1 : jd_wr a = jd_wr c) (h2 : jd_wr b = jd_wr e) : jd_wr (a + b) = jd_wr (c + e) := by rw [wr_add, h1, h2, ← wr_add]
theorem c_asksAll (sq : sqOK w h n nh hl) (c' : cfC I t w h n nh hl sd ifs xs) (hr : rOK w n hl ρ) (hst : stR I 34 w ρ) : wm t d rt (f_X11_asksOfAll 0 (mm t d rt I)) (fun r J => jd_wr r = jd_wr (sumF (rLies ρ) (fun k => LV ifs xs w nh ρ k 0) 18) ∧ frm (fun a => a = t + 12) I J) := by
  have hn := sq.2.2.2.2.2.2.1
  have htx := c'.1
  have kl := (tx_k htx).2.1
  have hlt := (tx_k htx).2.2.2
  unfold f_X11_asksOfAll
  refine wm_lp3 18 (fun i a y J => jd_wr a = jd_wr (sumF (rLies ρ) (fun k => LV ifs xs w nh ρ k 0) i) ∧ y = (i : Int) ∧ frm (fun a => a = t + 12) I J) ?_ (jfuel_n (by decide)) ⟨rfl, rfl, frm_refl _ _⟩
  rintro i hi a y J ⟨ha, rfl, hJ⟩ rec hrec
  have sJ := stR_frm hJ (fun a a1 a2 => by omega) hst
  have cJ := cfC_frm hJ (fun a a1 a2 => by omega) c'
  refine wm_if (fun cc => ?_) (fun cc => ?_)
  · simp (disch := omega) only [wr_id] at cc
    have hi2 : i < 18 := by omega
    have hli := w_lies (t := t) (d := d) (rt := rt) now_in hr hn sJ hi2
    by_cases z : 0 ≤ ρ i
    · rw [if_pos z] at hli
      have c5 := cJ.2.2.2.2.1
      (repeat (first | (with_reducible apply wm_o; focus (simp (disch := omega) only [wr_id, Int.toNat_natCast, Int.reduceToNat, tn_lk, tn_kl, if_pos, if_neg, ↓reduceIte, and_self, and_true, true_and, FX, hli, FText htx, c5]; with_reducible rfl)) | (with_reducible apply wm_q) | (with_reducible apply wm_c; focus (first | assumption | decide +kernel)) | (with_reducible apply wm_d; focus (simp (disch := omega) only [wr_id, Int.toNat_natCast, Int.reduceToNat, tn_lk, tn_kl, if_pos, if_neg, ↓reduceIte, and_self, and_true, true_and, FX, hli, FText htx, c5]; with_reducible rfl)) | (with_reducible apply wm_t; focus (first | omega | (simp (disch := omega) only [wr_id, FX, hli, FText htx, c5]; omega) | (simp (disch := omega) only [wr_id, FX, hli, FText htx, c5]; done))) | (with_reducible apply wm_f; focus (first | omega | (simp (disch := omega) only [wr_id, FX, hli, FText htx, c5]; omega) | (simp (disch := omega) only [wr_id, FX, hli, FText htx, c5]; done)))))
      refine wm_b (c_held (q := 0) sq cJ now_in hr sJ hi2 z (by decide)) (fun v L hL => ?_)
      have lb := LV_b (ifs := ifs) (xs := xs) (w := w) (nh := nh) (ρ := ρ) (k := i) 0
      refine hrec (i + 1) _ _ _ (by omega) (by omega) ⟨?_, by omega, frm_trans hJ hL.2⟩
      rw [sumF, if_pos (by unfold rLies; exact decide_eq_true z)]
      exact wr_add2 ha (by rw [hL.1, wr_id (by omega) (by omega)])
    · rw [if_neg z] at hli
      (repeat (first | (with_reducible apply wm_o; focus (simp (disch := omega) only [wr_id, Int.toNat_natCast, Int.reduceToNat, tn_lk, tn_kl, if_pos, if_neg, ↓reduceIte, and_self, and_true, true_and, FX, hli]; with_reducible rfl)) | (with_reducible apply wm_q) | (with_reducible apply wm_c; focus (first | assumption | decide +kernel)) | (with_reducible apply wm_d; focus (simp (disch := omega) only [wr_id, Int.toNat_natCast, Int.reduceToNat, tn_lk, tn_kl, if_pos, if_neg, ↓reduceIte, and_self, and_true, true_and, FX, hli]; with_reducible rfl)) | (with_reducible apply wm_t; focus (first | omega | (simp (disch := omega) only [wr_id, FX, hli]; omega) | (simp (disch := omega) only [wr_id, FX, hli]; done))) | (with_reducible apply wm_f; focus (first | omega | (simp (disch := omega) only [wr_id, FX, hli]; omega) | (simp (disch := omega) only [wr_id, FX, hli]; done)))))
      refine hrec (i + 1) _ _ _ (by omega) (by omega) ⟨?_, by omega, hJ⟩
      rw [sumF, if_neg (by unfold rLies; rw [decide_eq_false z]; decide)]
      exact ha
  · simp (disch := omega) only [wr_id] at cc
    obtain rfl : i = 18 := by omega
    exact wm_r ⟨ha, hJ⟩
theorem P_count (hI : INV t d rt I) {x : Int} (hx : in32 x) : both t d rt (f_X11_count 0 x (mm t d rt I)) (fun M => f_X12_count 369 x M) := by
  obtain ⟨lv, w, h, n, nh, hl, sd, ifs, xs, hR, ρ, u, H, hd, G, hC, hM⟩ := hI
  have hcf := hR.2.2.1
  have hmf := hR.2.2.2.1
  have hz := hR.2.2.2.2.2.2.2.2.2
  have sq := hR.2.1
  have htx := hcf.1
  have hn := sq.2.2.2.2.2.2.1
  have hv := vRow_of hC.1 hn
  have hxw := wr_in hx
  obtain ⟨td, q1, q2, q3, q4⟩ := hR.2.2.2.2.1
  obtain ⟨tl, p1, p2, p3, p4⟩ := hR.2.2.2.2.2.1
  have hst := hC.2.1
  obtain ⟨s1, s2, ⟨nw, s3⟩, s4, s5, s6⟩ := hC
  have hC' : stC I w n hl ρ u H hd G := ⟨s1, s2, ⟨nw, s3⟩, s4, s5, s6⟩
  obtain ⟨g1, g2, g3, g4, g5, g6, g7, g8, g9⟩ := hst
  -- the model, behind its copies
  have mod : ∀ (J : Nat → Nat → Int) (r : Int), frm scrC I J → (∀ K, K 401 = ρ → cfM K lv w h n nh hl sd ifs xs → zM K → K 369 2 = (tl : Int) → K 369 53 = (u : Int) → K 369 63 = (td : Int) → (∀ i, i < 3 → K 416 i = if hd i then 1 else 0) → wm t d rt (f_X12_countX x (mm t d rt K)) (fun r' L => jd_wr r = jd_wr r' ∧ frM scrM scrF K L ∧ zM L)) → wm t d rt (f_X12_count 369 x (mm t d rt J)) (fun r' K => jd_wr r = jd_wr r' ∧ INV t d rt K) := by
    intro J r hJ hK
    have hf' : frm (fun a => scrC a ∨ stS a) I J := frm_sub hJ (fun a ha => Or.inl ha)
    have hR2 := REST_c hf' hR
    have hM2 := stM_c hf' hM
    have e369 : J 369 = I 369 := hJ 369 (by unfold scrC; omega)
    unfold f_X12_count
    (repeat (first | (with_reducible apply wm_o; focus (simp (disch := omega) only [wr_id, Int.toNat_natCast, Int.reduceToNat, tn_lk, tn_kl, if_pos, if_neg, ↓reduceIte, and_self, and_true, true_and]; with_reducible rfl)) | (with_reducible apply wm_q) | (with_reducible apply wm_c; focus (first | assumption | decide +kernel)) | (with_reducible apply wm_d; focus (simp (disch := omega) only [wr_id, Int.toNat_natCast, Int.reduceToNat, tn_lk, tn_kl, if_pos, if_neg, ↓reduceIte, and_self, and_true, true_and]; with_reducible rfl)) | (with_reducible apply wm_t; focus (first | omega | (simp (disch := omega) only [wr_id]; omega) | (simp (disch := omega) only [wr_id]; done))) | (with_reducible apply wm_f; focus (first | omega | (simp (disch := omega) only [wr_id]; omega) | (simp (disch := omega) only [wr_id]; done)))))
    refine wm_b (m_cop hR2.2.2.2.1 hR2.2.2.2.2.2.2.2.2.2 hM2.1 hM2.2.1) (fun v K hK' => ?_)
    obtain ⟨k1, k2, k3, k4, k5⟩ := hK'
    refine wm_w (hK K k4 k3 k2 ?_ ?_ ?_ ?_) (fun r' L hL => ⟨hL.1, INV_q hR hC' hM hJ (frM_trans k1 hL.2.1) hL.2.2⟩)
    · rw [k1.2 2 (by unfold scrF; omega), e369]; exact p3
    · rw [k1.2 53 (by unfold scrF; omega), e369]; exact hM.2.2.1.1
    · rw [k1.2 63 (by unfold scrF; omega), e369]; exact q3
    · intro i hi
      rw [k1.1 416 (by decide) (by unfold scrM; omega)]
      exact (hM2.2.2.2 i hi).1
  have flt := w_flatStones (t := t) (d := d) (rt := rt) now_in s1 hn s2
  have bts := w_coupleBits (t := t) (d := d) (rt := rt) now_in s1 hn s2
  have tin := w_turnedInAll (t := t) (d := d) (rt := rt) now_in s1 hn s2
  have fre := q_freeCells (d := d) (rt := rt) sq hcf s2
  have slu := w_slotsInUse (t := t) (d := d) (rt := rt) (I := I) (fun i hi => (s5 i hi).1)
  have c0 := hcf.2.1
  have c1 := hcf.2.2.1
  have c3 := hcf.2.2.2.2.1
  have u46 : I 46 4 = (u : Int) := s3.2.2.1
  have mli : ∀ K : Nat → Nat → Int, K 401 = ρ → ∀ i : Nat, i < 18 → f_X12_lies 369 (i : Int) (mm t d rt K) = some (if rLies ρ i then 1 else 0, mm t d rt K) := fun K hK i hi => by
    rw [s_lies (by rw [hK]; exact hv) hi, hK]
  by_cases x17 : ¬ (0 ≤ x ∧ x ≤ 16)
  · unfold both f_X11_count
    (repeat (first | (with_reducible apply wm_o; focus (simp (disch := omega) only [wr_id, Int.toNat_natCast, Int.reduceToNat, tn_lk, tn_kl, if_pos, if_neg, ↓reduceIte, and_self, and_true, true_and]; with_reducible rfl)) | (with_reducible apply wm_q) | (with_reducible apply wm_c; focus (first | assumption | decide +kernel)) | (with_reducible apply wm_d; focus (simp (disch := omega) only [wr_id, Int.toNat_natCast, Int.reduceToNat, tn_lk, tn_kl, if_pos, if_neg, ↓reduceIte, and_self, and_true, true_and]; with_reducible rfl)) | (with_reducible apply wm_t; focus (first | omega | (simp (disch := omega) only [wr_id]; omega) | (simp (disch := omega) only [wr_id]; done))) | (with_reducible apply wm_f; focus (first | omega | (simp (disch := omega) only [wr_id]; omega) | (simp (disch := omega) only [wr_id]; done)))))
    refine wm_r (mod I _ (frm_refl _ _) (fun K k1 k2 k3 k4 k5 k6 k7 => ?_))
    unfold f_X12_countX
    (repeat (first | (with_reducible apply wm_o; focus (simp (disch := omega) only [wr_id, Int.toNat_natCast, Int.reduceToNat, tn_lk, tn_kl, if_pos, if_neg, ↓reduceIte, and_self, and_true, true_and]; with_reducible rfl)) | (with_reducible apply wm_q) | (with_reducible apply wm_c; focus (first | assumption | decide +kernel)) | (with_reducible apply wm_d; focus (simp (disch := omega) only [wr_id, Int.toNat_natCast, Int.reduceToNat, tn_lk, tn_kl, if_pos, if_neg, ↓reduceIte, and_self, and_true, true_and]; with_reducible rfl)) | (with_reducible apply wm_t; focus (first | omega | (simp (disch := omega) only [wr_id]; omega) | (simp (disch := omega) only [wr_id]; done))) | (with_reducible apply wm_f; focus (first | omega | (simp (disch := omega) only [wr_id]; omega) | (simp (disch := omega) only [wr_id]; done)))))
    exact wm_r ⟨rfl, frM_refl _ _ _, k3⟩
  have hxx : x = 0 ∨ x = 1 ∨ x = 2 ∨ x = 3 ∨ x = 4 ∨ x = 5 ∨ x = 6 ∨ x = 7 ∨ x = 8 ∨ x = 9 ∨ x = 10 ∨ x = 11 ∨ x = 12 ∨ x = 13 ∨ x = 14 ∨ x = 15 ∨ x = 16 := by omega
  unfold both f_X11_count
  rcases hxx with rfl | rfl | rfl | rfl | rfl | rfl | rfl | rfl | rfl | rfl | rfl | rfl | rfl | rfl | rfl | rfl | rfl
  · (repeat (first | (with_reducible apply wm_o; focus (simp (disch := omega) only [wr_id, Int.toNat_natCast, Int.reduceToNat, tn_lk, tn_kl, if_pos, if_neg, ↓reduceIte, and_self, and_true, true_and, FX, FText htx, c0]; with_reducible rfl)) | (with_reducible apply wm_q) | (with_reducible apply wm_c; focus (first | assumption | decide +kernel)) | (with_reducible apply wm_d; focus (simp (disch := omega) only [wr_id, Int.toNat_natCast, Int.reduceToNat, tn_lk, tn_kl, if_pos, if_neg, ↓reduceIte, and_self, and_true, true_and, FX, FText htx, c0]; with_reducible rfl)) | (with_reducible apply wm_t; focus (first | omega | (simp (disch := omega) only [wr_id, FX, FText htx, c0]; omega) | (simp (disch := omega) only [wr_id, FX, FText htx, c0]; done))) | (with_reducible apply wm_f; focus (first | omega | (simp (disch := omega) only [wr_id, FX, FText htx, c0]; omega) | (simp (disch := omega) only [wr_id, FX, FText htx, c0]; done)))))
    refine wm_r (mod I _ (frm_refl _ _) (fun K k1 k2 k3 k4 k5 k6 k7 => ?_))
    have mw := s_w (t := t) (d := d) (rt := rt) k2.1
    unfold f_X12_countX
    (repeat (first | (with_reducible apply wm_o; focus (simp (disch := omega) only [wr_id, Int.toNat_natCast, Int.reduceToNat, tn_lk, tn_kl, if_pos, if_neg, ↓reduceIte, and_self, and_true, true_and, mw]; with_reducible rfl)) | (with_reducible apply wm_q) | (with_reducible apply wm_c; focus (first | assumption | decide +kernel)) | (with_reducible apply wm_d; focus (simp (disch := omega) only [wr_id, Int.toNat_natCast, Int.reduceToNat, tn_lk, tn_kl, if_pos, if_neg, ↓reduceIte, and_self, and_true, true_and, mw]; with_reducible rfl)) | (with_reducible apply wm_t; focus (first | omega | (simp (disch := omega) only [wr_id, mw]; omega) | (simp (disch := omega) only [wr_id, mw]; done))) | (with_reducible apply wm_f; focus (first | omega | (simp (disch := omega) only [wr_id, mw]; omega) | (simp (disch := omega) only [wr_id, mw]; done)))))
    exact wm_r ⟨rfl, frM_refl _ _ _, k3⟩
  · (repeat (first | (with_reducible apply wm_o; focus (simp (disch := omega) only [wr_id, Int.toNat_natCast, Int.reduceToNat, tn_lk, tn_kl, if_pos, if_neg, ↓reduceIte, and_self, and_true, true_and, FX, FText htx, c1]; with_reducible rfl)) | (with_reducible apply wm_q) | (with_reducible apply wm_c; focus (first | assumption | decide +kernel)) | (with_reducible apply wm_d; focus (simp (disch := omega) only [wr_id, Int.toNat_natCast, Int.reduceToNat, tn_lk, tn_kl, if_pos, if_neg, ↓reduceIte, and_self, and_true, true_and, FX, FText htx, c1]; with_reducible rfl)) | (with_reducible apply wm_t; focus (first | omega | (simp (disch := omega) only [wr_id, FX, FText htx, c1]; omega) | (simp (disch := omega) only [wr_id, FX, FText htx, c1]; done))) | (with_reducible apply wm_f; focus (first | omega | (simp (disch := omega) only [wr_id, FX, FText htx, c1]; omega) | (simp (disch := omega) only [wr_id, FX, FText htx, c1]; done)))))
    refine wm_r (mod I _ (frm_refl _ _) (fun K k1 k2 k3 k4 k5 k6 k7 => ?_))
    have m18 := k2.1.1
    have m8 := k2.1.2.2.2.1
    have lv2 := k2.1.2.1
    unfold f_X12_countX
    (repeat (first | (with_reducible apply wm_o; focus (simp (disch := omega) only [wr_id, Int.toNat_natCast, Int.reduceToNat, tn_lk, tn_kl, if_pos, if_neg, ↓reduceIte, and_self, and_true, true_and, FM, m18, m8]; with_reducible rfl)) | (with_reducible apply wm_q) | (with_reducible apply wm_c; focus (first | assumption | decide +kernel)) | (with_reducible apply wm_d; focus (simp (disch := omega) only [wr_id, Int.toNat_natCast, Int.reduceToNat, tn_lk, tn_kl, if_pos, if_neg, ↓reduceIte, and_self, and_true, true_and, FM, m18, m8]; with_reducible rfl)) | (with_reducible apply wm_t; focus (first | omega | (simp (disch := omega) only [wr_id, FM, m18, m8]; omega) | (simp (disch := omega) only [wr_id, FM, m18, m8]; done))) | (with_reducible apply wm_f; focus (first | omega | (simp (disch := omega) only [wr_id, FM, m18, m8]; omega) | (simp (disch := omega) only [wr_id, FM, m18, m8]; done)))))
    exact wm_r ⟨rfl, frM_refl _ _ _, k3⟩
  · (repeat (first | (with_reducible apply wm_o; focus (simp (disch := omega) only [wr_id, Int.toNat_natCast, Int.reduceToNat, tn_lk, tn_kl, if_pos, if_neg, ↓reduceIte, and_self, and_true, true_and, FX, FText htx, c3]; with_reducible rfl)) | (with_reducible apply wm_q) | (with_reducible apply wm_c; focus (first | assumption | decide +kernel)) | (with_reducible apply wm_d; focus (simp (disch := omega) only [wr_id, Int.toNat_natCast, Int.reduceToNat, tn_lk, tn_kl, if_pos, if_neg, ↓reduceIte, and_self, and_true, true_and, FX, FText htx, c3]; with_reducible rfl)) | (with_reducible apply wm_t; focus (first | omega | (simp (disch := omega) only [wr_id, FX, FText htx, c3]; omega) | (simp (disch := omega) only [wr_id, FX, FText htx, c3]; done))) | (with_reducible apply wm_f; focus (first | omega | (simp (disch := omega) only [wr_id, FX, FText htx, c3]; omega) | (simp (disch := omega) only [wr_id, FX, FText htx, c3]; done)))))
    refine wm_r (mod I _ (frm_refl _ _) (fun K k1 k2 k3 k4 k5 k6 k7 => ?_))
    have m18 := k2.1.1
    have m8 := k2.2.1
    have lv2 := k2.1.2.1
    unfold f_X12_countX
    (repeat (first | (with_reducible apply wm_o; focus (simp (disch := omega) only [wr_id, Int.toNat_natCast, Int.reduceToNat, tn_lk, tn_kl, if_pos, if_neg, ↓reduceIte, and_self, and_true, true_and, FM, m18, m8]; with_reducible rfl)) | (with_reducible apply wm_q) | (with_reducible apply wm_c; focus (first | assumption | decide +kernel)) | (with_reducible apply wm_d; focus (simp (disch := omega) only [wr_id, Int.toNat_natCast, Int.reduceToNat, tn_lk, tn_kl, if_pos, if_neg, ↓reduceIte, and_self, and_true, true_and, FM, m18, m8]; with_reducible rfl)) | (with_reducible apply wm_t; focus (first | omega | (simp (disch := omega) only [wr_id, FM, m18, m8]; omega) | (simp (disch := omega) only [wr_id, FM, m18, m8]; done))) | (with_reducible apply wm_f; focus (first | omega | (simp (disch := omega) only [wr_id, FM, m18, m8]; omega) | (simp (disch := omega) only [wr_id, FM, m18, m8]; done)))))
    exact wm_r ⟨rfl, frM_refl _ _ _, k3⟩
  · (repeat (first | (with_reducible apply wm_o; focus (simp (disch := omega) only [wr_id, Int.toNat_natCast, Int.reduceToNat, tn_lk, tn_kl, if_pos, if_neg, ↓reduceIte, and_self, and_true, true_and, FX, FState now_in, g6]; with_reducible rfl)) | (with_reducible apply wm_q) | (with_reducible apply wm_c; focus (first | assumption | decide +kernel)) | (with_reducible apply wm_d; focus (simp (disch := omega) only [wr_id, Int.toNat_natCast, Int.reduceToNat, tn_lk, tn_kl, if_pos, if_neg, ↓reduceIte, and_self, and_true, true_and, FX, FState now_in, g6]; with_reducible rfl)) | (with_reducible apply wm_t; focus (first | omega | (simp (disch := omega) only [wr_id, FX, FState now_in, g6]; omega) | (simp (disch := omega) only [wr_id, FX, FState now_in, g6]; done))) | (with_reducible apply wm_f; focus (first | omega | (simp (disch := omega) only [wr_id, FX, FState now_in, g6]; omega) | (simp (disch := omega) only [wr_id, FX, FState now_in, g6]; done)))))
    refine wm_r (mod I _ (frm_refl _ _) (fun K k1 k2 k3 k4 k5 k6 k7 => ?_))
    have msm := s_stoneMany (t := t) (d := d) (rt := rt) (I := K) (by rw [k1]; exact hv)
    rw [k1] at msm
    unfold f_X12_countX
    (repeat (first | (with_reducible apply wm_o; focus (simp (disch := omega) only [wr_id, Int.toNat_natCast, Int.reduceToNat, tn_lk, tn_kl, if_pos, if_neg, ↓reduceIte, and_self, and_true, true_and, msm]; with_reducible rfl)) | (with_reducible apply wm_q) | (with_reducible apply wm_c; focus (first | assumption | decide +kernel)) | (with_reducible apply wm_d; focus (simp (disch := omega) only [wr_id, Int.toNat_natCast, Int.reduceToNat, tn_lk, tn_kl, if_pos, if_neg, ↓reduceIte, and_self, and_true, true_and, msm]; with_reducible rfl)) | (with_reducible apply wm_t; focus (first | omega | (simp (disch := omega) only [wr_id, msm]; omega) | (simp (disch := omega) only [wr_id, msm]; done))) | (with_reducible apply wm_f; focus (first | omega | (simp (disch := omega) only [wr_id, msm]; omega) | (simp (disch := omega) only [wr_id, msm]; done)))))
    exact wm_r ⟨rfl, frM_refl _ _ _, k3⟩
  · (repeat (first | (with_reducible apply wm_o; focus (simp (disch := omega) only [wr_id, Int.toNat_natCast, Int.reduceToNat, tn_lk, tn_kl, if_pos, if_neg, ↓reduceIte, and_self, and_true, true_and, FX, flt]; with_reducible rfl)) | (with_reducible apply wm_q) | (with_reducible apply wm_c; focus (first | assumption | decide +kernel)) | (with_reducible apply wm_d; focus (simp (disch := omega) only [wr_id, Int.toNat_natCast, Int.reduceToNat, tn_lk, tn_kl, if_pos, if_neg, ↓reduceIte, and_self, and_true, true_and, FX, flt]; with_reducible rfl)) | (with_reducible apply wm_t; focus (first | omega | (simp (disch := omega) only [wr_id, FX, flt]; omega) | (simp (disch := omega) only [wr_id, FX, flt]; done))) | (with_reducible apply wm_f; focus (first | omega | (simp (disch := omega) only [wr_id, FX, flt]; omega) | (simp (disch := omega) only [wr_id, FX, flt]; done)))))
    refine wm_r (mod I _ (frm_refl _ _) (fun K k1 k2 k3 k4 k5 k6 k7 => ?_))
    unfold f_X12_countX
    (repeat (first | (with_reducible apply wm_o; focus (simp (disch := omega) only [wr_id, Int.toNat_natCast, Int.reduceToNat, tn_lk, tn_kl, if_pos, if_neg, ↓reduceIte, and_self, and_true, true_and]; with_reducible rfl)) | (with_reducible apply wm_q) | (with_reducible apply wm_c; focus (first | assumption | decide +kernel)) | (with_reducible apply wm_d; focus (simp (disch := omega) only [wr_id, Int.toNat_natCast, Int.reduceToNat, tn_lk, tn_kl, if_pos, if_neg, ↓reduceIte, and_self, and_true, true_and]; with_reducible rfl)) | (with_reducible apply wm_t; focus (first | omega | (simp (disch := omega) only [wr_id]; omega) | (simp (disch := omega) only [wr_id]; done))) | (with_reducible apply wm_f; focus (first | omega | (simp (disch := omega) only [wr_id]; omega) | (simp (disch := omega) only [wr_id]; done)))))
    refine wm_lp3 18 (fun i a y J => a = (cntB (fun k => rLies ρ k && decide (ρ (18 + k) = 0)) i : Int) ∧ y = (i : Int) ∧ J = K) ?_ (jfuel_n (by decide)) ⟨rfl, rfl, rfl⟩
    rintro i hi a y J ⟨rfl, rfl, rfl⟩ rec hrec
    refine wm_if (fun cc => ?_) (fun cc => ?_)
    · simp (disch := omega) only [wr_id] at cc
      have hi2 : i < 18 := by omega
      have q := mli J k1 i hi2
      have e18 : ((18 : Int) + (i : Int)) = ((18 + i : Nat) : Int) := by omega
      have e : J 401 (18 + i) = ρ (18 + i) := by rw [k1]
      have hw2 : ρ (18 + i) = 0 ∨ ρ (18 + i) = 1 := (hv i hi2).2
      by_cases z : rLies ρ i = true
      · rw [if_pos z] at q
        rcases hw2 with z2 | z2
        · (repeat (first | (with_reducible apply wm_o; focus (simp (disch := omega) only [wr_id, Int.toNat_natCast, Int.reduceToNat, tn_lk, tn_kl, if_pos, if_neg, ↓reduceIte, and_self, and_true, true_and, q, FM, e18, e, z2]; with_reducible rfl)) | (with_reducible apply wm_q) | (with_reducible apply wm_c; focus (first | assumption | decide +kernel)) | (with_reducible apply wm_d; focus (simp (disch := omega) only [wr_id, Int.toNat_natCast, Int.reduceToNat, tn_lk, tn_kl, if_pos, if_neg, ↓reduceIte, and_self, and_true, true_and, q, FM, e18, e, z2]; with_reducible rfl)) | (with_reducible apply wm_t; focus (first | omega | (simp (disch := omega) only [wr_id, q, FM, e18, e, z2]; omega) | (simp (disch := omega) only [wr_id, q, FM, e18, e, z2]; done))) | (with_reducible apply wm_f; focus (first | omega | (simp (disch := omega) only [wr_id, q, FM, e18, e, z2]; omega) | (simp (disch := omega) only [wr_id, q, FM, e18, e, z2]; done)))))
          refine hrec (i + 1) _ _ _ (by omega) (by omega) ⟨?_, by omega, rfl⟩
          rw [cntB, z, z2]; simp
        · (repeat (first | (with_reducible apply wm_o; focus (simp (disch := omega) only [wr_id, Int.toNat_natCast, Int.reduceToNat, tn_lk, tn_kl, if_pos, if_neg, ↓reduceIte, and_self, and_true, true_and, q, FM, e18, e, z2]; with_reducible rfl)) | (with_reducible apply wm_q) | (with_reducible apply wm_c; focus (first | assumption | decide +kernel)) | (with_reducible apply wm_d; focus (simp (disch := omega) only [wr_id, Int.toNat_natCast, Int.reduceToNat, tn_lk, tn_kl, if_pos, if_neg, ↓reduceIte, and_self, and_true, true_and, q, FM, e18, e, z2]; with_reducible rfl)) | (with_reducible apply wm_t; focus (first | omega | (simp (disch := omega) only [wr_id, q, FM, e18, e, z2]; omega) | (simp (disch := omega) only [wr_id, q, FM, e18, e, z2]; done))) | (with_reducible apply wm_f; focus (first | omega | (simp (disch := omega) only [wr_id, q, FM, e18, e, z2]; omega) | (simp (disch := omega) only [wr_id, q, FM, e18, e, z2]; done)))))
          refine hrec (i + 1) _ _ _ (by omega) (by omega) ⟨?_, by omega, rfl⟩
          rw [cntB, z, z2]; simp
      · rw [if_neg z] at q
        (repeat (first | (with_reducible apply wm_o; focus (simp (disch := omega) only [wr_id, Int.toNat_natCast, Int.reduceToNat, tn_lk, tn_kl, if_pos, if_neg, ↓reduceIte, and_self, and_true, true_and, q]; with_reducible rfl)) | (with_reducible apply wm_q) | (with_reducible apply wm_c; focus (first | assumption | decide +kernel)) | (with_reducible apply wm_d; focus (simp (disch := omega) only [wr_id, Int.toNat_natCast, Int.reduceToNat, tn_lk, tn_kl, if_pos, if_neg, ↓reduceIte, and_self, and_true, true_and, q]; with_reducible rfl)) | (with_reducible apply wm_t; focus (first | omega | (simp (disch := omega) only [wr_id, q]; omega) | (simp (disch := omega) only [wr_id, q]; done))) | (with_reducible apply wm_f; focus (first | omega | (simp (disch := omega) only [wr_id, q]; omega) | (simp (disch := omega) only [wr_id, q]; done)))))
        refine hrec (i + 1) _ _ _ (by omega) (by omega) ⟨?_, by omega, rfl⟩
        rw [cntB, show rLies ρ i = false by simpa using z]; simp
    · simp (disch := omega) only [wr_id] at cc
      obtain rfl : i = 18 := by omega
      exact wm_r ⟨rfl, frM_refl _ _ _, k3⟩
  · (repeat (first | (with_reducible apply wm_o; focus (simp (disch := omega) only [wr_id, Int.toNat_natCast, Int.reduceToNat, tn_lk, tn_kl, if_pos, if_neg, ↓reduceIte, and_self, and_true, true_and, FX, FState now_in, g7]; with_reducible rfl)) | (with_reducible apply wm_q) | (with_reducible apply wm_c; focus (first | assumption | decide +kernel)) | (with_reducible apply wm_d; focus (simp (disch := omega) only [wr_id, Int.toNat_natCast, Int.reduceToNat, tn_lk, tn_kl, if_pos, if_neg, ↓reduceIte, and_self, and_true, true_and, FX, FState now_in, g7]; with_reducible rfl)) | (with_reducible apply wm_t; focus (first | omega | (simp (disch := omega) only [wr_id, FX, FState now_in, g7]; omega) | (simp (disch := omega) only [wr_id, FX, FState now_in, g7]; done))) | (with_reducible apply wm_f; focus (first | omega | (simp (disch := omega) only [wr_id, FX, FState now_in, g7]; omega) | (simp (disch := omega) only [wr_id, FX, FState now_in, g7]; done)))))
    refine wm_r (mod I _ (frm_refl _ _) (fun K k1 k2 k3 k4 k5 k6 k7 => ?_))
    have e : K 401 72 = ρ 72 := by rw [k1]
    unfold f_X12_countX
    (repeat (first | (with_reducible apply wm_o; focus (simp (disch := omega) only [wr_id, Int.toNat_natCast, Int.reduceToNat, tn_lk, tn_kl, if_pos, if_neg, ↓reduceIte, and_self, and_true, true_and, FM, e]; with_reducible rfl)) | (with_reducible apply wm_q) | (with_reducible apply wm_c; focus (first | assumption | decide +kernel)) | (with_reducible apply wm_d; focus (simp (disch := omega) only [wr_id, Int.toNat_natCast, Int.reduceToNat, tn_lk, tn_kl, if_pos, if_neg, ↓reduceIte, and_self, and_true, true_and, FM, e]; with_reducible rfl)) | (with_reducible apply wm_t; focus (first | omega | (simp (disch := omega) only [wr_id, FM, e]; omega) | (simp (disch := omega) only [wr_id, FM, e]; done))) | (with_reducible apply wm_f; focus (first | omega | (simp (disch := omega) only [wr_id, FM, e]; omega) | (simp (disch := omega) only [wr_id, FM, e]; done)))))
    exact wm_r ⟨rfl, frM_refl _ _ _, k3⟩
  · (repeat (first | (with_reducible apply wm_o; focus (simp (disch := omega) only [wr_id, Int.toNat_natCast, Int.reduceToNat, tn_lk, tn_kl, if_pos, if_neg, ↓reduceIte, and_self, and_true, true_and, FX, FState now_in]; with_reducible rfl)) | (with_reducible apply wm_q) | (with_reducible apply wm_c; focus (first | assumption | decide +kernel)) | (with_reducible apply wm_d; focus (simp (disch := omega) only [wr_id, Int.toNat_natCast, Int.reduceToNat, tn_lk, tn_kl, if_pos, if_neg, ↓reduceIte, and_self, and_true, true_and, FX, FState now_in]; with_reducible rfl)) | (with_reducible apply wm_t; focus (first | omega | (simp (disch := omega) only [wr_id, FX, FState now_in]; omega) | (simp (disch := omega) only [wr_id, FX, FState now_in]; done))) | (with_reducible apply wm_f; focus (first | omega | (simp (disch := omega) only [wr_id, FX, FState now_in]; omega) | (simp (disch := omega) only [wr_id, FX, FState now_in]; done)))))
    refine wm_r (mod I _ (frm_refl _ _) (fun K k1 k2 k3 k4 k5 k6 k7 => ?_))
    have e : K 401 73 = ρ 73 := by rw [k1]
    unfold f_X12_countX
    (repeat (first | (with_reducible apply wm_o; focus (simp (disch := omega) only [wr_id, Int.toNat_natCast, Int.reduceToNat, tn_lk, tn_kl, if_pos, if_neg, ↓reduceIte, and_self, and_true, true_and, FM, e]; with_reducible rfl)) | (with_reducible apply wm_q) | (with_reducible apply wm_c; focus (first | assumption | decide +kernel)) | (with_reducible apply wm_d; focus (simp (disch := omega) only [wr_id, Int.toNat_natCast, Int.reduceToNat, tn_lk, tn_kl, if_pos, if_neg, ↓reduceIte, and_self, and_true, true_and, FM, e]; with_reducible rfl)) | (with_reducible apply wm_t; focus (first | omega | (simp (disch := omega) only [wr_id, FM, e]; omega) | (simp (disch := omega) only [wr_id, FM, e]; done))) | (with_reducible apply wm_f; focus (first | omega | (simp (disch := omega) only [wr_id, FM, e]; omega) | (simp (disch := omega) only [wr_id, FM, e]; done)))))
    exact wm_r ⟨g8, frM_refl _ _ _, k3⟩
  · have mfr := fun (K : Nat → Nat → Int) (k1 : K 401 = ρ) (k2 : cfM K lv w h n nh hl sd ifs xs) => m_freeMany (t := t) (d := d) (rt := rt) k2.1 k2.2.1 (by rw [k1]; exact hv)
    by_cases zp : jd_wr ((n : Int) - (nh : Int) - 2 * (rMany ρ : Int)) = 0
    · have qp : f_X11_isPaved 0 (mm t d rt I) = some (1, mm t d rt I) := by
        refine wm_eq ?_
        unfold f_X11_isPaved
        (repeat (first | (with_reducible apply wm_o; focus (simp (disch := omega) only [wr_id, Int.toNat_natCast, Int.reduceToNat, tn_lk, tn_kl, if_pos, if_neg, ↓reduceIte, and_self, and_true, true_and, fre]; with_reducible rfl)) | (with_reducible apply wm_q) | (with_reducible apply wm_c; focus (first | assumption | decide +kernel)) | (with_reducible apply wm_d; focus (simp (disch := omega) only [wr_id, Int.toNat_natCast, Int.reduceToNat, tn_lk, tn_kl, if_pos, if_neg, ↓reduceIte, and_self, and_true, true_and, fre]; with_reducible rfl)) | (with_reducible apply wm_t; focus (first | omega | (simp (disch := omega) only [wr_id, fre]; omega) | (simp (disch := omega) only [wr_id, fre]; done))) | (with_reducible apply wm_f; focus (first | omega | (simp (disch := omega) only [wr_id, fre]; omega) | (simp (disch := omega) only [wr_id, fre]; done)))))
        exact wm_z1 ⟨rfl, rfl⟩
      (repeat (first | (with_reducible apply wm_o; focus (simp (disch := omega) only [wr_id, Int.toNat_natCast, Int.reduceToNat, tn_lk, tn_kl, if_pos, if_neg, ↓reduceIte, and_self, and_true, true_and, FX, qp]; with_reducible rfl)) | (with_reducible apply wm_q) | (with_reducible apply wm_c; focus (first | assumption | decide +kernel)) | (with_reducible apply wm_d; focus (simp (disch := omega) only [wr_id, Int.toNat_natCast, Int.reduceToNat, tn_lk, tn_kl, if_pos, if_neg, ↓reduceIte, and_self, and_true, true_and, FX, qp]; with_reducible rfl)) | (with_reducible apply wm_t; focus (first | omega | (simp (disch := omega) only [wr_id, FX, qp]; omega) | (simp (disch := omega) only [wr_id, FX, qp]; done))) | (with_reducible apply wm_f; focus (first | omega | (simp (disch := omega) only [wr_id, FX, qp]; omega) | (simp (disch := omega) only [wr_id, FX, qp]; done)))))
      refine wm_r (mod I _ (frm_refl _ _) (fun K k1 k2 k3 k4 k5 k6 k7 => ?_))
      have q := mfr K k1 k2
      rw [k1] at q
      unfold f_X12_countX
      (repeat (first | (with_reducible apply wm_o; focus (simp (disch := omega) only [wr_id, Int.toNat_natCast, Int.reduceToNat, tn_lk, tn_kl, if_pos, if_neg, ↓reduceIte, and_self, and_true, true_and, q]; with_reducible rfl)) | (with_reducible apply wm_q) | (with_reducible apply wm_c; focus (first | assumption | decide +kernel)) | (with_reducible apply wm_d; focus (simp (disch := omega) only [wr_id, Int.toNat_natCast, Int.reduceToNat, tn_lk, tn_kl, if_pos, if_neg, ↓reduceIte, and_self, and_true, true_and, q]; with_reducible rfl)) | (with_reducible apply wm_t; focus (first | omega | (simp (disch := omega) only [wr_id, q]; omega) | (simp (disch := omega) only [wr_id, q]; done))) | (with_reducible apply wm_f; focus (first | omega | (simp (disch := omega) only [wr_id, q]; omega) | (simp (disch := omega) only [wr_id, q]; done)))))
      exact wm_r ⟨rfl, frM_refl _ _ _, k3⟩
    · have qp : f_X11_isPaved 0 (mm t d rt I) = some (0, mm t d rt I) := by
        refine wm_eq ?_
        unfold f_X11_isPaved
        (repeat (first | (with_reducible apply wm_o; focus (simp (disch := omega) only [wr_id, Int.toNat_natCast, Int.reduceToNat, tn_lk, tn_kl, if_pos, if_neg, ↓reduceIte, and_self, and_true, true_and, fre]; with_reducible rfl)) | (with_reducible apply wm_q) | (with_reducible apply wm_c; focus (first | assumption | decide +kernel)) | (with_reducible apply wm_d; focus (simp (disch := omega) only [wr_id, Int.toNat_natCast, Int.reduceToNat, tn_lk, tn_kl, if_pos, if_neg, ↓reduceIte, and_self, and_true, true_and, fre]; with_reducible rfl)) | (with_reducible apply wm_t; focus (first | omega | (simp (disch := omega) only [wr_id, fre]; omega) | (simp (disch := omega) only [wr_id, fre]; done))) | (with_reducible apply wm_f; focus (first | omega | (simp (disch := omega) only [wr_id, fre]; omega) | (simp (disch := omega) only [wr_id, fre]; done)))))
        exact wm_z0 ⟨rfl, rfl⟩
      (repeat (first | (with_reducible apply wm_o; focus (simp (disch := omega) only [wr_id, Int.toNat_natCast, Int.reduceToNat, tn_lk, tn_kl, if_pos, if_neg, ↓reduceIte, and_self, and_true, true_and, FX, qp]; with_reducible rfl)) | (with_reducible apply wm_q) | (with_reducible apply wm_c; focus (first | assumption | decide +kernel)) | (with_reducible apply wm_d; focus (simp (disch := omega) only [wr_id, Int.toNat_natCast, Int.reduceToNat, tn_lk, tn_kl, if_pos, if_neg, ↓reduceIte, and_self, and_true, true_and, FX, qp]; with_reducible rfl)) | (with_reducible apply wm_t; focus (first | omega | (simp (disch := omega) only [wr_id, FX, qp]; omega) | (simp (disch := omega) only [wr_id, FX, qp]; done))) | (with_reducible apply wm_f; focus (first | omega | (simp (disch := omega) only [wr_id, FX, qp]; omega) | (simp (disch := omega) only [wr_id, FX, qp]; done)))))
      refine wm_r (mod I _ (frm_refl _ _) (fun K k1 k2 k3 k4 k5 k6 k7 => ?_))
      have q := mfr K k1 k2
      rw [k1] at q
      unfold f_X12_countX
      (repeat (first | (with_reducible apply wm_o; focus (simp (disch := omega) only [wr_id, Int.toNat_natCast, Int.reduceToNat, tn_lk, tn_kl, if_pos, if_neg, ↓reduceIte, and_self, and_true, true_and, q]; with_reducible rfl)) | (with_reducible apply wm_q) | (with_reducible apply wm_c; focus (first | assumption | decide +kernel)) | (with_reducible apply wm_d; focus (simp (disch := omega) only [wr_id, Int.toNat_natCast, Int.reduceToNat, tn_lk, tn_kl, if_pos, if_neg, ↓reduceIte, and_self, and_true, true_and, q]; with_reducible rfl)) | (with_reducible apply wm_t; focus (first | omega | (simp (disch := omega) only [wr_id, q]; omega) | (simp (disch := omega) only [wr_id, q]; done))) | (with_reducible apply wm_f; focus (first | omega | (simp (disch := omega) only [wr_id, q]; omega) | (simp (disch := omega) only [wr_id, q]; done)))))
      exact wm_r ⟨rfl, frM_refl _ _ _, k3⟩
  · (repeat (first | (with_reducible apply wm_o; focus (simp (disch := omega) only [wr_id, Int.toNat_natCast, Int.reduceToNat, tn_lk, tn_kl, if_pos, if_neg, ↓reduceIte, and_self, and_true, true_and, FX, FTape, p2]; with_reducible rfl)) | (with_reducible apply wm_q) | (with_reducible apply wm_c; focus (first | assumption | decide +kernel)) | (with_reducible apply wm_d; focus (simp (disch := omega) only [wr_id, Int.toNat_natCast, Int.reduceToNat, tn_lk, tn_kl, if_pos, if_neg, ↓reduceIte, and_self, and_true, true_and, FX, FTape, p2]; with_reducible rfl)) | (with_reducible apply wm_t; focus (first | omega | (simp (disch := omega) only [wr_id, FX, FTape, p2]; omega) | (simp (disch := omega) only [wr_id, FX, FTape, p2]; done))) | (with_reducible apply wm_f; focus (first | omega | (simp (disch := omega) only [wr_id, FX, FTape, p2]; omega) | (simp (disch := omega) only [wr_id, FX, FTape, p2]; done)))))
    refine wm_r (mod I _ (frm_refl _ _) (fun K k1 k2 k3 k4 k5 k6 k7 => ?_))
    unfold f_X12_countX
    (repeat (first | (with_reducible apply wm_o; focus (simp (disch := omega) only [wr_id, Int.toNat_natCast, Int.reduceToNat, tn_lk, tn_kl, if_pos, if_neg, ↓reduceIte, and_self, and_true, true_and, FM, k4]; with_reducible rfl)) | (with_reducible apply wm_q) | (with_reducible apply wm_c; focus (first | assumption | decide +kernel)) | (with_reducible apply wm_d; focus (simp (disch := omega) only [wr_id, Int.toNat_natCast, Int.reduceToNat, tn_lk, tn_kl, if_pos, if_neg, ↓reduceIte, and_self, and_true, true_and, FM, k4]; with_reducible rfl)) | (with_reducible apply wm_t; focus (first | omega | (simp (disch := omega) only [wr_id, FM, k4]; omega) | (simp (disch := omega) only [wr_id, FM, k4]; done))) | (with_reducible apply wm_f; focus (first | omega | (simp (disch := omega) only [wr_id, FM, k4]; omega) | (simp (disch := omega) only [wr_id, FM, k4]; done)))))
    exact wm_r ⟨rfl, frM_refl _ _ _, k3⟩
  · (repeat (first | (with_reducible apply wm_o; focus (simp (disch := omega) only [wr_id, Int.toNat_natCast, Int.reduceToNat, tn_lk, tn_kl, if_pos, if_neg, ↓reduceIte, and_self, and_true, true_and, FX, FKept, u46]; with_reducible rfl)) | (with_reducible apply wm_q) | (with_reducible apply wm_c; focus (first | assumption | decide +kernel)) | (with_reducible apply wm_d; focus (simp (disch := omega) only [wr_id, Int.toNat_natCast, Int.reduceToNat, tn_lk, tn_kl, if_pos, if_neg, ↓reduceIte, and_self, and_true, true_and, FX, FKept, u46]; with_reducible rfl)) | (with_reducible apply wm_t; focus (first | omega | (simp (disch := omega) only [wr_id, FX, FKept, u46]; omega) | (simp (disch := omega) only [wr_id, FX, FKept, u46]; done))) | (with_reducible apply wm_f; focus (first | omega | (simp (disch := omega) only [wr_id, FX, FKept, u46]; omega) | (simp (disch := omega) only [wr_id, FX, FKept, u46]; done)))))
    refine wm_r (mod I _ (frm_refl _ _) (fun K k1 k2 k3 k4 k5 k6 k7 => ?_))
    unfold f_X12_countX
    (repeat (first | (with_reducible apply wm_o; focus (simp (disch := omega) only [wr_id, Int.toNat_natCast, Int.reduceToNat, tn_lk, tn_kl, if_pos, if_neg, ↓reduceIte, and_self, and_true, true_and, FM, k5]; with_reducible rfl)) | (with_reducible apply wm_q) | (with_reducible apply wm_c; focus (first | assumption | decide +kernel)) | (with_reducible apply wm_d; focus (simp (disch := omega) only [wr_id, Int.toNat_natCast, Int.reduceToNat, tn_lk, tn_kl, if_pos, if_neg, ↓reduceIte, and_self, and_true, true_and, FM, k5]; with_reducible rfl)) | (with_reducible apply wm_t; focus (first | omega | (simp (disch := omega) only [wr_id, FM, k5]; omega) | (simp (disch := omega) only [wr_id, FM, k5]; done))) | (with_reducible apply wm_f; focus (first | omega | (simp (disch := omega) only [wr_id, FM, k5]; omega) | (simp (disch := omega) only [wr_id, FM, k5]; done)))))
    exact wm_r ⟨rfl, frM_refl _ _ _, k3⟩
  · (repeat (first | (with_reducible apply wm_o; focus (simp (disch := omega) only [wr_id, Int.toNat_natCast, Int.reduceToNat, tn_lk, tn_kl, if_pos, if_neg, ↓reduceIte, and_self, and_true, true_and, FX, FTold, q2]; with_reducible rfl)) | (with_reducible apply wm_q) | (with_reducible apply wm_c; focus (first | assumption | decide +kernel)) | (with_reducible apply wm_d; focus (simp (disch := omega) only [wr_id, Int.toNat_natCast, Int.reduceToNat, tn_lk, tn_kl, if_pos, if_neg, ↓reduceIte, and_self, and_true, true_and, FX, FTold, q2]; with_reducible rfl)) | (with_reducible apply wm_t; focus (first | omega | (simp (disch := omega) only [wr_id, FX, FTold, q2]; omega) | (simp (disch := omega) only [wr_id, FX, FTold, q2]; done))) | (with_reducible apply wm_f; focus (first | omega | (simp (disch := omega) only [wr_id, FX, FTold, q2]; omega) | (simp (disch := omega) only [wr_id, FX, FTold, q2]; done)))))
    refine wm_r (mod I _ (frm_refl _ _) (fun K k1 k2 k3 k4 k5 k6 k7 => ?_))
    unfold f_X12_countX
    (repeat (first | (with_reducible apply wm_o; focus (simp (disch := omega) only [wr_id, Int.toNat_natCast, Int.reduceToNat, tn_lk, tn_kl, if_pos, if_neg, ↓reduceIte, and_self, and_true, true_and, FM, k6]; with_reducible rfl)) | (with_reducible apply wm_q) | (with_reducible apply wm_c; focus (first | assumption | decide +kernel)) | (with_reducible apply wm_d; focus (simp (disch := omega) only [wr_id, Int.toNat_natCast, Int.reduceToNat, tn_lk, tn_kl, if_pos, if_neg, ↓reduceIte, and_self, and_true, true_and, FM, k6]; with_reducible rfl)) | (with_reducible apply wm_t; focus (first | omega | (simp (disch := omega) only [wr_id, FM, k6]; omega) | (simp (disch := omega) only [wr_id, FM, k6]; done))) | (with_reducible apply wm_f; focus (first | omega | (simp (disch := omega) only [wr_id, FM, k6]; omega) | (simp (disch := omega) only [wr_id, FM, k6]; done)))))
    exact wm_r ⟨rfl, frM_refl _ _ _, k3⟩
  · (repeat (first | (with_reducible apply wm_o; focus (simp (disch := omega) only [wr_id, Int.toNat_natCast, Int.reduceToNat, tn_lk, tn_kl, if_pos, if_neg, ↓reduceIte, and_self, and_true, true_and, FX, slu]; with_reducible rfl)) | (with_reducible apply wm_q) | (with_reducible apply wm_c; focus (first | assumption | decide +kernel)) | (with_reducible apply wm_d; focus (simp (disch := omega) only [wr_id, Int.toNat_natCast, Int.reduceToNat, tn_lk, tn_kl, if_pos, if_neg, ↓reduceIte, and_self, and_true, true_and, FX, slu]; with_reducible rfl)) | (with_reducible apply wm_t; focus (first | omega | (simp (disch := omega) only [wr_id, FX, slu]; omega) | (simp (disch := omega) only [wr_id, FX, slu]; done))) | (with_reducible apply wm_f; focus (first | omega | (simp (disch := omega) only [wr_id, FX, slu]; omega) | (simp (disch := omega) only [wr_id, FX, slu]; done)))))
    refine wm_r (mod I _ (frm_refl _ _) (fun K k1 k2 k3 k4 k5 k6 k7 => ?_))
    have a0 := (s6 0 (by decide)).1
    have a1 := (s6 1 (by decide)).1
    have a2 := (s6 2 (by decide)).1
    have b0 := k7 0 (by decide)
    have b1 := k7 1 (by decide)
    have b2 := k7 2 (by decide)
    unfold f_X12_countX
    rw [a0, a1, a2]
    cases e0 : hd 0 <;> cases e1 : hd 1 <;> cases e2 : hd 2 <;> simp only [e0, e1, e2, Bool.false_eq_true, ↓reduceIte] at b0 b1 b2 ⊢ <;> (repeat (first | (with_reducible apply wm_o; focus (simp (disch := omega) only [wr_id, Int.toNat_natCast, Int.reduceToNat, tn_lk, tn_kl, if_pos, if_neg, ↓reduceIte, and_self, and_true, true_and, FM, b0, b1, b2]; with_reducible rfl)) | (with_reducible apply wm_q) | (with_reducible apply wm_c; focus (first | assumption | decide +kernel)) | (with_reducible apply wm_d; focus (simp (disch := omega) only [wr_id, Int.toNat_natCast, Int.reduceToNat, tn_lk, tn_kl, if_pos, if_neg, ↓reduceIte, and_self, and_true, true_and, FM, b0, b1, b2]; with_reducible rfl)) | (with_reducible apply wm_t; focus (first | omega | (simp (disch := omega) only [wr_id, FM, b0, b1, b2]; omega) | (simp (disch := omega) only [wr_id, FM, b0, b1, b2]; done))) | (with_reducible apply wm_f; focus (first | omega | (simp (disch := omega) only [wr_id, FM, b0, b1, b2]; omega) | (simp (disch := omega) only [wr_id, FM, b0, b1, b2]; done))))) <;> exact wm_r ⟨rfl, frM_refl _ _ _, k3⟩
  · (repeat (first | (with_reducible apply wm_o; focus (simp (disch := omega) only [wr_id, Int.toNat_natCast, Int.reduceToNat, tn_lk, tn_kl, if_pos, if_neg, ↓reduceIte, and_self, and_true, true_and, FX, FState now_in, g9]; with_reducible rfl)) | (with_reducible apply wm_q) | (with_reducible apply wm_c; focus (first | assumption | decide +kernel)) | (with_reducible apply wm_d; focus (simp (disch := omega) only [wr_id, Int.toNat_natCast, Int.reduceToNat, tn_lk, tn_kl, if_pos, if_neg, ↓reduceIte, and_self, and_true, true_and, FX, FState now_in, g9]; with_reducible rfl)) | (with_reducible apply wm_t; focus (first | omega | (simp (disch := omega) only [wr_id, FX, FState now_in, g9]; omega) | (simp (disch := omega) only [wr_id, FX, FState now_in, g9]; done))) | (with_reducible apply wm_f; focus (first | omega | (simp (disch := omega) only [wr_id, FX, FState now_in, g9]; omega) | (simp (disch := omega) only [wr_id, FX, FState now_in, g9]; done)))))
    refine wm_r (mod I _ (frm_refl _ _) (fun K k1 k2 k3 k4 k5 k6 k7 => ?_))
    have e : K 401 74 = ρ 74 := by rw [k1]
    unfold f_X12_countX
    (repeat (first | (with_reducible apply wm_o; focus (simp (disch := omega) only [wr_id, Int.toNat_natCast, Int.reduceToNat, tn_lk, tn_kl, if_pos, if_neg, ↓reduceIte, and_self, and_true, true_and, FM, e]; with_reducible rfl)) | (with_reducible apply wm_q) | (with_reducible apply wm_c; focus (first | assumption | decide +kernel)) | (with_reducible apply wm_d; focus (simp (disch := omega) only [wr_id, Int.toNat_natCast, Int.reduceToNat, tn_lk, tn_kl, if_pos, if_neg, ↓reduceIte, and_self, and_true, true_and, FM, e]; with_reducible rfl)) | (with_reducible apply wm_t; focus (first | omega | (simp (disch := omega) only [wr_id, FM, e]; omega) | (simp (disch := omega) only [wr_id, FM, e]; done))) | (with_reducible apply wm_f; focus (first | omega | (simp (disch := omega) only [wr_id, FM, e]; omega) | (simp (disch := omega) only [wr_id, FM, e]; done)))))
    exact wm_r ⟨rfl, frM_refl _ _ _, k3⟩
  · (repeat (first | (with_reducible apply wm_o; focus (simp (disch := omega) only [wr_id, Int.toNat_natCast, Int.reduceToNat, tn_lk, tn_kl, if_pos, if_neg, ↓reduceIte, and_self, and_true, true_and, FX, bts]; with_reducible rfl)) | (with_reducible apply wm_q) | (with_reducible apply wm_c; focus (first | assumption | decide +kernel)) | (with_reducible apply wm_d; focus (simp (disch := omega) only [wr_id, Int.toNat_natCast, Int.reduceToNat, tn_lk, tn_kl, if_pos, if_neg, ↓reduceIte, and_self, and_true, true_and, FX, bts]; with_reducible rfl)) | (with_reducible apply wm_t; focus (first | omega | (simp (disch := omega) only [wr_id, FX, bts]; omega) | (simp (disch := omega) only [wr_id, FX, bts]; done))) | (with_reducible apply wm_f; focus (first | omega | (simp (disch := omega) only [wr_id, FX, bts]; omega) | (simp (disch := omega) only [wr_id, FX, bts]; done)))))
    refine wm_r (mod I _ (frm_refl _ _) (fun K k1 k2 k3 k4 k5 k6 k7 => ?_))
    unfold f_X12_countX
    (repeat (first | (with_reducible apply wm_o; focus (simp (disch := omega) only [wr_id, Int.toNat_natCast, Int.reduceToNat, tn_lk, tn_kl, if_pos, if_neg, ↓reduceIte, and_self, and_true, true_and]; with_reducible rfl)) | (with_reducible apply wm_q) | (with_reducible apply wm_c; focus (first | assumption | decide +kernel)) | (with_reducible apply wm_d; focus (simp (disch := omega) only [wr_id, Int.toNat_natCast, Int.reduceToNat, tn_lk, tn_kl, if_pos, if_neg, ↓reduceIte, and_self, and_true, true_and]; with_reducible rfl)) | (with_reducible apply wm_t; focus (first | omega | (simp (disch := omega) only [wr_id]; omega) | (simp (disch := omega) only [wr_id]; done))) | (with_reducible apply wm_f; focus (first | omega | (simp (disch := omega) only [wr_id]; omega) | (simp (disch := omega) only [wr_id]; done)))))
    refine wm_lp3 18 (fun i a y J => a = bitF (rLies ρ) i ∧ y = (i : Int) ∧ J = K) ?_ (jfuel_n (by decide)) ⟨rfl, rfl, rfl⟩
    rintro i hi a y J ⟨rfl, rfl, rfl⟩ rec hrec
    refine wm_if (fun cc => ?_) (fun cc => ?_)
    · simp (disch := omega) only [wr_id] at cc
      have hi2 : i < 18 := by omega
      have q := mli J k1 i hi2
      by_cases z : rLies ρ i = true
      · rw [if_pos z] at q
        (repeat (first | (with_reducible apply wm_o; focus (simp (disch := omega) only [wr_id, Int.toNat_natCast, Int.reduceToNat, tn_lk, tn_kl, if_pos, if_neg, ↓reduceIte, and_self, and_true, true_and, q]; with_reducible rfl)) | (with_reducible apply wm_q) | (with_reducible apply wm_c; focus (first | assumption | decide +kernel)) | (with_reducible apply wm_d; focus (simp (disch := omega) only [wr_id, Int.toNat_natCast, Int.reduceToNat, tn_lk, tn_kl, if_pos, if_neg, ↓reduceIte, and_self, and_true, true_and, q]; with_reducible rfl)) | (with_reducible apply wm_t; focus (first | omega | (simp (disch := omega) only [wr_id, q]; omega) | (simp (disch := omega) only [wr_id, q]; done))) | (with_reducible apply wm_f; focus (first | omega | (simp (disch := omega) only [wr_id, q]; omega) | (simp (disch := omega) only [wr_id, q]; done)))))
        refine hrec (i + 1) _ _ _ (by omega) (by omega) ⟨?_, by omega, rfl⟩
        rw [bitF, if_pos z]
      · rw [if_neg z] at q
        (repeat (first | (with_reducible apply wm_o; focus (simp (disch := omega) only [wr_id, Int.toNat_natCast, Int.reduceToNat, tn_lk, tn_kl, if_pos, if_neg, ↓reduceIte, and_self, and_true, true_and, q]; with_reducible rfl)) | (with_reducible apply wm_q) | (with_reducible apply wm_c; focus (first | assumption | decide +kernel)) | (with_reducible apply wm_d; focus (simp (disch := omega) only [wr_id, Int.toNat_natCast, Int.reduceToNat, tn_lk, tn_kl, if_pos, if_neg, ↓reduceIte, and_self, and_true, true_and, q]; with_reducible rfl)) | (with_reducible apply wm_t; focus (first | omega | (simp (disch := omega) only [wr_id, q]; omega) | (simp (disch := omega) only [wr_id, q]; done))) | (with_reducible apply wm_f; focus (first | omega | (simp (disch := omega) only [wr_id, q]; omega) | (simp (disch := omega) only [wr_id, q]; done)))))
        refine hrec (i + 1) _ _ _ (by omega) (by omega) ⟨?_, by omega, rfl⟩
        rw [bitF, if_neg z]
    · simp (disch := omega) only [wr_id] at cc
      obtain rfl : i = 18 := by omega
      exact wm_r ⟨rfl, frM_refl _ _ _, k3⟩
  · (repeat (first | (with_reducible apply wm_o; focus (simp (disch := omega) only [wr_id, Int.toNat_natCast, Int.reduceToNat, tn_lk, tn_kl, if_pos, if_neg, ↓reduceIte, and_self, and_true, true_and, FX, fre]; with_reducible rfl)) | (with_reducible apply wm_q) | (with_reducible apply wm_c; focus (first | assumption | decide +kernel)) | (with_reducible apply wm_d; focus (simp (disch := omega) only [wr_id, Int.toNat_natCast, Int.reduceToNat, tn_lk, tn_kl, if_pos, if_neg, ↓reduceIte, and_self, and_true, true_and, FX, fre]; with_reducible rfl)) | (with_reducible apply wm_t; focus (first | omega | (simp (disch := omega) only [wr_id, FX, fre]; omega) | (simp (disch := omega) only [wr_id, FX, fre]; done))) | (with_reducible apply wm_f; focus (first | omega | (simp (disch := omega) only [wr_id, FX, fre]; omega) | (simp (disch := omega) only [wr_id, FX, fre]; done)))))
    refine wm_r (mod I _ (frm_refl _ _) (fun K k1 k2 k3 k4 k5 k6 k7 => ?_))
    have q := m_freeMany (t := t) (d := d) (rt := rt) k2.1 k2.2.1 (by rw [k1]; exact hv)
    rw [k1] at q
    unfold f_X12_countX
    (repeat (first | (with_reducible apply wm_o; focus (simp (disch := omega) only [wr_id, Int.toNat_natCast, Int.reduceToNat, tn_lk, tn_kl, if_pos, if_neg, ↓reduceIte, and_self, and_true, true_and, q]; with_reducible rfl)) | (with_reducible apply wm_q) | (with_reducible apply wm_c; focus (first | assumption | decide +kernel)) | (with_reducible apply wm_d; focus (simp (disch := omega) only [wr_id, Int.toNat_natCast, Int.reduceToNat, tn_lk, tn_kl, if_pos, if_neg, ↓reduceIte, and_self, and_true, true_and, q]; with_reducible rfl)) | (with_reducible apply wm_t; focus (first | omega | (simp (disch := omega) only [wr_id, q]; omega) | (simp (disch := omega) only [wr_id, q]; done))) | (with_reducible apply wm_f; focus (first | omega | (simp (disch := omega) only [wr_id, q]; omega) | (simp (disch := omega) only [wr_id, q]; done)))))
    exact wm_r ⟨rfl, frM_refl _ _ _, k3⟩
  · (repeat (first | (with_reducible apply wm_o; focus (simp (disch := omega) only [wr_id, Int.toNat_natCast, Int.reduceToNat, tn_lk, tn_kl, if_pos, if_neg, ↓reduceIte, and_self, and_true, true_and]; with_reducible rfl)) | (with_reducible apply wm_q) | (with_reducible apply wm_c; focus (first | assumption | decide +kernel)) | (with_reducible apply wm_d; focus (simp (disch := omega) only [wr_id, Int.toNat_natCast, Int.reduceToNat, tn_lk, tn_kl, if_pos, if_neg, ↓reduceIte, and_self, and_true, true_and]; with_reducible rfl)) | (with_reducible apply wm_t; focus (first | omega | (simp (disch := omega) only [wr_id]; omega) | (simp (disch := omega) only [wr_id]; done))) | (with_reducible apply wm_f; focus (first | omega | (simp (disch := omega) only [wr_id]; omega) | (simp (disch := omega) only [wr_id]; done)))))
    refine wm_b (c_asksAll sq hcf s1 s2) (fun v J hJ => ?_)
    refine wm_r (mod J _ (frm_sub hJ.2 (scr_12 htx)) (fun K k1 k2 k3 k4 k5 k6 k7 => ?_))
    rw [hJ.1]
    unfold f_X12_countX
    (repeat (first | (with_reducible apply wm_o; focus (simp (disch := omega) only [wr_id, Int.toNat_natCast, Int.reduceToNat, tn_lk, tn_kl, if_pos, if_neg, ↓reduceIte, and_self, and_true, true_and]; with_reducible rfl)) | (with_reducible apply wm_q) | (with_reducible apply wm_c; focus (first | assumption | decide +kernel)) | (with_reducible apply wm_d; focus (simp (disch := omega) only [wr_id, Int.toNat_natCast, Int.reduceToNat, tn_lk, tn_kl, if_pos, if_neg, ↓reduceIte, and_self, and_true, true_and]; with_reducible rfl)) | (with_reducible apply wm_t; focus (first | omega | (simp (disch := omega) only [wr_id]; omega) | (simp (disch := omega) only [wr_id]; done))) | (with_reducible apply wm_f; focus (first | omega | (simp (disch := omega) only [wr_id]; omega) | (simp (disch := omega) only [wr_id]; done)))))
    refine wm_lp3 18 (fun i a y L => jd_wr (sumF (rLies ρ) (fun k => LV ifs xs w nh ρ k 0) i) = jd_wr a ∧ y = (i : Int) ∧ frM (fun a => a = 398 ∨ a = 399) (fun j => j = 46) K L) ?_ (jfuel_n (by decide)) ⟨rfl, rfl, frM_refl _ _ _⟩
    rintro i hi a y L ⟨ha, rfl, hL⟩ rec hrec
    have L401 : L 401 = ρ := (hL.1 401 (by decide) (by omega)).trans k1
    refine wm_if (fun cc => ?_) (fun cc => ?_)
    · simp (disch := omega) only [wr_id] at cc
      have hi2 : i < 18 := by omega
      have q := mli L L401 i hi2
      by_cases z : rLies ρ i = true
      · rw [if_pos z] at q
        have z0 : 0 ≤ ρ i := by unfold rLies at z; simpa using z
        have lb := LV_b (ifs := ifs) (xs := xs) (w := w) (nh := nh) (ρ := ρ) (k := i) 0
        (repeat (first | (with_reducible apply wm_o; focus (simp (disch := omega) only [wr_id, Int.toNat_natCast, Int.reduceToNat, tn_lk, tn_kl, if_pos, if_neg, ↓reduceIte, and_self, and_true, true_and, q]; with_reducible rfl)) | (with_reducible apply wm_q) | (with_reducible apply wm_c; focus (first | assumption | decide +kernel)) | (with_reducible apply wm_d; focus (simp (disch := omega) only [wr_id, Int.toNat_natCast, Int.reduceToNat, tn_lk, tn_kl, if_pos, if_neg, ↓reduceIte, and_self, and_true, true_and, q]; with_reducible rfl)) | (with_reducible apply wm_t; focus (first | omega | (simp (disch := omega) only [wr_id, q]; omega) | (simp (disch := omega) only [wr_id, q]; done))) | (with_reducible apply wm_f; focus (first | omega | (simp (disch := omega) only [wr_id, q]; omega) | (simp (disch := omega) only [wr_id, q]; done)))))
        refine wm_b (m_asks (cfM_frm hL (fun a _ _ _ _ _ _ _ _ => by omega) (by omega) k2) s1 L401 hi2 z0) (fun v2 L2 hL2 => ?_)
        refine hrec (i + 1) _ _ _ (by omega) (by omega) ⟨?_, by omega, frM_trans hL hL2.2⟩
        rw [sumF, if_pos z]
        exact wr_add2 ha (by rw [hL2.1, wr_id (by omega) (by omega)])
      · rw [if_neg z] at q
        (repeat (first | (with_reducible apply wm_o; focus (simp (disch := omega) only [wr_id, Int.toNat_natCast, Int.reduceToNat, tn_lk, tn_kl, if_pos, if_neg, ↓reduceIte, and_self, and_true, true_and, q]; with_reducible rfl)) | (with_reducible apply wm_q) | (with_reducible apply wm_c; focus (first | assumption | decide +kernel)) | (with_reducible apply wm_d; focus (simp (disch := omega) only [wr_id, Int.toNat_natCast, Int.reduceToNat, tn_lk, tn_kl, if_pos, if_neg, ↓reduceIte, and_self, and_true, true_and, q]; with_reducible rfl)) | (with_reducible apply wm_t; focus (first | omega | (simp (disch := omega) only [wr_id, q]; omega) | (simp (disch := omega) only [wr_id, q]; done))) | (with_reducible apply wm_f; focus (first | omega | (simp (disch := omega) only [wr_id, q]; omega) | (simp (disch := omega) only [wr_id, q]; done)))))
        refine hrec (i + 1) _ _ _ (by omega) (by omega) ⟨?_, by omega, hL⟩
        rw [sumF, if_neg z]
        exact ha
    · simp (disch := omega) only [wr_id] at cc
      obtain rfl : i = 18 := by omega
      exact wm_r ⟨ha, frM_lw hL, zM_lw k3 hL⟩
  · (repeat (first | (with_reducible apply wm_o; focus (simp (disch := omega) only [wr_id, Int.toNat_natCast, Int.reduceToNat, tn_lk, tn_kl, if_pos, if_neg, ↓reduceIte, and_self, and_true, true_and, FX, tin]; with_reducible rfl)) | (with_reducible apply wm_q) | (with_reducible apply wm_c; focus (first | assumption | decide +kernel)) | (with_reducible apply wm_d; focus (simp (disch := omega) only [wr_id, Int.toNat_natCast, Int.reduceToNat, tn_lk, tn_kl, if_pos, if_neg, ↓reduceIte, and_self, and_true, true_and, FX, tin]; with_reducible rfl)) | (with_reducible apply wm_t; focus (first | omega | (simp (disch := omega) only [wr_id, FX, tin]; omega) | (simp (disch := omega) only [wr_id, FX, tin]; done))) | (with_reducible apply wm_f; focus (first | omega | (simp (disch := omega) only [wr_id, FX, tin]; omega) | (simp (disch := omega) only [wr_id, FX, tin]; done)))))
    refine wm_r (mod I _ (frm_refl _ _) (fun K k1 k2 k3 k4 k5 k6 k7 => ?_))
    unfold f_X12_countX
    (repeat (first | (with_reducible apply wm_o; focus (simp (disch := omega) only [wr_id, Int.toNat_natCast, Int.reduceToNat, tn_lk, tn_kl, if_pos, if_neg, ↓reduceIte, and_self, and_true, true_and]; with_reducible rfl)) | (with_reducible apply wm_q) | (with_reducible apply wm_c; focus (first | assumption | decide +kernel)) | (with_reducible apply wm_d; focus (simp (disch := omega) only [wr_id, Int.toNat_natCast, Int.reduceToNat, tn_lk, tn_kl, if_pos, if_neg, ↓reduceIte, and_self, and_true, true_and]; with_reducible rfl)) | (with_reducible apply wm_t; focus (first | omega | (simp (disch := omega) only [wr_id]; omega) | (simp (disch := omega) only [wr_id]; done))) | (with_reducible apply wm_f; focus (first | omega | (simp (disch := omega) only [wr_id]; omega) | (simp (disch := omega) only [wr_id]; done)))))
    refine wm_lp3 18 (fun i a y J => a = sumF (rLies ρ) (fun k => ρ (36 + k)) i ∧ y = (i : Int) ∧ J = K) ?_ (jfuel_n (by decide)) ⟨rfl, rfl, rfl⟩
    rintro i hi a y J ⟨rfl, rfl, rfl⟩ rec hrec
    refine wm_if (fun cc => ?_) (fun cc => ?_)
    · simp (disch := omega) only [wr_id] at cc
      have hi2 : i < 18 := by omega
      have q := mli J k1 i hi2
      have e36 : ((36 : Int) + (i : Int)) = ((36 + i : Nat) : Int) := by omega
      have e : J 401 (36 + i) = ρ (36 + i) := by rw [k1]
      by_cases z : rLies ρ i = true
      · rw [if_pos z] at q
        (repeat (first | (with_reducible apply wm_o; focus (simp (disch := omega) only [wr_id, Int.toNat_natCast, Int.reduceToNat, tn_lk, tn_kl, if_pos, if_neg, ↓reduceIte, and_self, and_true, true_and, q, FM, e36, e]; with_reducible rfl)) | (with_reducible apply wm_q) | (with_reducible apply wm_c; focus (first | assumption | decide +kernel)) | (with_reducible apply wm_d; focus (simp (disch := omega) only [wr_id, Int.toNat_natCast, Int.reduceToNat, tn_lk, tn_kl, if_pos, if_neg, ↓reduceIte, and_self, and_true, true_and, q, FM, e36, e]; with_reducible rfl)) | (with_reducible apply wm_t; focus (first | omega | (simp (disch := omega) only [wr_id, q, FM, e36, e]; omega) | (simp (disch := omega) only [wr_id, q, FM, e36, e]; done))) | (with_reducible apply wm_f; focus (first | omega | (simp (disch := omega) only [wr_id, q, FM, e36, e]; omega) | (simp (disch := omega) only [wr_id, q, FM, e36, e]; done)))))
        refine hrec (i + 1) _ _ _ (by omega) (by omega) ⟨?_, by omega, rfl⟩
        rw [sumF, if_pos z]
      · rw [if_neg z] at q
        (repeat (first | (with_reducible apply wm_o; focus (simp (disch := omega) only [wr_id, Int.toNat_natCast, Int.reduceToNat, tn_lk, tn_kl, if_pos, if_neg, ↓reduceIte, and_self, and_true, true_and, q]; with_reducible rfl)) | (with_reducible apply wm_q) | (with_reducible apply wm_c; focus (first | assumption | decide +kernel)) | (with_reducible apply wm_d; focus (simp (disch := omega) only [wr_id, Int.toNat_natCast, Int.reduceToNat, tn_lk, tn_kl, if_pos, if_neg, ↓reduceIte, and_self, and_true, true_and, q]; with_reducible rfl)) | (with_reducible apply wm_t; focus (first | omega | (simp (disch := omega) only [wr_id, q]; omega) | (simp (disch := omega) only [wr_id, q]; done))) | (with_reducible apply wm_f; focus (first | omega | (simp (disch := omega) only [wr_id, q]; omega) | (simp (disch := omega) only [wr_id, q]; done)))))
        refine hrec (i + 1) _ _ _ (by omega) (by omega) ⟨?_, by omega, rfl⟩
        rw [sumF, if_neg z]
    · simp (disch := omega) only [wr_id] at cc
      obtain rfl : i = 18 := by omega
      exact wm_r ⟨rfl, frM_refl _ _ _, k3⟩
end PC
