/-! ===== calls: shortBy ===== -/
theorem minL_app (g : Nat → Nat) (m : Nat) (l : List Nat) (p : Nat) : minL g m (l ++ [p]) = min (minL g m l) (g p) := by
  unfold minL
  rw [List.foldl_append]
  rfl
theorem Gs_s {w h : Nat} {cl : Nat → Bool} {y into : Nat} (hy : y < h) : Gs w h cl (h - y) y into = if canR w h cl noB y into then minL (fun o => lone w h cl y into o + Gs w h cl (h - (y + 1)) (y + 1) o) 36 (subs (room w h cl noB y into)) else 0 := by
  rw [show h - y = (h - (y + 1)) + 1 by omega, Gs]
theorem Gs_le {w h : Nat} {cl : Nat → Bool} : ∀ {k y into : Nat}, Gs w h cl k y into ≤ 36
  | 0, y, into => by rw [Gs]; omega
  | k + 1, y, into => by
    rw [Gs]
    split
    · exact (minL_le _ _ _).1
    · omega
theorem Mr_le {w n : Nat} {cl : Nat → Bool} : ∀ {k c m : Nat}, Mr w n cl k c m ≤ k
  | 0, c, m => Nat.le_refl 0
  | k + 1, c, m => by
    have h1 := Mr_le (w := w) (n := n) (cl := cl) (k := k) (c := c + 1) (m := m >>> 1)
    have h2 := Mr_le (w := w) (n := n) (cl := cl) (k := k) (c := c + 1) (m := mA m)
    have h3 := Mr_le (w := w) (n := n) (cl := cl) (k := k) (c := c + 1) (m := mD w m)
    rw [Mr]
    split
    · omega
    · refine Nat.max_le.mpr ⟨Nat.max_le.mpr ⟨by omega, ?_⟩, ?_⟩
      · split <;> omega
      · split <;> omega
theorem Mr_s {w n : Nat} {cl : Nat → Bool} {k c m : Nat} : Mr w n cl (k + 1) c m = if m.testBit 0 || cl c then Mr w n cl k (c + 1) (m >>> 1) else max (max (Mr w n cl k (c + 1) (m >>> 1)) (if aM w cl noB c m then 1 + Mr w n cl k (c + 1) (mA m) else 0)) (if dM w n cl noB c then 1 + Mr w n cl k (c + 1) (mD w m) else 0) := rfl
theorem frN_cnt {U : Nat → Bool} : ∀ {n c : Nat}, frN U n c + cntB (fun x => U (c + x)) n = n
  | 0, c => rfl
  | n + 1, c => by
    have h1 := frN_add (U := U) (j := n) (k := 1) (c := c)
    have h2 := frN_cnt (U := U) (n := n) (c := c)
    rw [h1, cntB, frN, frN]
    cases U (c + n) <;> simp <;> omega
section SB
variable {t d rt : Nat} {I J K : Nat → Nat → Int} {lv w h n nh r : Nat} {hl cl na nd U : Nat → Bool} {sd : Int} {ifs : Nat → List LwI} {xs : Nat → List CI} {ρ : Nat → Int} {u : Nat} {H : Nat → Nat → Int} {hd : Nat → Bool} {G : Nat → Nat → Int}
theorem gd_g : 357 ∈ gdL := by decide
theorem gd_o : 349 ∈ gdL := by decide
theorem be_k : (K0 348).1 = 0 ∧ 348 < 418 := by decide +kernel
theorem j_min {a b : Int} (ha : in32 a) (hb : in32 b) (M : jMem) : f_J9_min_7cf53 a b M = some (min a b, M) := by
  unfold in32 at ha hb
  unfold f_J9_min_7cf53
  by_cases z : a ≤ b
  · rw [wr_id ha.1 ha.2, wr_id hb.1 hb.2, if_pos z, Int.min_eq_left z]
  · rw [wr_id ha.1 ha.2, wr_id hb.1 hb.2, if_neg z, Int.min_eq_right (by omega)]
theorem lone_b (hw6 : w ≤ 6) {y into o : Nat} : lone w h cl y into o < 64 := by
  have : ∀ m, m < 64 → oddR m < 64 := by decide +kernel
  exact this _ (Nat.lt_of_lt_of_le (mkM_lt _ _) (Nat.pow_le_pow_right (by decide) hw6 : 2 ^ w ≤ 2 ^ 6))
theorem s_fewOn (c : rCfg I 324 w h cl na noB) {y into : Nat} (hy : y < h) (hi : into < 2 ^ w) (hT : ∀ m, m < 2 ^ w → I (358 + (y + 1)) m = (Gs w h cl (h - (y + 1)) (y + 1) m : Int)) : f_X0_fewestClosedOn 348 324 (y : Int) (into : Int) (mm t d rt I) = some (((minL (fun o => lone w h cl y into o + Gs w h cl (h - (y + 1)) (y + 1) o) 36 (subs (room w h cl noB y into)) : Nat) : Int), mm t d rt I) := by
  have c5 := c.2.2.2.2.1
  have c7 := c.2.2.2.2.2.2.1
  have hp6 : 2 ^ w ≤ 2 ^ 6 := Nat.pow_le_pow_right (by decide) c5
  have kr := so_k
  have hroom := s_roomBelow (t := t) (d := d) (rt := rt) so_in c (y := y) (into := into) (by omega) (by omega)
  have rl : room w h cl noB y into < 2 ^ w := room_lt
  have g1 := fun (J : Nat → Nat → Int) => g_row (t := t) (d := d) (rt := rt) (I := J) (a := 357) (y := y + 1) (i := (y : Int) + 1) (b := 358 + (y + 1)) gd_g (by omega) (by omega) (by omega)
  have g2 := fun (J : Nat → Nat → Int) (i : Int) => g_ld (t := t) (d := d) (rt := rt) (I := J) (a := 357) (y := y + 1) (b := 358 + (y + 1)) gd_g (by omega) (by omega) i
  generalize hR : room w h cl noB y into = R at *
  generalize hF : (fun o => lone w h cl y into o + Gs w h cl (h - (y + 1)) (y + 1) o) = F at *
  refine wm_eq ?_
  unfold f_X0_fewestClosedOn
  (repeat (first | (with_reducible apply wm_o; focus (simp (disch := omega) only [wr_id, Int.toNat_natCast, Int.reduceToNat, tn_lk, tn_kl, if_pos, if_neg, ↓reduceIte, and_self, and_true, true_and, hroom]; with_reducible rfl)) | (with_reducible apply wm_q) | (with_reducible apply wm_c; focus (first | assumption | decide +kernel)) | (with_reducible apply wm_d; focus (simp (disch := omega) only [wr_id, Int.toNat_natCast, Int.reduceToNat, tn_lk, tn_kl, if_pos, if_neg, ↓reduceIte, and_self, and_true, true_and, hroom]; with_reducible rfl)) | (with_reducible apply wm_t; focus (first | omega | (simp (disch := omega) only [wr_id, hroom]; omega) | (simp (disch := omega) only [wr_id, hroom]; done))) | (with_reducible apply wm_f; focus (first | omega | (simp (disch := omega) only [wr_id, hroom]; omega) | (simp (disch := omega) only [wr_id, hroom]; done)))))
  refine wm_lp4 64 (fun i a p cnt J => J = I ∧ cnt = (i : Int) ∧ ∃ l1 l, subs R = l1 ++ l ∧ l1.length = i ∧ p = hdI l ∧ a = ((minL F 36 l1 : Nat) : Int)) ?_ (jfuel_n (by decide)) ⟨rfl, rfl, [], subs R, rfl, rfl, (hd_subs R (by omega)).symm, rfl⟩
  rintro i hi' a p cnt J ⟨rfl, rfl, l1, l, e, el, rfl, rfl⟩ rec hrec
  cases l with
  | nil =>
    rw [List.append_nil] at e
    (repeat (first | (with_reducible apply wm_o; focus (simp (disch := omega) only [wr_id, Int.toNat_natCast, Int.reduceToNat, tn_lk, tn_kl, if_pos, if_neg, ↓reduceIte, and_self, and_true, true_and, hdI_n]; with_reducible rfl)) | (with_reducible apply wm_q) | (with_reducible apply wm_c; focus (first | assumption | decide +kernel)) | (with_reducible apply wm_d; focus (simp (disch := omega) only [wr_id, Int.toNat_natCast, Int.reduceToNat, tn_lk, tn_kl, if_pos, if_neg, ↓reduceIte, and_self, and_true, true_and, hdI_n]; with_reducible rfl)) | (with_reducible apply wm_t; focus (first | omega | (simp (disch := omega) only [wr_id, hdI_n]; omega) | (simp (disch := omega) only [wr_id, hdI_n]; done))) | (with_reducible apply wm_f; focus (first | omega | (simp (disch := omega) only [wr_id, hdI_n]; omega) | (simp (disch := omega) only [wr_id, hdI_n]; done)))))
    exact wm_r ⟨by rw [e], rfl⟩
  | cons p l =>
    have hp := mem_subs (r := R) (p := p) (by rw [e]; simp)
    have hpw : p < 2 ^ w := sub_lt hp.1 rl
    have hlen : l1.length + 1 ≤ 64 := by
      have := subs_len R
      rw [e] at this
      simp at this
      omega
    have hv := hT p hpw
    have hGl := Gs_le (w := w) (h := h) (cl := cl) (k := h - (y + 1)) (y := y + 1) (into := p)
    have hlo := s_lonely (t := t) (d := d) (rt := rt) so_in c (y := y) (into := into) (o := p) (by omega) (by omega) hp.2
    have hlb := lone_b (w := w) (h := h) (cl := cl) (y := y) (into := into) (o := p) c5
    have hpa := fun (M : jMem) => pa (r := R) (by omega) e M
    have e' : subs R = (l1 ++ [p]) ++ l := by rw [e]; simp
    have hFp : F p = lone w h cl y into p + Gs w h cl (h - (y + 1)) (y + 1) p := by rw [← hF]
    have hml := (minL_le F l1 36).1
    have hap := minL_app F 36 l1 p
    generalize hGp : Gs w h cl (h - (y + 1)) (y + 1) p = gp at *
    generalize hLp : lone w h cl y into p = lp at *
    generalize hmm : minL F 36 l1 = m1 at *
    have hmn := fun (M : jMem) => j_min (a := (m1 : Int)) (b := (lp : Int) + (gp : Int)) (i32 (by omega) (by omega)) (i32 (by omega) (by omega)) M
    (repeat (first | (with_reducible apply wm_o; focus (simp (disch := omega) only [wr_id, Int.toNat_natCast, Int.reduceToNat, tn_lk, tn_kl, if_pos, if_neg, ↓reduceIte, and_self, and_true, true_and, hdI_c, FBest, hlo, g1, g2, hv, hmn, hpa]; with_reducible rfl)) | (with_reducible apply wm_q) | (with_reducible apply wm_c; focus (first | assumption | decide +kernel)) | (with_reducible apply wm_d; focus (simp (disch := omega) only [wr_id, Int.toNat_natCast, Int.reduceToNat, tn_lk, tn_kl, if_pos, if_neg, ↓reduceIte, and_self, and_true, true_and, hdI_c, FBest, hlo, g1, g2, hv, hmn, hpa]; with_reducible rfl)) | (with_reducible apply wm_t; focus (first | omega | (simp (disch := omega) only [wr_id, hdI_c, FBest, hlo, g1, g2, hv, hmn, hpa]; omega) | (simp (disch := omega) only [wr_id, hdI_c, FBest, hlo, g1, g2, hv, hmn, hpa]; done))) | (with_reducible apply wm_f; focus (first | omega | (simp (disch := omega) only [wr_id, hdI_c, FBest, hlo, g1, g2, hv, hmn, hpa]; omega) | (simp (disch := omega) only [wr_id, hdI_c, FBest, hlo, g1, g2, hv, hmn, hpa]; done)))))
    exact hrec (i + 1) _ _ _ _ (by omega) (by omega) ⟨rfl, by omega, l1 ++ [p], l, e', by rw [List.length_append, el]; rfl, rfl, by rw [hap, hFp]; omega⟩
theorem gk_g {y : Nat} (hy : y < 7) : K0 (358 + y) = (20, 64) := (gd_k 357 gd_g).2.2.2.2 y hy |>.2
theorem w_few (c : rCfg I 324 w h cl na noB) : wm t d rt (f_X0_fewestClosed 348 324 (mm t d rt I)) (fun r J => r = (Gs w h cl h 0 0 : Int) ∧ frm (fun a => 358 ≤ a ∧ a ≤ 364) I J) := by
  have c0 := c
  obtain ⟨c1, c2, c3, c4, c5, c6, c7, c8, c9, c10, c11⟩ := c
  have hp6 : 2 ^ w ≤ 2 ^ 6 := Nat.pow_le_pow_right (by decide) c5
  have hp := Nat.two_pow_pos w
  have kr := so_k
  have kb := be_k
  have w0 := wr_0
  have cS : ∀ J : Nat → Nat → Int, frm (fun a => 358 ≤ a ∧ a ≤ 364) I J → rCfg J 324 w h cl na noB := fun J hJ => rCfg_frm (hJ _ (by omega)) (hJ _ (by omega)) (hJ _ (by omega)) (hJ _ (by omega)) (hJ _ (by omega)) c0
  have r1 := fun (J : Nat → Nat → Int) => g_row (t := t) (d := d) (rt := rt) (I := J) (a := 357) (y := h) (i := (h : Int)) (b := 358 + h) gd_g (by omega) (by omega) (by omega)
  have hf := w_fill (t := t) (d := d) (rt := rt) (I := I) (gk_g (y := h) (by omega)) (by omega) (by omega) 0
  have fF : frm (fun a => 358 ≤ a ∧ a ≤ 364) I (fl I (358 + h) 64 (fun _ => 0)) := fun a ha => flne (by omega)
  have j6 := (cS _ fF).2.1
  unfold f_X0_fewestClosed
  (repeat (first | (with_reducible apply wm_o; focus (simp (disch := omega) only [wr_id, Int.toNat_natCast, Int.reduceToNat, tn_lk, tn_kl, if_pos, if_neg, ↓reduceIte, and_self, and_true, true_and, FRows so_in, FBest, c2, r1, hf, j6]; with_reducible rfl)) | (with_reducible apply wm_q) | (with_reducible apply wm_c; focus (first | assumption | decide +kernel)) | (with_reducible apply wm_d; focus (simp (disch := omega) only [wr_id, Int.toNat_natCast, Int.reduceToNat, tn_lk, tn_kl, if_pos, if_neg, ↓reduceIte, and_self, and_true, true_and, FRows so_in, FBest, c2, r1, hf, j6]; with_reducible rfl)) | (with_reducible apply wm_t; focus (first | omega | (simp (disch := omega) only [wr_id, FRows so_in, FBest, c2, r1, hf, j6]; omega) | (simp (disch := omega) only [wr_id, FRows so_in, FBest, c2, r1, hf, j6]; done))) | (with_reducible apply wm_f; focus (first | omega | (simp (disch := omega) only [wr_id, FRows so_in, FBest, c2, r1, hf, j6]; omega) | (simp (disch := omega) only [wr_id, FRows so_in, FBest, c2, r1, hf, j6]; done)))))
  refine wm_lp2 h (fun i y K => y = (h : Int) - 1 - (i : Int) ∧ frm (fun a => 358 ≤ a ∧ a ≤ 364) I K ∧ ∀ y, h - i ≤ y → y ≤ h → ∀ m, m < 2 ^ w → K (358 + y) m = (Gs w h cl (h - y) y m : Int)) ?_ (Nat.lt_of_le_of_lt c7 (jfuel_n (by decide))) ⟨by omega, fF, fun y y1 y2 m hm => ?_⟩
  · rintro i hi y K ⟨rfl, hK, kA⟩ rec hrec
    have cK := cS K hK
    by_cases e : i = h
    · subst e
      have q1 := g_row (t := t) (d := d) (rt := rt) (I := K) (a := 357) (y := 0) (i := 0) (b := 358) gd_g (by omega) (by omega) (by omega)
      have q2 := fun (k : Int) => g_ld (t := t) (d := d) (rt := rt) (I := K) (a := 357) (y := 0) (b := 358) gd_g (by omega) (by omega) k
      have q3 : K 358 0 = _ := kA 0 (by omega) (by omega) 0 hp
      (repeat (first | (with_reducible apply wm_o; focus (simp (disch := omega) only [wr_id, Int.toNat_natCast, Int.reduceToNat, tn_lk, tn_kl, if_pos, if_neg, ↓reduceIte, and_self, and_true, true_and, FBest, q1, q2, q3]; with_reducible rfl)) | (with_reducible apply wm_q) | (with_reducible apply wm_c; focus (first | assumption | decide +kernel)) | (with_reducible apply wm_d; focus (simp (disch := omega) only [wr_id, Int.toNat_natCast, Int.reduceToNat, tn_lk, tn_kl, if_pos, if_neg, ↓reduceIte, and_self, and_true, true_and, FBest, q1, q2, q3]; with_reducible rfl)) | (with_reducible apply wm_t; focus (first | omega | (simp (disch := omega) only [wr_id, FBest, q1, q2, q3]; omega) | (simp (disch := omega) only [wr_id, FBest, q1, q2, q3]; done))) | (with_reducible apply wm_f; focus (first | omega | (simp (disch := omega) only [wr_id, FBest, q1, q2, q3]; omega) | (simp (disch := omega) only [wr_id, FBest, q1, q2, q3]; done)))))
      exact wm_r ⟨by rw [Nat.sub_zero], hK⟩
    · obtain ⟨y, hy⟩ : ∃ y : Nat, y = h - 1 - i := ⟨_, rfl⟩
      have ey : (h : Int) - 1 - (i : Int) = (y : Int) := by omega
      rw [ey]
      have hyh : y < h := by omega
      (repeat (first | (with_reducible apply wm_o; focus (simp (disch := omega) only [wr_id, Int.toNat_natCast, Int.reduceToNat, tn_lk, tn_kl, if_pos, if_neg, ↓reduceIte, and_self, and_true, true_and]; with_reducible rfl)) | (with_reducible apply wm_q) | (with_reducible apply wm_c; focus (first | assumption | decide +kernel)) | (with_reducible apply wm_d; focus (simp (disch := omega) only [wr_id, Int.toNat_natCast, Int.reduceToNat, tn_lk, tn_kl, if_pos, if_neg, ↓reduceIte, and_self, and_true, true_and]; with_reducible rfl)) | (with_reducible apply wm_t; focus (first | omega | (simp (disch := omega) only [wr_id]; omega) | (simp (disch := omega) only [wr_id]; done))) | (with_reducible apply wm_f; focus (first | omega | (simp (disch := omega) only [wr_id]; omega) | (simp (disch := omega) only [wr_id]; done)))))
      have q1 := fun (J : Nat → Nat → Int) => g_row (t := t) (d := d) (rt := rt) (I := J) (a := 357) (y := y) (i := (y : Int)) (b := 358 + y) gd_g (by omega) rfl (by omega)
      have q2 := fun (J : Nat → Nat → Int) (i v : Int) => g_st (t := t) (d := d) (rt := rt) (I := J) (a := 357) (y := y) (b := 358 + y) gd_g (by omega) (by omega) i v
      refine wm_lp2 (2 ^ w) (fun k x L => x = (k : Int) ∧ frm (fun a => a = 358 + y) K L ∧ ∀ m, m < k → L (358 + y) m = (Gs w h cl (h - y) y m : Int)) ?_ (Nat.lt_of_le_of_lt hp6 (jfuel_n (by decide))) ⟨rfl, frm_refl _ _, fun m hm => by omega⟩
      rintro k hk x L ⟨rfl, hL, lA⟩ rec2 hrec2
      have fL : frm (fun a => 358 ≤ a ∧ a ≤ 364) I L := frm_trans hK (frm_sub hL (fun a ha => by omega))
      have cL := cS L fL
      have l7 := cL.2.2.1
      by_cases ek : k = 2 ^ w
      · subst ek
        (repeat (first | (with_reducible apply wm_o; focus (simp (disch := omega) only [wr_id, Int.toNat_natCast, Int.reduceToNat, tn_lk, tn_kl, if_pos, if_neg, ↓reduceIte, and_self, and_true, true_and, FRows so_in, l7]; with_reducible rfl)) | (with_reducible apply wm_q) | (with_reducible apply wm_c; focus (first | assumption | decide +kernel)) | (with_reducible apply wm_d; focus (simp (disch := omega) only [wr_id, Int.toNat_natCast, Int.reduceToNat, tn_lk, tn_kl, if_pos, if_neg, ↓reduceIte, and_self, and_true, true_and, FRows so_in, l7]; with_reducible rfl)) | (with_reducible apply wm_t; focus (first | omega | (simp (disch := omega) only [wr_id, FRows so_in, l7]; omega) | (simp (disch := omega) only [wr_id, FRows so_in, l7]; done))) | (with_reducible apply wm_f; focus (first | omega | (simp (disch := omega) only [wr_id, FRows so_in, l7]; omega) | (simp (disch := omega) only [wr_id, FRows so_in, l7]; done)))))
        refine hrec (i + 1) _ _ (by omega) (by omega) ⟨by omega, fL, fun z z1 z2 m hm => ?_⟩
        by_cases ez : z = y
        · subst ez; exact lA m (by omega)
        · rw [hL _ (by omega)]; exact kA z (by omega) z2 m hm
      · have hcr := s_canReach (t := t) (d := d) (rt := rt) so_in cL (y := y) (into := k) (by omega) (by omega)
        have hws := Gs_s (w := w) (h := h) (cl := cl) (y := y) (into := k) hyh
        by_cases z : canR w h cl noB y k = true
        · rw [if_pos z] at hcr hws
          have hwo := s_fewOn (t := t) (d := d) (rt := rt) cL (y := y) (into := k) hyh (by omega) (fun m hm => by rw [hL _ (by omega)]; exact kA (y + 1) (by omega) (by omega) m hm)
          rw [← hws] at hwo
          (repeat (first | (with_reducible apply wm_o; focus (simp (disch := omega) only [wr_id, Int.toNat_natCast, Int.reduceToNat, tn_lk, tn_kl, if_pos, if_neg, ↓reduceIte, and_self, and_true, true_and, FRows so_in, FBest, l7, q1, q2, hcr, hwo]; with_reducible rfl)) | (with_reducible apply wm_q) | (with_reducible apply wm_c; focus (first | assumption | decide +kernel)) | (with_reducible apply wm_d; focus (simp (disch := omega) only [wr_id, Int.toNat_natCast, Int.reduceToNat, tn_lk, tn_kl, if_pos, if_neg, ↓reduceIte, and_self, and_true, true_and, FRows so_in, FBest, l7, q1, q2, hcr, hwo]; with_reducible rfl)) | (with_reducible apply wm_t; focus (first | omega | (simp (disch := omega) only [wr_id, FRows so_in, FBest, l7, q1, q2, hcr, hwo]; omega) | (simp (disch := omega) only [wr_id, FRows so_in, FBest, l7, q1, q2, hcr, hwo]; done))) | (with_reducible apply wm_f; focus (first | omega | (simp (disch := omega) only [wr_id, FRows so_in, FBest, l7, q1, q2, hcr, hwo]; omega) | (simp (disch := omega) only [wr_id, FRows so_in, FBest, l7, q1, q2, hcr, hwo]; done)))))
          refine hrec2 (k + 1) _ _ (by omega) (by omega) ⟨by omega, frm_up hL rfl, fun m hm => ?_⟩
          rw [up_g]
          by_cases em : m = k
          · rw [if_pos em, em]
          · rw [if_neg em]; exact lA m (by omega)
        · rw [if_neg z] at hcr hws
          (repeat (first | (with_reducible apply wm_o; focus (simp (disch := omega) only [wr_id, Int.toNat_natCast, Int.reduceToNat, tn_lk, tn_kl, if_pos, if_neg, ↓reduceIte, and_self, and_true, true_and, FRows so_in, FBest, l7, q1, q2, hcr, w0]; with_reducible rfl)) | (with_reducible apply wm_q) | (with_reducible apply wm_c; focus (first | assumption | decide +kernel)) | (with_reducible apply wm_d; focus (simp (disch := omega) only [wr_id, Int.toNat_natCast, Int.reduceToNat, tn_lk, tn_kl, if_pos, if_neg, ↓reduceIte, and_self, and_true, true_and, FRows so_in, FBest, l7, q1, q2, hcr, w0]; with_reducible rfl)) | (with_reducible apply wm_t; focus (first | omega | (simp (disch := omega) only [wr_id, FRows so_in, FBest, l7, q1, q2, hcr, w0]; omega) | (simp (disch := omega) only [wr_id, FRows so_in, FBest, l7, q1, q2, hcr, w0]; done))) | (with_reducible apply wm_f; focus (first | omega | (simp (disch := omega) only [wr_id, FRows so_in, FBest, l7, q1, q2, hcr, w0]; omega) | (simp (disch := omega) only [wr_id, FRows so_in, FBest, l7, q1, q2, hcr, w0]; done)))))
          refine hrec2 (k + 1) _ _ (by omega) (by omega) ⟨by omega, frm_up hL rfl, fun m hm => ?_⟩
          rw [up_g]
          by_cases em : m = k
          · rw [if_pos em, em, hws]; rfl
          · rw [if_neg em]; exact lA m (by omega)
  · obtain rfl : y = h := by omega
    rw [fl_in (by omega), Nat.sub_self, Gs]
    rfl
theorem m_mostAt (c : mCfg I lv w h n) (h8 : flg I 408 cl) {x m k : Nat} (hk : n = x + (k + 1)) (hm : m < 64) (hT : ∀ m, m < 64 → I 407 (64 * (x + 1) + m) = (Mr w n cl k (x + 1) m : Int)) : f_X12_mostAt 369 (x : Int) (m : Int) (mm t d rt I) = some (((Mr w n cl (k + 1) x m : Nat) : Int), mm t d rt I) := by
  have hn : n ≤ 36 := c.2.2.2.2.2.2.2.2.2.2
  have hw : 2 ≤ w ∧ w ≤ 6 := ⟨c.2.2.2.2.1, c.2.2.2.2.2.1⟩
  have hr := hr_of (w := w) (h := h) (by omega) c.2.2.2.2.2.2.2.2.1
  have hx : x < n := by omega
  have h0 := s_second0 (t := t) (d := d) (rt := rt) c hx
  have h1 := s_second1 (t := t) (d := d) (rt := rt) c hx
  have hmd := s_maskDown (t := t) (d := d) (rt := rt) c hm
  have e1 := m1_b hm
  have e2 : jd_and (m : Int) 2 = ((m &&& 2 : Nat) : Int) := and_n (b := 2) (by omega) (by omega)
  have t1 := tb_and1 m
  have t2 := tb_and2 hm
  have al : m &&& 1 ≤ m := Nat.and_le_left
  have al2 : m &&& 2 ≤ m := Nat.and_le_left
  have es := shr_1 m (by omega)
  have ea := mA_b hm
  have bR := Mr_le (w := w) (n := n) (cl := cl) (k := k) (c := x + 1) (m := m >>> 1)
  have bA := Mr_le (w := w) (n := n) (cl := cl) (k := k) (c := x + 1) (m := mA m)
  have bD := Mr_le (w := w) (n := n) (cl := cl) (k := k) (c := x + 1) (m := mD w m)
  have lR := shr_lt hm
  have lA := mA_lt hm
  have lD := mD_lt (w := w) hm hw.2 hw.1
  have eR := hT _ lR
  have eA := hT _ lA
  have eD := hT _ lD
  have iR : ((64 : Int) * (x : Int)) + 64 + ((m >>> 1 : Nat) : Int) = ((64 * (x + 1) + m >>> 1 : Nat) : Int) := by omega
  have iA : ((64 : Int) * (x : Int)) + 64 + ((mA m : Nat) : Int) = ((64 * (x + 1) + mA m : Nat) : Int) := by omega
  have iD : ((64 : Int) * (x : Int)) + 64 + ((mD w m : Nat) : Int) = ((64 * (x + 1) + mD w m : Nat) : Int) := by omega
  have iT : ((64 : Int) * (x : Int) + 64).toNat = 64 * (x + 1) := by omega
  have k8 := flg_01 h8 (x := x) (by omega)
  have eM := Mr_s (w := w) (n := n) (cl := cl) (k := k) (c := x) (m := m)
  have adef : aM w cl noB x m = (decide (x % w + 1 < w) && !m.testBit 1 && !cl (x + 1)) := by unfold aM noB; simp
  have ddef : dM w n cl noB x = (decide (x + w < n) && !cl (x + w)) := by unfold dM noB; simp
  generalize Mr w n cl (k + 1) x m = V at *
  generalize Mr w n cl k (x + 1) (m >>> 1) = R at *
  generalize Mr w n cl k (x + 1) (mA m) = A at *
  generalize Mr w n cl k (x + 1) (mD w m) = D at *
  refine wm_eq ?_
  have tail : ∀ b : Nat, b ≤ 36 → V = max b (if dM w n cl noB x then 1 + D else 0) → wm t d rt (jbd (f_X12_secondCell 369 (x : Int) 1 (mm t d rt I)) fun v7 M8 =>
if jd_wr v7 < 0 then (some ((b : Int), M8))
else ((jm_gR 12 57 M8 369).bind fun r9 =>
(jm_ld 22 M8 r9 v7).bind fun v10 =>
if jd_wr v10 = 0 then ((jm_gR 12 56 M8 369).bind fun r11 =>
jcall 12 M8 369 (f_X12_maskDown 369 (m : Int) M8) fun v12 M13 =>
(jm_ld 20 M13 r11 (((64 * (x : Int)) + 64) + v12)).bind fun v14 =>
if jd_wr (1 + v14) ≤ jd_wr (b : Int) then (some ((b : Int), M13))
else (some ((1 + v14), M13)))
else (some ((b : Int), M8)))) (fun v J => v = (V : Int) ∧ J = I) := by
    intro b hb hV
    by_cases z : x + w < n
    · rw [if_pos z] at h1
      have k8' := flg_01 h8 (x := x + w) (by omega)
      by_cases zc : cl (x + w) = true
      · have kc := k8'.1 zc
        rw [ddef, zc, if_neg (by simp)] at hV
        (repeat (first | (with_reducible apply wm_o; focus (simp (disch := omega) only [wr_id, Int.toNat_natCast, Int.reduceToNat, tn_lk, tn_kl, if_pos, if_neg, ↓reduceIte, and_self, and_true, true_and, h1, FM, kc]; with_reducible rfl)) | (with_reducible apply wm_q) | (with_reducible apply wm_c; focus (first | assumption | decide +kernel)) | (with_reducible apply wm_d; focus (simp (disch := omega) only [wr_id, Int.toNat_natCast, Int.reduceToNat, tn_lk, tn_kl, if_pos, if_neg, ↓reduceIte, and_self, and_true, true_and, h1, FM, kc]; with_reducible rfl)) | (with_reducible apply wm_t; focus (first | omega | (simp (disch := omega) only [wr_id, h1, FM, kc]; omega) | (simp (disch := omega) only [wr_id, h1, FM, kc]; done))) | (with_reducible apply wm_f; focus (first | omega | (simp (disch := omega) only [wr_id, h1, FM, kc]; omega) | (simp (disch := omega) only [wr_id, h1, FM, kc]; done)))))
        exact wm_r ⟨by omega, rfl⟩
      · have kc := k8'.2 (by simpa using zc)
        rw [ddef, decide_eq_true z, show cl (x + w) = false by simpa using zc, if_pos (by decide)] at hV
        by_cases zl : 1 + D ≤ b
        · (repeat (first | (with_reducible apply wm_o; focus (simp (disch := omega) only [wr_id, Int.toNat_natCast, Int.reduceToNat, tn_lk, tn_kl, if_pos, if_neg, ↓reduceIte, and_self, and_true, true_and, h1, FM, kc, hmd, iD, eD]; with_reducible rfl)) | (with_reducible apply wm_q) | (with_reducible apply wm_c; focus (first | assumption | decide +kernel)) | (with_reducible apply wm_d; focus (simp (disch := omega) only [wr_id, Int.toNat_natCast, Int.reduceToNat, tn_lk, tn_kl, if_pos, if_neg, ↓reduceIte, and_self, and_true, true_and, h1, FM, kc, hmd, iD, eD]; with_reducible rfl)) | (with_reducible apply wm_t; focus (first | omega | (simp (disch := omega) only [wr_id, h1, FM, kc, hmd, iD, eD]; omega) | (simp (disch := omega) only [wr_id, h1, FM, kc, hmd, iD, eD]; done))) | (with_reducible apply wm_f; focus (first | omega | (simp (disch := omega) only [wr_id, h1, FM, kc, hmd, iD, eD]; omega) | (simp (disch := omega) only [wr_id, h1, FM, kc, hmd, iD, eD]; done)))))
          exact wm_r ⟨by omega, rfl⟩
        · (repeat (first | (with_reducible apply wm_o; focus (simp (disch := omega) only [wr_id, Int.toNat_natCast, Int.reduceToNat, tn_lk, tn_kl, if_pos, if_neg, ↓reduceIte, and_self, and_true, true_and, h1, FM, kc, hmd, iD, eD]; with_reducible rfl)) | (with_reducible apply wm_q) | (with_reducible apply wm_c; focus (first | assumption | decide +kernel)) | (with_reducible apply wm_d; focus (simp (disch := omega) only [wr_id, Int.toNat_natCast, Int.reduceToNat, tn_lk, tn_kl, if_pos, if_neg, ↓reduceIte, and_self, and_true, true_and, h1, FM, kc, hmd, iD, eD]; with_reducible rfl)) | (with_reducible apply wm_t; focus (first | omega | (simp (disch := omega) only [wr_id, h1, FM, kc, hmd, iD, eD]; omega) | (simp (disch := omega) only [wr_id, h1, FM, kc, hmd, iD, eD]; done))) | (with_reducible apply wm_f; focus (first | omega | (simp (disch := omega) only [wr_id, h1, FM, kc, hmd, iD, eD]; omega) | (simp (disch := omega) only [wr_id, h1, FM, kc, hmd, iD, eD]; done)))))
          exact wm_r ⟨by omega, rfl⟩
    · rw [if_neg z] at h1
      rw [ddef, decide_eq_false z, if_neg (by simp)] at hV
      (repeat (first | (with_reducible apply wm_o; focus (simp (disch := omega) only [wr_id, Int.toNat_natCast, Int.reduceToNat, tn_lk, tn_kl, if_pos, if_neg, ↓reduceIte, and_self, and_true, true_and, h1]; with_reducible rfl)) | (with_reducible apply wm_q) | (with_reducible apply wm_c; focus (first | assumption | decide +kernel)) | (with_reducible apply wm_d; focus (simp (disch := omega) only [wr_id, Int.toNat_natCast, Int.reduceToNat, tn_lk, tn_kl, if_pos, if_neg, ↓reduceIte, and_self, and_true, true_and, h1]; with_reducible rfl)) | (with_reducible apply wm_t; focus (first | omega | (simp (disch := omega) only [wr_id, h1]; omega) | (simp (disch := omega) only [wr_id, h1]; done))) | (with_reducible apply wm_f; focus (first | omega | (simp (disch := omega) only [wr_id, h1]; omega) | (simp (disch := omega) only [wr_id, h1]; done)))))
      exact wm_r ⟨by omega, rfl⟩
  unfold f_X12_mostAt
  by_cases z0 : m.testBit 0 = true
  · rw [if_pos (by rw [z0]; rfl)] at eM
    rw [t1.mpr z0] at e1
    (repeat (first | (with_reducible apply wm_o; focus (simp (disch := omega) only [wr_id, Int.toNat_natCast, Int.reduceToNat, tn_lk, tn_kl, if_pos, if_neg, ↓reduceIte, and_self, and_true, true_and, FM, es, iT, eR, e1]; with_reducible rfl)) | (with_reducible apply wm_q) | (with_reducible apply wm_c; focus (first | assumption | decide +kernel)) | (with_reducible apply wm_d; focus (simp (disch := omega) only [wr_id, Int.toNat_natCast, Int.reduceToNat, tn_lk, tn_kl, if_pos, if_neg, ↓reduceIte, and_self, and_true, true_and, FM, es, iT, eR, e1]; with_reducible rfl)) | (with_reducible apply wm_t; focus (first | omega | (simp (disch := omega) only [wr_id, FM, es, iT, eR, e1]; omega) | (simp (disch := omega) only [wr_id, FM, es, iT, eR, e1]; done))) | (with_reducible apply wm_f; focus (first | omega | (simp (disch := omega) only [wr_id, FM, es, iT, eR, e1]; omega) | (simp (disch := omega) only [wr_id, FM, es, iT, eR, e1]; done)))))
    exact wm_r ⟨by rw [eM], rfl⟩
  · have t1' : ¬ m &&& 1 = 1 := fun q => z0 (t1.mp q)
    by_cases zc : cl x = true
    · rw [if_pos (by rw [zc]; simp)] at eM
      have kc := k8.1 zc
      (repeat (first | (with_reducible apply wm_o; focus (simp (disch := omega) only [wr_id, Int.toNat_natCast, Int.reduceToNat, tn_lk, tn_kl, if_pos, if_neg, ↓reduceIte, and_self, and_true, true_and, FM, es, iT, eR, e1, kc]; with_reducible rfl)) | (with_reducible apply wm_q) | (with_reducible apply wm_c; focus (first | assumption | decide +kernel)) | (with_reducible apply wm_d; focus (simp (disch := omega) only [wr_id, Int.toNat_natCast, Int.reduceToNat, tn_lk, tn_kl, if_pos, if_neg, ↓reduceIte, and_self, and_true, true_and, FM, es, iT, eR, e1, kc]; with_reducible rfl)) | (with_reducible apply wm_t; focus (first | omega | (simp (disch := omega) only [wr_id, FM, es, iT, eR, e1, kc]; omega) | (simp (disch := omega) only [wr_id, FM, es, iT, eR, e1, kc]; done))) | (with_reducible apply wm_f; focus (first | omega | (simp (disch := omega) only [wr_id, FM, es, iT, eR, e1, kc]; omega) | (simp (disch := omega) only [wr_id, FM, es, iT, eR, e1, kc]; done)))))
      exact wm_r ⟨by rw [eM], rfl⟩
    · have kc := k8.2 (by simpa using zc)
      rw [show m.testBit 0 = false by simpa using z0, show cl x = false by simpa using zc, if_neg (by decide)] at eM
      by_cases zr : x % w + 1 < w
      · rw [if_pos zr] at h0
        have hx1 := hr x zr hx
        have k8' := flg_01 h8 (x := x + 1) (by omega)
        by_cases zb : m.testBit 1 = false
        · rw [t2.mpr zb] at e2
          by_cases zo : cl (x + 1) = true
          · have kc1 := k8'.1 zo
            rw [adef, zo, if_neg (show ¬ ((decide (x % w + 1 < w) && !m.testBit 1 && !true) = true) by simp)] at eM
            (repeat (first | (with_reducible apply wm_o; focus (simp (disch := omega) only [wr_id, Int.toNat_natCast, Int.reduceToNat, tn_lk, tn_kl, if_pos, if_neg, ↓reduceIte, and_self, and_true, true_and, FM, es, iT, eR, e1, kc, h0, e2, kc1]; with_reducible rfl)) | (with_reducible apply wm_q) | (with_reducible apply wm_c; focus (first | assumption | decide +kernel)) | (with_reducible apply wm_d; focus (simp (disch := omega) only [wr_id, Int.toNat_natCast, Int.reduceToNat, tn_lk, tn_kl, if_pos, if_neg, ↓reduceIte, and_self, and_true, true_and, FM, es, iT, eR, e1, kc, h0, e2, kc1]; with_reducible rfl)) | (with_reducible apply wm_t; focus (first | omega | (simp (disch := omega) only [wr_id, FM, es, iT, eR, e1, kc, h0, e2, kc1]; omega) | (simp (disch := omega) only [wr_id, FM, es, iT, eR, e1, kc, h0, e2, kc1]; done))) | (with_reducible apply wm_f; focus (first | omega | (simp (disch := omega) only [wr_id, FM, es, iT, eR, e1, kc, h0, e2, kc1]; omega) | (simp (disch := omega) only [wr_id, FM, es, iT, eR, e1, kc, h0, e2, kc1]; done)))))
            exact tail R (by omega) (by rw [eM]; congr 1; omega)
          · have kc1 := k8'.2 (by simpa using zo)
            rw [adef, decide_eq_true zr, zb, show cl (x + 1) = false by simpa using zo, if_pos (show ((true && !false && !false) = true) by decide)] at eM
            by_cases zl : 1 + A ≤ R
            · (repeat (first | (with_reducible apply wm_o; focus (simp (disch := omega) only [wr_id, Int.toNat_natCast, Int.reduceToNat, tn_lk, tn_kl, if_pos, if_neg, ↓reduceIte, and_self, and_true, true_and, FM, es, iT, eR, e1, kc, h0, e2, kc1, ea, eA]; with_reducible rfl)) | (with_reducible apply wm_q) | (with_reducible apply wm_c; focus (first | assumption | decide +kernel)) | (with_reducible apply wm_d; focus (simp (disch := omega) only [wr_id, Int.toNat_natCast, Int.reduceToNat, tn_lk, tn_kl, if_pos, if_neg, ↓reduceIte, and_self, and_true, true_and, FM, es, iT, eR, e1, kc, h0, e2, kc1, ea, eA]; with_reducible rfl)) | (with_reducible apply wm_t; focus (first | omega | (simp (disch := omega) only [wr_id, FM, es, iT, eR, e1, kc, h0, e2, kc1, ea, eA]; omega) | (simp (disch := omega) only [wr_id, FM, es, iT, eR, e1, kc, h0, e2, kc1, ea, eA]; done))) | (with_reducible apply wm_f; focus (first | omega | (simp (disch := omega) only [wr_id, FM, es, iT, eR, e1, kc, h0, e2, kc1, ea, eA]; omega) | (simp (disch := omega) only [wr_id, FM, es, iT, eR, e1, kc, h0, e2, kc1, ea, eA]; done)))))
              exact tail R (by omega) (by rw [eM]; congr 1; omega)
            · (repeat (first | (with_reducible apply wm_o; focus (simp (disch := omega) only [wr_id, Int.toNat_natCast, Int.reduceToNat, tn_lk, tn_kl, if_pos, if_neg, ↓reduceIte, and_self, and_true, true_and, FM, es, iT, eR, e1, kc, h0, e2, kc1, ea, eA]; with_reducible rfl)) | (with_reducible apply wm_q) | (with_reducible apply wm_c; focus (first | assumption | decide +kernel)) | (with_reducible apply wm_d; focus (simp (disch := omega) only [wr_id, Int.toNat_natCast, Int.reduceToNat, tn_lk, tn_kl, if_pos, if_neg, ↓reduceIte, and_self, and_true, true_and, FM, es, iT, eR, e1, kc, h0, e2, kc1, ea, eA]; with_reducible rfl)) | (with_reducible apply wm_t; focus (first | omega | (simp (disch := omega) only [wr_id, FM, es, iT, eR, e1, kc, h0, e2, kc1, ea, eA]; omega) | (simp (disch := omega) only [wr_id, FM, es, iT, eR, e1, kc, h0, e2, kc1, ea, eA]; done))) | (with_reducible apply wm_f; focus (first | omega | (simp (disch := omega) only [wr_id, FM, es, iT, eR, e1, kc, h0, e2, kc1, ea, eA]; omega) | (simp (disch := omega) only [wr_id, FM, es, iT, eR, e1, kc, h0, e2, kc1, ea, eA]; done)))))
              have := tail (1 + A) (by omega) (by rw [eM]; congr 1; omega)
              rw [show ((1 + A : Nat) : Int) = 1 + (A : Int) by omega] at this
              exact this
        · have t2' : ¬ m &&& 2 = 0 := fun q => zb (t2.mp q)
          rw [adef, show m.testBit 1 = true by simpa using zb, if_neg (show ¬ ((decide (x % w + 1 < w) && !true && !cl (x + 1)) = true) by simp)] at eM
          (repeat (first | (with_reducible apply wm_o; focus (simp (disch := omega) only [wr_id, Int.toNat_natCast, Int.reduceToNat, tn_lk, tn_kl, if_pos, if_neg, ↓reduceIte, and_self, and_true, true_and, FM, es, iT, eR, e1, kc, h0, e2]; with_reducible rfl)) | (with_reducible apply wm_q) | (with_reducible apply wm_c; focus (first | assumption | decide +kernel)) | (with_reducible apply wm_d; focus (simp (disch := omega) only [wr_id, Int.toNat_natCast, Int.reduceToNat, tn_lk, tn_kl, if_pos, if_neg, ↓reduceIte, and_self, and_true, true_and, FM, es, iT, eR, e1, kc, h0, e2]; with_reducible rfl)) | (with_reducible apply wm_t; focus (first | omega | (simp (disch := omega) only [wr_id, FM, es, iT, eR, e1, kc, h0, e2]; omega) | (simp (disch := omega) only [wr_id, FM, es, iT, eR, e1, kc, h0, e2]; done))) | (with_reducible apply wm_f; focus (first | omega | (simp (disch := omega) only [wr_id, FM, es, iT, eR, e1, kc, h0, e2]; omega) | (simp (disch := omega) only [wr_id, FM, es, iT, eR, e1, kc, h0, e2]; done)))))
          exact tail R (by omega) (by rw [eM]; congr 1; omega)
      · rw [if_neg zr] at h0
        rw [adef, decide_eq_false zr, if_neg (show ¬ ((false && !m.testBit 1 && !cl (x + 1)) = true) by simp)] at eM
        (repeat (first | (with_reducible apply wm_o; focus (simp (disch := omega) only [wr_id, Int.toNat_natCast, Int.reduceToNat, tn_lk, tn_kl, if_pos, if_neg, ↓reduceIte, and_self, and_true, true_and, FM, es, iT, eR, e1, kc, h0]; with_reducible rfl)) | (with_reducible apply wm_q) | (with_reducible apply wm_c; focus (first | assumption | decide +kernel)) | (with_reducible apply wm_d; focus (simp (disch := omega) only [wr_id, Int.toNat_natCast, Int.reduceToNat, tn_lk, tn_kl, if_pos, if_neg, ↓reduceIte, and_self, and_true, true_and, FM, es, iT, eR, e1, kc, h0]; with_reducible rfl)) | (with_reducible apply wm_t; focus (first | omega | (simp (disch := omega) only [wr_id, FM, es, iT, eR, e1, kc, h0]; omega) | (simp (disch := omega) only [wr_id, FM, es, iT, eR, e1, kc, h0]; done))) | (with_reducible apply wm_f; focus (first | omega | (simp (disch := omega) only [wr_id, FM, es, iT, eR, e1, kc, h0]; omega) | (simp (disch := omega) only [wr_id, FM, es, iT, eR, e1, kc, h0]; done)))))
        exact tail R (by omega) (by rw [eM]; congr 1; omega)
theorem P_shortBy (hI : INV t d rt I) : both t d rt (f_X11_shortBy 0 (mm t d rt I)) (fun M => f_X12_shortBy 369 M) := by
  obtain ⟨lv, w, h, n, nh, hl, sd, ifs, xs, hR, ρ, u, H, hd, G, hC, hM⟩ := hI
  have sq := hR.2.1
  have hnw := sq.2.2.2.2.1
  have hn := sq.2.2.2.2.2.2.1
  have hw : 2 ≤ w ∧ w ≤ 6 := ⟨sq.1, sq.2.1⟩
  have hh : 2 ≤ h ∧ h ≤ 6 := ⟨sq.2.2.1, sq.2.2.2.1⟩
  have hv := vRow_of hC.1 hn
  have hr := hr_of (w := w) (h := h) (by omega) hnw
  obtain ⟨U, hU⟩ : ∃ U, U = tkR hl w ρ := ⟨_, rfl⟩
  -- what both come to
  have hG := Gs_eq (w := w) (h := h) (cl := U) (by omega) hw.2 hh.2 (k := h) (y := 0) (into := 0) (by omega) (by unfold canR; rw [if_pos rfl]; rfl)
  rw [Uc_0, Nat.zero_mul, Nat.mul_comm h w, ← hnw] at hG
  have hM0 := Mr_eq (w := w) (n := n) (cl := U) (by omega) hr (k := n) (c := 0) (mask := 0) (by omega) (gM_00 w n)
  rw [Um_00] at hM0
  have hfr : frN U n 0 + (nh + 2 * rMany ρ) = n := by
    have h1 := frN_cnt (U := U) (n := n) (c := 0)
    have h2 := cv_n ⟨sq.1, sq.2.1⟩ hn hnw hC.1
    have h3 := cntB_or (p := hl) (q := cvB w ρ 18) (n := n) (fun c _ h => hole_no hC.1 h)
    have h4 := sq.2.2.2.2.2.2.2.1
    have h5 : cntB (fun x => U (0 + x)) n = cntB (fun c => hl c || cvB w ρ 18 c) n := cntB_ext (fun j _ => by
      rw [hU, Nat.zero_add, cv_cpl]; rfl)
    omega
  unfold both f_X11_shortBy
  (repeat (first | (with_reducible apply wm_o; focus (simp (disch := omega) only [wr_id, Int.toNat_natCast, Int.reduceToNat, tn_lk, tn_kl, if_pos, if_neg, ↓reduceIte, and_self, and_true, true_and]; with_reducible rfl)) | (with_reducible apply wm_q) | (with_reducible apply wm_c; focus (first | assumption | decide +kernel)) | (with_reducible apply wm_d; focus (simp (disch := omega) only [wr_id, Int.toNat_natCast, Int.reduceToNat, tn_lk, tn_kl, if_pos, if_neg, ↓reduceIte, and_self, and_true, true_and]; with_reducible rfl)) | (with_reducible apply wm_t; focus (first | omega | (simp (disch := omega) only [wr_id]; omega) | (simp (disch := omega) only [wr_id]; done))) | (with_reducible apply wm_f; focus (first | omega | (simp (disch := omega) only [wr_id]; omega) | (simp (disch := omega) only [wr_id]; done)))))
  refine wm_b (c_closeAll sq hR.2.2.1 hC.1 hC.2.1 hR.2.2.2.2.2.2.2.1.2.2) (fun v J hJ => ?_)
  obtain ⟨j1, j2⟩ := hJ
  rw [← hU] at j2
  (repeat (first | (with_reducible apply wm_o; focus (simp (disch := omega) only [wr_id, Int.toNat_natCast, Int.reduceToNat, tn_lk, tn_kl, if_pos, if_neg, ↓reduceIte, and_self, and_true, true_and, FX]; with_reducible rfl)) | (with_reducible apply wm_q) | (with_reducible apply wm_c; focus (first | assumption | decide +kernel)) | (with_reducible apply wm_d; focus (simp (disch := omega) only [wr_id, Int.toNat_natCast, Int.reduceToNat, tn_lk, tn_kl, if_pos, if_neg, ↓reduceIte, and_self, and_true, true_and, FX]; with_reducible rfl)) | (with_reducible apply wm_t; focus (first | omega | (simp (disch := omega) only [wr_id, FX]; omega) | (simp (disch := omega) only [wr_id, FX]; done))) | (with_reducible apply wm_f; focus (first | omega | (simp (disch := omega) only [wr_id, FX]; omega) | (simp (disch := omega) only [wr_id, FX]; done)))))
  refine wm_b (w_few j2) (fun v2 J2 hJ2 => ?_)
  obtain ⟨rfl, q1⟩ := hJ2
  refine wm_r ?_
  have jC : frm scrC I J2 := frm_trans (frm_sub j1 (fun a ha => by unfold scrC; omega)) (frm_sub q1 (fun a ha => by unfold scrC; omega))
  have jS : frm (fun a => scrC a ∨ stS a) I J2 := frm_sub jC (fun a ha => Or.inl ha)
  have hRJ := REST_c jS hR
  have hMJ := stM_c jS hM
  show wm t d rt (f_X12_shortBy 369 (mm t d rt J2)) _
  unfold f_X12_shortBy
  (repeat (first | (with_reducible apply wm_o; focus (simp (disch := omega) only [wr_id, Int.toNat_natCast, Int.reduceToNat, tn_lk, tn_kl, if_pos, if_neg, ↓reduceIte, and_self, and_true, true_and]; with_reducible rfl)) | (with_reducible apply wm_q) | (with_reducible apply wm_c; focus (first | assumption | decide +kernel)) | (with_reducible apply wm_d; focus (simp (disch := omega) only [wr_id, Int.toNat_natCast, Int.reduceToNat, tn_lk, tn_kl, if_pos, if_neg, ↓reduceIte, and_self, and_true, true_and]; with_reducible rfl)) | (with_reducible apply wm_t; focus (first | omega | (simp (disch := omega) only [wr_id]; omega) | (simp (disch := omega) only [wr_id]; done))) | (with_reducible apply wm_f; focus (first | omega | (simp (disch := omega) only [wr_id]; omega) | (simp (disch := omega) only [wr_id]; done)))))
  refine wm_b (m_cop hRJ.2.2.2.1 hRJ.2.2.2.2.2.2.2.2.2 hMJ.1 hMJ.2.1) (fun v' K hK => ?_)
  obtain ⟨k1, k2, k3, k4, k5⟩ := hK
  (repeat (first | (with_reducible apply wm_o; focus (simp (disch := omega) only [wr_id, Int.toNat_natCast, Int.reduceToNat, tn_lk, tn_kl, if_pos, if_neg, ↓reduceIte, and_self, and_true, true_and]; with_reducible rfl)) | (with_reducible apply wm_q) | (with_reducible apply wm_c; focus (first | assumption | decide +kernel)) | (with_reducible apply wm_d; focus (simp (disch := omega) only [wr_id, Int.toNat_natCast, Int.reduceToNat, tn_lk, tn_kl, if_pos, if_neg, ↓reduceIte, and_self, and_true, true_and]; with_reducible rfl)) | (with_reducible apply wm_t; focus (first | omega | (simp (disch := omega) only [wr_id]; omega) | (simp (disch := omega) only [wr_id]; done))) | (with_reducible apply wm_f; focus (first | omega | (simp (disch := omega) only [wr_id]; omega) | (simp (disch := omega) only [wr_id]; done)))))
  refine wm_b (m_closesTaken k3 hv k4) (fun v3 L hL => ?_)
  obtain ⟨l1, l2⟩ := hL
  rw [← hU] at l2
  have cL := cfM_frm l1 (fun a _ _ _ _ _ _ _ _ => by omega) (fun q => q) k3
  have hce := s_cells (t := t) (d := d) (rt := rt) cL.1
  (repeat (first | (with_reducible apply wm_o; focus (simp (disch := omega) only [wr_id, Int.toNat_natCast, Int.reduceToNat, tn_lk, tn_kl, if_pos, if_neg, ↓reduceIte, and_self, and_true, true_and, hce]; with_reducible rfl)) | (with_reducible apply wm_q) | (with_reducible apply wm_c; focus (first | assumption | decide +kernel)) | (with_reducible apply wm_d; focus (simp (disch := omega) only [wr_id, Int.toNat_natCast, Int.reduceToNat, tn_lk, tn_kl, if_pos, if_neg, ↓reduceIte, and_self, and_true, true_and, hce]; with_reducible rfl)) | (with_reducible apply wm_t; focus (first | omega | (simp (disch := omega) only [wr_id, hce]; omega) | (simp (disch := omega) only [wr_id, hce]; done))) | (with_reducible apply wm_f; focus (first | omega | (simp (disch := omega) only [wr_id, hce]; omega) | (simp (disch := omega) only [wr_id, hce]; done)))))
  refine wm_lp2 (n + 1) (fun i y N => y = (n : Int) - (i : Int) ∧ frM (fun a => a = 407) (fun _ => False) L N ∧ ∀ c, n < c + i → c ≤ n → ∀ m, m < 64 → N 407 (64 * c + m) = (Mr w n U (n - c) c m : Int)) ?_ (Nat.lt_of_le_of_lt (show n + 1 ≤ 37 by omega) (jfuel_n (by decide))) ⟨by omega, frM_refl _ _ _, fun c h1 h2 => by omega⟩
  rintro i hi y N ⟨rfl, hN, nA⟩ rec hrec
  have fN : frM (fun a => a = 407 ∨ a = 408) (fun _ => False) K N := frM_trans (frM_f l1 (fun a ha => Or.inr ha)) (frM_f hN (fun a ha => Or.inl ha))
  have cN := cfM_frm hN (fun a _ _ _ _ _ _ _ _ => by omega) (fun q => q) cL
  by_cases e : i = n + 1
  · subst e
    have N4 : N 401 = ρ := (fN.1 401 (by decide) (by decide)).trans k4
    have hfm := m_freeMany (t := t) (d := d) (rt := rt) cN.1 cN.2.1 (by rw [N4]; exact hv)
    rw [N4] at hfm
    have e0 : N 407 0 = _ := nA 0 (by omega) (by omega) 0 (by omega)
    rw [Nat.sub_zero, hM0] at e0
    (repeat (first | (with_reducible apply wm_o; focus (simp (disch := omega) only [wr_id, Int.toNat_natCast, Int.reduceToNat, tn_lk, tn_kl, if_pos, if_neg, ↓reduceIte, and_self, and_true, true_and, hfm, FM, e0]; with_reducible rfl)) | (with_reducible apply wm_q) | (with_reducible apply wm_c; focus (first | assumption | decide +kernel)) | (with_reducible apply wm_d; focus (simp (disch := omega) only [wr_id, Int.toNat_natCast, Int.reduceToNat, tn_lk, tn_kl, if_pos, if_neg, ↓reduceIte, and_self, and_true, true_and, hfm, FM, e0]; with_reducible rfl)) | (with_reducible apply wm_t; focus (first | omega | (simp (disch := omega) only [wr_id, hfm, FM, e0]; omega) | (simp (disch := omega) only [wr_id, hfm, FM, e0]; done))) | (with_reducible apply wm_f; focus (first | omega | (simp (disch := omega) only [wr_id, hfm, FM, e0]; omega) | (simp (disch := omega) only [wr_id, hfm, FM, e0]; done)))))
    refine wm_r ⟨?_, INV_q hR hC hM jC (frM_trans k1 (frM_f fN (fun a ha => by unfold scrM; omega))) (zM_fr k2 fN (by decide) (by decide) (by decide))⟩
    congr 1
    omega
  · obtain ⟨c, hc⟩ : ∃ c : Nat, c = n - i := ⟨_, rfl⟩
    have ec : (n : Int) - (i : Int) = (c : Int) := by omega
    rw [ec]
    (repeat (first | (with_reducible apply wm_o; focus (simp (disch := omega) only [wr_id, Int.toNat_natCast, Int.reduceToNat, tn_lk, tn_kl, if_pos, if_neg, ↓reduceIte, and_self, and_true, true_and]; with_reducible rfl)) | (with_reducible apply wm_q) | (with_reducible apply wm_c; focus (first | assumption | decide +kernel)) | (with_reducible apply wm_d; focus (simp (disch := omega) only [wr_id, Int.toNat_natCast, Int.reduceToNat, tn_lk, tn_kl, if_pos, if_neg, ↓reduceIte, and_self, and_true, true_and]; with_reducible rfl)) | (with_reducible apply wm_t; focus (first | omega | (simp (disch := omega) only [wr_id]; omega) | (simp (disch := omega) only [wr_id]; done))) | (with_reducible apply wm_f; focus (first | omega | (simp (disch := omega) only [wr_id]; omega) | (simp (disch := omega) only [wr_id]; done)))))
    refine wm_lp2 64 (fun m y P => y = (m : Int) ∧ frM (fun a => a = 407) (fun _ => False) L P ∧ (∀ c', c < c' → c' ≤ n → ∀ m, m < 64 → P 407 (64 * c' + m) = (Mr w n U (n - c') c' m : Int)) ∧ ∀ m', m' < m → P 407 (64 * c + m') = (Mr w n U (n - c) c m' : Int)) ?_ (jfuel_n (by decide)) ⟨rfl, hN, fun c' h1 h2 => nA c' (by omega) h2, fun m' hm' => by omega⟩
    rintro m hm y P ⟨rfl, hP, pA, pB⟩ rec2 hrec2
    have cP := cfM_frm hP (fun a _ _ _ _ _ _ _ _ => by omega) (fun q => q) cL
    have hceP := s_cells (t := t) (d := d) (rt := rt) cP.1
    have P8 : flg P 408 U := flg_ne (hP.1 408 (by decide) (by decide)) l2
    refine wm_if (fun cc => ?_) (fun cc => ?_)
    · simp (disch := omega) only [wr_id] at cc
      have hm64 : m < 64 := by omega
      have ei : ((64 : Int) * (c : Int)) + (m : Int) = ((64 * c + m : Nat) : Int) := by omega
      have fin : ∀ v : Int, v = (Mr w n U (n - c) c m : Int) → wm t d rt (rec2 ((m : Int) + 1) (mm t d rt (up P 407 (64 * c + m) v))) (fun r' K => jd_wr (Gs w h U h 0 0 : Int) = jd_wr r' ∧ INV t d rt K) := by
        intro v hv'
        refine hrec2 (m + 1) _ _ (by omega) (by omega) ⟨by omega, frM_up hP (by decide) rfl, fun c' h1 h2 m' hm' => ?_, fun m' hm' => ?_⟩
        · rw [up_g, if_neg (by omega)]; exact pA c' h1 h2 m' hm'
        · rw [up_g]
          by_cases em : m' = m
          · rw [if_pos (by omega), em, hv']
          · rw [if_neg (by omega)]; exact pB m' (by omega)
      by_cases ecn : c = n
      · subst ecn
        (repeat (first | (with_reducible apply wm_o; focus (simp (disch := omega) only [wr_id, Int.toNat_natCast, Int.reduceToNat, tn_lk, tn_kl, if_pos, if_neg, ↓reduceIte, and_self, and_true, true_and, FM, hceP, ei]; with_reducible rfl)) | (with_reducible apply wm_q) | (with_reducible apply wm_c; focus (first | assumption | decide +kernel)) | (with_reducible apply wm_d; focus (simp (disch := omega) only [wr_id, Int.toNat_natCast, Int.reduceToNat, tn_lk, tn_kl, if_pos, if_neg, ↓reduceIte, and_self, and_true, true_and, FM, hceP, ei]; with_reducible rfl)) | (with_reducible apply wm_t; focus (first | omega | (simp (disch := omega) only [wr_id, FM, hceP, ei]; omega) | (simp (disch := omega) only [wr_id, FM, hceP, ei]; done))) | (with_reducible apply wm_f; focus (first | omega | (simp (disch := omega) only [wr_id, FM, hceP, ei]; omega) | (simp (disch := omega) only [wr_id, FM, hceP, ei]; done)))))
        exact fin 0 (by rw [Nat.sub_self]; rfl)
      · have hmo := m_mostAt (t := t) (d := d) (rt := rt) cP.1 P8 (x := c) (m := m) (k := n - (c + 1)) (by omega) hm64 (fun m' hm' => by rw [pA (c + 1) (by omega) (by omega) m' hm'])
        rw [show n - (c + 1) + 1 = n - c by omega] at hmo
        (repeat (first | (with_reducible apply wm_o; focus (simp (disch := omega) only [wr_id, Int.toNat_natCast, Int.reduceToNat, tn_lk, tn_kl, if_pos, if_neg, ↓reduceIte, and_self, and_true, true_and, FM, hceP, hmo, ei]; with_reducible rfl)) | (with_reducible apply wm_q) | (with_reducible apply wm_c; focus (first | assumption | decide +kernel)) | (with_reducible apply wm_d; focus (simp (disch := omega) only [wr_id, Int.toNat_natCast, Int.reduceToNat, tn_lk, tn_kl, if_pos, if_neg, ↓reduceIte, and_self, and_true, true_and, FM, hceP, hmo, ei]; with_reducible rfl)) | (with_reducible apply wm_t; focus (first | omega | (simp (disch := omega) only [wr_id, FM, hceP, hmo, ei]; omega) | (simp (disch := omega) only [wr_id, FM, hceP, hmo, ei]; done))) | (with_reducible apply wm_f; focus (first | omega | (simp (disch := omega) only [wr_id, FM, hceP, hmo, ei]; omega) | (simp (disch := omega) only [wr_id, FM, hceP, hmo, ei]; done)))))
        exact fin _ rfl
    · simp (disch := omega) only [wr_id] at cc
      obtain rfl : m = 64 := by omega
      refine hrec (i + 1) _ _ (by omega) (by omega) ⟨by omega, hP, fun c' h1 h2 m' hm' => ?_⟩
      by_cases e2 : c' = c
      · rw [e2]; exact pB m' hm'
      · exact pA c' (by omega) h2 m' hm'
end SB
