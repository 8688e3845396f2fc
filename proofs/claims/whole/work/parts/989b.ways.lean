/-! ===== the class's rows: parts of the room, countWays ===== -/
def hdI : List Nat → Int
  | [] => -1
  | p :: _ => (p : Int)
theorem hdI_n : hdI [] = -1 := rfl
theorem hdI_c (p : Nat) (l : List Nat) : hdI (p :: l) = (p : Int) := rfl
theorem pa_dec : ∀ r : Nat, r < 64 → ∀ i : Nat, i < (subs r).length → jd_and ((((subs r).getD i 0 : Nat) : Int) - (r : Int)) (r : Int) = if i + 1 < (subs r).length then (((subs r).getD (i + 1) 0 : Nat) : Int) else 0 := by decide +kernel
theorem pa_pos0 : ∀ r : Nat, r < 64 → ∀ i : Nat, i < (subs r).length → i = 0 ∨ 0 < (subs r).getD i 0 := by decide +kernel
theorem pa_pos (r : Nat) (hr : r < 64) (i : Nat) (hi : i + 1 < (subs r).length) : 0 < (subs r).getD (i + 1) 0 := (pa_pos0 r hr (i + 1) hi).resolve_left (by omega)
theorem hd_subs : ∀ r : Nat, r < 64 → hdI (subs r) = 0 := by decide +kernel
theorem subs_len (r : Nat) : (subs r).length ≤ 64 := by
  unfold subs
  have := List.length_filter_le (fun p => p &&& r == p) (List.range 64)
  rw [List.length_range] at this
  exact this
theorem mem_subs {r p : Nat} (h : p ∈ subs r) : (p &&& r == p) = true ∧ p < 64 := by
  unfold subs at h
  rw [List.mem_filter, List.mem_range] at h
  exact ⟨h.2, h.1⟩
theorem pa {r p : Nat} {l1 l : List Nat} (hr : r < 64) (e : subs r = l1 ++ p :: l) (M : jMem) : f_X4_partAfter (p : Int) (r : Int) M = some (hdI l, M) := by
  have h1 := pa_dec r hr l1.length (by rw [e]; simp)
  have g0 : (subs r).getD l1.length 0 = p := by rw [e]; simp
  rw [g0] at h1
  cases l with
  | nil =>
    rw [if_neg (by rw [e]; simp)] at h1
    unfold f_X4_partAfter
    rw [h1, wr_0, if_pos rfl]
    rfl
  | cons q l' =>
    rw [if_pos (by rw [e]; simp)] at h1
    have g1 : (subs r).getD (l1.length + 1) 0 = q := by rw [e]; simp
    have q0 := pa_pos r hr l1.length (by rw [e]; simp)
    rw [g1] at h1 q0
    have q64 : q < 64 := (mem_subs (r := r) (p := q) (by rw [e]; simp)).2
    unfold f_X4_partAfter
    rw [h1, wr_id (by omega) (by omega), if_neg (by omega)]
    rfl
def gdL : List Nat := [315, 328, 338, 349, 357]
theorem gd_k : ∀ a ∈ gdL, K0 a = (24, 7) ∧ a < 410 ∧ a ≠ 0 ∧ a ≠ 29 ∧ ∀ y : Nat, y < 7 → rF a y = some (a + 1 + y) ∧ K0 (a + 1 + y) = (20, 64) := by decide +kernel
section GD
variable {t d rt : Nat} {I : Nat → Nat → Int}
theorem g_row {a y b : Nat} {i : Int} (ha : a ∈ gdL) (hy : y < 7) (hi : i = (y : Int)) (hb : b = a + 1 + y) : jm_ldR 24 (mm t d rt I) a i = some b := by
  obtain ⟨k1, k2, k3, k4, k5⟩ := gd_k a ha
  rw [mm_ldR (n := 7) (m := 7) k1 (by omega) rfl, hi, wr_id (by omega) (by omega), if_pos (by omega), R0_f (Or.inl k3) (Or.inl k4), Int.toNat_natCast, (k5 y hy).1, hb]
theorem g_ld {a y b : Nat} (ha : a ∈ gdL) (hy : y < 7) (hb : b = a + 1 + y) (i : Int) : jm_ld 20 (mm t d rt I) b i = if 0 ≤ jd_wr i ∧ jd_wr i < 64 then some (I b (jd_wr i).toNat) else none := by
  obtain ⟨k1, k2, k3, k4, k5⟩ := gd_k a ha
  subst hb
  exact mm_ld (n := 64) (m := 64) (k5 y hy).2 (by omega) rfl
theorem g_st {a y b : Nat} (ha : a ∈ gdL) (hy : y < 7) (hb : b = a + 1 + y) (i v : Int) : jm_st 20 (mm t d rt I) b i v = if 0 ≤ jd_wr i ∧ jd_wr i < 64 then some (mm t d rt (up I b (jd_wr i).toNat v)) else none := by
  obtain ⟨k1, k2, k3, k4, k5⟩ := gd_k a ha
  subst hb
  exact mm_st (n := 64) (m := 64) (k5 y hy).2 (by omega) rfl
end GD
theorem Wr_le {w h : Nat} {cl na nd : Nat → Bool} (hw : 1 < w) (hw6 : w ≤ 6) (hh : 0 < h) (hh6 : h ≤ 6) (hn : ∀ x, na x = true → cl x = false) {k y into : Nat} (hy : y + k = h) : Wr w h cl na nd k y into ≤ 262144 := by
  by_cases c : canR w h cl nd y into = true
  · rw [Wr_eq hw hw6 hh hn hy c]
    have e1 : y * w + k * w = w * h := by rw [← Nat.add_mul, hy, Nat.mul_comm]
    have h1 := Np_le (w := w) (n := w * h) (na := na) (nd := nd) (k := k * w) (c := y * w) (U := Uc w cl y into) (by omega) e1 (hr_of (by omega) rfl)
    have h2 := frN_le (U := Uc w cl y into) (k := k * w) (c := y * w)
    have h3 : k * w ≤ 6 * 6 := Nat.mul_le_mul (by omega) hw6
    refine Nat.le_trans h1 ?_
    have h4 : frN (Uc w cl y into) (k * w) (y * w) / 2 ≤ 18 := by omega
    exact Nat.le_trans (Nat.pow_le_pow_right (by decide) h4) (by decide)
  · cases k with
    | zero => rw [Wr]; split <;> omega
    | succ k => rw [Wr, if_neg c]; omega
theorem Wr_s {w h : Nat} {cl na nd : Nat → Bool} {y into : Nat} (hy : y < h) : Wr w h cl na nd (h - y) y into = if canR w h cl nd y into then ((subs (room w h cl nd y into)).map (fun o => if fill w h cl na y into o then Wr w h cl na nd (h - (y + 1)) (y + 1) o else 0)).sum else 0 := by
  rw [show h - y = (h - (y + 1)) + 1 by omega, Wr]
section CW
variable {t d rt : Nat} {I : Nat → Nat → Int} {r w h : Nat} {cl na nd : Nat → Bool}
theorem gd_w (hrm : r ∈ [311, 324]) : r + 4 ∈ gdL := by
  rcases rm_ge hrm with rfl | rfl <;> decide
theorem s_waysOn (hrm : r ∈ [311, 324]) (c : rCfg I r w h cl na nd) (hn : ∀ x, na x = true → cl x = false) {y into : Nat} (hy : y < h) (hi : into < 2 ^ w) (hT : ∀ m, m < 2 ^ w → I (r + 5 + (y + 1)) m = (Wr w h cl na nd (h - (y + 1)) (y + 1) m : Int)) : f_X4_waysOn r (y : Int) (into : Int) (mm t d rt I) = some (((((subs (room w h cl nd y into)).map (fun o => if fill w h cl na y into o then Wr w h cl na nd (h - (y + 1)) (y + 1) o else 0)).sum : Nat) : Int), mm t d rt I) := by
  have c4 := c.2.2.2.1
  have c5 := c.2.2.2.2.1
  have c6 := c.2.2.2.2.2.1
  have c7 := c.2.2.2.2.2.2.1
  have hp6 : 2 ^ w ≤ 2 ^ 6 := Nat.pow_le_pow_right (by decide) c5
  have kr : (K0 r).1 = 4 ∧ r < 418 := ⟨(FRows_k r hrm).1, (FRows_k r hrm).2.1⟩
  have hroom := s_roomBelow (t := t) (d := d) (rt := rt) hrm c (y := y) (into := into) (by omega) (by omega)
  have rl : room w h cl nd y into < 2 ^ w := room_lt
  have hg := gd_w hrm
  have g1 := fun (J : Nat → Nat → Int) => g_row (t := t) (d := d) (rt := rt) (I := J) (a := r + 4) (y := y + 1) (i := (y : Int) + 1) (b := r + 5 + (y + 1)) hg (by omega) (by omega) (by omega)
  have g2 := fun (J : Nat → Nat → Int) (i : Int) => g_ld (t := t) (d := d) (rt := rt) (I := J) (a := r + 4) (y := y + 1) (b := r + 5 + (y + 1)) hg (by omega) (by omega) i
  generalize hR : room w h cl nd y into = R at *
  generalize hF : (fun o => if fill w h cl na y into o then Wr w h cl na nd (h - (y + 1)) (y + 1) o else 0) = F at *
  refine wm_eq ?_
  unfold f_X4_waysOn
  (repeat (first | (with_reducible apply wm_o; focus (simp (disch := omega) only [wr_id, Int.toNat_natCast, Int.reduceToNat, tn_lk, tn_kl, if_pos, if_neg, ↓reduceIte, and_self, and_true, true_and, FRows hrm, hroom]; with_reducible rfl)) | (with_reducible apply wm_q) | (with_reducible apply wm_c; focus (first | assumption | decide +kernel)) | (with_reducible apply wm_d; focus (simp (disch := omega) only [wr_id, Int.toNat_natCast, Int.reduceToNat, tn_lk, tn_kl, if_pos, if_neg, ↓reduceIte, and_self, and_true, true_and, FRows hrm, hroom]; with_reducible rfl)) | (with_reducible apply wm_t; focus (first | omega | (simp (disch := omega) only [wr_id, FRows hrm, hroom]; omega) | (simp (disch := omega) only [wr_id, FRows hrm, hroom]; done))) | (with_reducible apply wm_f; focus (first | omega | (simp (disch := omega) only [wr_id, FRows hrm, hroom]; omega) | (simp (disch := omega) only [wr_id, FRows hrm, hroom]; done)))))
  refine wm_lp4 64 (fun i a p cnt J => J = I ∧ cnt = (i : Int) ∧ ∃ l1 l, subs R = l1 ++ l ∧ l1.length = i ∧ p = hdI l ∧ a = (((l1.map F).sum : Nat) : Int)) ?_ (jfuel_n (by decide)) ⟨rfl, rfl, [], subs R, rfl, rfl, (hd_subs R (by omega)).symm, rfl⟩
  rintro i hi' a p cnt J ⟨rfl, rfl, l1, l, e, el, rfl, rfl⟩ rec hrec
  cases l with
  | nil =>
    rw [List.append_nil] at e
    (repeat (first | (with_reducible apply wm_o; focus (simp (disch := omega) only [wr_id, Int.toNat_natCast, Int.reduceToNat, tn_lk, tn_kl, if_pos, if_neg, ↓reduceIte, and_self, and_true, true_and, hdI_n]; with_reducible rfl)) | (with_reducible apply wm_q) | (with_reducible apply wm_c; focus (first | assumption | decide +kernel)) | (with_reducible apply wm_d; focus (simp (disch := omega) only [wr_id, Int.toNat_natCast, Int.reduceToNat, tn_lk, tn_kl, if_pos, if_neg, ↓reduceIte, and_self, and_true, true_and, hdI_n]; with_reducible rfl)) | (with_reducible apply wm_t; focus (first | omega | (simp (disch := omega) only [wr_id, hdI_n]; omega) | (simp (disch := omega) only [wr_id, hdI_n]; done))) | (with_reducible apply wm_f; focus (first | omega | (simp (disch := omega) only [wr_id, hdI_n]; omega) | (simp (disch := omega) only [wr_id, hdI_n]; done)))))
    exact wm_r ⟨by rw [e], rfl⟩
  | cons p l =>
    have hp := mem_subs (r := R) (p := p) (by rw [e]; simp)
    have hpw : p < 2 ^ w := sub_lt hp.1 rl
    have hlen : l1.length + 1 ≤ 64 := by
      have := subs_len R
      rw [e] at this
      simp at this
      omega
    have hv := hT p hpw
    have hWl := Wr_le (w := w) (h := h) (cl := cl) (na := na) (nd := nd) (k := h - (y + 1)) (y := y + 1) (into := p) (by omega) c5 (by omega) c7 hn (by omega)
    have hpa := fun (M : jMem) => pa (r := R) (by omega) e M
    have hfi := s_fills (t := t) (d := d) (rt := rt) hrm c (y := y) (into := into) (o := p) (by omega) (by omega) hp.2
    have e' : subs R = (l1 ++ [p]) ++ l := by rw [e]; simp
    have es : ((l1 ++ [p]).map F).sum = (l1.map F).sum + F p := by simp
    have hFp : F p = if fill w h cl na y into p then Wr w h cl na nd (h - (y + 1)) (y + 1) p else 0 := by rw [← hF]
    generalize hW : Wr w h cl na nd (h - (y + 1)) (y + 1) p = W at *
    by_cases z : W = 0
    · have hF0 : F p = 0 := by rw [hFp, z]; split <;> rfl
      (repeat (first | (with_reducible apply wm_o; focus (simp (disch := omega) only [wr_id, Int.toNat_natCast, Int.reduceToNat, tn_lk, tn_kl, if_pos, if_neg, ↓reduceIte, and_self, and_true, true_and, hdI_c, FRows hrm, g1, g2, hv, hpa]; with_reducible rfl)) | (with_reducible apply wm_q) | (with_reducible apply wm_c; focus (first | assumption | decide +kernel)) | (with_reducible apply wm_d; focus (simp (disch := omega) only [wr_id, Int.toNat_natCast, Int.reduceToNat, tn_lk, tn_kl, if_pos, if_neg, ↓reduceIte, and_self, and_true, true_and, hdI_c, FRows hrm, g1, g2, hv, hpa]; with_reducible rfl)) | (with_reducible apply wm_t; focus (first | omega | (simp (disch := omega) only [wr_id, hdI_c, FRows hrm, g1, g2, hv, hpa]; omega) | (simp (disch := omega) only [wr_id, hdI_c, FRows hrm, g1, g2, hv, hpa]; done))) | (with_reducible apply wm_f; focus (first | omega | (simp (disch := omega) only [wr_id, hdI_c, FRows hrm, g1, g2, hv, hpa]; omega) | (simp (disch := omega) only [wr_id, hdI_c, FRows hrm, g1, g2, hv, hpa]; done)))))
      exact hrec (i + 1) _ _ _ _ (by omega) (by omega) ⟨rfl, by omega, l1 ++ [p], l, e', by rw [List.length_append, el]; rfl, rfl, by rw [es, hF0]; omega⟩
    · by_cases zf : fill w h cl na y into p = true
      · rw [if_pos zf] at hfi hFp
        (repeat (first | (with_reducible apply wm_o; focus (simp (disch := omega) only [wr_id, Int.toNat_natCast, Int.reduceToNat, tn_lk, tn_kl, if_pos, if_neg, ↓reduceIte, and_self, and_true, true_and, hdI_c, FRows hrm, g1, g2, hv, hfi, hpa]; with_reducible rfl)) | (with_reducible apply wm_q) | (with_reducible apply wm_c; focus (first | assumption | decide +kernel)) | (with_reducible apply wm_d; focus (simp (disch := omega) only [wr_id, Int.toNat_natCast, Int.reduceToNat, tn_lk, tn_kl, if_pos, if_neg, ↓reduceIte, and_self, and_true, true_and, hdI_c, FRows hrm, g1, g2, hv, hfi, hpa]; with_reducible rfl)) | (with_reducible apply wm_t; focus (first | omega | (simp (disch := omega) only [wr_id, hdI_c, FRows hrm, g1, g2, hv, hfi, hpa]; omega) | (simp (disch := omega) only [wr_id, hdI_c, FRows hrm, g1, g2, hv, hfi, hpa]; done))) | (with_reducible apply wm_f; focus (first | omega | (simp (disch := omega) only [wr_id, hdI_c, FRows hrm, g1, g2, hv, hfi, hpa]; omega) | (simp (disch := omega) only [wr_id, hdI_c, FRows hrm, g1, g2, hv, hfi, hpa]; done)))))
        exact hrec (i + 1) _ _ _ _ (by omega) (by omega) ⟨rfl, by omega, l1 ++ [p], l, e', by rw [List.length_append, el]; rfl, rfl, by rw [es, hFp]; omega⟩
      · rw [if_neg zf] at hfi hFp
        (repeat (first | (with_reducible apply wm_o; focus (simp (disch := omega) only [wr_id, Int.toNat_natCast, Int.reduceToNat, tn_lk, tn_kl, if_pos, if_neg, ↓reduceIte, and_self, and_true, true_and, hdI_c, FRows hrm, g1, g2, hv, hfi, hpa]; with_reducible rfl)) | (with_reducible apply wm_q) | (with_reducible apply wm_c; focus (first | assumption | decide +kernel)) | (with_reducible apply wm_d; focus (simp (disch := omega) only [wr_id, Int.toNat_natCast, Int.reduceToNat, tn_lk, tn_kl, if_pos, if_neg, ↓reduceIte, and_self, and_true, true_and, hdI_c, FRows hrm, g1, g2, hv, hfi, hpa]; with_reducible rfl)) | (with_reducible apply wm_t; focus (first | omega | (simp (disch := omega) only [wr_id, hdI_c, FRows hrm, g1, g2, hv, hfi, hpa]; omega) | (simp (disch := omega) only [wr_id, hdI_c, FRows hrm, g1, g2, hv, hfi, hpa]; done))) | (with_reducible apply wm_f; focus (first | omega | (simp (disch := omega) only [wr_id, hdI_c, FRows hrm, g1, g2, hv, hfi, hpa]; omega) | (simp (disch := omega) only [wr_id, hdI_c, FRows hrm, g1, g2, hv, hfi, hpa]; done)))))
        exact hrec (i + 1) _ _ _ _ (by omega) (by omega) ⟨rfl, by omega, l1 ++ [p], l, e', by rw [List.length_append, el]; rfl, rfl, by rw [es, hFp]; omega⟩
theorem rCfg_w {J : Nat → Nat → Int} (hf : frm (fun a => r + 5 ≤ a ∧ a ≤ r + 11) I J) (c : rCfg I r w h cl na nd) : rCfg J r w h cl na nd := rCfg_frm (hf _ (by omega)) (hf _ (by omega)) (hf _ (by omega)) (hf _ (by omega)) (hf _ (by omega)) c
theorem w_countWays (hrm : r ∈ [311, 324]) (c : rCfg I r w h cl na nd) (hn : ∀ x, na x = true → cl x = false) : wm t d rt (f_X4_countWays r (mm t d rt I)) (fun _ J => frm (fun a => r + 5 ≤ a ∧ a ≤ r + 11) I J ∧ rCfg J r w h cl na nd ∧ wyR J r w h cl na nd) := by
  have c0 := c
  obtain ⟨c1, c2, c3, c4, c5, c6, c7, c8, c9, c10, c11⟩ := c
  have hp6 : 2 ^ w ≤ 2 ^ 6 := Nat.pow_le_pow_right (by decide) c5
  have hp := Nat.two_pow_pos w
  have kr : (K0 r).1 = 4 ∧ r < 418 := ⟨(FRows_k r hrm).1, (FRows_k r hrm).2.1⟩
  have hg := gd_w hrm
  have w0 := wr_0
  generalize hP : 2 ^ w = P at *
  have g1 := fun (J : Nat → Nat → Int) => g_row (t := t) (d := d) (rt := rt) (I := J) (a := r + 4) (y := h) (i := (h : Int)) (b := r + 5 + h) hg (by omega) rfl (by omega)
  have g2 := fun (J : Nat → Nat → Int) (i v : Int) => g_st (t := t) (d := d) (rt := rt) (I := J) (a := r + 4) (y := h) (b := r + 5 + h) hg (by omega) (by omega) i v
  unfold f_X4_countWays
  refine wm_lp2 P (fun i y J => y = (i : Int) ∧ frm (fun a => r + 5 ≤ a ∧ a ≤ r + 11) I J ∧ ∀ m, m < i → J (r + 5 + h) m = (if m = 0 then 1 else 0 : Nat)) ?_ (Nat.lt_of_le_of_lt hp6 (jfuel_n (by decide))) ⟨rfl, frm_refl _ _, fun m hm => by omega⟩
  rintro i hi y J ⟨rfl, hJ, jA⟩ rec hrec
  have cJ := rCfg_w hJ c0
  have j6 := cJ.2.1
  have j7 := cJ.2.2.1
  rw [hP] at j7
  by_cases e : i = P
  · subst e
    (repeat (first | (with_reducible apply wm_o; focus (simp (disch := omega) only [wr_id, Int.toNat_natCast, Int.reduceToNat, tn_lk, tn_kl, if_pos, if_neg, ↓reduceIte, and_self, and_true, true_and, FRows hrm, j7, j6]; with_reducible rfl)) | (with_reducible apply wm_q) | (with_reducible apply wm_c; focus (first | assumption | decide +kernel)) | (with_reducible apply wm_d; focus (simp (disch := omega) only [wr_id, Int.toNat_natCast, Int.reduceToNat, tn_lk, tn_kl, if_pos, if_neg, ↓reduceIte, and_self, and_true, true_and, FRows hrm, j7, j6]; with_reducible rfl)) | (with_reducible apply wm_t; focus (first | omega | (simp (disch := omega) only [wr_id, FRows hrm, j7, j6]; omega) | (simp (disch := omega) only [wr_id, FRows hrm, j7, j6]; done))) | (with_reducible apply wm_f; focus (first | omega | (simp (disch := omega) only [wr_id, FRows hrm, j7, j6]; omega) | (simp (disch := omega) only [wr_id, FRows hrm, j7, j6]; done)))))
    clear hrec rec
    refine wm_lp2 h (fun i y K => y = (h : Int) - 1 - (i : Int) ∧ frm (fun a => r + 5 ≤ a ∧ a ≤ r + 11) I K ∧ ∀ y, h - i ≤ y → y ≤ h → ∀ m, m < 2 ^ w → K (r + 5 + y) m = (Wr w h cl na nd (h - y) y m : Int)) ?_ (Nat.lt_of_le_of_lt c7 (jfuel_n (by decide))) ⟨by omega, hJ, fun y y1 y2 m hm => ?_⟩
    · rintro i' hi' y K ⟨rfl, hK, kA⟩ rec hrec
      have cK := rCfg_w hK c0
      by_cases e : i' = h
      · subst e
        (repeat (first | (with_reducible apply wm_o; focus (simp (disch := omega) only [wr_id, Int.toNat_natCast, Int.reduceToNat, tn_lk, tn_kl, if_pos, if_neg, ↓reduceIte, and_self, and_true, true_and]; with_reducible rfl)) | (with_reducible apply wm_q) | (with_reducible apply wm_c; focus (first | assumption | decide +kernel)) | (with_reducible apply wm_d; focus (simp (disch := omega) only [wr_id, Int.toNat_natCast, Int.reduceToNat, tn_lk, tn_kl, if_pos, if_neg, ↓reduceIte, and_self, and_true, true_and]; with_reducible rfl)) | (with_reducible apply wm_t; focus (first | omega | (simp (disch := omega) only [wr_id]; omega) | (simp (disch := omega) only [wr_id]; done))) | (with_reducible apply wm_f; focus (first | omega | (simp (disch := omega) only [wr_id]; omega) | (simp (disch := omega) only [wr_id]; done)))))
        refine wm_r ⟨hK, cK, fun y hy m hm => kA y (by omega) hy m hm⟩
      · obtain ⟨y, hy⟩ : ∃ y : Nat, y = h - 1 - i' := ⟨_, rfl⟩
        have ey : (h : Int) - 1 - (i' : Int) = (y : Int) := by omega
        rw [ey]
        have hyh : y < h := by omega
        (repeat (first | (with_reducible apply wm_o; focus (simp (disch := omega) only [wr_id, Int.toNat_natCast, Int.reduceToNat, tn_lk, tn_kl, if_pos, if_neg, ↓reduceIte, and_self, and_true, true_and]; with_reducible rfl)) | (with_reducible apply wm_q) | (with_reducible apply wm_c; focus (first | assumption | decide +kernel)) | (with_reducible apply wm_d; focus (simp (disch := omega) only [wr_id, Int.toNat_natCast, Int.reduceToNat, tn_lk, tn_kl, if_pos, if_neg, ↓reduceIte, and_self, and_true, true_and]; with_reducible rfl)) | (with_reducible apply wm_t; focus (first | omega | (simp (disch := omega) only [wr_id]; omega) | (simp (disch := omega) only [wr_id]; done))) | (with_reducible apply wm_f; focus (first | omega | (simp (disch := omega) only [wr_id]; omega) | (simp (disch := omega) only [wr_id]; done)))))
        have q1 := fun (J : Nat → Nat → Int) => g_row (t := t) (d := d) (rt := rt) (I := J) (a := r + 4) (y := y) (i := (y : Int)) (b := r + 5 + y) hg (by omega) rfl (by omega)
        have q2 := fun (J : Nat → Nat → Int) (i v : Int) => g_st (t := t) (d := d) (rt := rt) (I := J) (a := r + 4) (y := y) (b := r + 5 + y) hg (by omega) (by omega) i v
        refine wm_lp2 i (fun k x L => x = (k : Int) ∧ frm (fun a => a = r + 5 + y) K L ∧ ∀ m, m < k → L (r + 5 + y) m = (Wr w h cl na nd (h - y) y m : Int)) ?_ (Nat.lt_of_le_of_lt hp6 (jfuel_n (by decide))) ⟨rfl, frm_refl _ _, fun m hm => by omega⟩
        rintro k hk x L ⟨rfl, hL, lA⟩ rec2 hrec2
        have fL : frm (fun a => r + 5 ≤ a ∧ a ≤ r + 11) I L := frm_trans hK (frm_sub hL (fun a ha => by omega))
        have cL := rCfg_w fL c0
        have l7 := cL.2.2.1
        rw [hP] at l7
        by_cases ek : k = i
        · subst ek
          (repeat (first | (with_reducible apply wm_o; focus (simp (disch := omega) only [wr_id, Int.toNat_natCast, Int.reduceToNat, tn_lk, tn_kl, if_pos, if_neg, ↓reduceIte, and_self, and_true, true_and, FRows hrm, l7]; with_reducible rfl)) | (with_reducible apply wm_q) | (with_reducible apply wm_c; focus (first | assumption | decide +kernel)) | (with_reducible apply wm_d; focus (simp (disch := omega) only [wr_id, Int.toNat_natCast, Int.reduceToNat, tn_lk, tn_kl, if_pos, if_neg, ↓reduceIte, and_self, and_true, true_and, FRows hrm, l7]; with_reducible rfl)) | (with_reducible apply wm_t; focus (first | omega | (simp (disch := omega) only [wr_id, FRows hrm, l7]; omega) | (simp (disch := omega) only [wr_id, FRows hrm, l7]; done))) | (with_reducible apply wm_f; focus (first | omega | (simp (disch := omega) only [wr_id, FRows hrm, l7]; omega) | (simp (disch := omega) only [wr_id, FRows hrm, l7]; done)))))
          refine hrec (i' + 1) _ _ (by omega) (by omega) ⟨by omega, fL, fun z z1 z2 m hm => ?_⟩
          by_cases ez : z = y
          · subst ez; exact lA m (by omega)
          · rw [hL _ (by omega)]; exact kA z (by omega) z2 m hm
        · have hcr := s_canReach (t := t) (d := d) (rt := rt) hrm cL (y := y) (into := k) (by omega) (by omega)
          have hws := Wr_s (w := w) (h := h) (cl := cl) (na := na) (nd := nd) (y := y) (into := k) hyh
          by_cases z : canR w h cl nd y k = true
          · rw [if_pos z] at hcr hws
            have hwo := s_waysOn (t := t) (d := d) (rt := rt) hrm cL hn (y := y) (into := k) hyh (by omega) (fun m hm => by rw [hL _ (by omega)]; exact kA (y + 1) (by omega) (by omega) m hm)
            rw [← hws] at hwo
            (repeat (first | (with_reducible apply wm_o; focus (simp (disch := omega) only [wr_id, Int.toNat_natCast, Int.reduceToNat, tn_lk, tn_kl, if_pos, if_neg, ↓reduceIte, and_self, and_true, true_and, FRows hrm, l7, q1, q2, hcr, hwo]; with_reducible rfl)) | (with_reducible apply wm_q) | (with_reducible apply wm_c; focus (first | assumption | decide +kernel)) | (with_reducible apply wm_d; focus (simp (disch := omega) only [wr_id, Int.toNat_natCast, Int.reduceToNat, tn_lk, tn_kl, if_pos, if_neg, ↓reduceIte, and_self, and_true, true_and, FRows hrm, l7, q1, q2, hcr, hwo]; with_reducible rfl)) | (with_reducible apply wm_t; focus (first | omega | (simp (disch := omega) only [wr_id, FRows hrm, l7, q1, q2, hcr, hwo]; omega) | (simp (disch := omega) only [wr_id, FRows hrm, l7, q1, q2, hcr, hwo]; done))) | (with_reducible apply wm_f; focus (first | omega | (simp (disch := omega) only [wr_id, FRows hrm, l7, q1, q2, hcr, hwo]; omega) | (simp (disch := omega) only [wr_id, FRows hrm, l7, q1, q2, hcr, hwo]; done)))))
            refine hrec2 (k + 1) _ _ (by omega) (by omega) ⟨by omega, frm_up hL rfl, fun m hm => ?_⟩
            rw [up_g]
            by_cases em : m = k
            · rw [if_pos em, em]
            · rw [if_neg em]; exact lA m (by omega)
          · rw [if_neg z] at hcr hws
            (repeat (first | (with_reducible apply wm_o; focus (simp (disch := omega) only [wr_id, Int.toNat_natCast, Int.reduceToNat, tn_lk, tn_kl, if_pos, if_neg, ↓reduceIte, and_self, and_true, true_and, FRows hrm, l7, q1, q2, hcr, w0]; with_reducible rfl)) | (with_reducible apply wm_q) | (with_reducible apply wm_c; focus (first | assumption | decide +kernel)) | (with_reducible apply wm_d; focus (simp (disch := omega) only [wr_id, Int.toNat_natCast, Int.reduceToNat, tn_lk, tn_kl, if_pos, if_neg, ↓reduceIte, and_self, and_true, true_and, FRows hrm, l7, q1, q2, hcr, w0]; with_reducible rfl)) | (with_reducible apply wm_t; focus (first | omega | (simp (disch := omega) only [wr_id, FRows hrm, l7, q1, q2, hcr, w0]; omega) | (simp (disch := omega) only [wr_id, FRows hrm, l7, q1, q2, hcr, w0]; done))) | (with_reducible apply wm_f; focus (first | omega | (simp (disch := omega) only [wr_id, FRows hrm, l7, q1, q2, hcr, w0]; omega) | (simp (disch := omega) only [wr_id, FRows hrm, l7, q1, q2, hcr, w0]; done)))))
            refine hrec2 (k + 1) _ _ (by omega) (by omega) ⟨by omega, frm_up hL rfl, fun m hm => ?_⟩
            rw [up_g]
            by_cases em : m = k
            · rw [if_pos em, em, hws]; rfl
            · rw [if_neg em]; exact lA m (by omega)
    · obtain rfl : y = h := by omega
      rw [jA m (by omega), Nat.sub_self, Wr]
  · by_cases z : i = 0
    · subst z
      (repeat (first | (with_reducible apply wm_o; focus (simp (disch := omega) only [wr_id, Int.toNat_natCast, Int.reduceToNat, tn_lk, tn_kl, if_pos, if_neg, ↓reduceIte, and_self, and_true, true_and, FRows hrm, j7, j6, g1, g2]; with_reducible rfl)) | (with_reducible apply wm_q) | (with_reducible apply wm_c; focus (first | assumption | decide +kernel)) | (with_reducible apply wm_d; focus (simp (disch := omega) only [wr_id, Int.toNat_natCast, Int.reduceToNat, tn_lk, tn_kl, if_pos, if_neg, ↓reduceIte, and_self, and_true, true_and, FRows hrm, j7, j6, g1, g2]; with_reducible rfl)) | (with_reducible apply wm_t; focus (first | omega | (simp (disch := omega) only [wr_id, FRows hrm, j7, j6, g1, g2]; omega) | (simp (disch := omega) only [wr_id, FRows hrm, j7, j6, g1, g2]; done))) | (with_reducible apply wm_f; focus (first | omega | (simp (disch := omega) only [wr_id, FRows hrm, j7, j6, g1, g2]; omega) | (simp (disch := omega) only [wr_id, FRows hrm, j7, j6, g1, g2]; done)))))
      refine hrec (0 + 1) _ _ (by omega) (by omega) ⟨by omega, frm_up hJ ⟨by omega, by omega⟩, fun m hm => ?_⟩
      obtain rfl : m = 0 := by omega
      rw [up_g, if_pos rfl, if_pos rfl]
      rfl
    · (repeat (first | (with_reducible apply wm_o; focus (simp (disch := omega) only [wr_id, Int.toNat_natCast, Int.reduceToNat, tn_lk, tn_kl, if_pos, if_neg, ↓reduceIte, and_self, and_true, true_and, FRows hrm, j7, j6, g1, g2]; with_reducible rfl)) | (with_reducible apply wm_q) | (with_reducible apply wm_c; focus (first | assumption | decide +kernel)) | (with_reducible apply wm_d; focus (simp (disch := omega) only [wr_id, Int.toNat_natCast, Int.reduceToNat, tn_lk, tn_kl, if_pos, if_neg, ↓reduceIte, and_self, and_true, true_and, FRows hrm, j7, j6, g1, g2]; with_reducible rfl)) | (with_reducible apply wm_t; focus (first | omega | (simp (disch := omega) only [wr_id, FRows hrm, j7, j6, g1, g2]; omega) | (simp (disch := omega) only [wr_id, FRows hrm, j7, j6, g1, g2]; done))) | (with_reducible apply wm_f; focus (first | omega | (simp (disch := omega) only [wr_id, FRows hrm, j7, j6, g1, g2]; omega) | (simp (disch := omega) only [wr_id, FRows hrm, j7, j6, g1, g2]; done)))))
      refine hrec (i + 1) _ _ (by omega) (by omega) ⟨by omega, frm_up hJ ⟨by omega, by omega⟩, fun m hm => ?_⟩
      rw [up_g]
      by_cases em : m = i
      · rw [if_pos em, if_neg (by omega)]; rfl
      · rw [if_neg em]; exact jA m (by omega)
theorem s_total (hrm : r ∈ [311, 324]) : f_X4_total r (mm t d rt I) = some (I (r + 5) 0, mm t d rt I) := by
  have hg := gd_w hrm
  have g1 := g_row (t := t) (d := d) (rt := rt) (I := I) (a := r + 4) (y := 0) (i := 0) (b := r + 5) hg (by omega) rfl (by omega)
  have g2 := fun (i : Int) => g_ld (t := t) (d := d) (rt := rt) (I := I) (a := r + 4) (y := 0) (b := r + 5) hg (by omega) (by omega) i
  have w0 := wr_0
  refine wm_eq ?_
  unfold f_X4_total
  (repeat (first | (with_reducible apply wm_o; focus (simp (disch := omega) only [wr_id, Int.toNat_natCast, Int.reduceToNat, tn_lk, tn_kl, if_pos, if_neg, ↓reduceIte, and_self, and_true, true_and, FRows hrm, g1, g2]; with_reducible rfl)) | (with_reducible apply wm_q) | (with_reducible apply wm_c; focus (first | assumption | decide +kernel)) | (with_reducible apply wm_d; focus (simp (disch := omega) only [wr_id, Int.toNat_natCast, Int.reduceToNat, tn_lk, tn_kl, if_pos, if_neg, ↓reduceIte, and_self, and_true, true_and, FRows hrm, g1, g2]; with_reducible rfl)) | (with_reducible apply wm_t; focus (first | omega | (simp (disch := omega) only [wr_id, FRows hrm, g1, g2]; omega) | (simp (disch := omega) only [wr_id, FRows hrm, g1, g2]; done))) | (with_reducible apply wm_f; focus (first | omega | (simp (disch := omega) only [wr_id, FRows hrm, g1, g2]; omega) | (simp (disch := omega) only [wr_id, FRows hrm, g1, g2]; done)))))
  exact wm_r ⟨rfl, rfl⟩
end CW
