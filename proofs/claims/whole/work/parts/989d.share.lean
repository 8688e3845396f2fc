/-! ===== the class's shares ===== -/
theorem tb_bit : ∀ m : Nat, m < 64 → ∀ b : Nat, b < 6 → (m &&& 2 ^ b = 0 ↔ m.testBit b = false) := by decide +kernel
def rcS (w h : Nat) (cl na nd : Nat → Bool) (y k o : Nat) : Nat := if Wr w h cl na nd (h - (y + 1)) (y + 1) o = 0 then 0 else ((List.range k).map (fun into => if inO w h cl na nd y into o then Rc w h cl na nd y into else 0)).sum
theorem rcS_0 (w h : Nat) (cl na nd : Nat → Bool) (y o : Nat) : rcS w h cl na nd y 0 o = 0 := by unfold rcS; split <;> rfl
theorem rcS_s (w h : Nat) (cl na nd : Nat → Bool) (y k o : Nat) : rcS w h cl na nd y (k + 1) o = rcS w h cl na nd y k o + if Wr w h cl na nd (h - (y + 1)) (y + 1) o = 0 then 0 else if inO w h cl na nd y k o then Rc w h cl na nd y k else 0 := by
  unfold rcS
  by_cases z : Wr w h cl na nd (h - (y + 1)) (y + 1) o = 0
  · rw [if_pos z, if_pos z, if_pos z]
  · rw [if_neg z, if_neg z, if_neg z, List.range_succ, List.map_append, List.sum_append]
    simp
theorem Rc_S (w h : Nat) (cl na nd : Nat → Bool) (y o : Nat) : Rc w h cl na nd (y + 1) o = rcS w h cl na nd y (2 ^ w) o := rfl
theorem Rc_b {w h : Nat} {cl na nd : Nat → Bool} (hw : 1 < w) (hw6 : w ≤ 6) (hh : 0 < h) (hh6 : h ≤ 6) (hn : ∀ x, na x = true → cl x = false) {y o : Nat} (hy : y ≤ h) (ho : o < 2 ^ w) : Rc w h cl na nd y o ≤ 262144 := by
  by_cases z : Wr w h cl na nd (h - y) y o = 0
  · cases y with
    | zero => rw [Rc]; split <;> omega
    | succ y => rw [Rc, if_pos z]; omega
  · have h1 := Rc_le (nd := nd) hw hw6 hh hn hy ho
    have h2 := Np_le (w := w) (n := w * h) (na := na) (nd := nd) (k := h * w) (c := 0) (U := Uc w cl 0 0) (by omega) (by rw [Nat.mul_comm]; omega) (hr_of (by omega) rfl)
    have h3 := frN_le (U := Uc w cl 0 0) (k := h * w) (c := 0)
    have h4 : h * w ≤ 6 * 6 := Nat.mul_le_mul hh6 hw6
    have h5 : 2 ^ (frN (Uc w cl 0 0) (h * w) 0 / 2) ≤ 2 ^ 18 := Nat.pow_le_pow_right (by decide) (by omega)
    have h6 : Rc w h cl na nd y o * 1 ≤ Rc w h cl na nd y o * Wr w h cl na nd (h - y) y o := Nat.mul_le_mul_left _ (by omega)
    have e18 : 2 ^ 18 = 262144 := by decide
    omega
/-- how many lie across, down, on x -/
def acC (w n : Nat) (na nd U : Nat → Bool) (x : Nat) : Nat := (Lp w n na nd n 0 U).countP (fun p => wyP 0 p x == 0)
def dnC (w n : Nat) (na nd U : Nat → Bool) (x : Nat) : Nat := (Lp w n na nd n 0 U).countP (fun p => wyP 0 p x == 1)
section SH
variable {t d rt : Nat} {I : Nat → Nat → Int} {w h n : Nat} {cl na nd : Nat → Bool}
theorem gd_r : 338 ∈ gdL := by decide
theorem gd_s : 328 ∈ gdL := by decide
theorem so_k : (K0 324).1 = 4 ∧ 324 < 418 := by decide +kernel
theorem w_reachOn (c : rCfg I 324 w h cl na nd) (hn : ∀ x, na x = true → cl x = false) {y into : Nat} (hy : y < h) (hi : into < 2 ^ w) (hT : ∀ m, m < 2 ^ w → I (329 + (y + 1)) m = (Wr w h cl na nd (h - (y + 1)) (y + 1) m : Int)) {V : Int} (hV : I (339 + y) into = V) : wm t d rt (f_X5_reachOn 337 324 (y : Int) (into : Int) (mm t d rt I)) (fun _ J => frm (fun a => a = 339 + (y + 1)) I J ∧ ∀ o, o < 64 → J (339 + (y + 1)) o = I (339 + (y + 1)) o + if (o ∈ subs (room w h cl nd y into) ∧ Wr w h cl na nd (h - (y + 1)) (y + 1) o ≠ 0) ∧ fill w h cl na y into o = true then V else 0) := by
  have c4 := c.2.2.2.1
  have c5 := c.2.2.2.2.1
  have c6 := c.2.2.2.2.2.1
  have c7 := c.2.2.2.2.2.2.1
  have hp6 : 2 ^ w ≤ 2 ^ 6 := Nat.pow_le_pow_right (by decide) c5
  have kr := so_k
  have hroom := s_roomBelow (t := t) (d := d) (rt := rt) so_in c (y := y) (into := into) (by omega) (by omega)
  have rl : room w h cl nd y into < 2 ^ w := room_lt
  have g1 := fun (J : Nat → Nat → Int) => g_row (t := t) (d := d) (rt := rt) (I := J) (a := 328) (y := y + 1) (i := (y : Int) + 1) (b := 329 + (y + 1)) gd_s (by omega) (by omega) (by omega)
  have g2 := fun (J : Nat → Nat → Int) (i : Int) => g_ld (t := t) (d := d) (rt := rt) (I := J) (a := 328) (y := y + 1) (b := 329 + (y + 1)) gd_s (by omega) (by omega) i
  have r1 := fun (J : Nat → Nat → Int) => g_row (t := t) (d := d) (rt := rt) (I := J) (a := 338) (y := y + 1) (i := (y : Int) + 1) (b := 339 + (y + 1)) gd_r (by omega) (by omega) (by omega)
  have r2 := fun (J : Nat → Nat → Int) => g_row (t := t) (d := d) (rt := rt) (I := J) (a := 338) (y := y) (i := (y : Int)) (b := 339 + y) gd_r (by omega) (by omega) (by omega)
  have r3 := fun (J : Nat → Nat → Int) (i : Int) => g_ld (t := t) (d := d) (rt := rt) (I := J) (a := 338) (y := y + 1) (b := 339 + (y + 1)) gd_r (by omega) (by omega) i
  have r4 := fun (J : Nat → Nat → Int) (i : Int) => g_ld (t := t) (d := d) (rt := rt) (I := J) (a := 338) (y := y) (b := 339 + y) gd_r (by omega) (by omega) i
  have r5 := fun (J : Nat → Nat → Int) (i v : Int) => g_st (t := t) (d := d) (rt := rt) (I := J) (a := 338) (y := y + 1) (b := 339 + (y + 1)) gd_r (by omega) (by omega) i v
  generalize hR : room w h cl nd y into = R at *
  unfold f_X5_reachOn
  (repeat (first | (with_reducible apply wm_o; focus (simp (disch := omega) only [wr_id, Int.toNat_natCast, Int.reduceToNat, tn_lk, tn_kl, if_pos, if_neg, ↓reduceIte, and_self, and_true, true_and, FRows so_in, hroom]; with_reducible rfl)) | (with_reducible apply wm_q) | (with_reducible apply wm_c; focus (first | assumption | decide +kernel)) | (with_reducible apply wm_d; focus (simp (disch := omega) only [wr_id, Int.toNat_natCast, Int.reduceToNat, tn_lk, tn_kl, if_pos, if_neg, ↓reduceIte, and_self, and_true, true_and, FRows so_in, hroom]; with_reducible rfl)) | (with_reducible apply wm_t; focus (first | omega | (simp (disch := omega) only [wr_id, FRows so_in, hroom]; omega) | (simp (disch := omega) only [wr_id, FRows so_in, hroom]; done))) | (with_reducible apply wm_f; focus (first | omega | (simp (disch := omega) only [wr_id, FRows so_in, hroom]; omega) | (simp (disch := omega) only [wr_id, FRows so_in, hroom]; done)))))
  refine wm_lp3 64 (fun i p cnt J => cnt = (i : Int) ∧ frm (fun a => a = 339 + (y + 1)) I J ∧ ∃ l1 l, subs R = l1 ++ l ∧ l1.length = i ∧ p = hdI l ∧ ∀ o, o < 64 → J (339 + (y + 1)) o = I (339 + (y + 1)) o + if (o ∈ l1 ∧ Wr w h cl na nd (h - (y + 1)) (y + 1) o ≠ 0) ∧ fill w h cl na y into o = true then V else 0) ?_ (jfuel_n (by decide)) ⟨rfl, frm_refl _ _, [], subs R, rfl, rfl, (hd_subs R (by omega)).symm, fun o ho => by simp⟩
  rintro i hi' p cnt J ⟨rfl, hJ, l1, l, e, el, rfl, jA⟩ rec hrec
  cases l with
  | nil =>
    rw [List.append_nil] at e
    (repeat (first | (with_reducible apply wm_o; focus (simp (disch := omega) only [wr_id, Int.toNat_natCast, Int.reduceToNat, tn_lk, tn_kl, if_pos, if_neg, ↓reduceIte, and_self, and_true, true_and, hdI_n]; with_reducible rfl)) | (with_reducible apply wm_q) | (with_reducible apply wm_c; focus (first | assumption | decide +kernel)) | (with_reducible apply wm_d; focus (simp (disch := omega) only [wr_id, Int.toNat_natCast, Int.reduceToNat, tn_lk, tn_kl, if_pos, if_neg, ↓reduceIte, and_self, and_true, true_and, hdI_n]; with_reducible rfl)) | (with_reducible apply wm_t; focus (first | omega | (simp (disch := omega) only [wr_id, hdI_n]; omega) | (simp (disch := omega) only [wr_id, hdI_n]; done))) | (with_reducible apply wm_f; focus (first | omega | (simp (disch := omega) only [wr_id, hdI_n]; omega) | (simp (disch := omega) only [wr_id, hdI_n]; done)))))
    exact wm_r ⟨hJ, by rw [e]; exact jA⟩
  | cons p l =>
    have hp := mem_subs (r := R) (p := p) (by rw [e]; simp)
    have hpw : p < 2 ^ w := sub_lt hp.1 rl
    have hlen : l1.length + 1 ≤ 64 := by
      have := subs_len R
      rw [e] at this
      simp at this
      omega
    have hout : p ∉ l1 := fun q => by
      have := subs_sorted R
      rw [e, List.pairwise_append] at this
      have := this.2.2 p q p (by simp)
      omega
    have hv : J (329 + (y + 1)) p = _ := (congrFun (hJ (329 + (y + 1)) (by omega)) p).trans (hT p hpw)
    have hW0 : J (339 + y) into = V := (congrFun (hJ (339 + y) (by omega)) into).trans hV
    have hWl := Wr_le (w := w) (h := h) (cl := cl) (na := na) (nd := nd) (k := h - (y + 1)) (y := y + 1) (into := p) (by omega) c5 (by omega) c7 hn (by omega)
    have hpa := fun (M : jMem) => pa (r := R) (by omega) e M
    have cJ : rCfg J 324 w h cl na nd := rCfg_frm (hJ _ (by omega)) (hJ _ (by omega)) (hJ _ (by omega)) (hJ _ (by omega)) (hJ _ (by omega)) c
    have hfi := s_fills (t := t) (d := d) (rt := rt) so_in cJ (y := y) (into := into) (o := p) (by omega) (by omega) hp.2
    have e' : subs R = (l1 ++ [p]) ++ l := by rw [e]; simp
    have keep : ¬ (Wr w h cl na nd (h - (y + 1)) (y + 1) p ≠ 0 ∧ fill w h cl na y into p = true) → ∀ o, o < 64 → J (339 + (y + 1)) o = I (339 + (y + 1)) o + if (o ∈ l1 ++ [p] ∧ Wr w h cl na nd (h - (y + 1)) (y + 1) o ≠ 0) ∧ fill w h cl na y into o = true then V else 0 := by
      intro hno o ho
      rw [jA o ho]
      congr 1
      by_cases eo : o = p
      · subst eo
        rw [if_neg (fun q => hout q.1.1), if_neg (fun q => hno ⟨q.1.2, q.2⟩)]
      · simp [eo]
    by_cases z : Wr w h cl na nd (h - (y + 1)) (y + 1) p = 0
    · rw [z] at hv
      (repeat (first | (with_reducible apply wm_o; focus (simp (disch := omega) only [wr_id, Int.toNat_natCast, Int.reduceToNat, tn_lk, tn_kl, if_pos, if_neg, ↓reduceIte, and_self, and_true, true_and, hdI_c, FRows so_in, g1, g2, hv, hpa]; with_reducible rfl)) | (with_reducible apply wm_q) | (with_reducible apply wm_c; focus (first | assumption | decide +kernel)) | (with_reducible apply wm_d; focus (simp (disch := omega) only [wr_id, Int.toNat_natCast, Int.reduceToNat, tn_lk, tn_kl, if_pos, if_neg, ↓reduceIte, and_self, and_true, true_and, hdI_c, FRows so_in, g1, g2, hv, hpa]; with_reducible rfl)) | (with_reducible apply wm_t; focus (first | omega | (simp (disch := omega) only [wr_id, hdI_c, FRows so_in, g1, g2, hv, hpa]; omega) | (simp (disch := omega) only [wr_id, hdI_c, FRows so_in, g1, g2, hv, hpa]; done))) | (with_reducible apply wm_f; focus (first | omega | (simp (disch := omega) only [wr_id, hdI_c, FRows so_in, g1, g2, hv, hpa]; omega) | (simp (disch := omega) only [wr_id, hdI_c, FRows so_in, g1, g2, hv, hpa]; done)))))
      exact hrec (i + 1) _ _ _ (by omega) (by omega) ⟨by omega, hJ, l1 ++ [p], l, e', by rw [List.length_append, el]; rfl, rfl, keep (fun q => q.1 z)⟩
    · by_cases zf : fill w h cl na y into p = true
      · rw [if_pos zf] at hfi
        generalize hW : Wr w h cl na nd (h - (y + 1)) (y + 1) p = W at hv hWl z
        (repeat (first | (with_reducible apply wm_o; focus (simp (disch := omega) only [wr_id, Int.toNat_natCast, Int.reduceToNat, tn_lk, tn_kl, if_pos, if_neg, ↓reduceIte, and_self, and_true, true_and, hdI_c, FRows so_in, FShares, g1, g2, hv, hfi, hpa, r1, r2, r3, r4, r5, hW0]; with_reducible rfl)) | (with_reducible apply wm_q) | (with_reducible apply wm_c; focus (first | assumption | decide +kernel)) | (with_reducible apply wm_d; focus (simp (disch := omega) only [wr_id, Int.toNat_natCast, Int.reduceToNat, tn_lk, tn_kl, if_pos, if_neg, ↓reduceIte, and_self, and_true, true_and, hdI_c, FRows so_in, FShares, g1, g2, hv, hfi, hpa, r1, r2, r3, r4, r5, hW0]; with_reducible rfl)) | (with_reducible apply wm_t; focus (first | omega | (simp (disch := omega) only [wr_id, hdI_c, FRows so_in, FShares, g1, g2, hv, hfi, hpa, r1, r2, r3, r4, r5, hW0]; omega) | (simp (disch := omega) only [wr_id, hdI_c, FRows so_in, FShares, g1, g2, hv, hfi, hpa, r1, r2, r3, r4, r5, hW0]; done))) | (with_reducible apply wm_f; focus (first | omega | (simp (disch := omega) only [wr_id, hdI_c, FRows so_in, FShares, g1, g2, hv, hfi, hpa, r1, r2, r3, r4, r5, hW0]; omega) | (simp (disch := omega) only [wr_id, hdI_c, FRows so_in, FShares, g1, g2, hv, hfi, hpa, r1, r2, r3, r4, r5, hW0]; done)))))
        refine hrec (i + 1) _ _ _ (by omega) (by omega) ⟨by omega, frm_up hJ rfl, l1 ++ [p], l, e', by rw [List.length_append, el]; rfl, rfl, fun o ho => ?_⟩
        rw [up_g]
        by_cases eo : o = p
        · subst eo
          rw [if_pos rfl, jA o ho, if_neg (fun q => hout q.1.1), if_pos ⟨⟨by simp, by rw [hW]; exact z⟩, zf⟩]
          omega
        · rw [if_neg eo, jA o ho]
          simp [eo]
      · rw [if_neg zf] at hfi
        generalize hW : Wr w h cl na nd (h - (y + 1)) (y + 1) p = W at hv hWl z
        (repeat (first | (with_reducible apply wm_o; focus (simp (disch := omega) only [wr_id, Int.toNat_natCast, Int.reduceToNat, tn_lk, tn_kl, if_pos, if_neg, ↓reduceIte, and_self, and_true, true_and, hdI_c, FRows so_in, g1, g2, hv, hfi, hpa]; with_reducible rfl)) | (with_reducible apply wm_q) | (with_reducible apply wm_c; focus (first | assumption | decide +kernel)) | (with_reducible apply wm_d; focus (simp (disch := omega) only [wr_id, Int.toNat_natCast, Int.reduceToNat, tn_lk, tn_kl, if_pos, if_neg, ↓reduceIte, and_self, and_true, true_and, hdI_c, FRows so_in, g1, g2, hv, hfi, hpa]; with_reducible rfl)) | (with_reducible apply wm_t; focus (first | omega | (simp (disch := omega) only [wr_id, hdI_c, FRows so_in, g1, g2, hv, hfi, hpa]; omega) | (simp (disch := omega) only [wr_id, hdI_c, FRows so_in, g1, g2, hv, hfi, hpa]; done))) | (with_reducible apply wm_f; focus (first | omega | (simp (disch := omega) only [wr_id, hdI_c, FRows so_in, g1, g2, hv, hfi, hpa]; omega) | (simp (disch := omega) only [wr_id, hdI_c, FRows so_in, g1, g2, hv, hfi, hpa]; done)))))
        exact hrec (i + 1) _ _ _ (by omega) (by omega) ⟨by omega, hJ, l1 ++ [p], l, e', by rw [List.length_append, el]; rfl, rfl, keep (fun q => zf q.2)⟩
theorem gk_r {y : Nat} (hy : y < 7) : K0 (339 + y) = (20, 64) := (gd_k 338 gd_r).2.2.2.2 y hy |>.2
theorem inO_m {y into o : Nat} (ho : o < 64) : (o ∈ subs (room w h cl nd y into) ∧ fill w h cl na y into o = true) ↔ inO w h cl na nd y into o = true := by
  unfold inO subs
  rw [List.mem_filter, List.mem_range, Bool.and_eq_true]
  exact ⟨fun q => ⟨q.1.2, q.2⟩, fun q => ⟨⟨ho, q.1⟩, q.2⟩⟩
theorem w_countReach (c : rCfg I 324 w h cl na nd) (hW : wyR I 324 w h cl na nd) (hn : ∀ x, na x = true → cl x = false) : wm t d rt (f_X5_countReach 337 324 (mm t d rt I)) (fun _ J => frm (fun a => 339 ≤ a ∧ a ≤ 345) I J ∧ ∀ y, y ≤ h → ∀ m, m < 2 ^ w → J (339 + y) m = (Rc w h cl na nd y m : Int)) := by
  have c0 := c
  obtain ⟨c1, c2, c3, c4, c5, c6, c7, c8, c9, c10, c11⟩ := c
  have hp6 : 2 ^ w ≤ 2 ^ 6 := Nat.pow_le_pow_right (by decide) c5
  have hp := Nat.two_pow_pos w
  have kr := so_k
  have cS : ∀ J : Nat → Nat → Int, frm (fun a => 339 ≤ a ∧ a ≤ 345) I J → rCfg J 324 w h cl na nd := fun J hJ => rCfg_frm (hJ _ (by omega)) (hJ _ (by omega)) (hJ _ (by omega)) (hJ _ (by omega)) (hJ _ (by omega)) c0
  unfold f_X5_countReach
  refine wm_lp2 (h + 1) (fun i y J => y = (i : Int) ∧ frm (fun a => 339 ≤ a ∧ a ≤ 345) I J ∧ ∀ y, y < i → ∀ m, m < 64 → J (339 + y) m = 0) ?_ (Nat.lt_of_le_of_lt (show h + 1 ≤ 7 by omega) (jfuel_n (by decide))) ⟨rfl, frm_refl _ _, fun y hy => by omega⟩
  rintro i hi y J ⟨rfl, hJ, jA⟩ rec hrec
  have j6 := (cS J hJ).2.1
  by_cases e : i = h + 1
  · subst e
    have r1 := fun (J : Nat → Nat → Int) => g_row (t := t) (d := d) (rt := rt) (I := J) (a := 338) (y := 0) (i := 0) (b := 339) gd_r (by omega) (by omega) (by omega)
    have r2 := fun (J : Nat → Nat → Int) (i v : Int) => g_st (t := t) (d := d) (rt := rt) (I := J) (a := 338) (y := 0) (b := 339) gd_r (by omega) (by omega) i v
    (repeat (first | (with_reducible apply wm_o; focus (simp (disch := omega) only [wr_id, Int.toNat_natCast, Int.reduceToNat, tn_lk, tn_kl, if_pos, if_neg, ↓reduceIte, and_self, and_true, true_and, FRows so_in, FShares, j6, r1, r2]; with_reducible rfl)) | (with_reducible apply wm_q) | (with_reducible apply wm_c; focus (first | assumption | decide +kernel)) | (with_reducible apply wm_d; focus (simp (disch := omega) only [wr_id, Int.toNat_natCast, Int.reduceToNat, tn_lk, tn_kl, if_pos, if_neg, ↓reduceIte, and_self, and_true, true_and, FRows so_in, FShares, j6, r1, r2]; with_reducible rfl)) | (with_reducible apply wm_t; focus (first | omega | (simp (disch := omega) only [wr_id, FRows so_in, FShares, j6, r1, r2]; omega) | (simp (disch := omega) only [wr_id, FRows so_in, FShares, j6, r1, r2]; done))) | (with_reducible apply wm_f; focus (first | omega | (simp (disch := omega) only [wr_id, FRows so_in, FShares, j6, r1, r2]; omega) | (simp (disch := omega) only [wr_id, FRows so_in, FShares, j6, r1, r2]; done)))))
    clear hrec rec
    refine wm_lp2 h (fun i y K => y = (i : Int) ∧ frm (fun a => 339 ≤ a ∧ a ≤ 345) I K ∧ (∀ y, y ≤ i → ∀ m, m < 2 ^ w → K (339 + y) m = (Rc w h cl na nd y m : Int)) ∧ ∀ y, i < y → y ≤ h → ∀ m, m < 64 → K (339 + y) m = 0) ?_ (Nat.lt_of_le_of_lt (show h ≤ 7 by omega) (jfuel_n (by decide))) ⟨rfl, frm_up hJ ⟨by omega, by omega⟩, ?_, ?_⟩
    · rintro i hi y K ⟨rfl, hK, kA, kB⟩ rec hrec
      have k6 := (cS K hK).2.1
      by_cases e : i = h
      · subst e
        (repeat (first | (with_reducible apply wm_o; focus (simp (disch := omega) only [wr_id, Int.toNat_natCast, Int.reduceToNat, tn_lk, tn_kl, if_pos, if_neg, ↓reduceIte, and_self, and_true, true_and, FRows so_in, k6]; with_reducible rfl)) | (with_reducible apply wm_q) | (with_reducible apply wm_c; focus (first | assumption | decide +kernel)) | (with_reducible apply wm_d; focus (simp (disch := omega) only [wr_id, Int.toNat_natCast, Int.reduceToNat, tn_lk, tn_kl, if_pos, if_neg, ↓reduceIte, and_self, and_true, true_and, FRows so_in, k6]; with_reducible rfl)) | (with_reducible apply wm_t; focus (first | omega | (simp (disch := omega) only [wr_id, FRows so_in, k6]; omega) | (simp (disch := omega) only [wr_id, FRows so_in, k6]; done))) | (with_reducible apply wm_f; focus (first | omega | (simp (disch := omega) only [wr_id, FRows so_in, k6]; omega) | (simp (disch := omega) only [wr_id, FRows so_in, k6]; done)))))
        exact wm_r ⟨hK, kA⟩
      · have hih : i < h := by omega
        (repeat (first | (with_reducible apply wm_o; focus (simp (disch := omega) only [wr_id, Int.toNat_natCast, Int.reduceToNat, tn_lk, tn_kl, if_pos, if_neg, ↓reduceIte, and_self, and_true, true_and, FRows so_in, k6]; with_reducible rfl)) | (with_reducible apply wm_q) | (with_reducible apply wm_c; focus (first | assumption | decide +kernel)) | (with_reducible apply wm_d; focus (simp (disch := omega) only [wr_id, Int.toNat_natCast, Int.reduceToNat, tn_lk, tn_kl, if_pos, if_neg, ↓reduceIte, and_self, and_true, true_and, FRows so_in, k6]; with_reducible rfl)) | (with_reducible apply wm_t; focus (first | omega | (simp (disch := omega) only [wr_id, FRows so_in, k6]; omega) | (simp (disch := omega) only [wr_id, FRows so_in, k6]; done))) | (with_reducible apply wm_f; focus (first | omega | (simp (disch := omega) only [wr_id, FRows so_in, k6]; omega) | (simp (disch := omega) only [wr_id, FRows so_in, k6]; done)))))
        have q1 := fun (J : Nat → Nat → Int) => g_row (t := t) (d := d) (rt := rt) (I := J) (a := 338) (y := i) (i := (i : Int)) (b := 339 + i) gd_r (by omega) (by omega) (by omega)
        have q2 := fun (J : Nat → Nat → Int) (k : Int) => g_ld (t := t) (d := d) (rt := rt) (I := J) (a := 338) (y := i) (b := 339 + i) gd_r (by omega) (by omega) k
        refine wm_lp2 (2 ^ w) (fun k x L => x = (k : Int) ∧ frm (fun a => a = 339 + (i + 1)) K L ∧ ∀ m, m < 2 ^ w → L (339 + (i + 1)) m = (rcS w h cl na nd i k m : Int)) ?_ (Nat.lt_of_le_of_lt hp6 (jfuel_n (by decide))) ⟨rfl, frm_refl _ _, fun m hm => ?_⟩
        · rintro k hk x L ⟨rfl, hL, lA⟩ rec2 hrec2
          have fL : frm (fun a => 339 ≤ a ∧ a ≤ 345) I L := frm_trans hK (frm_sub hL (fun a ha => by omega))
          have cL := cS L fL
          have l7 := cL.2.2.1
          by_cases ek : k = 2 ^ w
          · subst ek
            (repeat (first | (with_reducible apply wm_o; focus (simp (disch := omega) only [wr_id, Int.toNat_natCast, Int.reduceToNat, tn_lk, tn_kl, if_pos, if_neg, ↓reduceIte, and_self, and_true, true_and, FRows so_in, l7]; with_reducible rfl)) | (with_reducible apply wm_q) | (with_reducible apply wm_c; focus (first | assumption | decide +kernel)) | (with_reducible apply wm_d; focus (simp (disch := omega) only [wr_id, Int.toNat_natCast, Int.reduceToNat, tn_lk, tn_kl, if_pos, if_neg, ↓reduceIte, and_self, and_true, true_and, FRows so_in, l7]; with_reducible rfl)) | (with_reducible apply wm_t; focus (first | omega | (simp (disch := omega) only [wr_id, FRows so_in, l7]; omega) | (simp (disch := omega) only [wr_id, FRows so_in, l7]; done))) | (with_reducible apply wm_f; focus (first | omega | (simp (disch := omega) only [wr_id, FRows so_in, l7]; omega) | (simp (disch := omega) only [wr_id, FRows so_in, l7]; done)))))
            refine hrec (i + 1) _ _ (by omega) (by omega) ⟨by omega, fL, fun z z1 m hm => ?_, fun z z1 z2 m hm => ?_⟩
            · by_cases ez : z = i + 1
              · subst ez; rw [lA m hm, Rc_S]
              · rw [hL _ (by omega)]; exact kA z (by omega) m hm
            · rw [hL _ (by omega)]; exact kB z (by omega) z2 m hm
          · have hv : L (339 + i) k = (Rc w h cl na nd i k : Int) := (congrFun (hL (339 + i) (by omega)) k).trans (kA i (by omega) k (by omega))
            have hb := Rc_b (nd := nd) (by omega) c5 (by omega) c7 hn (y := i) (o := k) (by omega) (by omega)
            by_cases z : Rc w h cl na nd i k = 0
            · have hv0 : L (339 + i) k = 0 := by rw [hv, z]; rfl
              (repeat (first | (with_reducible apply wm_o; focus (simp (disch := omega) only [wr_id, Int.toNat_natCast, Int.reduceToNat, tn_lk, tn_kl, if_pos, if_neg, ↓reduceIte, and_self, and_true, true_and, FRows so_in, FShares, l7, q1, q2, hv0]; with_reducible rfl)) | (with_reducible apply wm_q) | (with_reducible apply wm_c; focus (first | assumption | decide +kernel)) | (with_reducible apply wm_d; focus (simp (disch := omega) only [wr_id, Int.toNat_natCast, Int.reduceToNat, tn_lk, tn_kl, if_pos, if_neg, ↓reduceIte, and_self, and_true, true_and, FRows so_in, FShares, l7, q1, q2, hv0]; with_reducible rfl)) | (with_reducible apply wm_t; focus (first | omega | (simp (disch := omega) only [wr_id, FRows so_in, FShares, l7, q1, q2, hv0]; omega) | (simp (disch := omega) only [wr_id, FRows so_in, FShares, l7, q1, q2, hv0]; done))) | (with_reducible apply wm_f; focus (first | omega | (simp (disch := omega) only [wr_id, FRows so_in, FShares, l7, q1, q2, hv0]; omega) | (simp (disch := omega) only [wr_id, FRows so_in, FShares, l7, q1, q2, hv0]; done)))))
              refine hrec2 (k + 1) _ _ (by omega) (by omega) ⟨by omega, hL, fun m hm => ?_⟩
              rw [lA m hm, rcS_s, z]
              split
              · rfl
              · split <;> rfl
            · generalize hG : Rc w h cl na nd i k = g at *
              (repeat (first | (with_reducible apply wm_o; focus (simp (disch := omega) only [wr_id, Int.toNat_natCast, Int.reduceToNat, tn_lk, tn_kl, if_pos, if_neg, ↓reduceIte, and_self, and_true, true_and, FRows so_in, FShares, l7, q1, q2, hv]; with_reducible rfl)) | (with_reducible apply wm_q) | (with_reducible apply wm_c; focus (first | assumption | decide +kernel)) | (with_reducible apply wm_d; focus (simp (disch := omega) only [wr_id, Int.toNat_natCast, Int.reduceToNat, tn_lk, tn_kl, if_pos, if_neg, ↓reduceIte, and_self, and_true, true_and, FRows so_in, FShares, l7, q1, q2, hv]; with_reducible rfl)) | (with_reducible apply wm_t; focus (first | omega | (simp (disch := omega) only [wr_id, FRows so_in, FShares, l7, q1, q2, hv]; omega) | (simp (disch := omega) only [wr_id, FRows so_in, FShares, l7, q1, q2, hv]; done))) | (with_reducible apply wm_f; focus (first | omega | (simp (disch := omega) only [wr_id, FRows so_in, FShares, l7, q1, q2, hv]; omega) | (simp (disch := omega) only [wr_id, FRows so_in, FShares, l7, q1, q2, hv]; done)))))
              refine wm_b (w_reachOn cL hn hih (by omega) (fun m hm => ?_) hv) (fun v L2 hL2 => ?_)
              · rw [fL _ (by omega)]; exact hW (i + 1) (by omega) m hm
              · refine hrec2 (k + 1) _ _ (by omega) (by omega) ⟨by omega, frm_trans hL hL2.1, fun m hm => ?_⟩
                rw [hL2.2 m (by omega), lA m hm, rcS_s, hG]
                have hio := inO_m (w := w) (h := h) (cl := cl) (na := na) (nd := nd) (y := i) (into := k) (o := m) (by omega)
                by_cases z1 : Wr w h cl na nd (h - (i + 1)) (i + 1) m = 0
                · rw [if_neg (fun q => q.1.2 z1), if_pos z1]; omega
                · rw [if_neg z1]
                  by_cases z2 : inO w h cl na nd i k m = true
                  · have := hio.mpr z2
                    rw [if_pos ⟨⟨this.1, z1⟩, this.2⟩, if_pos z2]; omega
                  · rw [if_neg (fun q => z2 (hio.mp ⟨q.1.1, q.2⟩)), if_neg z2]; omega
        · rw [kB (i + 1) (by omega) (by omega) m (by omega), rcS_0]; rfl
    · intro y hy m hm
      obtain rfl : y = 0 := by omega
      show up J 339 0 1 339 m = _
      rw [up_g, Rc]
      by_cases em : m = 0
      · rw [if_pos em, if_pos em]; rfl
      · rw [if_neg em, if_neg em]; exact jA 0 (by omega) m (by omega)
    · intro y h1 h2 m hm
      rw [up_ne (by omega)]
      exact jA y (by omega) m hm
  · have r1 := fun (J : Nat → Nat → Int) => g_row (t := t) (d := d) (rt := rt) (I := J) (a := 338) (y := i) (i := (i : Int)) (b := 339 + i) gd_r (by omega) (by omega) (by omega)
    have hf := fun (J : Nat → Nat → Int) => w_fill (t := t) (d := d) (rt := rt) (I := J) (gk_r (y := i) (by omega)) (by omega) (by omega) 0
    (repeat (first | (with_reducible apply wm_o; focus (simp (disch := omega) only [wr_id, Int.toNat_natCast, Int.reduceToNat, tn_lk, tn_kl, if_pos, if_neg, ↓reduceIte, and_self, and_true, true_and, FRows so_in, FShares, j6, r1, hf]; with_reducible rfl)) | (with_reducible apply wm_q) | (with_reducible apply wm_c; focus (first | assumption | decide +kernel)) | (with_reducible apply wm_d; focus (simp (disch := omega) only [wr_id, Int.toNat_natCast, Int.reduceToNat, tn_lk, tn_kl, if_pos, if_neg, ↓reduceIte, and_self, and_true, true_and, FRows so_in, FShares, j6, r1, hf]; with_reducible rfl)) | (with_reducible apply wm_t; focus (first | omega | (simp (disch := omega) only [wr_id, FRows so_in, FShares, j6, r1, hf]; omega) | (simp (disch := omega) only [wr_id, FRows so_in, FShares, j6, r1, hf]; done))) | (with_reducible apply wm_f; focus (first | omega | (simp (disch := omega) only [wr_id, FRows so_in, FShares, j6, r1, hf]; omega) | (simp (disch := omega) only [wr_id, FRows so_in, FShares, j6, r1, hf]; done)))))
    refine hrec (i + 1) _ _ (by omega) (by omega) ⟨by omega, frm_trans hJ (fun a ha => flne (by omega)), fun y hy m hm => ?_⟩
    by_cases ey : y = i
    · subst ey; rw [fl_in hm]
    · rw [fl_ne (by omega)]; exact jA y (by omega) m hm
theorem s_passing {Y b : Nat} (h7 : I 324 7 = ((2 ^ w - 1 : Nat) : Int)) (hw6 : w ≤ 6) (hY : Y < 7) (hb : b < w) {A B : Nat → Nat} (hA : ∀ m, m < 2 ^ w → I (339 + Y) m = (A m : Int)) (hB : ∀ m, m < 2 ^ w → I (329 + Y) m = (B m : Int)) : f_X5_passing 337 324 (Y : Int) ((2 ^ b : Nat) : Int) (mm t d rt I) = some (((((List.range (2 ^ w)).map (fun o => if o.testBit b then A o * B o else 0)).sum : Nat) : Int), mm t d rt I) := by
  have hp6 : 2 ^ w ≤ 2 ^ 6 := Nat.pow_le_pow_right (by decide) hw6
  have hp := Nat.two_pow_pos w
  have hb6 : 2 ^ b < 64 := Nat.lt_of_lt_of_le (Nat.pow_lt_pow_right (by decide) (show b < 6 by omega)) (by decide)
  have g1 := g_row (t := t) (d := d) (rt := rt) (I := I) (a := 328) (y := Y) (i := (Y : Int)) (b := 329 + Y) gd_s (by omega) (by omega) (by omega)
  have g2 := fun (i : Int) => g_ld (t := t) (d := d) (rt := rt) (I := I) (a := 328) (y := Y) (b := 329 + Y) gd_s (by omega) (by omega) i
  have r1 := g_row (t := t) (d := d) (rt := rt) (I := I) (a := 338) (y := Y) (i := (Y : Int)) (b := 339 + Y) gd_r (by omega) (by omega) (by omega)
  have r2 := fun (i : Int) => g_ld (t := t) (d := d) (rt := rt) (I := I) (a := 338) (y := Y) (b := 339 + Y) gd_r (by omega) (by omega) i
  refine wm_eq ?_
  unfold f_X5_passing
  refine wm_lq2 (2 ^ w) (fun i a y => a = (((((List.range i).map (fun o => if o.testBit b then A o * B o else 0)).sum : Nat) : Int)) ∧ y = (i : Int)) ?_ (Nat.lt_of_le_of_lt hp6 (jfuel_n (by decide))) ⟨rfl, rfl⟩
  rintro i hi a y ⟨rfl, rfl⟩ rec hrec
  by_cases e : i = 2 ^ w
  · subst e
    (repeat (first | (with_reducible apply wm_o; focus (simp (disch := omega) only [wr_id, Int.toNat_natCast, Int.reduceToNat, tn_lk, tn_kl, if_pos, if_neg, ↓reduceIte, and_self, and_true, true_and, FRows so_in, h7]; with_reducible rfl)) | (with_reducible apply wm_q) | (with_reducible apply wm_c; focus (first | assumption | decide +kernel)) | (with_reducible apply wm_d; focus (simp (disch := omega) only [wr_id, Int.toNat_natCast, Int.reduceToNat, tn_lk, tn_kl, if_pos, if_neg, ↓reduceIte, and_self, and_true, true_and, FRows so_in, h7]; with_reducible rfl)) | (with_reducible apply wm_t; focus (first | omega | (simp (disch := omega) only [wr_id, FRows so_in, h7]; omega) | (simp (disch := omega) only [wr_id, FRows so_in, h7]; done))) | (with_reducible apply wm_f; focus (first | omega | (simp (disch := omega) only [wr_id, FRows so_in, h7]; omega) | (simp (disch := omega) only [wr_id, FRows so_in, h7]; done)))))
    exact wm_r ⟨rfl, rfl⟩
  · have ea := and_n (a := i) (b := 2 ^ b) (by omega) (by omega)
    have tb := tb_bit i (by omega) b (by omega)
    have al : i &&& 2 ^ b ≤ i := Nat.and_le_left
    have es : ((List.range (i + 1)).map (fun o => if o.testBit b then A o * B o else 0)).sum = ((List.range i).map (fun o => if o.testBit b then A o * B o else 0)).sum + (if i.testBit b then A i * B i else 0) := by
      rw [List.range_succ, List.map_append, List.sum_append]
      simp
    have hA' := hA i (by omega)
    have hB' := hB i (by omega)
    by_cases z : i.testBit b = false
    · have z2 := tb.mpr z
      rw [z2] at ea
      rw [z, if_neg (by decide)] at es
      (repeat (first | (with_reducible apply wm_o; focus (simp (disch := omega) only [wr_id, Int.toNat_natCast, Int.reduceToNat, tn_lk, tn_kl, if_pos, if_neg, ↓reduceIte, and_self, and_true, true_and, FRows so_in, h7, ea]; with_reducible rfl)) | (with_reducible apply wm_q) | (with_reducible apply wm_c; focus (first | assumption | decide +kernel)) | (with_reducible apply wm_d; focus (simp (disch := omega) only [wr_id, Int.toNat_natCast, Int.reduceToNat, tn_lk, tn_kl, if_pos, if_neg, ↓reduceIte, and_self, and_true, true_and, FRows so_in, h7, ea]; with_reducible rfl)) | (with_reducible apply wm_t; focus (first | omega | (simp (disch := omega) only [wr_id, FRows so_in, h7, ea]; omega) | (simp (disch := omega) only [wr_id, FRows so_in, h7, ea]; done))) | (with_reducible apply wm_f; focus (first | omega | (simp (disch := omega) only [wr_id, FRows so_in, h7, ea]; omega) | (simp (disch := omega) only [wr_id, FRows so_in, h7, ea]; done)))))
      exact hrec (i + 1) _ _ (by omega) (by omega) ⟨by rw [es, Nat.add_zero], by omega⟩
    · have z2 : ¬ i &&& 2 ^ b = 0 := fun q => z (tb.mp q)
      rw [if_pos (by simpa using z)] at es
      (repeat (first | (with_reducible apply wm_o; focus (simp (disch := omega) only [wr_id, Int.toNat_natCast, Int.reduceToNat, tn_lk, tn_kl, if_pos, if_neg, ↓reduceIte, and_self, and_true, true_and, FRows so_in, FShares, h7, ea, g1, g2, r1, r2, hA', hB']; with_reducible rfl)) | (with_reducible apply wm_q) | (with_reducible apply wm_c; focus (first | assumption | decide +kernel)) | (with_reducible apply wm_d; focus (simp (disch := omega) only [wr_id, Int.toNat_natCast, Int.reduceToNat, tn_lk, tn_kl, if_pos, if_neg, ↓reduceIte, and_self, and_true, true_and, FRows so_in, FShares, h7, ea, g1, g2, r1, r2, hA', hB']; with_reducible rfl)) | (with_reducible apply wm_t; focus (first | omega | (simp (disch := omega) only [wr_id, FRows so_in, FShares, h7, ea, g1, g2, r1, r2, hA', hB']; omega) | (simp (disch := omega) only [wr_id, FRows so_in, FShares, h7, ea, g1, g2, r1, r2, hA', hB']; done))) | (with_reducible apply wm_f; focus (first | omega | (simp (disch := omega) only [wr_id, FRows so_in, FShares, h7, ea, g1, g2, r1, r2, hA', hB']; omega) | (simp (disch := omega) only [wr_id, FRows so_in, FShares, h7, ea, g1, g2, r1, r2, hA', hB']; done)))))
      exact hrec (i + 1) _ _ (by omega) (by omega) ⟨by rw [es, Int.natCast_add, Int.natCast_mul], by omega⟩
end SH
