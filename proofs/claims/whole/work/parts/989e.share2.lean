/-! ===== shares, cell by cell ===== -/
section SR
variable {t d rt : Nat} {I : Nat → Nat → Int} {r w h n : Nat} {cl na nd : Nat → Bool}
theorem s_isClosed (hrm : r ∈ [311, 324]) (c : rCfg I r w h cl na nd) {x y : Nat} (hx : x < w) (hy : y < h) : f_X4_isClosed r (x : Int) (y : Int) (mm t d rt I) = some (if cl (y * w + x) then 1 else 0, mm t d rt I) := by
  obtain ⟨c1, c2, c3, c4, c5, c6, c7, c8, c9, c10, c11⟩ := c
  have kr : (K0 r).1 = 4 ∧ r < 418 := ⟨(FRows_k r hrm).1, (FRows_k r hrm).2.1⟩
  have hb := q_bit (t := t) (d := d) (rt := rt) hrm c1 c5 hx
  have e8 := c8 y (by omega)
  have l1 := clM_lt (h := h) (cl := cl) y c5
  have l2 : 2 ^ (w - 1 - x) < 64 := Nat.lt_of_le_of_lt (Nat.pow_le_pow_right (by decide) (show w - 1 - x ≤ 5 by omega)) (by decide)
  have ea := and_n (a := clM w h cl y) (b := 2 ^ (w - 1 - x)) (by omega) (by omega)
  have al : clM w h cl y &&& 2 ^ (w - 1 - x) ≤ clM w h cl y := Nat.and_le_left
  have tb := tb_bit (clM w h cl y) l1 (w - 1 - x) (by omega)
  rw [clM_tb] at tb
  have ec : clB w y (w - 1 - x) = y * w + x := by unfold clB; omega
  rw [ec, decide_eq_true (show w - 1 - x < w by omega), decide_eq_false (show ¬ h ≤ y by omega), Bool.true_and, Bool.false_or] at tb
  refine wm_eq ?_
  unfold f_X4_isClosed
  by_cases z : cl (y * w + x) = true
  · have z2 : ¬ clM w h cl y &&& 2 ^ (w - 1 - x) = 0 := fun q => by rw [tb.mp q] at z; cases z
    rw [if_pos z]
    (repeat (first | (with_reducible apply wm_o; focus (simp (disch := omega) only [wr_id, Int.toNat_natCast, Int.reduceToNat, tn_lk, tn_kl, if_pos, if_neg, ↓reduceIte, and_self, and_true, true_and, FRows hrm, e8, hb, ea]; with_reducible rfl)) | (with_reducible apply wm_q) | (with_reducible apply wm_c; focus (first | assumption | decide +kernel)) | (with_reducible apply wm_d; focus (simp (disch := omega) only [wr_id, Int.toNat_natCast, Int.reduceToNat, tn_lk, tn_kl, if_pos, if_neg, ↓reduceIte, and_self, and_true, true_and, FRows hrm, e8, hb, ea]; with_reducible rfl)) | (with_reducible apply wm_t; focus (first | omega | (simp (disch := omega) only [wr_id, FRows hrm, e8, hb, ea]; omega) | (simp (disch := omega) only [wr_id, FRows hrm, e8, hb, ea]; done))) | (with_reducible apply wm_f; focus (first | omega | (simp (disch := omega) only [wr_id, FRows hrm, e8, hb, ea]; omega) | (simp (disch := omega) only [wr_id, FRows hrm, e8, hb, ea]; done)))))
    exact wm_z1 ⟨rfl, rfl⟩
  · have z2 := tb.mpr (by simpa using z)
    rw [z2] at ea
    rw [if_neg z]
    (repeat (first | (with_reducible apply wm_o; focus (simp (disch := omega) only [wr_id, Int.toNat_natCast, Int.reduceToNat, tn_lk, tn_kl, if_pos, if_neg, ↓reduceIte, and_self, and_true, true_and, FRows hrm, e8, hb, ea]; with_reducible rfl)) | (with_reducible apply wm_q) | (with_reducible apply wm_c; focus (first | assumption | decide +kernel)) | (with_reducible apply wm_d; focus (simp (disch := omega) only [wr_id, Int.toNat_natCast, Int.reduceToNat, tn_lk, tn_kl, if_pos, if_neg, ↓reduceIte, and_self, and_true, true_and, FRows hrm, e8, hb, ea]; with_reducible rfl)) | (with_reducible apply wm_t; focus (first | omega | (simp (disch := omega) only [wr_id, FRows hrm, e8, hb, ea]; omega) | (simp (disch := omega) only [wr_id, FRows hrm, e8, hb, ea]; done))) | (with_reducible apply wm_f; focus (first | omega | (simp (disch := omega) only [wr_id, FRows hrm, e8, hb, ea]; omega) | (simp (disch := omega) only [wr_id, FRows hrm, e8, hb, ea]; done)))))
    exact wm_z0 ⟨rfl, rfl⟩
theorem ac_cl {x : Nat} (h' : cl x = true) : acC w n na nd cl x = 0 := by
  unfold acC
  rw [List.countP_eq_zero]
  intro p hp q
  have := (Lp_wy hp x).1 h'
  rw [this] at q
  cases q
theorem dn_cl {x : Nat} (h' : cl x = true) : dnC w n na nd cl x = 0 := by
  unfold dnC
  rw [List.countP_eq_zero]
  intro p hp q
  have := (Lp_wy hp x).1 h'
  rw [this] at q
  cases q
theorem four_C (hw : 1 < w) {x : Nat} (hx : x < n) (hU : cl x = false) : acC w n na nd cl x + dnC w n na nd cl x + (if x % w = 0 then 0 else acC w n na nd cl (x - 1)) + (if x < w then 0 else dnC w n na nd cl (x - w)) = Np w n na nd n 0 cl := four_ways hw hx hU
theorem w_shareRow (hrd : ∀ a, 337 ≤ a → a ≤ 347 → True) (c : rCfg I 324 w h cl na nd) (hW : wyR I 324 w h cl na nd) (hn : ∀ x, na x = true → cl x = false) (hnw : n = w * h) (h3 : I 337 3 = (w : Int)) (hD : ∀ x, x < n → I 346 x = (dnC w n na nd cl x : Int)) {y : Nat} (hy : y < h) (hA : ∀ x, x < y * w → I 347 x = (acC w n na nd cl x : Int)) : wm t d rt (f_X5_shareRow 337 324 (y : Int) (mm t d rt I)) (fun _ J => frm (fun a => a = 347) I J ∧ ∀ x, x < (y + 1) * w → J 347 x = (acC w n na nd cl x : Int)) := by
  have c0 := c
  obtain ⟨c1, c2, c3, c4, c5, c6, c7, c8, c9, c10, c11⟩ := c
  have kr := so_k
  have w0 := wr_0
  have hyw : (y + 1) * w ≤ n := by
    rw [hnw, Nat.mul_comm w h]; exact Nat.mul_le_mul_right w hy
  rw [Nat.add_mul, Nat.one_mul] at hyw
  have hn36 : n ≤ 36 := by rw [hnw]; exact Nat.mul_le_mul c5 c7
  unfold f_X5_shareRow
  refine wm_lp3 w (fun i a x J => a = (if i = 0 then 0 else (acC w n na nd cl (y * w + i - 1) : Int)) ∧ x = (i : Int) ∧ frm (fun a => a = 347) I J ∧ ∀ x, x < y * w + i → J 347 x = (acC w n na nd cl x : Int)) ?_ (Nat.lt_of_le_of_lt c5 (jfuel_n (by decide))) ⟨rfl, rfl, frm_refl _ _, hA⟩
  rintro i hi a x J ⟨ea, rfl, hJ, jA⟩ rec hrec
  have j3 : J 337 3 = (w : Int) := by rw [hJ _ (by omega)]; exact h3
  by_cases e : i = w
  · subst e
    (repeat (first | (with_reducible apply wm_o; focus (simp (disch := omega) only [wr_id, Int.toNat_natCast, Int.reduceToNat, tn_lk, tn_kl, if_pos, if_neg, ↓reduceIte, and_self, and_true, true_and, FShares, j3]; with_reducible rfl)) | (with_reducible apply wm_q) | (with_reducible apply wm_c; focus (first | assumption | decide +kernel)) | (with_reducible apply wm_d; focus (simp (disch := omega) only [wr_id, Int.toNat_natCast, Int.reduceToNat, tn_lk, tn_kl, if_pos, if_neg, ↓reduceIte, and_self, and_true, true_and, FShares, j3]; with_reducible rfl)) | (with_reducible apply wm_t; focus (first | omega | (simp (disch := omega) only [wr_id, FShares, j3]; omega) | (simp (disch := omega) only [wr_id, FShares, j3]; done))) | (with_reducible apply wm_f; focus (first | omega | (simp (disch := omega) only [wr_id, FShares, j3]; omega) | (simp (disch := omega) only [wr_id, FShares, j3]; done)))))
    exact wm_r ⟨hJ, fun x hx => jA x (by rw [Nat.add_mul, Nat.one_mul] at hx; exact hx)⟩
  · have hiw : i < w := by omega
    have cJ : rCfg J 324 w h cl na nd := rCfg_frm (hJ _ (by omega)) (hJ _ (by omega)) (hJ _ (by omega)) (hJ _ (by omega)) (hJ _ (by omega)) c0
    have wJ : wyR J 324 w h cl na nd := fun y' hy' m hm => by rw [hJ _ (by omega)]; exact hW y' hy' m hm
    have hcl := s_isClosed (t := t) (d := d) (rt := rt) so_in cJ hiw hy
    have ht := c_tot (t := t) (d := d) (rt := rt) so_in cJ wJ hn hnw
    have hmd : (y * w + i) % w = i := by rw [Nat.mul_comm, Nat.mul_add_mod, Nat.mod_eq_of_lt hiw]
    obtain ⟨q, hq⟩ : ∃ q, q = y * w + i := ⟨_, rfl⟩
    have eq : (y : Int) * (w : Int) + (i : Int) = (q : Int) := by rw [hq, Int.natCast_add, Int.natCast_mul]
    have hqn : q < n := by omega
    have hdq : J 346 q = (dnC w n na nd cl q : Int) := by rw [hJ _ (by omega)]; exact hD q hqn
    rw [← hq] at hcl hmd
    -- what is stored, once it is known
    have fin : ∀ v : Int, v = (acC w n na nd cl q : Int) → wm t d rt (rec v ((i : Int) + 1) (mm t d rt (up J 347 q v))) (fun _ J => frm (fun a => a = 347) I J ∧ ∀ x, x < (y + 1) * w → J 347 x = (acC w n na nd cl x : Int)) := by
      intro v hv
      refine hrec (i + 1) _ _ _ (by omega) (by omega) ⟨by rw [if_neg (by omega), hv, hq]; rfl, by omega, frm_up hJ rfl, fun x hx => ?_⟩
      rw [up_g]
      by_cases ex : x = q
      · rw [if_pos ex, ex, hv]
      · rw [if_neg ex]; exact jA x (by omega)
    by_cases zc : cl q = true
    · rw [if_pos zc] at hcl
      have z0 := ac_cl (w := w) (n := n) (na := na) (nd := nd) zc
      by_cases zy : y = 0
      · subst zy
        (repeat (first | (with_reducible apply wm_o; focus (simp (disch := omega) only [wr_id, Int.toNat_natCast, Int.reduceToNat, tn_lk, tn_kl, if_pos, if_neg, ↓reduceIte, and_self, and_true, true_and, FShares, j3, hcl, eq, up_g]; with_reducible rfl)) | (with_reducible apply wm_q) | (with_reducible apply wm_c; focus (first | assumption | decide +kernel)) | (with_reducible apply wm_d; focus (simp (disch := omega) only [wr_id, Int.toNat_natCast, Int.reduceToNat, tn_lk, tn_kl, if_pos, if_neg, ↓reduceIte, and_self, and_true, true_and, FShares, j3, hcl, eq, up_g]; with_reducible rfl)) | (with_reducible apply wm_t; focus (first | omega | (simp (disch := omega) only [wr_id, FShares, j3, hcl, eq, up_g]; omega) | (simp (disch := omega) only [wr_id, FShares, j3, hcl, eq, up_g]; done))) | (with_reducible apply wm_f; focus (first | omega | (simp (disch := omega) only [wr_id, FShares, j3, hcl, eq, up_g]; omega) | (simp (disch := omega) only [wr_id, FShares, j3, hcl, eq, up_g]; done)))))
        exact fin 0 (by rw [z0]; rfl)
      · have hyw2 : w ≤ y * w := Nat.le_mul_of_pos_left w (by omega)
        have eq2 : (q : Int) - (w : Int) = ((q - w : Nat) : Int) := by omega
        (repeat (first | (with_reducible apply wm_o; focus (simp (disch := omega) only [wr_id, Int.toNat_natCast, Int.reduceToNat, tn_lk, tn_kl, if_pos, if_neg, ↓reduceIte, and_self, and_true, true_and, FShares, j3, hcl, eq, eq2, up_g]; with_reducible rfl)) | (with_reducible apply wm_q) | (with_reducible apply wm_c; focus (first | assumption | decide +kernel)) | (with_reducible apply wm_d; focus (simp (disch := omega) only [wr_id, Int.toNat_natCast, Int.reduceToNat, tn_lk, tn_kl, if_pos, if_neg, ↓reduceIte, and_self, and_true, true_and, FShares, j3, hcl, eq, eq2, up_g]; with_reducible rfl)) | (with_reducible apply wm_t; focus (first | omega | (simp (disch := omega) only [wr_id, FShares, j3, hcl, eq, eq2, up_g]; omega) | (simp (disch := omega) only [wr_id, FShares, j3, hcl, eq, eq2, up_g]; done))) | (with_reducible apply wm_f; focus (first | omega | (simp (disch := omega) only [wr_id, FShares, j3, hcl, eq, eq2, up_g]; omega) | (simp (disch := omega) only [wr_id, FShares, j3, hcl, eq, eq2, up_g]; done)))))
        exact fin 0 (by rw [z0]; rfl)
    · rw [if_neg zc] at hcl
      have hf := four_C (w := w) (n := n) (na := na) (nd := nd) (cl := cl) (by omega) hqn (by simpa using zc)
      rw [hmd] at hf
      have ha : a = if i = 0 then 0 else (acC w n na nd cl (q - 1) : Int) := by rw [ea, hq]
      by_cases zy : y = 0
      · subst zy
        rw [if_pos (show q < w by omega)] at hf
        (repeat (first | (with_reducible apply wm_o; focus (simp (disch := omega) only [wr_id, Int.toNat_natCast, Int.reduceToNat, tn_lk, tn_kl, if_pos, if_neg, ↓reduceIte, and_self, and_true, true_and, FShares, j3, hcl, eq, ht, hdq, up_g]; with_reducible rfl)) | (with_reducible apply wm_q) | (with_reducible apply wm_c; focus (first | assumption | decide +kernel)) | (with_reducible apply wm_d; focus (simp (disch := omega) only [wr_id, Int.toNat_natCast, Int.reduceToNat, tn_lk, tn_kl, if_pos, if_neg, ↓reduceIte, and_self, and_true, true_and, FShares, j3, hcl, eq, ht, hdq, up_g]; with_reducible rfl)) | (with_reducible apply wm_t; focus (first | omega | (simp (disch := omega) only [wr_id, FShares, j3, hcl, eq, ht, hdq, up_g]; omega) | (simp (disch := omega) only [wr_id, FShares, j3, hcl, eq, ht, hdq, up_g]; done))) | (with_reducible apply wm_f; focus (first | omega | (simp (disch := omega) only [wr_id, FShares, j3, hcl, eq, ht, hdq, up_g]; omega) | (simp (disch := omega) only [wr_id, FShares, j3, hcl, eq, ht, hdq, up_g]; done)))))
        refine fin _ ?_
        rw [ha]
        by_cases zi : i = 0
        · rw [if_pos zi] at hf ⊢; omega
        · rw [if_neg zi] at hf ⊢; omega
      · have hyw2 : w ≤ y * w := Nat.le_mul_of_pos_left w (by omega)
        have eq2 : (q : Int) - (w : Int) = ((q - w : Nat) : Int) := by omega
        have hdw : J 346 (q - w) = (dnC w n na nd cl (q - w) : Int) := by rw [hJ _ (by omega)]; exact hD (q - w) (by omega)
        rw [if_neg (show ¬ q < w by omega)] at hf
        (repeat (first | (with_reducible apply wm_o; focus (simp (disch := omega) only [wr_id, Int.toNat_natCast, Int.reduceToNat, tn_lk, tn_kl, if_pos, if_neg, ↓reduceIte, and_self, and_true, true_and, FShares, j3, hcl, eq, eq2, ht, hdq, hdw, up_g]; with_reducible rfl)) | (with_reducible apply wm_q) | (with_reducible apply wm_c; focus (first | assumption | decide +kernel)) | (with_reducible apply wm_d; focus (simp (disch := omega) only [wr_id, Int.toNat_natCast, Int.reduceToNat, tn_lk, tn_kl, if_pos, if_neg, ↓reduceIte, and_self, and_true, true_and, FShares, j3, hcl, eq, eq2, ht, hdq, hdw, up_g]; with_reducible rfl)) | (with_reducible apply wm_t; focus (first | omega | (simp (disch := omega) only [wr_id, FShares, j3, hcl, eq, eq2, ht, hdq, hdw, up_g]; omega) | (simp (disch := omega) only [wr_id, FShares, j3, hcl, eq, eq2, ht, hdq, hdw, up_g]; done))) | (with_reducible apply wm_f; focus (first | omega | (simp (disch := omega) only [wr_id, FShares, j3, hcl, eq, eq2, ht, hdq, hdw, up_g]; omega) | (simp (disch := omega) only [wr_id, FShares, j3, hcl, eq, eq2, ht, hdq, hdw, up_g]; done)))))
        refine fin _ ?_
        rw [ha]
        by_cases zi : i = 0
        · rw [if_pos zi] at hf ⊢; omega
        · rw [if_neg zi] at hf ⊢; omega
/-- what the shares hold -/
def shR (J : Nat → Nat → Int) (w n : Nat) (na nd cl : Nat → Bool) : Prop := J 337 3 = (w : Int) ∧ (∀ x, x < n → J 346 x = (dnC w n na nd cl x : Int)) ∧ ∀ x, x < n → J 347 x = (acC w n na nd cl x : Int)
theorem dn_C (hw : 1 < w) (hw6 : w ≤ 6) (hh : 0 < h) (hn : ∀ x, na x = true → cl x = false) (hnw : n = w * h) {x y : Nat} (hx : x < w) (hy : y < h) : ((List.range (2 ^ w)).map (fun o => if o.testBit (w - 1 - x) then Rc w h cl na nd (y + 1) o * Wr w h cl na nd (h - (y + 1)) (y + 1) o else 0)).sum = dnC w n na nd cl (y * w + x) := by
  rw [dn_share hw hw6 hh hn hy (show w - 1 - x < w by omega)]
  have ec : clB w y (w - 1 - x) = y * w + x := by unfold clB; omega
  unfold dnN dnC
  rw [ec, Uc_0, Nat.zero_mul, Nat.sub_zero, Nat.mul_comm h w, hnw]
theorem w_share (c : rCfg I 324 w h cl na nd) (hW : wyR I 324 w h cl na nd) (hn : ∀ x, na x = true → cl x = false) (hnw : n = w * h) : wm t d rt (f_X5_share 337 324 (mm t d rt I)) (fun _ J => frm (fun a => 337 ≤ a ∧ a ≤ 347) I J ∧ shR J w n na nd cl) := by
  have c0 := c
  obtain ⟨c1, c2, c3, c4, c5, c6, c7, c8, c9, c10, c11⟩ := c
  have kr := so_k
  have k5 : (K0 337).1 = 5 ∧ 337 < 418 := by decide +kernel
  have hn36 : n ≤ 36 := by rw [hnw]; exact Nat.mul_le_mul c5 c7
  have cS : ∀ J : Nat → Nat → Int, frm (fun a => 337 ≤ a ∧ a ≤ 347) I J → rCfg J 324 w h cl na nd := fun J hJ => rCfg_frm (hJ _ (by omega)) (hJ _ (by omega)) (hJ _ (by omega)) (hJ _ (by omega)) (hJ _ (by omega)) c0
  have wS : ∀ J : Nat → Nat → Int, frm (fun a => 337 ≤ a ∧ a ≤ 347) I J → wyR J 324 w h cl na nd := fun J hJ y' hy' m hm => by rw [hJ _ (by omega)]; exact hW y' hy' m hm
  have rowE : ∀ y, y < h → y * w + w ≤ n := fun y hy => by
    have := Nat.mul_le_mul_right w (show y + 1 ≤ h from hy)
    rw [Nat.add_mul, Nat.one_mul] at this
    rw [hnw, Nat.mul_comm w h]
    exact this
  unfold f_X5_share
  (repeat (first | (with_reducible apply wm_o; focus (simp (disch := omega) only [wr_id, Int.toNat_natCast, Int.reduceToNat, tn_lk, tn_kl, if_pos, if_neg, ↓reduceIte, and_self, and_true, true_and, FRows so_in, FShares, c1]; with_reducible rfl)) | (with_reducible apply wm_q) | (with_reducible apply wm_c; focus (first | assumption | decide +kernel)) | (with_reducible apply wm_d; focus (simp (disch := omega) only [wr_id, Int.toNat_natCast, Int.reduceToNat, tn_lk, tn_kl, if_pos, if_neg, ↓reduceIte, and_self, and_true, true_and, FRows so_in, FShares, c1]; with_reducible rfl)) | (with_reducible apply wm_t; focus (first | omega | (simp (disch := omega) only [wr_id, FRows so_in, FShares, c1]; omega) | (simp (disch := omega) only [wr_id, FRows so_in, FShares, c1]; done))) | (with_reducible apply wm_f; focus (first | omega | (simp (disch := omega) only [wr_id, FRows so_in, FShares, c1]; omega) | (simp (disch := omega) only [wr_id, FRows so_in, FShares, c1]; done)))))
  have f0 : frm (fun a => 337 ≤ a ∧ a ≤ 347) I (up I 337 3 (w : Int)) := frm_up (frm_refl _ _) ⟨by omega, by omega⟩
  refine wm_b (w_countReach (cS _ f0) (wS _ f0) hn) (fun v J hJ => ?_)
  obtain ⟨j1, j2⟩ := hJ
  have fJ := frm_trans f0 (frm_sub (T := fun a => 337 ≤ a ∧ a ≤ 347) j1 (fun a ha => by omega))
  have J3 : J 337 3 = (w : Int) := by rw [j1 _ (by omega), up_g, if_pos rfl]
  refine wm_lp2 h (fun i y K => y = (i : Int) ∧ frm (fun a => a = 346) J K ∧ ∀ x, x < i * w → K 346 x = (dnC w n na nd cl x : Int)) ?_ (Nat.lt_of_le_of_lt c7 (jfuel_n (by decide))) ⟨rfl, frm_refl _ _, fun x hx => by omega⟩
  rintro i hi y K ⟨rfl, hK, kA⟩ rec hrec
  have fK := frm_trans fJ (frm_sub (T := fun a => 337 ≤ a ∧ a ≤ 347) hK (fun a ha => by omega))
  have cK := cS K fK
  have k6 := cK.2.1
  by_cases e : i = h
  · subst e
    (repeat (first | (with_reducible apply wm_o; focus (simp (disch := omega) only [wr_id, Int.toNat_natCast, Int.reduceToNat, tn_lk, tn_kl, if_pos, if_neg, ↓reduceIte, and_self, and_true, true_and, FRows so_in, k6]; with_reducible rfl)) | (with_reducible apply wm_q) | (with_reducible apply wm_c; focus (first | assumption | decide +kernel)) | (with_reducible apply wm_d; focus (simp (disch := omega) only [wr_id, Int.toNat_natCast, Int.reduceToNat, tn_lk, tn_kl, if_pos, if_neg, ↓reduceIte, and_self, and_true, true_and, FRows so_in, k6]; with_reducible rfl)) | (with_reducible apply wm_t; focus (first | omega | (simp (disch := omega) only [wr_id, FRows so_in, k6]; omega) | (simp (disch := omega) only [wr_id, FRows so_in, k6]; done))) | (with_reducible apply wm_f; focus (first | omega | (simp (disch := omega) only [wr_id, FRows so_in, k6]; omega) | (simp (disch := omega) only [wr_id, FRows so_in, k6]; done)))))
    clear hrec rec
    have K3 : K 337 3 = (w : Int) := by rw [hK _ (by omega)]; exact J3
    have hD : ∀ x, x < n → K 346 x = (dnC w n na nd cl x : Int) := fun x hx => kA x (by rw [Nat.mul_comm, ← hnw]; exact hx)
    refine wm_lp2 i (fun j y L => y = (j : Int) ∧ frm (fun a => a = 347) K L ∧ ∀ x, x < j * w → L 347 x = (acC w n na nd cl x : Int)) ?_ (Nat.lt_of_le_of_lt c7 (jfuel_n (by decide))) ⟨rfl, frm_refl _ _, fun x hx => by omega⟩
    rintro j hj y L ⟨rfl, hL, lA⟩ rec hrec
    have fL := frm_trans fK (frm_sub (T := fun a => 337 ≤ a ∧ a ≤ 347) hL (fun a ha => by omega))
    have cL := cS L fL
    have l6 := cL.2.1
    have L3 : L 337 3 = (w : Int) := by rw [hL _ (by omega)]; exact K3
    have hDL : ∀ x, x < n → L 346 x = (dnC w n na nd cl x : Int) := fun x hx => by rw [hL _ (by omega)]; exact hD x hx
    by_cases e : j = i
    · subst e
      (repeat (first | (with_reducible apply wm_o; focus (simp (disch := omega) only [wr_id, Int.toNat_natCast, Int.reduceToNat, tn_lk, tn_kl, if_pos, if_neg, ↓reduceIte, and_self, and_true, true_and, FRows so_in, l6]; with_reducible rfl)) | (with_reducible apply wm_q) | (with_reducible apply wm_c; focus (first | assumption | decide +kernel)) | (with_reducible apply wm_d; focus (simp (disch := omega) only [wr_id, Int.toNat_natCast, Int.reduceToNat, tn_lk, tn_kl, if_pos, if_neg, ↓reduceIte, and_self, and_true, true_and, FRows so_in, l6]; with_reducible rfl)) | (with_reducible apply wm_t; focus (first | omega | (simp (disch := omega) only [wr_id, FRows so_in, l6]; omega) | (simp (disch := omega) only [wr_id, FRows so_in, l6]; done))) | (with_reducible apply wm_f; focus (first | omega | (simp (disch := omega) only [wr_id, FRows so_in, l6]; omega) | (simp (disch := omega) only [wr_id, FRows so_in, l6]; done)))))
      exact wm_r ⟨fL, L3, hDL, fun x hx => lA x (by rw [Nat.mul_comm, ← hnw]; exact hx)⟩
    · (repeat (first | (with_reducible apply wm_o; focus (simp (disch := omega) only [wr_id, Int.toNat_natCast, Int.reduceToNat, tn_lk, tn_kl, if_pos, if_neg, ↓reduceIte, and_self, and_true, true_and, FRows so_in, l6]; with_reducible rfl)) | (with_reducible apply wm_q) | (with_reducible apply wm_c; focus (first | assumption | decide +kernel)) | (with_reducible apply wm_d; focus (simp (disch := omega) only [wr_id, Int.toNat_natCast, Int.reduceToNat, tn_lk, tn_kl, if_pos, if_neg, ↓reduceIte, and_self, and_true, true_and, FRows so_in, l6]; with_reducible rfl)) | (with_reducible apply wm_t; focus (first | omega | (simp (disch := omega) only [wr_id, FRows so_in, l6]; omega) | (simp (disch := omega) only [wr_id, FRows so_in, l6]; done))) | (with_reducible apply wm_f; focus (first | omega | (simp (disch := omega) only [wr_id, FRows so_in, l6]; omega) | (simp (disch := omega) only [wr_id, FRows so_in, l6]; done)))))
      refine wm_b (w_shareRow (fun _ _ _ => trivial) cL (wS L fL) hn hnw L3 hDL (y := j) (by omega) lA) (fun v2 L2 hL2 => ?_)
      exact hrec (j + 1) _ _ (by omega) (by omega) ⟨by omega, frm_trans hL hL2.1, hL2.2⟩
  · have hih : i < h := by omega
    (repeat (first | (with_reducible apply wm_o; focus (simp (disch := omega) only [wr_id, Int.toNat_natCast, Int.reduceToNat, tn_lk, tn_kl, if_pos, if_neg, ↓reduceIte, and_self, and_true, true_and, FRows so_in, k6]; with_reducible rfl)) | (with_reducible apply wm_q) | (with_reducible apply wm_c; focus (first | assumption | decide +kernel)) | (with_reducible apply wm_d; focus (simp (disch := omega) only [wr_id, Int.toNat_natCast, Int.reduceToNat, tn_lk, tn_kl, if_pos, if_neg, ↓reduceIte, and_self, and_true, true_and, FRows so_in, k6]; with_reducible rfl)) | (with_reducible apply wm_t; focus (first | omega | (simp (disch := omega) only [wr_id, FRows so_in, k6]; omega) | (simp (disch := omega) only [wr_id, FRows so_in, k6]; done))) | (with_reducible apply wm_f; focus (first | omega | (simp (disch := omega) only [wr_id, FRows so_in, k6]; omega) | (simp (disch := omega) only [wr_id, FRows so_in, k6]; done)))))
    refine wm_lp2 w (fun x y L => y = (x : Int) ∧ frm (fun a => a = 346) J L ∧ ∀ c, c < i * w + x → L 346 c = (dnC w n na nd cl c : Int)) ?_ (Nat.lt_of_le_of_lt c5 (jfuel_n (by decide))) ⟨rfl, hK, kA⟩
    rintro x hx y L ⟨rfl, hL, lA⟩ rec2 hrec2
    have fL := frm_trans fJ (frm_sub (T := fun a => 337 ≤ a ∧ a ≤ 347) hL (fun a ha => by omega))
    have cL := cS L fL
    have L3 : L 337 3 = (w : Int) := by rw [hL _ (by omega)]; exact J3
    by_cases e : x = w
    · subst e
      (repeat (first | (with_reducible apply wm_o; focus (simp (disch := omega) only [wr_id, Int.toNat_natCast, Int.reduceToNat, tn_lk, tn_kl, if_pos, if_neg, ↓reduceIte, and_self, and_true, true_and, FShares, L3]; with_reducible rfl)) | (with_reducible apply wm_q) | (with_reducible apply wm_c; focus (first | assumption | decide +kernel)) | (with_reducible apply wm_d; focus (simp (disch := omega) only [wr_id, Int.toNat_natCast, Int.reduceToNat, tn_lk, tn_kl, if_pos, if_neg, ↓reduceIte, and_self, and_true, true_and, FShares, L3]; with_reducible rfl)) | (with_reducible apply wm_t; focus (first | omega | (simp (disch := omega) only [wr_id, FShares, L3]; omega) | (simp (disch := omega) only [wr_id, FShares, L3]; done))) | (with_reducible apply wm_f; focus (first | omega | (simp (disch := omega) only [wr_id, FShares, L3]; omega) | (simp (disch := omega) only [wr_id, FShares, L3]; done)))))
      exact hrec (i + 1) _ _ (by omega) (by omega) ⟨by omega, hL, fun c hc => lA c (by rw [Nat.add_mul, Nat.one_mul] at hc; exact hc)⟩
    · have hxw : x < w := by omega
      have hb := q_bit (t := t) (d := d) (rt := rt) so_in cL.1 c5 hxw
      have hp := s_passing (t := t) (d := d) (rt := rt) (I := L) (Y := i + 1) (b := w - 1 - x) (w := w) cL.2.2.1 c5 (by omega) (by omega) (A := Rc w h cl na nd (i + 1)) (B := Wr w h cl na nd (h - (i + 1)) (i + 1)) (fun m hm => by rw [hL _ (by omega)]; exact j2 (i + 1) (by omega) m hm) (fun m hm => wS L fL (i + 1) (by omega) m hm)
      rw [dn_C (by omega) c5 (by omega) hn hnw hxw hih] at hp
      have ei : ((i + 1 : Nat) : Int) = (i : Int) + 1 := by omega
      rw [ei] at hp
      obtain ⟨q, hq⟩ : ∃ q, q = i * w + x := ⟨_, rfl⟩
      have eq : (i : Int) * (w : Int) + (x : Int) = (q : Int) := by rw [hq, Int.natCast_add, Int.natCast_mul]
      have hqn : q < n := by have := rowE i hih; omega
      (repeat (first | (with_reducible apply wm_o; focus (simp (disch := omega) only [wr_id, Int.toNat_natCast, Int.reduceToNat, tn_lk, tn_kl, if_pos, if_neg, ↓reduceIte, and_self, and_true, true_and, FShares, L3, hb, hp, eq]; with_reducible rfl)) | (with_reducible apply wm_q) | (with_reducible apply wm_c; focus (first | assumption | decide +kernel)) | (with_reducible apply wm_d; focus (simp (disch := omega) only [wr_id, Int.toNat_natCast, Int.reduceToNat, tn_lk, tn_kl, if_pos, if_neg, ↓reduceIte, and_self, and_true, true_and, FShares, L3, hb, hp, eq]; with_reducible rfl)) | (with_reducible apply wm_t; focus (first | omega | (simp (disch := omega) only [wr_id, FShares, L3, hb, hp, eq]; omega) | (simp (disch := omega) only [wr_id, FShares, L3, hb, hp, eq]; done))) | (with_reducible apply wm_f; focus (first | omega | (simp (disch := omega) only [wr_id, FShares, L3, hb, hp, eq]; omega) | (simp (disch := omega) only [wr_id, FShares, L3, hb, hp, eq]; done)))))
      refine hrec2 (x + 1) _ _ (by omega) (by omega) ⟨by omega, frm_up hL rfl, fun c hc => ?_⟩
      rw [up_g]
      by_cases ec : c = q
      · rw [if_pos ec, ec, hq]
      · rw [if_neg ec]; exact lA c (by omega)
theorem s_flatLeft (hs : shR I w n na nd cl) (hw : 2 ≤ w ∧ w ≤ 6) (hn : n ≤ 36) {x : Nat} (hx : x < n) : f_X5_flatWithLeft 337 (x : Int) (mm t d rt I) = some (((if x % w = 0 then 0 else acC w n na nd cl (x - 1) : Nat) : Int), mm t d rt I) := by
  obtain ⟨s1, s2, s3⟩ := hs
  have hr1 : ∀ M : jMem, f_X4_columnOf (x : Int) (w : Int) M = some (((x % w : Nat) : Int), M) := fun M => col_n (by omega) (by omega) (by omega) M
  have hm := Nat.mod_lt x (show w > 0 by omega)
  have hm2 := Nat.mod_le x w
  refine wm_eq ?_
  unfold f_X5_flatWithLeft
  by_cases z : x % w = 0
  · rw [if_pos z]
    (repeat (first | (with_reducible apply wm_o; focus (simp (disch := omega) only [wr_id, Int.toNat_natCast, Int.reduceToNat, tn_lk, tn_kl, if_pos, if_neg, ↓reduceIte, and_self, and_true, true_and, FShares, s1, hr1]; with_reducible rfl)) | (with_reducible apply wm_q) | (with_reducible apply wm_c; focus (first | assumption | decide +kernel)) | (with_reducible apply wm_d; focus (simp (disch := omega) only [wr_id, Int.toNat_natCast, Int.reduceToNat, tn_lk, tn_kl, if_pos, if_neg, ↓reduceIte, and_self, and_true, true_and, FShares, s1, hr1]; with_reducible rfl)) | (with_reducible apply wm_t; focus (first | omega | (simp (disch := omega) only [wr_id, FShares, s1, hr1]; omega) | (simp (disch := omega) only [wr_id, FShares, s1, hr1]; done))) | (with_reducible apply wm_f; focus (first | omega | (simp (disch := omega) only [wr_id, FShares, s1, hr1]; omega) | (simp (disch := omega) only [wr_id, FShares, s1, hr1]; done)))))
    exact wm_r ⟨rfl, rfl⟩
  · rw [if_neg z]
    have e : (x : Int) - 1 = ((x - 1 : Nat) : Int) := by omega
    have e3 := s3 (x - 1) (by omega)
    (repeat (first | (with_reducible apply wm_o; focus (simp (disch := omega) only [wr_id, Int.toNat_natCast, Int.reduceToNat, tn_lk, tn_kl, if_pos, if_neg, ↓reduceIte, and_self, and_true, true_and, FShares, s1, hr1, e, e3]; with_reducible rfl)) | (with_reducible apply wm_q) | (with_reducible apply wm_c; focus (first | assumption | decide +kernel)) | (with_reducible apply wm_d; focus (simp (disch := omega) only [wr_id, Int.toNat_natCast, Int.reduceToNat, tn_lk, tn_kl, if_pos, if_neg, ↓reduceIte, and_self, and_true, true_and, FShares, s1, hr1, e, e3]; with_reducible rfl)) | (with_reducible apply wm_t; focus (first | omega | (simp (disch := omega) only [wr_id, FShares, s1, hr1, e, e3]; omega) | (simp (disch := omega) only [wr_id, FShares, s1, hr1, e, e3]; done))) | (with_reducible apply wm_f; focus (first | omega | (simp (disch := omega) only [wr_id, FShares, s1, hr1, e, e3]; omega) | (simp (disch := omega) only [wr_id, FShares, s1, hr1, e, e3]; done)))))
    exact wm_r ⟨rfl, rfl⟩
theorem s_lying (hs : shR I w n na nd cl) (hw : 2 ≤ w ∧ w ≤ 6) (hn : n ≤ 36) {x : Nat} (hx : x < n) : f_X5_lyingAcross 337 (x : Int) (mm t d rt I) = some (((acC w n na nd cl x + (if x % w = 0 then 0 else acC w n na nd cl (x - 1)) : Nat) : Int), mm t d rt I) := by
  have hf := s_flatLeft (t := t) (d := d) (rt := rt) hs hw hn hx
  have e3 := hs.2.2 x hx
  refine wm_eq ?_
  unfold f_X5_lyingAcross
  (repeat (first | (with_reducible apply wm_o; focus (simp (disch := omega) only [wr_id, Int.toNat_natCast, Int.reduceToNat, tn_lk, tn_kl, if_pos, if_neg, ↓reduceIte, and_self, and_true, true_and, FShares, e3, hf]; with_reducible rfl)) | (with_reducible apply wm_q) | (with_reducible apply wm_c; focus (first | assumption | decide +kernel)) | (with_reducible apply wm_d; focus (simp (disch := omega) only [wr_id, Int.toNat_natCast, Int.reduceToNat, tn_lk, tn_kl, if_pos, if_neg, ↓reduceIte, and_self, and_true, true_and, FShares, e3, hf]; with_reducible rfl)) | (with_reducible apply wm_t; focus (first | omega | (simp (disch := omega) only [wr_id, FShares, e3, hf]; omega) | (simp (disch := omega) only [wr_id, FShares, e3, hf]; done))) | (with_reducible apply wm_f; focus (first | omega | (simp (disch := omega) only [wr_id, FShares, e3, hf]; omega) | (simp (disch := omega) only [wr_id, FShares, e3, hf]; done)))))
  exact wm_r ⟨by omega, rfl⟩
end SR
