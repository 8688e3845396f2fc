/-! ===== calls: across, frozen ===== -/
theorem clAdd_cov (U : Nat → Bool) (c : Nat) : clAdd U c = cov U c := by
  funext x
  unfold clAdd cov
  by_cases h : x = c <;> simp [h]
/-- in how many pavings the cell on side j goes with c: right, below, left, above -/
def sdV (w n : Nat) (U : Nat → Bool) (c j : Nat) : Nat := if j = 0 then acC w n noB noB U c else if j = 1 then dnC w n noB noB U c else if j = 2 then (if c % w = 0 then 0 else acC w n noB noB U (c - 1)) else (if c < w then 0 else dnC w n noB noB U (c - w))
def bsV (w n c j : Nat) : Int := if j = 0 then (if c % w + 1 < w then ((c + 1 : Nat) : Int) else -1) else if j = 1 then (if c + w < n then ((c + w : Nat) : Int) else -1) else if j = 2 then (if c % w = 0 then -1 else ((c - 1 : Nat) : Int)) else (if c < w then -1 else ((c - w : Nat) : Int))
section FZ
variable {w h n : Nat} {U : Nat → Bool}
theorem sd_sum (hw : 1 < w) {c : Nat} (hc : c < n) (hU : U c = false) : sdV w n U c 0 + sdV w n U c 1 + sdV w n U c 2 + sdV w n U c 3 = Np w n noB noB n 0 U := four_C hw hc hU
theorem ac_no {x : Nat} (h' : ¬ (U (x + 1) = false ∧ x % w + 1 < w)) : acC w n noB noB U x = 0 := by
  unfold acC
  rw [List.countP_eq_zero]
  intro p hp q
  have := (Lp_wy hp x).2.1 (by simpa using q)
  exact h' this.2
theorem dn_no {x : Nat} (h' : ¬ (U (x + w) = false ∧ x + w < n)) : dnC w n noB noB U x = 0 := by
  unfold dnC
  rw [List.countP_eq_zero]
  intro p hp q
  have := (Lp_wy hp x).2.2.1 (by simpa using q)
  exact h' this.2
theorem mod_prev {c w : Nat} (hw : 0 < w) (h0 : c % w ≠ 0) : (c - 1) % w = c % w - 1 := by
  have h1 := Nat.div_add_mod c w
  have h2 := Nat.mod_lt c hw
  have h3 : c - 1 = w * (c / w) + (c % w - 1) := by omega
  rw [h3, Nat.mul_add_mod, Nat.mod_eq_of_lt (by omega)]
/-- the model closes both cells and counts -/
theorem sd_np (hw : 1 < w) (hnw : n = w * h) {c j o : Nat} (hc : c < n) (hj : j < 4) (ho : bsV w n c j = (o : Int)) (hU : U c = false) (hO : U o = false) : Np w n noB noB n 0 (clAdd (clAdd U c) o) = sdV w n U c j := by
  rw [clAdd_cov, clAdd_cov]
  have hwn : ∀ x, (noB : Nat → Bool) x = false := fun _ => rfl
  unfold bsV at ho
  unfold sdV
  by_cases j0 : j = 0
  · subst j0
    rw [if_pos rfl] at ho ⊢
    by_cases z : c % w + 1 < w
    · rw [if_pos z] at ho
      obtain rfl : o = c + 1 := by omega
      exact Lp_stone (a := 0) (Or.inl ⟨rfl, rfl⟩) hw hwn hwn (fun _ => z) (fun q => by cases q) (by omega) (by omega) hU hO
    · rw [if_neg z] at ho; omega
  · rw [if_neg j0] at ho ⊢
    by_cases j1 : j = 1
    · subst j1
      rw [if_pos rfl] at ho ⊢
      by_cases z : c + w < n
      · rw [if_pos z] at ho
        obtain rfl : o = c + w := by omega
        exact Lp_stone (a := 1) (Or.inr ⟨rfl, rfl⟩) hw hwn hwn (fun q => by cases q) (fun _ => z) (by omega) (by omega) hU hO
      · rw [if_neg z] at ho; omega
    · rw [if_neg j1] at ho ⊢
      by_cases j2 : j = 2
      · subst j2
        rw [if_pos rfl] at ho ⊢
        by_cases z : c % w = 0
        · rw [if_pos z] at ho; omega
        · rw [if_neg z] at ho ⊢
          have hm := mod_prev (show 0 < w by omega) z
          have hm2 := Nat.mod_lt c (show w > 0 by omega)
          have hm3 := Nat.mod_le c w
          obtain rfl : o = c - 1 := by omega
          rw [cov_cov]
          exact Lp_stone (c0 := c - 1) (o0 := c) (a := 0) (Or.inl ⟨rfl, by omega⟩) hw hwn hwn (fun _ => by omega) (fun q => by cases q) (by omega) (by omega) hO hU
      · rw [if_neg j2] at ho ⊢
        by_cases z : c < w
        · rw [if_pos z] at ho; omega
        · rw [if_neg z] at ho ⊢
          obtain rfl : o = c - w := by omega
          rw [cov_cov]
          exact Lp_stone (c0 := c - w) (o0 := c) (a := 1) (Or.inr ⟨rfl, by omega⟩) hw hwn hwn (fun q => by cases q) (fun _ => by omega) (by omega) (by omega) hO hU
theorem sd_0 (hw : 1 < w) {c j : Nat} (hj : j < 4) (ho : bsV w n c j < 0 ∨ ∃ o : Nat, bsV w n c j = (o : Int) ∧ U o = true) : sdV w n U c j = 0 := by
  unfold bsV at ho
  unfold sdV
  by_cases j0 : j = 0
  · subst j0
    rw [if_pos rfl] at ho ⊢
    refine ac_no (fun q => ?_)
    rw [if_pos q.2] at ho
    rcases ho with ho | ⟨o, e, k⟩
    · omega
    · obtain rfl : o = c + 1 := by omega
      rw [q.1] at k; cases k
  · rw [if_neg j0] at ho ⊢
    by_cases j1 : j = 1
    · subst j1
      rw [if_pos rfl] at ho ⊢
      refine dn_no (fun q => ?_)
      rw [if_pos q.2] at ho
      rcases ho with ho | ⟨o, e, k⟩
      · omega
      · obtain rfl : o = c + w := by omega
        rw [q.1] at k; cases k
    · rw [if_neg j1] at ho ⊢
      by_cases j2 : j = 2
      · subst j2
        rw [if_pos rfl] at ho ⊢
        by_cases z : c % w = 0
        · rw [if_pos z]
        · rw [if_neg z] at ho ⊢
          rcases ho with ho | ⟨o, e, k⟩
          · omega
          · obtain rfl : o = c - 1 := by omega
            exact ac_cl k
      · rw [if_neg j2] at ho ⊢
        by_cases z : c < w
        · rw [if_pos z]
        · rw [if_neg z] at ho ⊢
          rcases ho with ho | ⟨o, e, k⟩
          · omega
          · obtain rfl : o = c - w := by omega
            exact dn_cl k
end FZ
section FA
variable {t d rt : Nat} {I J K : Nat → Nat → Int} {lv w h n nh r : Nat} {hl cl na nd : Nat → Bool} {sd : Int} {ifs : Nat → List LwI} {xs : Nat → List CI} {ρ : Nat → Int} {u : Nat} {H : Nat → Nat → Int} {hd : Nat → Bool} {G : Nat → Nat → Int}
theorem m_beside (c : mCfg I lv w h n) {x j : Nat} (hx : x < n) (hj : j < 4) : f_X12_cellBeside 369 (x : Int) (j : Int) (mm t d rt I) = some (bsV w n x j, mm t d rt I) := by
  have c' := c
  obtain ⟨c1, c2, c3, c4, c5, c6, c7, c8, c9, c10, c11⟩ := c
  have h0 := s_second0 (t := t) (d := d) (rt := rt) c' hx
  have h1 := s_second1 (t := t) (d := d) (rt := rt) c' hx
  have hw := s_w (t := t) (d := d) (rt := rt) c'
  have hr1 : jm_rm (x : Int) (w : Int) = some ((x % w : Nat) : Int) := rm_n (by omega) (by omega) (by omega)
  have hm := Nat.mod_lt x (show w > 0 by omega)
  have hm2 := Nat.mod_le x w
  refine wm_eq ?_
  unfold f_X12_cellBeside bsV
  have hj4 : j = 0 ∨ j = 1 ∨ j = 2 ∨ j = 3 := by omega
  rcases hj4 with rfl | rfl | rfl | rfl
  · (repeat (first | (with_reducible apply wm_o; focus (simp (disch := omega) only [wr_id, Int.toNat_natCast, Int.reduceToNat, tn_lk, tn_kl, if_pos, if_neg, ↓reduceIte, and_self, and_true, true_and, h0]; with_reducible rfl)) | (with_reducible apply wm_q) | (with_reducible apply wm_c; focus (first | assumption | decide +kernel)) | (with_reducible apply wm_d; focus (simp (disch := omega) only [wr_id, Int.toNat_natCast, Int.reduceToNat, tn_lk, tn_kl, if_pos, if_neg, ↓reduceIte, and_self, and_true, true_and, h0]; with_reducible rfl)) | (with_reducible apply wm_t; focus (first | omega | (simp (disch := omega) only [wr_id, h0]; omega) | (simp (disch := omega) only [wr_id, h0]; done))) | (with_reducible apply wm_f; focus (first | omega | (simp (disch := omega) only [wr_id, h0]; omega) | (simp (disch := omega) only [wr_id, h0]; done)))))
    exact wm_r ⟨rfl, rfl⟩
  · (repeat (first | (with_reducible apply wm_o; focus (simp (disch := omega) only [wr_id, Int.toNat_natCast, Int.reduceToNat, tn_lk, tn_kl, if_pos, if_neg, ↓reduceIte, and_self, and_true, true_and, h1]; with_reducible rfl)) | (with_reducible apply wm_q) | (with_reducible apply wm_c; focus (first | assumption | decide +kernel)) | (with_reducible apply wm_d; focus (simp (disch := omega) only [wr_id, Int.toNat_natCast, Int.reduceToNat, tn_lk, tn_kl, if_pos, if_neg, ↓reduceIte, and_self, and_true, true_and, h1]; with_reducible rfl)) | (with_reducible apply wm_t; focus (first | omega | (simp (disch := omega) only [wr_id, h1]; omega) | (simp (disch := omega) only [wr_id, h1]; done))) | (with_reducible apply wm_f; focus (first | omega | (simp (disch := omega) only [wr_id, h1]; omega) | (simp (disch := omega) only [wr_id, h1]; done)))))
    exact wm_r ⟨rfl, rfl⟩
  · by_cases z : x % w = 0
    · (repeat (first | (with_reducible apply wm_o; focus (simp (disch := omega) only [wr_id, Int.toNat_natCast, Int.reduceToNat, tn_lk, tn_kl, if_pos, if_neg, ↓reduceIte, and_self, and_true, true_and, hw, hr1]; with_reducible rfl)) | (with_reducible apply wm_q) | (with_reducible apply wm_c; focus (first | assumption | decide +kernel)) | (with_reducible apply wm_d; focus (simp (disch := omega) only [wr_id, Int.toNat_natCast, Int.reduceToNat, tn_lk, tn_kl, if_pos, if_neg, ↓reduceIte, and_self, and_true, true_and, hw, hr1]; with_reducible rfl)) | (with_reducible apply wm_t; focus (first | omega | (simp (disch := omega) only [wr_id, hw, hr1]; omega) | (simp (disch := omega) only [wr_id, hw, hr1]; done))) | (with_reducible apply wm_f; focus (first | omega | (simp (disch := omega) only [wr_id, hw, hr1]; omega) | (simp (disch := omega) only [wr_id, hw, hr1]; done)))))
      exact wm_r ⟨by simp [z], rfl⟩
    · (repeat (first | (with_reducible apply wm_o; focus (simp (disch := omega) only [wr_id, Int.toNat_natCast, Int.reduceToNat, tn_lk, tn_kl, if_pos, if_neg, ↓reduceIte, and_self, and_true, true_and, hw, hr1]; with_reducible rfl)) | (with_reducible apply wm_q) | (with_reducible apply wm_c; focus (first | assumption | decide +kernel)) | (with_reducible apply wm_d; focus (simp (disch := omega) only [wr_id, Int.toNat_natCast, Int.reduceToNat, tn_lk, tn_kl, if_pos, if_neg, ↓reduceIte, and_self, and_true, true_and, hw, hr1]; with_reducible rfl)) | (with_reducible apply wm_t; focus (first | omega | (simp (disch := omega) only [wr_id, hw, hr1]; omega) | (simp (disch := omega) only [wr_id, hw, hr1]; done))) | (with_reducible apply wm_f; focus (first | omega | (simp (disch := omega) only [wr_id, hw, hr1]; omega) | (simp (disch := omega) only [wr_id, hw, hr1]; done)))))
      exact wm_r ⟨by simp [z]; omega, rfl⟩
  · by_cases z : x < w
    · (repeat (first | (with_reducible apply wm_o; focus (simp (disch := omega) only [wr_id, Int.toNat_natCast, Int.reduceToNat, tn_lk, tn_kl, if_pos, if_neg, ↓reduceIte, and_self, and_true, true_and, hw]; with_reducible rfl)) | (with_reducible apply wm_q) | (with_reducible apply wm_c; focus (first | assumption | decide +kernel)) | (with_reducible apply wm_d; focus (simp (disch := omega) only [wr_id, Int.toNat_natCast, Int.reduceToNat, tn_lk, tn_kl, if_pos, if_neg, ↓reduceIte, and_self, and_true, true_and, hw]; with_reducible rfl)) | (with_reducible apply wm_t; focus (first | omega | (simp (disch := omega) only [wr_id, hw]; omega) | (simp (disch := omega) only [wr_id, hw]; done))) | (with_reducible apply wm_f; focus (first | omega | (simp (disch := omega) only [wr_id, hw]; omega) | (simp (disch := omega) only [wr_id, hw]; done)))))
      exact wm_r ⟨by simp [z], rfl⟩
    · (repeat (first | (with_reducible apply wm_o; focus (simp (disch := omega) only [wr_id, Int.toNat_natCast, Int.reduceToNat, tn_lk, tn_kl, if_pos, if_neg, ↓reduceIte, and_self, and_true, true_and, hw]; with_reducible rfl)) | (with_reducible apply wm_q) | (with_reducible apply wm_c; focus (first | assumption | decide +kernel)) | (with_reducible apply wm_d; focus (simp (disch := omega) only [wr_id, Int.toNat_natCast, Int.reduceToNat, tn_lk, tn_kl, if_pos, if_neg, ↓reduceIte, and_self, and_true, true_and, hw]; with_reducible rfl)) | (with_reducible apply wm_t; focus (first | omega | (simp (disch := omega) only [wr_id, hw]; omega) | (simp (disch := omega) only [wr_id, hw]; done))) | (with_reducible apply wm_f; focus (first | omega | (simp (disch := omega) only [wr_id, hw]; omega) | (simp (disch := omega) only [wr_id, hw]; done)))))
      exact wm_r ⟨by simp [z]; omega, rfl⟩
theorem bs_cases (hw : 0 < w) (hnw : n = w * h) {c j : Nat} (hc : c < n) : bsV w n c j = -1 ∨ ∃ o : Nat, bsV w n c j = (o : Int) ∧ o < n := by
  unfold bsV
  split
  · split
    · rename_i z
      exact Or.inr ⟨_, rfl, hr_of hw hnw c z hc⟩
    · exact Or.inl rfl
  · split
    · split
      · rename_i z
        exact Or.inr ⟨_, rfl, z⟩
      · exact Or.inl rfl
    · split
      · split
        · exact Or.inl rfl
        · exact Or.inr ⟨_, rfl, by omega⟩
      · split
        · exact Or.inl rfl
        · exact Or.inr ⟨_, rfl, by omega⟩
theorem m_countsWith (c : cfM I lv w h n nh hl sd ifs xs) (hz : zM I) (hv : vRow ρ) (h1 : I 401 = ρ) {x j : Nat} (hx : x < n) (hj : j < 4) (hU : tkR hl w ρ x = false) : wm t d rt (f_X12_countsWith 369 (x : Int) (bsV w n x j) (mm t d rt I)) (fun r J => r = (sdV w n (tkR hl w ρ) x j : Int) ∧ frM (fun a => a = 406 ∨ a = 408) (fun _ => False) I J) := by
  have hn : n ≤ 36 := c.1.2.2.2.2.2.2.2.2.2.2
  have hw : 2 ≤ w := c.1.2.2.2.2.1
  have hnw := c.1.2.2.2.2.2.2.2.2.1
  unfold f_X12_countsWith
  (repeat (first | (with_reducible apply wm_o; focus (simp (disch := omega) only [wr_id, Int.toNat_natCast, Int.reduceToNat, tn_lk, tn_kl, if_pos, if_neg, ↓reduceIte, and_self, and_true, true_and]; with_reducible rfl)) | (with_reducible apply wm_q) | (with_reducible apply wm_c; focus (first | assumption | decide +kernel)) | (with_reducible apply wm_d; focus (simp (disch := omega) only [wr_id, Int.toNat_natCast, Int.reduceToNat, tn_lk, tn_kl, if_pos, if_neg, ↓reduceIte, and_self, and_true, true_and]; with_reducible rfl)) | (with_reducible apply wm_t; focus (first | omega | (simp (disch := omega) only [wr_id]; omega) | (simp (disch := omega) only [wr_id]; done))) | (with_reducible apply wm_f; focus (first | omega | (simp (disch := omega) only [wr_id]; omega) | (simp (disch := omega) only [wr_id]; done)))))
  refine wm_b (m_closesTaken c hv h1) (fun v J hJ => ?_)
  obtain ⟨j1, j2⟩ := hJ
  have j1' : frM (fun a => a = 406 ∨ a = 408) (fun _ => False) I J := frM_f j1 (fun a ha => Or.inr ha)
  rcases bs_cases (w := w) (h := h) (n := n) (c := x) (j := j) (by omega) hnw hx with e | ⟨o, e, ho⟩
  · rw [e]
    (repeat (first | (with_reducible apply wm_o; focus (simp (disch := omega) only [wr_id, Int.toNat_natCast, Int.reduceToNat, tn_lk, tn_kl, if_pos, if_neg, ↓reduceIte, and_self, and_true, true_and]; with_reducible rfl)) | (with_reducible apply wm_q) | (with_reducible apply wm_c; focus (first | assumption | decide +kernel)) | (with_reducible apply wm_d; focus (simp (disch := omega) only [wr_id, Int.toNat_natCast, Int.reduceToNat, tn_lk, tn_kl, if_pos, if_neg, ↓reduceIte, and_self, and_true, true_and]; with_reducible rfl)) | (with_reducible apply wm_t; focus (first | omega | (simp (disch := omega) only [wr_id]; omega) | (simp (disch := omega) only [wr_id]; done))) | (with_reducible apply wm_f; focus (first | omega | (simp (disch := omega) only [wr_id]; omega) | (simp (disch := omega) only [wr_id]; done)))))
    exact wm_r ⟨by rw [sd_0 (by omega) hj (Or.inl (by omega))]; rfl, j1'⟩
  · rw [e]
    have e1 := j2 x (by omega)
    rw [hU, if_neg (by decide)] at e1
    have e2 := j2 o (by omega)
    by_cases z : tkR hl w ρ o = true
    · rw [if_pos z] at e2
      (repeat (first | (with_reducible apply wm_o; focus (simp (disch := omega) only [wr_id, Int.toNat_natCast, Int.reduceToNat, tn_lk, tn_kl, if_pos, if_neg, ↓reduceIte, and_self, and_true, true_and, FM, e1, e2]; with_reducible rfl)) | (with_reducible apply wm_q) | (with_reducible apply wm_c; focus (first | assumption | decide +kernel)) | (with_reducible apply wm_d; focus (simp (disch := omega) only [wr_id, Int.toNat_natCast, Int.reduceToNat, tn_lk, tn_kl, if_pos, if_neg, ↓reduceIte, and_self, and_true, true_and, FM, e1, e2]; with_reducible rfl)) | (with_reducible apply wm_t; focus (first | omega | (simp (disch := omega) only [wr_id, FM, e1, e2]; omega) | (simp (disch := omega) only [wr_id, FM, e1, e2]; done))) | (with_reducible apply wm_f; focus (first | omega | (simp (disch := omega) only [wr_id, FM, e1, e2]; omega) | (simp (disch := omega) only [wr_id, FM, e1, e2]; done)))))
      exact wm_r ⟨by rw [sd_0 (by omega) hj (Or.inr ⟨o, e, z⟩)]; rfl, j1'⟩
    · rw [if_neg z] at e2
      (repeat (first | (with_reducible apply wm_o; focus (simp (disch := omega) only [wr_id, Int.toNat_natCast, Int.reduceToNat, tn_lk, tn_kl, if_pos, if_neg, ↓reduceIte, and_self, and_true, true_and, FM, e1, e2, jdz1]; with_reducible rfl)) | (with_reducible apply wm_q) | (with_reducible apply wm_c; focus (first | assumption | decide +kernel)) | (with_reducible apply wm_d; focus (simp (disch := omega) only [wr_id, Int.toNat_natCast, Int.reduceToNat, tn_lk, tn_kl, if_pos, if_neg, ↓reduceIte, and_self, and_true, true_and, FM, e1, e2, jdz1]; with_reducible rfl)) | (with_reducible apply wm_t; focus (first | omega | (simp (disch := omega) only [wr_id, FM, e1, e2, jdz1]; omega) | (simp (disch := omega) only [wr_id, FM, e1, e2, jdz1]; done))) | (with_reducible apply wm_f; focus (first | omega | (simp (disch := omega) only [wr_id, FM, e1, e2, jdz1]; omega) | (simp (disch := omega) only [wr_id, FM, e1, e2, jdz1]; done)))))
      have f2 : frM (fun a => a = 408) (fun _ => False) I (up (up J 408 x 1) 408 o 1) := frM_up (frM_up j1 (by decide) rfl) (by decide) rfl
      have c2 := cfM_frm f2 (fun a _ _ _ _ _ _ _ _ => by omega) (fun q => q) c
      refine wm_b (m_counts0 c2.1 (flg_up (flg_up j2)) (zM_fr hz f2 (by decide) (by decide) (by decide))) (fun v6 L hL => ?_)
      obtain ⟨rfl, l1, l2⟩ := hL
      exact wm_r ⟨by rw [sd_np (h := h) (by omega) hnw hx hj e hU (by simpa using z)], frM_trans (frM_f f2 (fun a ha => Or.inr ha)) (frM_f l1 (fun a ha => Or.inl ha))⟩
theorem tk_free {x : Nat} (hx : x < n) : tkR hl w ρ x = !frB w n hl ρ (x : Int) := by
  unfold tkR frB opB
  have h1 : decide ((0 : Int) ≤ (x : Int)) = true := decide_eq_true (by omega)
  have h2 : decide ((x : Int) < (n : Int)) = true := decide_eq_true (by omega)
  rw [h1, h2, Int.toNat_natCast]
  cases hl x <;> cases rCpl w ρ (x : Int) <;> rfl
theorem P_across (hI : INV t d rt I) {x : Int} (hx : in32 x) : both t d rt (f_X11_across 0 x (mm t d rt I)) (fun M => f_X12_across 369 x M) := by
  have hI' := hI
  obtain ⟨lv, w, h, n, nh, hl, sd, ifs, xs, hR, ρ, u, H, hd, G, hC, hM⟩ := hI
  have sq := hR.2.1
  have hcf := hR.2.2.1
  have hmf := hR.2.2.2.1
  have kt := (tx_k hcf.1).1
  have hnw := sq.2.2.2.2.1
  have hn := sq.2.2.2.2.2.2.1
  have hw : 2 ≤ w ∧ w ≤ 6 := ⟨sq.1, sq.2.1⟩
  have hv := vRow_of hC.1 hn
  have o1 := q_isOpen (d := d) (rt := rt) sq hcf hx
  unfold both f_X11_across
  by_cases z : opB n hl x = true
  · rw [if_pos z] at o1
    obtain ⟨a1, a2, a3⟩ := opB_t z
    obtain ⟨c, rfl⟩ : ∃ c : Nat, x = (c : Int) := ⟨x.toNat, by omega⟩
    rw [Int.toNat_natCast] at a3
    (repeat (first | (with_reducible apply wm_o; focus (simp (disch := omega) only [wr_id, Int.toNat_natCast, Int.reduceToNat, tn_lk, tn_kl, if_pos, if_neg, ↓reduceIte, and_self, and_true, true_and, FX, o1]; with_reducible rfl)) | (with_reducible apply wm_q) | (with_reducible apply wm_c; focus (first | assumption | decide +kernel)) | (with_reducible apply wm_d; focus (simp (disch := omega) only [wr_id, Int.toNat_natCast, Int.reduceToNat, tn_lk, tn_kl, if_pos, if_neg, ↓reduceIte, and_self, and_true, true_and, FX, o1]; with_reducible rfl)) | (with_reducible apply wm_t; focus (first | omega | (simp (disch := omega) only [wr_id, FX, o1]; omega) | (simp (disch := omega) only [wr_id, FX, o1]; done))) | (with_reducible apply wm_f; focus (first | omega | (simp (disch := omega) only [wr_id, FX, o1]; omega) | (simp (disch := omega) only [wr_id, FX, o1]; done)))))
    refine wm_b (c_countRest sq hcf hC.1 hC.2.1 hR.2.2.2.2.2.2.2.1.2.2) (fun v J hJ => ?_)
    obtain ⟨j1, j2, j3⟩ := hJ
    have jC : frm scrC I J := frm_sub j1 (fun a ha => scr_r ha)
    have sJ := stR_frm j1 (fun a a1 a2 => by omega) hC.2.1
    -- the model up to its couple
    have mod : ∀ (J2 : Nat → Nat → Int) (k : Int) (Q : Int → (Nat → Nat → Int) → Prop), frm scrC I J2 → oI (rCpl w ρ (c : Int)) = k → (∀ K, frM scrM scrF J2 K → zM K → cfM K lv w h n nh hl sd ifs xs → K 401 = ρ → wm t d rt (if jd_wr k < 0 then (jcall 12 (mm t d rt K) 369 (f_X12_cellBeside 369 (c : Int) 0 (mm t d rt K)) fun v9 M10 =>
jcall 12 M10 369 (f_X12_countsWith 369 (c : Int) v9 M10) fun v11 M12 =>
jcall 12 M12 369 (f_X12_cellBeside 369 (c : Int) 2 M12) fun v13 M14 =>
jcall 12 M14 369 (f_X12_countsWith 369 (c : Int) v13 M14) fun v15 M16 =>
some ((v11 + v15), M16))
else ((jm_gR 12 48 (mm t d rt K) 369).bind fun r17 =>
(jm_ld 20 (mm t d rt K) r17 (18 + k)).bind fun v18 =>
if jd_wr v18 = 0 then (jcall 12 (mm t d rt K) 369 (f_X12_countsRest 369 (mm t d rt K)) fun v19 M20 =>
some (v19, M20))
else (some (0, (mm t d rt K))))) Q) → wm t d rt (f_X12_across 369 (c : Int) (mm t d rt J2)) Q := by
      intro J2 k Q hJ2 hk hQ
      have jS : frm (fun a => scrC a ∨ stS a) I J2 := frm_sub hJ2 (fun a ha => Or.inl ha)
      have hRJ := REST_c jS hR
      have hMJ := stM_c jS hM
      have hmJ := hRJ.2.2.2.1
      have hic := s_isCell_t (t := t) (d := d) (rt := rt) hmJ.1 a1 a2
      have h6 := hmJ.2.2.2.1 c (by omega)
      rw [a3, if_neg (by decide)] at h6
      unfold f_X12_across
      (repeat (first | (with_reducible apply wm_o; focus (simp (disch := omega) only [wr_id, Int.toNat_natCast, Int.reduceToNat, tn_lk, tn_kl, if_pos, if_neg, ↓reduceIte, and_self, and_true, true_and, hic, FM, h6]; with_reducible rfl)) | (with_reducible apply wm_q) | (with_reducible apply wm_c; focus (first | assumption | decide +kernel)) | (with_reducible apply wm_d; focus (simp (disch := omega) only [wr_id, Int.toNat_natCast, Int.reduceToNat, tn_lk, tn_kl, if_pos, if_neg, ↓reduceIte, and_self, and_true, true_and, hic, FM, h6]; with_reducible rfl)) | (with_reducible apply wm_t; focus (first | omega | (simp (disch := omega) only [wr_id, hic, FM, h6]; omega) | (simp (disch := omega) only [wr_id, hic, FM, h6]; done))) | (with_reducible apply wm_f; focus (first | omega | (simp (disch := omega) only [wr_id, hic, FM, h6]; omega) | (simp (disch := omega) only [wr_id, hic, FM, h6]; done)))))
      refine wm_b (m_cop hmJ hRJ.2.2.2.2.2.2.2.2.2 hMJ.1 hMJ.2.1) (fun v' K hK => ?_)
      obtain ⟨k1, k2, k3, k4, k5⟩ := hK
      have cpl : f_X12_coupleAt 369 (c : Int) (mm t d rt K) = some (k, mm t d rt K) := by
        rw [s_coupleAt k3.1 (by rw [k4]; exact hv) hx, k4, hk]
      refine wm_c (by decide +kernel) (wm_d cpl ?_)
      exact hQ K k1 k2 k3 k4
    rcases on_w sJ (show c < 36 by omega) with ⟨p1, p2⟩ | ⟨k, p0, p1, p2, p3⟩
    · (repeat (first | (with_reducible apply wm_o; focus (simp (disch := omega) only [wr_id, Int.toNat_natCast, Int.reduceToNat, tn_lk, tn_kl, if_pos, if_neg, ↓reduceIte, and_self, and_true, true_and, FX, FState now_in, p1]; with_reducible rfl)) | (with_reducible apply wm_q) | (with_reducible apply wm_c; focus (first | assumption | decide +kernel)) | (with_reducible apply wm_d; focus (simp (disch := omega) only [wr_id, Int.toNat_natCast, Int.reduceToNat, tn_lk, tn_kl, if_pos, if_neg, ↓reduceIte, and_self, and_true, true_and, FX, FState now_in, p1]; with_reducible rfl)) | (with_reducible apply wm_t; focus (first | omega | (simp (disch := omega) only [wr_id, FX, FState now_in, p1]; omega) | (simp (disch := omega) only [wr_id, FX, FState now_in, p1]; done))) | (with_reducible apply wm_f; focus (first | omega | (simp (disch := omega) only [wr_id, FX, FState now_in, p1]; omega) | (simp (disch := omega) only [wr_id, FX, FState now_in, p1]; done)))))
      refine wm_b (w_share j2 j3 no_cl hnw) (fun v2 J2 hJ2 => ?_)
      obtain ⟨q1, q2⟩ := hJ2
      have hly := s_lying (t := t) (d := d) (rt := rt) q2 hw hn (x := c) (by omega)
      (repeat (first | (with_reducible apply wm_o; focus (simp (disch := omega) only [wr_id, Int.toNat_natCast, Int.reduceToNat, tn_lk, tn_kl, if_pos, if_neg, ↓reduceIte, and_self, and_true, true_and, FX, hly]; with_reducible rfl)) | (with_reducible apply wm_q) | (with_reducible apply wm_c; focus (first | assumption | decide +kernel)) | (with_reducible apply wm_d; focus (simp (disch := omega) only [wr_id, Int.toNat_natCast, Int.reduceToNat, tn_lk, tn_kl, if_pos, if_neg, ↓reduceIte, and_self, and_true, true_and, FX, hly]; with_reducible rfl)) | (with_reducible apply wm_t; focus (first | omega | (simp (disch := omega) only [wr_id, FX, hly]; omega) | (simp (disch := omega) only [wr_id, FX, hly]; done))) | (with_reducible apply wm_f; focus (first | omega | (simp (disch := omega) only [wr_id, FX, hly]; omega) | (simp (disch := omega) only [wr_id, FX, hly]; done)))))
      refine wm_r ?_
      have jC2 : frm scrC I J2 := frm_trans jC (frm_sub q1 (fun a ha => by unfold scrC; omega))
      have hU : tkR hl w ρ c = false := by unfold tkR; rw [a3, p2]; rfl
      refine mod J2 (-2) _ jC2 (by rw [p2]; rfl) (fun K k1 k2 k3 k4 => ?_)
      have b0 := fun (J : Nat → Nat → Int) (cc : mCfg J lv w h n) => m_beside (t := t) (d := d) (rt := rt) cc (x := c) (j := 0) (by omega) (by omega)
      have b2 := fun (J : Nat → Nat → Int) (cc : mCfg J lv w h n) => m_beside (t := t) (d := d) (rt := rt) cc (x := c) (j := 2) (by omega) (by omega)
      have e0 : ((0 : Nat) : Int) = 0 := rfl
      have e2 : ((2 : Nat) : Int) = 2 := rfl
      rw [e0] at b0
      rw [e2] at b2
      have b0' := b0 K k3.1
      (repeat (first | (with_reducible apply wm_o; focus (simp (disch := omega) only [wr_id, Int.toNat_natCast, Int.reduceToNat, tn_lk, tn_kl, if_pos, if_neg, ↓reduceIte, and_self, and_true, true_and, b0']; with_reducible rfl)) | (with_reducible apply wm_q) | (with_reducible apply wm_c; focus (first | assumption | decide +kernel)) | (with_reducible apply wm_d; focus (simp (disch := omega) only [wr_id, Int.toNat_natCast, Int.reduceToNat, tn_lk, tn_kl, if_pos, if_neg, ↓reduceIte, and_self, and_true, true_and, b0']; with_reducible rfl)) | (with_reducible apply wm_t; focus (first | omega | (simp (disch := omega) only [wr_id, b0']; omega) | (simp (disch := omega) only [wr_id, b0']; done))) | (with_reducible apply wm_f; focus (first | omega | (simp (disch := omega) only [wr_id, b0']; omega) | (simp (disch := omega) only [wr_id, b0']; done)))))
      refine wm_b (m_countsWith k3 k2 hv k4 (x := c) (j := 0) (by omega) (by omega) hU) (fun v5 L hL => ?_)
      obtain ⟨rfl, l1⟩ := hL
      have cL := cfM_frm l1 (fun a _ _ _ _ _ _ _ _ => by omega) (fun q => q) k3
      have zL := zM_fr k2 l1 (by decide) (by decide) (by decide)
      have b2' := b2 L cL.1
      (repeat (first | (with_reducible apply wm_o; focus (simp (disch := omega) only [wr_id, Int.toNat_natCast, Int.reduceToNat, tn_lk, tn_kl, if_pos, if_neg, ↓reduceIte, and_self, and_true, true_and, b2']; with_reducible rfl)) | (with_reducible apply wm_q) | (with_reducible apply wm_c; focus (first | assumption | decide +kernel)) | (with_reducible apply wm_d; focus (simp (disch := omega) only [wr_id, Int.toNat_natCast, Int.reduceToNat, tn_lk, tn_kl, if_pos, if_neg, ↓reduceIte, and_self, and_true, true_and, b2']; with_reducible rfl)) | (with_reducible apply wm_t; focus (first | omega | (simp (disch := omega) only [wr_id, b2']; omega) | (simp (disch := omega) only [wr_id, b2']; done))) | (with_reducible apply wm_f; focus (first | omega | (simp (disch := omega) only [wr_id, b2']; omega) | (simp (disch := omega) only [wr_id, b2']; done)))))
      refine wm_b (m_countsWith cL zL hv ((l1.1 401 (by decide) (by decide)).trans k4) (x := c) (j := 2) (by omega) (by omega) hU) (fun v6 L2 hL2 => ?_)
      obtain ⟨rfl, l2⟩ := hL2
      have lf := frM_trans l1 l2
      refine wm_r ⟨?_, INV_q hR hC hM jC2 (frM_trans k1 (frM_f lf (fun a ha => by unfold scrM; omega))) (zM_fr k2 lf (by decide) (by decide) (by decide))⟩
      rw [show ((sdV w n (tkR hl w ρ) c 0 : Nat) : Int) + ((sdV w n (tkR hl w ρ) c 2 : Nat) : Int) = ((sdV w n (tkR hl w ρ) c 0 + sdV w n (tkR hl w ρ) c 2 : Nat) : Int) by omega]
      rfl
    · have hl0 : 0 ≤ ρ k := (rAt_iff.mp p3).1
      have f1 := (sJ.2.1 k p0 hl0).1
      have hwy : ρ (18 + k) = 0 ∨ ρ (18 + k) = 1 := (hv k p0).2
      have ek : (18 : Int) + (k : Int) = ((18 + k : Nat) : Int) := by omega
      rcases hwy with e | e
      · rw [e] at f1
        have ht := c_tot (t := t) (d := d) (rt := rt) so_in j2 j3 no_cl hnw
        (repeat (first | (with_reducible apply wm_o; focus (simp (disch := omega) only [wr_id, Int.toNat_natCast, Int.reduceToNat, tn_lk, tn_kl, if_pos, if_neg, ↓reduceIte, and_self, and_true, true_and, FX, FState now_in, p1, f1, ht]; with_reducible rfl)) | (with_reducible apply wm_q) | (with_reducible apply wm_c; focus (first | assumption | decide +kernel)) | (with_reducible apply wm_d; focus (simp (disch := omega) only [wr_id, Int.toNat_natCast, Int.reduceToNat, tn_lk, tn_kl, if_pos, if_neg, ↓reduceIte, and_self, and_true, true_and, FX, FState now_in, p1, f1, ht]; with_reducible rfl)) | (with_reducible apply wm_t; focus (first | omega | (simp (disch := omega) only [wr_id, FX, FState now_in, p1, f1, ht]; omega) | (simp (disch := omega) only [wr_id, FX, FState now_in, p1, f1, ht]; done))) | (with_reducible apply wm_f; focus (first | omega | (simp (disch := omega) only [wr_id, FX, FState now_in, p1, f1, ht]; omega) | (simp (disch := omega) only [wr_id, FX, FState now_in, p1, f1, ht]; done)))))
        refine wm_r ?_
        refine mod J (k : Int) _ jC (by rw [p2]; rfl) (fun K k1 k2 k3 k4 => ?_)
        have e4 : K 401 (18 + k) = 0 := by rw [k4]; exact e
        (repeat (first | (with_reducible apply wm_o; focus (simp (disch := omega) only [wr_id, Int.toNat_natCast, Int.reduceToNat, tn_lk, tn_kl, if_pos, if_neg, ↓reduceIte, and_self, and_true, true_and, FM, ek, e4]; with_reducible rfl)) | (with_reducible apply wm_q) | (with_reducible apply wm_c; focus (first | assumption | decide +kernel)) | (with_reducible apply wm_d; focus (simp (disch := omega) only [wr_id, Int.toNat_natCast, Int.reduceToNat, tn_lk, tn_kl, if_pos, if_neg, ↓reduceIte, and_self, and_true, true_and, FM, ek, e4]; with_reducible rfl)) | (with_reducible apply wm_t; focus (first | omega | (simp (disch := omega) only [wr_id, FM, ek, e4]; omega) | (simp (disch := omega) only [wr_id, FM, ek, e4]; done))) | (with_reducible apply wm_f; focus (first | omega | (simp (disch := omega) only [wr_id, FM, ek, e4]; omega) | (simp (disch := omega) only [wr_id, FM, ek, e4]; done)))))
        refine wm_b (m_countsRest k3 k2 hv k4) (fun v2 L hL => ?_)
        obtain ⟨rfl, l1, l2⟩ := hL
        exact wm_r ⟨rfl, INV_q hR hC hM jC (frM_trans k1 (frM_f l1 (fun a ha => by unfold scrM; omega))) (zM_fr k2 l1 (by decide) (by decide) (by decide))⟩
      · rw [e] at f1
        (repeat (first | (with_reducible apply wm_o; focus (simp (disch := omega) only [wr_id, Int.toNat_natCast, Int.reduceToNat, tn_lk, tn_kl, if_pos, if_neg, ↓reduceIte, and_self, and_true, true_and, FX, FState now_in, p1, f1]; with_reducible rfl)) | (with_reducible apply wm_q) | (with_reducible apply wm_c; focus (first | assumption | decide +kernel)) | (with_reducible apply wm_d; focus (simp (disch := omega) only [wr_id, Int.toNat_natCast, Int.reduceToNat, tn_lk, tn_kl, if_pos, if_neg, ↓reduceIte, and_self, and_true, true_and, FX, FState now_in, p1, f1]; with_reducible rfl)) | (with_reducible apply wm_t; focus (first | omega | (simp (disch := omega) only [wr_id, FX, FState now_in, p1, f1]; omega) | (simp (disch := omega) only [wr_id, FX, FState now_in, p1, f1]; done))) | (with_reducible apply wm_f; focus (first | omega | (simp (disch := omega) only [wr_id, FX, FState now_in, p1, f1]; omega) | (simp (disch := omega) only [wr_id, FX, FState now_in, p1, f1]; done)))))
        refine wm_r ?_
        refine mod J (k : Int) _ jC (by rw [p2]; rfl) (fun K k1 k2 k3 k4 => ?_)
        have e4 : K 401 (18 + k) = 1 := by rw [k4]; exact e
        (repeat (first | (with_reducible apply wm_o; focus (simp (disch := omega) only [wr_id, Int.toNat_natCast, Int.reduceToNat, tn_lk, tn_kl, if_pos, if_neg, ↓reduceIte, and_self, and_true, true_and, FM, ek, e4]; with_reducible rfl)) | (with_reducible apply wm_q) | (with_reducible apply wm_c; focus (first | assumption | decide +kernel)) | (with_reducible apply wm_d; focus (simp (disch := omega) only [wr_id, Int.toNat_natCast, Int.reduceToNat, tn_lk, tn_kl, if_pos, if_neg, ↓reduceIte, and_self, and_true, true_and, FM, ek, e4]; with_reducible rfl)) | (with_reducible apply wm_t; focus (first | omega | (simp (disch := omega) only [wr_id, FM, ek, e4]; omega) | (simp (disch := omega) only [wr_id, FM, ek, e4]; done))) | (with_reducible apply wm_f; focus (first | omega | (simp (disch := omega) only [wr_id, FM, ek, e4]; omega) | (simp (disch := omega) only [wr_id, FM, ek, e4]; done)))))
        exact wm_r ⟨rfl, INV_q hR hC hM jC k1 k2⟩
  · rw [if_neg z] at o1
    (repeat (first | (with_reducible apply wm_o; focus (simp (disch := omega) only [wr_id, Int.toNat_natCast, Int.reduceToNat, tn_lk, tn_kl, if_pos, if_neg, ↓reduceIte, and_self, and_true, true_and, FX, o1]; with_reducible rfl)) | (with_reducible apply wm_q) | (with_reducible apply wm_c; focus (first | assumption | decide +kernel)) | (with_reducible apply wm_d; focus (simp (disch := omega) only [wr_id, Int.toNat_natCast, Int.reduceToNat, tn_lk, tn_kl, if_pos, if_neg, ↓reduceIte, and_self, and_true, true_and, FX, o1]; with_reducible rfl)) | (with_reducible apply wm_t; focus (first | omega | (simp (disch := omega) only [wr_id, FX, o1]; omega) | (simp (disch := omega) only [wr_id, FX, o1]; done))) | (with_reducible apply wm_f; focus (first | omega | (simp (disch := omega) only [wr_id, FX, o1]; omega) | (simp (disch := omega) only [wr_id, FX, o1]; done)))))
    refine wm_r ?_
    show wm t d rt (f_X12_across 369 x (mm t d rt I)) _
    unfold f_X12_across
    by_cases zc : 0 ≤ x ∧ x < n
    · have hic := s_isCell_t (t := t) (d := d) (rt := rt) hmf.1 zc.1 zc.2
      obtain ⟨c, rfl⟩ : ∃ c : Nat, x = (c : Int) := ⟨x.toNat, by omega⟩
      have h6 := hmf.2.2.2.1 c (by omega)
      rw [if_pos (by
        cases q : hl c with
        | true => rfl
        | false => exact absurd (opB_i ⟨zc.1, zc.2, by rw [Int.toNat_natCast]; exact q⟩) z)] at h6
      (repeat (first | (with_reducible apply wm_o; focus (simp (disch := omega) only [wr_id, Int.toNat_natCast, Int.reduceToNat, tn_lk, tn_kl, if_pos, if_neg, ↓reduceIte, and_self, and_true, true_and, hic, FM, h6]; with_reducible rfl)) | (with_reducible apply wm_q) | (with_reducible apply wm_c; focus (first | assumption | decide +kernel)) | (with_reducible apply wm_d; focus (simp (disch := omega) only [wr_id, Int.toNat_natCast, Int.reduceToNat, tn_lk, tn_kl, if_pos, if_neg, ↓reduceIte, and_self, and_true, true_and, hic, FM, h6]; with_reducible rfl)) | (with_reducible apply wm_t; focus (first | omega | (simp (disch := omega) only [wr_id, hic, FM, h6]; omega) | (simp (disch := omega) only [wr_id, hic, FM, h6]; done))) | (with_reducible apply wm_f; focus (first | omega | (simp (disch := omega) only [wr_id, hic, FM, h6]; omega) | (simp (disch := omega) only [wr_id, hic, FM, h6]; done)))))
      exact wm_r ⟨rfl, hI'⟩
    · have hic := s_isCell_f (t := t) (d := d) (rt := rt) hmf.1 hx (by omega)
      (repeat (first | (with_reducible apply wm_o; focus (simp (disch := omega) only [wr_id, Int.toNat_natCast, Int.reduceToNat, tn_lk, tn_kl, if_pos, if_neg, ↓reduceIte, and_self, and_true, true_and, hic]; with_reducible rfl)) | (with_reducible apply wm_q) | (with_reducible apply wm_c; focus (first | assumption | decide +kernel)) | (with_reducible apply wm_d; focus (simp (disch := omega) only [wr_id, Int.toNat_natCast, Int.reduceToNat, tn_lk, tn_kl, if_pos, if_neg, ↓reduceIte, and_self, and_true, true_and, hic]; with_reducible rfl)) | (with_reducible apply wm_t; focus (first | omega | (simp (disch := omega) only [wr_id, hic]; omega) | (simp (disch := omega) only [wr_id, hic]; done))) | (with_reducible apply wm_f; focus (first | omega | (simp (disch := omega) only [wr_id, hic]; omega) | (simp (disch := omega) only [wr_id, hic]; done)))))
      exact wm_r ⟨rfl, hI'⟩
end FA
