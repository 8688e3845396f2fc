/-! ===== calls: frozen ===== -/
def fzV (w n : Nat) (U : Nat → Bool) (T c : Nat) : Int := if T = 0 then -2 else if U c = true then -2 else if sdV w n U c 0 = T then bsV w n c 0 else if sdV w n U c 1 = T then bsV w n c 1 else if sdV w n U c 2 = T then bsV w n c 2 else if sdV w n U c 3 = T then bsV w n c 3 else -2
section FY
variable {t d rt : Nat} {I J K : Nat → Nat → Int} {lv w h n nh r : Nat} {hl cl na nd U : Nat → Bool} {sd : Int} {ifs : Nat → List LwI} {xs : Nat → List CI} {ρ : Nat → Int} {u : Nat} {H : Nat → Nat → Int} {hd : Nat → Bool} {G : Nat → Nat → Int}
theorem sd_ge (hw : 1 < w) {c j : Nat} (hj : j < 4) (h0 : sdV w n U c j ≠ 0) : 0 ≤ bsV w n c j := by
  by_cases z : bsV w n c j < 0
  · exact absurd (sd_0 hw hj (Or.inl z)) h0
  · omega
theorem bs_0 {c : Nat} (h' : 0 ≤ bsV w n c 0) : bsV w n c 0 = (c : Int) + 1 := by
  have e : bsV w n c 0 = if c % w + 1 < w then ((c + 1 : Nat) : Int) else -1 := rfl
  rw [e] at h' ⊢
  split at h' <;> rename_i q
  · rw [if_pos q]; omega
  · omega
theorem bs_1 {c : Nat} (h' : 0 ≤ bsV w n c 1) : bsV w n c 1 = (c : Int) + (w : Int) := by
  have e : bsV w n c 1 = if c + w < n then ((c + w : Nat) : Int) else -1 := rfl
  rw [e] at h' ⊢
  split at h' <;> rename_i q
  · rw [if_pos q]; omega
  · omega
theorem bs_2 {c : Nat} (h' : 0 ≤ bsV w n c 2) : bsV w n c 2 = (c : Int) - 1 := by
  have e : bsV w n c 2 = if c % w = 0 then -1 else ((c - 1 : Nat) : Int) := rfl
  have hm := Nat.mod_le c w
  rw [e] at h' ⊢
  split at h' <;> rename_i q
  · omega
  · rw [if_neg q]; omega
theorem bs_3 {c : Nat} (h' : 0 ≤ bsV w n c 3) : ¬ c < w ∧ bsV w n c 3 = (c : Int) - (w : Int) := by
  have e : bsV w n c 3 = if c < w then -1 else ((c - w : Nat) : Int) := rfl
  rw [e] at h' ⊢
  split at h' <;> rename_i q
  · omega
  · rw [if_neg q]; omega
theorem fz_rng (hw : 1 < w) (hnw : n = w * h) {T c : Nat} (hc : c < n) : fzV w n U T c = -2 ∨ (0 ≤ fzV w n U T c ∧ fzV w n U T c < n) := by
  unfold fzV
  by_cases hT : T = 0
  · rw [if_pos hT]; exact Or.inl rfl
  · rw [if_neg hT]
    have g : ∀ j, j < 4 → sdV w n U c j = T → 0 ≤ bsV w n c j ∧ bsV w n c j < n := fun j hj e => by
      have h1 := sd_ge (n := n) (U := U) hw hj (by rw [e]; exact hT)
      rcases bs_cases (w := w) (h := h) (n := n) (c := c) (j := j) (by omega) hnw hc with q | ⟨o, q, ho⟩ <;> omega
    split
    · exact Or.inl rfl
    · split
      · exact Or.inr (g 0 (by omega) (by assumption))
      · split
        · exact Or.inr (g 1 (by omega) (by assumption))
        · split
          · exact Or.inr (g 2 (by omega) (by assumption))
          · split
            · exact Or.inr (g 3 (by omega) (by assumption))
            · exact Or.inl rfl
theorem sd_le {c j : Nat} (hw : 1 < w) (hc : c < n) (hU : U c = false) (hj : j < 4) : sdV w n U c j ≤ Np w n noB noB n 0 U := by
  have := sd_sum hw hc hU
  have hj4 : j = 0 ∨ j = 1 ∨ j = 2 ∨ j = 3 := by omega
  rcases hj4 with rfl | rfl | rfl | rfl <;> omega
theorem s_onlyMate (hs : shR I w n noB noB U) (cR : rCfg I 324 w h U noB noB) (hW : wyR I 324 w h U noB noB) (hnw : n = w * h) {c T : Nat} (hc : c < n) (hU : U c = false) (hT : T = Np w n noB noB n 0 U) (hT0 : T ≠ 0) : f_X5_onlyMate 337 324 (c : Int) (mm t d rt I) = some (if fzV w n U T c = -2 then -1 else fzV w n U T c, mm t d rt I) := by
  have hw : 2 ≤ w ∧ w ≤ 6 := ⟨cR.2.2.2.1, cR.2.2.2.2.1⟩
  have hn : n ≤ 36 := by rw [hnw]; exact Nat.mul_le_mul cR.2.2.2.2.1 cR.2.2.2.2.2.2.1
  have ht := c_tot (t := t) (d := d) (rt := rt) so_in cR hW no_cl hnw
  have hTb := Np_b (na := noB) (nd := noB) (cl := U) (show 0 < w by omega) hnw hn
  have hfl : f_X5_flatWithLeft 337 (c : Int) (mm t d rt I) = some (((sdV w n U c 2 : Nat) : Int), mm t d rt I) := s_flatLeft (t := t) (d := d) (rt := rt) hs hw hn hc
  have e0 : I 347 c = ((sdV w n U c 0 : Nat) : Int) := hs.2.2 c hc
  have e1 : I 346 c = ((sdV w n U c 1 : Nat) : Int) := hs.2.1 c hc
  have s1 := hs.1
  have hsum := sd_sum (w := w) (n := n) (U := U) (by omega) hc hU
  have g0 := fun q => bs_0 (sd_ge (w := w) (n := n) (U := U) (c := c) (j := 0) (by omega) (by omega) q)
  have g1 := fun q => bs_1 (sd_ge (w := w) (n := n) (U := U) (c := c) (j := 1) (by omega) (by omega) q)
  have g2 := fun q => bs_2 (sd_ge (w := w) (n := n) (U := U) (c := c) (j := 2) (by omega) (by omega) q)
  have g3 := fun q => bs_3 (sd_ge (w := w) (n := n) (U := U) (c := c) (j := 3) (by omega) (by omega) q)
  have g3a := fun q => (sd_ge (w := w) (n := n) (U := U) (c := c) (j := 3) (by omega) (by omega) q)
  have g2a := fun q => (sd_ge (w := w) (n := n) (U := U) (c := c) (j := 2) (by omega) (by omega) q)
  have e3' : ¬ c < w → I 346 (c - w) = ((sdV w n U c 3 : Nat) : Int) := fun q => by
    rw [hs.2.1 (c - w) (by omega)]
    have : sdV w n U c 3 = if c < w then 0 else dnC w n noB noB U (c - w) := rfl
    rw [this, if_neg q]
  have e30 : c < w → sdV w n U c 3 = 0 := fun q => by
    have : sdV w n U c 3 = if c < w then 0 else dnC w n noB noB U (c - w) := rfl
    rw [this, if_pos q]
  have hU' : ¬ U c = true := by rw [hU]; decide
  have hfz : fzV w n U T c = if sdV w n U c 0 = T then bsV w n c 0 else if sdV w n U c 1 = T then bsV w n c 1 else if sdV w n U c 2 = T then bsV w n c 2 else if sdV w n U c 3 = T then bsV w n c 3 else -2 := by
    unfold fzV
    rw [if_neg hT0, if_neg hU']
  rw [← hT] at ht hTb hsum
  generalize sdV w n U c 0 = S0 at *
  generalize sdV w n U c 1 = S1 at *
  generalize sdV w n U c 2 = S2 at *
  generalize sdV w n U c 3 = S3 at *
  refine wm_eq ?_
  unfold f_X5_onlyMate
  by_cases z0 : S0 = T
  · have fz : fzV w n U T c = (c : Int) + 1 := by rw [hfz, if_pos z0]; exact g0 (by omega)
    rw [fz, if_neg (show ¬ (c : Int) + 1 = -2 by omega)]
    (repeat (first | (with_reducible apply wm_o; focus (simp (disch := omega) only [wr_id, Int.toNat_natCast, Int.reduceToNat, tn_lk, tn_kl, if_pos, if_neg, ↓reduceIte, and_self, and_true, true_and, FShares, ht, e0]; with_reducible rfl)) | (with_reducible apply wm_q) | (with_reducible apply wm_c; focus (first | assumption | decide +kernel)) | (with_reducible apply wm_d; focus (simp (disch := omega) only [wr_id, Int.toNat_natCast, Int.reduceToNat, tn_lk, tn_kl, if_pos, if_neg, ↓reduceIte, and_self, and_true, true_and, FShares, ht, e0]; with_reducible rfl)) | (with_reducible apply wm_t; focus (first | omega | (simp (disch := omega) only [wr_id, FShares, ht, e0]; omega) | (simp (disch := omega) only [wr_id, FShares, ht, e0]; done))) | (with_reducible apply wm_f; focus (first | omega | (simp (disch := omega) only [wr_id, FShares, ht, e0]; omega) | (simp (disch := omega) only [wr_id, FShares, ht, e0]; done)))))
    exact wm_r ⟨rfl, rfl⟩
  · by_cases z2 : S2 = T
    · have b2 := g2 (by omega)
      have b2a := g2a (by omega)
      have fz : fzV w n U T c = (c : Int) - 1 := by rw [hfz, if_neg z0, if_neg (show ¬ S1 = T by omega), if_pos z2]; exact b2
      rw [fz, if_neg (show ¬ (c : Int) - 1 = -2 by omega)]
      (repeat (first | (with_reducible apply wm_o; focus (simp (disch := omega) only [wr_id, Int.toNat_natCast, Int.reduceToNat, tn_lk, tn_kl, if_pos, if_neg, ↓reduceIte, and_self, and_true, true_and, FShares, ht, e0, hfl]; with_reducible rfl)) | (with_reducible apply wm_q) | (with_reducible apply wm_c; focus (first | assumption | decide +kernel)) | (with_reducible apply wm_d; focus (simp (disch := omega) only [wr_id, Int.toNat_natCast, Int.reduceToNat, tn_lk, tn_kl, if_pos, if_neg, ↓reduceIte, and_self, and_true, true_and, FShares, ht, e0, hfl]; with_reducible rfl)) | (with_reducible apply wm_t; focus (first | omega | (simp (disch := omega) only [wr_id, FShares, ht, e0, hfl]; omega) | (simp (disch := omega) only [wr_id, FShares, ht, e0, hfl]; done))) | (with_reducible apply wm_f; focus (first | omega | (simp (disch := omega) only [wr_id, FShares, ht, e0, hfl]; omega) | (simp (disch := omega) only [wr_id, FShares, ht, e0, hfl]; done)))))
      exact wm_r ⟨rfl, rfl⟩
    · by_cases z1 : S1 = T
      · have fz : fzV w n U T c = (c : Int) + (w : Int) := by rw [hfz, if_neg z0, if_pos z1]; exact g1 (by omega)
        rw [fz, if_neg (show ¬ (c : Int) + (w : Int) = -2 by omega)]
        (repeat (first | (with_reducible apply wm_o; focus (simp (disch := omega) only [wr_id, Int.toNat_natCast, Int.reduceToNat, tn_lk, tn_kl, if_pos, if_neg, ↓reduceIte, and_self, and_true, true_and, FShares, ht, e0, hfl, e1, s1]; with_reducible rfl)) | (with_reducible apply wm_q) | (with_reducible apply wm_c; focus (first | assumption | decide +kernel)) | (with_reducible apply wm_d; focus (simp (disch := omega) only [wr_id, Int.toNat_natCast, Int.reduceToNat, tn_lk, tn_kl, if_pos, if_neg, ↓reduceIte, and_self, and_true, true_and, FShares, ht, e0, hfl, e1, s1]; with_reducible rfl)) | (with_reducible apply wm_t; focus (first | omega | (simp (disch := omega) only [wr_id, FShares, ht, e0, hfl, e1, s1]; omega) | (simp (disch := omega) only [wr_id, FShares, ht, e0, hfl, e1, s1]; done))) | (with_reducible apply wm_f; focus (first | omega | (simp (disch := omega) only [wr_id, FShares, ht, e0, hfl, e1, s1]; omega) | (simp (disch := omega) only [wr_id, FShares, ht, e0, hfl, e1, s1]; done)))))
        exact wm_r ⟨rfl, rfl⟩
      · by_cases zw : c < w
        · have := e30 zw
          have fz : fzV w n U T c = -2 := by rw [hfz, if_neg z0, if_neg z1, if_neg z2, if_neg (show ¬ S3 = T by omega)]
          rw [fz, if_pos (show (-2 : Int) = -2 from rfl)]
          (repeat (first | (with_reducible apply wm_o; focus (simp (disch := omega) only [wr_id, Int.toNat_natCast, Int.reduceToNat, tn_lk, tn_kl, if_pos, if_neg, ↓reduceIte, and_self, and_true, true_and, FShares, ht, e0, hfl, e1, s1]; with_reducible rfl)) | (with_reducible apply wm_q) | (with_reducible apply wm_c; focus (first | assumption | decide +kernel)) | (with_reducible apply wm_d; focus (simp (disch := omega) only [wr_id, Int.toNat_natCast, Int.reduceToNat, tn_lk, tn_kl, if_pos, if_neg, ↓reduceIte, and_self, and_true, true_and, FShares, ht, e0, hfl, e1, s1]; with_reducible rfl)) | (with_reducible apply wm_t; focus (first | omega | (simp (disch := omega) only [wr_id, FShares, ht, e0, hfl, e1, s1]; omega) | (simp (disch := omega) only [wr_id, FShares, ht, e0, hfl, e1, s1]; done))) | (with_reducible apply wm_f; focus (first | omega | (simp (disch := omega) only [wr_id, FShares, ht, e0, hfl, e1, s1]; omega) | (simp (disch := omega) only [wr_id, FShares, ht, e0, hfl, e1, s1]; done)))))
          exact wm_r ⟨rfl, rfl⟩
        · have e3 := e3' zw
          have eq2 : (c : Int) - (w : Int) = ((c - w : Nat) : Int) := by omega
          by_cases z3 : S3 = T
          · have b3 := g3 (by omega)
            have b3a := g3a (by omega)
            have fz : fzV w n U T c = (c : Int) - (w : Int) := by rw [hfz, if_neg z0, if_neg z1, if_neg z2, if_pos z3]; exact b3.2
            rw [fz, if_neg (show ¬ (c : Int) - (w : Int) = -2 by omega)]
            (repeat (first | (with_reducible apply wm_o; focus (simp (disch := omega) only [wr_id, Int.toNat_natCast, Int.reduceToNat, tn_lk, tn_kl, if_pos, if_neg, ↓reduceIte, and_self, and_true, true_and, FShares, ht, e0, hfl, e1, s1, eq2, e3]; with_reducible rfl)) | (with_reducible apply wm_q) | (with_reducible apply wm_c; focus (first | assumption | decide +kernel)) | (with_reducible apply wm_d; focus (simp (disch := omega) only [wr_id, Int.toNat_natCast, Int.reduceToNat, tn_lk, tn_kl, if_pos, if_neg, ↓reduceIte, and_self, and_true, true_and, FShares, ht, e0, hfl, e1, s1, eq2, e3]; with_reducible rfl)) | (with_reducible apply wm_t; focus (first | omega | (simp (disch := omega) only [wr_id, FShares, ht, e0, hfl, e1, s1, eq2, e3]; omega) | (simp (disch := omega) only [wr_id, FShares, ht, e0, hfl, e1, s1, eq2, e3]; done))) | (with_reducible apply wm_f; focus (first | omega | (simp (disch := omega) only [wr_id, FShares, ht, e0, hfl, e1, s1, eq2, e3]; omega) | (simp (disch := omega) only [wr_id, FShares, ht, e0, hfl, e1, s1, eq2, e3]; done)))))
            exact wm_r ⟨by omega, rfl⟩
          · have fz : fzV w n U T c = -2 := by rw [hfz, if_neg z0, if_neg z1, if_neg z2, if_neg z3]
            rw [fz, if_pos (show (-2 : Int) = -2 from rfl)]
            (repeat (first | (with_reducible apply wm_o; focus (simp (disch := omega) only [wr_id, Int.toNat_natCast, Int.reduceToNat, tn_lk, tn_kl, if_pos, if_neg, ↓reduceIte, and_self, and_true, true_and, FShares, ht, e0, hfl, e1, s1, eq2, e3]; with_reducible rfl)) | (with_reducible apply wm_q) | (with_reducible apply wm_c; focus (first | assumption | decide +kernel)) | (with_reducible apply wm_d; focus (simp (disch := omega) only [wr_id, Int.toNat_natCast, Int.reduceToNat, tn_lk, tn_kl, if_pos, if_neg, ↓reduceIte, and_self, and_true, true_and, FShares, ht, e0, hfl, e1, s1, eq2, e3]; with_reducible rfl)) | (with_reducible apply wm_t; focus (first | omega | (simp (disch := omega) only [wr_id, FShares, ht, e0, hfl, e1, s1, eq2, e3]; omega) | (simp (disch := omega) only [wr_id, FShares, ht, e0, hfl, e1, s1, eq2, e3]; done))) | (with_reducible apply wm_f; focus (first | omega | (simp (disch := omega) only [wr_id, FShares, ht, e0, hfl, e1, s1, eq2, e3]; omega) | (simp (disch := omega) only [wr_id, FShares, ht, e0, hfl, e1, s1, eq2, e3]; done)))))
            exact wm_r ⟨rfl, rfl⟩
theorem c_frozenWith (sq : sqOK w h n nh hl) (c' : cfC I t w h n nh hl sd ifs xs) (hst : stR I 34 w ρ) (cR : rCfg I 324 w h (tkR hl w ρ) noB noB) (hW : wyR I 324 w h (tkR hl w ρ) noB noB) (hs : shR I w n noB noB (tkR hl w ρ)) {c T : Nat} (hc : c < n) (hT : T = Np w n noB noB n 0 (tkR hl w ρ)) : f_X11_frozenWith 0 (c : Int) (mm t d rt I) = some (fzV w n (tkR hl w ρ) T c, mm t d rt I) := by
  have hnw := sq.2.2.2.2.1
  have hn := sq.2.2.2.2.2.2.1
  have hq := q_isFree (d := d) (rt := rt) (x := (c : Int)) sq c' hst (i32 (by omega) (by omega))
  have ht := c_tot (t := t) (d := d) (rt := rt) so_in cR hW no_cl hnw
  have hTb := Np_b (na := noB) (nd := noB) (cl := tkR hl w ρ) (show 0 < w by have := sq.1; omega) hnw hn
  have htf := tk_free (hl := hl) (w := w) (ρ := ρ) hc
  have hrg := fz_rng (U := tkR hl w ρ) (T := T) (show 1 < w by have := sq.1; omega) hnw hc
  refine wm_eq ?_
  unfold f_X11_frozenWith
  by_cases z : frB w n hl ρ (c : Int) = true
  · rw [if_pos z] at hq
    rw [z] at htf
    by_cases zT : T = 0
    · rw [← hT, zT] at ht
      (repeat (first | (with_reducible apply wm_o; focus (simp (disch := omega) only [wr_id, Int.toNat_natCast, Int.reduceToNat, tn_lk, tn_kl, if_pos, if_neg, ↓reduceIte, and_self, and_true, true_and, FX, hq, ht]; with_reducible rfl)) | (with_reducible apply wm_q) | (with_reducible apply wm_c; focus (first | assumption | decide +kernel)) | (with_reducible apply wm_d; focus (simp (disch := omega) only [wr_id, Int.toNat_natCast, Int.reduceToNat, tn_lk, tn_kl, if_pos, if_neg, ↓reduceIte, and_self, and_true, true_and, FX, hq, ht]; with_reducible rfl)) | (with_reducible apply wm_t; focus (first | omega | (simp (disch := omega) only [wr_id, FX, hq, ht]; omega) | (simp (disch := omega) only [wr_id, FX, hq, ht]; done))) | (with_reducible apply wm_f; focus (first | omega | (simp (disch := omega) only [wr_id, FX, hq, ht]; omega) | (simp (disch := omega) only [wr_id, FX, hq, ht]; done)))))
      exact wm_r ⟨by unfold fzV; rw [if_pos zT], rfl⟩
    · have hom := s_onlyMate (t := t) (d := d) (rt := rt) hs cR hW hnw hc htf hT zT
      rw [← hT] at ht hTb
      by_cases zf : fzV w n (tkR hl w ρ) T c = -2
      · rw [if_pos zf] at hom
        (repeat (first | (with_reducible apply wm_o; focus (simp (disch := omega) only [wr_id, Int.toNat_natCast, Int.reduceToNat, tn_lk, tn_kl, if_pos, if_neg, ↓reduceIte, and_self, and_true, true_and, FX, hq, ht, hom]; with_reducible rfl)) | (with_reducible apply wm_q) | (with_reducible apply wm_c; focus (first | assumption | decide +kernel)) | (with_reducible apply wm_d; focus (simp (disch := omega) only [wr_id, Int.toNat_natCast, Int.reduceToNat, tn_lk, tn_kl, if_pos, if_neg, ↓reduceIte, and_self, and_true, true_and, FX, hq, ht, hom]; with_reducible rfl)) | (with_reducible apply wm_t; focus (first | omega | (simp (disch := omega) only [wr_id, FX, hq, ht, hom]; omega) | (simp (disch := omega) only [wr_id, FX, hq, ht, hom]; done))) | (with_reducible apply wm_f; focus (first | omega | (simp (disch := omega) only [wr_id, FX, hq, ht, hom]; omega) | (simp (disch := omega) only [wr_id, FX, hq, ht, hom]; done)))))
        exact wm_r ⟨zf.symm, rfl⟩
      · rw [if_neg zf] at hom
        generalize hg : fzV w n (tkR hl w ρ) T c = g at *
        (repeat (first | (with_reducible apply wm_o; focus (simp (disch := omega) only [wr_id, Int.toNat_natCast, Int.reduceToNat, tn_lk, tn_kl, if_pos, if_neg, ↓reduceIte, and_self, and_true, true_and, FX, hq, ht, hom]; with_reducible rfl)) | (with_reducible apply wm_q) | (with_reducible apply wm_c; focus (first | assumption | decide +kernel)) | (with_reducible apply wm_d; focus (simp (disch := omega) only [wr_id, Int.toNat_natCast, Int.reduceToNat, tn_lk, tn_kl, if_pos, if_neg, ↓reduceIte, and_self, and_true, true_and, FX, hq, ht, hom]; with_reducible rfl)) | (with_reducible apply wm_t; focus (first | omega | (simp (disch := omega) only [wr_id, FX, hq, ht, hom]; omega) | (simp (disch := omega) only [wr_id, FX, hq, ht, hom]; done))) | (with_reducible apply wm_f; focus (first | omega | (simp (disch := omega) only [wr_id, FX, hq, ht, hom]; omega) | (simp (disch := omega) only [wr_id, FX, hq, ht, hom]; done)))))
        exact wm_r ⟨rfl, rfl⟩
  · rw [if_neg z] at hq
    rw [show frB w n hl ρ (c : Int) = false by simpa using z] at htf
    (repeat (first | (with_reducible apply wm_o; focus (simp (disch := omega) only [wr_id, Int.toNat_natCast, Int.reduceToNat, tn_lk, tn_kl, if_pos, if_neg, ↓reduceIte, and_self, and_true, true_and, FX, hq]; with_reducible rfl)) | (with_reducible apply wm_q) | (with_reducible apply wm_c; focus (first | assumption | decide +kernel)) | (with_reducible apply wm_d; focus (simp (disch := omega) only [wr_id, Int.toNat_natCast, Int.reduceToNat, tn_lk, tn_kl, if_pos, if_neg, ↓reduceIte, and_self, and_true, true_and, FX, hq]; with_reducible rfl)) | (with_reducible apply wm_t; focus (first | omega | (simp (disch := omega) only [wr_id, FX, hq]; omega) | (simp (disch := omega) only [wr_id, FX, hq]; done))) | (with_reducible apply wm_f; focus (first | omega | (simp (disch := omega) only [wr_id, FX, hq]; omega) | (simp (disch := omega) only [wr_id, FX, hq]; done)))))
    refine wm_r ⟨?_, rfl⟩
    unfold fzV
    split
    · rfl
    · rw [if_pos (show tkR hl w ρ c = true from htf)]
theorem m_frozenAt (c' : cfM I lv w h n nh hl sd ifs xs) (hz : zM I) (hv : vRow ρ) (h1 : I 401 = ρ) {c T : Nat} (hc : c < n) (hT : T = Np w n noB noB n 0 (tkR hl w ρ)) : wm t d rt (f_X12_frozenAt 369 (c : Int) (T : Int) (mm t d rt I)) (fun r J => r = fzV w n (tkR hl w ρ) T c ∧ frM (fun a => a = 406 ∨ a = 408) (fun _ => False) I J) := by
  have hn : n ≤ 36 := c'.1.2.2.2.2.2.2.2.2.2.2
  have hw : 2 ≤ w := c'.1.2.2.2.2.1
  have hnw := c'.1.2.2.2.2.2.2.2.2.1
  have hTb := Np_b (na := noB) (nd := noB) (cl := tkR hl w ρ) (show 0 < w by omega) hnw hn
  rw [← hT] at hTb
  have htf := tk_free (hl := hl) (w := w) (ρ := ρ) hc
  unfold f_X12_frozenAt
  by_cases zT : T = 0
  · (repeat (first | (with_reducible apply wm_o; focus (simp (disch := omega) only [wr_id, Int.toNat_natCast, Int.reduceToNat, tn_lk, tn_kl, if_pos, if_neg, ↓reduceIte, and_self, and_true, true_and]; with_reducible rfl)) | (with_reducible apply wm_q) | (with_reducible apply wm_c; focus (first | assumption | decide +kernel)) | (with_reducible apply wm_d; focus (simp (disch := omega) only [wr_id, Int.toNat_natCast, Int.reduceToNat, tn_lk, tn_kl, if_pos, if_neg, ↓reduceIte, and_self, and_true, true_and]; with_reducible rfl)) | (with_reducible apply wm_t; focus (first | omega | (simp (disch := omega) only [wr_id]; omega) | (simp (disch := omega) only [wr_id]; done))) | (with_reducible apply wm_f; focus (first | omega | (simp (disch := omega) only [wr_id]; omega) | (simp (disch := omega) only [wr_id]; done)))))
    exact wm_r ⟨by unfold fzV; rw [if_pos zT], frM_refl _ _ _⟩
  · have mf1 := m_isFree (t := t) (d := d) (rt := rt) (x := (c : Int)) c'.1 c'.2.2.2.1 (by rw [h1]; exact hv) (i32 (by omega) (by omega))
    rw [h1] at mf1
    by_cases z : frB w n hl ρ (c : Int) = true
    · rw [if_pos z] at mf1
      rw [z] at htf
      (repeat (first | (with_reducible apply wm_o; focus (simp (disch := omega) only [wr_id, Int.toNat_natCast, Int.reduceToNat, tn_lk, tn_kl, if_pos, if_neg, ↓reduceIte, and_self, and_true, true_and, mf1]; with_reducible rfl)) | (with_reducible apply wm_q) | (with_reducible apply wm_c; focus (first | assumption | decide +kernel)) | (with_reducible apply wm_d; focus (simp (disch := omega) only [wr_id, Int.toNat_natCast, Int.reduceToNat, tn_lk, tn_kl, if_pos, if_neg, ↓reduceIte, and_self, and_true, true_and, mf1]; with_reducible rfl)) | (with_reducible apply wm_t; focus (first | omega | (simp (disch := omega) only [wr_id, mf1]; omega) | (simp (disch := omega) only [wr_id, mf1]; done))) | (with_reducible apply wm_f; focus (first | omega | (simp (disch := omega) only [wr_id, mf1]; omega) | (simp (disch := omega) only [wr_id, mf1]; done)))))
      have hU : tkR hl w ρ c = false := htf
      refine wm_lp2 4 (fun i y K => y = (i : Int) ∧ frM (fun a => a = 406 ∨ a = 408) (fun _ => False) I K ∧ ∀ j, j < i → sdV w n (tkR hl w ρ) c j ≠ T) ?_ (jfuel_n (by decide)) ⟨rfl, frM_refl _ _ _, fun j hj => by omega⟩
      rintro i hi y K ⟨rfl, hK, kA⟩ rec hrec
      have cK := cfM_frm hK (fun a _ _ _ _ _ _ _ _ => by omega) (fun q => q) c'
      have zK := zM_fr hz hK (by decide) (by decide) (by decide)
      have K4 : K 401 = ρ := (hK.1 401 (by decide) (by decide)).trans h1
      refine wm_if (fun cc => ?_) (fun cc => ?_)
      · simp (disch := omega) only [wr_id] at cc
        have hbs := fun (L : Nat → Nat → Int) (q : mCfg L lv w h n) => m_beside (t := t) (d := d) (rt := rt) q (x := c) (j := i) hc (by omega)
        have hbK := hbs K cK.1
        (repeat (first | (with_reducible apply wm_o; focus (simp (disch := omega) only [wr_id, Int.toNat_natCast, Int.reduceToNat, tn_lk, tn_kl, if_pos, if_neg, ↓reduceIte, and_self, and_true, true_and, hbK]; with_reducible rfl)) | (with_reducible apply wm_q) | (with_reducible apply wm_c; focus (first | assumption | decide +kernel)) | (with_reducible apply wm_d; focus (simp (disch := omega) only [wr_id, Int.toNat_natCast, Int.reduceToNat, tn_lk, tn_kl, if_pos, if_neg, ↓reduceIte, and_self, and_true, true_and, hbK]; with_reducible rfl)) | (with_reducible apply wm_t; focus (first | omega | (simp (disch := omega) only [wr_id, hbK]; omega) | (simp (disch := omega) only [wr_id, hbK]; done))) | (with_reducible apply wm_f; focus (first | omega | (simp (disch := omega) only [wr_id, hbK]; omega) | (simp (disch := omega) only [wr_id, hbK]; done)))))
        refine wm_b (m_countsWith cK zK hv K4 (x := c) (j := i) hc (by omega) hU) (fun v L hL => ?_)
        obtain ⟨rfl, l1⟩ := hL
        have cL := cfM_frm l1 (fun a _ _ _ _ _ _ _ _ => by omega) (fun q => q) cK
        have hle := sd_le (w := w) (n := n) (U := tkR hl w ρ) (c := c) (j := i) (by omega) hc hU (by omega)
        rw [← hT] at hle
        by_cases ze : sdV w n (tkR hl w ρ) c i = T
        · have hbL := hbs L cL.1
          (repeat (first | (with_reducible apply wm_o; focus (simp (disch := omega) only [wr_id, Int.toNat_natCast, Int.reduceToNat, tn_lk, tn_kl, if_pos, if_neg, ↓reduceIte, and_self, and_true, true_and, hbL]; with_reducible rfl)) | (with_reducible apply wm_q) | (with_reducible apply wm_c; focus (first | assumption | decide +kernel)) | (with_reducible apply wm_d; focus (simp (disch := omega) only [wr_id, Int.toNat_natCast, Int.reduceToNat, tn_lk, tn_kl, if_pos, if_neg, ↓reduceIte, and_self, and_true, true_and, hbL]; with_reducible rfl)) | (with_reducible apply wm_t; focus (first | omega | (simp (disch := omega) only [wr_id, hbL]; omega) | (simp (disch := omega) only [wr_id, hbL]; done))) | (with_reducible apply wm_f; focus (first | omega | (simp (disch := omega) only [wr_id, hbL]; omega) | (simp (disch := omega) only [wr_id, hbL]; done)))))
          refine wm_r ⟨?_, frM_trans hK l1⟩
          unfold fzV
          rw [if_neg zT, if_neg (by rw [hU]; decide)]
          have hi4 : i = 0 ∨ i = 1 ∨ i = 2 ∨ i = 3 := by omega
          rcases hi4 with rfl | rfl | rfl | rfl
          · rw [if_pos ze]
          · rw [if_neg (kA 0 (by omega)), if_pos ze]
          · rw [if_neg (kA 0 (by omega)), if_neg (kA 1 (by omega)), if_pos ze]
          · rw [if_neg (kA 0 (by omega)), if_neg (kA 1 (by omega)), if_neg (kA 2 (by omega)), if_pos ze]
        · generalize hg : sdV w n (tkR hl w ρ) c i = g at *
          (repeat (first | (with_reducible apply wm_o; focus (simp (disch := omega) only [wr_id, Int.toNat_natCast, Int.reduceToNat, tn_lk, tn_kl, if_pos, if_neg, ↓reduceIte, and_self, and_true, true_and]; with_reducible rfl)) | (with_reducible apply wm_q) | (with_reducible apply wm_c; focus (first | assumption | decide +kernel)) | (with_reducible apply wm_d; focus (simp (disch := omega) only [wr_id, Int.toNat_natCast, Int.reduceToNat, tn_lk, tn_kl, if_pos, if_neg, ↓reduceIte, and_self, and_true, true_and]; with_reducible rfl)) | (with_reducible apply wm_t; focus (first | omega | (simp (disch := omega) only [wr_id]; omega) | (simp (disch := omega) only [wr_id]; done))) | (with_reducible apply wm_f; focus (first | omega | (simp (disch := omega) only [wr_id]; omega) | (simp (disch := omega) only [wr_id]; done)))))
          refine hrec (i + 1) _ _ (by omega) (by omega) ⟨by omega, frM_trans hK l1, fun j hj => ?_⟩
          by_cases e : j = i
          · rw [e, hg]; exact ze
          · exact kA j (by omega)
      · simp (disch := omega) only [wr_id] at cc
        obtain rfl : i = 4 := by omega
        refine wm_r ⟨?_, hK⟩
        unfold fzV
        rw [if_neg zT, if_neg (by rw [hU]; decide), if_neg (kA 0 (by omega)), if_neg (kA 1 (by omega)), if_neg (kA 2 (by omega)), if_neg (kA 3 (by omega))]
    · rw [if_neg z] at mf1
      rw [show frB w n hl ρ (c : Int) = false by simpa using z] at htf
      (repeat (first | (with_reducible apply wm_o; focus (simp (disch := omega) only [wr_id, Int.toNat_natCast, Int.reduceToNat, tn_lk, tn_kl, if_pos, if_neg, ↓reduceIte, and_self, and_true, true_and, mf1]; with_reducible rfl)) | (with_reducible apply wm_q) | (with_reducible apply wm_c; focus (first | assumption | decide +kernel)) | (with_reducible apply wm_d; focus (simp (disch := omega) only [wr_id, Int.toNat_natCast, Int.reduceToNat, tn_lk, tn_kl, if_pos, if_neg, ↓reduceIte, and_self, and_true, true_and, mf1]; with_reducible rfl)) | (with_reducible apply wm_t; focus (first | omega | (simp (disch := omega) only [wr_id, mf1]; omega) | (simp (disch := omega) only [wr_id, mf1]; done))) | (with_reducible apply wm_f; focus (first | omega | (simp (disch := omega) only [wr_id, mf1]; omega) | (simp (disch := omega) only [wr_id, mf1]; done)))))
      refine wm_r ⟨?_, frM_refl _ _ _⟩
      unfold fzV
      rw [if_neg zT, if_pos (show tkR hl w ρ c = true from htf)]
theorem P_frozen (hI : INV t d rt I) {x : Int} (hx : in32 x) : both t d rt (f_X11_frozen 0 x (mm t d rt I)) (fun M => f_X12_frozen 369 x M) := by
  have hI' := hI
  obtain ⟨lv, w, h, n, nh, hl, sd, ifs, xs, hR, ρ, u, H, hd, G, hC, hM⟩ := hI
  have sq := hR.2.1
  have hcf := hR.2.2.1
  have hmf := hR.2.2.2.1
  have kt := (tx_k hcf.1).1
  have kb := (tx_k hcf.1).2.2.2
  have hnw := sq.2.2.2.2.1
  have hn := sq.2.2.2.2.2.2.1
  have hv := vRow_of hC.1 hn
  have ex := wr_in hx
  have hq := q_hasCell (d := d) (rt := rt) sq hcf hx
  obtain ⟨T, hT⟩ : ∃ T, T = Np w n noB noB n 0 (tkR hl w ρ) := ⟨_, rfl⟩
  have hrg := fun c (hc : c < n) => fz_rng (U := tkR hl w ρ) (T := T) (show 1 < w by have := sq.1; omega) hnw hc
  -- the class behind its shares, the model behind its copies
  have cls : ∀ (Q : Int → (Nat → Nat → Int) → Prop) (g : jMem → Option (Int × jMem)), (∀ J, frm scrC I J → cfC J t w h n nh hl sd ifs xs → stR J 34 w ρ → rCfg J 324 w h (tkR hl w ρ) noB noB → wyR J 324 w h (tkR hl w ρ) noB noB → shR J w n noB noB (tkR hl w ρ) → wm t d rt (g (mm t d rt J)) Q) → wm t d rt (jbd (f_X11_countRest 0 (mm t d rt I)) fun _ M2 =>
(jm_gR 11 10 M2 0).bind fun r3 =>
(jm_gR 11 9 M2 0).bind fun r4 =>
jcall 5 M2 r3 (f_X5_share r3 r4 M2) fun _ M6 => g M6) Q := by
    intro Q g hg
    refine wm_b (c_countRest sq hcf hC.1 hC.2.1 hR.2.2.2.2.2.2.2.1.2.2) (fun v J hJ => ?_)
    obtain ⟨j1, j2, j3⟩ := hJ
    (repeat (first | (with_reducible apply wm_o; focus (simp (disch := omega) only [wr_id, Int.toNat_natCast, Int.reduceToNat, tn_lk, tn_kl, if_pos, if_neg, ↓reduceIte, and_self, and_true, true_and, FX]; with_reducible rfl)) | (with_reducible apply wm_q) | (with_reducible apply wm_c; focus (first | assumption | decide +kernel)) | (with_reducible apply wm_d; focus (simp (disch := omega) only [wr_id, Int.toNat_natCast, Int.reduceToNat, tn_lk, tn_kl, if_pos, if_neg, ↓reduceIte, and_self, and_true, true_and, FX]; with_reducible rfl)) | (with_reducible apply wm_t; focus (first | omega | (simp (disch := omega) only [wr_id, FX]; omega) | (simp (disch := omega) only [wr_id, FX]; done))) | (with_reducible apply wm_f; focus (first | omega | (simp (disch := omega) only [wr_id, FX]; omega) | (simp (disch := omega) only [wr_id, FX]; done)))))
    refine wm_b (w_share j2 j3 no_cl hnw) (fun v2 J2 hJ2 => ?_)
    obtain ⟨q1, q2⟩ := hJ2
    have f2 : frm (fun a => 324 ≤ a ∧ a ≤ 347 ∧ a ≠ 336) I J2 := frm_trans (frm_sub j1 (fun a ha => by omega)) (frm_sub q1 (fun a ha => by omega))
    refine hg J2 (frm_sub f2 (fun a ha => by unfold scrC; omega)) (cfC_frm f2 (fun a a1 a2 => by omega) hcf) (stR_frm f2 (fun a a1 a2 => by omega) hC.2.1) (rCfg_frm (q1 _ (by omega)) (q1 _ (by omega)) (q1 _ (by omega)) (q1 _ (by omega)) (q1 _ (by omega)) j2) (fun y hy m hm => ?_) q2
    have h7 : h ≤ 6 := sq.2.2.2.1
    rw [q1 _ (by omega)]
    exact j3 y hy m hm
  have mdl : ∀ (J : Nat → Nat → Int) (Q : Int → (Nat → Nat → Int) → Prop) (g : Int → jMem → Option (Int × jMem)), frm scrC I J → (∀ K, frM scrM scrF J K → zM K → cfM K lv w h n nh hl sd ifs xs → K 401 = ρ → wm t d rt (g (T : Int) (mm t d rt K)) Q) → wm t d rt (jbd (f_X12_copies 369 (mm t d rt J)) fun _ M2 =>
jcall 12 M2 369 (f_X12_countsRest 369 M2) fun v3 M4 => g v3 M4) Q := by
    intro J Q g jC hg
    have jS : frm (fun a => scrC a ∨ stS a) I J := frm_sub jC (fun a ha => Or.inl ha)
    have hRJ := REST_c jS hR
    have hMJ := stM_c jS hM
    refine wm_b (m_cop hRJ.2.2.2.1 hRJ.2.2.2.2.2.2.2.2.2 hMJ.1 hMJ.2.1) (fun v' K hK => ?_)
    obtain ⟨k1, k2, k3, k4, k5⟩ := hK
    (repeat (first | (with_reducible apply wm_o; focus (simp (disch := omega) only [wr_id, Int.toNat_natCast, Int.reduceToNat, tn_lk, tn_kl, if_pos, if_neg, ↓reduceIte, and_self, and_true, true_and]; with_reducible rfl)) | (with_reducible apply wm_q) | (with_reducible apply wm_c; focus (first | assumption | decide +kernel)) | (with_reducible apply wm_d; focus (simp (disch := omega) only [wr_id, Int.toNat_natCast, Int.reduceToNat, tn_lk, tn_kl, if_pos, if_neg, ↓reduceIte, and_self, and_true, true_and]; with_reducible rfl)) | (with_reducible apply wm_t; focus (first | omega | (simp (disch := omega) only [wr_id]; omega) | (simp (disch := omega) only [wr_id]; done))) | (with_reducible apply wm_f; focus (first | omega | (simp (disch := omega) only [wr_id]; omega) | (simp (disch := omega) only [wr_id]; done)))))
    refine wm_b (m_countsRest k3 k2 hv k4) (fun v2 L hL => ?_)
    obtain ⟨rfl, l1, l2⟩ := hL
    rw [← hT]
    exact hg L (frM_trans k1 (frM_f l1 (fun a ha => by unfold scrM; omega))) (zM_fr k2 l1 (by decide) (by decide) (by decide)) (cfM_frm l1 (fun a _ _ _ _ _ _ _ _ => by omega) (fun q => q) k3) ((l1.1 401 (by decide) (by decide)).trans k4)
  unfold both f_X11_frozen
  by_cases z1 : x = -1
  · subst z1
    (repeat (first | (with_reducible apply wm_o; focus (simp (disch := omega) only [wr_id, Int.toNat_natCast, Int.reduceToNat, tn_lk, tn_kl, if_pos, if_neg, ↓reduceIte, and_self, and_true, true_and]; with_reducible rfl)) | (with_reducible apply wm_q) | (with_reducible apply wm_c; focus (first | assumption | decide +kernel)) | (with_reducible apply wm_d; focus (simp (disch := omega) only [wr_id, Int.toNat_natCast, Int.reduceToNat, tn_lk, tn_kl, if_pos, if_neg, ↓reduceIte, and_self, and_true, true_and]; with_reducible rfl)) | (with_reducible apply wm_t; focus (first | omega | (simp (disch := omega) only [wr_id]; omega) | (simp (disch := omega) only [wr_id]; done))) | (with_reducible apply wm_f; focus (first | omega | (simp (disch := omega) only [wr_id]; omega) | (simp (disch := omega) only [wr_id]; done)))))
    refine cls _ _ (fun J jC cJ sJ rJ wJ hJ => ?_)
    (repeat (first | (with_reducible apply wm_o; focus (simp (disch := omega) only [wr_id, Int.toNat_natCast, Int.reduceToNat, tn_lk, tn_kl, if_pos, if_neg, ↓reduceIte, and_self, and_true, true_and]; with_reducible rfl)) | (with_reducible apply wm_q) | (with_reducible apply wm_c; focus (first | assumption | decide +kernel)) | (with_reducible apply wm_d; focus (simp (disch := omega) only [wr_id, Int.toNat_natCast, Int.reduceToNat, tn_lk, tn_kl, if_pos, if_neg, ↓reduceIte, and_self, and_true, true_and]; with_reducible rfl)) | (with_reducible apply wm_t; focus (first | omega | (simp (disch := omega) only [wr_id]; omega) | (simp (disch := omega) only [wr_id]; done))) | (with_reducible apply wm_f; focus (first | omega | (simp (disch := omega) only [wr_id]; omega) | (simp (disch := omega) only [wr_id]; done)))))
    refine wm_lp3 n (fun i a y K => a = (cntB (fun c => decide (0 ≤ fzV w n (tkR hl w ρ) T c)) i : Int) ∧ y = (i : Int) ∧ K = J) ?_ (Nat.lt_of_le_of_lt hn (jfuel_n (by decide))) ⟨rfl, rfl, rfl⟩
    rintro i hi a y K ⟨rfl, rfl, rfl⟩ rec hrec
    have hce := q_cells (d := d) (rt := rt) sq cJ
    by_cases e : i = n
    · subst e
      (repeat (first | (with_reducible apply wm_o; focus (simp (disch := omega) only [wr_id, Int.toNat_natCast, Int.reduceToNat, tn_lk, tn_kl, if_pos, if_neg, ↓reduceIte, and_self, and_true, true_and, FX, hce]; with_reducible rfl)) | (with_reducible apply wm_q) | (with_reducible apply wm_c; focus (first | assumption | decide +kernel)) | (with_reducible apply wm_d; focus (simp (disch := omega) only [wr_id, Int.toNat_natCast, Int.reduceToNat, tn_lk, tn_kl, if_pos, if_neg, ↓reduceIte, and_self, and_true, true_and, FX, hce]; with_reducible rfl)) | (with_reducible apply wm_t; focus (first | omega | (simp (disch := omega) only [wr_id, FX, hce]; omega) | (simp (disch := omega) only [wr_id, FX, hce]; done))) | (with_reducible apply wm_f; focus (first | omega | (simp (disch := omega) only [wr_id, FX, hce]; omega) | (simp (disch := omega) only [wr_id, FX, hce]; done)))))
      refine wm_r ?_
      show wm t d rt (f_X12_frozen 369 (-1) (mm t d rt K)) _
      unfold f_X12_frozen
      (repeat (first | (with_reducible apply wm_o; focus (simp (disch := omega) only [wr_id, Int.toNat_natCast, Int.reduceToNat, tn_lk, tn_kl, if_pos, if_neg, ↓reduceIte, and_self, and_true, true_and]; with_reducible rfl)) | (with_reducible apply wm_q) | (with_reducible apply wm_c; focus (first | assumption | decide +kernel)) | (with_reducible apply wm_d; focus (simp (disch := omega) only [wr_id, Int.toNat_natCast, Int.reduceToNat, tn_lk, tn_kl, if_pos, if_neg, ↓reduceIte, and_self, and_true, true_and]; with_reducible rfl)) | (with_reducible apply wm_t; focus (first | omega | (simp (disch := omega) only [wr_id]; omega) | (simp (disch := omega) only [wr_id]; done))) | (with_reducible apply wm_f; focus (first | omega | (simp (disch := omega) only [wr_id]; omega) | (simp (disch := omega) only [wr_id]; done)))))
      refine mdl K _ _ jC (fun L l1 l2 l3 l4 => ?_)
      (repeat (first | (with_reducible apply wm_o; focus (simp (disch := omega) only [wr_id, Int.toNat_natCast, Int.reduceToNat, tn_lk, tn_kl, if_pos, if_neg, ↓reduceIte, and_self, and_true, true_and]; with_reducible rfl)) | (with_reducible apply wm_q) | (with_reducible apply wm_c; focus (first | assumption | decide +kernel)) | (with_reducible apply wm_d; focus (simp (disch := omega) only [wr_id, Int.toNat_natCast, Int.reduceToNat, tn_lk, tn_kl, if_pos, if_neg, ↓reduceIte, and_self, and_true, true_and]; with_reducible rfl)) | (with_reducible apply wm_t; focus (first | omega | (simp (disch := omega) only [wr_id]; omega) | (simp (disch := omega) only [wr_id]; done))) | (with_reducible apply wm_f; focus (first | omega | (simp (disch := omega) only [wr_id]; omega) | (simp (disch := omega) only [wr_id]; done)))))
      refine wm_lp3 i (fun j a y N => a = (cntB (fun c => decide (0 ≤ fzV w i (tkR hl w ρ) T c)) j : Int) ∧ y = (j : Int) ∧ frM (fun a => a = 406 ∨ a = 408) (fun _ => False) L N) ?_ (Nat.lt_of_le_of_lt hn (jfuel_n (by decide))) ⟨rfl, rfl, frM_refl _ _ _⟩
      rintro j hj a y N ⟨rfl, rfl, hN⟩ rec2 hrec2
      have cN := cfM_frm hN (fun a _ _ _ _ _ _ _ _ => by omega) (fun q => q) l3
      have zN := zM_fr l2 hN (by decide) (by decide) (by decide)
      have N4 : N 401 = ρ := (hN.1 401 (by decide) (by decide)).trans l4
      have hce2 := s_cells (t := t) (d := d) (rt := rt) cN.1
      by_cases e2 : j = i
      · subst e2
        (repeat (first | (with_reducible apply wm_o; focus (simp (disch := omega) only [wr_id, Int.toNat_natCast, Int.reduceToNat, tn_lk, tn_kl, if_pos, if_neg, ↓reduceIte, and_self, and_true, true_and, hce2]; with_reducible rfl)) | (with_reducible apply wm_q) | (with_reducible apply wm_c; focus (first | assumption | decide +kernel)) | (with_reducible apply wm_d; focus (simp (disch := omega) only [wr_id, Int.toNat_natCast, Int.reduceToNat, tn_lk, tn_kl, if_pos, if_neg, ↓reduceIte, and_self, and_true, true_and, hce2]; with_reducible rfl)) | (with_reducible apply wm_t; focus (first | omega | (simp (disch := omega) only [wr_id, hce2]; omega) | (simp (disch := omega) only [wr_id, hce2]; done))) | (with_reducible apply wm_f; focus (first | omega | (simp (disch := omega) only [wr_id, hce2]; omega) | (simp (disch := omega) only [wr_id, hce2]; done)))))
        exact wm_r ⟨rfl, INV_q hR hC hM jC (frM_trans l1 (frM_f hN (fun a ha => by unfold scrM; omega))) zN⟩
      · (repeat (first | (with_reducible apply wm_o; focus (simp (disch := omega) only [wr_id, Int.toNat_natCast, Int.reduceToNat, tn_lk, tn_kl, if_pos, if_neg, ↓reduceIte, and_self, and_true, true_and, hce2]; with_reducible rfl)) | (with_reducible apply wm_q) | (with_reducible apply wm_c; focus (first | assumption | decide +kernel)) | (with_reducible apply wm_d; focus (simp (disch := omega) only [wr_id, Int.toNat_natCast, Int.reduceToNat, tn_lk, tn_kl, if_pos, if_neg, ↓reduceIte, and_self, and_true, true_and, hce2]; with_reducible rfl)) | (with_reducible apply wm_t; focus (first | omega | (simp (disch := omega) only [wr_id, hce2]; omega) | (simp (disch := omega) only [wr_id, hce2]; done))) | (with_reducible apply wm_f; focus (first | omega | (simp (disch := omega) only [wr_id, hce2]; omega) | (simp (disch := omega) only [wr_id, hce2]; done)))))
        refine wm_b (m_frozenAt cN zN hv N4 (c := j) (by omega) hT) (fun v N2 hN2 => ?_)
        obtain ⟨rfl, n1⟩ := hN2
        rcases hrg j (by omega) with q | q
        · have es : cntB (fun c => decide (0 ≤ fzV w i (tkR hl w ρ) T c)) (j + 1) = cntB (fun c => decide (0 ≤ fzV w i (tkR hl w ρ) T c)) j := by
            rw [cntB, if_neg (by rw [q]; decide)]; rfl
          (repeat (first | (with_reducible apply wm_o; focus (simp (disch := omega) only [wr_id, Int.toNat_natCast, Int.reduceToNat, tn_lk, tn_kl, if_pos, if_neg, ↓reduceIte, and_self, and_true, true_and, q]; with_reducible rfl)) | (with_reducible apply wm_q) | (with_reducible apply wm_c; focus (first | assumption | decide +kernel)) | (with_reducible apply wm_d; focus (simp (disch := omega) only [wr_id, Int.toNat_natCast, Int.reduceToNat, tn_lk, tn_kl, if_pos, if_neg, ↓reduceIte, and_self, and_true, true_and, q]; with_reducible rfl)) | (with_reducible apply wm_t; focus (first | omega | (simp (disch := omega) only [wr_id, q]; omega) | (simp (disch := omega) only [wr_id, q]; done))) | (with_reducible apply wm_f; focus (first | omega | (simp (disch := omega) only [wr_id, q]; omega) | (simp (disch := omega) only [wr_id, q]; done)))))
          exact hrec2 (j + 1) _ _ _ (by omega) (by omega) ⟨by rw [es], by omega, frM_trans hN n1⟩
        · have es : cntB (fun c => decide (0 ≤ fzV w i (tkR hl w ρ) T c)) (j + 1) = cntB (fun c => decide (0 ≤ fzV w i (tkR hl w ρ) T c)) j + 1 := by
            rw [cntB, if_pos (decide_eq_true q.1)]
          generalize fzV w i (tkR hl w ρ) T j = g at q
          (repeat (first | (with_reducible apply wm_o; focus (simp (disch := omega) only [wr_id, Int.toNat_natCast, Int.reduceToNat, tn_lk, tn_kl, if_pos, if_neg, ↓reduceIte, and_self, and_true, true_and]; with_reducible rfl)) | (with_reducible apply wm_q) | (with_reducible apply wm_c; focus (first | assumption | decide +kernel)) | (with_reducible apply wm_d; focus (simp (disch := omega) only [wr_id, Int.toNat_natCast, Int.reduceToNat, tn_lk, tn_kl, if_pos, if_neg, ↓reduceIte, and_self, and_true, true_and]; with_reducible rfl)) | (with_reducible apply wm_t; focus (first | omega | (simp (disch := omega) only [wr_id]; omega) | (simp (disch := omega) only [wr_id]; done))) | (with_reducible apply wm_f; focus (first | omega | (simp (disch := omega) only [wr_id]; omega) | (simp (disch := omega) only [wr_id]; done)))))
          exact hrec2 (j + 1) _ _ _ (by omega) (by omega) ⟨by rw [es]; omega, by omega, frM_trans hN n1⟩
    · have hfw := c_frozenWith (d := d) (rt := rt) sq cJ sJ rJ wJ hJ (c := i) (by omega) hT
      rcases hrg i (by omega) with q | q
      · have es : cntB (fun c => decide (0 ≤ fzV w n (tkR hl w ρ) T c)) (i + 1) = cntB (fun c => decide (0 ≤ fzV w n (tkR hl w ρ) T c)) i := by
          rw [cntB, if_neg (by rw [q]; decide)]; rfl
        rw [q] at hfw
        (repeat (first | (with_reducible apply wm_o; focus (simp (disch := omega) only [wr_id, Int.toNat_natCast, Int.reduceToNat, tn_lk, tn_kl, if_pos, if_neg, ↓reduceIte, and_self, and_true, true_and, FX, hce, hfw]; with_reducible rfl)) | (with_reducible apply wm_q) | (with_reducible apply wm_c; focus (first | assumption | decide +kernel)) | (with_reducible apply wm_d; focus (simp (disch := omega) only [wr_id, Int.toNat_natCast, Int.reduceToNat, tn_lk, tn_kl, if_pos, if_neg, ↓reduceIte, and_self, and_true, true_and, FX, hce, hfw]; with_reducible rfl)) | (with_reducible apply wm_t; focus (first | omega | (simp (disch := omega) only [wr_id, FX, hce, hfw]; omega) | (simp (disch := omega) only [wr_id, FX, hce, hfw]; done))) | (with_reducible apply wm_f; focus (first | omega | (simp (disch := omega) only [wr_id, FX, hce, hfw]; omega) | (simp (disch := omega) only [wr_id, FX, hce, hfw]; done)))))
        exact hrec (i + 1) _ _ _ (by omega) (by omega) ⟨by rw [es], by omega, rfl⟩
      · have es : cntB (fun c => decide (0 ≤ fzV w n (tkR hl w ρ) T c)) (i + 1) = cntB (fun c => decide (0 ≤ fzV w n (tkR hl w ρ) T c)) i + 1 := by
          rw [cntB, if_pos (decide_eq_true q.1)]
        generalize fzV w n (tkR hl w ρ) T i = g at q hfw
        (repeat (first | (with_reducible apply wm_o; focus (simp (disch := omega) only [wr_id, Int.toNat_natCast, Int.reduceToNat, tn_lk, tn_kl, if_pos, if_neg, ↓reduceIte, and_self, and_true, true_and, FX, hce, hfw]; with_reducible rfl)) | (with_reducible apply wm_q) | (with_reducible apply wm_c; focus (first | assumption | decide +kernel)) | (with_reducible apply wm_d; focus (simp (disch := omega) only [wr_id, Int.toNat_natCast, Int.reduceToNat, tn_lk, tn_kl, if_pos, if_neg, ↓reduceIte, and_self, and_true, true_and, FX, hce, hfw]; with_reducible rfl)) | (with_reducible apply wm_t; focus (first | omega | (simp (disch := omega) only [wr_id, FX, hce, hfw]; omega) | (simp (disch := omega) only [wr_id, FX, hce, hfw]; done))) | (with_reducible apply wm_f; focus (first | omega | (simp (disch := omega) only [wr_id, FX, hce, hfw]; omega) | (simp (disch := omega) only [wr_id, FX, hce, hfw]; done)))))
        exact hrec (i + 1) _ _ _ (by omega) (by omega) ⟨by rw [es]; omega, by omega, rfl⟩
  · unfold in32 at hx
    by_cases z : 0 ≤ x ∧ x < n
    · rw [if_pos z] at hq
      obtain ⟨c, rfl⟩ : ∃ c : Nat, x = (c : Int) := ⟨x.toNat, by omega⟩
      (repeat (first | (with_reducible apply wm_o; focus (simp (disch := omega) only [wr_id, Int.toNat_natCast, Int.reduceToNat, tn_lk, tn_kl, if_pos, if_neg, ↓reduceIte, and_self, and_true, true_and, FX, hq]; with_reducible rfl)) | (with_reducible apply wm_q) | (with_reducible apply wm_c; focus (first | assumption | decide +kernel)) | (with_reducible apply wm_d; focus (simp (disch := omega) only [wr_id, Int.toNat_natCast, Int.reduceToNat, tn_lk, tn_kl, if_pos, if_neg, ↓reduceIte, and_self, and_true, true_and, FX, hq]; with_reducible rfl)) | (with_reducible apply wm_t; focus (first | omega | (simp (disch := omega) only [wr_id, FX, hq]; omega) | (simp (disch := omega) only [wr_id, FX, hq]; done))) | (with_reducible apply wm_f; focus (first | omega | (simp (disch := omega) only [wr_id, FX, hq]; omega) | (simp (disch := omega) only [wr_id, FX, hq]; done)))))
      refine cls _ _ (fun J jC cJ sJ rJ wJ hJ => ?_)
      have hfw := c_frozenWith (d := d) (rt := rt) sq cJ sJ rJ wJ hJ (c := c) (by omega) hT
      (repeat (first | (with_reducible apply wm_o; focus (simp (disch := omega) only [wr_id, Int.toNat_natCast, Int.reduceToNat, tn_lk, tn_kl, if_pos, if_neg, ↓reduceIte, and_self, and_true, true_and, hfw]; with_reducible rfl)) | (with_reducible apply wm_q) | (with_reducible apply wm_c; focus (first | assumption | decide +kernel)) | (with_reducible apply wm_d; focus (simp (disch := omega) only [wr_id, Int.toNat_natCast, Int.reduceToNat, tn_lk, tn_kl, if_pos, if_neg, ↓reduceIte, and_self, and_true, true_and, hfw]; with_reducible rfl)) | (with_reducible apply wm_t; focus (first | omega | (simp (disch := omega) only [wr_id, hfw]; omega) | (simp (disch := omega) only [wr_id, hfw]; done))) | (with_reducible apply wm_f; focus (first | omega | (simp (disch := omega) only [wr_id, hfw]; omega) | (simp (disch := omega) only [wr_id, hfw]; done)))))
      refine wm_r ?_
      have jS : frm (fun a => scrC a ∨ stS a) I J := frm_sub jC (fun a ha => Or.inl ha)
      have hic := s_isCell_t (t := t) (d := d) (rt := rt) (REST_c jS hR).2.2.2.1.1 z.1 z.2
      show wm t d rt (f_X12_frozen 369 (c : Int) (mm t d rt J)) _
      unfold f_X12_frozen
      (repeat (first | (with_reducible apply wm_o; focus (simp (disch := omega) only [wr_id, Int.toNat_natCast, Int.reduceToNat, tn_lk, tn_kl, if_pos, if_neg, ↓reduceIte, and_self, and_true, true_and, hic]; with_reducible rfl)) | (with_reducible apply wm_q) | (with_reducible apply wm_c; focus (first | assumption | decide +kernel)) | (with_reducible apply wm_d; focus (simp (disch := omega) only [wr_id, Int.toNat_natCast, Int.reduceToNat, tn_lk, tn_kl, if_pos, if_neg, ↓reduceIte, and_self, and_true, true_and, hic]; with_reducible rfl)) | (with_reducible apply wm_t; focus (first | omega | (simp (disch := omega) only [wr_id, hic]; omega) | (simp (disch := omega) only [wr_id, hic]; done))) | (with_reducible apply wm_f; focus (first | omega | (simp (disch := omega) only [wr_id, hic]; omega) | (simp (disch := omega) only [wr_id, hic]; done)))))
      refine mdl J _ _ jC (fun L l1 l2 l3 l4 => ?_)
      (repeat (first | (with_reducible apply wm_o; focus (simp (disch := omega) only [wr_id, Int.toNat_natCast, Int.reduceToNat, tn_lk, tn_kl, if_pos, if_neg, ↓reduceIte, and_self, and_true, true_and]; with_reducible rfl)) | (with_reducible apply wm_q) | (with_reducible apply wm_c; focus (first | assumption | decide +kernel)) | (with_reducible apply wm_d; focus (simp (disch := omega) only [wr_id, Int.toNat_natCast, Int.reduceToNat, tn_lk, tn_kl, if_pos, if_neg, ↓reduceIte, and_self, and_true, true_and]; with_reducible rfl)) | (with_reducible apply wm_t; focus (first | omega | (simp (disch := omega) only [wr_id]; omega) | (simp (disch := omega) only [wr_id]; done))) | (with_reducible apply wm_f; focus (first | omega | (simp (disch := omega) only [wr_id]; omega) | (simp (disch := omega) only [wr_id]; done)))))
      refine wm_b (m_frozenAt l3 l2 hv l4 (c := c) (by omega) hT) (fun v N2 hN2 => ?_)
      obtain ⟨rfl, n1⟩ := hN2
      exact wm_r ⟨rfl, INV_q hR hC hM jC (frM_trans l1 (frM_f n1 (fun a ha => by unfold scrM; omega))) (zM_fr l2 n1 (by decide) (by decide) (by decide))⟩
    · rw [if_neg z] at hq
      have hic := s_isCell_f (t := t) (d := d) (rt := rt) hmf.1 hx (by omega)
      (repeat (first | (with_reducible apply wm_o; focus (simp (disch := omega) only [wr_id, Int.toNat_natCast, Int.reduceToNat, tn_lk, tn_kl, if_pos, if_neg, ↓reduceIte, and_self, and_true, true_and, FX, hq]; with_reducible rfl)) | (with_reducible apply wm_q) | (with_reducible apply wm_c; focus (first | assumption | decide +kernel)) | (with_reducible apply wm_d; focus (simp (disch := omega) only [wr_id, Int.toNat_natCast, Int.reduceToNat, tn_lk, tn_kl, if_pos, if_neg, ↓reduceIte, and_self, and_true, true_and, FX, hq]; with_reducible rfl)) | (with_reducible apply wm_t; focus (first | omega | (simp (disch := omega) only [wr_id, FX, hq]; omega) | (simp (disch := omega) only [wr_id, FX, hq]; done))) | (with_reducible apply wm_f; focus (first | omega | (simp (disch := omega) only [wr_id, FX, hq]; omega) | (simp (disch := omega) only [wr_id, FX, hq]; done)))))
      refine wm_r ?_
      show wm t d rt (f_X12_frozen 369 x (mm t d rt I)) _
      unfold f_X12_frozen
      (repeat (first | (with_reducible apply wm_o; focus (simp (disch := omega) only [wr_id, Int.toNat_natCast, Int.reduceToNat, tn_lk, tn_kl, if_pos, if_neg, ↓reduceIte, and_self, and_true, true_and, hic]; with_reducible rfl)) | (with_reducible apply wm_q) | (with_reducible apply wm_c; focus (first | assumption | decide +kernel)) | (with_reducible apply wm_d; focus (simp (disch := omega) only [wr_id, Int.toNat_natCast, Int.reduceToNat, tn_lk, tn_kl, if_pos, if_neg, ↓reduceIte, and_self, and_true, true_and, hic]; with_reducible rfl)) | (with_reducible apply wm_t; focus (first | omega | (simp (disch := omega) only [wr_id, hic]; omega) | (simp (disch := omega) only [wr_id, hic]; done))) | (with_reducible apply wm_f; focus (first | omega | (simp (disch := omega) only [wr_id, hic]; omega) | (simp (disch := omega) only [wr_id, hic]; done)))))
      exact wm_r ⟨rfl, hI'⟩
end FY
