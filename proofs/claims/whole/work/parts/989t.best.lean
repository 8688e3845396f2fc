/-! ===== the class's best paving ===== -/
def chI : Option Nat → Int
  | none => -1
  | some o => (o : Int)
theorem bpS_c (g : Nat → Int) (ok : Nat → Bool) (o : Nat) (l : List Nat) (ch : Option Nat) (m : Int) : bpS g ok (o :: l) ch m = if m < g o ∧ ok o = true then bpS g ok l (some o) (g o) else bpS g ok l ch m := rfl
theorem bp_mem {g : Nat → Int} {ok : Nat → Bool} {l : List Nat} {m : Int} {o : Nat} (h : (bpS g ok l none m).1 = some o) : o ∈ l := by
  rcases bpS_spec g ok l none m with ⟨e, _⟩ | ⟨l1, o', l2, e1, _, _, e2, _⟩
  · rw [e] at h; cases h
  · rw [e2] at h
    injection h with h
    rw [e1, ← h]; simp
theorem Gn_b {wt : Nat → Nat → Int} {w h : Nat} {cl na nd : Nat → Bool} (hwt : ∀ y m, -10000 ≤ wt y m ∧ wt y m ≤ 10000) : ∀ (k y into : Nat), -1000000 - 10000 * (k : Int) ≤ Gn wt w h cl na nd k y into ∧ Gn wt w h cl na nd k y into ≤ 10000 * ((k : Int) + 1)
  | 0, y, into => by
    have := hwt y 0
    rw [Gn]
    split <;> omega
  | k + 1, y, into => by
    have h1 := hwt y into
    rw [Gn]
    split
    · omega
    · split
      · omega
      · rename_i o _
        have := Gn_b (cl := cl) (na := na) (nd := nd) (w := w) (h := h) hwt k (y + 1) o
        omega
theorem Gn_s {wt : Nat → Nat → Int} {w h : Nat} {cl na nd : Nat → Bool} {y into : Nat} (hy : y < h) : Gn wt w h cl na nd (h - y) y into = if Wr w h cl na nd (h - y) y into = 0 then -1000000 else match (bpS (Gn wt w h cl na nd (h - (y + 1)) (y + 1)) (fill w h cl na y into) (subs (room w h cl nd y into)) none (-1000000)).1 with
    | none => -1000000
    | some o => wt y into + Gn wt w h cl na nd (h - (y + 1)) (y + 1) o := by
  rw [show h - y = (h - (y + 1)) + 1 by omega, Gn]
  generalize (bpS (Gn wt w h cl na nd (h - (y + 1)) (y + 1)) (fill w h cl na y into) (subs (room w h cl nd y into)) none (-1000000)).1 = X
  cases X <;> rfl
section BS
variable {t d rt : Nat} {I : Nat → Nat → Int} {w h : Nat} {cl na nd : Nat → Bool} {wt : Nat → Nat → Int}
theorem ev_k : (K0 311).1 = 4 ∧ 311 < 418 := by decide +kernel
theorem s_bestPart (c : rCfg I 311 w h cl na nd) {y into : Nat} (hy : y < h) (hi : into < 2 ^ w) {g : Nat → Int} (hg : ∀ m, m < 2 ^ w → I (358 + (y + 1)) m = g m) (hgb : ∀ m, -2000000 ≤ g m ∧ g m ≤ 2000000) : f_X0_bestPart 348 311 (y : Int) (into : Int) (mm t d rt I) = some (chI (bpS g (fill w h cl na y into) (subs (room w h cl nd y into)) none (-1000000)).1, mm t d rt I) := by
  have c5 := c.2.2.2.2.1
  have c7 := c.2.2.2.2.2.2.1
  have hp6 : 2 ^ w ≤ 2 ^ 6 := Nat.pow_le_pow_right (by decide) c5
  have kr := ev_k
  have hroom := s_roomBelow (t := t) (d := d) (rt := rt) ev_in c (y := y) (into := into) (by omega) (by omega)
  have rl : room w h cl nd y into < 2 ^ w := room_lt
  have g1 := fun (J : Nat → Nat → Int) => g_row (t := t) (d := d) (rt := rt) (I := J) (a := 357) (y := y + 1) (i := (y : Int) + 1) (b := 358 + (y + 1)) gd_g (by omega) (by omega) (by omega)
  have g2 := fun (J : Nat → Nat → Int) (i : Int) => g_ld (t := t) (d := d) (rt := rt) (I := J) (a := 357) (y := y + 1) (b := 358 + (y + 1)) gd_g (by omega) (by omega) i
  generalize hR : room w h cl nd y into = R at *
  refine wm_eq ?_
  unfold f_X0_bestPart
  (repeat (first | (with_reducible apply wm_o; focus (simp (disch := omega) only [wr_id, Int.toNat_natCast, Int.reduceToNat, tn_lk, tn_kl, if_pos, if_neg, ↓reduceIte, and_self, and_true, true_and, hroom]; with_reducible rfl)) | (with_reducible apply wm_q) | (with_reducible apply wm_c; focus (first | assumption | decide +kernel)) | (with_reducible apply wm_d; focus (simp (disch := omega) only [wr_id, Int.toNat_natCast, Int.reduceToNat, tn_lk, tn_kl, if_pos, if_neg, ↓reduceIte, and_self, and_true, true_and, hroom]; with_reducible rfl)) | (with_reducible apply wm_t; focus (first | omega | (simp (disch := omega) only [wr_id, hroom]; omega) | (simp (disch := omega) only [wr_id, hroom]; done))) | (with_reducible apply wm_f; focus (first | omega | (simp (disch := omega) only [wr_id, hroom]; omega) | (simp (disch := omega) only [wr_id, hroom]; done)))))
  refine wm_lp5 64 (fun i a b p cnt J => J = I ∧ cnt = (i : Int) ∧ ∃ l1 l ch, subs R = l1 ++ l ∧ l1.length = i ∧ p = hdI l ∧ a = chI ch ∧ -2000000 ≤ b ∧ b ≤ 2000000 ∧ bpS g (fill w h cl na y into) l ch b = bpS g (fill w h cl na y into) (subs R) none (-1000000)) ?_ (jfuel_n (by decide)) ⟨rfl, rfl, [], subs R, none, rfl, rfl, (hd_subs R (by omega)).symm, rfl, by omega, by omega, rfl⟩
  rintro i hi' a b p cnt J ⟨rfl, rfl, l1, l, ch, e, el, rfl, rfl, b1, b2, eb⟩ rec hrec
  cases l with
  | nil =>
    have eb' : (ch, b) = bpS g (fill w h cl na y into) (subs R) none (-1000000) := eb
    (repeat (first | (with_reducible apply wm_o; focus (simp (disch := omega) only [wr_id, Int.toNat_natCast, Int.reduceToNat, tn_lk, tn_kl, if_pos, if_neg, ↓reduceIte, and_self, and_true, true_and, hdI_n]; with_reducible rfl)) | (with_reducible apply wm_q) | (with_reducible apply wm_c; focus (first | assumption | decide +kernel)) | (with_reducible apply wm_d; focus (simp (disch := omega) only [wr_id, Int.toNat_natCast, Int.reduceToNat, tn_lk, tn_kl, if_pos, if_neg, ↓reduceIte, and_self, and_true, true_and, hdI_n]; with_reducible rfl)) | (with_reducible apply wm_t; focus (first | omega | (simp (disch := omega) only [wr_id, hdI_n]; omega) | (simp (disch := omega) only [wr_id, hdI_n]; done))) | (with_reducible apply wm_f; focus (first | omega | (simp (disch := omega) only [wr_id, hdI_n]; omega) | (simp (disch := omega) only [wr_id, hdI_n]; done)))))
    exact wm_r ⟨by rw [← eb'], rfl⟩
  | cons p l =>
    have hp := mem_subs (r := R) (p := p) (by rw [e]; simp)
    have hpw : p < 2 ^ w := sub_lt hp.1 rl
    have hlen : l1.length + 1 ≤ 64 := by
      have := subs_len R
      rw [e] at this
      simp at this
      omega
    have hv := hg p hpw
    have hb := hgb p
    have hpa := fun (M : jMem) => pa (r := R) (by omega) e M
    have hfi := s_fills (t := t) (d := d) (rt := rt) ev_in c (y := y) (into := into) (o := p) (by omega) (by omega) hp.2
    have e' : subs R = (l1 ++ [p]) ++ l := by rw [e]; simp
    rw [bpS_c] at eb
    by_cases z : g p ≤ b
    · rw [if_neg (show ¬ (b < g p ∧ fill w h cl na y into p = true) by omega)] at eb
      (repeat (first | (with_reducible apply wm_o; focus (simp (disch := omega) only [wr_id, Int.toNat_natCast, Int.reduceToNat, tn_lk, tn_kl, if_pos, if_neg, ↓reduceIte, and_self, and_true, true_and, hdI_c, FBest, g1, g2, hv, hpa]; with_reducible rfl)) | (with_reducible apply wm_q) | (with_reducible apply wm_c; focus (first | assumption | decide +kernel)) | (with_reducible apply wm_d; focus (simp (disch := omega) only [wr_id, Int.toNat_natCast, Int.reduceToNat, tn_lk, tn_kl, if_pos, if_neg, ↓reduceIte, and_self, and_true, true_and, hdI_c, FBest, g1, g2, hv, hpa]; with_reducible rfl)) | (with_reducible apply wm_t; focus (first | omega | (simp (disch := omega) only [wr_id, hdI_c, FBest, g1, g2, hv, hpa]; omega) | (simp (disch := omega) only [wr_id, hdI_c, FBest, g1, g2, hv, hpa]; done))) | (with_reducible apply wm_f; focus (first | omega | (simp (disch := omega) only [wr_id, hdI_c, FBest, g1, g2, hv, hpa]; omega) | (simp (disch := omega) only [wr_id, hdI_c, FBest, g1, g2, hv, hpa]; done)))))
      exact hrec (i + 1) _ _ _ _ _ (by omega) (by omega) ⟨rfl, by omega, l1 ++ [p], l, ch, e', by rw [List.length_append, el]; rfl, rfl, rfl, b1, b2, eb⟩
    · by_cases zf : fill w h cl na y into p = true
      · rw [if_pos zf] at hfi
        rw [if_pos (show b < g p ∧ fill w h cl na y into p = true from ⟨by omega, zf⟩)] at eb
        (repeat (first | (with_reducible apply wm_o; focus (simp (disch := omega) only [wr_id, Int.toNat_natCast, Int.reduceToNat, tn_lk, tn_kl, if_pos, if_neg, ↓reduceIte, and_self, and_true, true_and, hdI_c, FBest, g1, g2, hv, hfi, hpa]; with_reducible rfl)) | (with_reducible apply wm_q) | (with_reducible apply wm_c; focus (first | assumption | decide +kernel)) | (with_reducible apply wm_d; focus (simp (disch := omega) only [wr_id, Int.toNat_natCast, Int.reduceToNat, tn_lk, tn_kl, if_pos, if_neg, ↓reduceIte, and_self, and_true, true_and, hdI_c, FBest, g1, g2, hv, hfi, hpa]; with_reducible rfl)) | (with_reducible apply wm_t; focus (first | omega | (simp (disch := omega) only [wr_id, hdI_c, FBest, g1, g2, hv, hfi, hpa]; omega) | (simp (disch := omega) only [wr_id, hdI_c, FBest, g1, g2, hv, hfi, hpa]; done))) | (with_reducible apply wm_f; focus (first | omega | (simp (disch := omega) only [wr_id, hdI_c, FBest, g1, g2, hv, hfi, hpa]; omega) | (simp (disch := omega) only [wr_id, hdI_c, FBest, g1, g2, hv, hfi, hpa]; done)))))
        exact hrec (i + 1) _ _ _ _ _ (by omega) (by omega) ⟨rfl, by omega, l1 ++ [p], l, some p, e', by rw [List.length_append, el]; rfl, rfl, rfl, hb.1, hb.2, eb⟩
      · rw [if_neg zf] at hfi
        rw [if_neg (show ¬ (b < g p ∧ fill w h cl na y into p = true) from fun q => zf q.2)] at eb
        (repeat (first | (with_reducible apply wm_o; focus (simp (disch := omega) only [wr_id, Int.toNat_natCast, Int.reduceToNat, tn_lk, tn_kl, if_pos, if_neg, ↓reduceIte, and_self, and_true, true_and, hdI_c, FBest, g1, g2, hv, hfi, hpa]; with_reducible rfl)) | (with_reducible apply wm_q) | (with_reducible apply wm_c; focus (first | assumption | decide +kernel)) | (with_reducible apply wm_d; focus (simp (disch := omega) only [wr_id, Int.toNat_natCast, Int.reduceToNat, tn_lk, tn_kl, if_pos, if_neg, ↓reduceIte, and_self, and_true, true_and, hdI_c, FBest, g1, g2, hv, hfi, hpa]; with_reducible rfl)) | (with_reducible apply wm_t; focus (first | omega | (simp (disch := omega) only [wr_id, hdI_c, FBest, g1, g2, hv, hfi, hpa]; omega) | (simp (disch := omega) only [wr_id, hdI_c, FBest, g1, g2, hv, hfi, hpa]; done))) | (with_reducible apply wm_f; focus (first | omega | (simp (disch := omega) only [wr_id, hdI_c, FBest, g1, g2, hv, hfi, hpa]; omega) | (simp (disch := omega) only [wr_id, hdI_c, FBest, g1, g2, hv, hfi, hpa]; done)))))
        exact hrec (i + 1) _ _ _ _ _ (by omega) (by omega) ⟨rfl, by omega, l1 ++ [p], l, ch, e', by rw [List.length_append, el]; rfl, rfl, rfl, b1, b2, eb⟩
theorem w_choose (c : rCfg I 311 w h cl na nd) (hW : wyR I 311 w h cl na nd) (hn : ∀ x, na x = true → cl x = false) (hwt : ∀ y m, -10000 ≤ wt y m ∧ wt y m ≤ 10000) (hT : ∀ y, y ≤ h → ∀ m, m < 2 ^ w → I (350 + y) m = wt y m) : wm t d rt (f_X0_choose 348 311 368 (mm t d rt I)) (fun r J => r = Gn wt w h cl na nd h 0 0 ∧ frm (fun a => (358 ≤ a ∧ a ≤ 364) ∨ a = 368) I J ∧ lnI J 368 (lnB wt w h cl na nd h 0 0)) := by
  have c0 := c
  obtain ⟨c1, c2, c3, c4, c5, c6, c7, c8, c9, c10, c11⟩ := c
  have hp6 : 2 ^ w ≤ 2 ^ 6 := Nat.pow_le_pow_right (by decide) c5
  have hp := Nat.two_pow_pos w
  have kr := ev_k
  have kb := be_k
  have w0 := wr_0
  have gb := fun k y (m : Nat) (hk : k ≤ 6) => by
    have := Gn_b (cl := cl) (na := na) (nd := nd) (w := w) (h := h) hwt k y m
    exact (show -2000000 ≤ Gn wt w h cl na nd k y m ∧ Gn wt w h cl na nd k y m ≤ 2000000 by omega)
  have cS : ∀ J : Nat → Nat → Int, frm (fun a => (358 ≤ a ∧ a ≤ 364) ∨ a = 368) I J → rCfg J 311 w h cl na nd := fun J hJ => rCfg_frm (hJ _ (by omega)) (hJ _ (by omega)) (hJ _ (by omega)) (hJ _ (by omega)) (hJ _ (by omega)) c0
  have r1 := fun (J : Nat → Nat → Int) => g_row (t := t) (d := d) (rt := rt) (I := J) (a := 357) (y := h) (i := (h : Int)) (b := 358 + h) gd_g (by omega) (by omega) (by omega)
  have r2 := fun (J : Nat → Nat → Int) (i v : Int) => g_st (t := t) (d := d) (rt := rt) (I := J) (a := 357) (y := h) (b := 358 + h) gd_g (by omega) (by omega) i v
  have r3 := fun (J : Nat → Nat → Int) => g_row (t := t) (d := d) (rt := rt) (I := J) (a := 349) (y := h) (i := (h : Int)) (b := 350 + h) gd_o (by omega) (by omega) (by omega)
  have r4 := fun (J : Nat → Nat → Int) (i : Int) => g_ld (t := t) (d := d) (rt := rt) (I := J) (a := 349) (y := h) (b := 350 + h) gd_o (by omega) (by omega) i
  have hf := w_fill (t := t) (d := d) (rt := rt) (I := I) (gk_g (y := h) (by omega)) (by omega) (by omega) (-1000000)
  have fF : frm (fun a => (358 ≤ a ∧ a ≤ 364) ∨ a = 368) I (fl I (358 + h) 64 (fun _ => -1000000)) := fun a ha => flne (by omega)
  have j6 := (cS _ fF).2.1
  have j0 : fl I (358 + h) 64 (fun _ => -1000000) (350 + h) 0 = wt h 0 := by rw [fl_ne (by omega)]; exact hT h (by omega) 0 hp
  have f2 : frm (fun a => (358 ≤ a ∧ a ≤ 364) ∨ a = 368) I (up (fl I (358 + h) 64 (fun _ => -1000000)) (358 + h) 0 (wt h 0)) := frm_up fF (by omega)
  have j62 := (cS _ f2).2.1
  obtain ⟨F, hF⟩ : ∃ F, F = lnB wt w h cl na nd h 0 0 := ⟨_, rfl⟩
  rw [← hF]
  unfold f_X0_choose
  (repeat (first | (with_reducible apply wm_o; focus (simp (disch := omega) only [wr_id, Int.toNat_natCast, Int.reduceToNat, tn_lk, tn_kl, if_pos, if_neg, ↓reduceIte, and_self, and_true, true_and, FRows ev_in, FBest, c2, r1, r2, r3, r4, hf, j6, j0, j62]; with_reducible rfl)) | (with_reducible apply wm_q) | (with_reducible apply wm_c; focus (first | assumption | decide +kernel)) | (with_reducible apply wm_d; focus (simp (disch := omega) only [wr_id, Int.toNat_natCast, Int.reduceToNat, tn_lk, tn_kl, if_pos, if_neg, ↓reduceIte, and_self, and_true, true_and, FRows ev_in, FBest, c2, r1, r2, r3, r4, hf, j6, j0, j62]; with_reducible rfl)) | (with_reducible apply wm_t; focus (first | omega | (simp (disch := omega) only [wr_id, FRows ev_in, FBest, c2, r1, r2, r3, r4, hf, j6, j0, j62]; omega) | (simp (disch := omega) only [wr_id, FRows ev_in, FBest, c2, r1, r2, r3, r4, hf, j6, j0, j62]; done))) | (with_reducible apply wm_f; focus (first | omega | (simp (disch := omega) only [wr_id, FRows ev_in, FBest, c2, r1, r2, r3, r4, hf, j6, j0, j62]; omega) | (simp (disch := omega) only [wr_id, FRows ev_in, FBest, c2, r1, r2, r3, r4, hf, j6, j0, j62]; done)))))
  refine wm_lp2 h (fun i y K => y = (h : Int) - 1 - (i : Int) ∧ frm (fun a => 358 ≤ a ∧ a ≤ 364) I K ∧ ∀ y, h - i ≤ y → y ≤ h → ∀ m, m < 2 ^ w → K (358 + y) m = Gn wt w h cl na nd (h - y) y m) ?_ (Nat.lt_of_le_of_lt c7 (jfuel_n (by decide))) ⟨by omega, frm_up (fun a ha => flne (by omega)) ⟨by omega, by omega⟩, fun y y1 y2 m hm => ?_⟩
  · rintro i hi y K ⟨rfl, hK, kA⟩ rec hrec
    have fK : frm (fun a => (358 ≤ a ∧ a ≤ 364) ∨ a = 368) I K := frm_sub hK (fun a ha => Or.inl ha)
    by_cases e : i = h
    · subst e
      have hfl := w_fill (t := t) (d := d) (rt := rt) (I := K) (a := 368) (m := 7) (by decide +kernel) (by decide) (by decide) 0
      (repeat (first | (with_reducible apply wm_o; focus (simp (disch := omega) only [wr_id, Int.toNat_natCast, Int.reduceToNat, tn_lk, tn_kl, if_pos, if_neg, ↓reduceIte, and_self, and_true, true_and, hfl]; with_reducible rfl)) | (with_reducible apply wm_q) | (with_reducible apply wm_c; focus (first | assumption | decide +kernel)) | (with_reducible apply wm_d; focus (simp (disch := omega) only [wr_id, Int.toNat_natCast, Int.reduceToNat, tn_lk, tn_kl, if_pos, if_neg, ↓reduceIte, and_self, and_true, true_and, hfl]; with_reducible rfl)) | (with_reducible apply wm_t; focus (first | omega | (simp (disch := omega) only [wr_id, hfl]; omega) | (simp (disch := omega) only [wr_id, hfl]; done))) | (with_reducible apply wm_f; focus (first | omega | (simp (disch := omega) only [wr_id, hfl]; omega) | (simp (disch := omega) only [wr_id, hfl]; done)))))
      clear hrec rec
      refine wm_lp2 i (fun y b L => b = (y : Int) ∧ frm (fun a => a = 368) K L ∧ (∀ j, j ≤ y → L 368 j = (((0 :: F).getD j 0 : Nat) : Int)) ∧ (∀ j, y < j → j < 7 → L 368 j = 0) ∧ lnB wt w i cl na nd (i - y) y ((0 :: F).getD y 0) = F.drop y ∧ (0 :: F).getD y 0 < 2 ^ w) ?_ (Nat.lt_of_le_of_lt c7 (jfuel_n (by decide))) ⟨rfl, fun a ha => flne ha, fun j hj => ?_, fun j h1 h2 => fl_in h2, hF.symm, hp⟩
      · rintro y hy b L ⟨rfl, hL, lA, lB, eL, hin⟩ rec hrec
        have fL : frm (fun a => (358 ≤ a ∧ a ≤ 364) ∨ a = 368) I L := frm_trans fK (frm_sub hL (fun a ha => Or.inr ha))
        have cL := cS L fL
        have l6 := cL.2.1
        by_cases e : y = i
        · subst e
          have q1 := g_row (t := t) (d := d) (rt := rt) (I := L) (a := 357) (y := 0) (i := 0) (b := 358) gd_g (by omega) (by omega) (by omega)
          have q2 := fun (k : Int) => g_ld (t := t) (d := d) (rt := rt) (I := L) (a := 357) (y := 0) (b := 358) gd_g (by omega) (by omega) k
          have q3 : L 358 0 = Gn wt w y cl na nd (y - 0) 0 0 := by rw [hL _ (by omega)]; exact kA 0 (by omega) (by omega) 0 hp
          (repeat (first | (with_reducible apply wm_o; focus (simp (disch := omega) only [wr_id, Int.toNat_natCast, Int.reduceToNat, tn_lk, tn_kl, if_pos, if_neg, ↓reduceIte, and_self, and_true, true_and, FRows ev_in, FBest, l6, q1, q2, q3]; with_reducible rfl)) | (with_reducible apply wm_q) | (with_reducible apply wm_c; focus (first | assumption | decide +kernel)) | (with_reducible apply wm_d; focus (simp (disch := omega) only [wr_id, Int.toNat_natCast, Int.reduceToNat, tn_lk, tn_kl, if_pos, if_neg, ↓reduceIte, and_self, and_true, true_and, FRows ev_in, FBest, l6, q1, q2, q3]; with_reducible rfl)) | (with_reducible apply wm_t; focus (first | omega | (simp (disch := omega) only [wr_id, FRows ev_in, FBest, l6, q1, q2, q3]; omega) | (simp (disch := omega) only [wr_id, FRows ev_in, FBest, l6, q1, q2, q3]; done))) | (with_reducible apply wm_f; focus (first | omega | (simp (disch := omega) only [wr_id, FRows ev_in, FBest, l6, q1, q2, q3]; omega) | (simp (disch := omega) only [wr_id, FRows ev_in, FBest, l6, q1, q2, q3]; done)))))
          rw [Nat.sub_self, lnB] at eL
          have hlen : F.length ≤ y := by
            have := congrArg List.length eL
            rw [List.length_drop] at this
            simp at this
            omega
          refine wm_r ⟨by rw [Nat.sub_zero], fL, fun j hj => ?_⟩
          by_cases z : j ≤ y
          · exact lA j z
          · rw [lB j (by omega) hj, List.getD_eq_getElem?_getD, List.getElem?_eq_none (by simp; omega)]
            rfl
        · have hyh : y < i := by omega
          obtain ⟨into, hinto⟩ : ∃ into, into = (0 :: F).getD y 0 := ⟨_, rfl⟩
          rw [← hinto] at eL hin
          have jy : L 368 y = (into : Int) := by rw [lA y (by omega), hinto]
          have hbp := s_bestPart (t := t) (d := d) (rt := rt) cL (y := y) (into := into) hyh hin (g := Gn wt w i cl na nd (i - (y + 1)) (y + 1)) (fun m hm => by rw [hL _ (by omega)]; exact kA (y + 1) (by omega) (by omega) m hm) (fun m => gb _ _ m (by omega))
          rw [show i - y = (i - (y + 1)) + 1 by omega, lnB] at eL
          obtain ⟨d1, d2⟩ := drop_cons eL.symm
          obtain ⟨ch, hch⟩ : ∃ ch, ch = (bpS (Gn wt w i cl na nd (i - (y + 1)) (y + 1)) (fill w i cl na y into) (subs (room w i cl nd y into)) none (-1000000)).1 := ⟨_, rfl⟩
          rw [← hch] at hbp d1 d2
          have rl : room w i cl nd y into < 2 ^ w := room_lt
          have hcb : ch.getD 0 < 2 ^ w := by
            cases q : ch with
            | none => exact hp
            | some o =>
              have := mem_subs (bp_mem (by rw [← hch]; exact q) : o ∈ subs (room w i cl nd y into))
              exact sub_lt this.1 rl
          have hcr : -1 ≤ chI ch ∧ chI ch < 2 ^ w := by
            cases q : ch with
            | none => show -1 ≤ (-1 : Int) ∧ (-1 : Int) < 2 ^ w; have : (0 : Int) < 2 ^ w := by exact_mod_cast hp
                      omega
            | some o => rw [q] at hcb; show -1 ≤ (o : Int) ∧ (o : Int) < 2 ^ w; have : (o : Int) < ((2 ^ w : Nat) : Int) := by exact_mod_cast hcb
                        rw [Int.natCast_pow] at this
                        exact ⟨by omega, this⟩
          have h2w : (2 : Int) ^ w ≤ 64 := by
            have : ((2 ^ w : Nat) : Int) ≤ 64 := by exact_mod_cast hp6
            rw [Int.natCast_pow] at this
            exact this
          have hmx := fun (M : jMem) => j_max (a := 0) (b := chI ch) (i32 (by omega) (by omega)) (i32 (by omega) (by omega)) M
          have emx : max (0 : Int) (chI ch) = ((ch.getD 0 : Nat) : Int) := by
            cases q : ch with
            | none => rfl
            | some o => show max (0 : Int) (o : Int) = (o : Int); omega
          rw [emx] at hmx
          (repeat (first | (with_reducible apply wm_o; focus (simp (disch := omega) only [wr_id, Int.toNat_natCast, Int.reduceToNat, tn_lk, tn_kl, if_pos, if_neg, ↓reduceIte, and_self, and_true, true_and, FRows ev_in, FX, l6, jy, hbp, hmx]; with_reducible rfl)) | (with_reducible apply wm_q) | (with_reducible apply wm_c; focus (first | assumption | decide +kernel)) | (with_reducible apply wm_d; focus (simp (disch := omega) only [wr_id, Int.toNat_natCast, Int.reduceToNat, tn_lk, tn_kl, if_pos, if_neg, ↓reduceIte, and_self, and_true, true_and, FRows ev_in, FX, l6, jy, hbp, hmx]; with_reducible rfl)) | (with_reducible apply wm_t; focus (first | omega | (simp (disch := omega) only [wr_id, FRows ev_in, FX, l6, jy, hbp, hmx]; omega) | (simp (disch := omega) only [wr_id, FRows ev_in, FX, l6, jy, hbp, hmx]; done))) | (with_reducible apply wm_f; focus (first | omega | (simp (disch := omega) only [wr_id, FRows ev_in, FX, l6, jy, hbp, hmx]; omega) | (simp (disch := omega) only [wr_id, FRows ev_in, FX, l6, jy, hbp, hmx]; done)))))
          refine hrec (y + 1) _ _ (by omega) (by omega) ⟨by omega, frm_up hL rfl, fun j hj => ?_, fun j h1 h2 => ?_, ?_, ?_⟩
          · rw [up_g]
            by_cases ej : j = y + 1
            · rw [if_pos ej, ej, gd_s1, d1]
            · rw [if_neg ej]; exact lA j (by omega)
          · rw [up_g, if_neg (by omega)]; exact lB j (by omega) h2
          · rw [gd_s1, d1, d2]
          · rw [gd_s1, d1]; exact hcb
      · obtain rfl : j = 0 := by omega
        rw [fl_in (by decide)]
        rfl
    · obtain ⟨y, hy⟩ : ∃ y : Nat, y = h - 1 - i := ⟨_, rfl⟩
      have ey : (h : Int) - 1 - (i : Int) = (y : Int) := by omega
      rw [ey]
      have hyh : y < h := by omega
      (repeat (first | (with_reducible apply wm_o; focus (simp (disch := omega) only [wr_id, Int.toNat_natCast, Int.reduceToNat, tn_lk, tn_kl, if_pos, if_neg, ↓reduceIte, and_self, and_true, true_and]; with_reducible rfl)) | (with_reducible apply wm_q) | (with_reducible apply wm_c; focus (first | assumption | decide +kernel)) | (with_reducible apply wm_d; focus (simp (disch := omega) only [wr_id, Int.toNat_natCast, Int.reduceToNat, tn_lk, tn_kl, if_pos, if_neg, ↓reduceIte, and_self, and_true, true_and]; with_reducible rfl)) | (with_reducible apply wm_t; focus (first | omega | (simp (disch := omega) only [wr_id]; omega) | (simp (disch := omega) only [wr_id]; done))) | (with_reducible apply wm_f; focus (first | omega | (simp (disch := omega) only [wr_id]; omega) | (simp (disch := omega) only [wr_id]; done)))))
      have q1 := fun (J : Nat → Nat → Int) => g_row (t := t) (d := d) (rt := rt) (I := J) (a := 357) (y := y) (i := (y : Int)) (b := 358 + y) gd_g (by omega) rfl (by omega)
      have q2 := fun (J : Nat → Nat → Int) (i v : Int) => g_st (t := t) (d := d) (rt := rt) (I := J) (a := 357) (y := y) (b := 358 + y) gd_g (by omega) (by omega) i v
      have q3 := fun (J : Nat → Nat → Int) => g_row (t := t) (d := d) (rt := rt) (I := J) (a := 349) (y := y) (i := (y : Int)) (b := 350 + y) gd_o (by omega) rfl (by omega)
      have q4 := fun (J : Nat → Nat → Int) (i : Int) => g_ld (t := t) (d := d) (rt := rt) (I := J) (a := 349) (y := y) (b := 350 + y) gd_o (by omega) (by omega) i
      have q5 := fun (J : Nat → Nat → Int) => g_row (t := t) (d := d) (rt := rt) (I := J) (a := 357) (y := y + 1) (i := (y : Int) + 1) (b := 358 + (y + 1)) gd_g (by omega) (by omega) (by omega)
      have q6 := fun (J : Nat → Nat → Int) (i : Int) => g_ld (t := t) (d := d) (rt := rt) (I := J) (a := 357) (y := y + 1) (b := 358 + (y + 1)) gd_g (by omega) (by omega) i
      have q7 := fun (J : Nat → Nat → Int) => g_row (t := t) (d := d) (rt := rt) (I := J) (a := 315) (y := y) (i := (y : Int)) (b := 316 + y) (by decide) (by omega) rfl (by omega)
      have q8 := fun (J : Nat → Nat → Int) (i : Int) => g_ld (t := t) (d := d) (rt := rt) (I := J) (a := 315) (y := y) (b := 316 + y) (by decide) (by omega) (by omega) i
      refine wm_lp2 (2 ^ w) (fun k x L => x = (k : Int) ∧ frm (fun a => a = 358 + y) K L ∧ ∀ m, m < k → L (358 + y) m = Gn wt w h cl na nd (h - y) y m) ?_ (Nat.lt_of_le_of_lt hp6 (jfuel_n (by decide))) ⟨rfl, frm_refl _ _, fun m hm => by omega⟩
      rintro k hk x L ⟨rfl, hL, lA⟩ rec2 hrec2
      have fL : frm (fun a => 358 ≤ a ∧ a ≤ 364) I L := frm_trans hK (frm_sub hL (fun a ha => by omega))
      have cL := cS L (frm_sub fL (fun a ha => Or.inl ha))
      have l7 := cL.2.2.1
      by_cases ek : k = 2 ^ w
      · subst ek
        (repeat (first | (with_reducible apply wm_o; focus (simp (disch := omega) only [wr_id, Int.toNat_natCast, Int.reduceToNat, tn_lk, tn_kl, if_pos, if_neg, ↓reduceIte, and_self, and_true, true_and, FRows ev_in, l7]; with_reducible rfl)) | (with_reducible apply wm_q) | (with_reducible apply wm_c; focus (first | assumption | decide +kernel)) | (with_reducible apply wm_d; focus (simp (disch := omega) only [wr_id, Int.toNat_natCast, Int.reduceToNat, tn_lk, tn_kl, if_pos, if_neg, ↓reduceIte, and_self, and_true, true_and, FRows ev_in, l7]; with_reducible rfl)) | (with_reducible apply wm_t; focus (first | omega | (simp (disch := omega) only [wr_id, FRows ev_in, l7]; omega) | (simp (disch := omega) only [wr_id, FRows ev_in, l7]; done))) | (with_reducible apply wm_f; focus (first | omega | (simp (disch := omega) only [wr_id, FRows ev_in, l7]; omega) | (simp (disch := omega) only [wr_id, FRows ev_in, l7]; done)))))
        refine hrec (i + 1) _ _ (by omega) (by omega) ⟨by omega, fL, fun z z1 z2 m hm => ?_⟩
        by_cases ez : z = y
        · subst ez; exact lA m (by omega)
        · rw [hL _ (by omega)]; exact kA z (by omega) z2 m hm
      · have hkw : k < 2 ^ w := by omega
        have hv : L (316 + y) k = (Wr w h cl na nd (h - y) y k : Int) := by rw [fL _ (by omega)]; exact hW y (by omega) k hkw
        have hWl := Wr_le (w := w) (h := h) (cl := cl) (na := na) (nd := nd) (k := h - y) (y := y) (into := k) (by omega) c5 (by omega) c7 hn (by omega)
        have hGs := Gn_s (wt := wt) (w := w) (h := h) (cl := cl) (na := na) (nd := nd) (y := y) (into := k) hyh
        have fin : ∀ v : Int, v = Gn wt w h cl na nd (h - y) y k → wm t d rt (rec2 ((k : Int) + 1) (mm t d rt (up L (358 + y) k v))) (fun r J => r = Gn wt w h cl na nd h 0 0 ∧ frm (fun a => (358 ≤ a ∧ a ≤ 364) ∨ a = 368) I J ∧ lnI J 368 F) := by
          intro v hv'
          refine hrec2 (k + 1) _ _ (by omega) (by omega) ⟨by omega, frm_up hL rfl, fun m hm => ?_⟩
          rw [up_g]
          by_cases em : m = k
          · rw [if_pos em, em, hv']
          · rw [if_neg em]; exact lA m (by omega)
        by_cases z : Wr w h cl na nd (h - y) y k = 0
        · rw [if_pos z] at hGs
          rw [z] at hv
          (repeat (first | (with_reducible apply wm_o; focus (simp (disch := omega) only [wr_id, Int.toNat_natCast, Int.reduceToNat, tn_lk, tn_kl, if_pos, if_neg, ↓reduceIte, and_self, and_true, true_and, FRows ev_in, FBest, l7, q1, q2, q7, q8, hv]; with_reducible rfl)) | (with_reducible apply wm_q) | (with_reducible apply wm_c; focus (first | assumption | decide +kernel)) | (with_reducible apply wm_d; focus (simp (disch := omega) only [wr_id, Int.toNat_natCast, Int.reduceToNat, tn_lk, tn_kl, if_pos, if_neg, ↓reduceIte, and_self, and_true, true_and, FRows ev_in, FBest, l7, q1, q2, q7, q8, hv]; with_reducible rfl)) | (with_reducible apply wm_t; focus (first | omega | (simp (disch := omega) only [wr_id, FRows ev_in, FBest, l7, q1, q2, q7, q8, hv]; omega) | (simp (disch := omega) only [wr_id, FRows ev_in, FBest, l7, q1, q2, q7, q8, hv]; done))) | (with_reducible apply wm_f; focus (first | omega | (simp (disch := omega) only [wr_id, FRows ev_in, FBest, l7, q1, q2, q7, q8, hv]; omega) | (simp (disch := omega) only [wr_id, FRows ev_in, FBest, l7, q1, q2, q7, q8, hv]; done)))))
          exact fin _ hGs.symm
        · rw [if_neg z] at hGs
          have hbp := s_bestPart (t := t) (d := d) (rt := rt) cL (y := y) (into := k) hyh hkw (g := Gn wt w h cl na nd (h - (y + 1)) (y + 1)) (fun m hm => by rw [hL _ (by omega)]; exact kA (y + 1) (by omega) (by omega) m hm) (fun m => gb _ _ m (by omega))
          obtain ⟨ch, hch⟩ : ∃ ch, ch = (bpS (Gn wt w h cl na nd (h - (y + 1)) (y + 1)) (fill w h cl na y k) (subs (room w h cl nd y k)) none (-1000000)).1 := ⟨_, rfl⟩
          rw [← hch] at hbp hGs
          generalize hWg : Wr w h cl na nd (h - y) y k = W at *
          cases ch with
          | none =>
            have hbp' : f_X0_bestPart 348 311 (y : Int) (k : Int) (mm t d rt L) = some (-1, mm t d rt L) := hbp
            (repeat (first | (with_reducible apply wm_o; focus (simp (disch := omega) only [wr_id, Int.toNat_natCast, Int.reduceToNat, tn_lk, tn_kl, if_pos, if_neg, ↓reduceIte, and_self, and_true, true_and, FRows ev_in, FBest, l7, q1, q2, q7, q8, hv, hbp']; with_reducible rfl)) | (with_reducible apply wm_q) | (with_reducible apply wm_c; focus (first | assumption | decide +kernel)) | (with_reducible apply wm_d; focus (simp (disch := omega) only [wr_id, Int.toNat_natCast, Int.reduceToNat, tn_lk, tn_kl, if_pos, if_neg, ↓reduceIte, and_self, and_true, true_and, FRows ev_in, FBest, l7, q1, q2, q7, q8, hv, hbp']; with_reducible rfl)) | (with_reducible apply wm_t; focus (first | omega | (simp (disch := omega) only [wr_id, FRows ev_in, FBest, l7, q1, q2, q7, q8, hv, hbp']; omega) | (simp (disch := omega) only [wr_id, FRows ev_in, FBest, l7, q1, q2, q7, q8, hv, hbp']; done))) | (with_reducible apply wm_f; focus (first | omega | (simp (disch := omega) only [wr_id, FRows ev_in, FBest, l7, q1, q2, q7, q8, hv, hbp']; omega) | (simp (disch := omega) only [wr_id, FRows ev_in, FBest, l7, q1, q2, q7, q8, hv, hbp']; done)))))
            exact fin _ hGs.symm
          | some o =>
            have hbp' : f_X0_bestPart 348 311 (y : Int) (k : Int) (mm t d rt L) = some ((o : Int), mm t d rt L) := hbp
            have hom := mem_subs (bp_mem hch.symm : o ∈ subs (room w h cl nd y k))
            have how : o < 2 ^ w := sub_lt hom.1 room_lt
            have e1 : L (350 + y) k = wt y k := by rw [fL _ (by omega)]; exact hT y (by omega) k hkw
            have e2 : L (358 + (y + 1)) o = Gn wt w h cl na nd (h - (y + 1)) (y + 1) o := by rw [hL _ (by omega)]; exact kA (y + 1) (by omega) (by omega) o how
            (repeat (first | (with_reducible apply wm_o; focus (simp (disch := omega) only [wr_id, Int.toNat_natCast, Int.reduceToNat, tn_lk, tn_kl, if_pos, if_neg, ↓reduceIte, and_self, and_true, true_and, FRows ev_in, FBest, l7, q1, q2, q3, q4, q5, q6, q7, q8, hv, hbp', e1, e2]; with_reducible rfl)) | (with_reducible apply wm_q) | (with_reducible apply wm_c; focus (first | assumption | decide +kernel)) | (with_reducible apply wm_d; focus (simp (disch := omega) only [wr_id, Int.toNat_natCast, Int.reduceToNat, tn_lk, tn_kl, if_pos, if_neg, ↓reduceIte, and_self, and_true, true_and, FRows ev_in, FBest, l7, q1, q2, q3, q4, q5, q6, q7, q8, hv, hbp', e1, e2]; with_reducible rfl)) | (with_reducible apply wm_t; focus (first | omega | (simp (disch := omega) only [wr_id, FRows ev_in, FBest, l7, q1, q2, q3, q4, q5, q6, q7, q8, hv, hbp', e1, e2]; omega) | (simp (disch := omega) only [wr_id, FRows ev_in, FBest, l7, q1, q2, q3, q4, q5, q6, q7, q8, hv, hbp', e1, e2]; done))) | (with_reducible apply wm_f; focus (first | omega | (simp (disch := omega) only [wr_id, FRows ev_in, FBest, l7, q1, q2, q3, q4, q5, q6, q7, q8, hv, hbp', e1, e2]; omega) | (simp (disch := omega) only [wr_id, FRows ev_in, FBest, l7, q1, q2, q3, q4, q5, q6, q7, q8, hv, hbp', e1, e2]; done)))))
            exact fin _ hGs.symm
  · obtain rfl : y = h := by omega
    rw [up_g, fl_in (by omega), Nat.sub_self, Gn]
end BS
