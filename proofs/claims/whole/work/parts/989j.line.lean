/-! ===== the class's lines ===== -/
theorem pick_c (g : Nat → Nat) (p : Nat) (l : List Nat) (i : Nat) : pick g (p :: l) i = if i < g p then some (p, i) else pick g l (i - g p) := rfl
theorem lnA_s {w h : Nat} {cl na nd : Nat → Bool} {k y into i o r : Nat} (e : pick (fun o => if fill w h cl na y into o then Wr w h cl na nd k (y + 1) o else 0) (subs (room w h cl nd y into)) i = some (o, r)) : lnA w h cl na nd (k + 1) y into i = o :: lnA w h cl na nd k (y + 1) o r := by
  rw [lnA, e]
theorem drop_cons {F : List Nat} {y o : Nat} {l : List Nat} (h : F.drop y = o :: l) : F.getD y 0 = o ∧ F.drop (y + 1) = l := by
  have h1 : F[y]? = some o := by
    have : (F.drop y)[0]? = some o := by rw [h]; rfl
    rw [List.getElem?_drop] at this
    simpa using this
  refine ⟨by rw [List.getD_eq_getElem?_getD, h1]; rfl, ?_⟩
  have : F.drop (y + 1) = (F.drop y).drop 1 := by rw [List.drop_drop]
  rw [this, h]; rfl
theorem tw_app {o : Nat} {l : List Nat} (hl : l = [] ∨ ∃ p l', l = p :: l' ∧ ¬ p < o) : ∀ {l1 : List Nat}, (∀ p, p ∈ l1 → p < o) → (l1 ++ l).takeWhile (fun p => decide (p < o)) = l1
  | [], _ => by
    rcases hl with rfl | ⟨p, l', rfl, hp⟩
    · rfl
    · simp [hp]
  | q :: l1, h => by
    have hq := h q (by simp)
    simp only [List.cons_append]
    rw [List.takeWhile_cons, if_pos (decide_eq_true hq), tw_app hl (fun p hp => h p (by simp [hp]))]
section LN
variable {t d rt : Nat} {I : Nat → Nat → Int} {r w h : Nat} {cl na nd : Nat → Bool}
/-- the line at a -/
def lnI (I : Nat → Nat → Int) (a : Nat) (F : List Nat) : Prop := ∀ j, j < 7 → I a j = (((0 :: F).getD j 0 : Nat) : Int)
theorem gd_0 (F : List Nat) : (0 :: F).getD 0 0 = 0 := rfl
theorem gd_s1 (F : List Nat) (y : Nat) : (0 :: F).getD (y + 1) 0 = F.getD y 0 := by simp
theorem w_lineAt (hrm : r ∈ [311, 324]) (c : rCfg I r w h cl na nd) (hW : wyR I r w h cl na nd) (hn : ∀ x, na x = true → cl x = false) {i : Nat} (hi : i < Wr w h cl na nd h 0 0) : wm t d rt (f_X4_lineAt r (i : Int) 368 (mm t d rt I)) (fun _ J => frm (fun a => a = 368) I J ∧ lnI J 368 (lnA w h cl na nd h 0 0 i)) := by
  have c0 := c
  obtain ⟨c1, c2, c3, c4, c5, c6, c7, c8, c9, c10, c11⟩ := c
  have hp6 : 2 ^ w ≤ 2 ^ 6 := Nat.pow_le_pow_right (by decide) c5
  have hp := Nat.two_pow_pos w
  have kr : (K0 r).1 = 4 ∧ r < 418 := ⟨(FRows_k r hrm).1, (FRows_k r hrm).2.1⟩
  have hr0 := rm_ge hrm
  have hg := gd_w hrm
  have hfl := w_fill (t := t) (d := d) (rt := rt) (I := I) (a := 368) (m := 7) (by decide +kernel) (by decide) (by decide) 0
  have fx : ∀ J : Nat → Nat → Int, (∀ i, jm_ld 20 (mm t d rt J) 368 i = if 0 ≤ jd_wr i ∧ jd_wr i < 7 then some (J 368 (jd_wr i).toNat) else none) ∧ (∀ i v, jm_st 20 (mm t d rt J) 368 i v = if 0 ≤ jd_wr i ∧ jd_wr i < 7 then some (mm t d rt (up J 368 (jd_wr i).toNat v)) else none) := fun J => ⟨fun i => mm_ld (n := 7) (by decide +kernel) (by decide) rfl, fun i v => mm_st (n := 7) (by decide +kernel) (by decide) rfl⟩
  obtain ⟨F, hF⟩ : ∃ F, F = lnA w h cl na nd h 0 0 i := ⟨_, rfl⟩
  rw [← hF]
  unfold f_X4_lineAt
  (repeat (first | (with_reducible apply wm_o; focus (simp (disch := omega) only [wr_id, Int.toNat_natCast, Int.reduceToNat, tn_lk, tn_kl, if_pos, if_neg, ↓reduceIte, and_self, and_true, true_and, hfl]; with_reducible rfl)) | (with_reducible apply wm_q) | (with_reducible apply wm_c; focus (first | assumption | decide +kernel)) | (with_reducible apply wm_d; focus (simp (disch := omega) only [wr_id, Int.toNat_natCast, Int.reduceToNat, tn_lk, tn_kl, if_pos, if_neg, ↓reduceIte, and_self, and_true, true_and, hfl]; with_reducible rfl)) | (with_reducible apply wm_t; focus (first | omega | (simp (disch := omega) only [wr_id, hfl]; omega) | (simp (disch := omega) only [wr_id, hfl]; done))) | (with_reducible apply wm_f; focus (first | omega | (simp (disch := omega) only [wr_id, hfl]; omega) | (simp (disch := omega) only [wr_id, hfl]; done)))))
  refine wm_lp3 h (fun y l y' J => y' = (y : Int) ∧ frm (fun a => a = 368) I J ∧ (∀ j, j ≤ y → J 368 j = (((0 :: F).getD j 0 : Nat) : Int)) ∧ (∀ j, y < j → j < 7 → J 368 j = 0) ∧ ∃ left : Nat, l = (left : Int) ∧ lnA w h cl na nd (h - y) y ((0 :: F).getD y 0) left = F.drop y ∧ left < Wr w h cl na nd (h - y) y ((0 :: F).getD y 0) ∧ (0 :: F).getD y 0 < 2 ^ w) ?_ (Nat.lt_of_le_of_lt c7 (jfuel_n (by decide))) ⟨rfl, fun a ha => flne ha, fun j hj => ?_, fun j h1 h2 => fl_in h2, i, rfl, hF.symm, hi, hp⟩
  · rintro y hy l y' J ⟨rfl, hJ, jA, jB, left, rfl, eL, hL, hin⟩ rec hrec
    have cJ : rCfg J r w h cl na nd := rCfg_frm (hJ _ (by omega)) (hJ _ (by omega)) (hJ _ (by omega)) (hJ _ (by omega)) (hJ _ (by omega)) c0
    have j6 := cJ.2.1
    by_cases e : y = h
    · subst e
      (repeat (first | (with_reducible apply wm_o; focus (simp (disch := omega) only [wr_id, Int.toNat_natCast, Int.reduceToNat, tn_lk, tn_kl, if_pos, if_neg, ↓reduceIte, and_self, and_true, true_and, FRows hrm, j6]; with_reducible rfl)) | (with_reducible apply wm_q) | (with_reducible apply wm_c; focus (first | assumption | decide +kernel)) | (with_reducible apply wm_d; focus (simp (disch := omega) only [wr_id, Int.toNat_natCast, Int.reduceToNat, tn_lk, tn_kl, if_pos, if_neg, ↓reduceIte, and_self, and_true, true_and, FRows hrm, j6]; with_reducible rfl)) | (with_reducible apply wm_t; focus (first | omega | (simp (disch := omega) only [wr_id, FRows hrm, j6]; omega) | (simp (disch := omega) only [wr_id, FRows hrm, j6]; done))) | (with_reducible apply wm_f; focus (first | omega | (simp (disch := omega) only [wr_id, FRows hrm, j6]; omega) | (simp (disch := omega) only [wr_id, FRows hrm, j6]; done)))))
      rw [Nat.sub_self, lnA] at eL
      have hlen : F.length ≤ y := by
        have := congrArg List.length eL
        rw [List.length_drop] at this
        simp at this
        omega
      refine wm_r ⟨hJ, fun j hj => ?_⟩
      by_cases z : j ≤ y
      · exact jA j z
      · rw [jB j (by omega) hj, List.getD_eq_getElem?_getD, List.getElem?_eq_none (by simp; omega)]
        rfl
    · have hyh : y < h := by omega
      obtain ⟨into, hinto⟩ : ∃ into, into = (0 :: F).getD y 0 := ⟨_, rfl⟩
      rw [← hinto] at eL hL hin
      have jy : J 368 y = (into : Int) := by rw [jA y (by omega), hinto]
      have hroom := s_roomBelow (t := t) (d := d) (rt := rt) hrm cJ (y := y) (into := into) (by omega) (by omega)
      have rl : room w h cl nd y into < 2 ^ w := room_lt
      have hws := Wr_s (w := w) (h := h) (cl := cl) (na := na) (nd := nd) (y := y) (into := into) hyh
      have hcan : canR w h cl nd y into = true := by
        cases q : canR w h cl nd y into with
        | true => rfl
        | false => rw [q, if_neg (by decide)] at hws; omega
      rw [if_pos hcan] at hws
      rw [hws] at hL
      obtain ⟨o, q, ep, ho, hq⟩ := pick_some hL
      rw [show h - y = (h - (y + 1)) + 1 by omega] at eL
      rw [lnA_s ep] at eL
      obtain ⟨d1, d2⟩ := drop_cons eL.symm
      have g1 := fun (J : Nat → Nat → Int) => g_row (t := t) (d := d) (rt := rt) (I := J) (a := r + 4) (y := y + 1) (i := (y : Int) + 1) (b := r + 5 + (y + 1)) hg (by omega) (by omega) (by omega)
      have g2 := fun (J : Nat → Nat → Int) (i : Int) => g_ld (t := t) (d := d) (rt := rt) (I := J) (a := r + 4) (y := y + 1) (b := r + 5 + (y + 1)) hg (by omega) (by omega) i
      have fxl := (fx J).1
      have fxs := (fx J).2
      (repeat (first | (with_reducible apply wm_o; focus (simp (disch := omega) only [wr_id, Int.toNat_natCast, Int.reduceToNat, tn_lk, tn_kl, if_pos, if_neg, ↓reduceIte, and_self, and_true, true_and, FRows hrm, j6, fxl, jy, hroom]; with_reducible rfl)) | (with_reducible apply wm_q) | (with_reducible apply wm_c; focus (first | assumption | decide +kernel)) | (with_reducible apply wm_d; focus (simp (disch := omega) only [wr_id, Int.toNat_natCast, Int.reduceToNat, tn_lk, tn_kl, if_pos, if_neg, ↓reduceIte, and_self, and_true, true_and, FRows hrm, j6, fxl, jy, hroom]; with_reducible rfl)) | (with_reducible apply wm_t; focus (first | omega | (simp (disch := omega) only [wr_id, FRows hrm, j6, fxl, jy, hroom]; omega) | (simp (disch := omega) only [wr_id, FRows hrm, j6, fxl, jy, hroom]; done))) | (with_reducible apply wm_f; focus (first | omega | (simp (disch := omega) only [wr_id, FRows hrm, j6, fxl, jy, hroom]; omega) | (simp (disch := omega) only [wr_id, FRows hrm, j6, fxl, jy, hroom]; done)))))
      have hlb := hL
      have hsl : left < 262145 := by
        have := Wr_le (w := w) (h := h) (cl := cl) (na := na) (nd := nd) (k := h - y) (y := y) (into := into) (by omega) c5 (by omega) c7 hn (by omega)
        rw [hws] at this
        omega
      clear hL hlb hws
      generalize hR : room w h cl nd y into = R at *
      generalize hG : (fun o => if fill w h cl na y into o then Wr w h cl na nd (h - (y + 1)) (y + 1) o else 0) = g at *
      refine wm_lp4 64 (fun k l p cnt K => K = J ∧ cnt = (k : Int) ∧ ∃ l1 l2 left', subs R = l1 ++ l2 ∧ l1.length = k ∧ p = hdI l2 ∧ l = ((left' : Nat) : Int) ∧ left' ≤ left ∧ pick g l2 left' = some (o, q)) ?_ (jfuel_n (by decide)) ⟨rfl, rfl, [], subs R, left, rfl, rfl, (hd_subs R (by omega)).symm, rfl, Nat.le_refl _, ep⟩
      rintro k hk l p cnt K ⟨rfl, rfl, l1, l2, left', e, el, rfl, rfl, hle, ep'⟩ rec2 hrec2
      cases l2 with
      | nil => cases ep'
      | cons p l2 =>
        have hpm := mem_subs (r := R) (p := p) (by rw [e]; simp)
        have hpw : p < 2 ^ w := sub_lt hpm.1 rl
        have hlen : l1.length + 1 ≤ 64 := by
          have := subs_len R
          rw [e] at this
          simp at this
          omega
        have hv : K (r + 5 + (y + 1)) p = (Wr w h cl na nd (h - (y + 1)) (y + 1) p : Int) := by rw [hJ _ (by omega)]; exact hW (y + 1) (by omega) p hpw
        have hWl := Wr_le (w := w) (h := h) (cl := cl) (na := na) (nd := nd) (k := h - (y + 1)) (y := y + 1) (into := p) (by omega) c5 (by omega) c7 hn (by omega)
        have hpa := fun (M : jMem) => pa (r := R) (by omega) e M
        have hfi := s_fills (t := t) (d := d) (rt := rt) hrm cJ (y := y) (into := into) (o := p) (by omega) (by omega) hpm.2
        have e' : subs R = (l1 ++ [p]) ++ l2 := by rw [e]; simp
        have hgp : g p = if fill w h cl na y into p then Wr w h cl na nd (h - (y + 1)) (y + 1) p else 0 := by rw [← hG]
        rw [pick_c] at ep'
        -- taken
        have take : left' < g p → wm t d rt (rec (left' : Int) ((y : Int) + 1) (mm t d rt (up K 368 (y + 1) (p : Int)))) (fun _ J => frm (fun a => a = 368) I J ∧ lnI J 368 F) := by
          intro hlt
          rw [if_pos hlt] at ep'
          injection ep' with ep'
          injection ep' with ep1 ep2
          subst ep1 ep2
          have hfp : fill w h cl na y into p = true := by
            cases z : fill w h cl na y into p with
            | true => rfl
            | false => rw [hgp, z, if_neg (by decide)] at hlt; omega
          rw [hgp, if_pos hfp] at hlt
          refine hrec (y + 1) _ _ _ (by omega) (by omega) ⟨by omega, frm_up hJ rfl, fun j hj => ?_, fun j h1 h2 => ?_, left', rfl, ?_, ?_, ?_⟩
          · rw [up_g]
            by_cases ej : j = y + 1
            · rw [if_pos ej, ej, gd_s1, d1]
            · rw [if_neg ej]; exact jA j (by omega)
          · rw [up_g, if_neg (by omega)]; exact jB j (by omega) h2
          · rw [gd_s1, d1, d2]
          · rw [gd_s1, d1]; exact hlt
          · rw [gd_s1, d1]; exact hpw
        by_cases zf : fill w h cl na y into p = true
        · rw [if_pos zf] at hfi hgp
          by_cases zl : left' < g p
          · rw [hgp] at zl
            generalize hWp : Wr w h cl na nd (h - (y + 1)) (y + 1) p = W at *
            (repeat (first | (with_reducible apply wm_o; focus (simp (disch := omega) only [wr_id, Int.toNat_natCast, Int.reduceToNat, tn_lk, tn_kl, if_pos, if_neg, ↓reduceIte, and_self, and_true, true_and, hdI_c, FRows hrm, fxl, fxs, jy, g1, g2, hv, hfi]; with_reducible rfl)) | (with_reducible apply wm_q) | (with_reducible apply wm_c; focus (first | assumption | decide +kernel)) | (with_reducible apply wm_d; focus (simp (disch := omega) only [wr_id, Int.toNat_natCast, Int.reduceToNat, tn_lk, tn_kl, if_pos, if_neg, ↓reduceIte, and_self, and_true, true_and, hdI_c, FRows hrm, fxl, fxs, jy, g1, g2, hv, hfi]; with_reducible rfl)) | (with_reducible apply wm_t; focus (first | omega | (simp (disch := omega) only [wr_id, hdI_c, FRows hrm, fxl, fxs, jy, g1, g2, hv, hfi]; omega) | (simp (disch := omega) only [wr_id, hdI_c, FRows hrm, fxl, fxs, jy, g1, g2, hv, hfi]; done))) | (with_reducible apply wm_f; focus (first | omega | (simp (disch := omega) only [wr_id, hdI_c, FRows hrm, fxl, fxs, jy, g1, g2, hv, hfi]; omega) | (simp (disch := omega) only [wr_id, hdI_c, FRows hrm, fxl, fxs, jy, g1, g2, hv, hfi]; done)))))
            exact take (by rw [hgp]; exact zl)
          · rw [if_neg zl] at ep'
            rw [hgp] at zl ep'
            generalize hWp : Wr w h cl na nd (h - (y + 1)) (y + 1) p = W at *
            (repeat (first | (with_reducible apply wm_o; focus (simp (disch := omega) only [wr_id, Int.toNat_natCast, Int.reduceToNat, tn_lk, tn_kl, if_pos, if_neg, ↓reduceIte, and_self, and_true, true_and, hdI_c, FRows hrm, fxl, fxs, jy, g1, g2, hv, hfi, hpa]; with_reducible rfl)) | (with_reducible apply wm_q) | (with_reducible apply wm_c; focus (first | assumption | decide +kernel)) | (with_reducible apply wm_d; focus (simp (disch := omega) only [wr_id, Int.toNat_natCast, Int.reduceToNat, tn_lk, tn_kl, if_pos, if_neg, ↓reduceIte, and_self, and_true, true_and, hdI_c, FRows hrm, fxl, fxs, jy, g1, g2, hv, hfi, hpa]; with_reducible rfl)) | (with_reducible apply wm_t; focus (first | omega | (simp (disch := omega) only [wr_id, hdI_c, FRows hrm, fxl, fxs, jy, g1, g2, hv, hfi, hpa]; omega) | (simp (disch := omega) only [wr_id, hdI_c, FRows hrm, fxl, fxs, jy, g1, g2, hv, hfi, hpa]; done))) | (with_reducible apply wm_f; focus (first | omega | (simp (disch := omega) only [wr_id, hdI_c, FRows hrm, fxl, fxs, jy, g1, g2, hv, hfi, hpa]; omega) | (simp (disch := omega) only [wr_id, hdI_c, FRows hrm, fxl, fxs, jy, g1, g2, hv, hfi, hpa]; done)))))
            exact hrec2 (k + 1) _ _ _ _ (by omega) (by omega) ⟨rfl, by omega, l1 ++ [p], l2, left' - W, e', by rw [List.length_append, el]; rfl, rfl, by omega, by omega, ep'⟩
        · rw [if_neg zf] at hfi hgp
          rw [hgp, if_neg (by omega), Nat.sub_zero] at ep'
          (repeat (first | (with_reducible apply wm_o; focus (simp (disch := omega) only [wr_id, Int.toNat_natCast, Int.reduceToNat, tn_lk, tn_kl, if_pos, if_neg, ↓reduceIte, and_self, and_true, true_and, hdI_c, FRows hrm, fxl, fxs, jy, g1, g2, hv, hfi, hpa]; with_reducible rfl)) | (with_reducible apply wm_q) | (with_reducible apply wm_c; focus (first | assumption | decide +kernel)) | (with_reducible apply wm_d; focus (simp (disch := omega) only [wr_id, Int.toNat_natCast, Int.reduceToNat, tn_lk, tn_kl, if_pos, if_neg, ↓reduceIte, and_self, and_true, true_and, hdI_c, FRows hrm, fxl, fxs, jy, g1, g2, hv, hfi, hpa]; with_reducible rfl)) | (with_reducible apply wm_t; focus (first | omega | (simp (disch := omega) only [wr_id, hdI_c, FRows hrm, fxl, fxs, jy, g1, g2, hv, hfi, hpa]; omega) | (simp (disch := omega) only [wr_id, hdI_c, FRows hrm, fxl, fxs, jy, g1, g2, hv, hfi, hpa]; done))) | (with_reducible apply wm_f; focus (first | omega | (simp (disch := omega) only [wr_id, hdI_c, FRows hrm, fxl, fxs, jy, g1, g2, hv, hfi, hpa]; omega) | (simp (disch := omega) only [wr_id, hdI_c, FRows hrm, fxl, fxs, jy, g1, g2, hv, hfi, hpa]; done)))))
          exact hrec2 (k + 1) _ _ _ _ (by omega) (by omega) ⟨rfl, by omega, l1 ++ [p], l2, left', e', by rw [List.length_append, el]; rfl, rfl, by omega, by omega, ep'⟩
  · obtain rfl : j = 0 := by omega
    rw [fl_in (by decide)]
    rfl
theorem w_numberOf {a : Nat} (ha : a = 367 ∨ a = 368) (hrm : r ∈ [311, 324]) (c : rCfg I r w h cl na nd) (hW : wyR I r w h cl na nd) {F : List Nat} (hF : lnI I a F) (hlen : F.length = h) (hb : ∀ o, o ∈ F → o < 2 ^ w) : f_X4_numberOf r a (mm t d rt I) = some (((nbL w h cl na nd h 0 0 F : Nat) : Int), mm t d rt I) := by
  have c0 := c
  obtain ⟨c1, c2, c3, c4, c5, c6, c7, c8, c9, c10, c11⟩ := c
  have hp6 : 2 ^ w ≤ 2 ^ 6 := Nat.pow_le_pow_right (by decide) c5
  have hp := Nat.two_pow_pos w
  have kr : (K0 r).1 = 4 ∧ r < 418 := ⟨(FRows_k r hrm).1, (FRows_k r hrm).2.1⟩
  have hg := gd_w hrm
  have ka : K0 a = (20, 7) ∧ a < 418 := by rcases ha with rfl | rfl <;> exact ⟨by decide +kernel, by decide⟩
  have fxl : ∀ i, jm_ld 20 (mm t d rt I) a i = if 0 ≤ jd_wr i ∧ jd_wr i < 7 then some (I a (jd_wr i).toNat) else none := fun i => mm_ld (n := 7) ka.1 ka.2 rfl
  have gin : ∀ y, (0 :: F).getD y 0 < 2 ^ w := fun y => by
    cases y with
    | zero => exact hp
    | succ y =>
      rw [gd_s1, List.getD_eq_getElem?_getD]
      cases e : F[y]? with
      | none => exact hp
      | some o => exact hb o (List.mem_of_getElem? e)
  refine wm_eq ?_
  unfold f_X4_numberOf
  refine wm_lp3 h (fun y b y' J => y' = (y : Int) ∧ J = I ∧ ∃ s : Nat, b = (s : Int) ∧ s + nbL w h cl na nd (h - y) y ((0 :: F).getD y 0) (F.drop y) = nbL w h cl na nd h 0 0 F) ?_ (Nat.lt_of_le_of_lt c7 (jfuel_n (by decide))) ⟨rfl, rfl, 0, rfl, by rw [Nat.zero_add]; rfl⟩
  rintro y hy b y' J ⟨rfl, rfl, s, rfl, es⟩ rec hrec
  by_cases e : y = h
  · subst e
    rw [Nat.sub_self, nbL, Nat.add_zero] at es
    (repeat (first | (with_reducible apply wm_o; focus (simp (disch := omega) only [wr_id, Int.toNat_natCast, Int.reduceToNat, tn_lk, tn_kl, if_pos, if_neg, ↓reduceIte, and_self, and_true, true_and, FRows hrm, c2]; with_reducible rfl)) | (with_reducible apply wm_q) | (with_reducible apply wm_c; focus (first | assumption | decide +kernel)) | (with_reducible apply wm_d; focus (simp (disch := omega) only [wr_id, Int.toNat_natCast, Int.reduceToNat, tn_lk, tn_kl, if_pos, if_neg, ↓reduceIte, and_self, and_true, true_and, FRows hrm, c2]; with_reducible rfl)) | (with_reducible apply wm_t; focus (first | omega | (simp (disch := omega) only [wr_id, FRows hrm, c2]; omega) | (simp (disch := omega) only [wr_id, FRows hrm, c2]; done))) | (with_reducible apply wm_f; focus (first | omega | (simp (disch := omega) only [wr_id, FRows hrm, c2]; omega) | (simp (disch := omega) only [wr_id, FRows hrm, c2]; done)))))
    exact wm_r ⟨by rw [es], rfl⟩
  · have hyh : y < h := by omega
    obtain ⟨into, hinto⟩ : ∃ into, into = (0 :: F).getD y 0 := ⟨_, rfl⟩
    have hin : into < 2 ^ w := by rw [hinto]; exact gin y
    obtain ⟨o, ho⟩ : ∃ o, o = F.getD y 0 := ⟨_, rfl⟩
    have how : o < 2 ^ w := by have := gin (y + 1); rw [gd_s1, ← ho] at this; exact this
    have hdr : F.drop y = o :: F.drop (y + 1) := by
      rw [List.drop_eq_getElem_cons (by omega), ho, List.getD_eq_getElem?_getD, List.getElem?_eq_getElem (by omega)]
      rfl
    have jy : J a y = (into : Int) := by rw [hF y (by omega), hinto]
    have jo : J a (y + 1) = (o : Int) := by rw [hF (y + 1) (by omega), gd_s1, ho]
    rw [← hinto, show h - y = (h - (y + 1)) + 1 by omega, hdr, nbL] at es
    have hroom := s_roomBelow (t := t) (d := d) (rt := rt) hrm c0 (y := y) (into := into) (by omega) (by omega)
    have rl : room w h cl nd y into < 2 ^ w := room_lt
    have g1 := fun (J : Nat → Nat → Int) => g_row (t := t) (d := d) (rt := rt) (I := J) (a := r + 4) (y := y + 1) (i := (y : Int) + 1) (b := r + 5 + (y + 1)) hg (by omega) (by omega) (by omega)
    have g2 := fun (J : Nat → Nat → Int) (i : Int) => g_ld (t := t) (d := d) (rt := rt) (I := J) (a := r + 4) (y := y + 1) (b := r + 5 + (y + 1)) hg (by omega) (by omega) i
    (repeat (first | (with_reducible apply wm_o; focus (simp (disch := omega) only [wr_id, Int.toNat_natCast, Int.reduceToNat, tn_lk, tn_kl, if_pos, if_neg, ↓reduceIte, and_self, and_true, true_and, FRows hrm, c2, fxl, jy, hroom]; with_reducible rfl)) | (with_reducible apply wm_q) | (with_reducible apply wm_c; focus (first | assumption | decide +kernel)) | (with_reducible apply wm_d; focus (simp (disch := omega) only [wr_id, Int.toNat_natCast, Int.reduceToNat, tn_lk, tn_kl, if_pos, if_neg, ↓reduceIte, and_self, and_true, true_and, FRows hrm, c2, fxl, jy, hroom]; with_reducible rfl)) | (with_reducible apply wm_t; focus (first | omega | (simp (disch := omega) only [wr_id, FRows hrm, c2, fxl, jy, hroom]; omega) | (simp (disch := omega) only [wr_id, FRows hrm, c2, fxl, jy, hroom]; done))) | (with_reducible apply wm_f; focus (first | omega | (simp (disch := omega) only [wr_id, FRows hrm, c2, fxl, jy, hroom]; omega) | (simp (disch := omega) only [wr_id, FRows hrm, c2, fxl, jy, hroom]; done)))))
    generalize hR : room w h cl nd y into = R at *
    generalize hG : (fun p => if fill w h cl na y into p then Wr w h cl na nd (h - (y + 1)) (y + 1) p else 0) = g at *
    -- the row is through
    have fin : ∀ l1 l, subs R = l1 ++ l → (∀ p, p ∈ l1 → p < o) → (l = [] ∨ ∃ p l', l = p :: l' ∧ ¬ p < o) → ∀ s' : Nat, s' = s + (l1.map g).sum → wm t d rt (rec (s' : Int) ((y : Int) + 1) (mm t d rt J)) (fun v I => v = ((nbL w h cl na nd h 0 0 F : Nat) : Int) ∧ I = J) := by
      intro l1 l el h1 h2 s' hs'
      rw [el, tw_app h2 h1] at es
      exact hrec (y + 1) _ _ _ (by omega) (by omega) ⟨by omega, rfl, s', rfl, by rw [gd_s1, ← ho, hs']; omega⟩
    refine wm_lp4 64 (fun k b p cnt K => K = J ∧ cnt = (k : Int) ∧ ∃ l1 l2, subs R = l1 ++ l2 ∧ l1.length = k ∧ p = hdI l2 ∧ b = (((s + (l1.map g).sum : Nat)) : Int) ∧ ∀ p, p ∈ l1 → p < o) ?_ (jfuel_n (by decide)) ⟨rfl, rfl, [], subs R, rfl, rfl, (hd_subs R (by omega)).symm, rfl, by simp⟩
    rintro k hk b p cnt K ⟨rfl, rfl, l1, l2, e, el, rfl, rfl, hlt⟩ rec2 hrec2
    cases l2 with
    | nil =>
      (repeat (first | (with_reducible apply wm_o; focus (simp (disch := omega) only [wr_id, Int.toNat_natCast, Int.reduceToNat, tn_lk, tn_kl, if_pos, if_neg, ↓reduceIte, and_self, and_true, true_and, hdI_n]; with_reducible rfl)) | (with_reducible apply wm_q) | (with_reducible apply wm_c; focus (first | assumption | decide +kernel)) | (with_reducible apply wm_d; focus (simp (disch := omega) only [wr_id, Int.toNat_natCast, Int.reduceToNat, tn_lk, tn_kl, if_pos, if_neg, ↓reduceIte, and_self, and_true, true_and, hdI_n]; with_reducible rfl)) | (with_reducible apply wm_t; focus (first | omega | (simp (disch := omega) only [wr_id, hdI_n]; omega) | (simp (disch := omega) only [wr_id, hdI_n]; done))) | (with_reducible apply wm_f; focus (first | omega | (simp (disch := omega) only [wr_id, hdI_n]; omega) | (simp (disch := omega) only [wr_id, hdI_n]; done)))))
      exact fin l1 [] e hlt (Or.inl rfl) _ rfl
    | cons p l2 =>
      have hpm := mem_subs (r := R) (p := p) (by rw [e]; simp)
      have hpw : p < 2 ^ w := sub_lt hpm.1 rl
      have hlen' : l1.length + 1 ≤ 64 := by
        have := subs_len R
        rw [e] at this
        simp at this
        omega
      by_cases zp : p < o
      · have hv : K (r + 5 + (y + 1)) p = (Wr w h cl na nd (h - (y + 1)) (y + 1) p : Int) := hW (y + 1) (by omega) p hpw
        have hpa := fun (M : jMem) => pa (r := R) (by omega) e M
        have hfi := s_fills (t := t) (d := d) (rt := rt) hrm c0 (y := y) (into := into) (o := p) (by omega) (by omega) hpm.2
        have e' : subs R = (l1 ++ [p]) ++ l2 := by rw [e]; simp
        have hgp : g p = if fill w h cl na y into p then Wr w h cl na nd (h - (y + 1)) (y + 1) p else 0 := by rw [← hG]
        have es2 : ((l1 ++ [p]).map g).sum = (l1.map g).sum + g p := by simp
        have hlt2 : ∀ q, q ∈ l1 ++ [p] → q < o := fun q hq => by
          rw [List.mem_append] at hq
          rcases hq with hq | hq
          · exact hlt q hq
          · simp at hq; omega
        by_cases zf : fill w h cl na y into p = true
        · rw [if_pos zf] at hfi hgp
          (repeat (first | (with_reducible apply wm_o; focus (simp (disch := omega) only [wr_id, Int.toNat_natCast, Int.reduceToNat, tn_lk, tn_kl, if_pos, if_neg, ↓reduceIte, and_self, and_true, true_and, hdI_c, FRows hrm, fxl, jy, jo, g1, g2, hv, hfi, hpa]; with_reducible rfl)) | (with_reducible apply wm_q) | (with_reducible apply wm_c; focus (first | assumption | decide +kernel)) | (with_reducible apply wm_d; focus (simp (disch := omega) only [wr_id, Int.toNat_natCast, Int.reduceToNat, tn_lk, tn_kl, if_pos, if_neg, ↓reduceIte, and_self, and_true, true_and, hdI_c, FRows hrm, fxl, jy, jo, g1, g2, hv, hfi, hpa]; with_reducible rfl)) | (with_reducible apply wm_t; focus (first | omega | (simp (disch := omega) only [wr_id, hdI_c, FRows hrm, fxl, jy, jo, g1, g2, hv, hfi, hpa]; omega) | (simp (disch := omega) only [wr_id, hdI_c, FRows hrm, fxl, jy, jo, g1, g2, hv, hfi, hpa]; done))) | (with_reducible apply wm_f; focus (first | omega | (simp (disch := omega) only [wr_id, hdI_c, FRows hrm, fxl, jy, jo, g1, g2, hv, hfi, hpa]; omega) | (simp (disch := omega) only [wr_id, hdI_c, FRows hrm, fxl, jy, jo, g1, g2, hv, hfi, hpa]; done)))))
          exact hrec2 (k + 1) _ _ _ _ (by omega) (by omega) ⟨rfl, by omega, l1 ++ [p], l2, e', by rw [List.length_append, el]; rfl, rfl, by rw [es2, hgp]; omega, hlt2⟩
        · rw [if_neg zf] at hfi hgp
          (repeat (first | (with_reducible apply wm_o; focus (simp (disch := omega) only [wr_id, Int.toNat_natCast, Int.reduceToNat, tn_lk, tn_kl, if_pos, if_neg, ↓reduceIte, and_self, and_true, true_and, hdI_c, FRows hrm, fxl, jy, jo, hfi, hpa]; with_reducible rfl)) | (with_reducible apply wm_q) | (with_reducible apply wm_c; focus (first | assumption | decide +kernel)) | (with_reducible apply wm_d; focus (simp (disch := omega) only [wr_id, Int.toNat_natCast, Int.reduceToNat, tn_lk, tn_kl, if_pos, if_neg, ↓reduceIte, and_self, and_true, true_and, hdI_c, FRows hrm, fxl, jy, jo, hfi, hpa]; with_reducible rfl)) | (with_reducible apply wm_t; focus (first | omega | (simp (disch := omega) only [wr_id, hdI_c, FRows hrm, fxl, jy, jo, hfi, hpa]; omega) | (simp (disch := omega) only [wr_id, hdI_c, FRows hrm, fxl, jy, jo, hfi, hpa]; done))) | (with_reducible apply wm_f; focus (first | omega | (simp (disch := omega) only [wr_id, hdI_c, FRows hrm, fxl, jy, jo, hfi, hpa]; omega) | (simp (disch := omega) only [wr_id, hdI_c, FRows hrm, fxl, jy, jo, hfi, hpa]; done)))))
          exact hrec2 (k + 1) _ _ _ _ (by omega) (by omega) ⟨rfl, by omega, l1 ++ [p], l2, e', by rw [List.length_append, el]; rfl, rfl, by rw [es2, hgp]; omega, hlt2⟩
      · (repeat (first | (with_reducible apply wm_o; focus (simp (disch := omega) only [wr_id, Int.toNat_natCast, Int.reduceToNat, tn_lk, tn_kl, if_pos, if_neg, ↓reduceIte, and_self, and_true, true_and, hdI_c, FRows hrm, fxl, jy, jo]; with_reducible rfl)) | (with_reducible apply wm_q) | (with_reducible apply wm_c; focus (first | assumption | decide +kernel)) | (with_reducible apply wm_d; focus (simp (disch := omega) only [wr_id, Int.toNat_natCast, Int.reduceToNat, tn_lk, tn_kl, if_pos, if_neg, ↓reduceIte, and_self, and_true, true_and, hdI_c, FRows hrm, fxl, jy, jo]; with_reducible rfl)) | (with_reducible apply wm_t; focus (first | omega | (simp (disch := omega) only [wr_id, hdI_c, FRows hrm, fxl, jy, jo]; omega) | (simp (disch := omega) only [wr_id, hdI_c, FRows hrm, fxl, jy, jo]; done))) | (with_reducible apply wm_f; focus (first | omega | (simp (disch := omega) only [wr_id, hdI_c, FRows hrm, fxl, jy, jo]; omega) | (simp (disch := omega) only [wr_id, hdI_c, FRows hrm, fxl, jy, jo]; done)))))
        exact fin l1 (p :: l2) e hlt (Or.inr ⟨p, l2, rfl, zp⟩) _ rfl
end LN
