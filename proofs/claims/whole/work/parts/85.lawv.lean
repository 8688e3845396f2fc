/-! ===== the class's laws: a law's value ===== -/
/-- a sum's code, sound -/
def sOK (cs : List CI) : Prop := (∀ x, x ∈ cs → ciOK x) ∧ hOK 32 cs 0 = some 1 ∧ hOK 32 cs 1 = some 2
abbrev LwI : Type := List CI × List CI × List CI
def lwOK (ifs : List LwI) (x : List CI) : Prop := (∀ b, b ∈ ifs → sOK b.1 ∧ sOK b.2.1 ∧ sOK b.2.2) ∧ sOK x
/-- the law's code lies from p to e -/
def lwC (A B : Nat → Int) : Nat → List LwI → List CI → Nat → Prop
  | p, [], x, e => cdAt A B p x ∧ A (p + x.length) = 3 ∧ e = p + x.length + 1
  | p, b :: r, x, e => cdAt A B p b.1 ∧ cdAt A B (p + b.1.length) b.2.1 ∧ A (p + b.1.length + b.2.1.length) = 2 ∧ B (p + b.1.length + b.2.1.length) = ((p + b.1.length + b.2.1.length + 1 + b.2.2.length + 1 : Nat) : Int) ∧ cdAt A B (p + b.1.length + b.2.1.length + 1) b.2.2 ∧ A (p + b.1.length + b.2.1.length + 1 + b.2.2.length) = 3 ∧ lwC A B (p + b.1.length + b.2.1.length + 1 + b.2.2.length + 1) r x e
theorem lwC_le {A B : Nat → Int} {x : List CI} {e : Nat} : ∀ {ifs : List LwI} {p : Nat}, lwC A B p ifs x e → p + x.length + 1 ≤ e
  | [], p, h => by have := h.2.2; omega
  | b :: r, p, h => by
    have := lwC_le h.2.2.2.2.2.2
    omega
section LV
variable {t d rt : Nat} {I : Nat → Nat → Int} {s w n nh l k : Nat} {ρ : Nat → Int} {hl : Nat → Bool} {Q : Int → (Nat → Nat → Int) → Prop}
theorem wk_sum (hl' : l ∈ [11, 24]) (hs : s ∈ stL) (hw : 2 ≤ w ∧ w ≤ 6) (hn : n ≤ 36) (hr : rOK w n hl ρ) (hk : k < 18) (h0 : 0 ≤ ρ k) {x1 : Int} {sp : Nat} (hsp : sp ≤ 404) {f : Nat} {cs : List CI} (hc : sOK cs) {p m : Nat} {st : List Int} (hst1 : st.length ≤ 1) (hst : stR I s w ρ) (h4 : I l 4 = (sp : Int)) (hcd : cdAt (I (l + 1)) (I (l + 2)) p cs) (hp : p + cs.length ≤ sp) (hm : m ≤ p) (hpl : plAt (I (l + 4)) st) (hnone : evV jdv jnl (rV w nh ρ k) cs = none → ∀ J, frm (fun a => a = l + 4) I J → Q 0 J) (hsome : ∀ v, evV jdv jnl (rV w nh ρ k) cs = some v → ∀ J, frm (fun a => a = l + 4) I J → plAt (J (l + 4)) (v :: st) → wm t d rt (jlp4 (wkB l x1 s k nh) f ((p + cs.length : Nat) : Int) ((st.length + 1 : Nat) : Int) ((m + cs.length : Nat) : Int) (mm t d rt J)) Q) : wm t d rt (jlp4 (wkB l x1 s k nh) (f + cs.length) (p : Int) (st.length : Int) (m : Int) (mm t d rt I)) Q := by
  have hv := evC_val (dv := jdv) (nil := jnl) (vs := rV w nh ρ k) hc.2.1 st
  have hok : ∃ q, hOK 32 cs st.length = some q := by
    have : st.length = 0 ∨ st.length = 1 := by omega
    rcases this with e | e <;> rw [e]
    · exact ⟨_, hc.2.1⟩
    · exact ⟨_, hc.2.2⟩
  refine wk_code hl' hs hw hn hr hk h0 hsp cs p m st I hst h4 hcd hp hm hok hc.1 (by omega) hpl (fun e J hJ => ?_) (fun st' e J hJ hp' => ?_)
  · rw [hv] at e
    refine hnone ?_ J hJ
    cases q : evV jdv jnl (rV w nh ρ k) cs with
    | none => rfl
    | some v => rw [q] at e; cases e
  · rw [hv] at e
    cases q : evV jdv jnl (rV w nh ρ k) cs with
    | none => rw [q] at e; cases e
    | some v =>
      rw [q] at e
      injection e with e
      subst e
      exact hsome v q J hJ hp'
theorem wk_law (hl' : l ∈ [11, 24]) (hs : s ∈ stL) (hw : 2 ≤ w ∧ w ≤ 6) (hn : n ≤ 36) (hr : rOK w n hl ρ) (hk : k < 18) (h0 : 0 ≤ ρ k) {x1 : Int} {sp : Nat} (hsp : sp ≤ 404) {x : List CI} {e : Nat} (he : e ≤ sp) : ∀ (ifs : List LwI) (p m f : Nat) (I : Nat → Nat → Int), lwOK ifs x → stR I s w ρ → I l 4 = (sp : Int) → lwC (I (l + 1)) (I (l + 2)) p ifs x e → m ≤ p → e ≤ p + f → wm t d rt (jlp4 (wkB l x1 s k nh) f (p : Int) 0 (m : Int) (mm t d rt I)) (fun r J => r = lwV jdv jnl jlt (rV w nh ρ k) ifs x ∧ frm (fun a => a = l + 4) I J) := by
  have hsg := stL_ge hs
  have hlg := lw_lt hl'
  -- a sum and the answer behind it
  have last : ∀ (c : List CI) (p m f : Nat) (I : Nat → Nat → Int), sOK c → stR I s w ρ → I l 4 = (sp : Int) → cdAt (I (l + 1)) (I (l + 2)) p c → I (l + 1) (p + c.length) = 3 → p + c.length + 1 ≤ sp → m ≤ p → c.length + 1 ≤ f → wm t d rt (jlp4 (wkB l x1 s k nh) f (p : Int) 0 (m : Int) (mm t d rt I)) (fun r J => r = (evV jdv jnl (rV w nh ρ k) c).getD 0 ∧ frm (fun a => a = l + 4) I J) := by
    intro c p m f I hc hst h4 hcd ha hp hm hf
    obtain ⟨f', rfl⟩ : ∃ f', f = (f' + 1) + c.length := ⟨f - (c.length + 1), by omega⟩
    refine wk_sum hl' hs hw hn hr hk h0 hsp hc (st := []) (by decide) hst h4 hcd (by omega) hm True.intro (fun e J hJ => ⟨by rw [e]; rfl, hJ⟩) (fun v e J hJ hpl => ?_)
    rw [jlp4_s]
    have j4 : J l 4 = (sp : Int) := by rw [hJ l (by omega)]; exact h4
    have ja : J (l + 1) (p + c.length) = 3 := by rw [hJ (l + 1) (by omega)]; exact ha
    exact wk_ans hl' j4 hsp (by omega) (by omega) ja ⟨by rw [e]; exact hpl.1, hJ⟩
  intro ifs
  induction ifs with
  | nil =>
    intro p m f I hok hst h4 hC hm hf
    obtain ⟨c1, c2, c3⟩ := hC
    exact last x p m f I hok.2 hst h4 c1 c2 (by omega) hm (by omega)
  | cons b r ih =>
    intro p m f I hok hst h4 hC hm hf
    obtain ⟨c1, c2, c3, c4, c5, c6, c7⟩ := hC
    have hle := lwC_le c7
    obtain ⟨o1, o2, o3⟩ := hok.1 b (List.mem_cons_self ..)
    have hok' : lwOK r x := ⟨fun y hy => hok.1 y (List.mem_cons_of_mem _ hy), hok.2⟩
    obtain ⟨f', rfl⟩ : ∃ f', f = (f' + b.2.1.length) + b.1.length := ⟨f - (b.1.length + b.2.1.length), by omega⟩
    refine wk_sum hl' hs hw hn hr hk h0 hsp o1 (st := []) (by decide) hst h4 c1 (by omega) hm True.intro (fun e J hJ => ⟨?_, hJ⟩) (fun u eu J hJ hpl => ?_)
    · rw [lwV, e]
    · have j4 : J l 4 = (sp : Int) := by rw [hJ l (by omega)]; exact h4
      have j1 : J (l + 1) = I (l + 1) := hJ (l + 1) (by omega)
      have j2 : J (l + 2) = I (l + 2) := hJ (l + 2) (by omega)
      have hstJ : stR J s w ρ := stR_frm hJ (fun a a1 a2 => by omega) hst
      refine wk_sum (I := J) hl' hs hw hn hr hk h0 hsp o2 (st := [u]) (Nat.le_refl 1) hstJ j4 (by rw [j1, j2]; exact c2) (by omega) (by omega) hpl (fun e K hK => ⟨?_, frm_trans hJ hK⟩) (fun v ev K hK hpk => ?_)
      · rw [lwV, eu, e]
      · obtain ⟨f'', rfl⟩ : ∃ f'', f' = f'' + 1 := ⟨f' - 1, by omega⟩
        rw [jlp4_s]
        have k4 : K l 4 = (sp : Int) := by rw [hK l (by omega)]; exact j4
        have k1 : K (l + 1) = I (l + 1) := (hK (l + 1) (by omega)).trans j1
        have k2 : K (l + 2) = I (l + 2) := (hK (l + 2) (by omega)).trans j2
        have hstK : stR K s w ρ := stR_frm hK (fun a a1 a2 => by omega) hstJ
        refine wk_go hl' k4 hsp (by omega) (by omega) (by rw [k1]; exact c3) (by rw [k2]; exact c4) ?_
        have ep0 : K (l + 4) 0 = u := hpk.2.1
        have ep1 : K (l + 4) 1 = v := hpk.1
        rw [ep0, ep1]
        by_cases z : jlt u v = true
        · rw [if_pos z]
          have q := last b.2.2 (p + b.1.length + b.2.1.length + 1) (m + b.1.length + b.2.1.length + 1) f'' K o3 hstK k4 (by rw [k1, k2]; exact c5) (by rw [k1]; exact c6) (by omega) (by omega) (by omega)
          refine wm_w q (fun r2 L hL => ⟨?_, frm_trans (frm_trans hJ hK) hL.2⟩)
          rw [hL.1, lwV, eu, ev]
          simp only [z, ↓reduceIte]
        · rw [if_neg z]
          have q := ih (p + b.1.length + b.2.1.length + 1 + b.2.2.length + 1) (m + b.1.length + b.2.1.length + 1) f'' K hok' hstK k4 (by rw [k1, k2]; exact c7) (by omega) (by omega)
          refine wm_w q (fun r2 L hL => ⟨?_, frm_trans (frm_trans hJ hK) hL.2⟩)
          rw [hL.1, lwV, eu, ev]
          simp only [z, Bool.false_eq_true, ↓reduceIte]
/-- what is between 0 and the most -/
def clV (most v : Int) : Int := if jd_wr v < 0 then 0 else if jd_wr v ≤ most then jd_wr v else most
theorem clV_b {most v : Int} (h : 0 ≤ most) : 0 ≤ clV most v ∧ clV most v ≤ most := by
  unfold clV
  split
  · omega
  · split <;> omega
/-- law q of Laws l lies -/
def lawC (I : Nat → Nat → Int) (l q : Nat) (ifs : List LwI) (x : List CI) : Prop := lwOK ifs x ∧ ∃ sp p e : Nat, I l 4 = (sp : Int) ∧ sp ≤ 404 ∧ I (l + 3) q = (p : Int) ∧ e ≤ sp ∧ lwC (I (l + 1)) (I (l + 2)) p ifs x e
theorem w_worth (hl' : l ∈ [11, 24]) (hs : s ∈ stL) (hw : 2 ≤ w ∧ w ≤ 6) (hn : n ≤ 36) (hr : rOK w n hl ρ) (hk : k < 18) (h0 : 0 ≤ ρ k) (hst : stR I s w ρ) {q : Nat} (hq : q < 3) {ifs : List LwI} {x : List CI} (hC : lawC I l q ifs x) : wm t d rt (f_X2_worth l (q : Int) s (k : Int) (nh : Int) (mm t d rt I)) (fun r J => r = lwV jdv jnl jlt (rV w nh ρ k) ifs x ∧ frm (fun a => a = l + 4) I J) := by
  obtain ⟨hok, sp, p, e, c1, c2, c3, c4, c5⟩ := hC
  rw [wk_eq]
  (repeat (first | (with_reducible apply wm_o; focus (simp (disch := omega) only [wr_id, Int.toNat_natCast, Int.reduceToNat, tn_lk, tn_kl, if_pos, if_neg, ↓reduceIte, and_self, and_true, true_and, FLaws hl', c3]; with_reducible rfl)) | (with_reducible apply wm_q) | (with_reducible apply wm_c; focus (first | assumption | decide +kernel)) | (with_reducible apply wm_d; focus (simp (disch := omega) only [wr_id, Int.toNat_natCast, Int.reduceToNat, tn_lk, tn_kl, if_pos, if_neg, ↓reduceIte, and_self, and_true, true_and, FLaws hl', c3]; with_reducible rfl)) | (with_reducible apply wm_t; focus (first | omega | (simp (disch := omega) only [wr_id, FLaws hl', c3]; omega) | (simp (disch := omega) only [wr_id, FLaws hl', c3]; done))) | (with_reducible apply wm_f; focus (first | omega | (simp (disch := omega) only [wr_id, FLaws hl', c3]; omega) | (simp (disch := omega) only [wr_id, FLaws hl', c3]; done)))))
  exact wk_law hl' hs hw hn hr hk h0 c2 c4 ifs p 0 jfuel I hok hst c1 c5 (by omega) (Nat.le_trans (show e ≤ p + 404 by omega) (Nat.add_le_add_left (Nat.le_of_lt (jfuel_n (by decide))) p))
theorem wr_m (v : Int) (h : v = 100 ∨ v = 99 ∨ v = 0) : jd_wr v = v := by
  rcases h with rfl | rfl | rfl <;> decide +kernel
theorem w_held (hl' : l ∈ [11, 24]) (hs : s ∈ stL) (hw : 2 ≤ w ∧ w ≤ 6) (hn : n ≤ 36) (hr : rOK w n hl ρ) (hk : k < 18) (h0 : 0 ≤ ρ k) (hst : stR I s w ρ) {q : Nat} (hq : q < 3) {ifs : List LwI} {x : List CI} (hC : lawC I l q ifs x) : wm t d rt (f_X2_held l (q : Int) s (k : Int) (nh : Int) (mm t d rt I)) (fun r J => jd_wr r = clV (if q = 1 then 100 else 99) (lwV jdv jnl jlt (rV w nh ρ k) ifs x) ∧ frm (fun a => a = l + 4) I J) := by
  have kl : (K0 l).1 = 2 ∧ l < 418 := ⟨(FLaws_k l hl').1, (FLaws_k l hl').2.1⟩
  have key : ∀ most : Int, most = 100 ∨ most = 99 → wm t d rt (jbd (f_X2_worth l (q : Int) s (k : Int) (nh : Int) (mm t d rt I)) fun v1 M2 => jbd (f_J9_min_7cf53 most v1 M2) fun v3 M4 => jbd (f_J9_max_7cf53 0 v3 M4) fun v5 M6 => some (v5, M6)) (fun r J => jd_wr r = clV most (lwV jdv jnl jlt (rV w nh ρ k) ifs x) ∧ frm (fun a => a = l + 4) I J) := by
    intro most hm
    have em : jd_wr most = most := wr_m most (by omega)
    have e0 : jd_wr 0 = 0 := jw_wr0
    refine wm_b (w_worth hl' hs hw hn hr hk h0 hst hq hC) (fun v J hJ => ?_)
    rw [← hJ.1]
    by_cases z1 : jd_wr v < most
    · have e1 : f_J9_min_7cf53 most v (mm t d rt J) = some (v, mm t d rt J) := by
        unfold f_J9_min_7cf53
        rw [if_neg (by omega)]
      rw [e1, jbd_s]
      by_cases z2 : jd_wr v ≤ 0
      · by_cases z3 : jd_wr v = 0
        · have e2 : f_J9_max_7cf53 0 v (mm t d rt J) = some (0, mm t d rt J) := by
            unfold f_J9_max_7cf53
            rw [if_neg (by omega)]
          rw [e2, jbd_s]
          refine wm_r ⟨?_, hJ.2⟩
          rw [e0]
          unfold clV
          rw [if_neg (by omega), if_pos (by omega), z3]
        · have e2 : f_J9_max_7cf53 0 v (mm t d rt J) = some (0, mm t d rt J) := by
            unfold f_J9_max_7cf53
            rw [if_neg (by omega)]
          rw [e2, jbd_s]
          refine wm_r ⟨?_, hJ.2⟩
          rw [e0]
          unfold clV
          rw [if_pos (by omega)]
      · have e2 : f_J9_max_7cf53 0 v (mm t d rt J) = some (v, mm t d rt J) := by
          unfold f_J9_max_7cf53
          rw [if_pos (by omega)]
        rw [e2, jbd_s]
        refine wm_r ⟨?_, hJ.2⟩
        unfold clV
        rw [if_neg (by omega), if_pos (by omega)]
    · have e1 : f_J9_min_7cf53 most v (mm t d rt J) = some (most, mm t d rt J) := by
        unfold f_J9_min_7cf53
        rw [if_pos (by omega)]
      rw [e1, jbd_s]
      have e2 : f_J9_max_7cf53 0 most (mm t d rt J) = some (most, mm t d rt J) := by
        unfold f_J9_max_7cf53
        rw [if_pos (by omega)]
      rw [e2, jbd_s]
      refine wm_r ⟨?_, hJ.2⟩
      unfold clV
      rw [if_neg (by omega)]
      split <;> omega
  unfold f_X2_held
  by_cases z : q = 1
  · rw [if_pos z]
    (repeat (first | (with_reducible apply wm_o; focus (simp (disch := omega) only [wr_id, Int.toNat_natCast, Int.reduceToNat, tn_lk, tn_kl, if_pos, if_neg, ↓reduceIte, and_self, and_true, true_and]; with_reducible rfl)) | (with_reducible apply wm_q) | (with_reducible apply wm_c; focus (first | assumption | decide +kernel)) | (with_reducible apply wm_d; focus (simp (disch := omega) only [wr_id, Int.toNat_natCast, Int.reduceToNat, tn_lk, tn_kl, if_pos, if_neg, ↓reduceIte, and_self, and_true, true_and]; with_reducible rfl)) | (with_reducible apply wm_t; focus (first | omega | (simp (disch := omega) only [wr_id]; omega) | (simp (disch := omega) only [wr_id]; done))) | (with_reducible apply wm_f; focus (first | omega | (simp (disch := omega) only [wr_id]; omega) | (simp (disch := omega) only [wr_id]; done)))))
    exact key 100 (Or.inl rfl)
  · rw [if_neg z]
    (repeat (first | (with_reducible apply wm_o; focus (simp (disch := omega) only [wr_id, Int.toNat_natCast, Int.reduceToNat, tn_lk, tn_kl, if_pos, if_neg, ↓reduceIte, and_self, and_true, true_and]; with_reducible rfl)) | (with_reducible apply wm_q) | (with_reducible apply wm_c; focus (first | assumption | decide +kernel)) | (with_reducible apply wm_d; focus (simp (disch := omega) only [wr_id, Int.toNat_natCast, Int.reduceToNat, tn_lk, tn_kl, if_pos, if_neg, ↓reduceIte, and_self, and_true, true_and]; with_reducible rfl)) | (with_reducible apply wm_t; focus (first | omega | (simp (disch := omega) only [wr_id]; omega) | (simp (disch := omega) only [wr_id]; done))) | (with_reducible apply wm_f; focus (first | omega | (simp (disch := omega) only [wr_id]; omega) | (simp (disch := omega) only [wr_id]; done)))))
    exact key 99 (Or.inr rfl)
end LV
