/-! ===== calls: undo, hold, restore, forget, tell, back ===== -/
def bSet (hd : Nat → Bool) (i : Nat) : Nat → Bool := fun j => if j = i then true else hd j
theorem bSet_s {hd : Nat → Bool} {i : Nat} : bSet hd i i = true := if_pos rfl
theorem bSet_n {hd : Nat → Bool} {i j : Nat} (h : j ≠ i) : bSet hd i j = hd j := if_neg h
section PN
variable {t d rt : Nat} {I J K : Nat → Nat → Int} {lv w h n nh : Nat} {hl : Nat → Bool} {sd : Int} {ifs : Nat → List LwI} {xs : Nat → List CI} {ρ σ : Nat → Int} {u : Nat} {H : Nat → Nat → Int} {hd : Nat → Bool} {G : Nat → Nat → Int}
theorem P_undo (hI : INV t d rt I) : both t d rt (f_X11_undo 0 (mm t d rt I)) (fun M => f_X12_undo 369 M) := by
  have hI' := hI
  obtain ⟨lv, w, h, n, nh, hl, sd, ifs, xs, hR, ρ, u, H, hd, G, hC, hM⟩ := hI
  have hz := hR.2.2.2.2.2.2.2.2.2
  obtain ⟨s1, s2, ⟨nw, s3⟩, s4, s5, s6⟩ := hC
  unfold both f_X11_undo
  cases u with
  | zero =>
    have hg := w_giveBack0 (t := t) (d := d) (rt := rt) s3
    have h53 : I 369 53 = 0 := hM.2.2.1.1
    (repeat (first | (with_reducible apply wm_o; focus (simp (disch := omega) only [wr_id, Int.toNat_natCast, Int.reduceToNat, tn_lk, tn_kl, if_pos, if_neg, ↓reduceIte, and_self, and_true, true_and, FX, hg]; with_reducible rfl)) | (with_reducible apply wm_q) | (with_reducible apply wm_c; focus (first | assumption | decide +kernel)) | (with_reducible apply wm_d; focus (simp (disch := omega) only [wr_id, Int.toNat_natCast, Int.reduceToNat, tn_lk, tn_kl, if_pos, if_neg, ↓reduceIte, and_self, and_true, true_and, FX, hg]; with_reducible rfl)) | (with_reducible apply wm_t; focus (first | omega | (simp (disch := omega) only [wr_id, FX, hg]; omega) | (simp (disch := omega) only [wr_id, FX, hg]; done))) | (with_reducible apply wm_f; focus (first | omega | (simp (disch := omega) only [wr_id, FX, hg]; omega) | (simp (disch := omega) only [wr_id, FX, hg]; done)))))
    refine wm_z0 ?_
    show wm t d rt (f_X12_undo 369 (mm t d rt I)) _
    unfold f_X12_undo
    (repeat (first | (with_reducible apply wm_o; focus (simp (disch := omega) only [wr_id, Int.toNat_natCast, Int.reduceToNat, tn_lk, tn_kl, if_pos, if_neg, ↓reduceIte, and_self, and_true, true_and, FM, h53]; with_reducible rfl)) | (with_reducible apply wm_q) | (with_reducible apply wm_c; focus (first | assumption | decide +kernel)) | (with_reducible apply wm_d; focus (simp (disch := omega) only [wr_id, Int.toNat_natCast, Int.reduceToNat, tn_lk, tn_kl, if_pos, if_neg, ↓reduceIte, and_self, and_true, true_and, FM, h53]; with_reducible rfl)) | (with_reducible apply wm_t; focus (first | omega | (simp (disch := omega) only [wr_id, FM, h53]; omega) | (simp (disch := omega) only [wr_id, FM, h53]; done))) | (with_reducible apply wm_f; focus (first | omega | (simp (disch := omega) only [wr_id, FM, h53]; omega) | (simp (disch := omega) only [wr_id, FM, h53]; done)))))
    exact wm_z0 ⟨rfl, hI'⟩
  | succ u =>
    (repeat (first | (with_reducible apply wm_o; focus (simp (disch := omega) only [wr_id, Int.toNat_natCast, Int.reduceToNat, tn_lk, tn_kl, if_pos, if_neg, ↓reduceIte, and_self, and_true, true_and, FX]; with_reducible rfl)) | (with_reducible apply wm_q) | (with_reducible apply wm_c; focus (first | assumption | decide +kernel)) | (with_reducible apply wm_d; focus (simp (disch := omega) only [wr_id, Int.toNat_natCast, Int.reduceToNat, tn_lk, tn_kl, if_pos, if_neg, ↓reduceIte, and_self, and_true, true_and, FX]; with_reducible rfl)) | (with_reducible apply wm_t; focus (first | omega | (simp (disch := omega) only [wr_id, FX]; omega) | (simp (disch := omega) only [wr_id, FX]; done))) | (with_reducible apply wm_f; focus (first | omega | (simp (disch := omega) only [wr_id, FX]; omega) | (simp (disch := omega) only [wr_id, FX]; done)))))
    refine wm_b (w_giveBack s3 s2) (fun v J hJ => ?_)
    obtain ⟨rfl, j1, j2, j3⟩ := hJ
    refine wm_z1 ?_
    have hf : frm (fun a => scrC a ∨ stS a) I J := frm_sub j1 (fun a ha => Or.inr (by unfold stF at ha; unfold stS; omega))
    have hC2 : stC J w n hl (H 0) u (fun i => H (i + 1)) hd G := by
      refine ⟨s4 0 (by omega), j2, ⟨_, j3⟩, fun i hi => s4 (i + 1) (by omega), slR_frm j1 (fun a a1 a2 => by unfold stF; omega) s5, ?_⟩
      rw [j1 307 (by unfold stF; omega)]
      exact s6
    have hM2 := stM_c hf hM
    obtain ⟨m1, m2, ⟨m3, m4, m5⟩, m6⟩ := hM2
    have m3' : J 369 53 = (u : Int) + 1 := by rw [m3]; omega
    show wm t d rt (f_X12_undo 369 (mm t d rt J)) _
    unfold f_X12_undo
    (repeat (first | (with_reducible apply wm_o; focus (simp (disch := omega) only [wr_id, Int.toNat_natCast, Int.reduceToNat, tn_lk, tn_kl, if_pos, if_neg, ↓reduceIte, and_self, and_true, true_and, FM, m3']; with_reducible rfl)) | (with_reducible apply wm_q) | (with_reducible apply wm_c; focus (first | assumption | decide +kernel)) | (with_reducible apply wm_d; focus (simp (disch := omega) only [wr_id, Int.toNat_natCast, Int.reduceToNat, tn_lk, tn_kl, if_pos, if_neg, ↓reduceIte, and_self, and_true, true_and, FM, m3']; with_reducible rfl)) | (with_reducible apply wm_t; focus (first | omega | (simp (disch := omega) only [wr_id, FM, m3']; omega) | (simp (disch := omega) only [wr_id, FM, m3']; done))) | (with_reducible apply wm_f; focus (first | omega | (simp (disch := omega) only [wr_id, FM, m3']; omega) | (simp (disch := omega) only [wr_id, FM, m3']; done)))))
    have h0 := m5 0 (by omega)
    rw [show u + 1 - 1 - 0 = u by omega] at h0
    refine wm_lp2 75 (fun i y K => y = (i : Int) ∧ K = fl (up J 369 53 ((u : Int) + 1 - 1)) 400 i (H 0)) ?_ (jfuel_n (by decide)) ⟨rfl, by rw [fl_0]⟩
    rintro i hi y K ⟨rfl, rfl⟩ rec hrec
    refine wm_if (fun c => ?_) (fun c => ?_)
    · simp (disch := omega) only [wr_id] at c
      have e53 : fl (up J 369 53 ((u : Int) + 1 - 1)) 400 i (H 0) 369 53 = (u : Int) := by rw [fl_ne (by decide), up_g, if_pos rfl]; omega
      have e2 : (75 : Int) * (u : Int) + (i : Int) = ((75 * u + i : Nat) : Int) := by omega
      have e5 : fl (up J 369 53 ((u : Int) + 1 - 1)) 400 i (H 0) 405 (75 * u + i) = H 0 i := by rw [fl_ne (by decide), up_ne (by decide)]; exact h0.1 i (by omega)
      (repeat (first | (with_reducible apply wm_o; focus (simp (disch := omega) only [wr_id, Int.toNat_natCast, Int.reduceToNat, tn_lk, tn_kl, if_pos, if_neg, ↓reduceIte, and_self, and_true, true_and, FM, e53, e2, e5]; with_reducible rfl)) | (with_reducible apply wm_q) | (with_reducible apply wm_c; focus (first | assumption | decide +kernel)) | (with_reducible apply wm_d; focus (simp (disch := omega) only [wr_id, Int.toNat_natCast, Int.reduceToNat, tn_lk, tn_kl, if_pos, if_neg, ↓reduceIte, and_self, and_true, true_and, FM, e53, e2, e5]; with_reducible rfl)) | (with_reducible apply wm_t; focus (first | omega | (simp (disch := omega) only [wr_id, FM, e53, e2, e5]; omega) | (simp (disch := omega) only [wr_id, FM, e53, e2, e5]; done))) | (with_reducible apply wm_f; focus (first | omega | (simp (disch := omega) only [wr_id, FM, e53, e2, e5]; omega) | (simp (disch := omega) only [wr_id, FM, e53, e2, e5]; done)))))
      exact hrec (i + 1) _ _ (by omega) (by omega) ⟨by omega, fl_s _ 400 i (H 0)⟩
    · simp (disch := omega) only [wr_id] at c
      obtain rfl : i = 75 := by omega
      have fK : frM stMS (fun j => j = 53) J (fl (up J 369 53 ((u : Int) + 1 - 1)) 400 75 (H 0)) := ⟨fun a ha hS => by rw [flne (by unfold stMS at hS; omega), up_ne ha], fun j hj => by rw [fl_ne (by decide), up_g, if_neg hj]⟩
      refine wm_z1 ⟨rfl, INV_s hR hf (frM_sub fK (fun a ha => Or.inr ha) (fun a ha => Or.inr ha)) (zM_st (REST_c hf hR).2.2.2.2.2.2.2.2.2 fK) hC2 ?_⟩
      refine ⟨fl_all (fun y hy => ?_), h0.2, ⟨?_, by omega, fun i hi => ⟨fun k hk => ?_, (m5 (i + 1) (by omega)).2⟩⟩, ?_⟩
      · rw [up_ne (by decide), m1, m2 y hy, h0.2 y hy]
      · rw [fl_ne (by decide), up_g, if_pos rfl]; omega
      · have q := (m5 (i + 1) (by omega)).1 k hk
        rw [show u + 1 - 1 - (i + 1) = u - 1 - i by omega] at q
        rw [fl_ne (by decide), up_ne (by decide)]
        exact q
      · rw [flne (by decide), flne (by decide), up_ne (by decide), up_ne (by decide)]
        exact m6
theorem m_in_t {x a b : Int} {M : jMem} (hx : in32 x) (ha : in32 a) (hb : in32 b) (h : a ≤ x ∧ x ≤ b) : f_X12_in x a b M = some (1, M) := by
  unfold in32 at hx ha hb
  exact s_in_t (by simp (disch := omega) only [wr_id]; omega) (by simp (disch := omega) only [wr_id]; omega)
theorem m_in_f {x a b : Int} {M : jMem} (hx : in32 x) (ha : in32 a) (hb : in32 b) (h : ¬ (a ≤ x ∧ x ≤ b)) : f_X12_in x a b M = some (0, M) := by
  unfold in32 at hx ha hb
  exact s_in_f (by simp (disch := omega) only [wr_id]; omega)
theorem i32 {x : Int} (h1 : -2147483648 ≤ x) (h2 : x < 2147483648) : in32 x := ⟨h1, h2⟩
theorem wr_in {x : Int} (h : in32 x) : jd_wr x = x := wr_id h.1 h.2
theorem P_hold (hI : INV t d rt I) {x : Int} (hx : in32 x) : both t d rt (f_X11_hold 0 x (mm t d rt I)) (fun M => f_X12_hold 369 x M) := by
  have hI' := hI
  obtain ⟨lv, w, h, n, nh, hl, sd, ifs, xs, hR, ρ, u, H, hd, G, hC, hM⟩ := hI
  have hxw := wr_in hx
  unfold both f_X11_hold
  by_cases z : 0 ≤ x ∧ x ≤ 2
  · obtain ⟨i, rfl⟩ : ∃ i : Nat, x = (i : Int) := ⟨x.toNat, by omega⟩
    obtain ⟨s1, s2, ⟨nw, s3⟩, s4, s5, s6⟩ := hC
    have hi3 : i < 3 := by omega
    (repeat (first | (with_reducible apply wm_o; focus (simp (disch := omega) only [wr_id, Int.toNat_natCast, Int.reduceToNat, tn_lk, tn_kl, if_pos, if_neg, ↓reduceIte, and_self, and_true, true_and, FX]; with_reducible rfl)) | (with_reducible apply wm_q) | (with_reducible apply wm_c; focus (first | assumption | decide +kernel)) | (with_reducible apply wm_d; focus (simp (disch := omega) only [wr_id, Int.toNat_natCast, Int.reduceToNat, tn_lk, tn_kl, if_pos, if_neg, ↓reduceIte, and_self, and_true, true_and, FX]; with_reducible rfl)) | (with_reducible apply wm_t; focus (first | omega | (simp (disch := omega) only [wr_id, FX]; omega) | (simp (disch := omega) only [wr_id, FX]; done))) | (with_reducible apply wm_f; focus (first | omega | (simp (disch := omega) only [wr_id, FX]; omega) | (simp (disch := omega) only [wr_id, FX]; done)))))
    refine wm_b (w_putSlot s2 s5 hi3) (fun v J hJ => ?_)
    obtain ⟨rfl, j1, j2, j3⟩ := hJ
    refine wm_z1 ?_
    have hf : frm (fun a => scrC a ∨ stS a) I J := frm_sub j1 (fun a ha => Or.inr (by unfold stS; omega))
    have hC2 : stC J w n hl ρ u H (bSet hd i) (gSet G i ρ) := by
      refine ⟨s1, stR_frm j1 (fun a a1 a2 => by omega) s2, ⟨nw, kpR_frm j1 (fun a ha => by omega) s3⟩, s4, j3, fun j hj => ?_⟩
      rw [j2]
      by_cases q : j = i
      · subst q
        rw [rSet_s, gSet_s, bSet_s]
        exact ⟨rfl, fun _ => s1⟩
      · rw [rSet_n q, gSet_n q, bSet_n q]
        exact s6 j hj
    have hM2 := stM_c hf hM
    obtain ⟨m1, m2, m3, m6⟩ := hM2
    have hin := m_in_t (a := 0) (b := 2) (M := mm t d rt J) hx (i32 (by omega) (by omega)) (i32 (by omega) (by omega)) z
    show wm t d rt (f_X12_hold 369 (i : Int) (mm t d rt J)) _
    unfold f_X12_hold
    (repeat (first | (with_reducible apply wm_o; focus (simp (disch := omega) only [wr_id, Int.toNat_natCast, Int.reduceToNat, tn_lk, tn_kl, if_pos, if_neg, ↓reduceIte, and_self, and_true, true_and, hin, FM, jdz1]; with_reducible rfl)) | (with_reducible apply wm_q) | (with_reducible apply wm_c; focus (first | assumption | decide +kernel)) | (with_reducible apply wm_d; focus (simp (disch := omega) only [wr_id, Int.toNat_natCast, Int.reduceToNat, tn_lk, tn_kl, if_pos, if_neg, ↓reduceIte, and_self, and_true, true_and, hin, FM, jdz1]; with_reducible rfl)) | (with_reducible apply wm_t; focus (first | omega | (simp (disch := omega) only [wr_id, hin, FM, jdz1]; omega) | (simp (disch := omega) only [wr_id, hin, FM, jdz1]; done))) | (with_reducible apply wm_f; focus (first | omega | (simp (disch := omega) only [wr_id, hin, FM, jdz1]; omega) | (simp (disch := omega) only [wr_id, hin, FM, jdz1]; done)))))
    refine wm_lp2 75 (fun q y K => y = (q : Int) ∧ K = flB (up J 416 i 1) 417 (fun y => decide (75 * i ≤ y ∧ y < 75 * i + q)) (fun y => ρ (y - 75 * i))) ?_ (jfuel_n (by decide)) ⟨rfl, (flB_0 (fun y => decide_eq_false (by omega))).symm⟩
    rintro q hq y K ⟨rfl, rfl⟩ rec hrec
    refine wm_if (fun c => ?_) (fun c => ?_)
    · simp (disch := omega) only [wr_id] at c
      have e2 : (75 : Int) * (i : Int) + (q : Int) = ((75 * i + q : Nat) : Int) := by omega
      have e4 : flB (up J 416 i 1) 417 (fun y => decide (75 * i ≤ y ∧ y < 75 * i + q)) (fun y => ρ (y - 75 * i)) 400 q = ρ q := by rw [flB_ne (by decide), up_ne (by decide), m1]
      (repeat (first | (with_reducible apply wm_o; focus (simp (disch := omega) only [wr_id, Int.toNat_natCast, Int.reduceToNat, tn_lk, tn_kl, if_pos, if_neg, ↓reduceIte, and_self, and_true, true_and, FM, e2, e4]; with_reducible rfl)) | (with_reducible apply wm_q) | (with_reducible apply wm_c; focus (first | assumption | decide +kernel)) | (with_reducible apply wm_d; focus (simp (disch := omega) only [wr_id, Int.toNat_natCast, Int.reduceToNat, tn_lk, tn_kl, if_pos, if_neg, ↓reduceIte, and_self, and_true, true_and, FM, e2, e4]; with_reducible rfl)) | (with_reducible apply wm_t; focus (first | omega | (simp (disch := omega) only [wr_id, FM, e2, e4]; omega) | (simp (disch := omega) only [wr_id, FM, e2, e4]; done))) | (with_reducible apply wm_f; focus (first | omega | (simp (disch := omega) only [wr_id, FM, e2, e4]; omega) | (simp (disch := omega) only [wr_id, FM, e2, e4]; done)))))
      refine hrec (q + 1) _ _ (by omega) (by omega) ⟨by omega, ?_⟩
      have f := flB_up (I := up J 416 i 1) (a := 417) (i := 75 * i + q) (P := fun y => decide (75 * i ≤ y ∧ y < 75 * i + q)) (Q := fun y => decide (75 * i ≤ y ∧ y < 75 * i + (q + 1))) (g := fun y => ρ (y - 75 * i)) (fun y => by
        rw [Bool.eq_iff_iff]
        simp only [Bool.or_eq_true, decide_eq_true_eq, beq_iff_eq]
        omega)
      rw [← f]
      simp only [Nat.add_sub_cancel_left]
    · simp (disch := omega) only [wr_id] at c
      obtain rfl : q = 75 := by omega
      have flBne : ∀ (A : Nat → Nat → Int) (P : Nat → Bool) (g : Nat → Int) (a x : Nat), x ≠ a → flB A a P g x = A x := fun A P g a x hx => by funext y; exact flB_ne hx
      have fK : frM stMS (fun j => j = 53) J (flB (up J 416 i 1) 417 (fun y => decide (75 * i ≤ y ∧ y < 75 * i + 75)) (fun y => ρ (y - 75 * i))) := ⟨fun a ha hS => by
        rw [flBne _ _ _ _ _ (by unfold stMS at hS; omega), up_ne (by unfold stMS at hS; omega)], fun j hj => by
        rw [flB_ne (by decide), up_ne (by decide)]⟩
      refine wm_z1 ⟨rfl, INV_s hR hf (frM_sub fK (fun a ha => Or.inr ha) (fun a ha => Or.inr ha)) (zM_st (REST_c hf hR).2.2.2.2.2.2.2.2.2 fK) hC2 ?_⟩
      refine ⟨by rw [flBne _ _ _ _ _ (by decide), up_ne (by decide)]; exact m1, m2, mH_frm (by rw [flB_ne (by decide), up_ne (by decide)]) (by rw [flBne _ _ _ _ _ (by decide), up_ne (by decide)]) m3, fun j hj => ?_⟩
      rw [flB_ne (by decide), up_g]
      by_cases e : j = i
      · subst e
        rw [if_pos rfl, bSet_s, gSet_s]
        refine ⟨rfl, fun _ => ⟨fun k hk => ?_, m2⟩⟩
        rw [flB_in (by simp; omega), Nat.add_sub_cancel_left]
      · rw [if_neg e, bSet_n e, gSet_n e]
        refine ⟨(m6 j hj).1, fun q => ⟨fun k hk => ?_, ((m6 j hj).2 q).2⟩⟩
        have ne : ¬ (75 * i ≤ 75 * j + k ∧ 75 * j + k < 75 * i + 75) := by omega
        have e1 : flB (up J 416 i 1) 417 (fun y => decide (75 * i ≤ y ∧ y < 75 * i + 75)) (fun y => ρ (y - 75 * i)) 417 (75 * j + k) = J 417 (75 * j + k) := by
          unfold flB
          rw [if_neg (fun q => ne (by simpa using q.2)), up_ne (by decide)]
        rw [e1]
        exact ((m6 j hj).2 q).1 k hk
  · have hp := w_putSlot_f (t := t) (d := d) (rt := rt) (I := I) (x := x) (by rw [hxw]; omega)
    have hin := m_in_f (a := 0) (b := 2) (M := mm t d rt I) hx (i32 (by omega) (by omega)) (i32 (by omega) (by omega)) z
    (repeat (first | (with_reducible apply wm_o; focus (simp (disch := omega) only [wr_id, Int.toNat_natCast, Int.reduceToNat, tn_lk, tn_kl, if_pos, if_neg, ↓reduceIte, and_self, and_true, true_and, FX, hp]; with_reducible rfl)) | (with_reducible apply wm_q) | (with_reducible apply wm_c; focus (first | assumption | decide +kernel)) | (with_reducible apply wm_d; focus (simp (disch := omega) only [wr_id, Int.toNat_natCast, Int.reduceToNat, tn_lk, tn_kl, if_pos, if_neg, ↓reduceIte, and_self, and_true, true_and, FX, hp]; with_reducible rfl)) | (with_reducible apply wm_t; focus (first | omega | (simp (disch := omega) only [wr_id, FX, hp]; omega) | (simp (disch := omega) only [wr_id, FX, hp]; done))) | (with_reducible apply wm_f; focus (first | omega | (simp (disch := omega) only [wr_id, FX, hp]; omega) | (simp (disch := omega) only [wr_id, FX, hp]; done)))))
    refine wm_z0 ?_
    show wm t d rt (f_X12_hold 369 x (mm t d rt I)) _
    unfold f_X12_hold
    (repeat (first | (with_reducible apply wm_o; focus (simp (disch := omega) only [wr_id, Int.toNat_natCast, Int.reduceToNat, tn_lk, tn_kl, if_pos, if_neg, ↓reduceIte, and_self, and_true, true_and, hin]; with_reducible rfl)) | (with_reducible apply wm_q) | (with_reducible apply wm_c; focus (first | assumption | decide +kernel)) | (with_reducible apply wm_d; focus (simp (disch := omega) only [wr_id, Int.toNat_natCast, Int.reduceToNat, tn_lk, tn_kl, if_pos, if_neg, ↓reduceIte, and_self, and_true, true_and, hin]; with_reducible rfl)) | (with_reducible apply wm_t; focus (first | omega | (simp (disch := omega) only [wr_id, hin]; omega) | (simp (disch := omega) only [wr_id, hin]; done))) | (with_reducible apply wm_f; focus (first | omega | (simp (disch := omega) only [wr_id, hin]; omega) | (simp (disch := omega) only [wr_id, hin]; done)))))
    exact wm_z0 ⟨rfl, hI'⟩
theorem P_restore (hI : INV t d rt I) {x : Int} (hx : in32 x) : both t d rt (f_X11_restore 0 x (mm t d rt I)) (fun M => f_X12_restore 369 x M) := by
  have hI' := hI
  obtain ⟨lv, w, h, n, nh, hl, sd, ifs, xs, hR, ρ, u, H, hd, G, hC, hM⟩ := hI
  have hxw := wr_in hx
  unfold both f_X11_restore
  by_cases z : 0 ≤ x ∧ x ≤ 2
  · obtain ⟨i, rfl⟩ : ∃ i : Nat, x = (i : Int) := ⟨x.toNat, by omega⟩
    obtain ⟨s1, s2, ⟨nw, s3⟩, s4, s5, s6⟩ := hC
    have hi3 : i < 3 := by omega
    by_cases zh : hd i = true
    · have s6i := s6 i hi3
      rw [if_pos zh] at s6i
      (repeat (first | (with_reducible apply wm_o; focus (simp (disch := omega) only [wr_id, Int.toNat_natCast, Int.reduceToNat, tn_lk, tn_kl, if_pos, if_neg, ↓reduceIte, and_self, and_true, true_and, FX]; with_reducible rfl)) | (with_reducible apply wm_q) | (with_reducible apply wm_c; focus (first | assumption | decide +kernel)) | (with_reducible apply wm_d; focus (simp (disch := omega) only [wr_id, Int.toNat_natCast, Int.reduceToNat, tn_lk, tn_kl, if_pos, if_neg, ↓reduceIte, and_self, and_true, true_and, FX]; with_reducible rfl)) | (with_reducible apply wm_t; focus (first | omega | (simp (disch := omega) only [wr_id, FX]; omega) | (simp (disch := omega) only [wr_id, FX]; done))) | (with_reducible apply wm_f; focus (first | omega | (simp (disch := omega) only [wr_id, FX]; omega) | (simp (disch := omega) only [wr_id, FX]; done)))))
      refine wm_b (w_takeSlot s5 s3 hi3 s6i.1) (fun v J hJ => ?_)
      obtain ⟨rfl, j1, j2, j3⟩ := hJ
      refine wm_z1 ?_
      have hf : frm (fun a => scrC a ∨ stS a) I J := frm_sub j1 (fun a ha => Or.inr (by unfold stF at ha; unfold stS; omega))
      have hC2 : stC J w n hl (G i) 0 H hd G := by
        refine ⟨s6i.2 zh, j2, ⟨_, j3⟩, fun i hi => by omega, slR_frm j1 (fun a a1 a2 => by unfold stF; omega) s5, ?_⟩
        rw [j1 307 (by unfold stF; omega)]
        exact s6
      have hM2 := stM_c hf hM
      obtain ⟨m1, m2, m3, m6⟩ := hM2
      have hin := m_in_t (a := 0) (b := 2) (M := mm t d rt J) hx (i32 (by omega) (by omega)) (i32 (by omega) (by omega)) z
      have m6i := m6 i hi3
      rw [if_pos zh] at m6i
      have m61 := m6i.1
      have g0 := m6i.2 zh
      show wm t d rt (f_X12_restore 369 (i : Int) (mm t d rt J)) _
      unfold f_X12_restore
      (repeat (first | (with_reducible apply wm_o; focus (simp (disch := omega) only [wr_id, Int.toNat_natCast, Int.reduceToNat, tn_lk, tn_kl, if_pos, if_neg, ↓reduceIte, and_self, and_true, true_and, hin, FM, m61]; with_reducible rfl)) | (with_reducible apply wm_q) | (with_reducible apply wm_c; focus (first | assumption | decide +kernel)) | (with_reducible apply wm_d; focus (simp (disch := omega) only [wr_id, Int.toNat_natCast, Int.reduceToNat, tn_lk, tn_kl, if_pos, if_neg, ↓reduceIte, and_self, and_true, true_and, hin, FM, m61]; with_reducible rfl)) | (with_reducible apply wm_t; focus (first | omega | (simp (disch := omega) only [wr_id, hin, FM, m61]; omega) | (simp (disch := omega) only [wr_id, hin, FM, m61]; done))) | (with_reducible apply wm_f; focus (first | omega | (simp (disch := omega) only [wr_id, hin, FM, m61]; omega) | (simp (disch := omega) only [wr_id, hin, FM, m61]; done)))))
      refine wm_lp2 75 (fun q y K => y = (q : Int) ∧ K = fl J 400 q (G i)) ?_ (jfuel_n (by decide)) ⟨rfl, by rw [fl_0]⟩
      rintro q hq y K ⟨rfl, rfl⟩ rec hrec
      refine wm_if (fun c => ?_) (fun c => ?_)
      · simp (disch := omega) only [wr_id] at c
        have e2 : (75 : Int) * (i : Int) + (q : Int) = ((75 * i + q : Nat) : Int) := by omega
        have e4 : fl J 400 q (G i) 417 (75 * i + q) = G i q := by rw [fl_ne (by decide)]; exact g0.1 q (by omega)
        (repeat (first | (with_reducible apply wm_o; focus (simp (disch := omega) only [wr_id, Int.toNat_natCast, Int.reduceToNat, tn_lk, tn_kl, if_pos, if_neg, ↓reduceIte, and_self, and_true, true_and, FM, e2, e4]; with_reducible rfl)) | (with_reducible apply wm_q) | (with_reducible apply wm_c; focus (first | assumption | decide +kernel)) | (with_reducible apply wm_d; focus (simp (disch := omega) only [wr_id, Int.toNat_natCast, Int.reduceToNat, tn_lk, tn_kl, if_pos, if_neg, ↓reduceIte, and_self, and_true, true_and, FM, e2, e4]; with_reducible rfl)) | (with_reducible apply wm_t; focus (first | omega | (simp (disch := omega) only [wr_id, FM, e2, e4]; omega) | (simp (disch := omega) only [wr_id, FM, e2, e4]; done))) | (with_reducible apply wm_f; focus (first | omega | (simp (disch := omega) only [wr_id, FM, e2, e4]; omega) | (simp (disch := omega) only [wr_id, FM, e2, e4]; done)))))
        exact hrec (q + 1) _ _ (by omega) (by omega) ⟨by omega, fl_s _ 400 q (G i)⟩
      · simp (disch := omega) only [wr_id] at c
        obtain rfl : q = 75 := by omega
        (repeat (first | (with_reducible apply wm_o; focus (simp (disch := omega) only [wr_id, Int.toNat_natCast, Int.reduceToNat, tn_lk, tn_kl, if_pos, if_neg, ↓reduceIte, and_self, and_true, true_and, FM]; with_reducible rfl)) | (with_reducible apply wm_q) | (with_reducible apply wm_c; focus (first | assumption | decide +kernel)) | (with_reducible apply wm_d; focus (simp (disch := omega) only [wr_id, Int.toNat_natCast, Int.reduceToNat, tn_lk, tn_kl, if_pos, if_neg, ↓reduceIte, and_self, and_true, true_and, FM]; with_reducible rfl)) | (with_reducible apply wm_t; focus (first | omega | (simp (disch := omega) only [wr_id, FM]; omega) | (simp (disch := omega) only [wr_id, FM]; done))) | (with_reducible apply wm_f; focus (first | omega | (simp (disch := omega) only [wr_id, FM]; omega) | (simp (disch := omega) only [wr_id, FM]; done)))))
        have fK : frM stMS (fun j => j = 53) J (up (fl J 400 75 (G i)) 369 53 0) := ⟨fun a ha hS => by rw [up_ne ha, flne (by unfold stMS at hS; omega)], fun j hj => by rw [up_g, if_neg hj, fl_ne (by decide)]⟩
        refine wm_z1 ⟨rfl, INV_s hR hf (frM_sub fK (fun a ha => Or.inr ha) (fun a ha => Or.inr ha)) (zM_st (REST_c hf hR).2.2.2.2.2.2.2.2.2 fK) hC2 ?_⟩
        refine ⟨?_, g0.2, ⟨by rw [up_g, if_pos rfl]; rfl, by omega, fun i hi => by omega⟩, ?_⟩
        · rw [up_ne (by decide)]
          exact fl_all (fun y hy => by rw [m1, m2 y hy, g0.2 y hy])
        · rw [up_ne (by decide), up_ne (by decide), flne (by decide), flne (by decide)]
          exact m6
    · have s6i := s6 i hi3
      rw [if_neg zh] at s6i
      have hp := w_takeSlot_0 (t := t) (d := d) (rt := rt) hi3 s6i.1
      have m6i := hM.2.2.2 i hi3
      rw [if_neg zh] at m6i
      have m61 := m6i.1
      have hin := m_in_t (a := 0) (b := 2) (M := mm t d rt I) hx (i32 (by omega) (by omega)) (i32 (by omega) (by omega)) z
      (repeat (first | (with_reducible apply wm_o; focus (simp (disch := omega) only [wr_id, Int.toNat_natCast, Int.reduceToNat, tn_lk, tn_kl, if_pos, if_neg, ↓reduceIte, and_self, and_true, true_and, FX, hp]; with_reducible rfl)) | (with_reducible apply wm_q) | (with_reducible apply wm_c; focus (first | assumption | decide +kernel)) | (with_reducible apply wm_d; focus (simp (disch := omega) only [wr_id, Int.toNat_natCast, Int.reduceToNat, tn_lk, tn_kl, if_pos, if_neg, ↓reduceIte, and_self, and_true, true_and, FX, hp]; with_reducible rfl)) | (with_reducible apply wm_t; focus (first | omega | (simp (disch := omega) only [wr_id, FX, hp]; omega) | (simp (disch := omega) only [wr_id, FX, hp]; done))) | (with_reducible apply wm_f; focus (first | omega | (simp (disch := omega) only [wr_id, FX, hp]; omega) | (simp (disch := omega) only [wr_id, FX, hp]; done)))))
      refine wm_z0 ?_
      show wm t d rt (f_X12_restore 369 (i : Int) (mm t d rt I)) _
      unfold f_X12_restore
      (repeat (first | (with_reducible apply wm_o; focus (simp (disch := omega) only [wr_id, Int.toNat_natCast, Int.reduceToNat, tn_lk, tn_kl, if_pos, if_neg, ↓reduceIte, and_self, and_true, true_and, hin, FM, m61]; with_reducible rfl)) | (with_reducible apply wm_q) | (with_reducible apply wm_c; focus (first | assumption | decide +kernel)) | (with_reducible apply wm_d; focus (simp (disch := omega) only [wr_id, Int.toNat_natCast, Int.reduceToNat, tn_lk, tn_kl, if_pos, if_neg, ↓reduceIte, and_self, and_true, true_and, hin, FM, m61]; with_reducible rfl)) | (with_reducible apply wm_t; focus (first | omega | (simp (disch := omega) only [wr_id, hin, FM, m61]; omega) | (simp (disch := omega) only [wr_id, hin, FM, m61]; done))) | (with_reducible apply wm_f; focus (first | omega | (simp (disch := omega) only [wr_id, hin, FM, m61]; omega) | (simp (disch := omega) only [wr_id, hin, FM, m61]; done)))))
      exact wm_z0 ⟨rfl, hI'⟩
  · have hp := w_takeSlot_f (t := t) (d := d) (rt := rt) (I := I) (x := x) (by rw [hxw]; omega)
    have hin := m_in_f (a := 0) (b := 2) (M := mm t d rt I) hx (i32 (by omega) (by omega)) (i32 (by omega) (by omega)) z
    (repeat (first | (with_reducible apply wm_o; focus (simp (disch := omega) only [wr_id, Int.toNat_natCast, Int.reduceToNat, tn_lk, tn_kl, if_pos, if_neg, ↓reduceIte, and_self, and_true, true_and, FX, hp]; with_reducible rfl)) | (with_reducible apply wm_q) | (with_reducible apply wm_c; focus (first | assumption | decide +kernel)) | (with_reducible apply wm_d; focus (simp (disch := omega) only [wr_id, Int.toNat_natCast, Int.reduceToNat, tn_lk, tn_kl, if_pos, if_neg, ↓reduceIte, and_self, and_true, true_and, FX, hp]; with_reducible rfl)) | (with_reducible apply wm_t; focus (first | omega | (simp (disch := omega) only [wr_id, FX, hp]; omega) | (simp (disch := omega) only [wr_id, FX, hp]; done))) | (with_reducible apply wm_f; focus (first | omega | (simp (disch := omega) only [wr_id, FX, hp]; omega) | (simp (disch := omega) only [wr_id, FX, hp]; done)))))
    refine wm_z0 ?_
    show wm t d rt (f_X12_restore 369 x (mm t d rt I)) _
    unfold f_X12_restore
    (repeat (first | (with_reducible apply wm_o; focus (simp (disch := omega) only [wr_id, Int.toNat_natCast, Int.reduceToNat, tn_lk, tn_kl, if_pos, if_neg, ↓reduceIte, and_self, and_true, true_and, hin]; with_reducible rfl)) | (with_reducible apply wm_q) | (with_reducible apply wm_c; focus (first | assumption | decide +kernel)) | (with_reducible apply wm_d; focus (simp (disch := omega) only [wr_id, Int.toNat_natCast, Int.reduceToNat, tn_lk, tn_kl, if_pos, if_neg, ↓reduceIte, and_self, and_true, true_and, hin]; with_reducible rfl)) | (with_reducible apply wm_t; focus (first | omega | (simp (disch := omega) only [wr_id, hin]; omega) | (simp (disch := omega) only [wr_id, hin]; done))) | (with_reducible apply wm_f; focus (first | omega | (simp (disch := omega) only [wr_id, hin]; omega) | (simp (disch := omega) only [wr_id, hin]; done)))))
    exact wm_z0 ⟨rfl, hI'⟩
end PN
