/-! ===== calls: turn ===== -/
section TV
variable {t d rt : Nat} {I J K : Nat → Nat → Int} {lv w h n nh r : Nat} {hl cl na nd U : Nat → Bool} {sd : Int} {ifs : Nat → List LwI} {xs : Nat → List CI} {ρ : Nat → Int} {u : Nat} {H : Nat → Nat → Int} {hd : Nat → Bool} {G : Nat → Nat → Int} {k0 k1 : Nat} {o b : Int}
theorem stR_turn (sq : sqOK w h n nh hl) (hr : rOK w n hl ρ) (hst : stR I 34 w ρ) {c : Nat} {a : Int} (hX : ctX w n ρ c a k0 k1) {oN s : Nat} (ho : (oN : Int) = if a = 0 then (c : Int) + 1 else (c : Int) + w) (hs : (s : Int) = if a = 0 then (c : Int) + w else (c : Int) + 1) (hb : b = 1 - a) : stR (up (up (up (up (up (up (up (up (up (up I 35 k0 (c : Int)) 36 k0 a) 39 c (k0 : Int)) 39 s (k0 : Int)) 37 k0 (I 37 k0 + 1)) 35 k1 (oN : Int)) 36 k1 a) 39 oN (k1 : Int)) 39 (c + w + 1) (k1 : Int)) 37 k1 (up (up (up (up (up I 35 k0 (c : Int)) 36 k0 a) 39 c (k0 : Int)) 39 s (k0 : Int)) 37 k0 (I 37 k0 + 1) 37 k1 + 1)) 34 w (trR ρ k0 k1 (oN : Int) b) := by
  obtain ⟨t1, t2, t3, t4, t5⟩ := tr_ok (o := (oN : Int)) (b := b) sq hr hX ho hb
  have hX' := hX
  obtain ⟨q1, q2, q3, q4, q5, q6, q7, q8, q9⟩ := hX
  have hn := sq.2.2.2.2.2.2.1
  have hw : 2 ≤ w ∧ w ≤ 6 := ⟨sq.1, sq.2.1⟩
  have at' := trR_at (ρ := ρ) (o := (oN : Int)) (b := b) q3.1 q3.2 t1
  have v0 : trR ρ k0 k1 (oN : Int) b k0 = (c : Int) := by rw [at', if_neg t1, if_neg (by omega), if_neg (by omega)]; exact q6
  have v1 : trR ρ k0 k1 (oN : Int) b k1 = (oN : Int) := by rw [at', if_pos rfl]
  have v2 : trR ρ k0 k1 (oN : Int) b (18 + k0) = b := by rw [at', if_neg (by omega), if_pos (Or.inl rfl)]
  have v3 : trR ρ k0 k1 (oN : Int) b (18 + k1) = b := by rw [at', if_neg (by omega), if_pos (Or.inr rfl)]
  have v4 : trR ρ k0 k1 (oN : Int) b (36 + k0) = ρ (36 + k0) + 1 := by rw [at', if_neg (by omega), if_neg (by omega), if_pos (Or.inl rfl)]
  have v5 : trR ρ k0 k1 (oN : Int) b (36 + k1) = ρ (36 + k1) + 1 := by rw [at', if_neg (by omega), if_neg (by omega), if_pos (Or.inr rfl)]
  have othj : ∀ j, j ≠ k1 → j ≠ 18 + k0 → j ≠ 18 + k1 → j ≠ 36 + k0 → j ≠ 36 + k1 → trR ρ k0 k1 (oN : Int) b j = ρ j := fun j e1 e2 e3 e4 e5 => by rw [at', if_neg e1, if_neg (by omega), if_neg (by omega)]
  obtain ⟨h1, h2, h3, h4, h5, h6, h7, h8, h9⟩ := hst
  have g0 := h2 k0 q3.1 q4
  have g1 := h2 k1 q3.2 q5
  have a01 : a = 0 ∨ a = 1 := q2
  have hos : (oN = c + 1 ∧ s = c + w ∧ a = 0) ∨ (oN = c + w ∧ s = c + 1 ∧ a = 1) := by
    rcases q2 with rfl | rfl
    · rw [if_pos rfl] at ho hs; omega
    · rw [if_neg (by decide)] at ho hs; omega
  refine ⟨fun k hk => ?_, fun k hk hl0 => ?_, fun k hk => ?_, fun x hx => ?_, ?_, ?_, ?_, ?_, ?_⟩
  · show up _ 37 k1 _ 35 k = _
    simp (disch := omega) only [up_ne, up_g]
    by_cases e1 : k = k1
    · rw [if_pos e1, e1, v1, if_pos (by omega)]
    · rw [if_neg e1]
      by_cases e0 : k = k0
      · rw [if_pos e0, e0, v0, if_pos (by omega)]
      · rw [if_neg e0, othj k e1 (by omega) (by omega) (by omega) (by omega)]
        exact h1 k hk
  · show up _ 37 k1 _ 36 k = _ ∧ up _ 37 k1 _ 37 k = _ ∧ up _ 37 k1 _ 38 k = _
    simp (disch := omega) only [up_ne, up_g]
    by_cases e1 : k = k1
    · subst e1
      rw [if_pos rfl, if_pos rfl, if_neg (fun q => t1 q.symm), v3, v5, othj (54 + k) (by omega) (by omega) (by omega) (by omega) (by omega)]
      exact ⟨by omega, by have := g1.2.1; show I 37 k + 1 = _; rw [show I 37 k = ρ (36 + k) from this], g1.2.2⟩
    · rw [if_neg e1, if_neg e1]
      by_cases e0 : k = k0
      · subst e0
        rw [if_pos rfl, if_pos rfl, v2, v4, othj (54 + k) (by omega) (by omega) (by omega) (by omega) (by omega)]
        exact ⟨by omega, by have := g0.2.1; show I 37 k + 1 = _; rw [show I 37 k = ρ (36 + k) from this], g0.2.2⟩
      · rw [if_neg e0, if_neg e0, othj (18 + k) (by omega) (by omega) (by omega) (by omega) (by omega), othj (36 + k) (by omega) (by omega) (by omega) (by omega) (by omega), othj (54 + k) (by omega) (by omega) (by omega) (by omega) (by omega)]
        rw [othj k e1 (by omega) (by omega) (by omega) (by omega)] at hl0
        exact h2 k hk hl0
  · show up _ 37 k1 _ 36 k = 0 ∨ up _ 37 k1 _ 36 k = 1
    simp (disch := omega) only [up_ne, up_g]
    by_cases e1 : k = k1
    · rw [if_pos e1]; omega
    · rw [if_neg e1]
      by_cases e0 : k = k0
      · rw [if_pos e0]; omega
      · rw [if_neg e0]; exact h3 k hk
  · show up _ 37 k1 _ 39 x = _
    simp (disch := omega) only [up_ne, up_g]
    have onk : ∀ k, k < 18 → rAt w (trR ρ k0 k1 (oN : Int) b) (x : Int) k = true → onI w (trR ρ k0 k1 (oN : Int) b) x = (k : Int) := fun k hk hat => onI_some t2 hk hat
    by_cases e1 : x = c + w + 1
    · rw [if_pos e1, onk k1 q3.2 (rAt_iff.mpr ⟨by rw [v1]; omega, Or.inr (by rw [t4]; omega)⟩)]
    · rw [if_neg e1]
      by_cases e2 : x = oN
      · rw [if_pos e2, onk k1 q3.2 (rAt_iff.mpr ⟨by rw [v1]; omega, Or.inl (by rw [v1]; omega)⟩)]
      · rw [if_neg e2]
        by_cases e3 : x = s
        · rw [if_pos e3, onk k0 q3.1 (rAt_iff.mpr ⟨by rw [v0]; omega, Or.inr (by rw [t3, ← hs]; omega)⟩)]
        · rw [if_neg e3]
          by_cases e4 : x = c
          · rw [if_pos e4, onk k0 q3.1 (rAt_iff.mpr ⟨by rw [v0]; omega, Or.inl (by rw [v0]; omega)⟩)]
          · rw [if_neg e4]
            have h4x : I 39 x = onI w ρ x := h4 x hx
            rw [h4x]
            have same : ∀ k, k < 18 → rAt w (trR ρ k0 k1 (oN : Int) b) (x : Int) k = rAt w ρ (x : Int) k := fun k hk => by
              rw [Bool.eq_iff_iff, rAt_iff, rAt_iff]
              by_cases k0e : k = k0
              · subst k0e
                rw [v0, t3, ← hs]
                have old : rOth w ρ k = (oN : Int) := by
                  unfold rOth
                  rw [q6, q8, ho]
                  rcases q2 with rfl | rfl
                  · rw [if_neg (by decide), if_pos rfl]
                  · rw [if_pos rfl, if_neg (by decide)]
                rw [old, q6]
                omega
              · by_cases k1e : k = k1
                · subst k1e
                  have old : rOth w ρ k = (c : Int) + w + 1 := by
                    unfold rOth
                    rw [q7, q9]
                    rcases q2 with rfl | rfl
                    · rw [if_pos rfl, if_neg (by decide)]
                    · rw [if_neg (by decide), if_pos rfl]; omega
                  rw [v1, t4, old, q7, ← hs]
                  omega
                · have a1 := othj k k1e (by omega) (by omega) (by omega) (by omega)
                  have a2 := othj (18 + k) (by omega) (by omega) (by omega) (by omega) (by omega)
                  unfold rOth
                  rw [a1, a2]
            unfold onI
            have : rCpl w (trR ρ k0 k1 (oN : Int) b) (x : Int) = rCpl w ρ (x : Int) := fnd_congr (fun k _ hk => same k (by omega))
            rw [this]
  · show up _ 37 k1 _ 34 5 = _
    simp (disch := omega) only [up_ne]; exact h5
  · show up _ 37 k1 _ 34 6 = _
    simp (disch := omega) only [up_ne]
    rw [h6]
    congr 1
    unfold rMany
    refine cntB_ext (fun j hj => ?_)
    unfold rLies
    by_cases e1 : j = k1
    · rw [e1, v1, decide_eq_true q5, decide_eq_true (by omega)]
    · rw [othj j e1 (by omega) (by omega) (by omega) (by omega)]
  · show up _ 37 k1 _ 34 7 = _
    simp (disch := omega) only [up_ne]
    rw [othj 72 (by omega) (by omega) (by omega) (by omega) (by omega)]; exact h7
  · show jd_wr (up _ 37 k1 _ 34 8) = _
    simp (disch := omega) only [up_ne]
    rw [othj 73 (by omega) (by omega) (by omega) (by omega) (by omega)]; exact h8
  · show up _ 37 k1 _ 34 9 = _
    simp (disch := omega) only [up_ne]
    rw [othj 74 (by omega) (by omega) (by omega) (by omega) (by omega)]; exact h9
theorem ctX_congr {σ : Nat → Int} {c : Nat} {a : Int} (hX : ctX w n ρ c a k0 k1) (h' : ∀ j, j < 36 → σ j = ρ j) : ctX w n σ c a k0 k1 := by
  obtain ⟨q1, q2, q3, q4, q5, q6, q7, q8, q9⟩ := hX
  refine ⟨q1, q2, q3, ?_, ?_, ?_, ?_, ?_, ?_⟩
  · rw [h' k0 (by omega)]; exact q4
  · rw [h' k1 (by omega)]; exact q5
  · rw [h' k0 (by omega)]; exact q6
  · rw [h' k1 (by omega)]; exact q7
  · rw [h' (18 + k0) (by omega)]; exact q8
  · rw [h' (18 + k1) (by omega)]; exact q9
theorem P_turn (hI : INV t d rt I) {x : Int} (hx : in32 x) : both t d rt (f_X11_turn 0 x (mm t d rt I)) (fun M => f_X12_turn 369 x M) := by
  have hI' := hI
  obtain ⟨lv, w, h, n, nh, hl, sd, ifs, xs, hR, ρ, u, H, hd, G, hC, hM⟩ := hI
  have sq := hR.2.1
  have hcf := hR.2.2.1
  have hmf := hR.2.2.2.1
  have hz := hR.2.2.2.2.2.2.2.2.2
  have hn := sq.2.2.2.2.2.2.1
  have hw : 2 ≤ w ∧ w ≤ 6 := ⟨sq.1, sq.2.1⟩
  have htx := hcf.1
  have kt := (tx_k htx).1
  have kb := (tx_k htx).2.2.2
  have htxx : t = 3 ∨ t = 16 := by simpa using htx
  have hct := c_canTurn (d := d) (rt := rt) sq hcf hC.1 hC.2.1 hx
  unfold both f_X11_turn
  by_cases z : (0 ≤ x ∧ x < n) ∧ ctB w n ρ x.toNat = true
  · rw [if_pos z] at hct
    obtain ⟨c, rfl⟩ : ∃ c : Nat, x = (c : Int) := ⟨x.toNat, by omega⟩
    rw [Int.toNat_natCast] at z
    obtain ⟨a, k0, k1, hX⟩ := (ct_iff hC.1).mp z.2
    obtain ⟨q1, q2, q3, q4, q5, q6, q7, q8, q9⟩ := hX
    have hX : ctX w n ρ c a k0 k1 := ⟨q1, q2, q3, q4, q5, q6, q7, q8, q9⟩
    obtain ⟨oN, ho⟩ : ∃ oN : Nat, (oN : Int) = if a = 0 then (c : Int) + 1 else (c : Int) + w := by
      rcases q2 with rfl | rfl
      · exact ⟨c + 1, by rw [if_pos rfl]; omega⟩
      · exact ⟨c + w, by rw [if_neg (by decide)]; omega⟩
    obtain ⟨s, hs⟩ : ∃ s : Nat, (s : Int) = if a = 0 then (c : Int) + w else (c : Int) + 1 := by
      rcases q2 with rfl | rfl
      · exact ⟨c + w, by rw [if_pos rfl]; omega⟩
      · exact ⟨c + 1, by rw [if_neg (by decide)]; omega⟩
    have hos : (oN = c + 1 ∧ s = c + w ∧ a = 0) ∨ (oN = c + w ∧ s = c + 1 ∧ a = 1) := by
      rcases q2 with rfl | rfl
      · rw [if_pos rfl] at ho hs; omega
      · rw [if_neg (by decide)] at ho hs; omega
    obtain ⟨t1, t2, _, _, t5⟩ := tr_ok (o := (oN : Int)) (b := 1 - a) sq hC.1 hX ho rfl
    have ei : (c : Int) + (w : Int) + 1 = ((c + w + 1 : Nat) : Int) := by omega
    (repeat (first | (with_reducible apply wm_o; focus (simp (disch := omega) only [wr_id, Int.toNat_natCast, Int.reduceToNat, tn_lk, tn_kl, if_pos, if_neg, ↓reduceIte, and_self, and_true, true_and, FX, hct]; with_reducible rfl)) | (with_reducible apply wm_q) | (with_reducible apply wm_c; focus (first | assumption | decide +kernel)) | (with_reducible apply wm_d; focus (simp (disch := omega) only [wr_id, Int.toNat_natCast, Int.reduceToNat, tn_lk, tn_kl, if_pos, if_neg, ↓reduceIte, and_self, and_true, true_and, FX, hct]; with_reducible rfl)) | (with_reducible apply wm_t; focus (first | omega | (simp (disch := omega) only [wr_id, FX, hct]; omega) | (simp (disch := omega) only [wr_id, FX, hct]; done))) | (with_reducible apply wm_f; focus (first | omega | (simp (disch := omega) only [wr_id, FX, hct]; omega) | (simp (disch := omega) only [wr_id, FX, hct]; done)))))
    refine wm_b (c_keep hC) (fun v J hJ => ?_)
    obtain ⟨j1, j2⟩ := hJ
    have cJ := cfC_frm j1 (fun a a1 a2 => by unfold scrC stS; omega) hcf
    (repeat (first | (with_reducible apply wm_o; focus (simp (disch := omega) only [wr_id, Int.toNat_natCast, Int.reduceToNat, tn_lk, tn_kl, if_pos, if_neg, ↓reduceIte, and_self, and_true, true_and]; with_reducible rfl)) | (with_reducible apply wm_q) | (with_reducible apply wm_c; focus (first | assumption | decide +kernel)) | (with_reducible apply wm_d; focus (simp (disch := omega) only [wr_id, Int.toNat_natCast, Int.reduceToNat, tn_lk, tn_kl, if_pos, if_neg, ↓reduceIte, and_self, and_true, true_and]; with_reducible rfl)) | (with_reducible apply wm_t; focus (first | omega | (simp (disch := omega) only [wr_id]; omega) | (simp (disch := omega) only [wr_id]; done))) | (with_reducible apply wm_f; focus (first | omega | (simp (disch := omega) only [wr_id]; omega) | (simp (disch := omega) only [wr_id]; done)))))
    refine wm_b (c_price sq cJ j2.1 j2.2.1 hX) (fun v7 J2 hJ2 => ?_)
    obtain ⟨p1, p2⟩ := hJ2
    have f2 : frm (fun a => scrC a ∨ stS a) I J2 := frm_trans j1 (frm_sub p2 (fun a ha => Or.inl (scr_12 htx a ha)))
    have hC2 : stC J2 w n hl ρ (min (u + 1) 40) (hCons ρ H) hd G := stC_frm p2 (fun a ha => by unfold stS at ha; omega) j2
    have c2 := (cfC_frm f2 (fun a a1 a2 => by unfold scrC stS; omega) hcf).2.1
    have f1 := (hC2.2.1.2.1 k0 q3.1 q4).1
    rw [q8] at f1
    have pb := prV_b (ifs := ifs) (xs := xs) (w := w) (nh := nh) (ρ := ρ) c
    -- paid
    have hP : ∀ v, jd_wr v = jd_wr (ρ 73 + prV ifs xs w nh ρ c) → stR (up J2 34 8 (J2 34 8 + v7)) 34 w (rSet ρ 73 v) := fun v hv => stR_paid (by rw [hv, wr_add, hC2.2.1.2.2.2.2.2.2.2.1, p1, wr_add (ρ 73), wr_id (x := prV ifs xs w nh ρ c) (by omega) (by omega)]) hC2.2.1
    have sP := hP (ρ 73 + prV ifs xs w nh ρ c) rfl
    have o1 : up J2 34 8 (J2 34 8 + v7) 39 c = (k0 : Int) := (sP.2.2.2.1 c (by omega)).trans (by rw [onI_congr (fun j hj => rSet_n (by omega))]; exact onI_some hC.1 q3.1 (ct_at hX).1)
    have o2 : up J2 34 8 (J2 34 8 + v7) 39 (c + w + 1) = (k1 : Int) := (sP.2.2.2.1 (c + w + 1) (by omega)).trans (by rw [onI_congr (fun j hj => rSet_n (by omega))]; exact onI_some hC.1 q3.2 (ct_at hX).2)
    have o3 : up J2 34 8 (J2 34 8 + v7) 36 k0 = 1 - a := by rw [up_ne (by decide)]; exact f1
    have o4 : up J2 34 8 (J2 34 8 + v7) t 0 = (w : Int) := by rw [up_ne (by omega)]; exact c2
    have o5 : up J2 34 8 (J2 34 8 + v7) 34 5 = (w : Int) := sP.2.2.2.2.1
    obtain ⟨P, hPd⟩ : ∃ P, P = up J2 34 8 (J2 34 8 + v7) := ⟨_, rfl⟩
    rw [← hPd] at o1 o2 o3 o4 o5
    have fP : frm (fun a => scrC a ∨ stS a) I P := by rw [hPd]; exact frm_up f2 (Or.inr (by unfold stS; omega))
    -- the class's memory at the end
    obtain ⟨Q1, hQ1⟩ : ∃ Q1, Q1 = up (up (up (up (up P 35 k0 (c : Int)) 36 k0 a) 39 c (k0 : Int)) 39 s (k0 : Int)) 37 k0 (P 37 k0 + 1) := ⟨_, rfl⟩
    obtain ⟨Q2, hQ2⟩ : ∃ Q2, Q2 = up (up (up (up (up Q1 35 k1 (oN : Int)) 36 k1 a) 39 oN (k1 : Int)) 39 (c + w + 1) (k1 : Int)) 37 k1 (Q1 37 k1 + 1) := ⟨_, rfl⟩
    have u1 : f_X6_turnTo 34 (k0 : Int) (c : Int) a (mm t d rt P) = some (0, mm t d rt Q1) := by
      rw [hQ1]
      exact q_turnTo q3.1 (by rcases hos with ⟨_, e2, e3⟩ | ⟨_, e2, e3⟩; exact Or.inr ⟨e3, e2⟩; exact Or.inl ⟨e3, e2⟩) o5 (by omega) (by omega) hw.2
    have u2 : f_X6_turnTo 34 (k1 : Int) (oN : Int) a (mm t d rt Q1) = some (0, mm t d rt Q2) := by
      rw [hQ2]
      refine q_turnTo (w := w) q3.2 (by rcases hos with ⟨e1, _, e3⟩ | ⟨e1, _, e3⟩; exact Or.inr ⟨e3, by omega⟩; exact Or.inl ⟨e3, by omega⟩) ?_ (by omega) (by omega) hw.2
      rw [hQ1]
      simp (disch := omega) only [up_ne]
      exact o5
    have tQ : Q1 t 0 = (w : Int) := by
      rw [hQ1]
      simp (disch := omega) only [up_ne]
      exact o4
    have fQ : frm (stF 34) J2 Q2 := by
      rw [hQ2, hQ1, hPd]
      have s5 : ∀ k, k ≤ 5 → stF 34 (34 + k) := fun k hk => ⟨by omega, by omega⟩
      exact frm_up (frm_up (frm_up (frm_up (frm_up (frm_up (frm_up (frm_up (frm_up (frm_up (frm_up (frm_refl _ _) (s5 0 (by omega))) (s5 1 (by omega))) (s5 2 (by omega))) (s5 5 (by omega))) (s5 5 (by omega))) (s5 3 (by omega))) (s5 1 (by omega))) (s5 2 (by omega))) (s5 5 (by omega))) (s5 5 (by omega))) (s5 3 (by omega))
    have hC3 : ∀ v, jd_wr v = jd_wr (ρ 73 + prV ifs xs w nh ρ c) → stC Q2 w n hl (trR (rSet ρ 73 v) k0 k1 (oN : Int) (1 - a)) (min (u + 1) 40) (hCons ρ H) hd G := fun v hv => by
      have hXv := ctX_congr (σ := rSet ρ 73 v) hX (fun j hj => rSet_n (by omega))
      have hok := rOK_set72 (j := 73) hC.1 (by omega) v
      refine stC_now hC2 fQ (tr_ok (o := (oN : Int)) (b := 1 - a) sq hok hXv ho rfl).2.1 ?_
      have := stR_turn (b := 1 - a) sq hok (hP v hv) hXv ho hs rfl
      rw [← hPd, ← hQ1, ← hQ2] at this
      exact this
    have fin : frm (fun a => scrC a ∨ stS a) I Q2 := frm_trans f2 (frm_sub fQ (fun a ha => Or.inr (by unfold stF at ha; unfold stS; omega)))
    -- the model
    have mdl : wm t d rt (f_X12_turn 369 (c : Int) (mm t d rt Q2)) (fun r' N => jd_wr v7 = jd_wr r' ∧ INV t d rt N) := by
      have hRJ := REST_c fin hR
      have hMJ := stM_c fin hM
      unfold f_X12_turn
      (repeat (first | (with_reducible apply wm_o; focus (simp (disch := omega) only [wr_id, Int.toNat_natCast, Int.reduceToNat, tn_lk, tn_kl, if_pos, if_neg, ↓reduceIte, and_self, and_true, true_and]; with_reducible rfl)) | (with_reducible apply wm_q) | (with_reducible apply wm_c; focus (first | assumption | decide +kernel)) | (with_reducible apply wm_d; focus (simp (disch := omega) only [wr_id, Int.toNat_natCast, Int.reduceToNat, tn_lk, tn_kl, if_pos, if_neg, ↓reduceIte, and_self, and_true, true_and]; with_reducible rfl)) | (with_reducible apply wm_t; focus (first | omega | (simp (disch := omega) only [wr_id]; omega) | (simp (disch := omega) only [wr_id]; done))) | (with_reducible apply wm_f; focus (first | omega | (simp (disch := omega) only [wr_id]; omega) | (simp (disch := omega) only [wr_id]; done)))))
      refine wm_b (m_cop hRJ.2.2.2.1 hRJ.2.2.2.2.2.2.2.2.2 hMJ.1 hMJ.2.1) (fun v' K hK => ?_)
      obtain ⟨k1', k2', k3', k4', k5'⟩ := hK
      (repeat (first | (with_reducible apply wm_o; focus (simp (disch := omega) only [wr_id, Int.toNat_natCast, Int.reduceToNat, tn_lk, tn_kl, if_pos, if_neg, ↓reduceIte, and_self, and_true, true_and]; with_reducible rfl)) | (with_reducible apply wm_q) | (with_reducible apply wm_c; focus (first | assumption | decide +kernel)) | (with_reducible apply wm_d; focus (simp (disch := omega) only [wr_id, Int.toNat_natCast, Int.reduceToNat, tn_lk, tn_kl, if_pos, if_neg, ↓reduceIte, and_self, and_true, true_and]; with_reducible rfl)) | (with_reducible apply wm_t; focus (first | omega | (simp (disch := omega) only [wr_id]; omega) | (simp (disch := omega) only [wr_id]; done))) | (with_reducible apply wm_f; focus (first | omega | (simp (disch := omega) only [wr_id]; omega) | (simp (disch := omega) only [wr_id]; done)))))
      refine wm_b (m_canTurn k3'.1 hC.1 k4' hx) (fun v3 L hL => ?_)
      obtain ⟨l1, l2⟩ := hL
      rw [Int.toNat_natCast] at l2
      rcases l2 with ⟨_, bad⟩ | ⟨rfl, _, a', j0, j1', hX2, g0, g1⟩
      · exact absurd z bad
      · have un0 : j0 = k0 := rOK_one hC.1 hX2.2.2.1.1 q3.1 (ct_at hX2).1 (ct_at hX).1
        have un1 : j1' = k1 := rOK_one hC.1 hX2.2.2.1.2 q3.2 (ct_at hX2).2 (ct_at hX).2
        rw [un0] at g0
        rw [un1] at g1
        have cL := cfM_frm l1 (fun a _ _ _ _ _ _ _ _ => by omega) (fun q => q) k3'
        have L4 : L 401 = ρ := (l1.1 401 (by decide) (by decide)).trans k4'
        (repeat (first | (with_reducible apply wm_o; focus (simp (disch := omega) only [wr_id, Int.toNat_natCast, Int.reduceToNat, tn_lk, tn_kl, if_pos, if_neg, ↓reduceIte, and_self, and_true, true_and]; with_reducible rfl)) | (with_reducible apply wm_q) | (with_reducible apply wm_c; focus (first | assumption | decide +kernel)) | (with_reducible apply wm_d; focus (simp (disch := omega) only [wr_id, Int.toNat_natCast, Int.reduceToNat, tn_lk, tn_kl, if_pos, if_neg, ↓reduceIte, and_self, and_true, true_and]; with_reducible rfl)) | (with_reducible apply wm_t; focus (first | omega | (simp (disch := omega) only [wr_id]; omega) | (simp (disch := omega) only [wr_id]; done))) | (with_reducible apply wm_f; focus (first | omega | (simp (disch := omega) only [wr_id]; omega) | (simp (disch := omega) only [wr_id]; done)))))
        refine wm_b (m_price cL hC.1 L4 hX g0 g1) (fun v5 N hN => ?_)
        obtain ⟨n1, n2⟩ := hN
        have cN := cfM_frm n2 (fun a _ _ _ _ _ _ _ _ => by omega) (by decide) cL
        have N4 : N 401 = ρ := (n2.1 401 (by decide) (by decide)).trans L4
        have N0 : N 403 0 = (k0 : Int) := by rw [n2.1 403 (by decide) (by decide)]; exact g0
        have N1 : N 403 1 = (k1 : Int) := by rw [n2.1 403 (by decide) (by decide)]; exact g1
        have e18 : (18 : Int) + (k0 : Int) = ((18 + k0 : Nat) : Int) := by omega
        have N18 : N 401 (18 + k0) = a := by rw [N4]; exact q8
        have ea : (1 : Int) - (1 - a) = a := by omega
        have U1 : up N 401 k0 (c : Int) 403 1 = (k1 : Int) := by rw [up_ne (by decide)]; exact N1
        have cU : mCfg (up N 401 k0 (c : Int)) lv w h n := mCfg_frm (by rw [up_ne (by decide)]) (up_ne (by decide)) (up_ne (by decide)) cN.1
        have hcn : c < n := by omega
        have hse : f_X12_secondCell 369 (c : Int) a (mm t d rt (up N 401 k0 (c : Int))) = some ((oN : Int), mm t d rt (up N 401 k0 (c : Int))) := by
          rcases hos with ⟨e1, _, rfl⟩ | ⟨e1, _, rfl⟩
          · rw [s_second0 cU hcn, if_pos q1.1, e1]
          · rw [s_second1 cU hcn, if_pos q1.2, e1]
        (repeat (first | (with_reducible apply wm_o; focus (simp (disch := omega) only [wr_id, Int.toNat_natCast, Int.reduceToNat, tn_lk, tn_kl, if_pos, if_neg, ↓reduceIte, and_self, and_true, true_and, FM, N0, e18, N18, U1, ea, hse]; with_reducible rfl)) | (with_reducible apply wm_q) | (with_reducible apply wm_c; focus (first | assumption | decide +kernel)) | (with_reducible apply wm_d; focus (simp (disch := omega) only [wr_id, Int.toNat_natCast, Int.reduceToNat, tn_lk, tn_kl, if_pos, if_neg, ↓reduceIte, and_self, and_true, true_and, FM, N0, e18, N18, U1, ea, hse]; with_reducible rfl)) | (with_reducible apply wm_t; focus (first | omega | (simp (disch := omega) only [wr_id, FM, N0, e18, N18, U1, ea, hse]; omega) | (simp (disch := omega) only [wr_id, FM, N0, e18, N18, U1, ea, hse]; done))) | (with_reducible apply wm_f; focus (first | omega | (simp (disch := omega) only [wr_id, FM, N0, e18, N18, U1, ea, hse]; omega) | (simp (disch := omega) only [wr_id, FM, N0, e18, N18, U1, ea, hse]; done)))))
        -- the two rows of the pair
        obtain ⟨R2, hR2⟩ : ∃ R2, R2 = rSet (rSet ρ k0 (c : Int)) k1 (oN : Int) := ⟨_, rfl⟩
        obtain ⟨R3, hR3⟩ : ∃ R3, R3 = rSet (rSet R2 (18 + k0) (1 - a)) (36 + k0) (R2 (36 + k0) + 1) := ⟨_, rfl⟩
        obtain ⟨R4, hR4⟩ : ∃ R4, R4 = rSet (rSet R3 (18 + k1) (1 - a)) (36 + k1) (R3 (36 + k1) + 1) := ⟨_, rfl⟩
        have f0 : frM (fun a => a = 401) (fun _ => False) N (up (up N 401 k0 (c : Int)) 401 k1 (oN : Int)) := frM_up (frM_up (frM_refl _ _ _) (by decide) rfl) (by decide) rfl
        refine wm_lp2 2 (fun i y P => y = (i : Int) ∧ frM (fun a => a = 401) (fun _ => False) N P ∧ ((i = 0 ∧ P 401 = R2) ∨ (i = 1 ∧ P 401 = R3) ∨ (i = 2 ∧ P 401 = R4))) ?_ (jfuel_n (by decide)) ⟨rfl, f0, Or.inl ⟨rfl, by rw [up_row, up_row, N4, hR2]⟩⟩
        rintro i hi y P' ⟨rfl, hP', hi3⟩ rec hrec
        have P0 : P' 403 0 = (k0 : Int) := by rw [hP'.1 403 (by decide) (by decide)]; exact N0
        have P1 : P' 403 1 = (k1 : Int) := by rw [hP'.1 403 (by decide) (by decide)]; exact N1
        have e180 : (18 : Int) + (k0 : Int) = ((18 + k0 : Nat) : Int) := by omega
        have e181 : (18 : Int) + (k1 : Int) = ((18 + k1 : Nat) : Int) := by omega
        have e360 : (36 : Int) + (k0 : Int) = ((36 + k0 : Nat) : Int) := by omega
        have e361 : (36 : Int) + (k1 : Int) = ((36 + k1 : Nat) : Int) := by omega
        rcases hi3 with ⟨rfl, hr2⟩ | ⟨rfl, hr3⟩ | ⟨rfl, hr4⟩
        · have w0 : up P' 401 (18 + k0) (1 - a) 403 0 = (k0 : Int) := by rw [up_ne (by decide)]; exact P0
          have w1 : up P' 401 (18 + k0) (1 - a) 401 (36 + k0) = R2 (36 + k0) := by rw [up_row, rSet_n (by omega), hr2]
          have e00 : ((0 : Nat) : Int) = 0 := rfl
          rw [e00]
          (repeat (first | (with_reducible apply wm_o; focus (simp (disch := omega) only [wr_id, Int.toNat_natCast, Int.reduceToNat, tn_lk, tn_kl, if_pos, if_neg, ↓reduceIte, and_self, and_true, true_and, FM, P0, e180, w0, e360, w1]; with_reducible rfl)) | (with_reducible apply wm_q) | (with_reducible apply wm_c; focus (first | assumption | decide +kernel)) | (with_reducible apply wm_d; focus (simp (disch := omega) only [wr_id, Int.toNat_natCast, Int.reduceToNat, tn_lk, tn_kl, if_pos, if_neg, ↓reduceIte, and_self, and_true, true_and, FM, P0, e180, w0, e360, w1]; with_reducible rfl)) | (with_reducible apply wm_t; focus (first | omega | (simp (disch := omega) only [wr_id, FM, P0, e180, w0, e360, w1]; omega) | (simp (disch := omega) only [wr_id, FM, P0, e180, w0, e360, w1]; done))) | (with_reducible apply wm_f; focus (first | omega | (simp (disch := omega) only [wr_id, FM, P0, e180, w0, e360, w1]; omega) | (simp (disch := omega) only [wr_id, FM, P0, e180, w0, e360, w1]; done)))))
          refine hrec 1 _ _ (by omega) (by omega) ⟨rfl, frM_up (frM_up hP' (by decide) rfl) (by decide) rfl, Or.inr (Or.inl ⟨rfl, ?_⟩)⟩
          rw [up_row, up_row, hr2, hR3]
        · have w0 : up P' 401 (18 + k1) (1 - a) 403 1 = (k1 : Int) := by rw [up_ne (by decide)]; exact P1
          have w1 : up P' 401 (18 + k1) (1 - a) 401 (36 + k1) = R3 (36 + k1) := by rw [up_row, rSet_n (by omega), hr3]
          have e11 : ((1 : Nat) : Int) = 1 := rfl
          rw [e11]
          (repeat (first | (with_reducible apply wm_o; focus (simp (disch := omega) only [wr_id, Int.toNat_natCast, Int.reduceToNat, tn_lk, tn_kl, if_pos, if_neg, ↓reduceIte, and_self, and_true, true_and, FM, P1, e181, w0, e361, w1]; with_reducible rfl)) | (with_reducible apply wm_q) | (with_reducible apply wm_c; focus (first | assumption | decide +kernel)) | (with_reducible apply wm_d; focus (simp (disch := omega) only [wr_id, Int.toNat_natCast, Int.reduceToNat, tn_lk, tn_kl, if_pos, if_neg, ↓reduceIte, and_self, and_true, true_and, FM, P1, e181, w0, e361, w1]; with_reducible rfl)) | (with_reducible apply wm_t; focus (first | omega | (simp (disch := omega) only [wr_id, FM, P1, e181, w0, e361, w1]; omega) | (simp (disch := omega) only [wr_id, FM, P1, e181, w0, e361, w1]; done))) | (with_reducible apply wm_f; focus (first | omega | (simp (disch := omega) only [wr_id, FM, P1, e181, w0, e361, w1]; omega) | (simp (disch := omega) only [wr_id, FM, P1, e181, w0, e361, w1]; done)))))
          refine hrec 2 _ _ (by omega) (by omega) ⟨rfl, frM_up (frM_up hP' (by decide) rfl) (by decide) rfl, Or.inr (Or.inr ⟨rfl, ?_⟩)⟩
          rw [up_row, up_row, hr3, hR4]
        · have w73 : P' 401 73 = ρ 73 := by rw [hr4, hR4, hR3, hR2]; simp (disch := omega) only [rSet_n]
          (repeat (first | (with_reducible apply wm_o; focus (simp (disch := omega) only [wr_id, Int.toNat_natCast, Int.reduceToNat, tn_lk, tn_kl, if_pos, if_neg, ↓reduceIte, and_self, and_true, true_and, FM, w73]; with_reducible rfl)) | (with_reducible apply wm_q) | (with_reducible apply wm_c; focus (first | assumption | decide +kernel)) | (with_reducible apply wm_d; focus (simp (disch := omega) only [wr_id, Int.toNat_natCast, Int.reduceToNat, tn_lk, tn_kl, if_pos, if_neg, ↓reduceIte, and_self, and_true, true_and, FM, w73]; with_reducible rfl)) | (with_reducible apply wm_t; focus (first | omega | (simp (disch := omega) only [wr_id, FM, w73]; omega) | (simp (disch := omega) only [wr_id, FM, w73]; done))) | (with_reducible apply wm_f; focus (first | omega | (simp (disch := omega) only [wr_id, FM, w73]; omega) | (simp (disch := omega) only [wr_id, FM, w73]; done)))))
          have rowE : up P' 401 73 (ρ 73 + v5) 401 = trR (rSet ρ 73 (ρ 73 + v5)) k0 k1 (oN : Int) (1 - a) := by
            rw [up_row, hr4]
            funext j
            rw [trR_at q3.1 q3.2 t1]
            by_cases j1 : j = k1
            · rw [if_pos j1, j1, rSet_n (by omega), hR4, rSet_n (by omega), rSet_n (by omega), hR3, rSet_n (by omega), rSet_n (by omega), hR2, rSet_s]
            · rw [if_neg j1]
              by_cases j2 : j = 18 + k0 ∨ j = 18 + k1
              · rw [if_pos j2, rSet_n (by omega)]
                rcases j2 with rfl | rfl
                · rw [hR4, rSet_n (by omega), rSet_n (by omega), hR3, rSet_n (by omega), rSet_s]
                · rw [hR4, rSet_n (by omega), rSet_s]
              · rw [if_neg j2]
                by_cases j3 : j = 36 + k0 ∨ j = 36 + k1
                · rw [if_pos j3, rSet_n (by omega)]
                  rcases j3 with rfl | rfl
                  · rw [hR4, rSet_n (by omega), rSet_n (by omega), hR3, rSet_s, hR2, rSet_n (by omega), rSet_n (by omega), rSet_n (by omega)]
                  · rw [hR4, rSet_s, hR3, rSet_n (by omega), rSet_n (by omega), hR2, rSet_n (by omega), rSet_n (by omega), rSet_n (by omega)]
                · rw [if_neg j3]
                  by_cases j4 : j = 73
                  · rw [j4, rSet_s, rSet_s]
                  · rw [rSet_n j4, rSet_n j4, hR4, rSet_n (by omega), rSet_n (by omega), hR3, rSet_n (by omega), rSet_n (by omega), hR2, rSet_n j1]
                    by_cases j5 : j = k0
                    · rw [j5, rSet_s]; exact q6.symm
                    · rw [rSet_n j5]
          have hzr : ∀ j, 75 ≤ j → trR (rSet ρ 73 (ρ 73 + v5)) k0 k1 (oN : Int) (1 - a) j = 0 := fun j hj => by
            rw [trR_at q3.1 q3.2 t1, if_neg (by omega), if_neg (by omega), if_neg (by omega), rSet_n (by omega)]
            exact hM.2.1 j hj
          have fP' : frM scrM scrF Q2 (up P' 401 73 (ρ 73 + v5)) := frM_up (frM_trans k1' (frM_trans (frM_f l1 (fun a ha => by unfold scrM; omega)) (frM_trans (frM_sub n2 (fun a ha => by unfold scrM; omega) (fun a ha => by unfold scrF; omega)) (frM_f hP' (fun a ha => by unfold scrM; omega))))) (by decide) (by unfold scrM; omega)
          refine wm_b (m_rec (stM_q fP' hMJ) rowE hzr) (fun v8 P2 hP2 => ?_)
          obtain ⟨r1, r2⟩ := hP2
          have zP : zM (up P' 401 73 (ρ 73 + v5)) := by
            refine ⟨by rw [rowE]; exact hzr, ?_, ?_⟩
            · unfold b01; rw [up_ne (by decide), hP'.1 409 (by decide) (by decide), n2.1 409 (by decide) (by decide), l1.1 409 (by decide) (by decide)]; exact k2'.2.1
            · unfold b01; rw [up_ne (by decide), hP'.1 410 (by decide) (by decide), n2.1 410 (by decide) (by decide), l1.1 410 (by decide) (by decide)]; exact k2'.2.2
          have hv5 : jd_wr (ρ 73 + v5) = jd_wr (ρ 73 + prV ifs xs w nh ρ c) := by rw [wr_add, n1, wr_add (ρ 73), wr_id (x := prV ifs xs w nh ρ c) (by omega) (by omega)]
          refine wm_r ⟨by rw [p1, n1], INV_s hR fin (frM_trans (frM_sub fP' (fun a ha => Or.inl ha) (fun a ha => Or.inl ha)) (frM_sub r1 (fun a ha => Or.inr ha) (fun a ha => Or.inr ha))) (zM_st zP r1) (hC3 _ hv5) r2⟩
    have ew1 : (c : Int) + 1 = ((c + 1 : Nat) : Int) := by omega
    have eww : (c : Int) + (w : Int) = ((c + w : Nat) : Int) := by omega
    rcases hos with ⟨e1, e2, rfl⟩ | ⟨e1, e2, rfl⟩
    · rw [e1, ← ew1] at u2
      have o3' : P 36 k0 = 1 := o3
      (repeat (first | (with_reducible apply wm_o; focus (simp (disch := omega) only [wr_id, Int.toNat_natCast, Int.reduceToNat, tn_lk, tn_kl, if_pos, if_neg, ↓reduceIte, and_self, and_true, true_and, FX, FState now_in]; with_reducible rfl)) | (with_reducible apply wm_q) | (with_reducible apply wm_c; focus (first | assumption | decide +kernel)) | (with_reducible apply wm_d; focus (simp (disch := omega) only [wr_id, Int.toNat_natCast, Int.reduceToNat, tn_lk, tn_kl, if_pos, if_neg, ↓reduceIte, and_self, and_true, true_and, FX, FState now_in]; with_reducible rfl)) | (with_reducible apply wm_t; focus (first | omega | (simp (disch := omega) only [wr_id, FX, FState now_in]; omega) | (simp (disch := omega) only [wr_id, FX, FState now_in]; done))) | (with_reducible apply wm_f; focus (first | omega | (simp (disch := omega) only [wr_id, FX, FState now_in]; omega) | (simp (disch := omega) only [wr_id, FX, FState now_in]; done)))))
      rw [← hPd]
      have ei2 : (c : Int) + 1 + (w : Int) = ((c + w + 1 : Nat) : Int) := by omega
      (repeat (first | (with_reducible apply wm_o; focus (simp (disch := omega) only [wr_id, Int.toNat_natCast, Int.reduceToNat, tn_lk, tn_kl, if_pos, if_neg, ↓reduceIte, and_self, and_true, true_and, FX, FState now_in, FText htx, o1, o2, o3', o4, ei, u1, u2, tQ]; with_reducible rfl)) | (with_reducible apply wm_q) | (with_reducible apply wm_c; focus (first | assumption | decide +kernel)) | (with_reducible apply wm_d; focus (simp (disch := omega) only [wr_id, Int.toNat_natCast, Int.reduceToNat, tn_lk, tn_kl, if_pos, if_neg, ↓reduceIte, and_self, and_true, true_and, FX, FState now_in, FText htx, o1, o2, o3', o4, ei, u1, u2, tQ]; with_reducible rfl)) | (with_reducible apply wm_t; focus (first | omega | (simp (disch := omega) only [wr_id, FX, FState now_in, FText htx, o1, o2, o3', o4, ei, u1, u2, tQ]; omega) | (simp (disch := omega) only [wr_id, FX, FState now_in, FText htx, o1, o2, o3', o4, ei, u1, u2, tQ]; done))) | (with_reducible apply wm_f; focus (first | omega | (simp (disch := omega) only [wr_id, FX, FState now_in, FText htx, o1, o2, o3', o4, ei, u1, u2, tQ]; omega) | (simp (disch := omega) only [wr_id, FX, FState now_in, FText htx, o1, o2, o3', o4, ei, u1, u2, tQ]; done)))))
      exact wm_r mdl
    · rw [e1, ← eww] at u2
      have o3' : P 36 k0 = 0 := o3
      (repeat (first | (with_reducible apply wm_o; focus (simp (disch := omega) only [wr_id, Int.toNat_natCast, Int.reduceToNat, tn_lk, tn_kl, if_pos, if_neg, ↓reduceIte, and_self, and_true, true_and, FX, FState now_in]; with_reducible rfl)) | (with_reducible apply wm_q) | (with_reducible apply wm_c; focus (first | assumption | decide +kernel)) | (with_reducible apply wm_d; focus (simp (disch := omega) only [wr_id, Int.toNat_natCast, Int.reduceToNat, tn_lk, tn_kl, if_pos, if_neg, ↓reduceIte, and_self, and_true, true_and, FX, FState now_in]; with_reducible rfl)) | (with_reducible apply wm_t; focus (first | omega | (simp (disch := omega) only [wr_id, FX, FState now_in]; omega) | (simp (disch := omega) only [wr_id, FX, FState now_in]; done))) | (with_reducible apply wm_f; focus (first | omega | (simp (disch := omega) only [wr_id, FX, FState now_in]; omega) | (simp (disch := omega) only [wr_id, FX, FState now_in]; done)))))
      rw [← hPd]
      (repeat (first | (with_reducible apply wm_o; focus (simp (disch := omega) only [wr_id, Int.toNat_natCast, Int.reduceToNat, tn_lk, tn_kl, if_pos, if_neg, ↓reduceIte, and_self, and_true, true_and, FX, FState now_in, FText htx, o1, o2, o3', o4, ei, u1, u2, tQ]; with_reducible rfl)) | (with_reducible apply wm_q) | (with_reducible apply wm_c; focus (first | assumption | decide +kernel)) | (with_reducible apply wm_d; focus (simp (disch := omega) only [wr_id, Int.toNat_natCast, Int.reduceToNat, tn_lk, tn_kl, if_pos, if_neg, ↓reduceIte, and_self, and_true, true_and, FX, FState now_in, FText htx, o1, o2, o3', o4, ei, u1, u2, tQ]; with_reducible rfl)) | (with_reducible apply wm_t; focus (first | omega | (simp (disch := omega) only [wr_id, FX, FState now_in, FText htx, o1, o2, o3', o4, ei, u1, u2, tQ]; omega) | (simp (disch := omega) only [wr_id, FX, FState now_in, FText htx, o1, o2, o3', o4, ei, u1, u2, tQ]; done))) | (with_reducible apply wm_f; focus (first | omega | (simp (disch := omega) only [wr_id, FX, FState now_in, FText htx, o1, o2, o3', o4, ei, u1, u2, tQ]; omega) | (simp (disch := omega) only [wr_id, FX, FState now_in, FText htx, o1, o2, o3', o4, ei, u1, u2, tQ]; done)))))
      exact wm_r mdl
  · rw [if_neg z] at hct
    (repeat (first | (with_reducible apply wm_o; focus (simp (disch := omega) only [wr_id, Int.toNat_natCast, Int.reduceToNat, tn_lk, tn_kl, if_pos, if_neg, ↓reduceIte, and_self, and_true, true_and, FX, hct]; with_reducible rfl)) | (with_reducible apply wm_q) | (with_reducible apply wm_c; focus (first | assumption | decide +kernel)) | (with_reducible apply wm_d; focus (simp (disch := omega) only [wr_id, Int.toNat_natCast, Int.reduceToNat, tn_lk, tn_kl, if_pos, if_neg, ↓reduceIte, and_self, and_true, true_and, FX, hct]; with_reducible rfl)) | (with_reducible apply wm_t; focus (first | omega | (simp (disch := omega) only [wr_id, FX, hct]; omega) | (simp (disch := omega) only [wr_id, FX, hct]; done))) | (with_reducible apply wm_f; focus (first | omega | (simp (disch := omega) only [wr_id, FX, hct]; omega) | (simp (disch := omega) only [wr_id, FX, hct]; done)))))
    refine wm_r ?_
    show wm t d rt (f_X12_turn 369 x (mm t d rt I)) _
    unfold f_X12_turn
    (repeat (first | (with_reducible apply wm_o; focus (simp (disch := omega) only [wr_id, Int.toNat_natCast, Int.reduceToNat, tn_lk, tn_kl, if_pos, if_neg, ↓reduceIte, and_self, and_true, true_and]; with_reducible rfl)) | (with_reducible apply wm_q) | (with_reducible apply wm_c; focus (first | assumption | decide +kernel)) | (with_reducible apply wm_d; focus (simp (disch := omega) only [wr_id, Int.toNat_natCast, Int.reduceToNat, tn_lk, tn_kl, if_pos, if_neg, ↓reduceIte, and_self, and_true, true_and]; with_reducible rfl)) | (with_reducible apply wm_t; focus (first | omega | (simp (disch := omega) only [wr_id]; omega) | (simp (disch := omega) only [wr_id]; done))) | (with_reducible apply wm_f; focus (first | omega | (simp (disch := omega) only [wr_id]; omega) | (simp (disch := omega) only [wr_id]; done)))))
    refine wm_b (m_cop hmf hz hM.1 hM.2.1) (fun v' K hK => ?_)
    obtain ⟨k1, k2, k3, k4, k5⟩ := hK
    (repeat (first | (with_reducible apply wm_o; focus (simp (disch := omega) only [wr_id, Int.toNat_natCast, Int.reduceToNat, tn_lk, tn_kl, if_pos, if_neg, ↓reduceIte, and_self, and_true, true_and]; with_reducible rfl)) | (with_reducible apply wm_q) | (with_reducible apply wm_c; focus (first | assumption | decide +kernel)) | (with_reducible apply wm_d; focus (simp (disch := omega) only [wr_id, Int.toNat_natCast, Int.reduceToNat, tn_lk, tn_kl, if_pos, if_neg, ↓reduceIte, and_self, and_true, true_and]; with_reducible rfl)) | (with_reducible apply wm_t; focus (first | omega | (simp (disch := omega) only [wr_id]; omega) | (simp (disch := omega) only [wr_id]; done))) | (with_reducible apply wm_f; focus (first | omega | (simp (disch := omega) only [wr_id]; omega) | (simp (disch := omega) only [wr_id]; done)))))
    refine wm_b (m_canTurn k3.1 hC.1 k4 hx) (fun v3 L hL => ?_)
    obtain ⟨l1, l2⟩ := hL
    rcases l2 with ⟨rfl, _⟩ | ⟨rfl, q, a, k0, k1', hX, _, _⟩
    · (repeat (first | (with_reducible apply wm_o; focus (simp (disch := omega) only [wr_id, Int.toNat_natCast, Int.reduceToNat, tn_lk, tn_kl, if_pos, if_neg, ↓reduceIte, and_self, and_true, true_and]; with_reducible rfl)) | (with_reducible apply wm_q) | (with_reducible apply wm_c; focus (first | assumption | decide +kernel)) | (with_reducible apply wm_d; focus (simp (disch := omega) only [wr_id, Int.toNat_natCast, Int.reduceToNat, tn_lk, tn_kl, if_pos, if_neg, ↓reduceIte, and_self, and_true, true_and]; with_reducible rfl)) | (with_reducible apply wm_t; focus (first | omega | (simp (disch := omega) only [wr_id]; omega) | (simp (disch := omega) only [wr_id]; done))) | (with_reducible apply wm_f; focus (first | omega | (simp (disch := omega) only [wr_id]; omega) | (simp (disch := omega) only [wr_id]; done)))))
      exact wm_r ⟨rfl, INV_q hR hC hM (frm_refl _ _) (frM_trans k1 (frM_f l1 (fun a ha => by unfold scrM; omega))) (zM_fr k2 l1 (by decide) (by decide) (by decide))⟩
    · exact absurd ⟨q, (ct_iff hC.1).mpr ⟨a, k0, k1', hX⟩⟩ z
end TV
