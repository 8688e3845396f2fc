/-! ===== calls: turn ===== -/
/-- the row once k0, k1 are turned: k1 now begins at o, both lie b -/
def trR (ρ : Nat → Int) (k0 k1 : Nat) (o b : Int) : Nat → Int := rSet (rSet (rSet (rSet (rSet ρ k1 o) (18 + k0) b) (36 + k0) (ρ (36 + k0) + 1)) (18 + k1) b) (36 + k1) (ρ (36 + k1) + 1)
section TT
variable {t d rt : Nat} {I J K : Nat → Nat → Int} {lv w h n nh r : Nat} {hl cl na nd U : Nat → Bool} {sd : Int} {ifs : Nat → List LwI} {xs : Nat → List CI} {ρ : Nat → Int} {u : Nat} {H : Nat → Nat → Int} {hd : Nat → Bool} {G : Nat → Nat → Int} {k0 k1 : Nat} {o b : Int}
theorem trR_at (h0 : k0 < 18) (h1 : k1 < 18) (hne : k0 ≠ k1) (j : Nat) : trR ρ k0 k1 o b j = if j = k1 then o else if j = 18 + k0 ∨ j = 18 + k1 then b else if j = 36 + k0 ∨ j = 36 + k1 then ρ j + 1 else ρ j := by
  unfold trR
  by_cases e1 : j = 36 + k1
  · rw [e1, rSet_s, if_neg (by omega), if_neg (by omega), if_pos (by omega)]
  · rw [rSet_n e1]
    by_cases e2 : j = 18 + k1
    · rw [e2, rSet_s, if_neg (by omega), if_pos (by omega)]
    · rw [rSet_n e2]
      by_cases e3 : j = 36 + k0
      · rw [e3, rSet_s, if_neg (by omega), if_neg (by omega), if_pos (by omega)]
      · rw [rSet_n e3]
        by_cases e4 : j = 18 + k0
        · rw [e4, rSet_s, if_neg (by omega), if_pos (by omega)]
        · rw [rSet_n e4]
          by_cases e5 : j = k1
          · rw [e5, rSet_s, if_pos rfl]
          · rw [rSet_n e5, if_neg e5, if_neg (by omega), if_neg (by omega)]
/-- the turned pair: what lies is sound -/
theorem tr_ok (sq : sqOK w h n nh hl) (hr : rOK w n hl ρ) {c : Nat} {a : Int} (hX : ctX w n ρ c a k0 k1) (ho : o = if a = 0 then (c : Int) + 1 else (c : Int) + w) (hb : b = 1 - a) : k0 ≠ k1 ∧ rOK w n hl (trR ρ k0 k1 o b) ∧ (rOth w (trR ρ k0 k1 o b) k0 = if a = 0 then (c : Int) + w else (c : Int) + 1) ∧ rOth w (trR ρ k0 k1 o b) k1 = (c : Int) + w + 1 ∧ c + w + 1 < n := by
  obtain ⟨q1, q2, q3, q4, q5, q6, q7, q8, q9⟩ := hX
  have hw : 2 ≤ w ∧ w ≤ 6 := ⟨sq.1, sq.2.1⟩
  have hn := sq.2.2.2.2.2.2.1
  have hnw := sq.2.2.2.2.1
  have hc1 : c + w + 1 < n := hr_of (w := w) (h := h) (by omega) hnw (c + w) (by rw [Nat.add_mod_right]; exact q1.1) q1.2
  have hne : k0 ≠ k1 := fun e => by
    subst e
    rw [q6] at q7
    rcases q2 with rfl | rfl
    · rw [if_pos rfl] at q7; omega
    · rw [if_neg (by decide)] at q7; omega
  have at' := trR_at (ρ := ρ) (o := o) (b := b) q3.1 q3.2 hne
  have v0 : trR ρ k0 k1 o b k0 = (c : Int) := by rw [at', if_neg hne, if_neg (by omega), if_neg (by omega)]; exact q6
  have v1 : trR ρ k0 k1 o b k1 = o := by rw [at', if_pos rfl]
  have v2 : trR ρ k0 k1 o b (18 + k0) = b := by rw [at', if_neg (by omega), if_pos (Or.inl rfl)]
  have v3 : trR ρ k0 k1 o b (18 + k1) = b := by rw [at', if_neg (by omega), if_pos (Or.inr rfl)]
  have oth0 : rOth w (trR ρ k0 k1 o b) k0 = if a = 0 then (c : Int) + w else (c : Int) + 1 := by
    unfold rOth
    rw [v0, v2]
    rcases q2 with rfl | rfl
    · rw [if_pos (by omega), if_pos rfl]
    · rw [if_neg (by omega), if_neg (by decide)]
  have oth1 : rOth w (trR ρ k0 k1 o b) k1 = (c : Int) + w + 1 := by
    unfold rOth
    rw [v1, v3, ho]
    rcases q2 with rfl | rfl
    · rw [if_pos rfl, if_pos (by omega)]; omega
    · rw [if_neg (by decide), if_neg (by omega)]
  -- the old other cells
  have x0 : rOth w ρ k0 = if a = 0 then (c : Int) + 1 else (c : Int) + w := by
    unfold rOth
    rw [q6, q8]
    rcases q2 with rfl | rfl
    · rw [if_neg (by decide), if_pos rfl]
    · rw [if_pos rfl, if_neg (by decide)]
  have x1 : rOth w ρ k1 = (c : Int) + w + 1 := by
    unfold rOth
    rw [q7, q9]
    rcases q2 with rfl | rfl
    · rw [if_pos rfl, if_neg (by decide)]
    · rw [if_neg (by decide), if_pos rfl]; omega
  have r0 := (hr.1 k0 q3.1).resolve_left (by omega)
  have r1 := (hr.1 k1 q3.2).resolve_left (by omega)
  have hlc : hl c = false := by have := r0.2.2.2.1; rw [q6, Int.toNat_natCast] at this; exact this
  have hl1 : hl (c + w + 1) = false := by
    have := r1.2.2.2.2
    rw [x1, show (c : Int) + (w : Int) + 1 = ((c + w + 1 : Nat) : Int) by omega, Int.toNat_natCast] at this; exact this
  have hlw : hl (c + w) = false ∧ hl (c + 1) = false := by
    have g0 := r0.2.2.2.2
    have g1 := r1.2.2.2.1
    rw [x0] at g0
    rw [q7] at g1
    rcases q2 with rfl | rfl
    · rw [if_pos rfl] at g0 g1
      rw [show (c : Int) + 1 = ((c + 1 : Nat) : Int) by omega, Int.toNat_natCast] at g0
      rw [show (c : Int) + (w : Int) = ((c + w : Nat) : Int) by omega, Int.toNat_natCast] at g1
      exact ⟨g1, g0⟩
    · rw [if_neg (by decide)] at g0 g1
      rw [show (c : Int) + (w : Int) = ((c + w : Nat) : Int) by omega, Int.toNat_natCast] at g0
      rw [show (c : Int) + 1 = ((c + 1 : Nat) : Int) by omega, Int.toNat_natCast] at g1
      exact ⟨g0, g1⟩
  have othj : ∀ j, j < 18 → j ≠ k0 → j ≠ k1 → trR ρ k0 k1 o b j = ρ j ∧ trR ρ k0 k1 o b (18 + j) = ρ (18 + j) ∧ trR ρ k0 k1 o b (36 + j) = ρ (36 + j) ∧ trR ρ k0 k1 o b (54 + j) = ρ (54 + j) ∧ rOth w (trR ρ k0 k1 o b) j = rOth w ρ j := fun j hj e0 e1 => by
    have a1 : trR ρ k0 k1 o b j = ρ j := by rw [at', if_neg e1, if_neg (by omega), if_neg (by omega)]
    have a2 : trR ρ k0 k1 o b (18 + j) = ρ (18 + j) := by rw [at', if_neg (by omega), if_neg (by omega), if_neg (by omega)]
    refine ⟨a1, a2, by rw [at', if_neg (by omega), if_neg (by omega), if_neg (by omega)], by rw [at', if_neg (by omega), if_neg (by omega), if_neg (by omega)], ?_⟩
    unfold rOth
    rw [a1, a2]
  -- other couples keep off the four cells
  have off : ∀ j, j < 18 → j ≠ k0 → j ≠ k1 → 0 ≤ ρ j → ∀ y : Int, (y = ρ j ∨ y = rOth w ρ j) → y ≠ (c : Int) ∧ y ≠ (c : Int) + 1 ∧ y ≠ (c : Int) + w ∧ y ≠ (c : Int) + w + 1 := fun j hj e0 e1 g y hy => by
    have d0 := hr.2 j k0 hj q3.1 e0 g q4
    have d1 := hr.2 j k1 hj q3.2 e1 g q5
    rw [q6, x0] at d0
    rw [q7, x1] at d1
    rcases q2 with rfl | rfl
    · rw [if_pos rfl] at d0 d1
      rcases hy with rfl | rfl
      · exact ⟨d0.1, d0.2.1, d1.1, d1.2.1⟩
      · exact ⟨d0.2.2.1, d0.2.2.2, d1.2.2.1, d1.2.2.2⟩
    · rw [if_neg (by decide)] at d0 d1
      rcases hy with rfl | rfl
      · exact ⟨d0.1, d1.1, d0.2.1, d1.2.1⟩
      · exact ⟨d0.2.2.1, d1.2.2.1, d0.2.2.2, d1.2.2.2⟩
  refine ⟨hne, ⟨fun j hj => ?_, fun i j hi hj e g1 g2 => ?_⟩, oth0, oth1, hc1⟩
  · by_cases e0 : j = k0
    · rw [e0]
      refine Or.inr ⟨by rw [v0]; omega, by rw [v0]; omega, ?_, by rw [v0, Int.toNat_natCast]; exact hlc, ?_⟩
      · rw [v0, v2, Int.toNat_natCast]
        rcases q2 with rfl | rfl
        · exact Or.inr ⟨by omega, by omega⟩
        · exact Or.inl ⟨by omega, q1.1⟩
      · rw [oth0]
        rcases q2 with rfl | rfl
        · rw [if_pos rfl, show (c : Int) + (w : Int) = ((c + w : Nat) : Int) by omega, Int.toNat_natCast]; exact hlw.1
        · rw [if_neg (by decide), show (c : Int) + 1 = ((c + 1 : Nat) : Int) by omega, Int.toNat_natCast]; exact hlw.2
    · by_cases e1 : j = k1
      · rw [e1]
        refine Or.inr ⟨by rw [v1, ho]; split <;> omega, by rw [v1, ho]; split <;> omega, ?_, ?_, ?_⟩
        · rw [v1, v3, ho]
          rcases q2 with rfl | rfl
          · rw [if_pos rfl]
            exact Or.inr ⟨by omega, by omega⟩
          · rw [if_neg (by decide), show ((c : Int) + (w : Int)).toNat = c + w by omega, Nat.add_mod_right]
            exact Or.inl ⟨by omega, q1.1⟩
        · rw [v1, ho]
          rcases q2 with rfl | rfl
          · rw [if_pos rfl, show (c : Int) + 1 = ((c + 1 : Nat) : Int) by omega, Int.toNat_natCast]; exact hlw.2
          · rw [if_neg (by decide), show (c : Int) + (w : Int) = ((c + w : Nat) : Int) by omega, Int.toNat_natCast]; exact hlw.1
        · rw [oth1, show (c : Int) + (w : Int) + 1 = ((c + w + 1 : Nat) : Int) by omega, Int.toNat_natCast]; exact hl1
      · obtain ⟨a1, a2, a3, a4, a5⟩ := othj j hj e0 e1
        rw [a1, a2, a3, a4, a5]
        exact hr.1 j hj
  · -- the four cells of the pair against all
    have four : ∀ j, j < 18 → (j = k0 ∨ j = k1) → (trR ρ k0 k1 o b j = (c : Int) ∨ trR ρ k0 k1 o b j = (c : Int) + 1 ∨ trR ρ k0 k1 o b j = (c : Int) + w) ∧ (rOth w (trR ρ k0 k1 o b) j = (c : Int) + 1 ∨ rOth w (trR ρ k0 k1 o b) j = (c : Int) + w ∨ rOth w (trR ρ k0 k1 o b) j = (c : Int) + w + 1) := fun j hj ej => by
      rcases ej with rfl | rfl
      · rw [v0, oth0]
        rcases q2 with rfl | rfl
        · rw [if_pos rfl]; omega
        · rw [if_neg (by decide)]; omega
      · rw [v1, oth1, ho]
        rcases q2 with rfl | rfl
        · rw [if_pos rfl]; omega
        · rw [if_neg (by decide)]; omega
    have mixed : ∀ i j, i < 18 → j < 18 → (i = k0 ∨ i = k1) → j ≠ k0 → j ≠ k1 → 0 ≤ trR ρ k0 k1 o b j → trR ρ k0 k1 o b i ≠ trR ρ k0 k1 o b j ∧ trR ρ k0 k1 o b i ≠ rOth w (trR ρ k0 k1 o b) j ∧ rOth w (trR ρ k0 k1 o b) i ≠ trR ρ k0 k1 o b j ∧ rOth w (trR ρ k0 k1 o b) i ≠ rOth w (trR ρ k0 k1 o b) j := fun i j hi hj ei e0 e1 g => by
      obtain ⟨a1, a2, a3, a4, a5⟩ := othj j hj e0 e1
      rw [a1] at g
      rw [a1, a5]
      have f1 := four i hi ei
      have o1 := off j hj e0 e1 g (ρ j) (Or.inl rfl)
      have o2 := off j hj e0 e1 g (rOth w ρ j) (Or.inr rfl)
      omega
    by_cases ei : i = k0 ∨ i = k1
    · by_cases ej : j = k0 ∨ j = k1
      · -- k0 against k1
        have pr : ((c : Int) ≠ o ∧ (c : Int) ≠ (c : Int) + w + 1) ∧ ((if a = 0 then (c : Int) + w else (c : Int) + 1) ≠ o ∧ (if a = 0 then (c : Int) + w else (c : Int) + 1) ≠ (c : Int) + w + 1) := by
          rw [ho]
          rcases q2 with rfl | rfl
          · rw [if_pos rfl, if_pos rfl]; omega
          · rw [if_neg (by decide), if_neg (by decide)]; omega
        rcases ei with rfl | rfl
        · rcases ej with rfl | rfl
          · exact absurd rfl e
          · rw [v0, v1, oth0, oth1]
            exact ⟨pr.1.1, pr.1.2, pr.2.1, pr.2.2⟩
        · rcases ej with rfl | rfl
          · rw [v0, v1, oth0, oth1]
            exact ⟨fun k => pr.1.1 k.symm, fun k => pr.2.1 k.symm, fun k => pr.1.2 k.symm, fun k => pr.2.2 k.symm⟩
          · exact absurd rfl e
      · exact mixed i j hi hj ei (fun k => ej (Or.inl k)) (fun k => ej (Or.inr k)) g2
    · by_cases ej : j = k0 ∨ j = k1
      · have := mixed j i hj hi ej (fun k => ei (Or.inl k)) (fun k => ei (Or.inr k)) g1
        exact ⟨fun k => this.1 k.symm, fun k => this.2.2.1 k.symm, fun k => this.2.1 k.symm, fun k => this.2.2.2 k.symm⟩
      · obtain ⟨a1, a2, a3, a4, a5⟩ := othj i hi (fun k => ei (Or.inl k)) (fun k => ei (Or.inr k))
        obtain ⟨b1, b2, b3, b4, b5⟩ := othj j hj (fun k => ej (Or.inl k)) (fun k => ej (Or.inr k))
        rw [a1] at g1
        rw [b1] at g2
        rw [a1, a5, b1, b5]
        exact hr.2 i j hi hj e g1 g2
theorem q_turnTo {k c : Nat} {f : Int} {s : Nat} (hk : k < 18) (hf : (f = 1 ∧ s = c + 1) ∨ (f = 0 ∧ s = c + w)) (h5 : I 34 5 = (w : Int)) (hs : s < 36) (hc : c < 36) (hw : w ≤ 6) : f_X6_turnTo 34 (k : Int) (c : Int) f (mm t d rt I) = some (0, mm t d rt (up (up (up (up (up I 35 k (c : Int)) 36 k f) 39 c (k : Int)) 39 s (k : Int)) 37 k (I 37 k + 1))) := by
  have k6 : (K0 34).1 = 6 ∧ 34 < 418 := by decide +kernel
  have jf : jd_z f = f := by
    rcases hf with ⟨rfl, _⟩ | ⟨rfl, _⟩
    · exact jdz1
    · exact jdz0
  obtain ⟨L, hL⟩ : ∃ L, L = up (up (up I 35 k (c : Int)) 36 k f) 39 c (k : Int) := ⟨_, rfl⟩
  have e2 : L 36 k = f := by rw [hL, up_ne (by decide), up_g, if_pos rfl]
  have e1 : L 35 k = (c : Int) := by rw [hL, up_ne (by decide), up_ne (by decide), up_g, if_pos rfl]
  have e5 : L 34 5 = (w : Int) := by rw [hL, up_ne (by decide), up_ne (by decide), up_ne (by decide)]; exact h5
  have hse := q_second (t := t) (d := d) (rt := rt) (s := 34) (I := L) now_in hk (by rw [e2]; rcases hf with ⟨q, _⟩ | ⟨q, _⟩ <;> omega)
  rw [e1, e2, e5] at hse
  have ev : (c : Int) + (if f = 0 then (w : Int) else 1) = (s : Int) := by
    rcases hf with ⟨rfl, q⟩ | ⟨rfl, q⟩
    · rw [if_neg (by decide)]; omega
    · rw [if_pos rfl]; omega
  rw [ev] at hse
  have occ : f_X6_occupy 34 (k : Int) (c : Int) f (mm t d rt I) = some (0, mm t d rt (up L 39 s (k : Int))) := by
    refine wm_eq ?_
    unfold f_X6_occupy
    (repeat (first | (with_reducible apply wm_o; focus (simp (disch := omega) only [wr_id, Int.toNat_natCast, Int.reduceToNat, tn_lk, tn_kl, if_pos, if_neg, ↓reduceIte, and_self, and_true, true_and, FState now_in, jf]; with_reducible rfl)) | (with_reducible apply wm_q) | (with_reducible apply wm_c; focus (first | assumption | decide +kernel)) | (with_reducible apply wm_d; focus (simp (disch := omega) only [wr_id, Int.toNat_natCast, Int.reduceToNat, tn_lk, tn_kl, if_pos, if_neg, ↓reduceIte, and_self, and_true, true_and, FState now_in, jf]; with_reducible rfl)) | (with_reducible apply wm_t; focus (first | omega | (simp (disch := omega) only [wr_id, FState now_in, jf]; omega) | (simp (disch := omega) only [wr_id, FState now_in, jf]; done))) | (with_reducible apply wm_f; focus (first | omega | (simp (disch := omega) only [wr_id, FState now_in, jf]; omega) | (simp (disch := omega) only [wr_id, FState now_in, jf]; done)))))
    rw [← hL]
    (repeat (first | (with_reducible apply wm_o; focus (simp (disch := omega) only [wr_id, Int.toNat_natCast, Int.reduceToNat, tn_lk, tn_kl, if_pos, if_neg, ↓reduceIte, and_self, and_true, true_and, FState now_in, hse]; with_reducible rfl)) | (with_reducible apply wm_q) | (with_reducible apply wm_c; focus (first | assumption | decide +kernel)) | (with_reducible apply wm_d; focus (simp (disch := omega) only [wr_id, Int.toNat_natCast, Int.reduceToNat, tn_lk, tn_kl, if_pos, if_neg, ↓reduceIte, and_self, and_true, true_and, FState now_in, hse]; with_reducible rfl)) | (with_reducible apply wm_t; focus (first | omega | (simp (disch := omega) only [wr_id, FState now_in, hse]; omega) | (simp (disch := omega) only [wr_id, FState now_in, hse]; done))) | (with_reducible apply wm_f; focus (first | omega | (simp (disch := omega) only [wr_id, FState now_in, hse]; omega) | (simp (disch := omega) only [wr_id, FState now_in, hse]; done)))))
    exact wm_r ⟨rfl, rfl⟩
  have e7 : up L 39 s (k : Int) 37 k = I 37 k := by rw [up_ne (by decide), hL, up_ne (by decide), up_ne (by decide), up_ne (by decide)]
  rw [← hL]
  refine wm_eq ?_
  unfold f_X6_turnTo
  (repeat (first | (with_reducible apply wm_o; focus (simp (disch := omega) only [wr_id, Int.toNat_natCast, Int.reduceToNat, tn_lk, tn_kl, if_pos, if_neg, ↓reduceIte, and_self, and_true, true_and, occ, FState now_in, e7]; with_reducible rfl)) | (with_reducible apply wm_q) | (with_reducible apply wm_c; focus (first | assumption | decide +kernel)) | (with_reducible apply wm_d; focus (simp (disch := omega) only [wr_id, Int.toNat_natCast, Int.reduceToNat, tn_lk, tn_kl, if_pos, if_neg, ↓reduceIte, and_self, and_true, true_and, occ, FState now_in, e7]; with_reducible rfl)) | (with_reducible apply wm_t; focus (first | omega | (simp (disch := omega) only [wr_id, occ, FState now_in, e7]; omega) | (simp (disch := omega) only [wr_id, occ, FState now_in, e7]; done))) | (with_reducible apply wm_f; focus (first | omega | (simp (disch := omega) only [wr_id, occ, FState now_in, e7]; omega) | (simp (disch := omega) only [wr_id, occ, FState now_in, e7]; done)))))
  exact wm_r ⟨rfl, rfl⟩
end TT
