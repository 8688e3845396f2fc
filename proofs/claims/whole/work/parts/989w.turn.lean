/-! ===== what can be turned; calls: turns, cheapest ===== -/
def stO (w : Nat) (ρ : Nat → Int) (c : Nat) (a : Int) : Option Nat := match rCpl w ρ (c : Int) with
  | some k => if ρ k = (c : Int) ∧ ρ (18 + k) = a then some k else none
  | none => none
/-- couples k0, k1 lie alike, side by side, from cell c on -/
def ctX (w n : Nat) (ρ : Nat → Int) (c : Nat) (a : Int) (k0 k1 : Nat) : Prop := (c % w + 1 < w ∧ c + w < n) ∧ (a = 0 ∨ a = 1) ∧ (k0 < 18 ∧ k1 < 18) ∧ 0 ≤ ρ k0 ∧ 0 ≤ ρ k1 ∧ ρ k0 = (c : Int) ∧ ρ k1 = (if a = 0 then (c : Int) + w else (c : Int) + 1) ∧ ρ (18 + k0) = a ∧ ρ (18 + k1) = a
def ctB (w n : Nat) (ρ : Nat → Int) (c : Nat) : Bool := decide (c % w + 1 < w ∧ c + w < n) && (((stO w ρ c 0).isSome && (stO w ρ (c + w) 0).isSome) || ((stO w ρ c 1).isSome && (stO w ρ (c + 1) 1).isSome))
theorem fnd_first {p : Nat → Bool} {k : Nat} : ∀ {m i : Nat}, i ≤ k → k < i + m → p k = true → (∀ j, i ≤ j → j < k → p j = false) → fnd p m i = some k
  | 0, i, h1, h2, _, _ => by omega
  | m + 1, i, h1, h2, h3, h4 => by
    unfold fnd
    by_cases e : i = k
    · subst e; rw [if_pos h3]
    · rw [if_neg (by rw [h4 i (by omega) (by omega)]; decide)]
      exact fnd_first (by omega) (by omega) h3 (fun j a b => h4 j (by omega) b)
section TU
variable {t d rt : Nat} {I J K : Nat → Nat → Int} {lv w h n nh r : Nat} {hl cl na nd U : Nat → Bool} {sd : Int} {ifs : Nat → List LwI} {xs : Nat → List CI} {ρ : Nat → Int} {u : Nat} {H : Nat → Nat → Int} {hd : Nat → Bool} {G : Nat → Nat → Int}
theorem stO_s {c k : Nat} {a : Int} (h' : stO w ρ c a = some k) : k < 18 ∧ 0 ≤ ρ k ∧ ρ k = (c : Int) ∧ ρ (18 + k) = a := by
  unfold stO at h'
  cases e : rCpl w ρ (c : Int) with
  | none => rw [e] at h'; cases h'
  | some j =>
    rw [e] at h'
    by_cases z : ρ j = (c : Int) ∧ ρ (18 + j) = a
    · simp only [z, and_self, if_true] at h'
      injection h' with h'
      subst h'
      exact ⟨(rCpl_sat e).1, (rAt_iff.mp (rCpl_sat e).2).1, z.1, z.2⟩
    · simp only [z, if_false] at h'
      cases h'
theorem stO_i (hr : rOK w n hl ρ) {c k : Nat} {a : Int} (hk : k < 18) (h0 : 0 ≤ ρ k) (h1 : ρ k = (c : Int)) (h2 : ρ (18 + k) = a) : stO w ρ c a = some k := by
  unfold stO
  rw [rCpl_some hr hk (rAt_iff.mpr ⟨h0, Or.inl h1⟩)]
  simp only [h1, h2, and_self, if_true]
theorem ct_iff (hr : rOK w n hl ρ) {c : Nat} : ctB w n ρ c = true ↔ ∃ a k0 k1, ctX w n ρ c a k0 k1 := by
  unfold ctB ctX
  constructor
  · intro q
    rw [Bool.and_eq_true, decide_eq_true_eq, Bool.or_eq_true, Bool.and_eq_true, Bool.and_eq_true] at q
    obtain ⟨q1, q2 | q2⟩ := q
    · obtain ⟨k0, e0⟩ := Option.isSome_iff_exists.mp q2.1
      obtain ⟨k1, e1⟩ := Option.isSome_iff_exists.mp q2.2
      have a0 := stO_s e0
      have a1 := stO_s e1
      exact ⟨0, k0, k1, q1, Or.inl rfl, ⟨a0.1, a1.1⟩, a0.2.1, a1.2.1, a0.2.2.1, by rw [if_pos rfl]; have := a1.2.2.1; omega, a0.2.2.2, a1.2.2.2⟩
    · obtain ⟨k0, e0⟩ := Option.isSome_iff_exists.mp q2.1
      obtain ⟨k1, e1⟩ := Option.isSome_iff_exists.mp q2.2
      have a0 := stO_s e0
      have a1 := stO_s e1
      exact ⟨1, k0, k1, q1, Or.inr rfl, ⟨a0.1, a1.1⟩, a0.2.1, a1.2.1, a0.2.2.1, by rw [if_neg (by decide)]; have := a1.2.2.1; omega, a0.2.2.2, a1.2.2.2⟩
  · rintro ⟨a, k0, k1, q1, q2, q3, q4, q5, q6, q7, q8, q9⟩
    rw [Bool.and_eq_true, decide_eq_true_eq, Bool.or_eq_true, Bool.and_eq_true, Bool.and_eq_true]
    refine ⟨q1, ?_⟩
    rcases q2 with rfl | rfl
    · rw [if_pos rfl] at q7
      exact Or.inl ⟨by rw [stO_i hr q3.1 q4 q6 q8]; rfl, by rw [stO_i hr q3.2 q5 (by omega) q9]; rfl⟩
    · rw [if_neg (by decide)] at q7
      exact Or.inr ⟨by rw [stO_i hr q3.1 q4 q6 q8]; rfl, by rw [stO_i hr q3.2 q5 (by omega) q9]; rfl⟩
/-- where they lie -/
theorem ct_at {c k0 k1 : Nat} {a : Int} (hx : ctX w n ρ c a k0 k1) : rAt w ρ (c : Int) k0 = true ∧ rAt w ρ ((c + w + 1 : Nat) : Int) k1 = true := by
  obtain ⟨q1, q2, q3, q4, q5, q6, q7, q8, q9⟩ := hx
  refine ⟨rAt_iff.mpr ⟨q4, Or.inl q6⟩, rAt_iff.mpr ⟨q5, Or.inr ?_⟩⟩
  unfold rOth
  rcases q2 with rfl | rfl
  · rw [if_pos rfl] at q7
    rw [if_neg (by omega)]; omega
  · rw [if_neg (by decide)] at q7
    rw [if_pos q9]; omega
theorem c_canTurn (sq : sqOK w h n nh hl) (c' : cfC I t w h n nh hl sd ifs xs) (hr : rOK w n hl ρ) (hst : stR I 34 w ρ) {x : Int} (hx : in32 x) : f_X11_canTurn 0 x (mm t d rt I) = some (if (0 ≤ x ∧ x < n) ∧ ctB w n ρ x.toNat = true then 1 else 0, mm t d rt I) := by
  have hq := q_hasCell (d := d) (rt := rt) sq c' hx
  have hn := sq.2.2.2.2.2.2.1
  have hw : 2 ≤ w ∧ w ≤ 6 := ⟨sq.1, sq.2.1⟩
  have htx := c'.1
  have kt := (tx_k htx).1
  have c2 := c'.2.1
  have hv := vRow_of hr hn
  refine wm_eq ?_
  unfold f_X11_canTurn
  by_cases z : 0 ≤ x ∧ x < n
  · rw [if_pos z] at hq
    obtain ⟨c, rfl⟩ : ∃ c : Nat, x = (c : Int) := ⟨x.toNat, by omega⟩
    have hcn : c < n := by omega
    rw [Int.toNat_natCast]
    have hri := q_hasRight (d := d) (rt := rt) sq c' hcn
    have hbe := q_hasBelow (d := d) (rt := rt) sq c' hcn
    have no : ¬ (∃ a k0 k1, ctX w n ρ c a k0 k1) → (if (0 ≤ (c : Int) ∧ (c : Int) < n) ∧ ctB w n ρ c = true then (1 : Int) else 0) = 0 := fun q => if_neg (fun k => q ((ct_iff hr).mp k.2))
    by_cases zr : c % w + 1 < w
    · rw [if_pos zr] at hri
      by_cases zb : c + w < n
      · rw [if_pos zb] at hbe
        have hc1 : c + w + 1 < n := by
          have := hr_of (w := w) (h := h) (by omega) sq.2.2.2.2.1 (c + w) (by rw [Nat.add_mod_right]; exact zr) zb
          exact this
        have ei : (c : Int) + (w : Int) + 1 = ((c + w + 1 : Nat) : Int) := by omega
        rcases on_w hst (show c < 36 by omega) with ⟨p1, p2⟩ | ⟨k0, p0, p1, p2, p3⟩
        · rw [no (fun ⟨a, k0, k1, hX⟩ => by
            have := (ct_at hX).1
            rw [rCpl_not p2 k0 hX.2.2.1.1] at this; cases this)]
          rcases on_w hst (show c + w + 1 < 36 by omega) with ⟨r1, r2⟩ | ⟨k1, r0, r1, r2, r3⟩
          · (repeat (first | (with_reducible apply wm_o; focus (simp (disch := omega) only [wr_id, Int.toNat_natCast, Int.reduceToNat, tn_lk, tn_kl, if_pos, if_neg, ↓reduceIte, and_self, and_true, true_and, FX, hq, hri, hbe, FState now_in, FText htx, c2, ei, p1, r1]; with_reducible rfl)) | (with_reducible apply wm_q) | (with_reducible apply wm_c; focus (first | assumption | decide +kernel)) | (with_reducible apply wm_d; focus (simp (disch := omega) only [wr_id, Int.toNat_natCast, Int.reduceToNat, tn_lk, tn_kl, if_pos, if_neg, ↓reduceIte, and_self, and_true, true_and, FX, hq, hri, hbe, FState now_in, FText htx, c2, ei, p1, r1]; with_reducible rfl)) | (with_reducible apply wm_t; focus (first | omega | (simp (disch := omega) only [wr_id, FX, hq, hri, hbe, FState now_in, FText htx, c2, ei, p1, r1]; omega) | (simp (disch := omega) only [wr_id, FX, hq, hri, hbe, FState now_in, FText htx, c2, ei, p1, r1]; done))) | (with_reducible apply wm_f; focus (first | omega | (simp (disch := omega) only [wr_id, FX, hq, hri, hbe, FState now_in, FText htx, c2, ei, p1, r1]; omega) | (simp (disch := omega) only [wr_id, FX, hq, hri, hbe, FState now_in, FText htx, c2, ei, p1, r1]; done)))))
            exact wm_z0 ⟨rfl, rfl⟩
          · (repeat (first | (with_reducible apply wm_o; focus (simp (disch := omega) only [wr_id, Int.toNat_natCast, Int.reduceToNat, tn_lk, tn_kl, if_pos, if_neg, ↓reduceIte, and_self, and_true, true_and, FX, hq, hri, hbe, FState now_in, FText htx, c2, ei, p1, r1]; with_reducible rfl)) | (with_reducible apply wm_q) | (with_reducible apply wm_c; focus (first | assumption | decide +kernel)) | (with_reducible apply wm_d; focus (simp (disch := omega) only [wr_id, Int.toNat_natCast, Int.reduceToNat, tn_lk, tn_kl, if_pos, if_neg, ↓reduceIte, and_self, and_true, true_and, FX, hq, hri, hbe, FState now_in, FText htx, c2, ei, p1, r1]; with_reducible rfl)) | (with_reducible apply wm_t; focus (first | omega | (simp (disch := omega) only [wr_id, FX, hq, hri, hbe, FState now_in, FText htx, c2, ei, p1, r1]; omega) | (simp (disch := omega) only [wr_id, FX, hq, hri, hbe, FState now_in, FText htx, c2, ei, p1, r1]; done))) | (with_reducible apply wm_f; focus (first | omega | (simp (disch := omega) only [wr_id, FX, hq, hri, hbe, FState now_in, FText htx, c2, ei, p1, r1]; omega) | (simp (disch := omega) only [wr_id, FX, hq, hri, hbe, FState now_in, FText htx, c2, ei, p1, r1]; done)))))
            exact wm_z0 ⟨rfl, rfl⟩
        · rcases on_w hst (show c + w + 1 < 36 by omega) with ⟨r1, r2⟩ | ⟨k1, r0, r1, r2, r3⟩
          · rw [no (fun ⟨a, k0, k1, hX⟩ => by
              have := (ct_at hX).2
              rw [rCpl_not r2 k1 hX.2.2.1.2] at this; cases this)]
            (repeat (first | (with_reducible apply wm_o; focus (simp (disch := omega) only [wr_id, Int.toNat_natCast, Int.reduceToNat, tn_lk, tn_kl, if_pos, if_neg, ↓reduceIte, and_self, and_true, true_and, FX, hq, hri, hbe, FState now_in, FText htx, c2, ei, p1, r1]; with_reducible rfl)) | (with_reducible apply wm_q) | (with_reducible apply wm_c; focus (first | assumption | decide +kernel)) | (with_reducible apply wm_d; focus (simp (disch := omega) only [wr_id, Int.toNat_natCast, Int.reduceToNat, tn_lk, tn_kl, if_pos, if_neg, ↓reduceIte, and_self, and_true, true_and, FX, hq, hri, hbe, FState now_in, FText htx, c2, ei, p1, r1]; with_reducible rfl)) | (with_reducible apply wm_t; focus (first | omega | (simp (disch := omega) only [wr_id, FX, hq, hri, hbe, FState now_in, FText htx, c2, ei, p1, r1]; omega) | (simp (disch := omega) only [wr_id, FX, hq, hri, hbe, FState now_in, FText htx, c2, ei, p1, r1]; done))) | (with_reducible apply wm_f; focus (first | omega | (simp (disch := omega) only [wr_id, FX, hq, hri, hbe, FState now_in, FText htx, c2, ei, p1, r1]; omega) | (simp (disch := omega) only [wr_id, FX, hq, hri, hbe, FState now_in, FText htx, c2, ei, p1, r1]; done)))))
            exact wm_z0 ⟨rfl, rfl⟩
          · have h0 : 0 ≤ ρ k0 := (rAt_iff.mp p3).1
            have h1 : 0 ≤ ρ k1 := (rAt_iff.mp r3).1
            have un : ∀ a j0 j1, ctX w n ρ c a j0 j1 → j0 = k0 ∧ j1 = k1 := fun a j0 j1 hX => ⟨rOK_one hr hX.2.2.1.1 p0 (ct_at hX).1 p3, rOK_one hr hX.2.2.1.2 r0 (ct_at hX).2 r3⟩
            have f0 := (hst.2.1 k0 p0 h0).1
            have f1 := (hst.2.1 k1 r0 h1).1
            have g0 := hst.1 k0 p0
            have g1 := hst.1 k1 r0
            rw [if_pos h0] at g0
            rw [if_pos h1] at g1
            have w0 := (hv k0 p0).2
            have w1 := (hv k1 r0).2
            have b0 : ρ k0 < 36 := by rcases hr.1 k0 p0 with q | q <;> omega
            have b1 : ρ k1 < 36 := by rcases hr.1 k1 r0 with q | q <;> omega
            by_cases ze : ρ (18 + k0) = ρ (18 + k1)
            · by_cases zf : ρ k0 = (c : Int)
              · rcases w0 with e | e
                · have e1 : ρ (18 + k1) = 0 := by omega
                  rw [e] at f0
                  rw [e1] at f1
                  by_cases zd : ρ k1 = (c : Int) + (w : Int)
                  · rw [if_pos ⟨z, (ct_iff hr).mpr ⟨0, k0, k1, ⟨zr, zb⟩, Or.inl rfl, ⟨p0, r0⟩, h0, h1, zf, by rw [if_pos rfl]; exact zd, e, e1⟩⟩]
                    rw [zf] at g0
                    rw [zd] at g1
                    (repeat (first | (with_reducible apply wm_o; focus (simp (disch := omega) only [wr_id, Int.toNat_natCast, Int.reduceToNat, tn_lk, tn_kl, if_pos, if_neg, ↓reduceIte, and_self, and_true, true_and, FX, hq, hri, hbe, FState now_in, FText htx, c2, ei, p1, r1, f0, f1, g0, g1]; with_reducible rfl)) | (with_reducible apply wm_q) | (with_reducible apply wm_c; focus (first | assumption | decide +kernel)) | (with_reducible apply wm_d; focus (simp (disch := omega) only [wr_id, Int.toNat_natCast, Int.reduceToNat, tn_lk, tn_kl, if_pos, if_neg, ↓reduceIte, and_self, and_true, true_and, FX, hq, hri, hbe, FState now_in, FText htx, c2, ei, p1, r1, f0, f1, g0, g1]; with_reducible rfl)) | (with_reducible apply wm_t; focus (first | omega | (simp (disch := omega) only [wr_id, FX, hq, hri, hbe, FState now_in, FText htx, c2, ei, p1, r1, f0, f1, g0, g1]; omega) | (simp (disch := omega) only [wr_id, FX, hq, hri, hbe, FState now_in, FText htx, c2, ei, p1, r1, f0, f1, g0, g1]; done))) | (with_reducible apply wm_f; focus (first | omega | (simp (disch := omega) only [wr_id, FX, hq, hri, hbe, FState now_in, FText htx, c2, ei, p1, r1, f0, f1, g0, g1]; omega) | (simp (disch := omega) only [wr_id, FX, hq, hri, hbe, FState now_in, FText htx, c2, ei, p1, r1, f0, f1, g0, g1]; done)))))
                    exact wm_z1 ⟨rfl, rfl⟩
                  · rw [no (fun ⟨a, j0, j1, hX⟩ => by
                      obtain ⟨rfl, rfl⟩ := un a j0 j1 hX
                      have ea : a = 0 := by rw [← hX.2.2.2.2.2.2.2.1]; exact e
                      have := hX.2.2.2.2.2.2.1
                      rw [if_pos ea] at this
                      exact zd this)]
                    rw [zf] at g0
                    (repeat (first | (with_reducible apply wm_o; focus (simp (disch := omega) only [wr_id, Int.toNat_natCast, Int.reduceToNat, tn_lk, tn_kl, if_pos, if_neg, ↓reduceIte, and_self, and_true, true_and, FX, hq, hri, hbe, FState now_in, FText htx, c2, ei, p1, r1, f0, f1, g0, g1]; with_reducible rfl)) | (with_reducible apply wm_q) | (with_reducible apply wm_c; focus (first | assumption | decide +kernel)) | (with_reducible apply wm_d; focus (simp (disch := omega) only [wr_id, Int.toNat_natCast, Int.reduceToNat, tn_lk, tn_kl, if_pos, if_neg, ↓reduceIte, and_self, and_true, true_and, FX, hq, hri, hbe, FState now_in, FText htx, c2, ei, p1, r1, f0, f1, g0, g1]; with_reducible rfl)) | (with_reducible apply wm_t; focus (first | omega | (simp (disch := omega) only [wr_id, FX, hq, hri, hbe, FState now_in, FText htx, c2, ei, p1, r1, f0, f1, g0, g1]; omega) | (simp (disch := omega) only [wr_id, FX, hq, hri, hbe, FState now_in, FText htx, c2, ei, p1, r1, f0, f1, g0, g1]; done))) | (with_reducible apply wm_f; focus (first | omega | (simp (disch := omega) only [wr_id, FX, hq, hri, hbe, FState now_in, FText htx, c2, ei, p1, r1, f0, f1, g0, g1]; omega) | (simp (disch := omega) only [wr_id, FX, hq, hri, hbe, FState now_in, FText htx, c2, ei, p1, r1, f0, f1, g0, g1]; done)))))
                    exact wm_z0 ⟨rfl, rfl⟩
                · have e1 : ρ (18 + k1) = 1 := by omega
                  rw [e] at f0
                  rw [e1] at f1
                  by_cases zd : ρ k1 = (c : Int) + 1
                  · rw [if_pos ⟨z, (ct_iff hr).mpr ⟨1, k0, k1, ⟨zr, zb⟩, Or.inr rfl, ⟨p0, r0⟩, h0, h1, zf, by rw [if_neg (by decide)]; exact zd, e, e1⟩⟩]
                    rw [zf] at g0
                    rw [zd] at g1
                    (repeat (first | (with_reducible apply wm_o; focus (simp (disch := omega) only [wr_id, Int.toNat_natCast, Int.reduceToNat, tn_lk, tn_kl, if_pos, if_neg, ↓reduceIte, and_self, and_true, true_and, FX, hq, hri, hbe, FState now_in, FText htx, c2, ei, p1, r1, f0, f1, g0, g1]; with_reducible rfl)) | (with_reducible apply wm_q) | (with_reducible apply wm_c; focus (first | assumption | decide +kernel)) | (with_reducible apply wm_d; focus (simp (disch := omega) only [wr_id, Int.toNat_natCast, Int.reduceToNat, tn_lk, tn_kl, if_pos, if_neg, ↓reduceIte, and_self, and_true, true_and, FX, hq, hri, hbe, FState now_in, FText htx, c2, ei, p1, r1, f0, f1, g0, g1]; with_reducible rfl)) | (with_reducible apply wm_t; focus (first | omega | (simp (disch := omega) only [wr_id, FX, hq, hri, hbe, FState now_in, FText htx, c2, ei, p1, r1, f0, f1, g0, g1]; omega) | (simp (disch := omega) only [wr_id, FX, hq, hri, hbe, FState now_in, FText htx, c2, ei, p1, r1, f0, f1, g0, g1]; done))) | (with_reducible apply wm_f; focus (first | omega | (simp (disch := omega) only [wr_id, FX, hq, hri, hbe, FState now_in, FText htx, c2, ei, p1, r1, f0, f1, g0, g1]; omega) | (simp (disch := omega) only [wr_id, FX, hq, hri, hbe, FState now_in, FText htx, c2, ei, p1, r1, f0, f1, g0, g1]; done)))))
                    exact wm_z1 ⟨rfl, rfl⟩
                  · rw [no (fun ⟨a, j0, j1, hX⟩ => by
                      obtain ⟨rfl, rfl⟩ := un a j0 j1 hX
                      have ea : a = 1 := by rw [← hX.2.2.2.2.2.2.2.1]; exact e
                      have := hX.2.2.2.2.2.2.1
                      rw [if_neg (by omega)] at this
                      exact zd this)]
                    rw [zf] at g0
                    (repeat (first | (with_reducible apply wm_o; focus (simp (disch := omega) only [wr_id, Int.toNat_natCast, Int.reduceToNat, tn_lk, tn_kl, if_pos, if_neg, ↓reduceIte, and_self, and_true, true_and, FX, hq, hri, hbe, FState now_in, FText htx, c2, ei, p1, r1, f0, f1, g0, g1]; with_reducible rfl)) | (with_reducible apply wm_q) | (with_reducible apply wm_c; focus (first | assumption | decide +kernel)) | (with_reducible apply wm_d; focus (simp (disch := omega) only [wr_id, Int.toNat_natCast, Int.reduceToNat, tn_lk, tn_kl, if_pos, if_neg, ↓reduceIte, and_self, and_true, true_and, FX, hq, hri, hbe, FState now_in, FText htx, c2, ei, p1, r1, f0, f1, g0, g1]; with_reducible rfl)) | (with_reducible apply wm_t; focus (first | omega | (simp (disch := omega) only [wr_id, FX, hq, hri, hbe, FState now_in, FText htx, c2, ei, p1, r1, f0, f1, g0, g1]; omega) | (simp (disch := omega) only [wr_id, FX, hq, hri, hbe, FState now_in, FText htx, c2, ei, p1, r1, f0, f1, g0, g1]; done))) | (with_reducible apply wm_f; focus (first | omega | (simp (disch := omega) only [wr_id, FX, hq, hri, hbe, FState now_in, FText htx, c2, ei, p1, r1, f0, f1, g0, g1]; omega) | (simp (disch := omega) only [wr_id, FX, hq, hri, hbe, FState now_in, FText htx, c2, ei, p1, r1, f0, f1, g0, g1]; done)))))
                    exact wm_z0 ⟨rfl, rfl⟩
              · rw [no (fun ⟨a, j0, j1, hX⟩ => by
                  obtain ⟨rfl, rfl⟩ := un a j0 j1 hX
                  exact zf hX.2.2.2.2.2.1)]
                rcases w0 with e | e
                · have e1 : ρ (18 + k1) = 0 := by omega
                  rw [e] at f0
                  rw [e1] at f1
                  (repeat (first | (with_reducible apply wm_o; focus (simp (disch := omega) only [wr_id, Int.toNat_natCast, Int.reduceToNat, tn_lk, tn_kl, if_pos, if_neg, ↓reduceIte, and_self, and_true, true_and, FX, hq, hri, hbe, FState now_in, FText htx, c2, ei, p1, r1, f0, f1, g0, g1]; with_reducible rfl)) | (with_reducible apply wm_q) | (with_reducible apply wm_c; focus (first | assumption | decide +kernel)) | (with_reducible apply wm_d; focus (simp (disch := omega) only [wr_id, Int.toNat_natCast, Int.reduceToNat, tn_lk, tn_kl, if_pos, if_neg, ↓reduceIte, and_self, and_true, true_and, FX, hq, hri, hbe, FState now_in, FText htx, c2, ei, p1, r1, f0, f1, g0, g1]; with_reducible rfl)) | (with_reducible apply wm_t; focus (first | omega | (simp (disch := omega) only [wr_id, FX, hq, hri, hbe, FState now_in, FText htx, c2, ei, p1, r1, f0, f1, g0, g1]; omega) | (simp (disch := omega) only [wr_id, FX, hq, hri, hbe, FState now_in, FText htx, c2, ei, p1, r1, f0, f1, g0, g1]; done))) | (with_reducible apply wm_f; focus (first | omega | (simp (disch := omega) only [wr_id, FX, hq, hri, hbe, FState now_in, FText htx, c2, ei, p1, r1, f0, f1, g0, g1]; omega) | (simp (disch := omega) only [wr_id, FX, hq, hri, hbe, FState now_in, FText htx, c2, ei, p1, r1, f0, f1, g0, g1]; done)))))
                  exact wm_z0 ⟨rfl, rfl⟩
                · have e1 : ρ (18 + k1) = 1 := by omega
                  rw [e] at f0
                  rw [e1] at f1
                  (repeat (first | (with_reducible apply wm_o; focus (simp (disch := omega) only [wr_id, Int.toNat_natCast, Int.reduceToNat, tn_lk, tn_kl, if_pos, if_neg, ↓reduceIte, and_self, and_true, true_and, FX, hq, hri, hbe, FState now_in, FText htx, c2, ei, p1, r1, f0, f1, g0, g1]; with_reducible rfl)) | (with_reducible apply wm_q) | (with_reducible apply wm_c; focus (first | assumption | decide +kernel)) | (with_reducible apply wm_d; focus (simp (disch := omega) only [wr_id, Int.toNat_natCast, Int.reduceToNat, tn_lk, tn_kl, if_pos, if_neg, ↓reduceIte, and_self, and_true, true_and, FX, hq, hri, hbe, FState now_in, FText htx, c2, ei, p1, r1, f0, f1, g0, g1]; with_reducible rfl)) | (with_reducible apply wm_t; focus (first | omega | (simp (disch := omega) only [wr_id, FX, hq, hri, hbe, FState now_in, FText htx, c2, ei, p1, r1, f0, f1, g0, g1]; omega) | (simp (disch := omega) only [wr_id, FX, hq, hri, hbe, FState now_in, FText htx, c2, ei, p1, r1, f0, f1, g0, g1]; done))) | (with_reducible apply wm_f; focus (first | omega | (simp (disch := omega) only [wr_id, FX, hq, hri, hbe, FState now_in, FText htx, c2, ei, p1, r1, f0, f1, g0, g1]; omega) | (simp (disch := omega) only [wr_id, FX, hq, hri, hbe, FState now_in, FText htx, c2, ei, p1, r1, f0, f1, g0, g1]; done)))))
                  exact wm_z0 ⟨rfl, rfl⟩
            · rw [no (fun ⟨a, j0, j1, hX⟩ => by
                obtain ⟨rfl, rfl⟩ := un a j0 j1 hX
                exact ze (hX.2.2.2.2.2.2.2.1.trans hX.2.2.2.2.2.2.2.2.symm))]
              (repeat (first | (with_reducible apply wm_o; focus (simp (disch := omega) only [wr_id, Int.toNat_natCast, Int.reduceToNat, tn_lk, tn_kl, if_pos, if_neg, ↓reduceIte, and_self, and_true, true_and, FX, hq, hri, hbe, FState now_in, FText htx, c2, ei, p1, r1, f0, f1]; with_reducible rfl)) | (with_reducible apply wm_q) | (with_reducible apply wm_c; focus (first | assumption | decide +kernel)) | (with_reducible apply wm_d; focus (simp (disch := omega) only [wr_id, Int.toNat_natCast, Int.reduceToNat, tn_lk, tn_kl, if_pos, if_neg, ↓reduceIte, and_self, and_true, true_and, FX, hq, hri, hbe, FState now_in, FText htx, c2, ei, p1, r1, f0, f1]; with_reducible rfl)) | (with_reducible apply wm_t; focus (first | omega | (simp (disch := omega) only [wr_id, FX, hq, hri, hbe, FState now_in, FText htx, c2, ei, p1, r1, f0, f1]; omega) | (simp (disch := omega) only [wr_id, FX, hq, hri, hbe, FState now_in, FText htx, c2, ei, p1, r1, f0, f1]; done))) | (with_reducible apply wm_f; focus (first | omega | (simp (disch := omega) only [wr_id, FX, hq, hri, hbe, FState now_in, FText htx, c2, ei, p1, r1, f0, f1]; omega) | (simp (disch := omega) only [wr_id, FX, hq, hri, hbe, FState now_in, FText htx, c2, ei, p1, r1, f0, f1]; done)))))
              exact wm_z0 ⟨rfl, rfl⟩
      · rw [if_neg zb] at hbe
        rw [no (fun ⟨a, k0, k1, hX⟩ => zb hX.1.2)]
        (repeat (first | (with_reducible apply wm_o; focus (simp (disch := omega) only [wr_id, Int.toNat_natCast, Int.reduceToNat, tn_lk, tn_kl, if_pos, if_neg, ↓reduceIte, and_self, and_true, true_and, FX, hq, hri, hbe]; with_reducible rfl)) | (with_reducible apply wm_q) | (with_reducible apply wm_c; focus (first | assumption | decide +kernel)) | (with_reducible apply wm_d; focus (simp (disch := omega) only [wr_id, Int.toNat_natCast, Int.reduceToNat, tn_lk, tn_kl, if_pos, if_neg, ↓reduceIte, and_self, and_true, true_and, FX, hq, hri, hbe]; with_reducible rfl)) | (with_reducible apply wm_t; focus (first | omega | (simp (disch := omega) only [wr_id, FX, hq, hri, hbe]; omega) | (simp (disch := omega) only [wr_id, FX, hq, hri, hbe]; done))) | (with_reducible apply wm_f; focus (first | omega | (simp (disch := omega) only [wr_id, FX, hq, hri, hbe]; omega) | (simp (disch := omega) only [wr_id, FX, hq, hri, hbe]; done)))))
        exact wm_z0 ⟨rfl, rfl⟩
    · rw [if_neg zr] at hri
      rw [no (fun ⟨a, k0, k1, hX⟩ => zr hX.1.1)]
      (repeat (first | (with_reducible apply wm_o; focus (simp (disch := omega) only [wr_id, Int.toNat_natCast, Int.reduceToNat, tn_lk, tn_kl, if_pos, if_neg, ↓reduceIte, and_self, and_true, true_and, FX, hq, hri]; with_reducible rfl)) | (with_reducible apply wm_q) | (with_reducible apply wm_c; focus (first | assumption | decide +kernel)) | (with_reducible apply wm_d; focus (simp (disch := omega) only [wr_id, Int.toNat_natCast, Int.reduceToNat, tn_lk, tn_kl, if_pos, if_neg, ↓reduceIte, and_self, and_true, true_and, FX, hq, hri]; with_reducible rfl)) | (with_reducible apply wm_t; focus (first | omega | (simp (disch := omega) only [wr_id, FX, hq, hri]; omega) | (simp (disch := omega) only [wr_id, FX, hq, hri]; done))) | (with_reducible apply wm_f; focus (first | omega | (simp (disch := omega) only [wr_id, FX, hq, hri]; omega) | (simp (disch := omega) only [wr_id, FX, hq, hri]; done)))))
      exact wm_z0 ⟨rfl, rfl⟩
  · rw [if_neg z] at hq
    rw [if_neg (fun q => z q.1)]
    (repeat (first | (with_reducible apply wm_o; focus (simp (disch := omega) only [wr_id, Int.toNat_natCast, Int.reduceToNat, tn_lk, tn_kl, if_pos, if_neg, ↓reduceIte, and_self, and_true, true_and, FX, hq]; with_reducible rfl)) | (with_reducible apply wm_q) | (with_reducible apply wm_c; focus (first | assumption | decide +kernel)) | (with_reducible apply wm_d; focus (simp (disch := omega) only [wr_id, Int.toNat_natCast, Int.reduceToNat, tn_lk, tn_kl, if_pos, if_neg, ↓reduceIte, and_self, and_true, true_and, FX, hq]; with_reducible rfl)) | (with_reducible apply wm_t; focus (first | omega | (simp (disch := omega) only [wr_id, FX, hq]; omega) | (simp (disch := omega) only [wr_id, FX, hq]; done))) | (with_reducible apply wm_f; focus (first | omega | (simp (disch := omega) only [wr_id, FX, hq]; omega) | (simp (disch := omega) only [wr_id, FX, hq]; done)))))
    exact wm_z0 ⟨rfl, rfl⟩
theorem m_stoneOf (c : mCfg I lv w h n) (hr : rOK w n hl ρ) (h1 : I 401 = ρ) {x : Nat} (hx : x < 36) {a : Int} (ha : a = 0 ∨ a = 1) : f_X12_stoneOf 369 (x : Int) a (mm t d rt I) = some (oI (stO w ρ x a), mm t d rt I) := by
  have hn : n ≤ 36 := c.2.2.2.2.2.2.2.2.2.2
  have hv := vRow_of hr hn
  have hca := s_coupleAt (t := t) (d := d) (rt := rt) (c := (x : Int)) c (by rw [h1]; exact hv) (by omega)
  rw [h1] at hca
  have ha' : -10 ≤ a ∧ a ≤ 10 := by omega
  refine wm_eq ?_
  unfold f_X12_stoneOf stO
  cases e : rCpl w ρ (x : Int) with
  | none =>
    rw [e] at hca
    have hca' : f_X12_coupleAt 369 (x : Int) (mm t d rt I) = some (-2, mm t d rt I) := hca
    (repeat (first | (with_reducible apply wm_o; focus (simp (disch := omega) only [wr_id, Int.toNat_natCast, Int.reduceToNat, tn_lk, tn_kl, if_pos, if_neg, ↓reduceIte, and_self, and_true, true_and, hca']; with_reducible rfl)) | (with_reducible apply wm_q) | (with_reducible apply wm_c; focus (first | assumption | decide +kernel)) | (with_reducible apply wm_d; focus (simp (disch := omega) only [wr_id, Int.toNat_natCast, Int.reduceToNat, tn_lk, tn_kl, if_pos, if_neg, ↓reduceIte, and_self, and_true, true_and, hca']; with_reducible rfl)) | (with_reducible apply wm_t; focus (first | omega | (simp (disch := omega) only [wr_id, hca']; omega) | (simp (disch := omega) only [wr_id, hca']; done))) | (with_reducible apply wm_f; focus (first | omega | (simp (disch := omega) only [wr_id, hca']; omega) | (simp (disch := omega) only [wr_id, hca']; done)))))
    exact wm_r ⟨rfl, rfl⟩
  | some k =>
    rw [e] at hca
    have hca' : f_X12_coupleAt 369 (x : Int) (mm t d rt I) = some ((k : Int), mm t d rt I) := hca
    have hk := (rCpl_sat e).1
    have g0 : I 401 k = ρ k := by rw [h1]
    have g1 : I 401 (18 + k) = ρ (18 + k) := by rw [h1]
    have hb := hv k hk
    have ei : (18 : Int) + (k : Int) = ((18 + k : Nat) : Int) := by omega
    show wm t d rt _ (fun v J => v = oI (if ρ k = (x : Int) ∧ ρ (18 + k) = a then some k else none) ∧ J = I)
    by_cases z : ρ k = (x : Int)
    · by_cases z2 : ρ (18 + k) = a
      · rw [if_pos ⟨z, z2⟩]
        rw [z] at g0
        rw [z2] at g1
        (repeat (first | (with_reducible apply wm_o; focus (simp (disch := omega) only [wr_id, Int.toNat_natCast, Int.reduceToNat, tn_lk, tn_kl, if_pos, if_neg, ↓reduceIte, and_self, and_true, true_and, hca', FM, g0, ei, g1]; with_reducible rfl)) | (with_reducible apply wm_q) | (with_reducible apply wm_c; focus (first | assumption | decide +kernel)) | (with_reducible apply wm_d; focus (simp (disch := omega) only [wr_id, Int.toNat_natCast, Int.reduceToNat, tn_lk, tn_kl, if_pos, if_neg, ↓reduceIte, and_self, and_true, true_and, hca', FM, g0, ei, g1]; with_reducible rfl)) | (with_reducible apply wm_t; focus (first | omega | (simp (disch := omega) only [wr_id, hca', FM, g0, ei, g1]; omega) | (simp (disch := omega) only [wr_id, hca', FM, g0, ei, g1]; done))) | (with_reducible apply wm_f; focus (first | omega | (simp (disch := omega) only [wr_id, hca', FM, g0, ei, g1]; omega) | (simp (disch := omega) only [wr_id, hca', FM, g0, ei, g1]; done)))))
        exact wm_r ⟨rfl, rfl⟩
      · rw [if_neg (fun q => z2 q.2)]
        rw [z] at g0
        (repeat (first | (with_reducible apply wm_o; focus (simp (disch := omega) only [wr_id, Int.toNat_natCast, Int.reduceToNat, tn_lk, tn_kl, if_pos, if_neg, ↓reduceIte, and_self, and_true, true_and, hca', FM, g0, ei, g1]; with_reducible rfl)) | (with_reducible apply wm_q) | (with_reducible apply wm_c; focus (first | assumption | decide +kernel)) | (with_reducible apply wm_d; focus (simp (disch := omega) only [wr_id, Int.toNat_natCast, Int.reduceToNat, tn_lk, tn_kl, if_pos, if_neg, ↓reduceIte, and_self, and_true, true_and, hca', FM, g0, ei, g1]; with_reducible rfl)) | (with_reducible apply wm_t; focus (first | omega | (simp (disch := omega) only [wr_id, hca', FM, g0, ei, g1]; omega) | (simp (disch := omega) only [wr_id, hca', FM, g0, ei, g1]; done))) | (with_reducible apply wm_f; focus (first | omega | (simp (disch := omega) only [wr_id, hca', FM, g0, ei, g1]; omega) | (simp (disch := omega) only [wr_id, hca', FM, g0, ei, g1]; done)))))
        exact wm_r ⟨rfl, rfl⟩
    · rw [if_neg (fun q => z q.1)]
      (repeat (first | (with_reducible apply wm_o; focus (simp (disch := omega) only [wr_id, Int.toNat_natCast, Int.reduceToNat, tn_lk, tn_kl, if_pos, if_neg, ↓reduceIte, and_self, and_true, true_and, hca', FM, g0]; with_reducible rfl)) | (with_reducible apply wm_q) | (with_reducible apply wm_c; focus (first | assumption | decide +kernel)) | (with_reducible apply wm_d; focus (simp (disch := omega) only [wr_id, Int.toNat_natCast, Int.reduceToNat, tn_lk, tn_kl, if_pos, if_neg, ↓reduceIte, and_self, and_true, true_and, hca', FM, g0]; with_reducible rfl)) | (with_reducible apply wm_t; focus (first | omega | (simp (disch := omega) only [wr_id, hca', FM, g0]; omega) | (simp (disch := omega) only [wr_id, hca', FM, g0]; done))) | (with_reducible apply wm_f; focus (first | omega | (simp (disch := omega) only [wr_id, hca', FM, g0]; omega) | (simp (disch := omega) only [wr_id, hca', FM, g0]; done)))))
      exact wm_r ⟨rfl, rfl⟩
theorem oI_b {o : Option Nat} {m : Nat} (h' : ∀ k, o = some k → k < m) (hm : m ≤ 100) : -2 ≤ oI o ∧ oI o < 100 := by
  cases e : o with
  | none => exact ⟨by decide, by decide⟩
  | some k => have := h' k e; show -2 ≤ (k : Int) ∧ (k : Int) < 100; omega
theorem m_canTurn (c : mCfg I lv w h n) (hr : rOK w n hl ρ) (h1 : I 401 = ρ) {x : Int} (hx : in32 x) : wm t d rt (f_X12_canTurn 369 x (mm t d rt I)) (fun r J => frM (fun a => a = 403) (fun _ => False) I J ∧ ((r = 0 ∧ ¬ ((0 ≤ x ∧ x < n) ∧ ctB w n ρ x.toNat = true)) ∨ (r = 1 ∧ (0 ≤ x ∧ x < n) ∧ ∃ a k0 k1, ctX w n ρ x.toNat a k0 k1 ∧ J 403 0 = ((k0 : Nat) : Int) ∧ J 403 1 = ((k1 : Nat) : Int)))) := by
  have hn : n ≤ 36 := c.2.2.2.2.2.2.2.2.2.2
  have hw : 2 ≤ w ∧ w ≤ 6 := ⟨c.2.2.2.2.1, c.2.2.2.2.2.1⟩
  have hnw := c.2.2.2.2.2.2.2.2.1
  unfold f_X12_canTurn
  by_cases z : 0 ≤ x ∧ x < n
  · obtain ⟨q, rfl⟩ : ∃ q : Nat, x = (q : Int) := ⟨x.toNat, by omega⟩
    have hqn : q < n := by omega
    rw [Int.toNat_natCast]
    have hic := s_isCell_t (t := t) (d := d) (rt := rt) c z.1 z.2
    have s0 := fun (J : Nat → Nat → Int) (cJ : mCfg J lv w h n) => s_second0 (t := t) (d := d) (rt := rt) cJ hqn
    have s1 := fun (J : Nat → Nat → Int) (cJ : mCfg J lv w h n) => s_second1 (t := t) (d := d) (rt := rt) cJ hqn
    have s0I := s0 I c
    have s1I := s1 I c
    have no : ¬ (∃ a k0 k1, ctX w n ρ q a k0 k1) → ¬ ((0 ≤ (q : Int) ∧ (q : Int) < n) ∧ ctB w n ρ q = true) := fun k1 k2 => k1 ((ct_iff hr).mp k2.2)
    by_cases zr : q % w + 1 < w
    · rw [if_pos zr] at s0I
      by_cases zb : q + w < n
      · rw [if_pos zb] at s1I
        have hq1 := hr_of (w := w) (h := h) (by omega) hnw q zr hqn
        (repeat (first | (with_reducible apply wm_o; focus (simp (disch := omega) only [wr_id, Int.toNat_natCast, Int.reduceToNat, tn_lk, tn_kl, if_pos, if_neg, ↓reduceIte, and_self, and_true, true_and, hic, s0I, s1I]; with_reducible rfl)) | (with_reducible apply wm_q) | (with_reducible apply wm_c; focus (first | assumption | decide +kernel)) | (with_reducible apply wm_d; focus (simp (disch := omega) only [wr_id, Int.toNat_natCast, Int.reduceToNat, tn_lk, tn_kl, if_pos, if_neg, ↓reduceIte, and_self, and_true, true_and, hic, s0I, s1I]; with_reducible rfl)) | (with_reducible apply wm_t; focus (first | omega | (simp (disch := omega) only [wr_id, hic, s0I, s1I]; omega) | (simp (disch := omega) only [wr_id, hic, s0I, s1I]; done))) | (with_reducible apply wm_f; focus (first | omega | (simp (disch := omega) only [wr_id, hic, s0I, s1I]; omega) | (simp (disch := omega) only [wr_id, hic, s0I, s1I]; done)))))
        refine wm_lp2 2 (fun i y K => y = (i : Int) ∧ frM (fun a => a = 403) (fun _ => False) I K ∧ (0 < i → ¬ ((stO w ρ q 0).isSome = true ∧ (stO w ρ (q + w) 0).isSome = true)) ∧ (1 < i → ¬ ((stO w ρ q 1).isSome = true ∧ (stO w ρ (q + 1) 1).isSome = true))) ?_ (jfuel_n (by decide)) ⟨rfl, frM_refl _ _ _, fun k => by omega, fun k => by omega⟩
        rintro i hi y K ⟨rfl, hK, n0, n1⟩ rec hrec
        have cK := mCfg_frm (hK.2 18 (fun q => q)) (hK.1 377 (by decide) (by decide)) (hK.1 378 (by decide) (by decide)) c
        have K4 : K 401 = ρ := (hK.1 401 (by decide) (by decide)).trans h1
        have hi3 : i = 0 ∨ i = 1 ∨ i = 2 := by omega
        have cU : ∀ v j, mCfg (up K 403 j v) lv w h n := fun v j => mCfg_frm (by rw [up_ne (by decide)]) (up_ne (by decide)) (up_ne (by decide)) cK
        have U4 : ∀ v j, up K 403 j v 401 = ρ := fun v j => by rw [up_ne (by decide)]; exact K4
        rcases hi3 with rfl | rfl | rfl
        · have o0 := m_stoneOf (t := t) (d := d) (rt := rt) cK hr K4 (x := q) (by omega) (a := 0) (Or.inl rfl)
          have sU := s1 (up K 403 0 (oI (stO w ρ q 0))) (cU _ _)
          rw [if_pos zb] at sU
          have o1 := m_stoneOf (t := t) (d := d) (rt := rt) (cU (oI (stO w ρ q 0)) 0) hr (U4 _ _) (x := q + w) (by omega) (a := 0) (Or.inl rfl)
          have e10 : (1 : Int) - 0 = 1 := rfl
          have e00 : ((0 : Nat) : Int) = 0 := rfl
          rw [e00]
          have g0 : up (up K 403 0 (oI (stO w ρ q 0))) 403 1 (oI (stO w ρ (q + w) 0)) 403 0 = oI (stO w ρ q 0) := by rw [up_g, if_neg (by decide), up_g, if_pos rfl]
          have g1 : up (up K 403 0 (oI (stO w ρ q 0))) 403 1 (oI (stO w ρ (q + w) 0)) 403 1 = oI (stO w ρ (q + w) 0) := by rw [up_g, if_pos rfl]
          have fU : frM (fun a => a = 403) (fun _ => False) I (up (up K 403 0 (oI (stO w ρ q 0))) 403 1 (oI (stO w ρ (q + w) 0))) := frM_up (frM_up hK (by decide) rfl) (by decide) rfl
          cases e0 : stO w ρ q 0 with
          | none =>
            rw [e0] at o0 sU o1 g0 g1 fU
            have eN : oI none = -2 := rfl
            have bb := oI_b (o := stO w ρ (q + w) 0) (m := 18) (fun k hk => (stO_s hk).1) (by omega)
            rw [eN] at o0 sU o1 g0 g1 fU
            (repeat (first | (with_reducible apply wm_o; focus (simp (disch := omega) only [wr_id, Int.toNat_natCast, Int.reduceToNat, tn_lk, tn_kl, if_pos, if_neg, ↓reduceIte, and_self, and_true, true_and, FM, o0, e10, sU, o1, g0, g1]; with_reducible rfl)) | (with_reducible apply wm_q) | (with_reducible apply wm_c; focus (first | assumption | decide +kernel)) | (with_reducible apply wm_d; focus (simp (disch := omega) only [wr_id, Int.toNat_natCast, Int.reduceToNat, tn_lk, tn_kl, if_pos, if_neg, ↓reduceIte, and_self, and_true, true_and, FM, o0, e10, sU, o1, g0, g1]; with_reducible rfl)) | (with_reducible apply wm_t; focus (first | omega | (simp (disch := omega) only [wr_id, FM, o0, e10, sU, o1, g0, g1]; omega) | (simp (disch := omega) only [wr_id, FM, o0, e10, sU, o1, g0, g1]; done))) | (with_reducible apply wm_f; focus (first | omega | (simp (disch := omega) only [wr_id, FM, o0, e10, sU, o1, g0, g1]; omega) | (simp (disch := omega) only [wr_id, FM, o0, e10, sU, o1, g0, g1]; done)))))
            refine hrec (0 + 1) _ _ (by omega) (by omega) ⟨rfl, fU, fun _ k => (by rw [e0] at k; cases k.1), fun k => by omega⟩
          | some k0 =>
            have a0 := stO_s e0
            rw [e0] at o0 sU o1 g0 g1 fU
            have eS : oI (some k0) = (k0 : Int) := rfl
            rw [eS] at o0 sU o1 g0 g1 fU
            cases e1 : stO w ρ (q + w) 0 with
            | none =>
              rw [e1] at o1 g0 g1 fU
              have eN : oI none = -2 := rfl
              rw [eN] at o1 g0 g1 fU
              (repeat (first | (with_reducible apply wm_o; focus (simp (disch := omega) only [wr_id, Int.toNat_natCast, Int.reduceToNat, tn_lk, tn_kl, if_pos, if_neg, ↓reduceIte, and_self, and_true, true_and, FM, o0, e10, sU, o1, g0, g1]; with_reducible rfl)) | (with_reducible apply wm_q) | (with_reducible apply wm_c; focus (first | assumption | decide +kernel)) | (with_reducible apply wm_d; focus (simp (disch := omega) only [wr_id, Int.toNat_natCast, Int.reduceToNat, tn_lk, tn_kl, if_pos, if_neg, ↓reduceIte, and_self, and_true, true_and, FM, o0, e10, sU, o1, g0, g1]; with_reducible rfl)) | (with_reducible apply wm_t; focus (first | omega | (simp (disch := omega) only [wr_id, FM, o0, e10, sU, o1, g0, g1]; omega) | (simp (disch := omega) only [wr_id, FM, o0, e10, sU, o1, g0, g1]; done))) | (with_reducible apply wm_f; focus (first | omega | (simp (disch := omega) only [wr_id, FM, o0, e10, sU, o1, g0, g1]; omega) | (simp (disch := omega) only [wr_id, FM, o0, e10, sU, o1, g0, g1]; done)))))
              refine hrec (0 + 1) _ _ (by omega) (by omega) ⟨rfl, fU, fun _ k => (by rw [e1] at k; cases k.2), fun k => by omega⟩
            | some k1 =>
              have a1 := stO_s e1
              rw [e1] at o1 g0 g1 fU
              have eS1 : oI (some k1) = (k1 : Int) := rfl
              rw [eS1] at o1 g0 g1 fU
              (repeat (first | (with_reducible apply wm_o; focus (simp (disch := omega) only [wr_id, Int.toNat_natCast, Int.reduceToNat, tn_lk, tn_kl, if_pos, if_neg, ↓reduceIte, and_self, and_true, true_and, FM, o0, e10, sU, o1, g0, g1]; with_reducible rfl)) | (with_reducible apply wm_q) | (with_reducible apply wm_c; focus (first | assumption | decide +kernel)) | (with_reducible apply wm_d; focus (simp (disch := omega) only [wr_id, Int.toNat_natCast, Int.reduceToNat, tn_lk, tn_kl, if_pos, if_neg, ↓reduceIte, and_self, and_true, true_and, FM, o0, e10, sU, o1, g0, g1]; with_reducible rfl)) | (with_reducible apply wm_t; focus (first | omega | (simp (disch := omega) only [wr_id, FM, o0, e10, sU, o1, g0, g1]; omega) | (simp (disch := omega) only [wr_id, FM, o0, e10, sU, o1, g0, g1]; done))) | (with_reducible apply wm_f; focus (first | omega | (simp (disch := omega) only [wr_id, FM, o0, e10, sU, o1, g0, g1]; omega) | (simp (disch := omega) only [wr_id, FM, o0, e10, sU, o1, g0, g1]; done)))))
              exact wm_z1 ⟨fU, Or.inr ⟨rfl, z, 0, k0, k1, ⟨⟨zr, zb⟩, Or.inl rfl, ⟨a0.1, a1.1⟩, a0.2.1, a1.2.1, a0.2.2.1, by rw [if_pos rfl]; have := a1.2.2.1; omega, a0.2.2.2, a1.2.2.2⟩, g0, g1⟩⟩
        · have o0 := m_stoneOf (t := t) (d := d) (rt := rt) cK hr K4 (x := q) (by omega) (a := 1) (Or.inr rfl)
          have sU := s0 (up K 403 0 (oI (stO w ρ q 1))) (cU _ _)
          rw [if_pos zr] at sU
          have o1 := m_stoneOf (t := t) (d := d) (rt := rt) (cU (oI (stO w ρ q 1)) 0) hr (U4 _ _) (x := q + 1) (by omega) (a := 1) (Or.inr rfl)
          have e10 : (1 : Int) - ((1 : Nat) : Int) = 0 := rfl
          have e11 : ((1 : Nat) : Int) = 1 := rfl
          have g0 : up (up K 403 0 (oI (stO w ρ q 1))) 403 1 (oI (stO w ρ (q + 1) 1)) 403 0 = oI (stO w ρ q 1) := by rw [up_g, if_neg (by decide), up_g, if_pos rfl]
          have g1 : up (up K 403 0 (oI (stO w ρ q 1))) 403 1 (oI (stO w ρ (q + 1) 1)) 403 1 = oI (stO w ρ (q + 1) 1) := by rw [up_g, if_pos rfl]
          have fU : frM (fun a => a = 403) (fun _ => False) I (up (up K 403 0 (oI (stO w ρ q 1))) 403 1 (oI (stO w ρ (q + 1) 1))) := frM_up (frM_up hK (by decide) rfl) (by decide) rfl
          rw [e11]
          have e10' : (1 : Int) - 1 = 0 := rfl
          cases e0 : stO w ρ q 1 with
          | none =>
            rw [e0] at o0 sU o1 g0 g1 fU
            have eN : oI none = -2 := rfl
            have bb := oI_b (o := stO w ρ (q + 1) 1) (m := 18) (fun k hk => (stO_s hk).1) (by omega)
            rw [eN] at o0 sU o1 g0 g1 fU
            (repeat (first | (with_reducible apply wm_o; focus (simp (disch := omega) only [wr_id, Int.toNat_natCast, Int.reduceToNat, tn_lk, tn_kl, if_pos, if_neg, ↓reduceIte, and_self, and_true, true_and, FM, o0, e10', sU, o1, g0, g1]; with_reducible rfl)) | (with_reducible apply wm_q) | (with_reducible apply wm_c; focus (first | assumption | decide +kernel)) | (with_reducible apply wm_d; focus (simp (disch := omega) only [wr_id, Int.toNat_natCast, Int.reduceToNat, tn_lk, tn_kl, if_pos, if_neg, ↓reduceIte, and_self, and_true, true_and, FM, o0, e10', sU, o1, g0, g1]; with_reducible rfl)) | (with_reducible apply wm_t; focus (first | omega | (simp (disch := omega) only [wr_id, FM, o0, e10', sU, o1, g0, g1]; omega) | (simp (disch := omega) only [wr_id, FM, o0, e10', sU, o1, g0, g1]; done))) | (with_reducible apply wm_f; focus (first | omega | (simp (disch := omega) only [wr_id, FM, o0, e10', sU, o1, g0, g1]; omega) | (simp (disch := omega) only [wr_id, FM, o0, e10', sU, o1, g0, g1]; done)))))
            refine hrec (1 + 1) _ _ (by omega) (by omega) ⟨rfl, fU, fun _ => n0 (by omega), fun _ k => by rw [e0] at k; cases k.1⟩
          | some k0 =>
            have a0 := stO_s e0
            rw [e0] at o0 sU o1 g0 g1 fU
            have eS : oI (some k0) = (k0 : Int) := rfl
            rw [eS] at o0 sU o1 g0 g1 fU
            cases e1 : stO w ρ (q + 1) 1 with
            | none =>
              rw [e1] at o1 g0 g1 fU
              have eN : oI none = -2 := rfl
              rw [eN] at o1 g0 g1 fU
              (repeat (first | (with_reducible apply wm_o; focus (simp (disch := omega) only [wr_id, Int.toNat_natCast, Int.reduceToNat, tn_lk, tn_kl, if_pos, if_neg, ↓reduceIte, and_self, and_true, true_and, FM, o0, e10', sU, o1, g0, g1]; with_reducible rfl)) | (with_reducible apply wm_q) | (with_reducible apply wm_c; focus (first | assumption | decide +kernel)) | (with_reducible apply wm_d; focus (simp (disch := omega) only [wr_id, Int.toNat_natCast, Int.reduceToNat, tn_lk, tn_kl, if_pos, if_neg, ↓reduceIte, and_self, and_true, true_and, FM, o0, e10', sU, o1, g0, g1]; with_reducible rfl)) | (with_reducible apply wm_t; focus (first | omega | (simp (disch := omega) only [wr_id, FM, o0, e10', sU, o1, g0, g1]; omega) | (simp (disch := omega) only [wr_id, FM, o0, e10', sU, o1, g0, g1]; done))) | (with_reducible apply wm_f; focus (first | omega | (simp (disch := omega) only [wr_id, FM, o0, e10', sU, o1, g0, g1]; omega) | (simp (disch := omega) only [wr_id, FM, o0, e10', sU, o1, g0, g1]; done)))))
              refine hrec (1 + 1) _ _ (by omega) (by omega) ⟨rfl, fU, fun _ => n0 (by omega), fun _ k => by rw [e1] at k; cases k.2⟩
            | some k1 =>
              have a1 := stO_s e1
              rw [e1] at o1 g0 g1 fU
              have eS1 : oI (some k1) = (k1 : Int) := rfl
              rw [eS1] at o1 g0 g1 fU
              (repeat (first | (with_reducible apply wm_o; focus (simp (disch := omega) only [wr_id, Int.toNat_natCast, Int.reduceToNat, tn_lk, tn_kl, if_pos, if_neg, ↓reduceIte, and_self, and_true, true_and, FM, o0, e10', sU, o1, g0, g1]; with_reducible rfl)) | (with_reducible apply wm_q) | (with_reducible apply wm_c; focus (first | assumption | decide +kernel)) | (with_reducible apply wm_d; focus (simp (disch := omega) only [wr_id, Int.toNat_natCast, Int.reduceToNat, tn_lk, tn_kl, if_pos, if_neg, ↓reduceIte, and_self, and_true, true_and, FM, o0, e10', sU, o1, g0, g1]; with_reducible rfl)) | (with_reducible apply wm_t; focus (first | omega | (simp (disch := omega) only [wr_id, FM, o0, e10', sU, o1, g0, g1]; omega) | (simp (disch := omega) only [wr_id, FM, o0, e10', sU, o1, g0, g1]; done))) | (with_reducible apply wm_f; focus (first | omega | (simp (disch := omega) only [wr_id, FM, o0, e10', sU, o1, g0, g1]; omega) | (simp (disch := omega) only [wr_id, FM, o0, e10', sU, o1, g0, g1]; done)))))
              exact wm_z1 ⟨fU, Or.inr ⟨rfl, z, 1, k0, k1, ⟨⟨zr, zb⟩, Or.inr rfl, ⟨a0.1, a1.1⟩, a0.2.1, a1.2.1, a0.2.2.1, by rw [if_neg (by decide)]; have := a1.2.2.1; omega, a0.2.2.2, a1.2.2.2⟩, g0, g1⟩⟩
        · (repeat (first | (with_reducible apply wm_o; focus (simp (disch := omega) only [wr_id, Int.toNat_natCast, Int.reduceToNat, tn_lk, tn_kl, if_pos, if_neg, ↓reduceIte, and_self, and_true, true_and]; with_reducible rfl)) | (with_reducible apply wm_q) | (with_reducible apply wm_c; focus (first | assumption | decide +kernel)) | (with_reducible apply wm_d; focus (simp (disch := omega) only [wr_id, Int.toNat_natCast, Int.reduceToNat, tn_lk, tn_kl, if_pos, if_neg, ↓reduceIte, and_self, and_true, true_and]; with_reducible rfl)) | (with_reducible apply wm_t; focus (first | omega | (simp (disch := omega) only [wr_id]; omega) | (simp (disch := omega) only [wr_id]; done))) | (with_reducible apply wm_f; focus (first | omega | (simp (disch := omega) only [wr_id]; omega) | (simp (disch := omega) only [wr_id]; done)))))
          refine wm_z0 ⟨hK, Or.inl ⟨rfl, fun k => ?_⟩⟩
          have k2 := k.2
          unfold ctB at k2
          rw [Bool.and_eq_true, Bool.or_eq_true, Bool.and_eq_true, Bool.and_eq_true] at k2
          rcases k2.2 with g | g
          · exact n0 (by omega) g
          · exact n1 (by omega) g
      · rw [if_neg zb] at s1I
        (repeat (first | (with_reducible apply wm_o; focus (simp (disch := omega) only [wr_id, Int.toNat_natCast, Int.reduceToNat, tn_lk, tn_kl, if_pos, if_neg, ↓reduceIte, and_self, and_true, true_and, hic, s0I, s1I]; with_reducible rfl)) | (with_reducible apply wm_q) | (with_reducible apply wm_c; focus (first | assumption | decide +kernel)) | (with_reducible apply wm_d; focus (simp (disch := omega) only [wr_id, Int.toNat_natCast, Int.reduceToNat, tn_lk, tn_kl, if_pos, if_neg, ↓reduceIte, and_self, and_true, true_and, hic, s0I, s1I]; with_reducible rfl)) | (with_reducible apply wm_t; focus (first | omega | (simp (disch := omega) only [wr_id, hic, s0I, s1I]; omega) | (simp (disch := omega) only [wr_id, hic, s0I, s1I]; done))) | (with_reducible apply wm_f; focus (first | omega | (simp (disch := omega) only [wr_id, hic, s0I, s1I]; omega) | (simp (disch := omega) only [wr_id, hic, s0I, s1I]; done)))))
        exact wm_z0 ⟨frM_refl _ _ _, Or.inl ⟨rfl, no (fun ⟨a, k0, k1, hX⟩ => zb hX.1.2)⟩⟩
    · rw [if_neg zr] at s0I
      (repeat (first | (with_reducible apply wm_o; focus (simp (disch := omega) only [wr_id, Int.toNat_natCast, Int.reduceToNat, tn_lk, tn_kl, if_pos, if_neg, ↓reduceIte, and_self, and_true, true_and, hic, s0I]; with_reducible rfl)) | (with_reducible apply wm_q) | (with_reducible apply wm_c; focus (first | assumption | decide +kernel)) | (with_reducible apply wm_d; focus (simp (disch := omega) only [wr_id, Int.toNat_natCast, Int.reduceToNat, tn_lk, tn_kl, if_pos, if_neg, ↓reduceIte, and_self, and_true, true_and, hic, s0I]; with_reducible rfl)) | (with_reducible apply wm_t; focus (first | omega | (simp (disch := omega) only [wr_id, hic, s0I]; omega) | (simp (disch := omega) only [wr_id, hic, s0I]; done))) | (with_reducible apply wm_f; focus (first | omega | (simp (disch := omega) only [wr_id, hic, s0I]; omega) | (simp (disch := omega) only [wr_id, hic, s0I]; done)))))
      exact wm_z0 ⟨frM_refl _ _ _, Or.inl ⟨rfl, no (fun ⟨a, k0, k1, hX⟩ => zr hX.1.1)⟩⟩
  · have hic := s_isCell_f (t := t) (d := d) (rt := rt) c hx (by unfold in32 at hx; omega)
    (repeat (first | (with_reducible apply wm_o; focus (simp (disch := omega) only [wr_id, Int.toNat_natCast, Int.reduceToNat, tn_lk, tn_kl, if_pos, if_neg, ↓reduceIte, and_self, and_true, true_and, hic]; with_reducible rfl)) | (with_reducible apply wm_q) | (with_reducible apply wm_c; focus (first | assumption | decide +kernel)) | (with_reducible apply wm_d; focus (simp (disch := omega) only [wr_id, Int.toNat_natCast, Int.reduceToNat, tn_lk, tn_kl, if_pos, if_neg, ↓reduceIte, and_self, and_true, true_and, hic]; with_reducible rfl)) | (with_reducible apply wm_t; focus (first | omega | (simp (disch := omega) only [wr_id, hic]; omega) | (simp (disch := omega) only [wr_id, hic]; done))) | (with_reducible apply wm_f; focus (first | omega | (simp (disch := omega) only [wr_id, hic]; omega) | (simp (disch := omega) only [wr_id, hic]; done)))))
    exact wm_z0 ⟨frM_refl _ _ _, Or.inl ⟨rfl, fun k => z k.1⟩⟩
end TU
