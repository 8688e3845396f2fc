/-! ===== the model reads tokens ===== -/
def kR (k : Nat) : Prop := k ≤ 3 ∨ (10 ≤ k ∧ k ≤ 18) ∨ (20 ≤ k ∧ k ≤ 38)
def kRB (k : Nat) : Bool := decide (k ≤ 3) || (decide (10 ≤ k) && decide (k ≤ 18)) || (decide (20 ≤ k) && decide (k ≤ 38))
theorem kRB_of {k : Nat} (h : kR k) : kRB k = true := by
  unfold kRB
  simp only [Bool.or_eq_true, Bool.and_eq_true, decide_eq_true_eq]
  unfold kR at h
  omega
theorem mk_dec : ∀ k : Nat, k < 39 → ∀ j : Nat, j < 39 → (!(kRB k && kRB j && (mkK k == mkK j)) || k == j) = true := by decide +kernel
theorem mk_inj {k j : Nat} (hk : kR k) (hj : kR j) (h : mkK k = mkK j) : k = j := by
  have e := mk_dec k (by unfold kR at hk; omega) j (by unfold kR at hj; omega)
  rw [kRB_of hk, kRB_of hj, h, beq_self_eq_true] at e
  exact eq_of_beq e
theorem mk_lt : ∀ k : Nat, k < 39 → mkK k < 39 := by decide +kernel
def tbM (K : Nat → Nat) (V : Nat → Int) (ps : Nat → Nat) (I : Nat → Nat → Int) : Prop := ∀ i, i ≤ 400 → (∀ j, j < i → K j ≠ 0) → I 372 i = (mkK (K i) : Int) ∧ I 373 i = (ps i : Int) ∧ (K i = 3 → I 374 i = V i)
def rdM (K : Nat → Nat) (V : Nat → Int) (ps : Nat → Nat) (I : Nat → Nat → Int) (t : Nat) : Prop := tbM K V ps I ∧ I 369 11 = (t : Int) ∧ I 369 13 = 0 ∧ t ≤ 400 ∧ ∀ j, j < t → K j ≠ 0
/-- a fault is told; the rest goes idle -/
def fltM (ps : Nat → Nat) (I : Nat → Nat → Int) (c q : Nat) : Prop := (c = 1 ∨ c = 2) ∧ I 369 13 = (c : Int) ∧ I 369 14 = (ps q : Int) ∧ ∃ t : Nat, I 369 11 = (t : Int) ∧ t ≤ 400
section MR
variable {t d rt : Nat} {I J : Nat → Nat → Int} {K : Nat → Nat} {V : Nat → Int} {ps : Nat → Nat} {i : Nat}
theorem tbM_frm (h1 : J 372 = I 372) (h2 : J 373 = I 373) (h3 : J 374 = I 374) (h : tbM K V ps I) : tbM K V ps J := by
  unfold tbM at h ⊢
  rw [h1, h2, h3]; exact h
theorem q_is (hk : ∀ i, kR (K i)) (hR : rdM K V ps I i) {j : Nat} {z : Int} (hz : z = (mkK j : Int)) (hj : kR j) : f_X12_is 369 z (mm t d rt I) = some ((if K i = j then 1 else 0), mm t d rt I) := by
  obtain ⟨h1, h2, h3, h4, h5⟩ := hR
  have e := (h1 i h4 h5).1
  have l1 := mk_lt (K i) (by have := hk i; unfold kR at this; omega)
  have l2 := mk_lt j (by unfold kR at hj; omega)
  rw [hz]
  apply wm_eq
  unfold f_X12_is
  by_cases c : K i = j
  · rw [if_pos c]
    have e2 : mkK (K i) = mkK j := by rw [c]
    (repeat (first | (with_reducible apply wm_o; focus (simp (disch := omega) only [wr_id, Int.toNat_natCast, Int.reduceToNat, tn_lk, tn_kl, if_pos, if_neg, ↓reduceIte, and_self, and_true, true_and, FM, h3, h2, e]; with_reducible rfl)) | (with_reducible apply wm_q) | (with_reducible apply wm_c; focus (first | assumption | decide +kernel)) | (with_reducible apply wm_d; focus (simp (disch := omega) only [wr_id, Int.toNat_natCast, Int.reduceToNat, tn_lk, tn_kl, if_pos, if_neg, ↓reduceIte, and_self, and_true, true_and, FM, h3, h2, e]; with_reducible rfl)) | (with_reducible apply wm_t; focus (first | omega | (simp (disch := omega) only [wr_id, FM, h3, h2, e]; omega) | (simp (disch := omega) only [wr_id, FM, h3, h2, e]; done))) | (with_reducible apply wm_f; focus (first | omega | (simp (disch := omega) only [wr_id, FM, h3, h2, e]; omega) | (simp (disch := omega) only [wr_id, FM, h3, h2, e]; done)))))
    exact wm_z1 ⟨rfl, rfl⟩
  · rw [if_neg c]
    have e2 : mkK (K i) ≠ mkK j := fun q => c (mk_inj (hk i) hj q)
    (repeat (first | (with_reducible apply wm_o; focus (simp (disch := omega) only [wr_id, Int.toNat_natCast, Int.reduceToNat, tn_lk, tn_kl, if_pos, if_neg, ↓reduceIte, and_self, and_true, true_and, FM, h3, h2, e]; with_reducible rfl)) | (with_reducible apply wm_q) | (with_reducible apply wm_c; focus (first | assumption | decide +kernel)) | (with_reducible apply wm_d; focus (simp (disch := omega) only [wr_id, Int.toNat_natCast, Int.reduceToNat, tn_lk, tn_kl, if_pos, if_neg, ↓reduceIte, and_self, and_true, true_and, FM, h3, h2, e]; with_reducible rfl)) | (with_reducible apply wm_t; focus (first | omega | (simp (disch := omega) only [wr_id, FM, h3, h2, e]; omega) | (simp (disch := omega) only [wr_id, FM, h3, h2, e]; done))) | (with_reducible apply wm_f; focus (first | omega | (simp (disch := omega) only [wr_id, FM, h3, h2, e]; omega) | (simp (disch := omega) only [wr_id, FM, h3, h2, e]; done)))))
    exact wm_z0 ⟨rfl, rfl⟩
theorem q_isF {c q : Nat} (hF : fltM ps I c q) {z : Int} : f_X12_is 369 z (mm t d rt I) = some (0, mm t d rt I) := by
  obtain ⟨h1, h2, h3, s, h4, h5⟩ := hF
  apply wm_eq
  unfold f_X12_is
  (repeat (first | (with_reducible apply wm_o; focus (simp (disch := omega) only [wr_id, Int.toNat_natCast, Int.reduceToNat, tn_lk, tn_kl, if_pos, if_neg, ↓reduceIte, and_self, and_true, true_and, FM, h2]; with_reducible rfl)) | (with_reducible apply wm_q) | (with_reducible apply wm_c; focus (first | assumption | decide +kernel)) | (with_reducible apply wm_d; focus (simp (disch := omega) only [wr_id, Int.toNat_natCast, Int.reduceToNat, tn_lk, tn_kl, if_pos, if_neg, ↓reduceIte, and_self, and_true, true_and, FM, h2]; with_reducible rfl)) | (with_reducible apply wm_t; focus (first | omega | (simp (disch := omega) only [wr_id, FM, h2]; omega) | (simp (disch := omega) only [wr_id, FM, h2]; done))) | (with_reducible apply wm_f; focus (first | omega | (simp (disch := omega) only [wr_id, FM, h2]; omega) | (simp (disch := omega) only [wr_id, FM, h2]; done)))))
  exact wm_z0 ⟨rfl, rfl⟩
def flI (ps : Nat → Nat) (I : Nat → Nat → Int) (c i : Nat) : Nat → Nat → Int := up (up I 369 13 (c : Int)) 369 14 (ps i : Int)
theorem q_fail (hR : rdM K V ps I i) {c : Nat} {z : Int} (hz : z = (c : Int)) : f_X12_fail 369 z (mm t d rt I) = some (0, mm t d rt (flI ps I c i)) := by
  obtain ⟨h1, h2, h3, h4, h5⟩ := hR
  have e := (h1 i h4 h5).2.1
  rw [hz]
  have u1 : up I 369 13 (c : Int) 369 11 = (i : Int) := by rw [up_g, if_neg (by decide)]; exact h2
  have u2 : up I 369 13 (c : Int) 373 i = (ps i : Int) := by rw [up_ne (by decide)]; exact e
  apply wm_eq
  unfold f_X12_fail flI
  (repeat (first | (with_reducible apply wm_o; focus (simp (disch := omega) only [wr_id, Int.toNat_natCast, Int.reduceToNat, tn_lk, tn_kl, if_pos, if_neg, ↓reduceIte, and_self, and_true, true_and, FM, h3, u1, u2]; with_reducible rfl)) | (with_reducible apply wm_q) | (with_reducible apply wm_c; focus (first | assumption | decide +kernel)) | (with_reducible apply wm_d; focus (simp (disch := omega) only [wr_id, Int.toNat_natCast, Int.reduceToNat, tn_lk, tn_kl, if_pos, if_neg, ↓reduceIte, and_self, and_true, true_and, FM, h3, u1, u2]; with_reducible rfl)) | (with_reducible apply wm_t; focus (first | omega | (simp (disch := omega) only [wr_id, FM, h3, u1, u2]; omega) | (simp (disch := omega) only [wr_id, FM, h3, u1, u2]; done))) | (with_reducible apply wm_f; focus (first | omega | (simp (disch := omega) only [wr_id, FM, h3, u1, u2]; omega) | (simp (disch := omega) only [wr_id, FM, h3, u1, u2]; done)))))
  exact wm_r ⟨rfl, rfl⟩
theorem flI_ok (hR : rdM K V ps I i) {c : Nat} (hc : c = 1 ∨ c = 2) : fltM ps (flI ps I c i) c i := by
  obtain ⟨h1, h2, h3, h4, h5⟩ := hR
  unfold flI
  refine ⟨hc, ?_, up_s _ _ _ _, i, ?_, h4⟩
  · rw [up_g, if_neg (by decide), up_s]
  · rw [up_g, if_neg (by decide), up_g, if_neg (by decide)]; exact h2
theorem flI_frm {S T : Nat → Prop} {c : Nat} (h13 : T 13) (h14 : T 14) : frM S T I (flI ps I c i) := frM_fd (frM_fd (frM_refl _ _ _) h13) h14
theorem q_failF {c q : Nat} (hF : fltM ps I c q) {z : Int} : f_X12_fail 369 z (mm t d rt I) = some (0, mm t d rt I) := by
  obtain ⟨h1, h2, h3, s, h4, h5⟩ := hF
  apply wm_eq
  unfold f_X12_fail
  (repeat (first | (with_reducible apply wm_o; focus (simp (disch := omega) only [wr_id, Int.toNat_natCast, Int.reduceToNat, tn_lk, tn_kl, if_pos, if_neg, ↓reduceIte, and_self, and_true, true_and, FM, h2]; with_reducible rfl)) | (with_reducible apply wm_q) | (with_reducible apply wm_c; focus (first | assumption | decide +kernel)) | (with_reducible apply wm_d; focus (simp (disch := omega) only [wr_id, Int.toNat_natCast, Int.reduceToNat, tn_lk, tn_kl, if_pos, if_neg, ↓reduceIte, and_self, and_true, true_and, FM, h2]; with_reducible rfl)) | (with_reducible apply wm_t; focus (first | omega | (simp (disch := omega) only [wr_id, FM, h2]; omega) | (simp (disch := omega) only [wr_id, FM, h2]; done))) | (with_reducible apply wm_f; focus (first | omega | (simp (disch := omega) only [wr_id, FM, h2]; omega) | (simp (disch := omega) only [wr_id, FM, h2]; done)))))
  exact wm_r ⟨rfl, rfl⟩
theorem w_goesOn (hR : rdM K V ps I i) (hK : K i ≠ 0) : wm t d rt (f_X12_goesOn 369 (mm t d rt I)) (fun r J => r = 0 ∧ ((i < 400 ∧ J = up I 369 11 ((i : Int) + 1) ∧ rdM K V ps J (i + 1)) ∨ (¬ i < 400 ∧ J = flI ps I 2 i ∧ fltM ps J 2 i))) := by
  have hR' := hR
  obtain ⟨h1, h2, h3, h4, h5⟩ := hR
  unfold f_X12_goesOn
  by_cases c : i < 400
  · (repeat (first | (with_reducible apply wm_o; focus (simp (disch := omega) only [wr_id, Int.toNat_natCast, Int.reduceToNat, tn_lk, tn_kl, if_pos, if_neg, ↓reduceIte, and_self, and_true, true_and, FM, h2]; with_reducible rfl)) | (with_reducible apply wm_q) | (with_reducible apply wm_c; focus (first | assumption | decide +kernel)) | (with_reducible apply wm_d; focus (simp (disch := omega) only [wr_id, Int.toNat_natCast, Int.reduceToNat, tn_lk, tn_kl, if_pos, if_neg, ↓reduceIte, and_self, and_true, true_and, FM, h2]; with_reducible rfl)) | (with_reducible apply wm_t; focus (first | omega | (simp (disch := omega) only [wr_id, FM, h2]; omega) | (simp (disch := omega) only [wr_id, FM, h2]; done))) | (with_reducible apply wm_f; focus (first | omega | (simp (disch := omega) only [wr_id, FM, h2]; omega) | (simp (disch := omega) only [wr_id, FM, h2]; done)))))
    refine wm_r ⟨rfl, Or.inl ⟨c, rfl, tbM_frm (up_ne (by decide)) (up_ne (by decide)) (up_ne (by decide)) h1, ?_, ?_, by omega, fun j hj => ?_⟩⟩
    · rw [up_s]; omega
    · rw [up_g, if_neg (by decide)]; exact h3
    · by_cases e : j = i
      · rw [e]; exact hK
      · exact h5 j (by omega)
  · have fl := q_fail (t := t) (d := d) (rt := rt) hR' (c := 2) (z := 2) rfl
    (repeat (first | (with_reducible apply wm_o; focus (simp (disch := omega) only [wr_id, Int.toNat_natCast, Int.reduceToNat, tn_lk, tn_kl, if_pos, if_neg, ↓reduceIte, and_self, and_true, true_and, FM, h2, fl]; with_reducible rfl)) | (with_reducible apply wm_q) | (with_reducible apply wm_c; focus (first | assumption | decide +kernel)) | (with_reducible apply wm_d; focus (simp (disch := omega) only [wr_id, Int.toNat_natCast, Int.reduceToNat, tn_lk, tn_kl, if_pos, if_neg, ↓reduceIte, and_self, and_true, true_and, FM, h2, fl]; with_reducible rfl)) | (with_reducible apply wm_t; focus (first | omega | (simp (disch := omega) only [wr_id, FM, h2, fl]; omega) | (simp (disch := omega) only [wr_id, FM, h2, fl]; done))) | (with_reducible apply wm_f; focus (first | omega | (simp (disch := omega) only [wr_id, FM, h2, fl]; omega) | (simp (disch := omega) only [wr_id, FM, h2, fl]; done)))))
    exact wm_r ⟨rfl, Or.inr ⟨c, rfl, flI_ok hR' (Or.inr rfl)⟩⟩
theorem w_goesOnF {c q : Nat} (hF : fltM ps I c q) : wm t d rt (f_X12_goesOn 369 (mm t d rt I)) (fun r J => r = 0 ∧ fltM ps J c q ∧ frM (fun _ => False) (fun j => j = 11) I J) := by
  have hF' := hF
  obtain ⟨h1, h2, h3, s, h4, h5⟩ := hF
  unfold f_X12_goesOn
  by_cases z : s = 400
  · have fl := q_failF (t := t) (d := d) (rt := rt) hF' (z := 2)
    (repeat (first | (with_reducible apply wm_o; focus (simp (disch := omega) only [wr_id, Int.toNat_natCast, Int.reduceToNat, tn_lk, tn_kl, if_pos, if_neg, ↓reduceIte, and_self, and_true, true_and, FM, h4, fl]; with_reducible rfl)) | (with_reducible apply wm_q) | (with_reducible apply wm_c; focus (first | assumption | decide +kernel)) | (with_reducible apply wm_d; focus (simp (disch := omega) only [wr_id, Int.toNat_natCast, Int.reduceToNat, tn_lk, tn_kl, if_pos, if_neg, ↓reduceIte, and_self, and_true, true_and, FM, h4, fl]; with_reducible rfl)) | (with_reducible apply wm_t; focus (first | omega | (simp (disch := omega) only [wr_id, FM, h4, fl]; omega) | (simp (disch := omega) only [wr_id, FM, h4, fl]; done))) | (with_reducible apply wm_f; focus (first | omega | (simp (disch := omega) only [wr_id, FM, h4, fl]; omega) | (simp (disch := omega) only [wr_id, FM, h4, fl]; done)))))
    exact wm_r ⟨rfl, hF', frM_refl _ _ _⟩
  · (repeat (first | (with_reducible apply wm_o; focus (simp (disch := omega) only [wr_id, Int.toNat_natCast, Int.reduceToNat, tn_lk, tn_kl, if_pos, if_neg, ↓reduceIte, and_self, and_true, true_and, FM, h4]; with_reducible rfl)) | (with_reducible apply wm_q) | (with_reducible apply wm_c; focus (first | assumption | decide +kernel)) | (with_reducible apply wm_d; focus (simp (disch := omega) only [wr_id, Int.toNat_natCast, Int.reduceToNat, tn_lk, tn_kl, if_pos, if_neg, ↓reduceIte, and_self, and_true, true_and, FM, h4]; with_reducible rfl)) | (with_reducible apply wm_t; focus (first | omega | (simp (disch := omega) only [wr_id, FM, h4]; omega) | (simp (disch := omega) only [wr_id, FM, h4]; done))) | (with_reducible apply wm_f; focus (first | omega | (simp (disch := omega) only [wr_id, FM, h4]; omega) | (simp (disch := omega) only [wr_id, FM, h4]; done)))))
    refine wm_r ⟨rfl, ⟨h1, ?_, ?_, s + 1, ?_, by omega⟩, frM_fd (frM_refl _ _ _) rfl⟩
    · rw [up_g, if_neg (by decide)]; exact h2
    · rw [up_g, if_neg (by decide)]; exact h3
    · rw [up_s]; omega
/-- fields that reading tokens changes -/
def tkT : Nat → Prop := fun j => j = 11 ∨ j = 13 ∨ j = 14
theorem w_must (hk : ∀ i, kR (K i)) (hR : rdM K V ps I i) {j : Nat} {z : Int} (hz : z = (mkK j : Int)) (hj : kR j) (hj0 : j ≠ 0) : wm t d rt (f_X12_must 369 z (mm t d rt I)) (fun _ J => frM (fun _ => False) tkT I J ∧ ((tokR K j i = eok (i + 1) () ∧ rdM K V ps J (i + 1)) ∨ ∃ c q, tokR K j i = efl c q ∧ fltM ps J c q)) := by
  unfold f_X12_must tokR
  have e1 := q_is (t := t) (d := d) (rt := rt) hk hR hz hj
  by_cases c : K i = j
  · rw [if_pos c] at e1 ⊢
    (repeat (first | (with_reducible apply wm_o; focus (simp (disch := omega) only [wr_id, Int.toNat_natCast, Int.reduceToNat, tn_lk, tn_kl, if_pos, if_neg, ↓reduceIte, and_self, and_true, true_and, FM, e1]; with_reducible rfl)) | (with_reducible apply wm_q) | (with_reducible apply wm_c; focus (first | assumption | decide +kernel)) | (with_reducible apply wm_d; focus (simp (disch := omega) only [wr_id, Int.toNat_natCast, Int.reduceToNat, tn_lk, tn_kl, if_pos, if_neg, ↓reduceIte, and_self, and_true, true_and, FM, e1]; with_reducible rfl)) | (with_reducible apply wm_t; focus (first | omega | (simp (disch := omega) only [wr_id, FM, e1]; omega) | (simp (disch := omega) only [wr_id, FM, e1]; done))) | (with_reducible apply wm_f; focus (first | omega | (simp (disch := omega) only [wr_id, FM, e1]; omega) | (simp (disch := omega) only [wr_id, FM, e1]; done)))))
    refine wm_b (w_goesOn hR (by omega)) (fun r J hJ => ?_)
    rcases hJ with ⟨_, ⟨a1, rfl, a2⟩ | ⟨a1, rfl, a2⟩⟩
    · rw [if_pos a1]
      exact wm_r ⟨frM_fd (frM_refl _ _ _) (Or.inl rfl), Or.inl ⟨rfl, a2⟩⟩
    · rw [if_neg a1]
      exact wm_r ⟨flI_frm (Or.inr (Or.inl rfl)) (Or.inr (Or.inr rfl)), Or.inr ⟨2, i, rfl, a2⟩⟩
  · rw [if_neg c] at e1 ⊢
    have fl := q_fail (t := t) (d := d) (rt := rt) hR (c := 1) (z := 1) rfl
    (repeat (first | (with_reducible apply wm_o; focus (simp (disch := omega) only [wr_id, Int.toNat_natCast, Int.reduceToNat, tn_lk, tn_kl, if_pos, if_neg, ↓reduceIte, and_self, and_true, true_and, FM, e1, fl]; with_reducible rfl)) | (with_reducible apply wm_q) | (with_reducible apply wm_c; focus (first | assumption | decide +kernel)) | (with_reducible apply wm_d; focus (simp (disch := omega) only [wr_id, Int.toNat_natCast, Int.reduceToNat, tn_lk, tn_kl, if_pos, if_neg, ↓reduceIte, and_self, and_true, true_and, FM, e1, fl]; with_reducible rfl)) | (with_reducible apply wm_t; focus (first | omega | (simp (disch := omega) only [wr_id, FM, e1, fl]; omega) | (simp (disch := omega) only [wr_id, FM, e1, fl]; done))) | (with_reducible apply wm_f; focus (first | omega | (simp (disch := omega) only [wr_id, FM, e1, fl]; omega) | (simp (disch := omega) only [wr_id, FM, e1, fl]; done)))))
    exact wm_r ⟨flI_frm (Or.inr (Or.inl rfl)) (Or.inr (Or.inr rfl)), Or.inr ⟨1, i, rfl, flI_ok hR (Or.inl rfl)⟩⟩
theorem q_mustF {c q : Nat} (hF : fltM ps I c q) {z : Int} : f_X12_must 369 z (mm t d rt I) = some (0, mm t d rt I) := by
  have e1 := q_isF (t := t) (d := d) (rt := rt) hF (z := z)
  have e2 := q_failF (t := t) (d := d) (rt := rt) hF (z := 1)
  apply wm_eq
  unfold f_X12_must
  (repeat (first | (with_reducible apply wm_o; focus (simp (disch := omega) only [wr_id, Int.toNat_natCast, Int.reduceToNat, tn_lk, tn_kl, if_pos, if_neg, ↓reduceIte, and_self, and_true, true_and, FM, e1, e2]; with_reducible rfl)) | (with_reducible apply wm_q) | (with_reducible apply wm_c; focus (first | assumption | decide +kernel)) | (with_reducible apply wm_d; focus (simp (disch := omega) only [wr_id, Int.toNat_natCast, Int.reduceToNat, tn_lk, tn_kl, if_pos, if_neg, ↓reduceIte, and_self, and_true, true_and, FM, e1, e2]; with_reducible rfl)) | (with_reducible apply wm_t; focus (first | omega | (simp (disch := omega) only [wr_id, FM, e1, e2]; omega) | (simp (disch := omega) only [wr_id, FM, e1, e2]; done))) | (with_reducible apply wm_f; focus (first | omega | (simp (disch := omega) only [wr_id, FM, e1, e2]; omega) | (simp (disch := omega) only [wr_id, FM, e1, e2]; done)))))
  exact wm_r ⟨rfl, rfl⟩
def emI (I : Nat → Nat → Int) (n : Nat) (a v : Int) : Nat → Nat → Int := up (up (up I 394 n a) 395 n v) 369 38 ((n : Int) + 1)
theorem q_emit {n : Nat} {a v : Int} (h : I 369 38 = (n : Int)) (hn : n < 840) : f_X12_emit 369 a v (mm t d rt I) = some (0, mm t d rt (emI I n a v)) := by
  have u1 : up I 394 n a 369 38 = (n : Int) := by rw [up_ne (by decide)]; exact h
  have u2 : up (up I 394 n a) 395 n v 369 38 = (n : Int) := by rw [up_ne (by decide)]; exact u1
  apply wm_eq
  unfold f_X12_emit emI
  (repeat (first | (with_reducible apply wm_o; focus (simp (disch := omega) only [wr_id, Int.toNat_natCast, Int.reduceToNat, tn_lk, tn_kl, if_pos, if_neg, ↓reduceIte, and_self, and_true, true_and, FM, h, u1, u2]; with_reducible rfl)) | (with_reducible apply wm_q) | (with_reducible apply wm_c; focus (first | assumption | decide +kernel)) | (with_reducible apply wm_d; focus (simp (disch := omega) only [wr_id, Int.toNat_natCast, Int.reduceToNat, tn_lk, tn_kl, if_pos, if_neg, ↓reduceIte, and_self, and_true, true_and, FM, h, u1, u2]; with_reducible rfl)) | (with_reducible apply wm_t; focus (first | omega | (simp (disch := omega) only [wr_id, FM, h, u1, u2]; omega) | (simp (disch := omega) only [wr_id, FM, h, u1, u2]; done))) | (with_reducible apply wm_f; focus (first | omega | (simp (disch := omega) only [wr_id, FM, h, u1, u2]; omega) | (simp (disch := omega) only [wr_id, FM, h, u1, u2]; done)))))
  exact wm_r ⟨rfl, rfl⟩
theorem em_frm {S T : Nat → Prop} {n : Nat} {a v : Int} (h1 : S 394) (h2 : S 395) (h3 : T 38) : frM S T I (emI I n a v) := frM_fd (frM_up (frM_up (frM_refl _ _ _) (by decide) h1) (by decide) h2) h3
theorem em_row {n p : Nat} {a v : Int} : emI I n a v 394 p = (if p = n then a else I 394 p) ∧ emI I n a v 395 p = (if p = n then v else I 395 p) := by
  unfold emI
  refine ⟨?_, ?_⟩
  · rw [up_ne (by decide), up_ne (by decide), up_g]
  · rw [up_ne (by decide), up_g, up_ne (by decide)]
theorem em_f {n j : Nat} {a v : Int} (h : j ≠ 38) : emI I n a v 369 j = I 369 j := by
  unfold emI
  rw [up_g, if_neg h, up_ne (by decide), up_ne (by decide)]
end MR
