/-! ===== the class reads tokens ===== -/
def kvOK (K : Nat → Nat) (V : Nat → Int) (ps : Nat → Nat) : Prop := ∀ i, K i < 39 ∧ ps i ≤ 2000 ∧ (K i = 3 → 0 ≤ V i ∧ V i ≤ 9999)
def tbC (K : Nat → Nat) (V : Nat → Int) (ps : Nat → Nat) (I : Nat → Nat → Int) : Prop := ∀ i, i ≤ 400 → (∀ j, j < i → K j ≠ 0) → I 31 i = (K i : Int) ∧ I 32 i = (ps i : Int) ∧ (K i = 3 → I 33 i = V i)
/-- at token t, with sp steps -/
def rdC (K : Nat → Nat) (V : Nat → Int) (ps : Nat → Nat) (l : Nat) (I : Nat → Nat → Int) (t sp : Nat) : Prop := tbC K V ps I ∧ I 29 3 = (t : Int) ∧ I 29 4 = (K t : Int) ∧ I 29 5 = (ps t : Int) ∧ I 29 7 = 0 ∧ I l 4 = (sp : Int) ∧ t ≤ 400 ∧ (∀ j, j < t → K j ≠ 0) ∧ I 29 8 = -1
/-- what reading a sum changes -/
def frP (l : Nat) (I J : Nat → Nat → Int) : Prop := (∀ a, a ≠ 29 → a ≠ l → a ≠ l + 1 → a ≠ l + 2 → J a = I a) ∧ (∀ j, j ≠ 3 → j ≠ 4 → j ≠ 5 → j ≠ 7 → j ≠ 8 → J 29 j = I 29 j)
theorem frP_refl (l : Nat) (I : Nat → Nat → Int) : frP l I I := ⟨fun _ _ _ _ _ => rfl, fun _ _ _ _ _ _ => rfl⟩
theorem frP_trans {l : Nat} {I J K : Nat → Nat → Int} (h1 : frP l I J) (h2 : frP l J K) : frP l I K := ⟨fun a b1 b2 b3 b4 => (h2.1 a b1 b2 b3 b4).trans (h1.1 a b1 b2 b3 b4), fun j b1 b2 b3 b4 b5 => (h2.2 j b1 b2 b3 b4 b5).trans (h1.2 j b1 b2 b3 b4 b5)⟩
theorem frP_up {l : Nat} {I J : Nat → Nat → Int} {a j : Nat} {v : Int} (h : frP l I J) (ha : a = l ∨ a = l + 1 ∨ a = l + 2) (hl : l = 11 ∨ l = 24) : frP l I (up J a j v) :=
  ⟨fun x b1 b2 b3 b4 => by rw [up_ne (by omega)]; exact h.1 x b1 b2 b3 b4, fun y b1 b2 b3 b4 b5 => by rw [up_ne (by omega)]; exact h.2 y b1 b2 b3 b4 b5⟩
theorem frP_fd {l : Nat} {I J : Nat → Nat → Int} {j : Nat} {v : Int} (h : frP l I J) (ha : j = 3 ∨ j = 4 ∨ j = 5 ∨ j = 7 ∨ j = 8) : frP l I (up J 29 j v) :=
  ⟨fun x b1 b2 b3 b4 => by rw [up_ne b1]; exact h.1 x b1 b2 b3 b4, fun y b1 b2 b3 b4 b5 => by rw [up_g, if_neg (by omega)]; exact h.2 y b1 b2 b3 b4 b5⟩
theorem tbC_frm {K : Nat → Nat} {V : Nat → Int} {ps : Nat → Nat} {I J : Nat → Nat → Int} (h1 : J 31 = I 31) (h2 : J 32 = I 32) (h3 : J 33 = I 33) (h : tbC K V ps I) : tbC K V ps J := by
  unfold tbC at h ⊢
  rw [h1, h2, h3]; exact h
/-- a fault is told -/
def fltC (ps : Nat → Nat) (l : Nat) (I J : Nat → Nat → Int) (c q : Nat) : Prop := frP l I J ∧ J 29 7 = (c : Int) ∧ J 29 8 = (ps q : Int) ∧ ∃ s : Nat, J l 4 = (s : Int) ∧ s ≤ 404
section RD
variable {t d rt : Nat} {I J : Nat → Nat → Int} {K : Nat → Nat} {V : Nat → Int} {ps : Nat → Nat} {l : Nat} {i sp : Nat}
theorem q_kindOf (hv : kvOK K V ps) (hT : tbC K V ps I) (hi : i ≤ 400) (h : ∀ j, j < i → K j ≠ 0) : f_X9_kindOf 30 (i : Int) (mm t d rt I) = some ((K i : Int), mm t d rt I) := by
  have e := (hT i hi h).1
  apply wm_eq
  unfold f_X9_kindOf
  (repeat (first | (with_reducible apply wm_o; focus (simp (disch := omega) only [wr_id, Int.toNat_natCast, Int.reduceToNat, tn_lk, tn_kl, if_pos, if_neg, ↓reduceIte, and_self, and_true, true_and, FTok]; with_reducible rfl)) | (with_reducible apply wm_q) | (with_reducible apply wm_c; focus (first | assumption | decide +kernel)) | (with_reducible apply wm_d; focus (simp (disch := omega) only [wr_id, Int.toNat_natCast, Int.reduceToNat, tn_lk, tn_kl, if_pos, if_neg, ↓reduceIte, and_self, and_true, true_and, FTok]; with_reducible rfl)) | (with_reducible apply wm_t; focus (first | omega | (simp (disch := omega) only [wr_id, FTok]; omega) | (simp (disch := omega) only [wr_id, FTok]; done))) | (with_reducible apply wm_f; focus (first | omega | (simp (disch := omega) only [wr_id, FTok]; omega) | (simp (disch := omega) only [wr_id, FTok]; done)))))
  exact wm_r ⟨e, rfl⟩
theorem q_placeOf (hv : kvOK K V ps) (hT : tbC K V ps I) (hi : i ≤ 400) (h : ∀ j, j < i → K j ≠ 0) : f_X9_placeOf 30 (i : Int) (mm t d rt I) = some ((ps i : Int), mm t d rt I) := by
  have e := (hT i hi h).2.1
  apply wm_eq
  unfold f_X9_placeOf
  (repeat (first | (with_reducible apply wm_o; focus (simp (disch := omega) only [wr_id, Int.toNat_natCast, Int.reduceToNat, tn_lk, tn_kl, if_pos, if_neg, ↓reduceIte, and_self, and_true, true_and, FTok]; with_reducible rfl)) | (with_reducible apply wm_q) | (with_reducible apply wm_c; focus (first | assumption | decide +kernel)) | (with_reducible apply wm_d; focus (simp (disch := omega) only [wr_id, Int.toNat_natCast, Int.reduceToNat, tn_lk, tn_kl, if_pos, if_neg, ↓reduceIte, and_self, and_true, true_and, FTok]; with_reducible rfl)) | (with_reducible apply wm_t; focus (first | omega | (simp (disch := omega) only [wr_id, FTok]; omega) | (simp (disch := omega) only [wr_id, FTok]; done))) | (with_reducible apply wm_f; focus (first | omega | (simp (disch := omega) only [wr_id, FTok]; omega) | (simp (disch := omega) only [wr_id, FTok]; done)))))
  exact wm_r ⟨e, rfl⟩
theorem q_numberOf (hi : i ≤ 400) : f_X9_numberOf 30 (i : Int) (mm t d rt I) = some (I 33 i, mm t d rt I) := by
  apply wm_eq
  unfold f_X9_numberOf
  (repeat (first | (with_reducible apply wm_o; focus (simp (disch := omega) only [wr_id, Int.toNat_natCast, Int.reduceToNat, tn_lk, tn_kl, if_pos, if_neg, ↓reduceIte, and_self, and_true, true_and, FTok]; with_reducible rfl)) | (with_reducible apply wm_q) | (with_reducible apply wm_c; focus (first | assumption | decide +kernel)) | (with_reducible apply wm_d; focus (simp (disch := omega) only [wr_id, Int.toNat_natCast, Int.reduceToNat, tn_lk, tn_kl, if_pos, if_neg, ↓reduceIte, and_self, and_true, true_and, FTok]; with_reducible rfl)) | (with_reducible apply wm_t; focus (first | omega | (simp (disch := omega) only [wr_id, FTok]; omega) | (simp (disch := omega) only [wr_id, FTok]; done))) | (with_reducible apply wm_f; focus (first | omega | (simp (disch := omega) only [wr_id, FTok]; omega) | (simp (disch := omega) only [wr_id, FTok]; done)))))
  exact wm_r ⟨rfl, rfl⟩
theorem q_refuse {c p : Int} : f_X3_refuse 29 c p (mm t d rt I) = some (0, mm t d rt (up (up I 29 7 c) 29 8 p)) := by
  apply wm_eq
  unfold f_X3_refuse
  (repeat (first | (with_reducible apply wm_o; focus (simp (disch := omega) only [wr_id, Int.toNat_natCast, Int.reduceToNat, tn_lk, tn_kl, if_pos, if_neg, ↓reduceIte, and_self, and_true, true_and, FReader]; with_reducible rfl)) | (with_reducible apply wm_q) | (with_reducible apply wm_c; focus (first | assumption | decide +kernel)) | (with_reducible apply wm_d; focus (simp (disch := omega) only [wr_id, Int.toNat_natCast, Int.reduceToNat, tn_lk, tn_kl, if_pos, if_neg, ↓reduceIte, and_self, and_true, true_and, FReader]; with_reducible rfl)) | (with_reducible apply wm_t; focus (first | omega | (simp (disch := omega) only [wr_id, FReader]; omega) | (simp (disch := omega) only [wr_id, FReader]; done))) | (with_reducible apply wm_f; focus (first | omega | (simp (disch := omega) only [wr_id, FReader]; omega) | (simp (disch := omega) only [wr_id, FReader]; done)))))
  exact wm_z0 ⟨rfl, rfl⟩
theorem flt_mk (hl : l = 11 ∨ l = 24) (h6 : I l 4 = (sp : Int)) (hs : sp ≤ 404) {c q : Nat} : fltC ps l I (up (up I 29 7 (c : Int)) 29 8 (ps q : Int)) c q := by
  refine ⟨frP_fd (frP_fd (frP_refl _ _) (by omega)) (by omega), ?_, up_s _ _ _ _, sp, ?_, hs⟩
  · rw [up_g, if_neg (by decide), up_s]
  · rw [up_ne (by omega), up_ne (by omega)]; exact h6
theorem w_accept (hl : l = 11 ∨ l = 24) (hv : kvOK K V ps) (hR : rdC K V ps l I i sp) (hs : sp ≤ 404) {b : Int} (hb : b = 0 ∨ b = 1) (hK : K i ≠ 0) : wm t d rt (f_X3_accept 29 b (mm t d rt I)) (fun r J => (b = 1 ∧ i < 400 ∧ r = 1 ∧ frP l I J ∧ rdC K V ps l J (i + 1) sp ∧ J (l + 1) = I (l + 1) ∧ J (l + 2) = I (l + 2)) ∨ (¬ (b = 1 ∧ i < 400) ∧ r = 0 ∧ fltC ps l I J 2 i)) := by
  obtain ⟨h1, h2, h3, h4, h5, h6, h7, h8, h9⟩ := hR
  unfold f_X3_accept
  have rf : f_X3_refuse 29 2 (ps i : Int) (mm t d rt I) = some (0, mm t d rt (up (up I 29 7 2) 29 8 (ps i : Int))) := q_refuse
  by_cases c1 : b = 0
  · subst c1
    (repeat (first | (with_reducible apply wm_o; focus (simp (disch := omega) only [wr_id, Int.toNat_natCast, Int.reduceToNat, tn_lk, tn_kl, if_pos, if_neg, ↓reduceIte, and_self, and_true, true_and, FReader, h4, rf]; with_reducible rfl)) | (with_reducible apply wm_q) | (with_reducible apply wm_c; focus (first | assumption | decide +kernel)) | (with_reducible apply wm_d; focus (simp (disch := omega) only [wr_id, Int.toNat_natCast, Int.reduceToNat, tn_lk, tn_kl, if_pos, if_neg, ↓reduceIte, and_self, and_true, true_and, FReader, h4, rf]; with_reducible rfl)) | (with_reducible apply wm_t; focus (first | omega | (simp (disch := omega) only [wr_id, FReader, h4, rf]; omega) | (simp (disch := omega) only [wr_id, FReader, h4, rf]; done))) | (with_reducible apply wm_f; focus (first | omega | (simp (disch := omega) only [wr_id, FReader, h4, rf]; omega) | (simp (disch := omega) only [wr_id, FReader, h4, rf]; done)))))
    exact wm_z0 (Or.inr ⟨fun q => absurd q.1 (by decide), rfl, flt_mk hl h6 hs (c := 2)⟩)
  · have c1 : b = 1 := by omega
    subst c1
    by_cases c2 : i < 400
    · have n8 : ∀ j, j < i + 1 → K j ≠ 0 := fun j hj => by
        by_cases e : j = i
        · rw [e]; exact hK
        · exact h8 j (by omega)
      have T1 : tbC K V ps (up I 29 3 ((i : Int) + 1)) := tbC_frm (up_ne (by decide)) (up_ne (by decide)) (up_ne (by decide)) h1
      have e1 := q_kindOf (t := t) (d := d) (rt := rt) hv T1 (by omega : i + 1 ≤ 400) n8
      have T2 : tbC K V ps (up (up I 29 3 ((i : Int) + 1)) 29 4 (K (i + 1) : Int)) := tbC_frm (up_ne (by decide)) (up_ne (by decide)) (up_ne (by decide)) T1
      have e2 := q_placeOf (t := t) (d := d) (rt := rt) hv T2 (by omega : i + 1 ≤ 400) n8
      rw [show (((i + 1 : Nat)) : Int) = (i : Int) + 1 by omega] at e1 e2
      have u1 : up I 29 3 ((i : Int) + 1) 29 3 = (i : Int) + 1 := up_s _ _ _ _
      have u2 : up (up I 29 3 ((i : Int) + 1)) 29 4 (K (i + 1) : Int) 29 3 = (i : Int) + 1 := by rw [up_g, if_neg (by decide)]; exact u1
      (repeat (first | (with_reducible apply wm_o; focus (simp (disch := omega) only [wr_id, Int.toNat_natCast, Int.reduceToNat, tn_lk, tn_kl, if_pos, if_neg, ↓reduceIte, and_self, and_true, true_and, FReader, FTok, h2, u1, e1, u2, e2]; with_reducible rfl)) | (with_reducible apply wm_q) | (with_reducible apply wm_c; focus (first | assumption | decide +kernel)) | (with_reducible apply wm_d; focus (simp (disch := omega) only [wr_id, Int.toNat_natCast, Int.reduceToNat, tn_lk, tn_kl, if_pos, if_neg, ↓reduceIte, and_self, and_true, true_and, FReader, FTok, h2, u1, e1, u2, e2]; with_reducible rfl)) | (with_reducible apply wm_t; focus (first | omega | (simp (disch := omega) only [wr_id, FReader, FTok, h2, u1, e1, u2, e2]; omega) | (simp (disch := omega) only [wr_id, FReader, FTok, h2, u1, e1, u2, e2]; done))) | (with_reducible apply wm_f; focus (first | omega | (simp (disch := omega) only [wr_id, FReader, FTok, h2, u1, e1, u2, e2]; omega) | (simp (disch := omega) only [wr_id, FReader, FTok, h2, u1, e1, u2, e2]; done)))))
      refine wm_z1 (Or.inl ⟨rfl, c2, rfl, frP_fd (frP_fd (frP_fd (frP_refl _ _) (by omega)) (by omega)) (by omega), ?_, ?_, ?_⟩)
      · refine ⟨tbC_frm (up_ne (by decide)) (up_ne (by decide)) (up_ne (by decide)) T2, ?_, ?_, up_s _ _ _ _, ?_, ?_, by omega, n8, ?_⟩
        · rw [up_g, if_neg (by decide)]; rw [u2]; omega
        · rw [up_g, if_neg (by decide), up_s]
        · rw [up_g, if_neg (by decide), up_g, if_neg (by decide), up_g, if_neg (by decide)]; exact h5
        · rw [up_ne (by omega), up_ne (by omega), up_ne (by omega)]; exact h6
        · rw [up_g, if_neg (by decide), up_g, if_neg (by decide), up_g, if_neg (by decide)]; exact h9
      · rw [up_ne (by omega), up_ne (by omega), up_ne (by omega)]
      · rw [up_ne (by omega), up_ne (by omega), up_ne (by omega)]
    · (repeat (first | (with_reducible apply wm_o; focus (simp (disch := omega) only [wr_id, Int.toNat_natCast, Int.reduceToNat, tn_lk, tn_kl, if_pos, if_neg, ↓reduceIte, and_self, and_true, true_and, FReader, h2, h4, rf]; with_reducible rfl)) | (with_reducible apply wm_q) | (with_reducible apply wm_c; focus (first | assumption | decide +kernel)) | (with_reducible apply wm_d; focus (simp (disch := omega) only [wr_id, Int.toNat_natCast, Int.reduceToNat, tn_lk, tn_kl, if_pos, if_neg, ↓reduceIte, and_self, and_true, true_and, FReader, h2, h4, rf]; with_reducible rfl)) | (with_reducible apply wm_t; focus (first | omega | (simp (disch := omega) only [wr_id, FReader, h2, h4, rf]; omega) | (simp (disch := omega) only [wr_id, FReader, h2, h4, rf]; done))) | (with_reducible apply wm_f; focus (first | omega | (simp (disch := omega) only [wr_id, FReader, h2, h4, rf]; omega) | (simp (disch := omega) only [wr_id, FReader, h2, h4, rf]; done)))))
      exact wm_z0 (Or.inr ⟨fun q => c2 q.2, rfl, flt_mk hl h6 hs (c := 2)⟩)
theorem w_acceptOf (hl : l = 11 ∨ l = 24) (hv : kvOK K V ps) (hR : rdC K V ps l I i sp) (hs : sp ≤ 404) {k : Nat} (hk : 0 < k) (hk' : k < 39) : wm t d rt (f_X3_acceptOf 29 (k : Int) (mm t d rt I)) (fun r J => (K i = k ∧ i < 400 ∧ r = 1 ∧ frP l I J ∧ rdC K V ps l J (i + 1) sp ∧ J (l + 1) = I (l + 1) ∧ J (l + 2) = I (l + 2)) ∨ (K i = k ∧ ¬ i < 400 ∧ r = 0 ∧ fltC ps l I J 2 i) ∨ (K i ≠ k ∧ r = 0 ∧ fltC ps l I J 1 i)) := by
  have hR' := hR
  obtain ⟨h1, h2, h3, h4, h5, h6, h7, h8, h9⟩ := hR
  have hKi := (hv i).1
  unfold f_X3_acceptOf
  by_cases c : K i = k
  · (repeat (first | (with_reducible apply wm_o; focus (simp (disch := omega) only [wr_id, Int.toNat_natCast, Int.reduceToNat, tn_lk, tn_kl, if_pos, if_neg, ↓reduceIte, and_self, and_true, true_and, FReader, h3]; with_reducible rfl)) | (with_reducible apply wm_q) | (with_reducible apply wm_c; focus (first | assumption | decide +kernel)) | (with_reducible apply wm_d; focus (simp (disch := omega) only [wr_id, Int.toNat_natCast, Int.reduceToNat, tn_lk, tn_kl, if_pos, if_neg, ↓reduceIte, and_self, and_true, true_and, FReader, h3]; with_reducible rfl)) | (with_reducible apply wm_t; focus (first | omega | (simp (disch := omega) only [wr_id, FReader, h3]; omega) | (simp (disch := omega) only [wr_id, FReader, h3]; done))) | (with_reducible apply wm_f; focus (first | omega | (simp (disch := omega) only [wr_id, FReader, h3]; omega) | (simp (disch := omega) only [wr_id, FReader, h3]; done)))))
    refine wm_b (w_accept hl hv hR' hs (Or.inr rfl) (by omega)) (fun r J hJ => ?_)
    rcases hJ with ⟨_, a1, rfl, a2⟩ | ⟨a1, rfl, a2⟩
    · exact wm_z1 (Or.inl ⟨c, a1, rfl, a2⟩)
    · exact wm_z0 (Or.inr (Or.inl ⟨c, fun q => a1 ⟨rfl, q⟩, rfl, a2⟩))
  · have rf : f_X3_refuse 29 1 (ps i : Int) (mm t d rt I) = some (0, mm t d rt (up (up I 29 7 1) 29 8 (ps i : Int))) := q_refuse
    (repeat (first | (with_reducible apply wm_o; focus (simp (disch := omega) only [wr_id, Int.toNat_natCast, Int.reduceToNat, tn_lk, tn_kl, if_pos, if_neg, ↓reduceIte, and_self, and_true, true_and, FReader, h3, h4, rf]; with_reducible rfl)) | (with_reducible apply wm_q) | (with_reducible apply wm_c; focus (first | assumption | decide +kernel)) | (with_reducible apply wm_d; focus (simp (disch := omega) only [wr_id, Int.toNat_natCast, Int.reduceToNat, tn_lk, tn_kl, if_pos, if_neg, ↓reduceIte, and_self, and_true, true_and, FReader, h3, h4, rf]; with_reducible rfl)) | (with_reducible apply wm_t; focus (first | omega | (simp (disch := omega) only [wr_id, FReader, h3, h4, rf]; omega) | (simp (disch := omega) only [wr_id, FReader, h3, h4, rf]; done))) | (with_reducible apply wm_f; focus (first | omega | (simp (disch := omega) only [wr_id, FReader, h3, h4, rf]; omega) | (simp (disch := omega) only [wr_id, FReader, h3, h4, rf]; done)))))
    exact wm_z0 (Or.inr (Or.inr ⟨c, rfl, flt_mk hl h6 hs (c := 1)⟩))
def adI (I : Nat → Nat → Int) (l sp : Nat) (a v : Int) : Nat → Nat → Int := up (up (up I (l + 1) sp a) (l + 2) sp v) l 4 ((sp : Int) + 1)
theorem q_add (hl : l = 11 ∨ l = 24) (hs : I l 4 = (sp : Int)) (h4 : sp < 404) {a v : Int} : f_X2_add l a v (mm t d rt I) = some ((sp : Int), mm t d rt (adI I l sp a v)) := by
  have hl' : l ∈ [11, 24] := by simpa using hl
  apply wm_eq
  unfold f_X2_add adI
  have u1 : up I (l + 1) sp a l 4 = (sp : Int) := by rw [up_ne (by omega)]; exact hs
  have u2 : up (up I (l + 1) sp a) (l + 2) sp v l 4 = (sp : Int) := by rw [up_ne (by omega)]; exact u1
  have u3 : up (up (up I (l + 1) sp a) (l + 2) sp v) l 4 ((sp : Int) + 1) l 4 = (sp : Int) + 1 := up_s _ _ _ _
  (repeat (first | (with_reducible apply wm_o; focus (simp (disch := omega) only [wr_id, Int.toNat_natCast, Int.reduceToNat, tn_lk, tn_kl, if_pos, if_neg, ↓reduceIte, and_self, and_true, true_and, FLaws hl', hs, u1, u2, u3]; with_reducible rfl)) | (with_reducible apply wm_q) | (with_reducible apply wm_c; focus (first | assumption | decide +kernel)) | (with_reducible apply wm_d; focus (simp (disch := omega) only [wr_id, Int.toNat_natCast, Int.reduceToNat, tn_lk, tn_kl, if_pos, if_neg, ↓reduceIte, and_self, and_true, true_and, FLaws hl', hs, u1, u2, u3]; with_reducible rfl)) | (with_reducible apply wm_t; focus (first | omega | (simp (disch := omega) only [wr_id, FLaws hl', hs, u1, u2, u3]; omega) | (simp (disch := omega) only [wr_id, FLaws hl', hs, u1, u2, u3]; done))) | (with_reducible apply wm_f; focus (first | omega | (simp (disch := omega) only [wr_id, FLaws hl', hs, u1, u2, u3]; omega) | (simp (disch := omega) only [wr_id, FLaws hl', hs, u1, u2, u3]; done)))))
  exact wm_r ⟨by omega, rfl⟩
theorem w_add (hl : l = 11 ∨ l = 24) (hs : I l 4 = (sp : Int)) (h4 : sp ≤ 404) {a v : Int} : wm t d rt (f_X2_add l a v (mm t d rt I)) (fun r J => (sp < 404 ∧ J = adI I l sp a v ∧ r = (sp : Int)) ∨ (sp = 404 ∧ J = I)) := by
  by_cases c : sp < 404
  · exact wm_e (q_add hl hs c) (Or.inl ⟨c, rfl, rfl⟩)
  · have hl' : l ∈ [11, 24] := by simpa using hl
    unfold f_X2_add
    (repeat (first | (with_reducible apply wm_o; focus (simp (disch := omega) only [wr_id, Int.toNat_natCast, Int.reduceToNat, tn_lk, tn_kl, if_pos, if_neg, ↓reduceIte, and_self, and_true, true_and, FLaws hl', hs]; with_reducible rfl)) | (with_reducible apply wm_q) | (with_reducible apply wm_c; focus (first | assumption | decide +kernel)) | (with_reducible apply wm_d; focus (simp (disch := omega) only [wr_id, Int.toNat_natCast, Int.reduceToNat, tn_lk, tn_kl, if_pos, if_neg, ↓reduceIte, and_self, and_true, true_and, FLaws hl', hs]; with_reducible rfl)) | (with_reducible apply wm_t; focus (first | omega | (simp (disch := omega) only [wr_id, FLaws hl', hs]; omega) | (simp (disch := omega) only [wr_id, FLaws hl', hs]; done))) | (with_reducible apply wm_f; focus (first | omega | (simp (disch := omega) only [wr_id, FLaws hl', hs]; omega) | (simp (disch := omega) only [wr_id, FLaws hl', hs]; done)))))
    exact wm_r (Or.inr ⟨by omega, rfl⟩)
theorem ad_frP (hl : l = 11 ∨ l = 24) {a v : Int} : frP l I (adI I l sp a v) := frP_up (frP_up (frP_up (frP_refl _ _) (by omega) hl) (by omega) hl) (by omega) hl
theorem ad_rd (hl : l = 11 ∨ l = 24) {a v : Int} (hR : rdC K V ps l I i sp) : rdC K V ps l (adI I l sp a v) i (sp + 1) := by
  obtain ⟨h1, h2, h3, h4, h5, h6, h7, h8, h9⟩ := hR
  have e29 : adI I l sp a v 29 = I 29 := by unfold adI; rw [up_ne (by omega), up_ne (by omega), up_ne (by omega)]
  have f := ad_frP (I := I) (sp := sp) hl (a := a) (v := v)
  refine ⟨tbC_frm (f.1 _ (by omega) (by omega) (by omega) (by omega)) (f.1 _ (by omega) (by omega) (by omega) (by omega)) (f.1 _ (by omega) (by omega) (by omega) (by omega)) h1, by rw [e29]; exact h2, by rw [e29]; exact h3, by rw [e29]; exact h4, by rw [e29]; exact h5, ?_, h7, h8, by rw [e29]; exact h9⟩
  unfold adI
  rw [up_s]; omega
theorem ad_row (hl : l = 11 ∨ l = 24) {a v : Int} (p : Nat) : adI I l sp a v (l + 1) p = (if p = sp then a else I (l + 1) p) ∧ adI I l sp a v (l + 2) p = (if p = sp then v else I (l + 2) p) := by
  unfold adI
  refine ⟨?_, ?_⟩
  · rw [up_ne (by omega), up_ne (by omega), up_g]
  · rw [up_ne (by omega), up_g, up_ne (by omega)]
end RD
theorem cdAt_app {A B : Nat → Int} : ∀ {a b : List CI} {p : Nat}, cdAt A B p (a ++ b) ↔ cdAt A B p a ∧ cdAt A B (p + a.length) b
  | [], b, p => ⟨fun h => ⟨True.intro, h⟩, fun h => h.2⟩
  | x :: r, b, p => by
    show (A p = _ ∧ B p = _ ∧ cdAt A B (p + 1) (r ++ b)) ↔ (A p = _ ∧ B p = _ ∧ cdAt A B (p + 1) r) ∧ cdAt A B (p + (r.length + 1)) b
    rw [cdAt_app (a := r), show p + (r.length + 1) = p + 1 + r.length by omega]
    exact ⟨fun ⟨h1, h2, h3, h4⟩ => ⟨⟨h1, h2, h3⟩, h4⟩, fun ⟨⟨h1, h2, h3⟩, h4⟩ => ⟨h1, h2, h3, h4⟩⟩
theorem cdAt_congr {A B A' B' : Nat → Int} : ∀ {a : List CI} {p : Nat}, (∀ q, p ≤ q → q < p + a.length → A' q = A q ∧ B' q = B q) → cdAt A B p a → cdAt A' B' p a
  | [], _, _, _ => True.intro
  | x :: r, p, h, hc => by
    rw [List.length_cons] at h
    obtain ⟨e1, e2⟩ := h p (by omega) (by omega)
    exact ⟨e1.trans hc.1, e2.trans hc.2.1, cdAt_congr (fun q h1 h2 => h q (by omega) (by omega)) hc.2.2⟩
