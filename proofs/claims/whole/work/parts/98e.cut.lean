/-! ===== the class cuts the text ===== -/
def atV (B : Nat → Nat) (tl p : Nat) : Int := if p < tl then (B p : Int) else -1
def tpB (I : Nat → Nat → Int) (B : Nat → Nat) (tl : Nat) : Prop := I 1 1 = (tl : Int) ∧ ∀ i, i < tl → jd_and (I 2 i) 255 = (B i : Int)
section CT
variable {t d rt : Nat} {I J : Nat → Nat → Int} {B : Nat → Nat} {tl : Nat}
theorem atV_rng (hB : bOK B tl) (p : Nat) : -1 ≤ atV B tl p ∧ atV B tl p < 256 ∧ (atV B tl p).toNat = B p := by
  unfold atV
  by_cases c : p < tl
  · rw [if_pos c]
    have := hB.2.2 p
    omega
  · rw [if_neg c, hB.2.1 p (by omega)]
    omega
theorem q_at (hB : bOK B tl) (hT : tpB I B tl) (p : Nat) (hp : p ≤ 100000) : f_X7_at 1 (p : Int) (mm t d rt I) = some (atV B tl p, mm t d rt I) := by
  obtain ⟨h1, h2⟩ := hT
  have ht := hB.1
  apply wm_eq
  unfold f_X7_at atV
  by_cases c : p < tl
  · have e := h2 p c
    have c' : ((p : Nat) : Int) < (tl : Int) := by omega
    rw [if_pos c]
    (repeat (first | (with_reducible apply wm_o; focus (simp (disch := omega) only [wr_id, Int.toNat_natCast, Int.reduceToNat, tn_lk, tn_kl, if_pos, if_neg, ↓reduceIte, and_self, and_true, true_and, FTape, h1]; with_reducible rfl)) | (with_reducible apply wm_q) | (with_reducible apply wm_c; focus (first | assumption | decide +kernel)) | (with_reducible apply wm_d; focus (simp (disch := omega) only [wr_id, Int.toNat_natCast, Int.reduceToNat, tn_lk, tn_kl, if_pos, if_neg, ↓reduceIte, and_self, and_true, true_and, FTape, h1]; with_reducible rfl)) | (with_reducible apply wm_t; focus (first | omega | (simp (disch := omega) only [wr_id, FTape, h1]; omega) | (simp (disch := omega) only [wr_id, FTape, h1]; done))) | (with_reducible apply wm_f; focus (first | omega | (simp (disch := omega) only [wr_id, FTape, h1]; omega) | (simp (disch := omega) only [wr_id, FTape, h1]; done)))))
    exact wm_r ⟨e, rfl⟩
  · rw [if_neg c]
    (repeat (first | (with_reducible apply wm_o; focus (simp (disch := omega) only [wr_id, Int.toNat_natCast, Int.reduceToNat, tn_lk, tn_kl, if_pos, if_neg, ↓reduceIte, and_self, and_true, true_and, FTape, h1]; with_reducible rfl)) | (with_reducible apply wm_q) | (with_reducible apply wm_c; focus (first | assumption | decide +kernel)) | (with_reducible apply wm_d; focus (simp (disch := omega) only [wr_id, Int.toNat_natCast, Int.reduceToNat, tn_lk, tn_kl, if_pos, if_neg, ↓reduceIte, and_self, and_true, true_and, FTape, h1]; with_reducible rfl)) | (with_reducible apply wm_t; focus (first | omega | (simp (disch := omega) only [wr_id, FTape, h1]; omega) | (simp (disch := omega) only [wr_id, FTape, h1]; done))) | (with_reducible apply wm_f; focus (first | omega | (simp (disch := omega) only [wr_id, FTape, h1]; omega) | (simp (disch := omega) only [wr_id, FTape, h1]; done)))))
    exact wm_r ⟨rfl, rfl⟩
theorem q_isBl {v : Int} (h1 : -1 ≤ v) (h2 : v < 256) : f_X9_isBlank v (mm t d rt I) = some ((if isBl v.toNat then 1 else 0), mm t d rt I) := by
  apply wm_eq
  unfold f_X9_isBlank isBl
  by_cases a1 : v = 9
  · subst a1; (repeat (first | (with_reducible apply wm_o; focus (simp (disch := omega) only [wr_id, Int.toNat_natCast, Int.reduceToNat, tn_lk, tn_kl, if_pos, if_neg, ↓reduceIte, and_self, and_true, true_and]; with_reducible rfl)) | (with_reducible apply wm_q) | (with_reducible apply wm_c; focus (first | assumption | decide +kernel)) | (with_reducible apply wm_d; focus (simp (disch := omega) only [wr_id, Int.toNat_natCast, Int.reduceToNat, tn_lk, tn_kl, if_pos, if_neg, ↓reduceIte, and_self, and_true, true_and]; with_reducible rfl)) | (with_reducible apply wm_t; focus (first | omega | (simp (disch := omega) only [wr_id]; omega) | (simp (disch := omega) only [wr_id]; done))) | (with_reducible apply wm_f; focus (first | omega | (simp (disch := omega) only [wr_id]; omega) | (simp (disch := omega) only [wr_id]; done))))); exact wm_z1 ⟨by decide, rfl⟩
  by_cases a2 : v = 10
  · subst a2; (repeat (first | (with_reducible apply wm_o; focus (simp (disch := omega) only [wr_id, Int.toNat_natCast, Int.reduceToNat, tn_lk, tn_kl, if_pos, if_neg, ↓reduceIte, and_self, and_true, true_and]; with_reducible rfl)) | (with_reducible apply wm_q) | (with_reducible apply wm_c; focus (first | assumption | decide +kernel)) | (with_reducible apply wm_d; focus (simp (disch := omega) only [wr_id, Int.toNat_natCast, Int.reduceToNat, tn_lk, tn_kl, if_pos, if_neg, ↓reduceIte, and_self, and_true, true_and]; with_reducible rfl)) | (with_reducible apply wm_t; focus (first | omega | (simp (disch := omega) only [wr_id]; omega) | (simp (disch := omega) only [wr_id]; done))) | (with_reducible apply wm_f; focus (first | omega | (simp (disch := omega) only [wr_id]; omega) | (simp (disch := omega) only [wr_id]; done))))); exact wm_z1 ⟨by decide, rfl⟩
  by_cases a3 : v = 13
  · subst a3; (repeat (first | (with_reducible apply wm_o; focus (simp (disch := omega) only [wr_id, Int.toNat_natCast, Int.reduceToNat, tn_lk, tn_kl, if_pos, if_neg, ↓reduceIte, and_self, and_true, true_and]; with_reducible rfl)) | (with_reducible apply wm_q) | (with_reducible apply wm_c; focus (first | assumption | decide +kernel)) | (with_reducible apply wm_d; focus (simp (disch := omega) only [wr_id, Int.toNat_natCast, Int.reduceToNat, tn_lk, tn_kl, if_pos, if_neg, ↓reduceIte, and_self, and_true, true_and]; with_reducible rfl)) | (with_reducible apply wm_t; focus (first | omega | (simp (disch := omega) only [wr_id]; omega) | (simp (disch := omega) only [wr_id]; done))) | (with_reducible apply wm_f; focus (first | omega | (simp (disch := omega) only [wr_id]; omega) | (simp (disch := omega) only [wr_id]; done))))); exact wm_z1 ⟨by decide, rfl⟩
  by_cases a4 : v = 32
  · subst a4; (repeat (first | (with_reducible apply wm_o; focus (simp (disch := omega) only [wr_id, Int.toNat_natCast, Int.reduceToNat, tn_lk, tn_kl, if_pos, if_neg, ↓reduceIte, and_self, and_true, true_and]; with_reducible rfl)) | (with_reducible apply wm_q) | (with_reducible apply wm_c; focus (first | assumption | decide +kernel)) | (with_reducible apply wm_d; focus (simp (disch := omega) only [wr_id, Int.toNat_natCast, Int.reduceToNat, tn_lk, tn_kl, if_pos, if_neg, ↓reduceIte, and_self, and_true, true_and]; with_reducible rfl)) | (with_reducible apply wm_t; focus (first | omega | (simp (disch := omega) only [wr_id]; omega) | (simp (disch := omega) only [wr_id]; done))) | (with_reducible apply wm_f; focus (first | omega | (simp (disch := omega) only [wr_id]; omega) | (simp (disch := omega) only [wr_id]; done))))); exact wm_z1 ⟨by decide, rfl⟩
  (repeat (first | (with_reducible apply wm_o; focus (simp (disch := omega) only [wr_id, Int.toNat_natCast, Int.reduceToNat, tn_lk, tn_kl, if_pos, if_neg, ↓reduceIte, and_self, and_true, true_and]; with_reducible rfl)) | (with_reducible apply wm_q) | (with_reducible apply wm_c; focus (first | assumption | decide +kernel)) | (with_reducible apply wm_d; focus (simp (disch := omega) only [wr_id, Int.toNat_natCast, Int.reduceToNat, tn_lk, tn_kl, if_pos, if_neg, ↓reduceIte, and_self, and_true, true_and]; with_reducible rfl)) | (with_reducible apply wm_t; focus (first | omega | (simp (disch := omega) only [wr_id]; omega) | (simp (disch := omega) only [wr_id]; done))) | (with_reducible apply wm_f; focus (first | omega | (simp (disch := omega) only [wr_id]; omega) | (simp (disch := omega) only [wr_id]; done)))))
  refine wm_z0 ⟨?_, rfl⟩
  rw [if_neg]
  simp only [Bool.or_eq_true, beq_iff_eq]
  omega
theorem q_isLe {v : Int} (h1 : -1 ≤ v) (h2 : v < 256) : f_X9_isLetter v (mm t d rt I) = some ((if isLe v.toNat then 1 else 0), mm t d rt I) := by
  apply wm_eq
  unfold f_X9_isLetter isLe
  by_cases a1 : v < 97
  · (repeat (first | (with_reducible apply wm_o; focus (simp (disch := omega) only [wr_id, Int.toNat_natCast, Int.reduceToNat, tn_lk, tn_kl, if_pos, if_neg, ↓reduceIte, and_self, and_true, true_and]; with_reducible rfl)) | (with_reducible apply wm_q) | (with_reducible apply wm_c; focus (first | assumption | decide +kernel)) | (with_reducible apply wm_d; focus (simp (disch := omega) only [wr_id, Int.toNat_natCast, Int.reduceToNat, tn_lk, tn_kl, if_pos, if_neg, ↓reduceIte, and_self, and_true, true_and]; with_reducible rfl)) | (with_reducible apply wm_t; focus (first | omega | (simp (disch := omega) only [wr_id]; omega) | (simp (disch := omega) only [wr_id]; done))) | (with_reducible apply wm_f; focus (first | omega | (simp (disch := omega) only [wr_id]; omega) | (simp (disch := omega) only [wr_id]; done)))))
    refine wm_z0 ⟨?_, rfl⟩
    rw [if_neg]
    simp only [Bool.and_eq_true, decide_eq_true_eq]
    omega
  by_cases a2 : v ≤ 122
  · (repeat (first | (with_reducible apply wm_o; focus (simp (disch := omega) only [wr_id, Int.toNat_natCast, Int.reduceToNat, tn_lk, tn_kl, if_pos, if_neg, ↓reduceIte, and_self, and_true, true_and]; with_reducible rfl)) | (with_reducible apply wm_q) | (with_reducible apply wm_c; focus (first | assumption | decide +kernel)) | (with_reducible apply wm_d; focus (simp (disch := omega) only [wr_id, Int.toNat_natCast, Int.reduceToNat, tn_lk, tn_kl, if_pos, if_neg, ↓reduceIte, and_self, and_true, true_and]; with_reducible rfl)) | (with_reducible apply wm_t; focus (first | omega | (simp (disch := omega) only [wr_id]; omega) | (simp (disch := omega) only [wr_id]; done))) | (with_reducible apply wm_f; focus (first | omega | (simp (disch := omega) only [wr_id]; omega) | (simp (disch := omega) only [wr_id]; done)))))
    refine wm_z1 ⟨?_, rfl⟩
    rw [if_pos]
    simp only [Bool.and_eq_true, decide_eq_true_eq]
    omega
  (repeat (first | (with_reducible apply wm_o; focus (simp (disch := omega) only [wr_id, Int.toNat_natCast, Int.reduceToNat, tn_lk, tn_kl, if_pos, if_neg, ↓reduceIte, and_self, and_true, true_and]; with_reducible rfl)) | (with_reducible apply wm_q) | (with_reducible apply wm_c; focus (first | assumption | decide +kernel)) | (with_reducible apply wm_d; focus (simp (disch := omega) only [wr_id, Int.toNat_natCast, Int.reduceToNat, tn_lk, tn_kl, if_pos, if_neg, ↓reduceIte, and_self, and_true, true_and]; with_reducible rfl)) | (with_reducible apply wm_t; focus (first | omega | (simp (disch := omega) only [wr_id]; omega) | (simp (disch := omega) only [wr_id]; done))) | (with_reducible apply wm_f; focus (first | omega | (simp (disch := omega) only [wr_id]; omega) | (simp (disch := omega) only [wr_id]; done)))))
  refine wm_z0 ⟨?_, rfl⟩
  rw [if_neg]
  simp only [Bool.and_eq_true, decide_eq_true_eq]
  omega
theorem q_isDi {v : Int} (h1 : -1 ≤ v) (h2 : v < 256) : f_X9_isDigit v (mm t d rt I) = some ((if isDi v.toNat then 1 else 0), mm t d rt I) := by
  apply wm_eq
  unfold f_X9_isDigit isDi
  by_cases a1 : v < 48
  · (repeat (first | (with_reducible apply wm_o; focus (simp (disch := omega) only [wr_id, Int.toNat_natCast, Int.reduceToNat, tn_lk, tn_kl, if_pos, if_neg, ↓reduceIte, and_self, and_true, true_and]; with_reducible rfl)) | (with_reducible apply wm_q) | (with_reducible apply wm_c; focus (first | assumption | decide +kernel)) | (with_reducible apply wm_d; focus (simp (disch := omega) only [wr_id, Int.toNat_natCast, Int.reduceToNat, tn_lk, tn_kl, if_pos, if_neg, ↓reduceIte, and_self, and_true, true_and]; with_reducible rfl)) | (with_reducible apply wm_t; focus (first | omega | (simp (disch := omega) only [wr_id]; omega) | (simp (disch := omega) only [wr_id]; done))) | (with_reducible apply wm_f; focus (first | omega | (simp (disch := omega) only [wr_id]; omega) | (simp (disch := omega) only [wr_id]; done)))))
    refine wm_z0 ⟨?_, rfl⟩
    rw [if_neg]
    simp only [Bool.and_eq_true, decide_eq_true_eq]
    omega
  by_cases a2 : v ≤ 57
  · (repeat (first | (with_reducible apply wm_o; focus (simp (disch := omega) only [wr_id, Int.toNat_natCast, Int.reduceToNat, tn_lk, tn_kl, if_pos, if_neg, ↓reduceIte, and_self, and_true, true_and]; with_reducible rfl)) | (with_reducible apply wm_q) | (with_reducible apply wm_c; focus (first | assumption | decide +kernel)) | (with_reducible apply wm_d; focus (simp (disch := omega) only [wr_id, Int.toNat_natCast, Int.reduceToNat, tn_lk, tn_kl, if_pos, if_neg, ↓reduceIte, and_self, and_true, true_and]; with_reducible rfl)) | (with_reducible apply wm_t; focus (first | omega | (simp (disch := omega) only [wr_id]; omega) | (simp (disch := omega) only [wr_id]; done))) | (with_reducible apply wm_f; focus (first | omega | (simp (disch := omega) only [wr_id]; omega) | (simp (disch := omega) only [wr_id]; done)))))
    refine wm_z1 ⟨?_, rfl⟩
    rw [if_pos]
    simp only [Bool.and_eq_true, decide_eq_true_eq]
    omega
  (repeat (first | (with_reducible apply wm_o; focus (simp (disch := omega) only [wr_id, Int.toNat_natCast, Int.reduceToNat, tn_lk, tn_kl, if_pos, if_neg, ↓reduceIte, and_self, and_true, true_and]; with_reducible rfl)) | (with_reducible apply wm_q) | (with_reducible apply wm_c; focus (first | assumption | decide +kernel)) | (with_reducible apply wm_d; focus (simp (disch := omega) only [wr_id, Int.toNat_natCast, Int.reduceToNat, tn_lk, tn_kl, if_pos, if_neg, ↓reduceIte, and_self, and_true, true_and]; with_reducible rfl)) | (with_reducible apply wm_t; focus (first | omega | (simp (disch := omega) only [wr_id]; omega) | (simp (disch := omega) only [wr_id]; done))) | (with_reducible apply wm_f; focus (first | omega | (simp (disch := omega) only [wr_id]; omega) | (simp (disch := omega) only [wr_id]; done)))))
  refine wm_z0 ⟨?_, rfl⟩
  rw [if_neg]
  simp only [Bool.and_eq_true, decide_eq_true_eq]
  omega
theorem tpB_frm (h1 : J 1 = I 1) (h2 : J 2 = I 2) (h : tpB I B tl) : tpB J B tl := by
  unfold tpB at h ⊢
  rw [h1, h2]; exact h
/-- the reader's place goes to p -/
def nxI (I : Nat → Nat → Int) (p : Nat) (J : Nat → Nat → Int) : Prop := J 30 4 = (p : Int) ∧ frm (fun a => a = 30) I J
theorem w_skip (hB : bOK B tl) (hT : tpB I B tl) {p : Nat} (hp : p ≤ tl) (h0 : I 30 4 = (p : Int)) : wm t d rt (f_X9_skipBlanks 30 (mm t d rt I)) (fun _ J => nxI I (rn B isBl p) J) := by
  unfold f_X9_skipBlanks
  have ht := hB.1
  obtain ⟨r1, r2, r3, r4⟩ := rn_spec hB (P := isBl) rfl p
  have r4 := r4 hp
  refine wm_lp2 2000 (fun i y J => y = (i : Int) ∧ nxI I (p + i) J ∧ p + i ≤ rn B isBl p) ?_ (jfuel_n (by decide)) ⟨rfl, ⟨h0, frm_refl _ _⟩, r1⟩
  rintro i hi y J ⟨rfl, ⟨j1, j2⟩, j3⟩ rec hrec
  have hTJ : tpB J B tl := tpB_frm (j2 1 (by decide)) (j2 2 (by decide)) hT
  by_cases ci : i < 2000
  · have e1 := q_at (t := t) (d := d) (rt := rt) hB hTJ (p + i) (by omega)
    obtain ⟨a1, a2, a3⟩ := atV_rng hB (p + i)
    have e2 := q_isBl (t := t) (d := d) (rt := rt) (I := J) a1 a2
    rw [a3] at e2
    by_cases c : isBl (B (p + i)) = true
    · rw [if_pos c] at e2
      (repeat (first | (with_reducible apply wm_o; focus (simp (disch := omega) only [wr_id, Int.toNat_natCast, Int.reduceToNat, tn_lk, tn_kl, if_pos, if_neg, ↓reduceIte, and_self, and_true, true_and, FTok, FTape, j1, e1, e2]; with_reducible rfl)) | (with_reducible apply wm_q) | (with_reducible apply wm_c; focus (first | assumption | decide +kernel)) | (with_reducible apply wm_d; focus (simp (disch := omega) only [wr_id, Int.toNat_natCast, Int.reduceToNat, tn_lk, tn_kl, if_pos, if_neg, ↓reduceIte, and_self, and_true, true_and, FTok, FTape, j1, e1, e2]; with_reducible rfl)) | (with_reducible apply wm_t; focus (first | omega | (simp (disch := omega) only [wr_id, FTok, FTape, j1, e1, e2]; omega) | (simp (disch := omega) only [wr_id, FTok, FTape, j1, e1, e2]; done))) | (with_reducible apply wm_f; focus (first | omega | (simp (disch := omega) only [wr_id, FTok, FTape, j1, e1, e2]; omega) | (simp (disch := omega) only [wr_id, FTok, FTape, j1, e1, e2]; done)))))
      refine hrec (i + 1) _ _ (by omega) (by omega) ⟨by omega, ⟨?_, frm_up j2 rfl⟩, ?_⟩
      · rw [up_s]; omega
      · rcases Nat.lt_or_ge (p + i) (rn B isBl p) with q | q
        · omega
        · exfalso
          have e : p + i = rn B isBl p := by omega
          rw [e, r3] at c
          exact absurd c (by decide)
    · rw [if_neg c] at e2
      (repeat (first | (with_reducible apply wm_o; focus (simp (disch := omega) only [wr_id, Int.toNat_natCast, Int.reduceToNat, tn_lk, tn_kl, if_pos, if_neg, ↓reduceIte, and_self, and_true, true_and, FTok, FTape, j1, e1, e2]; with_reducible rfl)) | (with_reducible apply wm_q) | (with_reducible apply wm_c; focus (first | assumption | decide +kernel)) | (with_reducible apply wm_d; focus (simp (disch := omega) only [wr_id, Int.toNat_natCast, Int.reduceToNat, tn_lk, tn_kl, if_pos, if_neg, ↓reduceIte, and_self, and_true, true_and, FTok, FTape, j1, e1, e2]; with_reducible rfl)) | (with_reducible apply wm_t; focus (first | omega | (simp (disch := omega) only [wr_id, FTok, FTape, j1, e1, e2]; omega) | (simp (disch := omega) only [wr_id, FTok, FTape, j1, e1, e2]; done))) | (with_reducible apply wm_f; focus (first | omega | (simp (disch := omega) only [wr_id, FTok, FTape, j1, e1, e2]; omega) | (simp (disch := omega) only [wr_id, FTok, FTape, j1, e1, e2]; done)))))
      refine wm_r ⟨?_, j2⟩
      have e : rn B isBl p = p + i := rn_uniq hB rfl (by omega) (fun j h1 h2 => r2 j h1 (by omega)) (by cases h : isBl (B (p + i)); rfl; exact absurd h c)
      rw [e]; exact j1
  · (repeat (first | (with_reducible apply wm_o; focus (simp (disch := omega) only [wr_id, Int.toNat_natCast, Int.reduceToNat, tn_lk, tn_kl, if_pos, if_neg, ↓reduceIte, and_self, and_true, true_and, FTok]; with_reducible rfl)) | (with_reducible apply wm_q) | (with_reducible apply wm_c; focus (first | assumption | decide +kernel)) | (with_reducible apply wm_d; focus (simp (disch := omega) only [wr_id, Int.toNat_natCast, Int.reduceToNat, tn_lk, tn_kl, if_pos, if_neg, ↓reduceIte, and_self, and_true, true_and, FTok]; with_reducible rfl)) | (with_reducible apply wm_t; focus (first | omega | (simp (disch := omega) only [wr_id, FTok]; omega) | (simp (disch := omega) only [wr_id, FTok]; done))) | (with_reducible apply wm_f; focus (first | omega | (simp (disch := omega) only [wr_id, FTok]; omega) | (simp (disch := omega) only [wr_id, FTok]; done)))))
    refine wm_r ⟨?_, j2⟩
    rw [show rn B isBl p = p + i by omega]
    exact j1
theorem w_isWord (hB : bOK B tl) (hT : tpB I B tl) {q e k : Nat} (hq : q ≤ e) (he : e ≤ tl) (h8 : e - q ≤ 8) (hl : ∀ j, q ≤ j → j < e → isLe (B j) = true) (h0 : I 30 4 = (e : Int)) (hk : k < 19) : f_X9_isWord 30 ((8 * k : Nat) : Int) (q : Int) (mm t d rt I) = some ((if keyL.getD k [] = sl B q (e - q) then 1 else 0), mm t d rt I) := by
  apply wm_eq
  have ht := hB.1
  unfold f_X9_isWord
  have nb : ∀ x, x ∈ sl B q (e - q) → x ≠ 32 := fun x hx => by
    obtain ⟨j, h1, h2⟩ := sl_mem hx
    have h3 := hl (q + j) (by omega) (by omega)
    unfold isLe at h3
    simp only [Bool.and_eq_true, decide_eq_true_eq] at h3
    omega
  have na : ∀ x, x ∈ keyL.getD k [] → x ≠ 32 := fun x hx => by
    have := key_mem hk hx
    omega
  refine wm_lp2 8 (fun i y J => y = (i : Int) ∧ J = I ∧ ∀ j, j < i → (keyL.getD k []).getD j 32 = (sl B q (e - q)).getD j 32) ?_ (jfuel_n (by decide)) ⟨rfl, rfl, fun j hj => absurd hj (Nat.not_lt_zero _)⟩
  rintro i hi y J ⟨rfl, rfl, j3⟩ rec hrec
  by_cases ci : i < 8
  · have e1 := sb_eq k hk i ci
    have e3 := sl_getD B q (e - q) i
    have hlt : (keyL.getD k []).getD i 32 < 256 := by
      rw [List.getD_eq_getElem?_getD]
      cases x : (keyL.getD k [])[i]? with
      | none => exact (by decide : (32 : Nat) < 256)
      | some v =>
        have := key_mem hk (List.mem_of_getElem? x)
        show v < 256
        omega
    have fin : ∀ v : Nat, v < 256 → (sl B q (e - q)).getD i 32 = v → wm t d rt ((jm_sb 0 (((8 * k : Nat) : Int) + (i : Int))).bind fun v2 => if jd_wr v2 = jd_wr (v : Int) then rec ((i : Int) + 1) (mm t d rt J) else jm_z 0 (mm t d rt J)) (fun v' J' => v' = (if keyL.getD k [] = sl B q (e - q) then 1 else 0) ∧ J' = J) := by
      intro v hv e4
      rw [e1]
      show wm t d rt (if jd_wr (((keyL.getD k []).getD i 32 : Nat) : Int) = jd_wr (v : Int) then rec ((i : Int) + 1) (mm t d rt J) else jm_z 0 (mm t d rt J)) _
      rw [wr_id (by omega) (by omega), wr_id (by omega) (by omega)]
      by_cases c : (keyL.getD k []).getD i 32 = v
      · rw [if_pos (by omega)]
        refine hrec (i + 1) _ _ (by omega) (by omega) ⟨by omega, rfl, fun j hj => ?_⟩
        by_cases ej : j = i
        · rw [ej, e4]; exact c
        · exact j3 j (by omega)
      · rw [if_neg (by omega)]
        refine wm_z0 ⟨?_, rfl⟩
        rw [if_neg]
        intro ee
        apply c
        rw [ee, e4]
    by_cases c : i < e - q
    · rw [if_pos c] at e3
      have e2 := q_at (t := t) (d := d) (rt := rt) hB hT (q + i) (by omega)
      have e5 : atV B tl (q + i) = (B (q + i) : Int) := by unfold atV; rw [if_pos (by omega)]
      rw [e5] at e2
      have e6 : ((q : Int) + (i : Int)) = ((q + i : Nat) : Int) := by omega
      have e7 : f_X7_at 1 ((q : Int) + (i : Int)) (mm t d rt J) = some ((B (q + i) : Int), mm t d rt J) := by rw [e6]; exact e2
      (repeat (first | (with_reducible apply wm_o; focus (simp (disch := omega) only [wr_id, Int.toNat_natCast, Int.reduceToNat, tn_lk, tn_kl, if_pos, if_neg, ↓reduceIte, and_self, and_true, true_and, FTok, FTape, h0, e7]; with_reducible rfl)) | (with_reducible apply wm_q) | (with_reducible apply wm_c; focus (first | assumption | decide +kernel)) | (with_reducible apply wm_d; focus (simp (disch := omega) only [wr_id, Int.toNat_natCast, Int.reduceToNat, tn_lk, tn_kl, if_pos, if_neg, ↓reduceIte, and_self, and_true, true_and, FTok, FTape, h0, e7]; with_reducible rfl)) | (with_reducible apply wm_t; focus (first | omega | (simp (disch := omega) only [wr_id, FTok, FTape, h0, e7]; omega) | (simp (disch := omega) only [wr_id, FTok, FTape, h0, e7]; done))) | (with_reducible apply wm_f; focus (first | omega | (simp (disch := omega) only [wr_id, FTok, FTape, h0, e7]; omega) | (simp (disch := omega) only [wr_id, FTok, FTape, h0, e7]; done)))))
      exact fin _ (hB.2.2 _) e3
    · rw [if_neg c] at e3
      (repeat (first | (with_reducible apply wm_o; focus (simp (disch := omega) only [wr_id, Int.toNat_natCast, Int.reduceToNat, tn_lk, tn_kl, if_pos, if_neg, ↓reduceIte, and_self, and_true, true_and, FTok, FTape, h0]; with_reducible rfl)) | (with_reducible apply wm_q) | (with_reducible apply wm_c; focus (first | assumption | decide +kernel)) | (with_reducible apply wm_d; focus (simp (disch := omega) only [wr_id, Int.toNat_natCast, Int.reduceToNat, tn_lk, tn_kl, if_pos, if_neg, ↓reduceIte, and_self, and_true, true_and, FTok, FTape, h0]; with_reducible rfl)) | (with_reducible apply wm_t; focus (first | omega | (simp (disch := omega) only [wr_id, FTok, FTape, h0]; omega) | (simp (disch := omega) only [wr_id, FTok, FTape, h0]; done))) | (with_reducible apply wm_f; focus (first | omega | (simp (disch := omega) only [wr_id, FTok, FTape, h0]; omega) | (simp (disch := omega) only [wr_id, FTok, FTape, h0]; done)))))
      exact fin 32 (by decide) e3
  · (repeat (first | (with_reducible apply wm_o; focus (simp (disch := omega) only [wr_id, Int.toNat_natCast, Int.reduceToNat, tn_lk, tn_kl, if_pos, if_neg, ↓reduceIte, and_self, and_true, true_and, FTok]; with_reducible rfl)) | (with_reducible apply wm_q) | (with_reducible apply wm_c; focus (first | assumption | decide +kernel)) | (with_reducible apply wm_d; focus (simp (disch := omega) only [wr_id, Int.toNat_natCast, Int.reduceToNat, tn_lk, tn_kl, if_pos, if_neg, ↓reduceIte, and_self, and_true, true_and, FTok]; with_reducible rfl)) | (with_reducible apply wm_t; focus (first | omega | (simp (disch := omega) only [wr_id, FTok]; omega) | (simp (disch := omega) only [wr_id, FTok]; done))) | (with_reducible apply wm_f; focus (first | omega | (simp (disch := omega) only [wr_id, FTok]; omega) | (simp (disch := omega) only [wr_id, FTok]; done)))))
    refine wm_z1 ⟨?_, rfl⟩
    have e8 : i = 8 := by omega
    subst e8
    rw [if_pos (ls_eq (by have := (key_len k hk).1; omega) (by rw [sl_len]; omega) na nb j3)]
theorem w_cutWord (hB : bOK B tl) (hT : tpB I B tl) {q : Nat} (hq : q ≤ tl) (h0 : I 30 4 = (q : Int)) : wm t d rt (f_X9_cutWord 30 (q : Int) (mm t d rt I)) (fun r J => nxI I (rn B isLe q) J ∧ r = ((if 8 < rn B isLe q - q then 1 else wKd (sl B q (rn B isLe q - q)) : Nat) : Int)) := by
  unfold f_X9_cutWord
  have ht := hB.1
  obtain ⟨r1, r2, r3, r4⟩ := rn_spec hB (P := isLe) rfl q
  have r4 := r4 hq
  generalize he : rn B isLe q = e at r1 r2 r3 r4 ⊢
  have fin : ∀ J, nxI I e J → wm t d rt ((jm_gI 9 4 (mm t d rt J) 30).bind fun v1 =>
      if jd_wr (v1 - (q : Int)) ≤ jd_wr 8 then (jlp2 (fun rec_58 (y2_58 : Int) (M_58 : jMem) =>
      if jd_wr y2_58 ≤ jd_wr 38 then (jcall 9 M_58 30 (f_X9_isWord 30 ((y2_58 - 20) * 8) (q : Int) M_58) fun v2 M3 =>
      if jd_wr v2 = 0 then (rec_58 (y2_58 + 1) M3)
      else (some (y2_58, M3)))
      else (some (2, M_58))) jfuel 20 (mm t d rt J))
      else (some (1, (mm t d rt J)))) (fun r J => nxI I e J ∧ r = ((if 8 < e - q then 1 else wKd (sl B q (e - q)) : Nat) : Int)) := by
    rintro J ⟨j1, j2⟩
    have hTJ : tpB J B tl := tpB_frm (j2 1 (by decide)) (j2 2 (by decide)) hT
    by_cases c : 8 < e - q
    · rw [if_pos c]
      (repeat (first | (with_reducible apply wm_o; focus (simp (disch := omega) only [wr_id, Int.toNat_natCast, Int.reduceToNat, tn_lk, tn_kl, if_pos, if_neg, ↓reduceIte, and_self, and_true, true_and, FTok, j1]; with_reducible rfl)) | (with_reducible apply wm_q) | (with_reducible apply wm_c; focus (first | assumption | decide +kernel)) | (with_reducible apply wm_d; focus (simp (disch := omega) only [wr_id, Int.toNat_natCast, Int.reduceToNat, tn_lk, tn_kl, if_pos, if_neg, ↓reduceIte, and_self, and_true, true_and, FTok, j1]; with_reducible rfl)) | (with_reducible apply wm_t; focus (first | omega | (simp (disch := omega) only [wr_id, FTok, j1]; omega) | (simp (disch := omega) only [wr_id, FTok, j1]; done))) | (with_reducible apply wm_f; focus (first | omega | (simp (disch := omega) only [wr_id, FTok, j1]; omega) | (simp (disch := omega) only [wr_id, FTok, j1]; done)))))
      exact wm_r ⟨⟨j1, j2⟩, rfl⟩
    · rw [if_neg c]
      (repeat (first | (with_reducible apply wm_o; focus (simp (disch := omega) only [wr_id, Int.toNat_natCast, Int.reduceToNat, tn_lk, tn_kl, if_pos, if_neg, ↓reduceIte, and_self, and_true, true_and, FTok, j1]; with_reducible rfl)) | (with_reducible apply wm_q) | (with_reducible apply wm_c; focus (first | assumption | decide +kernel)) | (with_reducible apply wm_d; focus (simp (disch := omega) only [wr_id, Int.toNat_natCast, Int.reduceToNat, tn_lk, tn_kl, if_pos, if_neg, ↓reduceIte, and_self, and_true, true_and, FTok, j1]; with_reducible rfl)) | (with_reducible apply wm_t; focus (first | omega | (simp (disch := omega) only [wr_id, FTok, j1]; omega) | (simp (disch := omega) only [wr_id, FTok, j1]; done))) | (with_reducible apply wm_f; focus (first | omega | (simp (disch := omega) only [wr_id, FTok, j1]; omega) | (simp (disch := omega) only [wr_id, FTok, j1]; done)))))
      refine wm_lp2 19 (fun i y J' => y = 20 + (i : Int) ∧ J' = J ∧ ∀ k, k < i → keyL.getD k [] ≠ sl B q (e - q)) ?_ (jfuel_n (by decide)) ⟨rfl, rfl, fun j hj => absurd hj (Nat.not_lt_zero _)⟩
      rintro i hi y J' ⟨rfl, rfl, j3⟩ rec hrec
      by_cases ci : i < 19
      · have e1 := w_isWord (t := t) (d := d) (rt := rt) hB hTJ r1 r4 (by omega) r2 j1 ci
        have e2 : (20 + (i : Int) - 20) * 8 = ((8 * i : Nat) : Int) := by omega
        have e3 : f_X9_isWord 30 ((20 + (i : Int) - 20) * 8) (q : Int) (mm t d rt J') = some ((if keyL.getD i [] = sl B q (e - q) then 1 else 0), mm t d rt J') := by rw [e2]; exact e1
        by_cases c2 : keyL.getD i [] = sl B q (e - q)
        · rw [if_pos c2] at e3
          (repeat (first | (with_reducible apply wm_o; focus (simp (disch := omega) only [wr_id, Int.toNat_natCast, Int.reduceToNat, tn_lk, tn_kl, if_pos, if_neg, ↓reduceIte, and_self, and_true, true_and, FTok, e3]; with_reducible rfl)) | (with_reducible apply wm_q) | (with_reducible apply wm_c; focus (first | assumption | decide +kernel)) | (with_reducible apply wm_d; focus (simp (disch := omega) only [wr_id, Int.toNat_natCast, Int.reduceToNat, tn_lk, tn_kl, if_pos, if_neg, ↓reduceIte, and_self, and_true, true_and, FTok, e3]; with_reducible rfl)) | (with_reducible apply wm_t; focus (first | omega | (simp (disch := omega) only [wr_id, FTok, e3]; omega) | (simp (disch := omega) only [wr_id, FTok, e3]; done))) | (with_reducible apply wm_f; focus (first | omega | (simp (disch := omega) only [wr_id, FTok, e3]; omega) | (simp (disch := omega) only [wr_id, FTok, e3]; done)))))
          refine wm_r ⟨⟨j1, j2⟩, ?_⟩
          rw [wKd_some ci c2]
          omega
        · rw [if_neg c2] at e3
          (repeat (first | (with_reducible apply wm_o; focus (simp (disch := omega) only [wr_id, Int.toNat_natCast, Int.reduceToNat, tn_lk, tn_kl, if_pos, if_neg, ↓reduceIte, and_self, and_true, true_and, FTok, e3]; with_reducible rfl)) | (with_reducible apply wm_q) | (with_reducible apply wm_c; focus (first | assumption | decide +kernel)) | (with_reducible apply wm_d; focus (simp (disch := omega) only [wr_id, Int.toNat_natCast, Int.reduceToNat, tn_lk, tn_kl, if_pos, if_neg, ↓reduceIte, and_self, and_true, true_and, FTok, e3]; with_reducible rfl)) | (with_reducible apply wm_t; focus (first | omega | (simp (disch := omega) only [wr_id, FTok, e3]; omega) | (simp (disch := omega) only [wr_id, FTok, e3]; done))) | (with_reducible apply wm_f; focus (first | omega | (simp (disch := omega) only [wr_id, FTok, e3]; omega) | (simp (disch := omega) only [wr_id, FTok, e3]; done)))))
          refine hrec (i + 1) _ _ (by omega) (by omega) ⟨by omega, rfl, fun k hk => ?_⟩
          by_cases ek : k = i
          · rw [ek]; exact c2
          · exact j3 k (by omega)
      · (repeat (first | (with_reducible apply wm_o; focus (simp (disch := omega) only [wr_id, Int.toNat_natCast, Int.reduceToNat, tn_lk, tn_kl, if_pos, if_neg, ↓reduceIte, and_self, and_true, true_and, FTok]; with_reducible rfl)) | (with_reducible apply wm_q) | (with_reducible apply wm_c; focus (first | assumption | decide +kernel)) | (with_reducible apply wm_d; focus (simp (disch := omega) only [wr_id, Int.toNat_natCast, Int.reduceToNat, tn_lk, tn_kl, if_pos, if_neg, ↓reduceIte, and_self, and_true, true_and, FTok]; with_reducible rfl)) | (with_reducible apply wm_t; focus (first | omega | (simp (disch := omega) only [wr_id, FTok]; omega) | (simp (disch := omega) only [wr_id, FTok]; done))) | (with_reducible apply wm_f; focus (first | omega | (simp (disch := omega) only [wr_id, FTok]; omega) | (simp (disch := omega) only [wr_id, FTok]; done)))))
        refine wm_r ⟨⟨j1, j2⟩, ?_⟩
        rw [wKd_none (fun k hk => j3 k (by omega))]
        rfl
  refine wm_lp2 2000 (fun i y J => y = (i : Int) ∧ nxI I (q + i) J ∧ q + i ≤ e) ?_ (jfuel_n (by decide)) ⟨rfl, ⟨h0, frm_refl _ _⟩, r1⟩
  rintro i hi y J ⟨rfl, ⟨j1, j2⟩, j3⟩ rec hrec
  have hTJ : tpB J B tl := tpB_frm (j2 1 (by decide)) (j2 2 (by decide)) hT
  refine wm_q ?_
  by_cases ci : i < 2000
  · have e1 := q_at (t := t) (d := d) (rt := rt) hB hTJ (q + i) (by omega)
    obtain ⟨a1, a2, a3⟩ := atV_rng hB (q + i)
    have e2 := q_isLe (t := t) (d := d) (rt := rt) (I := J) a1 a2
    rw [a3] at e2
    by_cases c : isLe (B (q + i)) = true
    · rw [if_pos c] at e2
      (repeat (first | (with_reducible apply wm_o; focus (simp (disch := omega) only [wr_id, Int.toNat_natCast, Int.reduceToNat, tn_lk, tn_kl, if_pos, if_neg, ↓reduceIte, and_self, and_true, true_and, FTok, FTape, j1, e1, e2]; with_reducible rfl)) | (with_reducible apply wm_q) | (with_reducible apply wm_c; focus (first | assumption | decide +kernel)) | (with_reducible apply wm_d; focus (simp (disch := omega) only [wr_id, Int.toNat_natCast, Int.reduceToNat, tn_lk, tn_kl, if_pos, if_neg, ↓reduceIte, and_self, and_true, true_and, FTok, FTape, j1, e1, e2]; with_reducible rfl)) | (with_reducible apply wm_t; focus (first | omega | (simp (disch := omega) only [wr_id, FTok, FTape, j1, e1, e2]; omega) | (simp (disch := omega) only [wr_id, FTok, FTape, j1, e1, e2]; done))) | (with_reducible apply wm_f; focus (first | omega | (simp (disch := omega) only [wr_id, FTok, FTape, j1, e1, e2]; omega) | (simp (disch := omega) only [wr_id, FTok, FTape, j1, e1, e2]; done)))))
      refine hrec (i + 1) _ _ (by omega) (by omega) ⟨by omega, ⟨?_, frm_up j2 rfl⟩, ?_⟩
      · rw [up_s]; omega
      · rcases Nat.lt_or_ge (q + i) e with z | z
        · omega
        · exfalso
          have e : q + i = e := by omega
          rw [e, r3] at c
          exact absurd c (by decide)
    · rw [if_neg c] at e2
      have e9 : e = q + i := by
        rw [← he]
        exact rn_uniq hB rfl (by omega) (fun j h1 h2 => r2 j h1 (by omega)) (by cases h : isLe (B (q + i)); rfl; exact absurd h c)
      have f1 := fin J ⟨by rw [e9]; exact j1, j2⟩
      refine wm_t (by simp (disch := omega) only [wr_id]; omega) ?_
      refine wm_o FTok.1 ?_
      refine wm_o (a := ((q + i : Nat) : Int)) (by rw [← j1]; simp only [FTok]) ?_
      refine wm_c (by decide +kernel) ?_
      refine wm_d e1 ?_
      refine wm_d e2 ?_
      refine wm_t (by decide) ?_
      exact f1
  · have f1 := fin J ⟨by rw [show e = q + i by omega]; exact j1, j2⟩
    refine wm_f (by simp (disch := omega) only [wr_id]; omega) ?_
    exact f1
end CT
