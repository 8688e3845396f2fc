/-! ===== the class's tokens ===== -/
/-- what the table of tokens holds -/
def toC (I : Nat → Nat → Int) (B : Nat → Nat) (tl n : Nat) : Prop := ∀ i, i < n → I 31 i = (tK B tl i : Int) ∧ I 32 i = (tps B tl i : Int) ∧ (tK B tl i = 3 → I 33 i = tV B tl i)
section CA
variable {t d rt : Nat} {I J : Nat → Nat → Int} {B : Nat → Nat} {tl : Nat}
theorem w_cutNumber (hB : bOK B tl) (hT : tpB I B tl) {q i0 : Nat} (hi0 : i0 < 401) (hq : q ≤ tl) (h0 : I 30 4 = (q : Int)) : wm t d rt (f_X9_cutNumber 30 (i0 : Int) (q : Int) (mm t d rt I)) (fun r J => J 30 4 = (rn B isDi q : Int) ∧ frm (fun a => a = 30 ∨ a = 33) I J ∧ J 33 = up I 33 i0 (tkV B q) 33 ∧ r = ((if 4 < rn B isDi q - q then 1 else 3 : Nat) : Int)) := by
  unfold f_X9_cutNumber tkV
  have ht := hB.1
  obtain ⟨r1, r2, r3, r4⟩ := rn_spec hB (P := isDi) rfl q
  have r4 := r4 hq
  generalize he : rn B isDi q = e at r1 r2 r3 r4 ⊢
  have fin : ∀ J, nxI I e J → wm t d rt ((jm_gR 9 3 (mm t d rt J) 30).bind fun r1 =>
      (jm_st 20 (mm t d rt J) r1 (i0 : Int) (dgV B q (e - q))).bind fun M2 =>
      (jm_gI 9 4 M2 30).bind fun v3 =>
      if jd_wr (v3 - (q : Int)) ≤ jd_wr 4 then (some (3, M2))
      else (some (1, M2))) (fun r J => J 30 4 = (e : Int) ∧ frm (fun a => a = 30 ∨ a = 33) I J ∧ J 33 = up I 33 i0 (dgV B q (e - q)) 33 ∧ r = ((if 4 < e - q then 1 else 3 : Nat) : Int)) := by
    rintro J ⟨j1, j2⟩
    have j33 := j2 33 (by decide)
    have fz : frm (fun a => a = 30 ∨ a = 33) I (up J 33 i0 (dgV B q (e - q))) := frm_up (frm_sub j2 (fun a h => Or.inl h)) (Or.inr rfl)
    have g : up J 33 i0 (dgV B q (e - q)) 33 = up I 33 i0 (dgV B q (e - q)) 33 := by
      funext y
      rw [up_g, up_g, j33]
    have g2 : up J 33 i0 (dgV B q (e - q)) 30 4 = (e : Int) := by rw [up_ne (by decide)]; exact j1
    by_cases c : 4 < e - q
    · rw [if_pos c]
      (repeat (first | (with_reducible apply wm_o; focus (simp (disch := omega) only [wr_id, Int.toNat_natCast, Int.reduceToNat, tn_lk, tn_kl, if_pos, if_neg, ↓reduceIte, and_self, and_true, true_and, FTok, j1, up_ne]; with_reducible rfl)) | (with_reducible apply wm_q) | (with_reducible apply wm_c; focus (first | assumption | decide +kernel)) | (with_reducible apply wm_d; focus (simp (disch := omega) only [wr_id, Int.toNat_natCast, Int.reduceToNat, tn_lk, tn_kl, if_pos, if_neg, ↓reduceIte, and_self, and_true, true_and, FTok, j1, up_ne]; with_reducible rfl)) | (with_reducible apply wm_t; focus (first | omega | (simp (disch := omega) only [wr_id, FTok, j1, up_ne]; omega) | (simp (disch := omega) only [wr_id, FTok, j1, up_ne]; done))) | (with_reducible apply wm_f; focus (first | omega | (simp (disch := omega) only [wr_id, FTok, j1, up_ne]; omega) | (simp (disch := omega) only [wr_id, FTok, j1, up_ne]; done)))))
      exact wm_r ⟨g2, fz, g, rfl⟩
    · rw [if_neg c]
      (repeat (first | (with_reducible apply wm_o; focus (simp (disch := omega) only [wr_id, Int.toNat_natCast, Int.reduceToNat, tn_lk, tn_kl, if_pos, if_neg, ↓reduceIte, and_self, and_true, true_and, FTok, j1, up_ne]; with_reducible rfl)) | (with_reducible apply wm_q) | (with_reducible apply wm_c; focus (first | assumption | decide +kernel)) | (with_reducible apply wm_d; focus (simp (disch := omega) only [wr_id, Int.toNat_natCast, Int.reduceToNat, tn_lk, tn_kl, if_pos, if_neg, ↓reduceIte, and_self, and_true, true_and, FTok, j1, up_ne]; with_reducible rfl)) | (with_reducible apply wm_t; focus (first | omega | (simp (disch := omega) only [wr_id, FTok, j1, up_ne]; omega) | (simp (disch := omega) only [wr_id, FTok, j1, up_ne]; done))) | (with_reducible apply wm_f; focus (first | omega | (simp (disch := omega) only [wr_id, FTok, j1, up_ne]; omega) | (simp (disch := omega) only [wr_id, FTok, j1, up_ne]; done)))))
      exact wm_r ⟨g2, fz, g, rfl⟩
  refine wm_lp3 2000 (fun i v y J => y = (i : Int) ∧ v = dgV B q i ∧ nxI I (q + i) J ∧ q + i ≤ e) ?_ (jfuel_n (by decide)) ⟨rfl, rfl, ⟨h0, frm_refl _ _⟩, r1⟩
  rintro i hi v y J ⟨rfl, rfl, ⟨j1, j2⟩, j3⟩ rec hrec
  have hTJ : tpB J B tl := tpB_frm (j2 1 (by decide)) (j2 2 (by decide)) hT
  refine wm_q ?_
  by_cases ci : i < 2000
  · have e1 := q_at (t := t) (d := d) (rt := rt) hB hTJ (q + i) (by omega)
    obtain ⟨a1, a2, a3⟩ := atV_rng hB (q + i)
    have e2 := q_isDi (t := t) (d := d) (rt := rt) (I := J) a1 a2
    rw [a3] at e2
    by_cases c : isDi (B (q + i)) = true
    · rw [if_pos c] at e2
      have z : q + i < e := by
        rcases Nat.lt_or_ge (q + i) e with z | z
        · omega
        · exfalso
          have e : q + i = e := by omega
          rw [e, r3] at c
          exact absurd c (by decide)
      have e5 : atV B tl (q + i) = (B (q + i) : Int) := by unfold atV; rw [if_pos (by omega)]
      (repeat (first | (with_reducible apply wm_o; focus (simp (disch := omega) only [wr_id, Int.toNat_natCast, Int.reduceToNat, tn_lk, tn_kl, if_pos, if_neg, ↓reduceIte, and_self, and_true, true_and, FTok, FTape, j1, e1, e2]; with_reducible rfl)) | (with_reducible apply wm_q) | (with_reducible apply wm_c; focus (first | assumption | decide +kernel)) | (with_reducible apply wm_d; focus (simp (disch := omega) only [wr_id, Int.toNat_natCast, Int.reduceToNat, tn_lk, tn_kl, if_pos, if_neg, ↓reduceIte, and_self, and_true, true_and, FTok, FTape, j1, e1, e2]; with_reducible rfl)) | (with_reducible apply wm_t; focus (first | omega | (simp (disch := omega) only [wr_id, FTok, FTape, j1, e1, e2]; omega) | (simp (disch := omega) only [wr_id, FTok, FTape, j1, e1, e2]; done))) | (with_reducible apply wm_f; focus (first | omega | (simp (disch := omega) only [wr_id, FTok, FTape, j1, e1, e2]; omega) | (simp (disch := omega) only [wr_id, FTok, FTape, j1, e1, e2]; done)))))
      refine hrec (i + 1) _ _ _ (by omega) (by omega) ⟨by omega, ?_, ⟨?_, frm_up j2 rfl⟩, by omega⟩
      · rw [dgV, e5]
      · rw [up_s]; omega
    · rw [if_neg c] at e2
      have e9 : e = q + i := by
        rw [← he]
        exact rn_uniq hB rfl (by omega) (fun j h1 h2 => r2 j h1 (by omega)) (by cases h : isDi (B (q + i)); rfl; exact absurd h c)
      have f1 := fin J ⟨by rw [e9]; exact j1, j2⟩
      have e10 : e - q = i := by omega
      rw [e10] at f1 ⊢
      refine wm_t (by simp (disch := omega) only [wr_id]; omega) ?_
      refine wm_o FTok.1 ?_
      refine wm_o (a := ((q + i : Nat) : Int)) (by rw [← j1]; simp only [FTok]) ?_
      refine wm_c (by decide +kernel) ?_
      refine wm_d e1 ?_
      refine wm_d e2 ?_
      refine wm_t (by decide) ?_
      exact f1
  · have f1 := fin J ⟨by rw [show e = q + i by omega]; exact j1, j2⟩
    have e10 : e - q = i := by omega
    rw [e10] at f1 ⊢
    refine wm_f (by simp (disch := omega) only [wr_id]; omega) ?_
    exact f1
theorem w_cutOne (hB : bOK B tl) (hT : tpB I B tl) {q i0 : Nat} (hi0 : i0 < 401) (hq : q ≤ tl) (h0 : I 30 4 = (q : Int)) : wm t d rt (f_X9_cutOne 30 (i0 : Int) (mm t d rt I)) (fun r J => J 30 4 = (tkE B tl q : Int) ∧ frm (fun a => a = 30 ∨ a = 33) I J ∧ (∀ i, i ≠ i0 → J 33 i = I 33 i) ∧ (tkK B tl q = 3 → J 33 i0 = tkV B q) ∧ r = (tkK B tl q : Int)) := by
  have ht := hB.1
  unfold f_X9_cutOne
  have e1 := q_at (t := t) (d := d) (rt := rt) hB hT q (by omega)
  by_cases c : tl ≤ q
  · have e5 : atV B tl q = -1 := by unfold atV; rw [if_neg (by omega)]
    rw [e5] at e1
    have k0 : tkK B tl q = 0 := by unfold tkK; rw [if_pos c]
    have k1 : tkE B tl q = q := by unfold tkE; rw [if_pos c]
    (repeat (first | (with_reducible apply wm_o; focus (simp (disch := omega) only [wr_id, Int.toNat_natCast, Int.reduceToNat, tn_lk, tn_kl, if_pos, if_neg, ↓reduceIte, and_self, and_true, true_and, FTok, FTape, h0, e1]; with_reducible rfl)) | (with_reducible apply wm_q) | (with_reducible apply wm_c; focus (first | assumption | decide +kernel)) | (with_reducible apply wm_d; focus (simp (disch := omega) only [wr_id, Int.toNat_natCast, Int.reduceToNat, tn_lk, tn_kl, if_pos, if_neg, ↓reduceIte, and_self, and_true, true_and, FTok, FTape, h0, e1]; with_reducible rfl)) | (with_reducible apply wm_t; focus (first | omega | (simp (disch := omega) only [wr_id, FTok, FTape, h0, e1]; omega) | (simp (disch := omega) only [wr_id, FTok, FTape, h0, e1]; done))) | (with_reducible apply wm_f; focus (first | omega | (simp (disch := omega) only [wr_id, FTok, FTape, h0, e1]; omega) | (simp (disch := omega) only [wr_id, FTok, FTape, h0, e1]; done)))))
    exact wm_r ⟨by rw [k1]; exact h0, frm_refl _ _, fun _ _ => rfl, fun h => by omega, by rw [k0]; rfl⟩
  · have e5 : atV B tl q = (B q : Int) := by unfold atV; rw [if_pos (by omega)]
    have hb := hB.2.2 q
    rw [e5] at e1
    have e2 := q_isLe (t := t) (d := d) (rt := rt) (I := I) (v := (B q : Int)) (by omega) (by omega)
    have e3 := q_isDi (t := t) (d := d) (rt := rt) (I := I) (v := (B q : Int)) (by omega) (by omega)
    rw [show ((B q : Int)).toNat = B q by omega] at e2 e3
    by_cases c2 : isLe (B q) = true
    · rw [if_pos c2] at e2
      have k0 : tkK B tl q = if 8 < rn B isLe q - q then 1 else wKd (sl B q (rn B isLe q - q)) := by unfold tkK; rw [if_neg c, if_pos c2]
      have k1 : tkE B tl q = rn B isLe q := by unfold tkE; rw [if_neg c, if_pos c2]
      (repeat (first | (with_reducible apply wm_o; focus (simp (disch := omega) only [wr_id, Int.toNat_natCast, Int.reduceToNat, tn_lk, tn_kl, if_pos, if_neg, ↓reduceIte, and_self, and_true, true_and, FTok, FTape, h0, e1, e2]; with_reducible rfl)) | (with_reducible apply wm_q) | (with_reducible apply wm_c; focus (first | assumption | decide +kernel)) | (with_reducible apply wm_d; focus (simp (disch := omega) only [wr_id, Int.toNat_natCast, Int.reduceToNat, tn_lk, tn_kl, if_pos, if_neg, ↓reduceIte, and_self, and_true, true_and, FTok, FTape, h0, e1, e2]; with_reducible rfl)) | (with_reducible apply wm_t; focus (first | omega | (simp (disch := omega) only [wr_id, FTok, FTape, h0, e1, e2]; omega) | (simp (disch := omega) only [wr_id, FTok, FTape, h0, e1, e2]; done))) | (with_reducible apply wm_f; focus (first | omega | (simp (disch := omega) only [wr_id, FTok, FTape, h0, e1, e2]; omega) | (simp (disch := omega) only [wr_id, FTok, FTape, h0, e1, e2]; done)))))
      refine wm_b (w_cutWord hB hT hq h0) (fun r J hJ => ?_)
      obtain ⟨⟨j1, j2⟩, j3⟩ := hJ
      refine wm_r ⟨by rw [k1]; exact j1, frm_sub j2 (fun a h => Or.inl h), fun i _ => by rw [j2 33 (by decide)], fun h => ?_, by rw [k0]; exact j3⟩
      exfalso
      rw [k0] at h
      have := wKd_ge (sl B q (rn B isLe q - q))
      split at h
      all_goals omega
    · rw [if_neg c2] at e2
      by_cases c3 : isDi (B q) = true
      · rw [if_pos c3] at e3
        have k0 : tkK B tl q = if 4 < rn B isDi q - q then 1 else 3 := by unfold tkK; rw [if_neg c, if_neg c2, if_pos c3]
        have k1 : tkE B tl q = rn B isDi q := by unfold tkE; rw [if_neg c, if_neg c2, if_pos c3]
        (repeat (first | (with_reducible apply wm_o; focus (simp (disch := omega) only [wr_id, Int.toNat_natCast, Int.reduceToNat, tn_lk, tn_kl, if_pos, if_neg, ↓reduceIte, and_self, and_true, true_and, FTok, FTape, h0, e1, e2, e3]; with_reducible rfl)) | (with_reducible apply wm_q) | (with_reducible apply wm_c; focus (first | assumption | decide +kernel)) | (with_reducible apply wm_d; focus (simp (disch := omega) only [wr_id, Int.toNat_natCast, Int.reduceToNat, tn_lk, tn_kl, if_pos, if_neg, ↓reduceIte, and_self, and_true, true_and, FTok, FTape, h0, e1, e2, e3]; with_reducible rfl)) | (with_reducible apply wm_t; focus (first | omega | (simp (disch := omega) only [wr_id, FTok, FTape, h0, e1, e2, e3]; omega) | (simp (disch := omega) only [wr_id, FTok, FTape, h0, e1, e2, e3]; done))) | (with_reducible apply wm_f; focus (first | omega | (simp (disch := omega) only [wr_id, FTok, FTape, h0, e1, e2, e3]; omega) | (simp (disch := omega) only [wr_id, FTok, FTape, h0, e1, e2, e3]; done)))))
        refine wm_b (w_cutNumber hB hT hi0 hq h0) (fun r J hJ => ?_)
        obtain ⟨j1, j2, j3, j4⟩ := hJ
        refine wm_r ⟨by rw [k1]; exact j1, j2, fun i hi => by rw [j3, up_g, if_neg hi], fun _ => by rw [j3, up_s], by rw [k0]; exact j4⟩
      · rw [if_neg c3] at e3
        have k0 : tkK B tl q = sgK (B q) := by unfold tkK; rw [if_neg c, if_neg c2, if_neg c3]
        have k1 : tkE B tl q = q + 1 := by unfold tkE; rw [if_neg c, if_neg c2, if_neg c3]
        have n3 : ¬ tkK B tl q = 3 := by
          rw [k0]
          have := sgK_ge (B q)
          omega
        rcases six_eq (B q) hb with ⟨s1, s2⟩ | ⟨s1, s2⟩
        · (repeat (first | (with_reducible apply wm_o; focus (simp (disch := omega) only [wr_id, Int.toNat_natCast, Int.reduceToNat, tn_lk, tn_kl, if_pos, if_neg, ↓reduceIte, and_self, and_true, true_and, FTok, FTape, h0, e1, e2, e3]; with_reducible rfl)) | (with_reducible apply wm_q) | (with_reducible apply wm_c; focus (first | assumption | decide +kernel)) | (with_reducible apply wm_d; focus (simp (disch := omega) only [wr_id, Int.toNat_natCast, Int.reduceToNat, tn_lk, tn_kl, if_pos, if_neg, ↓reduceIte, and_self, and_true, true_and, FTok, FTape, h0, e1, e2, e3]; with_reducible rfl)) | (with_reducible apply wm_t; focus (first | omega | (simp (disch := omega) only [wr_id, FTok, FTape, h0, e1, e2, e3]; omega) | (simp (disch := omega) only [wr_id, FTok, FTape, h0, e1, e2, e3]; done))) | (with_reducible apply wm_f; focus (first | omega | (simp (disch := omega) only [wr_id, FTok, FTape, h0, e1, e2, e3]; omega) | (simp (disch := omega) only [wr_id, FTok, FTape, h0, e1, e2, e3]; done)))))
          exact wm_r ⟨by rw [k1, up_s]; omega, frm_up (frm_refl _ _) (Or.inl rfl), fun i _ => by rw [up_ne (by decide)], fun h => absurd h n3, by rw [k0, s2]; rfl⟩
        · (repeat (first | (with_reducible apply wm_o; focus (simp (disch := omega) only [wr_id, Int.toNat_natCast, Int.reduceToNat, tn_lk, tn_kl, if_pos, if_neg, ↓reduceIte, and_self, and_true, true_and, FTok, FTape, h0, e1, e2, e3]; with_reducible rfl)) | (with_reducible apply wm_q) | (with_reducible apply wm_c; focus (first | assumption | decide +kernel)) | (with_reducible apply wm_d; focus (simp (disch := omega) only [wr_id, Int.toNat_natCast, Int.reduceToNat, tn_lk, tn_kl, if_pos, if_neg, ↓reduceIte, and_self, and_true, true_and, FTok, FTape, h0, e1, e2, e3]; with_reducible rfl)) | (with_reducible apply wm_t; focus (first | omega | (simp (disch := omega) only [wr_id, FTok, FTape, h0, e1, e2, e3]; omega) | (simp (disch := omega) only [wr_id, FTok, FTape, h0, e1, e2, e3]; done))) | (with_reducible apply wm_f; focus (first | omega | (simp (disch := omega) only [wr_id, FTok, FTape, h0, e1, e2, e3]; omega) | (simp (disch := omega) only [wr_id, FTok, FTape, h0, e1, e2, e3]; done)))))
          exact wm_r ⟨by rw [k1, up_s]; omega, frm_up (frm_refl _ _) (Or.inl rfl), fun i _ => by rw [up_ne (by decide)], fun h => absurd h n3, by rw [k0]; exact s2⟩
theorem w_cutAll (hB : bOK B tl) (hT : tpB I B tl) : wm t d rt (f_X9_cutAll 30 (mm t d rt I)) (fun _ J => frm (fun a => 30 ≤ a ∧ a ≤ 33) I J ∧ ∃ n, n ≤ 401 ∧ toC J B tl n ∧ 0 < n ∧ (n = 401 ∨ tK B tl (n - 1) = 0) ∧ ∀ i, i + 1 < n → tK B tl i ≠ 0) := by
  have ht := hB.1
  unfold f_X9_cutAll
  (repeat (first | (with_reducible apply wm_o; focus (simp (disch := omega) only [wr_id, Int.toNat_natCast, Int.reduceToNat, tn_lk, tn_kl, if_pos, if_neg, ↓reduceIte, and_self, and_true, true_and, FTok]; with_reducible rfl)) | (with_reducible apply wm_q) | (with_reducible apply wm_c; focus (first | assumption | decide +kernel)) | (with_reducible apply wm_d; focus (simp (disch := omega) only [wr_id, Int.toNat_natCast, Int.reduceToNat, tn_lk, tn_kl, if_pos, if_neg, ↓reduceIte, and_self, and_true, true_and, FTok]; with_reducible rfl)) | (with_reducible apply wm_t; focus (first | omega | (simp (disch := omega) only [wr_id, FTok]; omega) | (simp (disch := omega) only [wr_id, FTok]; done))) | (with_reducible apply wm_f; focus (first | omega | (simp (disch := omega) only [wr_id, FTok]; omega) | (simp (disch := omega) only [wr_id, FTok]; done)))))
  refine wm_lp3 401 (fun i b y J => y = (i : Int) ∧ frm (fun a => 30 ≤ a ∧ a ≤ 33) I J ∧ toC J B tl i ∧ (∃ p : Nat, J 30 4 = (p : Int) ∧ p ≤ tl ∧ tps B tl i = rn B isBl p) ∧ (∀ k, k + 1 < i → tK B tl k ≠ 0) ∧ b = (if 0 < i ∧ tK B tl (i - 1) = 0 then 1 else 0)) ?_ (jfuel_n (by decide)) ⟨rfl, frm_up (frm_refl _ _) (by decide), fun i hi => absurd hi (Nat.not_lt_zero _), ⟨0, up_s _ _ _ _, Nat.zero_le _, rfl⟩, fun k hk => by omega, by rw [if_neg (fun q => Nat.lt_irrefl 0 q.1)]⟩
  rintro i hi b y J ⟨rfl, j1, j2, ⟨p, j3, j4, j5⟩, j6, rfl⟩ rec hrec
  have hTJ : tpB J B tl := tpB_frm (j1 1 (by decide)) (j1 2 (by decide)) hT
  by_cases ci : i < 401
  · by_cases cb : 0 < i ∧ tK B tl (i - 1) = 0
    · rw [if_pos cb]
      (repeat (first | (with_reducible apply wm_o; focus (simp (disch := omega) only [wr_id, Int.toNat_natCast, Int.reduceToNat, tn_lk, tn_kl, if_pos, if_neg, ↓reduceIte, and_self, and_true, true_and, FTok]; with_reducible rfl)) | (with_reducible apply wm_q) | (with_reducible apply wm_c; focus (first | assumption | decide +kernel)) | (with_reducible apply wm_d; focus (simp (disch := omega) only [wr_id, Int.toNat_natCast, Int.reduceToNat, tn_lk, tn_kl, if_pos, if_neg, ↓reduceIte, and_self, and_true, true_and, FTok]; with_reducible rfl)) | (with_reducible apply wm_t; focus (first | omega | (simp (disch := omega) only [wr_id, FTok]; omega) | (simp (disch := omega) only [wr_id, FTok]; done))) | (with_reducible apply wm_f; focus (first | omega | (simp (disch := omega) only [wr_id, FTok]; omega) | (simp (disch := omega) only [wr_id, FTok]; done)))))
      exact wm_r ⟨j1, i, hi, j2, cb.1, Or.inr cb.2, j6⟩
    · rw [if_neg cb]
      (repeat (first | (with_reducible apply wm_o; focus (simp (disch := omega) only [wr_id, Int.toNat_natCast, Int.reduceToNat, tn_lk, tn_kl, if_pos, if_neg, ↓reduceIte, and_self, and_true, true_and, FTok]; with_reducible rfl)) | (with_reducible apply wm_q) | (with_reducible apply wm_c; focus (first | assumption | decide +kernel)) | (with_reducible apply wm_d; focus (simp (disch := omega) only [wr_id, Int.toNat_natCast, Int.reduceToNat, tn_lk, tn_kl, if_pos, if_neg, ↓reduceIte, and_self, and_true, true_and, FTok]; with_reducible rfl)) | (with_reducible apply wm_t; focus (first | omega | (simp (disch := omega) only [wr_id, FTok]; omega) | (simp (disch := omega) only [wr_id, FTok]; done))) | (with_reducible apply wm_f; focus (first | omega | (simp (disch := omega) only [wr_id, FTok]; omega) | (simp (disch := omega) only [wr_id, FTok]; done)))))
      refine wm_b (w_skip hB hTJ j4 j3) (fun r J1 hJ1 => ?_)
      obtain ⟨k1, k2⟩ := hJ1
      rw [← j5] at k1
      have pl := tps_le hB i
      (repeat (first | (with_reducible apply wm_o; focus (simp (disch := omega) only [wr_id, Int.toNat_natCast, Int.reduceToNat, tn_lk, tn_kl, if_pos, if_neg, ↓reduceIte, and_self, and_true, true_and, FTok, k1]; with_reducible rfl)) | (with_reducible apply wm_q) | (with_reducible apply wm_c; focus (first | assumption | decide +kernel)) | (with_reducible apply wm_d; focus (simp (disch := omega) only [wr_id, Int.toNat_natCast, Int.reduceToNat, tn_lk, tn_kl, if_pos, if_neg, ↓reduceIte, and_self, and_true, true_and, FTok, k1]; with_reducible rfl)) | (with_reducible apply wm_t; focus (first | omega | (simp (disch := omega) only [wr_id, FTok, k1]; omega) | (simp (disch := omega) only [wr_id, FTok, k1]; done))) | (with_reducible apply wm_f; focus (first | omega | (simp (disch := omega) only [wr_id, FTok, k1]; omega) | (simp (disch := omega) only [wr_id, FTok, k1]; done)))))
      have f2 : frm (fun a => 30 ≤ a ∧ a ≤ 33) I (up J1 32 i (tps B tl i : Int)) := frm_up (frm_trans j1 (frm_sub k2 (fun a h => by omega))) (by decide)
      have hT2 : tpB (up J1 32 i (tps B tl i : Int)) B tl := tpB_frm (f2 1 (by decide)) (f2 2 (by decide)) hT
      refine wm_b (w_cutOne hB hT2 ci pl (by rw [up_ne (by decide)]; exact k1)) (fun r2 J2 hJ2 => ?_)
      obtain ⟨l1, l2, l3, l4, rfl⟩ := hJ2
      have l31 : J2 31 = J 31 := by rw [l2 31 (by decide), up_ne (by decide), k2 31 (by decide)]
      have l32 : ∀ x, J2 32 x = if x = i then (tps B tl i : Int) else J 32 x := fun x => by rw [l2 32 (by decide), up_g, k2 32 (by decide)]
      have l33 : ∀ x, x ≠ i → J2 33 x = J 33 x := fun x hx => by rw [l3 x hx, up_ne (by decide), k2 33 (by decide)]
      have kk : tkK B tl (tps B tl i) = tK B tl i := rfl
      have vv : tkV B (tps B tl i) = tV B tl i := rfl
      rw [kk, vv] at l4
      rw [kk]
      have nx : ∀ b', b' = (if tK B tl i = 0 then (1 : Int) else 0) → wm t d rt (rec b' ((i : Int) + 1) (mm t d rt (up J2 31 i (tK B tl i : Int)))) (fun _ J => frm (fun a => 30 ≤ a ∧ a ≤ 33) I J ∧ ∃ n, n ≤ 401 ∧ toC J B tl n ∧ 0 < n ∧ (n = 401 ∨ tK B tl (n - 1) = 0) ∧ ∀ i, i + 1 < n → tK B tl i ≠ 0) := by
        intro b' hb'
        refine hrec (i + 1) _ _ _ (by omega) (by omega) ⟨by omega, frm_up (frm_trans f2 (frm_sub l2 (fun a h => by omega))) (by decide), fun x hx => ?_, ⟨tkE B tl (tps B tl i), ?_, ?_, rfl⟩, fun k hk => ?_, ?_⟩
        · rw [up_g, up_ne (by decide), up_ne (by decide), l31, l32 x]
          by_cases ex : x = i
          · rw [if_pos ex, if_pos ex, ex]
            exact ⟨rfl, rfl, l4⟩
          · rw [if_neg ex, if_neg ex, l33 x ex]
            exact j2 x (by omega)
        · rw [up_ne (by decide)]; exact l1
        · have h1 := (rn_spec hB (P := isBl) rfl (tkE B tl (tps B tl i))).1
          have h2 := tps_le hB (i + 1)
          rw [tps] at h2
          omega
        · by_cases ek : k + 1 < i
          · exact j6 k ek
          · have e : k = i - 1 := by omega
            rw [e]
            intro h
            exact cb ⟨by omega, h⟩
        · rw [hb']
          show _ = if 0 < i + 1 ∧ tK B tl i = 0 then (1 : Int) else 0
          by_cases z : tK B tl i = 0
          · rw [if_pos z, if_pos ⟨by omega, z⟩]
          · rw [if_neg z, if_neg (fun q => z q.2)]
      have kr : tK B tl i < 39 := by
        have h1 := wKd_ge (sl B (tps B tl i) (rn B isLe (tps B tl i) - tps B tl i))
        have h2 := sgK_ge (B (tps B tl i))
        show tkK B tl (tps B tl i) < 39
        unfold tkK
        repeat' split
        all_goals omega
      (repeat (first | (with_reducible apply wm_o; focus (simp (disch := omega) only [wr_id, Int.toNat_natCast, Int.reduceToNat, tn_lk, tn_kl, if_pos, if_neg, ↓reduceIte, and_self, and_true, true_and, FTok]; with_reducible rfl)) | (with_reducible apply wm_q) | (with_reducible apply wm_c; focus (first | assumption | decide +kernel)) | (with_reducible apply wm_d; focus (simp (disch := omega) only [wr_id, Int.toNat_natCast, Int.reduceToNat, tn_lk, tn_kl, if_pos, if_neg, ↓reduceIte, and_self, and_true, true_and, FTok]; with_reducible rfl)) | (with_reducible apply wm_t; focus (first | omega | (simp (disch := omega) only [wr_id, FTok]; omega) | (simp (disch := omega) only [wr_id, FTok]; done))) | (with_reducible apply wm_f; focus (first | omega | (simp (disch := omega) only [wr_id, FTok]; omega) | (simp (disch := omega) only [wr_id, FTok]; done)))))
      rw [up_s]
      refine wm_q ?_
      by_cases z : tK B tl i = 0
      · refine wm_t (by rw [wr_id (by omega) (by omega)]; omega) ?_
        exact nx 1 (by rw [if_pos z])
      · refine wm_f (by rw [wr_id (by omega) (by omega)]; omega) ?_
        exact nx 0 (by rw [if_neg z])
  · (repeat (first | (with_reducible apply wm_o; focus (simp (disch := omega) only [wr_id, Int.toNat_natCast, Int.reduceToNat, tn_lk, tn_kl, if_pos, if_neg, ↓reduceIte, and_self, and_true, true_and, FTok]; with_reducible rfl)) | (with_reducible apply wm_q) | (with_reducible apply wm_c; focus (first | assumption | decide +kernel)) | (with_reducible apply wm_d; focus (simp (disch := omega) only [wr_id, Int.toNat_natCast, Int.reduceToNat, tn_lk, tn_kl, if_pos, if_neg, ↓reduceIte, and_self, and_true, true_and, FTok]; with_reducible rfl)) | (with_reducible apply wm_t; focus (first | omega | (simp (disch := omega) only [wr_id, FTok]; omega) | (simp (disch := omega) only [wr_id, FTok]; done))) | (with_reducible apply wm_f; focus (first | omega | (simp (disch := omega) only [wr_id, FTok]; omega) | (simp (disch := omega) only [wr_id, FTok]; done)))))
    exact wm_r ⟨j1, i, hi, j2, by omega, Or.inl (by omega), j6⟩
end CA
