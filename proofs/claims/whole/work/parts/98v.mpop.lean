/-! ===== the model's pile of signs ===== -/
def wtA (A : Nat → Int) : List Nat → Prop
  | [] => True
  | s :: S => A S.length = (mkK s : Int) ∧ wtA A S
theorem wtA_up {A : Nat → Int} {j : Nat} {v : Int} : ∀ {S : List Nat}, S.length ≤ j → wtA A S → wtA (rSet A j v) S
  | [], _, _ => True.intro
  | s :: S, h, hw => by
    rw [List.length_cons] at h
    exact ⟨by rw [rSet_n (by omega)]; exact hw.1, wtA_up (by omega) hw.2⟩
/-- what lies between brackets: a sign of the second kind above one of the first -/
def wS : List Nat → Nat → Nat → Prop
  | [], o, _ => o = 0
  | s :: S, o, k => (isMul s = true ∧ k = 2 ∧ wS S o 1) ∨ (isAdd s = true ∧ 1 ≤ k ∧ wS S o 0) ∨ (s = 17 ∧ 1 ≤ o ∧ wS S (o - 1) 2)
theorem wS_len : ∀ {S : List Nat} {o k : Nat}, wS S o k → S.length ≤ 3 * o + k
  | [], o, k, _ => Nat.zero_le _
  | s :: S, o, k, h => by
    rw [List.length_cons]
    rcases h with ⟨_, h1, h2⟩ | ⟨_, h1, h2⟩ | ⟨_, h1, h2⟩
    · have := wS_len h2; omega
    · have := wS_len h2; omega
    · have := wS_len h2; omega
theorem wS_mono : ∀ {S : List Nat} {o k k' : Nat}, k ≤ k' → k' ≤ 2 → wS S o k → wS S o k'
  | [], o, k, k', _, _, h => h
  | s :: S, o, k, k', h1, h2, h => by
    rcases h with ⟨a, b, c⟩ | ⟨a, b, c⟩ | ⟨a, b, c⟩
    · exact Or.inl ⟨a, by omega, c⟩
    · exact Or.inr (Or.inl ⟨a, by omega, c⟩)
    · exact Or.inr (Or.inr ⟨a, b, c⟩)
theorem wS_pop {b : Bool} : ∀ {S : List Nat} {o k : Nat} {C : List CI}, wS S o k → wS (popO b S C).1 o (if b then 1 else 0)
  | [], o, k, C, h => h
  | s :: S, o, k, C, h => by
    rw [popO]
    by_cases c : s = 17 ∨ (b = true ∧ isAdd s = true)
    · rw [if_pos c]
      rcases h with ⟨a1, a2, a3⟩ | ⟨a1, a2, a3⟩ | ⟨a1, a2, a3⟩
      · exfalso
        have := mul_ne a1
        rcases c with c | c
        · exact this.1 c
        · rw [this.2.2] at c; exact absurd c.2 (by decide)
      · rcases c with c | c
        · exact absurd c (add_ne a1).1
        · rw [c.1]
          exact Or.inr (Or.inl ⟨a1, by decide, a3⟩)
      · exact Or.inr (Or.inr ⟨a1, a2, a3⟩)
    · rw [if_neg c]
      rcases h with ⟨a1, a2, a3⟩ | ⟨a1, a2, a3⟩ | ⟨a1, a2, a3⟩
      · exact wS_pop a3
      · exact wS_pop a3
      · exact absurd (Or.inl a1) c
theorem popO_len {b : Bool} : ∀ {S : List Nat} {C : List CI}, (popO b S C).1.length + (popO b S C).2.length = S.length + C.length
  | [], C => rfl
  | s :: S, C => by
    rw [popO]
    by_cases c : s = 17 ∨ (b = true ∧ isAdd s = true)
    · rw [if_pos c]
    · rw [if_neg c, popO_len, List.length_append, List.length_cons, List.length_cons, List.length_nil]; omega
def sgS (S : List Nat) : Prop := ∀ s, s ∈ S → s = 17 ∨ isAdd s = true ∨ isMul s = true
theorem wS_sg : ∀ {S : List Nat} {o k : Nat}, wS S o k → sgS S
  | [], _, _, _ => fun s hs => absurd hs (List.not_mem_nil)
  | x :: S, o, k, h => fun s hs => by
    rcases List.mem_cons.mp hs with e | e
    · subst e
      rcases h with ⟨a, _⟩ | ⟨a, _⟩ | ⟨a, _⟩
      · exact Or.inr (Or.inr a)
      · exact Or.inr (Or.inl a)
      · exact Or.inl a
    · rcases h with ⟨_, _, h⟩ | ⟨_, _, h⟩ | ⟨_, _, h⟩
      · exact wS_sg h s e
      · exact wS_sg h s e
      · exact wS_sg h s e
theorem sg_cases {s : Nat} (h : s = 17 ∨ isAdd s = true ∨ isMul s = true) : s = 12 ∨ s = 13 ∨ s = 14 ∨ s = 15 ∨ s = 17 := by
  unfold isAdd isMul at h
  simp only [Bool.or_eq_true, beq_iff_eq] at h
  omega
section MP
variable {t d rt : Nat} {I J : Nat → Nat → Int}
theorem w_comesOut {b : Bool} {z : Int} (hz : z = if b then 1 else 0) {S : List Nat} {C : List CI} {c0 : Nat} (hS : sgS S) (h1 : I 369 43 = (S.length : Int)) (h2 : wtA (I 397) S) (h3 : I 369 38 = ((c0 + C.length : Nat) : Int)) (h4 : cdAt (I 394) (I 395) c0 (C.map mkC)) {hi : Nat} (hh : c0 + C.length + S.length ≤ hi) (hb : hi ≤ 840) (hl : S.length ≤ 60) : wm t d rt (f_X12_comesOut 369 z (mm t d rt I)) (fun _ J => frM (fun a => a = 394 ∨ a = 395) (fun j => j = 38 ∨ j = 43) I J ∧ J 369 43 = ((popO b S C).1.length : Int) ∧ wtA (J 397) (popO b S C).1 ∧ J 369 38 = ((c0 + (popO b S C).2.length : Nat) : Int) ∧ cdAt (J 394) (J 395) c0 ((popO b S C).2.map mkC) ∧ ∀ p, p < c0 ∨ hi ≤ p → J 394 p = I 394 p ∧ J 395 p = I 395 p) := by
  unfold f_X12_comesOut
  generalize eP : popO b S C = P
  refine wm_lp1 S.length (fun i J => ∃ S1 C1, popO b S1 C1 = P ∧ S1.length + i = S.length ∧ C1.length = C.length + i ∧ sgS S1 ∧ frM (fun a => a = 394 ∨ a = 395) (fun j => j = 38 ∨ j = 43) I J ∧ J 369 43 = (S1.length : Int) ∧ wtA (I 397) S1 ∧ J 369 38 = ((c0 + C1.length : Nat) : Int) ∧ cdAt (J 394) (J 395) c0 (C1.map mkC) ∧ ∀ p, p < c0 ∨ hi ≤ p → J 394 p = I 394 p ∧ J 395 p = I 395 p) ?_ (Nat.lt_of_le_of_lt hl (jfuel_n (by decide))) ⟨S, C, eP, by omega, by omega, hS, frM_refl _ _ _, h1, h2, h3, h4, fun p _ => ⟨rfl, rfl⟩⟩
  rintro i hi' J ⟨S1, C1, a1, a2, a3, a4, a5, a6, a7, a8, a9, a10⟩ rec hrec
  have e397 : J 397 = I 397 := a5.1 397 (by decide) (by decide)
  cases S1 with
  | nil =>
    have a6 : J 369 43 = 0 := a6
    (repeat (first | (with_reducible apply wm_o; focus (simp (disch := omega) only [wr_id, Int.toNat_natCast, Int.reduceToNat, tn_lk, tn_kl, if_pos, if_neg, ↓reduceIte, and_self, and_true, true_and, FM, a6]; with_reducible rfl)) | (with_reducible apply wm_q) | (with_reducible apply wm_c; focus (first | assumption | decide +kernel)) | (with_reducible apply wm_d; focus (simp (disch := omega) only [wr_id, Int.toNat_natCast, Int.reduceToNat, tn_lk, tn_kl, if_pos, if_neg, ↓reduceIte, and_self, and_true, true_and, FM, a6]; with_reducible rfl)) | (with_reducible apply wm_t; focus (first | omega | (simp (disch := omega) only [wr_id, FM, a6]; omega) | (simp (disch := omega) only [wr_id, FM, a6]; done))) | (with_reducible apply wm_f; focus (first | omega | (simp (disch := omega) only [wr_id, FM, a6]; omega) | (simp (disch := omega) only [wr_id, FM, a6]; done)))))
    have : P = ([], C1) := a1.symm
    subst this
    exact wm_r ⟨a5, a6, True.intro, a8, a9, a10⟩
  | cons s S2 =>
    rw [List.length_cons] at a2 a6
    have sg := sg_cases (a4 s (List.mem_cons_self ..))
    have w1 : I 397 S2.length = (mkK s : Int) := a7.1
    have w2 := a7.2
    have w1' : J 397 S2.length = (mkK s : Int) := by rw [e397]; exact w1
    have cc : ((S2.length + 1 : Nat) : Int) - 1 = (S2.length : Int) := by omega
    rw [popO] at a1
    have stay : s = 17 ∨ (b = true ∧ isAdd s = true) → wm t d rt (some (0, mm t d rt J)) (fun _ J => frM (fun a => a = 394 ∨ a = 395) (fun j => j = 38 ∨ j = 43) I J ∧ J 369 43 = (P.1.length : Int) ∧ wtA (J 397) P.1 ∧ J 369 38 = ((c0 + P.2.length : Nat) : Int) ∧ cdAt (J 394) (J 395) c0 (P.2.map mkC) ∧ ∀ p, p < c0 ∨ hi ≤ p → J 394 p = I 394 p ∧ J 395 p = I 395 p) := by
      intro c
      rw [if_pos c] at a1
      subst a1
      exact wm_r ⟨a5, a6, by rw [e397]; exact a7, a8, a9, a10⟩
    by_cases c17 : s = 17
    · subst c17
      have w1'' : J 397 S2.length = 6 := w1'
      (repeat (first | (with_reducible apply wm_o; focus (simp (disch := omega) only [wr_id, Int.toNat_natCast, Int.reduceToNat, tn_lk, tn_kl, if_pos, if_neg, ↓reduceIte, and_self, and_true, true_and, FM, a6, cc, w1'']; with_reducible rfl)) | (with_reducible apply wm_q) | (with_reducible apply wm_c; focus (first | assumption | decide +kernel)) | (with_reducible apply wm_d; focus (simp (disch := omega) only [wr_id, Int.toNat_natCast, Int.reduceToNat, tn_lk, tn_kl, if_pos, if_neg, ↓reduceIte, and_self, and_true, true_and, FM, a6, cc, w1'']; with_reducible rfl)) | (with_reducible apply wm_t; focus (first | omega | (simp (disch := omega) only [wr_id, FM, a6, cc, w1'']; omega) | (simp (disch := omega) only [wr_id, FM, a6, cc, w1'']; done))) | (with_reducible apply wm_f; focus (first | omega | (simp (disch := omega) only [wr_id, FM, a6, cc, w1'']; omega) | (simp (disch := omega) only [wr_id, FM, a6, cc, w1'']; done)))))
      exact stay (Or.inl rfl)
    · -- a sign goes out
      have go : ¬ (b = true ∧ isAdd s = true) → ∀ m : Int, m = ((s - 10 : Nat) : Int) → wm t d rt (jbd (f_X12_emit 369 m 0 (mm t d rt (up J 369 43 (S2.length : Int)))) fun _ M8 => rec M8) (fun _ J => frM (fun a => a = 394 ∨ a = 395) (fun j => j = 38 ∨ j = 43) I J ∧ J 369 43 = (P.1.length : Int) ∧ wtA (J 397) P.1 ∧ J 369 38 = ((c0 + P.2.length : Nat) : Int) ∧ cdAt (J 394) (J 395) c0 (P.2.map mkC) ∧ ∀ p, p < c0 ∨ hi ≤ p → J 394 p = I 394 p ∧ J 395 p = I 395 p) := by
        intro nb m hm
        rw [if_neg (fun q => by rcases q with q | q; exact c17 q; exact nb q)] at a1
        have u38 : up J 369 43 (S2.length : Int) 369 38 = ((c0 + C1.length : Nat) : Int) := by rw [up_g, if_neg (by decide)]; exact a8
        have em := q_emit (t := t) (d := d) (rt := rt) (a := m) (v := 0) u38 (by omega)
        (repeat (first | (with_reducible apply wm_o; focus (simp (disch := omega) only [wr_id, Int.toNat_natCast, Int.reduceToNat, tn_lk, tn_kl, if_pos, if_neg, ↓reduceIte, and_self, and_true, true_and, FM, em]; with_reducible rfl)) | (with_reducible apply wm_q) | (with_reducible apply wm_c; focus (first | assumption | decide +kernel)) | (with_reducible apply wm_d; focus (simp (disch := omega) only [wr_id, Int.toNat_natCast, Int.reduceToNat, tn_lk, tn_kl, if_pos, if_neg, ↓reduceIte, and_self, and_true, true_and, FM, em]; with_reducible rfl)) | (with_reducible apply wm_t; focus (first | omega | (simp (disch := omega) only [wr_id, FM, em]; omega) | (simp (disch := omega) only [wr_id, FM, em]; done))) | (with_reducible apply wm_f; focus (first | omega | (simp (disch := omega) only [wr_id, FM, em]; omega) | (simp (disch := omega) only [wr_id, FM, em]; done)))))
        refine hrec (i + 1) _ (by omega) (by omega) ⟨S2, C1 ++ [cOp s], a1, by omega, by rw [List.length_append, List.length_cons, List.length_nil]; omega, fun x hx => a4 x (List.mem_cons_of_mem _ hx), frM_trans (frM_fd a5 (Or.inr rfl)) (em_frm (Or.inl rfl) (Or.inr rfl) (Or.inl rfl)), ?_, w2, ?_, ?_, fun p hp => ?_⟩
        · rw [em_f (by decide), up_s]
        · unfold emI; rw [up_s, List.length_append, List.length_cons, List.length_nil]; omega
        · rw [List.map_append, cdAt_app, List.length_map]
          refine ⟨cdAt_congr (fun p p1 p2 => ?_) a9, ?_⟩
          · rw [List.length_map] at p2
            rw [em_row.1, em_row.2, if_neg (by omega), if_neg (by omega), up_ne (by decide), up_ne (by decide)]
            exact ⟨rfl, rfl⟩
          · refine ⟨?_, ?_, True.intro⟩
            · rw [em_row.1, if_pos rfl, hm]
              show ((s - 10 : Nat) : Int) = ((if s < 2 then s else s - 10 : Nat) : Int)
              rw [if_neg (by omega)]
            · rw [em_row.2, if_pos rfl]; rfl
        · rw [em_row.1, em_row.2, if_neg (by omega), if_neg (by omega), up_ne (by decide), up_ne (by decide)]
          exact a10 p hp
      rcases sg with rfl | rfl | rfl | rfl | rfl
      · have w1'' : J 397 S2.length = 8 := w1'
        cases b with
        | false =>
          have hz : z = 0 := hz
          subst hz
          (repeat (first | (with_reducible apply wm_o; focus (simp (disch := omega) only [wr_id, Int.toNat_natCast, Int.reduceToNat, tn_lk, tn_kl, if_pos, if_neg, ↓reduceIte, and_self, and_true, true_and, FM, a6, cc, w1'']; with_reducible rfl)) | (with_reducible apply wm_q) | (with_reducible apply wm_c; focus (first | assumption | decide +kernel)) | (with_reducible apply wm_d; focus (simp (disch := omega) only [wr_id, Int.toNat_natCast, Int.reduceToNat, tn_lk, tn_kl, if_pos, if_neg, ↓reduceIte, and_self, and_true, true_and, FM, a6, cc, w1'']; with_reducible rfl)) | (with_reducible apply wm_t; focus (first | omega | (simp (disch := omega) only [wr_id, FM, a6, cc, w1'']; omega) | (simp (disch := omega) only [wr_id, FM, a6, cc, w1'']; done))) | (with_reducible apply wm_f; focus (first | omega | (simp (disch := omega) only [wr_id, FM, a6, cc, w1'']; omega) | (simp (disch := omega) only [wr_id, FM, a6, cc, w1'']; done)))))
          exact go (fun q => absurd q.1 (by decide)) 2 rfl
        | true =>
          have hz : z = 1 := hz
          subst hz
          (repeat (first | (with_reducible apply wm_o; focus (simp (disch := omega) only [wr_id, Int.toNat_natCast, Int.reduceToNat, tn_lk, tn_kl, if_pos, if_neg, ↓reduceIte, and_self, and_true, true_and, FM, a6, cc, w1'']; with_reducible rfl)) | (with_reducible apply wm_q) | (with_reducible apply wm_c; focus (first | assumption | decide +kernel)) | (with_reducible apply wm_d; focus (simp (disch := omega) only [wr_id, Int.toNat_natCast, Int.reduceToNat, tn_lk, tn_kl, if_pos, if_neg, ↓reduceIte, and_self, and_true, true_and, FM, a6, cc, w1'']; with_reducible rfl)) | (with_reducible apply wm_t; focus (first | omega | (simp (disch := omega) only [wr_id, FM, a6, cc, w1'']; omega) | (simp (disch := omega) only [wr_id, FM, a6, cc, w1'']; done))) | (with_reducible apply wm_f; focus (first | omega | (simp (disch := omega) only [wr_id, FM, a6, cc, w1'']; omega) | (simp (disch := omega) only [wr_id, FM, a6, cc, w1'']; done)))))
          exact stay (Or.inr ⟨rfl, rfl⟩)
      · have w1'' : J 397 S2.length = 9 := w1'
        cases b with
        | false =>
          have hz : z = 0 := hz
          subst hz
          (repeat (first | (with_reducible apply wm_o; focus (simp (disch := omega) only [wr_id, Int.toNat_natCast, Int.reduceToNat, tn_lk, tn_kl, if_pos, if_neg, ↓reduceIte, and_self, and_true, true_and, FM, a6, cc, w1'']; with_reducible rfl)) | (with_reducible apply wm_q) | (with_reducible apply wm_c; focus (first | assumption | decide +kernel)) | (with_reducible apply wm_d; focus (simp (disch := omega) only [wr_id, Int.toNat_natCast, Int.reduceToNat, tn_lk, tn_kl, if_pos, if_neg, ↓reduceIte, and_self, and_true, true_and, FM, a6, cc, w1'']; with_reducible rfl)) | (with_reducible apply wm_t; focus (first | omega | (simp (disch := omega) only [wr_id, FM, a6, cc, w1'']; omega) | (simp (disch := omega) only [wr_id, FM, a6, cc, w1'']; done))) | (with_reducible apply wm_f; focus (first | omega | (simp (disch := omega) only [wr_id, FM, a6, cc, w1'']; omega) | (simp (disch := omega) only [wr_id, FM, a6, cc, w1'']; done)))))
          exact go (fun q => absurd q.1 (by decide)) 3 rfl
        | true =>
          have hz : z = 1 := hz
          subst hz
          (repeat (first | (with_reducible apply wm_o; focus (simp (disch := omega) only [wr_id, Int.toNat_natCast, Int.reduceToNat, tn_lk, tn_kl, if_pos, if_neg, ↓reduceIte, and_self, and_true, true_and, FM, a6, cc, w1'']; with_reducible rfl)) | (with_reducible apply wm_q) | (with_reducible apply wm_c; focus (first | assumption | decide +kernel)) | (with_reducible apply wm_d; focus (simp (disch := omega) only [wr_id, Int.toNat_natCast, Int.reduceToNat, tn_lk, tn_kl, if_pos, if_neg, ↓reduceIte, and_self, and_true, true_and, FM, a6, cc, w1'']; with_reducible rfl)) | (with_reducible apply wm_t; focus (first | omega | (simp (disch := omega) only [wr_id, FM, a6, cc, w1'']; omega) | (simp (disch := omega) only [wr_id, FM, a6, cc, w1'']; done))) | (with_reducible apply wm_f; focus (first | omega | (simp (disch := omega) only [wr_id, FM, a6, cc, w1'']; omega) | (simp (disch := omega) only [wr_id, FM, a6, cc, w1'']; done)))))
          exact stay (Or.inr ⟨rfl, rfl⟩)
      · have w1'' : J 397 S2.length = 10 := w1'
        have nb : ¬ (b = true ∧ isAdd 14 = true) := fun q => absurd q.2 (by decide)
        cases b with
        | false =>
          have hz : z = 0 := hz
          subst hz
          (repeat (first | (with_reducible apply wm_o; focus (simp (disch := omega) only [wr_id, Int.toNat_natCast, Int.reduceToNat, tn_lk, tn_kl, if_pos, if_neg, ↓reduceIte, and_self, and_true, true_and, FM, a6, cc, w1'']; with_reducible rfl)) | (with_reducible apply wm_q) | (with_reducible apply wm_c; focus (first | assumption | decide +kernel)) | (with_reducible apply wm_d; focus (simp (disch := omega) only [wr_id, Int.toNat_natCast, Int.reduceToNat, tn_lk, tn_kl, if_pos, if_neg, ↓reduceIte, and_self, and_true, true_and, FM, a6, cc, w1'']; with_reducible rfl)) | (with_reducible apply wm_t; focus (first | omega | (simp (disch := omega) only [wr_id, FM, a6, cc, w1'']; omega) | (simp (disch := omega) only [wr_id, FM, a6, cc, w1'']; done))) | (with_reducible apply wm_f; focus (first | omega | (simp (disch := omega) only [wr_id, FM, a6, cc, w1'']; omega) | (simp (disch := omega) only [wr_id, FM, a6, cc, w1'']; done)))))
          exact go nb 4 rfl
        | true =>
          have hz : z = 1 := hz
          subst hz
          (repeat (first | (with_reducible apply wm_o; focus (simp (disch := omega) only [wr_id, Int.toNat_natCast, Int.reduceToNat, tn_lk, tn_kl, if_pos, if_neg, ↓reduceIte, and_self, and_true, true_and, FM, a6, cc, w1'']; with_reducible rfl)) | (with_reducible apply wm_q) | (with_reducible apply wm_c; focus (first | assumption | decide +kernel)) | (with_reducible apply wm_d; focus (simp (disch := omega) only [wr_id, Int.toNat_natCast, Int.reduceToNat, tn_lk, tn_kl, if_pos, if_neg, ↓reduceIte, and_self, and_true, true_and, FM, a6, cc, w1'']; with_reducible rfl)) | (with_reducible apply wm_t; focus (first | omega | (simp (disch := omega) only [wr_id, FM, a6, cc, w1'']; omega) | (simp (disch := omega) only [wr_id, FM, a6, cc, w1'']; done))) | (with_reducible apply wm_f; focus (first | omega | (simp (disch := omega) only [wr_id, FM, a6, cc, w1'']; omega) | (simp (disch := omega) only [wr_id, FM, a6, cc, w1'']; done)))))
          exact go nb 4 rfl
      · have w1'' : J 397 S2.length = 15 := w1'
        have nb : ¬ (b = true ∧ isAdd 15 = true) := fun q => absurd q.2 (by decide)
        cases b with
        | false =>
          have hz : z = 0 := hz
          subst hz
          (repeat (first | (with_reducible apply wm_o; focus (simp (disch := omega) only [wr_id, Int.toNat_natCast, Int.reduceToNat, tn_lk, tn_kl, if_pos, if_neg, ↓reduceIte, and_self, and_true, true_and, FM, a6, cc, w1'']; with_reducible rfl)) | (with_reducible apply wm_q) | (with_reducible apply wm_c; focus (first | assumption | decide +kernel)) | (with_reducible apply wm_d; focus (simp (disch := omega) only [wr_id, Int.toNat_natCast, Int.reduceToNat, tn_lk, tn_kl, if_pos, if_neg, ↓reduceIte, and_self, and_true, true_and, FM, a6, cc, w1'']; with_reducible rfl)) | (with_reducible apply wm_t; focus (first | omega | (simp (disch := omega) only [wr_id, FM, a6, cc, w1'']; omega) | (simp (disch := omega) only [wr_id, FM, a6, cc, w1'']; done))) | (with_reducible apply wm_f; focus (first | omega | (simp (disch := omega) only [wr_id, FM, a6, cc, w1'']; omega) | (simp (disch := omega) only [wr_id, FM, a6, cc, w1'']; done)))))
          exact go nb 5 rfl
        | true =>
          have hz : z = 1 := hz
          subst hz
          (repeat (first | (with_reducible apply wm_o; focus (simp (disch := omega) only [wr_id, Int.toNat_natCast, Int.reduceToNat, tn_lk, tn_kl, if_pos, if_neg, ↓reduceIte, and_self, and_true, true_and, FM, a6, cc, w1'']; with_reducible rfl)) | (with_reducible apply wm_q) | (with_reducible apply wm_c; focus (first | assumption | decide +kernel)) | (with_reducible apply wm_d; focus (simp (disch := omega) only [wr_id, Int.toNat_natCast, Int.reduceToNat, tn_lk, tn_kl, if_pos, if_neg, ↓reduceIte, and_self, and_true, true_and, FM, a6, cc, w1'']; with_reducible rfl)) | (with_reducible apply wm_t; focus (first | omega | (simp (disch := omega) only [wr_id, FM, a6, cc, w1'']; omega) | (simp (disch := omega) only [wr_id, FM, a6, cc, w1'']; done))) | (with_reducible apply wm_f; focus (first | omega | (simp (disch := omega) only [wr_id, FM, a6, cc, w1'']; omega) | (simp (disch := omega) only [wr_id, FM, a6, cc, w1'']; done)))))
          exact go nb 5 rfl
      · exact absurd rfl c17
end MP
