/-! ===== the model reads a sum ===== -/
def exP : Nat → Prop := fun a => a = 394 ∨ a = 395 ∨ a = 397
def exT : Nat → Prop := fun j => j = 11 ∨ j = 12 ∨ j = 13 ∨ j = 14 ∨ j = 38 ∨ j = 43
/-- the state within a sum -/
def exS (K : Nat → Nat) (V : Nat → Int) (ps : Nat → Nat) (c0 hi i0 : Nat) (I0 I : Nat → Nat → Int) (S : List Nat) (o : Nat) (C : List CI) (i : Nat) : Prop := rdM K V ps I i ∧ I 369 12 = (o : Int) ∧ I 369 43 = (S.length : Int) ∧ wtA (I 397) S ∧ I 369 38 = ((c0 + C.length : Nat) : Int) ∧ cdAt (I 394) (I 395) c0 (C.map mkC) ∧ (∀ p, p < c0 ∨ hi ≤ p → I 394 p = I0 394 p ∧ I 395 p = I0 395 p) ∧ frM exP exT I0 I ∧ C.length + S.length + i0 ≤ i ∧ wS S o 2 ∧ o ≤ 6
section ME
variable {t d rt : Nat} {I I0 J : Nat → Nat → Int} {K : Nat → Nat} {V : Nat → Int} {ps : Nat → Nat} {i c0 i0 : Nat} {S : List Nat} {o : Nat} {C : List CI}
theorem rd_fd {j : Nat} {v : Int} (hj : j ≠ 11 ∧ j ≠ 13) (h : rdM K V ps I i) : rdM K V ps (up I 369 j v) i := by
  obtain ⟨h1, h2, h3, h4, h5⟩ := h
  exact ⟨tbM_frm (up_ne (by decide)) (up_ne (by decide)) (up_ne (by decide)) h1, by rw [up_g, if_neg (by omega)]; exact h2, by rw [up_g, if_neg (by omega)]; exact h3, h4, h5⟩
theorem rd_frM {S T : Nat → Prop} (hf : frM S T I J) (hS : ∀ a, 372 ≤ a → a ≤ 374 → ¬ S a) (h11 : ¬ T 11) (h13 : ¬ T 13) (h : rdM K V ps I i) : rdM K V ps J i := by
  obtain ⟨h1, h2, h3, h4, h5⟩ := h
  exact ⟨tbM_frm (hf.1 _ (by decide) (hS _ (by omega) (by omega))) (hf.1 _ (by decide) (hS _ (by omega) (by omega))) (hf.1 _ (by decide) (hS _ (by omega) (by omega))) h1, by rw [hf.2 _ h11]; exact h2, by rw [hf.2 _ h13]; exact h3, h4, h5⟩
theorem w_unit (hk : ∀ i, kR (K i)) (hR : rdM K V ps I i) {n : Nat} (hn : I 369 38 = (n : Int)) (hn' : n < 840) : wm t d rt (f_X12_unit 369 (mm t d rt I)) (fun _ J => (∃ x : CI, ((K i = 3 ∧ x = cNum (V i)) ∨ (30 ≤ K i ∧ K i ≤ 38 ∧ x = cVar (K i - 30))) ∧ i < 400 ∧ J = up (emI I n ((mkC x).1 : Int) (mkC x).2) 369 11 ((i : Int) + 1) ∧ rdM K V ps J (i + 1)) ∨ (frM exP exT I J ∧ (∀ p, p ≠ n → J 394 p = I 394 p ∧ J 395 p = I 395 p) ∧ (((K i = 3 ∨ (30 ≤ K i ∧ K i ≤ 38)) ∧ ¬ i < 400 ∧ fltM ps J 2 i) ∨ (¬ (K i = 3 ∨ (30 ≤ K i ∧ K i ≤ 38)) ∧ fltM ps J 1 i)))) := by
  have hR' := hR
  obtain ⟨h1, h2, h3, h4, h5⟩ := hR
  obtain ⟨g1, g2, g3⟩ := h1 i h4 h5
  have kk := hk i
  have e1 := q_is (t := t) (d := d) (rt := rt) hk hR' (j := 3) (z := 2) rfl (Or.inl (by decide))
  have one : ∀ (x : CI), ((K i = 3 ∧ x = cNum (V i)) ∨ (30 ≤ K i ∧ K i ≤ 38 ∧ x = cVar (K i - 30))) → wm t d rt (jbd (f_X12_emit 369 ((mkC x).1 : Int) (mkC x).2 (mm t d rt I)) fun _ M16 => jcall 12 M16 369 (f_X12_goesOn 369 M16) fun _ M18 => some (0, M18)) (fun _ J => (∃ x : CI, ((K i = 3 ∧ x = cNum (V i)) ∨ (30 ≤ K i ∧ K i ≤ 38 ∧ x = cVar (K i - 30))) ∧ i < 400 ∧ J = up (emI I n ((mkC x).1 : Int) (mkC x).2) 369 11 ((i : Int) + 1) ∧ rdM K V ps J (i + 1)) ∨ (frM exP exT I J ∧ (∀ p, p ≠ n → J 394 p = I 394 p ∧ J 395 p = I 395 p) ∧ (((K i = 3 ∨ (30 ≤ K i ∧ K i ≤ 38)) ∧ ¬ i < 400 ∧ fltM ps J 2 i) ∨ (¬ (K i = 3 ∨ (30 ≤ K i ∧ K i ≤ 38)) ∧ fltM ps J 1 i)))) := by
    intro x hx
    have em := q_emit (t := t) (d := d) (rt := rt) (a := ((mkC x).1 : Int)) (v := (mkC x).2) hn hn'
    have fr : frM exP exT I (emI I n ((mkC x).1 : Int) (mkC x).2) := em_frm (Or.inl rfl) (Or.inr (Or.inl rfl)) (by unfold exT; omega)
    have rd : rdM K V ps (emI I n ((mkC x).1 : Int) (mkC x).2) i := rd_frM (S := fun a => a = 394 ∨ a = 395) (T := fun j => j = 38) (em_frm (Or.inl rfl) (Or.inr rfl) rfl) (fun a a1 a2 => by omega) (by decide) (by decide) hR'
    (repeat (first | (with_reducible apply wm_o; focus (simp (disch := omega) only [wr_id, Int.toNat_natCast, Int.reduceToNat, tn_lk, tn_kl, if_pos, if_neg, ↓reduceIte, and_self, and_true, true_and, FM, em]; with_reducible rfl)) | (with_reducible apply wm_q) | (with_reducible apply wm_c; focus (first | assumption | decide +kernel)) | (with_reducible apply wm_d; focus (simp (disch := omega) only [wr_id, Int.toNat_natCast, Int.reduceToNat, tn_lk, tn_kl, if_pos, if_neg, ↓reduceIte, and_self, and_true, true_and, FM, em]; with_reducible rfl)) | (with_reducible apply wm_t; focus (first | omega | (simp (disch := omega) only [wr_id, FM, em]; omega) | (simp (disch := omega) only [wr_id, FM, em]; done))) | (with_reducible apply wm_f; focus (first | omega | (simp (disch := omega) only [wr_id, FM, em]; omega) | (simp (disch := omega) only [wr_id, FM, em]; done)))))
    refine wm_b (w_goesOn rd (by rcases hx with h | h <;> omega)) (fun r J hJ => ?_)
    rcases hJ with ⟨_, ⟨a1, rfl, a2⟩ | ⟨a1, rfl, a2⟩⟩
    · exact wm_r (Or.inl ⟨x, hx, a1, rfl, a2⟩)
    · refine wm_r (Or.inr ⟨frM_trans fr (flI_frm (by unfold exT; omega) (by unfold exT; omega)), fun p hp => ?_, Or.inl ⟨?_, a1, a2⟩⟩)
      · unfold flI; rw [up_ne (by decide), up_ne (by decide), up_ne (by decide), up_ne (by decide), em_row.1, em_row.2, if_neg hp, if_neg hp]; exact ⟨rfl, rfl⟩
      rcases hx with h | h
      · exact Or.inl h.1
      · exact Or.inr ⟨h.1, h.2.1⟩
  unfold f_X12_unit
  by_cases c1 : K i = 3
  · rw [if_pos c1] at e1
    have g3' := g3 c1
    (repeat (first | (with_reducible apply wm_o; focus (simp (disch := omega) only [wr_id, Int.toNat_natCast, Int.reduceToNat, tn_lk, tn_kl, if_pos, if_neg, ↓reduceIte, and_self, and_true, true_and, FM, e1, h2, g3']; with_reducible rfl)) | (with_reducible apply wm_q) | (with_reducible apply wm_c; focus (first | assumption | decide +kernel)) | (with_reducible apply wm_d; focus (simp (disch := omega) only [wr_id, Int.toNat_natCast, Int.reduceToNat, tn_lk, tn_kl, if_pos, if_neg, ↓reduceIte, and_self, and_true, true_and, FM, e1, h2, g3']; with_reducible rfl)) | (with_reducible apply wm_t; focus (first | omega | (simp (disch := omega) only [wr_id, FM, e1, h2, g3']; omega) | (simp (disch := omega) only [wr_id, FM, e1, h2, g3']; done))) | (with_reducible apply wm_f; focus (first | omega | (simp (disch := omega) only [wr_id, FM, e1, h2, g3']; omega) | (simp (disch := omega) only [wr_id, FM, e1, h2, g3']; done)))))
    exact one (cNum (V i)) (Or.inl ⟨c1, rfl⟩)
  · rw [if_neg c1] at e1
    have fl := q_fail (t := t) (d := d) (rt := rt) hR' (c := 1) (z := 1) rfl
    have m39 : mkK (K i) < 39 := mk_lt _ (by unfold kR at kk; omega)
    by_cases c2 : 30 ≤ K i ∧ K i ≤ 38
    · have em : mkK (K i) = K i := by
        unfold mkK
        rw [if_neg (by omega), if_neg (by omega), if_neg (by omega), if_neg (by omega)]
      rw [em] at g1
      have e30 : (K i : Int) - 30 = ((K i - 30 : Nat) : Int) := by omega
      (repeat (first | (with_reducible apply wm_o; focus (simp (disch := omega) only [wr_id, Int.toNat_natCast, Int.reduceToNat, tn_lk, tn_kl, if_pos, if_neg, ↓reduceIte, and_self, and_true, true_and, FM, e1, h3, h2, g1]; with_reducible rfl)) | (with_reducible apply wm_q) | (with_reducible apply wm_c; focus (first | assumption | decide +kernel)) | (with_reducible apply wm_d; focus (simp (disch := omega) only [wr_id, Int.toNat_natCast, Int.reduceToNat, tn_lk, tn_kl, if_pos, if_neg, ↓reduceIte, and_self, and_true, true_and, FM, e1, h3, h2, g1]; with_reducible rfl)) | (with_reducible apply wm_t; focus (first | omega | (simp (disch := omega) only [wr_id, FM, e1, h3, h2, g1]; omega) | (simp (disch := omega) only [wr_id, FM, e1, h3, h2, g1]; done))) | (with_reducible apply wm_f; focus (first | omega | (simp (disch := omega) only [wr_id, FM, e1, h3, h2, g1]; omega) | (simp (disch := omega) only [wr_id, FM, e1, h3, h2, g1]; done)))))
      rw [e30]
      exact one (cVar (K i - 30)) (Or.inr ⟨c2.1, c2.2, rfl⟩)
    · have bad : wm t d rt (some (0, mm t d rt (flI ps I 1 i))) (fun _ J => (∃ x : CI, ((K i = 3 ∧ x = cNum (V i)) ∨ (30 ≤ K i ∧ K i ≤ 38 ∧ x = cVar (K i - 30))) ∧ i < 400 ∧ J = up (emI I n ((mkC x).1 : Int) (mkC x).2) 369 11 ((i : Int) + 1) ∧ rdM K V ps J (i + 1)) ∨ (frM exP exT I J ∧ (∀ p, p ≠ n → J 394 p = I 394 p ∧ J 395 p = I 395 p) ∧ (((K i = 3 ∨ (30 ≤ K i ∧ K i ≤ 38)) ∧ ¬ i < 400 ∧ fltM ps J 2 i) ∨ (¬ (K i = 3 ∨ (30 ≤ K i ∧ K i ≤ 38)) ∧ fltM ps J 1 i)))) :=
        wm_r (Or.inr ⟨flI_frm (by unfold exT; omega) (by unfold exT; omega), fun p _ => (by unfold flI; rw [up_ne (by decide), up_ne (by decide), up_ne (by decide), up_ne (by decide)]; exact ⟨rfl, rfl⟩), Or.inr ⟨by omega, flI_ok hR' (Or.inl rfl)⟩⟩)
      have m30 : mkK (K i) < 30 := by
        have md : ∀ k : Nat, k < 30 → mkK k < 30 := by decide +kernel
        exact md _ (by unfold kR at kk; omega)
      (repeat (first | (with_reducible apply wm_o; focus (simp (disch := omega) only [wr_id, Int.toNat_natCast, Int.reduceToNat, tn_lk, tn_kl, if_pos, if_neg, ↓reduceIte, and_self, and_true, true_and, FM, e1, h3, h2, g1, fl]; with_reducible rfl)) | (with_reducible apply wm_q) | (with_reducible apply wm_c; focus (first | assumption | decide +kernel)) | (with_reducible apply wm_d; focus (simp (disch := omega) only [wr_id, Int.toNat_natCast, Int.reduceToNat, tn_lk, tn_kl, if_pos, if_neg, ↓reduceIte, and_self, and_true, true_and, FM, e1, h3, h2, g1, fl]; with_reducible rfl)) | (with_reducible apply wm_t; focus (first | omega | (simp (disch := omega) only [wr_id, FM, e1, h3, h2, g1, fl]; omega) | (simp (disch := omega) only [wr_id, FM, e1, h3, h2, g1, fl]; done))) | (with_reducible apply wm_f; focus (first | omega | (simp (disch := omega) only [wr_id, FM, e1, h3, h2, g1, fl]; omega) | (simp (disch := omega) only [wr_id, FM, e1, h3, h2, g1, fl]; done)))))
      exact bad
/-- what a sum comes to -/
def exQ (K : Nat → Nat) (V : Nat → Int) (ps : Nat → Nat) (c0 hi : Nat) (I0 : Nat → Nat → Int) (R : PR) (J : Nat → Nat → Int) : Prop := frM exP exT I0 J ∧ (∀ p, p < c0 ∨ hi ≤ p → J 394 p = I0 394 p ∧ J 395 p = I0 395 p) ∧ ((∃ t' cs, R = okr t' cs ∧ rdM K V ps J t' ∧ J 369 12 = 0 ∧ J 369 38 = ((c0 + cs.length : Nat) : Int) ∧ cdAt (J 394) (J 395) c0 (cs.map mkC)) ∨ (∃ c q, R = pfl c q ∧ fltM ps J c q))
theorem w_expression (hk : ∀ i, kR (K i)) (hR : rdM K V ps I i) (ho : I 369 12 = 0) {c0 : Nat} (hc : I 369 38 = (c0 : Int)) {hi : Nat} (hh : c0 + 401 ≤ hi + i) (hb : hi ≤ 840) : wm t d rt (f_X12_expression 369 (mm t d rt I)) (fun _ J => exQ K V ps c0 hi I (sumD K V 6 i) J) := by
  obtain ⟨m, hm⟩ := mach_sum (K := K) (V := V) i
  have hR0 := hm 2000
  generalize eR : sumD K V 6 i = R at hR0
  unfold f_X12_expression
  have u12 : up I 369 43 0 369 12 = 0 := by rw [up_g, if_neg (by decide)]; exact ho
  (repeat (first | (with_reducible apply wm_o; focus (simp (disch := omega) only [wr_id, Int.toNat_natCast, Int.reduceToNat, tn_lk, tn_kl, if_pos, if_neg, ↓reduceIte, and_self, and_true, true_and, FM, u12]; with_reducible rfl)) | (with_reducible apply wm_q) | (with_reducible apply wm_c; focus (first | assumption | decide +kernel)) | (with_reducible apply wm_d; focus (simp (disch := omega) only [wr_id, Int.toNat_natCast, Int.reduceToNat, tn_lk, tn_kl, if_pos, if_neg, ↓reduceIte, and_self, and_true, true_and, FM, u12]; with_reducible rfl)) | (with_reducible apply wm_t; focus (first | omega | (simp (disch := omega) only [wr_id, FM, u12]; omega) | (simp (disch := omega) only [wr_id, FM, u12]; done))) | (with_reducible apply wm_f; focus (first | omega | (simp (disch := omega) only [wr_id, FM, u12]; omega) | (simp (disch := omega) only [wr_id, FM, u12]; done)))))
  have S0 : exS K V ps c0 hi i I (up I 369 43 0) [] 0 [] i := ⟨rd_fd (by decide) hR, u12, up_s _ _ _ _, True.intro, by rw [up_g, if_neg (by decide)]; exact hc, True.intro, fun p hp => by rw [up_ne (by decide), up_ne (by decide)]; exact ⟨rfl, rfl⟩, frM_fd (frM_refl _ _ _) (by unfold exT; omega), by show 0 + 0 + i ≤ i; omega, rfl, by decide⟩
  have badQ : ∀ {J c q}, frM exP exT I J → (∀ p, p < c0 ∨ hi ≤ p → J 394 p = I 394 p ∧ J 395 p = I 395 p) → R = pfl c q → fltM ps J c q → exQ K V ps c0 hi I R J := fun h1 hkp h2 h3 => ⟨h1, hkp, Or.inr ⟨_, _, h2, h3⟩⟩
  refine wm_lp2 402 (fun k y J => (y = 1 ∧ ∃ S o C i' f, exS K V ps c0 hi i I J S o C i' ∧ mach K V f true S o C i' = R ∧ 1000 ≤ f + i' ∧ k ≤ i') ∨ (y = 1 ∧ k ≤ 401 ∧ ∃ c q, frM exP exT I J ∧ (∀ p, p < c0 ∨ hi ≤ p → J 394 p = I 394 p ∧ J 395 p = I 395 p) ∧ R = pfl c q ∧ fltM ps J c q)) ?_ (jfuel_n (by decide)) (Or.inl ⟨rfl, [], 0, [], i, _, S0, hR0, by omega, Nat.zero_le _⟩)
  rintro k hk' y J hc' rec hrec
  rcases hc' with ⟨rfl, S, o, C, i', f, hS, hM, hf, hki⟩ | ⟨rfl, _, c, q, b1, bk, b2, b3⟩
  rotate_left
  · obtain ⟨d1, d2, d3, s, d4, d5⟩ := b3
    (repeat (first | (with_reducible apply wm_o; focus (simp (disch := omega) only [wr_id, Int.toNat_natCast, Int.reduceToNat, tn_lk, tn_kl, if_pos, if_neg, ↓reduceIte, and_self, and_true, true_and, FM, d2]; with_reducible rfl)) | (with_reducible apply wm_q) | (with_reducible apply wm_c; focus (first | assumption | decide +kernel)) | (with_reducible apply wm_d; focus (simp (disch := omega) only [wr_id, Int.toNat_natCast, Int.reduceToNat, tn_lk, tn_kl, if_pos, if_neg, ↓reduceIte, and_self, and_true, true_and, FM, d2]; with_reducible rfl)) | (with_reducible apply wm_t; focus (first | omega | (simp (disch := omega) only [wr_id, FM, d2]; omega) | (simp (disch := omega) only [wr_id, FM, d2]; done))) | (with_reducible apply wm_f; focus (first | omega | (simp (disch := omega) only [wr_id, FM, d2]; omega) | (simp (disch := omega) only [wr_id, FM, d2]; done)))))
    exact wm_r (badQ b1 bk b2 ⟨d1, d2, d3, s, d4, d5⟩)
  have e13 := hS.1.2.2.1
  (repeat (first | (with_reducible apply wm_o; focus (simp (disch := omega) only [wr_id, Int.toNat_natCast, Int.reduceToNat, tn_lk, tn_kl, if_pos, if_neg, ↓reduceIte, and_self, and_true, true_and, FM, e13]; with_reducible rfl)) | (with_reducible apply wm_q) | (with_reducible apply wm_c; focus (first | assumption | decide +kernel)) | (with_reducible apply wm_d; focus (simp (disch := omega) only [wr_id, Int.toNat_natCast, Int.reduceToNat, tn_lk, tn_kl, if_pos, if_neg, ↓reduceIte, and_self, and_true, true_and, FM, e13]; with_reducible rfl)) | (with_reducible apply wm_t; focus (first | omega | (simp (disch := omega) only [wr_id, FM, e13]; omega) | (simp (disch := omega) only [wr_id, FM, e13]; done))) | (with_reducible apply wm_f; focus (first | omega | (simp (disch := omega) only [wr_id, FM, e13]; omega) | (simp (disch := omega) only [wr_id, FM, e13]; done)))))
  -- brackets that open
  refine wm_lp1 402 (fun n J => (∃ S o C i' f, exS K V ps c0 hi i I J S o C i' ∧ mach K V f true S o C i' = R ∧ 1000 ≤ f + i' ∧ k ≤ i' ∧ n ≤ i') ∨ (n ≤ 401 ∧ ∃ c q, frM exP exT I J ∧ (∀ p, p < c0 ∨ hi ≤ p → J 394 p = I 394 p ∧ J 395 p = I 395 p) ∧ R = pfl c q ∧ fltM ps J c q)) ?_ (jfuel_n (by decide)) (Or.inl ⟨S, o, C, i', f, hS, hM, hf, hki, Nat.zero_le _⟩)
  clear hS hM hf hki e13 S o C i' f
  rintro n hn J hc' rec1 hrec1
  rcases hc' with ⟨S, o, C, i', f, hS, hM, hf, hki, hni⟩ | ⟨_, c, q, b1, bk, b2, b3⟩
  rotate_left
  · have x1 := q_isF (t := t) (d := d) (rt := rt) b3 (z := 6)
    have x2 := q_isF (t := t) (d := d) (rt := rt) b3 (z := 2)
    have x3 := q_failF (t := t) (d := d) (rt := rt) b3 (z := 1)
    have b3' := b3
    obtain ⟨d1, d2, d3, s, d4, d5⟩ := b3
    have un : f_X12_unit 369 (mm t d rt J) = some (0, mm t d rt J) := by
      apply wm_eq
      unfold f_X12_unit
      (repeat (first | (with_reducible apply wm_o; focus (simp (disch := omega) only [wr_id, Int.toNat_natCast, Int.reduceToNat, tn_lk, tn_kl, if_pos, if_neg, ↓reduceIte, and_self, and_true, true_and, FM, x2, d2, x3]; with_reducible rfl)) | (with_reducible apply wm_q) | (with_reducible apply wm_c; focus (first | assumption | decide +kernel)) | (with_reducible apply wm_d; focus (simp (disch := omega) only [wr_id, Int.toNat_natCast, Int.reduceToNat, tn_lk, tn_kl, if_pos, if_neg, ↓reduceIte, and_self, and_true, true_and, FM, x2, d2, x3]; with_reducible rfl)) | (with_reducible apply wm_t; focus (first | omega | (simp (disch := omega) only [wr_id, FM, x2, d2, x3]; omega) | (simp (disch := omega) only [wr_id, FM, x2, d2, x3]; done))) | (with_reducible apply wm_f; focus (first | omega | (simp (disch := omega) only [wr_id, FM, x2, d2, x3]; omega) | (simp (disch := omega) only [wr_id, FM, x2, d2, x3]; done)))))
      exact wm_r ⟨rfl, rfl⟩
    (repeat (first | (with_reducible apply wm_o; focus (simp (disch := omega) only [wr_id, Int.toNat_natCast, Int.reduceToNat, tn_lk, tn_kl, if_pos, if_neg, ↓reduceIte, and_self, and_true, true_and, FM, x1, un, d2]; with_reducible rfl)) | (with_reducible apply wm_q) | (with_reducible apply wm_c; focus (first | assumption | decide +kernel)) | (with_reducible apply wm_d; focus (simp (disch := omega) only [wr_id, Int.toNat_natCast, Int.reduceToNat, tn_lk, tn_kl, if_pos, if_neg, ↓reduceIte, and_self, and_true, true_and, FM, x1, un, d2]; with_reducible rfl)) | (with_reducible apply wm_t; focus (first | omega | (simp (disch := omega) only [wr_id, FM, x1, un, d2]; omega) | (simp (disch := omega) only [wr_id, FM, x1, un, d2]; done))) | (with_reducible apply wm_f; focus (first | omega | (simp (disch := omega) only [wr_id, FM, x1, un, d2]; omega) | (simp (disch := omega) only [wr_id, FM, x1, un, d2]; done)))))
    exact wm_r (badQ b1 bk b2 b3')
  have hS' := hS
  obtain ⟨s1, s2, s3, s4, s5, s6, s7, s8, s9, s10, s11⟩ := hS
  have li := s1.2.2.2.1
  have sl := wS_len s10
  obtain ⟨f', rfl⟩ : ∃ f', f = f' + 1 := ⟨f - 1, by omega⟩
  have x1 := q_is (t := t) (d := d) (rt := rt) hk s1 (j := 17) (z := 6) rfl (Or.inr (Or.inl (by decide)))
  rw [mach] at hM
  by_cases c17 : K i' = 17
  · rw [if_pos c17] at x1 hM
    by_cases co : o = 6
    · rw [if_pos co] at hM
      subst co
      have fl := q_fail (t := t) (d := d) (rt := rt) s1 (c := 2) (z := 2) rfl
      have F1 := flI_ok s1 (c := 2) (Or.inr rfl)
      have s2' : J 369 12 = 6 := s2
      have u12 : flI ps J 2 i' 369 12 = 6 := by unfold flI; rw [up_g, if_neg (by decide), up_g, if_neg (by decide)]; exact s2'
      have F2 : fltM ps (up (flI ps J 2 i') 369 12 (6 + 1)) 2 i' := by
        obtain ⟨d1, d2, d3, s, d4, d5⟩ := F1
        exact ⟨d1, by rw [up_g, if_neg (by decide)]; exact d2, by rw [up_g, if_neg (by decide)]; exact d3, s, by rw [up_g, if_neg (by decide)]; exact d4, d5⟩
      (repeat (first | (with_reducible apply wm_o; focus (simp (disch := omega) only [wr_id, Int.toNat_natCast, Int.reduceToNat, tn_lk, tn_kl, if_pos, if_neg, ↓reduceIte, and_self, and_true, true_and, FM, x1, s2', fl, u12]; with_reducible rfl)) | (with_reducible apply wm_q) | (with_reducible apply wm_c; focus (first | assumption | decide +kernel)) | (with_reducible apply wm_d; focus (simp (disch := omega) only [wr_id, Int.toNat_natCast, Int.reduceToNat, tn_lk, tn_kl, if_pos, if_neg, ↓reduceIte, and_self, and_true, true_and, FM, x1, s2', fl, u12]; with_reducible rfl)) | (with_reducible apply wm_t; focus (first | omega | (simp (disch := omega) only [wr_id, FM, x1, s2', fl, u12]; omega) | (simp (disch := omega) only [wr_id, FM, x1, s2', fl, u12]; done))) | (with_reducible apply wm_f; focus (first | omega | (simp (disch := omega) only [wr_id, FM, x1, s2', fl, u12]; omega) | (simp (disch := omega) only [wr_id, FM, x1, s2', fl, u12]; done)))))
      refine wm_b (w_goesOnF F2) (fun r J2 hJ2 => ?_)
      obtain ⟨_, g1, g2⟩ := hJ2
      have u43 : J2 369 43 = (S.length : Int) := by
        rw [g2.2 43 (by decide), up_g, if_neg (by decide)]
        unfold flI
        rw [up_g, if_neg (by decide), up_g, if_neg (by decide)]; exact s3
      have frA : frM exP exT I J2 := frM_trans (frM_fd (frM_trans s8 (flI_frm (by unfold exT; omega) (by unfold exT; omega))) (by unfold exT; omega)) (frM_sub g2 (fun a h => h.elim) (fun a h => by unfold exT; omega))
      have u43' : up J2 397 S.length 6 369 43 = (S.length : Int) := by rw [up_ne (by decide)]; exact u43
      (repeat (first | (with_reducible apply wm_o; focus (simp (disch := omega) only [wr_id, Int.toNat_natCast, Int.reduceToNat, tn_lk, tn_kl, if_pos, if_neg, ↓reduceIte, and_self, and_true, true_and, FM, u43, u43']; with_reducible rfl)) | (with_reducible apply wm_q) | (with_reducible apply wm_c; focus (first | assumption | decide +kernel)) | (with_reducible apply wm_d; focus (simp (disch := omega) only [wr_id, Int.toNat_natCast, Int.reduceToNat, tn_lk, tn_kl, if_pos, if_neg, ↓reduceIte, and_self, and_true, true_and, FM, u43, u43']; with_reducible rfl)) | (with_reducible apply wm_t; focus (first | omega | (simp (disch := omega) only [wr_id, FM, u43, u43']; omega) | (simp (disch := omega) only [wr_id, FM, u43, u43']; done))) | (with_reducible apply wm_f; focus (first | omega | (simp (disch := omega) only [wr_id, FM, u43, u43']; omega) | (simp (disch := omega) only [wr_id, FM, u43, u43']; done)))))
      refine hrec1 (n + 1) _ (by omega) (by omega) (Or.inr ⟨by omega, 2, i', frM_fd (frM_up frA (by decide) (by unfold exP; omega)) (by unfold exT; omega), fun p hp => (by rw [up_ne (by decide), up_ne (by decide), up_ne (by decide), up_ne (by decide), g2.1 394 (by decide) (fun h => h), g2.1 395 (by decide) (fun h => h), up_ne (by decide), up_ne (by decide)]; unfold flI; rw [up_ne (by decide), up_ne (by decide), up_ne (by decide), up_ne (by decide)]; exact s7 p hp), hM.symm, ?_⟩)
      obtain ⟨d1, d2, d3, s, d4, d5⟩ := g1
      exact ⟨d1, by rw [up_g, if_neg (by decide), up_ne (by decide)]; exact d2, by rw [up_g, if_neg (by decide), up_ne (by decide)]; exact d3, s, by rw [up_g, if_neg (by decide), up_ne (by decide)]; exact d4, d5⟩
    · rw [if_neg co] at hM
      have u12 : up J 369 12 ((o : Int) + 1) 369 12 = (o : Int) + 1 := up_s _ _ _ _
      have rd1 : rdM K V ps (up J 369 12 ((o : Int) + 1)) i' := rd_fd (by decide) s1
      (repeat (first | (with_reducible apply wm_o; focus (simp (disch := omega) only [wr_id, Int.toNat_natCast, Int.reduceToNat, tn_lk, tn_kl, if_pos, if_neg, ↓reduceIte, and_self, and_true, true_and, FM, x1, s2]; with_reducible rfl)) | (with_reducible apply wm_q) | (with_reducible apply wm_c; focus (first | assumption | decide +kernel)) | (with_reducible apply wm_d; focus (simp (disch := omega) only [wr_id, Int.toNat_natCast, Int.reduceToNat, tn_lk, tn_kl, if_pos, if_neg, ↓reduceIte, and_self, and_true, true_and, FM, x1, s2]; with_reducible rfl)) | (with_reducible apply wm_t; focus (first | omega | (simp (disch := omega) only [wr_id, FM, x1, s2]; omega) | (simp (disch := omega) only [wr_id, FM, x1, s2]; done))) | (with_reducible apply wm_f; focus (first | omega | (simp (disch := omega) only [wr_id, FM, x1, s2]; omega) | (simp (disch := omega) only [wr_id, FM, x1, s2]; done)))))
      refine wm_b (w_goesOn rd1 (by omega)) (fun r J2 hJ2 => ?_)
      rcases hJ2 with ⟨_, ⟨a1, rfl, a2⟩ | ⟨a1, rfl, a2⟩⟩
      · rw [if_pos a1] at hM
        have u43 : up (up J 369 12 ((o : Int) + 1)) 369 11 ((i' : Int) + 1) 369 43 = (S.length : Int) := by rw [up_g, if_neg (by decide), up_g, if_neg (by decide)]; exact s3
        have u43' : up (up (up J 369 12 ((o : Int) + 1)) 369 11 ((i' : Int) + 1)) 397 S.length 6 369 43 = (S.length : Int) := by rw [up_ne (by decide)]; exact u43
        (repeat (first | (with_reducible apply wm_o; focus (simp (disch := omega) only [wr_id, Int.toNat_natCast, Int.reduceToNat, tn_lk, tn_kl, if_pos, if_neg, ↓reduceIte, and_self, and_true, true_and, FM, u43, u43']; with_reducible rfl)) | (with_reducible apply wm_q) | (with_reducible apply wm_c; focus (first | assumption | decide +kernel)) | (with_reducible apply wm_d; focus (simp (disch := omega) only [wr_id, Int.toNat_natCast, Int.reduceToNat, tn_lk, tn_kl, if_pos, if_neg, ↓reduceIte, and_self, and_true, true_and, FM, u43, u43']; with_reducible rfl)) | (with_reducible apply wm_t; focus (first | omega | (simp (disch := omega) only [wr_id, FM, u43, u43']; omega) | (simp (disch := omega) only [wr_id, FM, u43, u43']; done))) | (with_reducible apply wm_f; focus (first | omega | (simp (disch := omega) only [wr_id, FM, u43, u43']; omega) | (simp (disch := omega) only [wr_id, FM, u43, u43']; done)))))
        refine hrec1 (n + 1) _ (by omega) (by omega) (Or.inl ⟨17 :: S, o + 1, C, i' + 1, f', ⟨?_, ?_, ?_, ?_, ?_, ?_, ?_, ?_, ?_, ?_, by omega⟩, hM, by omega, by omega, by omega⟩)
        · exact rd_fd (by decide) (rd_frM (S := fun a => a = 397) (T := fun _ => False) (frM_up (frM_refl _ _ _) (by decide) rfl) (fun a b1 b2 => by omega) (fun h => h) (fun h => h) a2)
        · rw [up_g, if_neg (by decide), up_ne (by decide), up_g, if_neg (by decide), up_s]; omega
        · rw [up_s, List.length_cons]; omega
        · rw [up_ne (by decide), up_row, up_ne (by decide), up_ne (by decide)]
          exact ⟨rSet_s, wtA_up (Nat.le_refl _) s4⟩
        · rw [up_g, if_neg (by decide), up_ne (by decide), up_g, if_neg (by decide), up_g, if_neg (by decide)]; exact s5
        · rw [up_ne (by decide), up_ne (by decide), up_ne (by decide), up_ne (by decide), up_ne (by decide), up_ne (by decide), up_ne (by decide), up_ne (by decide)]; exact s6
        · rw [up_ne (by decide), up_ne (by decide), up_ne (by decide), up_ne (by decide), up_ne (by decide), up_ne (by decide), up_ne (by decide), up_ne (by decide)]; exact s7
        · exact frM_fd (frM_up (frM_fd (frM_fd s8 (by unfold exT; omega)) (by unfold exT; omega)) (by decide) (by unfold exP; omega)) (by unfold exT; omega)
        · rw [List.length_cons]; omega
        · exact Or.inr (Or.inr ⟨rfl, by omega, by rw [show o + 1 - 1 = o by omega]; exact s10⟩)
      · rw [if_neg a1] at hM
        have u43 : flI ps (up J 369 12 ((o : Int) + 1)) 2 i' 369 43 = (S.length : Int) := by unfold flI; rw [up_g, if_neg (by decide), up_g, if_neg (by decide), up_g, if_neg (by decide)]; exact s3
        have u43' : up (flI ps (up J 369 12 ((o : Int) + 1)) 2 i') 397 S.length 6 369 43 = (S.length : Int) := by rw [up_ne (by decide)]; exact u43
        (repeat (first | (with_reducible apply wm_o; focus (simp (disch := omega) only [wr_id, Int.toNat_natCast, Int.reduceToNat, tn_lk, tn_kl, if_pos, if_neg, ↓reduceIte, and_self, and_true, true_and, FM, u43, u43']; with_reducible rfl)) | (with_reducible apply wm_q) | (with_reducible apply wm_c; focus (first | assumption | decide +kernel)) | (with_reducible apply wm_d; focus (simp (disch := omega) only [wr_id, Int.toNat_natCast, Int.reduceToNat, tn_lk, tn_kl, if_pos, if_neg, ↓reduceIte, and_self, and_true, true_and, FM, u43, u43']; with_reducible rfl)) | (with_reducible apply wm_t; focus (first | omega | (simp (disch := omega) only [wr_id, FM, u43, u43']; omega) | (simp (disch := omega) only [wr_id, FM, u43, u43']; done))) | (with_reducible apply wm_f; focus (first | omega | (simp (disch := omega) only [wr_id, FM, u43, u43']; omega) | (simp (disch := omega) only [wr_id, FM, u43, u43']; done)))))
        refine hrec1 (n + 1) _ (by omega) (by omega) (Or.inr ⟨by omega, 2, i', frM_fd (frM_up (frM_trans (frM_fd s8 (by unfold exT; omega)) (flI_frm (by unfold exT; omega) (by unfold exT; omega))) (by decide) (by unfold exP; omega)) (by unfold exT; omega), fun p hp => (by rw [up_ne (by decide), up_ne (by decide), up_ne (by decide), up_ne (by decide)]; unfold flI; rw [up_ne (by decide), up_ne (by decide), up_ne (by decide), up_ne (by decide), up_ne (by decide), up_ne (by decide)]; exact s7 p hp), hM.symm, ?_⟩)
        obtain ⟨d1, d2, d3, s, d4, d5⟩ := a2
        exact ⟨d1, by rw [up_g, if_neg (by decide), up_ne (by decide)]; exact d2, by rw [up_g, if_neg (by decide), up_ne (by decide)]; exact d3, s, by rw [up_g, if_neg (by decide), up_ne (by decide)]; exact d4, d5⟩
  · rw [if_neg c17] at x1 hM
    (repeat (first | (with_reducible apply wm_o; focus (simp (disch := omega) only [wr_id, Int.toNat_natCast, Int.reduceToNat, tn_lk, tn_kl, if_pos, if_neg, ↓reduceIte, and_self, and_true, true_and, FM, x1]; with_reducible rfl)) | (with_reducible apply wm_q) | (with_reducible apply wm_c; focus (first | assumption | decide +kernel)) | (with_reducible apply wm_d; focus (simp (disch := omega) only [wr_id, Int.toNat_natCast, Int.reduceToNat, tn_lk, tn_kl, if_pos, if_neg, ↓reduceIte, and_self, and_true, true_and, FM, x1]; with_reducible rfl)) | (with_reducible apply wm_t; focus (first | omega | (simp (disch := omega) only [wr_id, FM, x1]; omega) | (simp (disch := omega) only [wr_id, FM, x1]; done))) | (with_reducible apply wm_f; focus (first | omega | (simp (disch := omega) only [wr_id, FM, x1]; omega) | (simp (disch := omega) only [wr_id, FM, x1]; done)))))
    refine wm_b (w_unit hk s1 s5 (by omega)) (fun r J2 hJ2 => ?_)
    rcases hJ2 with ⟨x, hx, a1, rfl, a2⟩ | ⟨g1, gk, g2⟩
    rotate_left
    · have fin : ∃ c q, R = pfl c q ∧ fltM ps J2 c q := by
        rcases g2 with ⟨g3, g4, g5⟩ | ⟨g3, g5⟩
        · refine ⟨2, i', ?_, g5⟩
          rw [← hM]
          rcases g3 with g3 | g3
          · rw [if_pos g3, if_neg g4]
          · rw [if_neg (by omega), if_pos g3, if_neg g4]
        · refine ⟨1, i', ?_, g5⟩
          rw [← hM, if_neg (fun q => g3 (Or.inl q)), if_neg (fun q => g3 (Or.inr q))]
      obtain ⟨c, q, f1, f2⟩ := fin
      have f2' := f2
      obtain ⟨d1, d2, d3, s, d4, d5⟩ := f2
      (repeat (first | (with_reducible apply wm_o; focus (simp (disch := omega) only [wr_id, Int.toNat_natCast, Int.reduceToNat, tn_lk, tn_kl, if_pos, if_neg, ↓reduceIte, and_self, and_true, true_and, FM, d2]; with_reducible rfl)) | (with_reducible apply wm_q) | (with_reducible apply wm_c; focus (first | assumption | decide +kernel)) | (with_reducible apply wm_d; focus (simp (disch := omega) only [wr_id, Int.toNat_natCast, Int.reduceToNat, tn_lk, tn_kl, if_pos, if_neg, ↓reduceIte, and_self, and_true, true_and, FM, d2]; with_reducible rfl)) | (with_reducible apply wm_t; focus (first | omega | (simp (disch := omega) only [wr_id, FM, d2]; omega) | (simp (disch := omega) only [wr_id, FM, d2]; done))) | (with_reducible apply wm_f; focus (first | omega | (simp (disch := omega) only [wr_id, FM, d2]; omega) | (simp (disch := omega) only [wr_id, FM, d2]; done)))))
      exact wm_r (badQ (frM_trans s8 g1) (fun p hp => ⟨((gk p (by omega)).1).trans (s7 p hp).1, ((gk p (by omega)).2).trans (s7 p hp).2⟩) f1 f2')
    have hM2 : mach K V f' false S o (C ++ [x]) (i' + 1) = R := by
      rw [← hM]
      rcases hx with ⟨h1, h2⟩ | ⟨h1, h2, h3⟩
      · rw [if_pos h1, if_pos a1, h2]
      · rw [if_neg (by omega), if_pos ⟨h1, h2⟩, if_pos a1, h3]
    have S2 : exS K V ps c0 hi i I (up (emI J (c0 + C.length) ((mkC x).1 : Int) (mkC x).2) 369 11 ((i' : Int) + 1)) S o (C ++ [x]) (i' + 1) := by
      have frE : frM exP exT J (up (emI J (c0 + C.length) ((mkC x).1 : Int) (mkC x).2) 369 11 ((i' : Int) + 1)) := frM_fd (em_frm (by unfold exP; omega) (by unfold exP; omega) (by unfold exT; omega)) (by unfold exT; omega)
      refine ⟨a2, ?_, ?_, ?_, ?_, ?_, fun p hp => ?_, frM_trans s8 frE, ?_, s10, s11⟩
      · rw [up_g, if_neg (by decide), em_f (by decide)]; exact s2
      · rw [up_g, if_neg (by decide), em_f (by decide)]; exact s3
      · rw [up_ne (by decide)]
        unfold emI
        rw [up_ne (by decide), up_ne (by decide), up_ne (by decide)]; exact s4
      · rw [up_g, if_neg (by decide)]
        unfold emI
        rw [up_s, List.length_append, List.length_cons, List.length_nil]; omega
      · rw [List.map_append, cdAt_app, List.length_map, up_ne (by decide), up_ne (by decide)]
        refine ⟨cdAt_congr (fun p p1 p2 => ?_) s6, ?_, ?_, True.intro⟩
        · rw [List.length_map] at p2
          rw [em_row.1, em_row.2, if_neg (by omega), if_neg (by omega)]
          exact ⟨rfl, rfl⟩
        · rw [em_row.1, if_pos rfl]
        · rw [em_row.2, if_pos rfl]
      · rw [up_ne (by decide), up_ne (by decide), em_row.1, em_row.2, if_neg (by omega), if_neg (by omega)]
        exact s7 p hp
      · rw [List.length_append, List.length_cons, List.length_nil]; omega
    have e13 := a2.2.2.1
    (repeat (first | (with_reducible apply wm_o; focus (simp (disch := omega) only [wr_id, Int.toNat_natCast, Int.reduceToNat, tn_lk, tn_kl, if_pos, if_neg, ↓reduceIte, and_self, and_true, true_and, FM, e13]; with_reducible rfl)) | (with_reducible apply wm_q) | (with_reducible apply wm_c; focus (first | assumption | decide +kernel)) | (with_reducible apply wm_d; focus (simp (disch := omega) only [wr_id, Int.toNat_natCast, Int.reduceToNat, tn_lk, tn_kl, if_pos, if_neg, ↓reduceIte, and_self, and_true, true_and, FM, e13]; with_reducible rfl)) | (with_reducible apply wm_t; focus (first | omega | (simp (disch := omega) only [wr_id, FM, e13]; omega) | (simp (disch := omega) only [wr_id, FM, e13]; done))) | (with_reducible apply wm_f; focus (first | omega | (simp (disch := omega) only [wr_id, FM, e13]; omega) | (simp (disch := omega) only [wr_id, FM, e13]; done)))))
    refine wm_lp1 402 (fun n J => (∃ S o C i' f, exS K V ps c0 hi i I J S o C i' ∧ mach K V f false S o C i' = R ∧ 1000 ≤ f + i' ∧ k < i' ∧ n ≤ i') ∨ (n ≤ 401 ∧ ∃ (c q : Nat) (S : List Nat) (C : List CI), frM exP exT I J ∧ (∀ p, p < c0 ∨ hi ≤ p → J 394 p = I 394 p ∧ J 395 p = I 395 p) ∧ R = pfl c q ∧ fltM ps J c q ∧ sgS S ∧ J 369 43 = (S.length : Int) ∧ wtA (J 397) S ∧ J 369 38 = ((c0 + C.length : Nat) : Int) ∧ cdAt (J 394) (J 395) c0 (C.map mkC) ∧ c0 + C.length + S.length ≤ hi ∧ S.length ≤ 60)) ?_ (jfuel_n (by decide)) (Or.inl ⟨S, o, C ++ [x], i' + 1, f', S2, hM2, by omega, by omega, Nat.zero_le _⟩)
    clear S2 hM2 hM x1 c17 a2 e13 hS' s1 s2 s3 s4 s5 s6 s7 s8 s9 s10 s11 li sl hx a1 hki hni hf
    clear f' x
    clear S C o i' J hrec1 rec1
    rintro n2 hn2 J hc' rec2 hrec2
    rcases hc' with ⟨S, o, C, i', f, hS, hM, hf, hki, hni⟩ | ⟨_, c, q, S, C, b1, bk, b2, b3, b4, b5, b6, b7, b8, b9, b10⟩
    rotate_left
    · have xx : ∀ z, f_X12_is 369 z (mm t d rt J) = some (0, mm t d rt J) := fun z => q_isF b3
      have x3 := q_failF (t := t) (d := d) (rt := rt) b3 (z := 1)
      have fin : wm t d rt (jbd (f_X12_comesOut 369 0 (mm t d rt J)) fun _ M15 => some (0, M15)) (fun _ J => exQ K V ps c0 hi I R J) := by
        refine wm_b (w_comesOut (b := false) rfl b4 b5 b6 b7 b8 b9 hb b10) (fun r J3 hJ3 => ?_)
        obtain ⟨g1, _, _, _, _, gk⟩ := hJ3
        refine wm_r (badQ (frM_trans b1 (frM_sub g1 (fun a h => by unfold exP; omega) (fun a h => by unfold exT; omega))) (fun p hp => ⟨((gk p hp).1).trans (bk p hp).1, ((gk p hp).2).trans (bk p hp).2⟩) b2 ?_)
        obtain ⟨d1, d2, d3, s, d4, d5⟩ := b3
        exact ⟨d1, by rw [g1.2 13 (by decide)]; exact d2, by rw [g1.2 14 (by decide)]; exact d3, s, by rw [g1.2 11 (by decide)]; exact d4, d5⟩
      (repeat (first | (with_reducible apply wm_o; focus (simp (disch := omega) only [wr_id, Int.toNat_natCast, Int.reduceToNat, tn_lk, tn_kl, if_pos, if_neg, ↓reduceIte, and_self, and_true, true_and, FM, xx]; with_reducible rfl)) | (with_reducible apply wm_q) | (with_reducible apply wm_c; focus (first | assumption | decide +kernel)) | (with_reducible apply wm_d; focus (simp (disch := omega) only [wr_id, Int.toNat_natCast, Int.reduceToNat, tn_lk, tn_kl, if_pos, if_neg, ↓reduceIte, and_self, and_true, true_and, FM, xx]; with_reducible rfl)) | (with_reducible apply wm_t; focus (first | omega | (simp (disch := omega) only [wr_id, FM, xx]; omega) | (simp (disch := omega) only [wr_id, FM, xx]; done))) | (with_reducible apply wm_f; focus (first | omega | (simp (disch := omega) only [wr_id, FM, xx]; omega) | (simp (disch := omega) only [wr_id, FM, xx]; done)))))
      refine wm_q ?_
      refine wm_if (fun _ => ?_) (fun _ => ?_)
      · (repeat (first | (with_reducible apply wm_o; focus (simp (disch := omega) only [wr_id, Int.toNat_natCast, Int.reduceToNat, tn_lk, tn_kl, if_pos, if_neg, ↓reduceIte, and_self, and_true, true_and, FM]; with_reducible rfl)) | (with_reducible apply wm_q) | (with_reducible apply wm_c; focus (first | assumption | decide +kernel)) | (with_reducible apply wm_d; focus (simp (disch := omega) only [wr_id, Int.toNat_natCast, Int.reduceToNat, tn_lk, tn_kl, if_pos, if_neg, ↓reduceIte, and_self, and_true, true_and, FM]; with_reducible rfl)) | (with_reducible apply wm_t; focus (first | omega | (simp (disch := omega) only [wr_id, FM]; omega) | (simp (disch := omega) only [wr_id, FM]; done))) | (with_reducible apply wm_f; focus (first | omega | (simp (disch := omega) only [wr_id, FM]; omega) | (simp (disch := omega) only [wr_id, FM]; done)))))
        exact fin
      · (repeat (first | (with_reducible apply wm_o; focus (simp (disch := omega) only [wr_id, Int.toNat_natCast, Int.reduceToNat, tn_lk, tn_kl, if_pos, if_neg, ↓reduceIte, and_self, and_true, true_and, FM, x3]; with_reducible rfl)) | (with_reducible apply wm_q) | (with_reducible apply wm_c; focus (first | assumption | decide +kernel)) | (with_reducible apply wm_d; focus (simp (disch := omega) only [wr_id, Int.toNat_natCast, Int.reduceToNat, tn_lk, tn_kl, if_pos, if_neg, ↓reduceIte, and_self, and_true, true_and, FM, x3]; with_reducible rfl)) | (with_reducible apply wm_t; focus (first | omega | (simp (disch := omega) only [wr_id, FM, x3]; omega) | (simp (disch := omega) only [wr_id, FM, x3]; done))) | (with_reducible apply wm_f; focus (first | omega | (simp (disch := omega) only [wr_id, FM, x3]; omega) | (simp (disch := omega) only [wr_id, FM, x3]; done)))))
        exact fin
    obtain ⟨s1, s2, s3, s4, s5, s6, s7, s8, s9, s10, s11⟩ := hS
    have li := s1.2.2.2.1
    have sl := wS_len s10
    have sg := wS_sg s10
    obtain ⟨f', rfl⟩ : ∃ f', f = f' + 1 := ⟨f - 1, by omega⟩
    have x18 := q_is (t := t) (d := d) (rt := rt) hk s1 (j := 18) (z := 7) rfl (Or.inr (Or.inl (by decide)))
    have x12 := q_is (t := t) (d := d) (rt := rt) hk s1 (j := 12) (z := 8) rfl (Or.inr (Or.inl (by decide)))
    have x13 := q_is (t := t) (d := d) (rt := rt) hk s1 (j := 13) (z := 9) rfl (Or.inr (Or.inl (by decide)))
    have x14 := q_is (t := t) (d := d) (rt := rt) hk s1 (j := 14) (z := 10) rfl (Or.inr (Or.inl (by decide)))
    have x15 := q_is (t := t) (d := d) (rt := rt) hk s1 (j := 15) (z := 15) rfl (Or.inr (Or.inl (by decide)))
    rw [mach] at hM
    have co : ∀ b : Bool, wm t d rt (f_X12_comesOut 369 (if b then 1 else 0) (mm t d rt J)) (fun _ J' => frM (fun a => a = 394 ∨ a = 395) (fun j => j = 38 ∨ j = 43) J J' ∧ J' 369 43 = ((popO b S C).1.length : Int) ∧ wtA (J' 397) (popO b S C).1 ∧ J' 369 38 = ((c0 + (popO b S C).2.length : Nat) : Int) ∧ cdAt (J' 394) (J' 395) c0 ((popO b S C).2.map mkC) ∧ ∀ p, p < c0 ∨ hi ≤ p → J' 394 p = J 394 p ∧ J' 395 p = J 395 p) := fun b => w_comesOut rfl sg s3 s4 s5 s6 (by omega) hb (by omega)
    by_cases c18 : K i' = 18 ∧ 0 < o
    · rw [if_pos c18] at hM
      rw [if_pos c18.1] at x18
      have co0 := co false
      have wp : wS (popO false S C).1 o 0 := wS_pop (b := false) s10
      have pl := popO_len (b := false) (S := S) (C := C)
      generalize popO false S C = P at co0 wp pl hM
      obtain ⟨P1, P2⟩ := P
      cases P1 with
      | nil =>
        have : o = 0 := wp
        omega
      | cons z T =>
        have wp' : wS T (o - 1) 2 := by
          rcases wp with ⟨_, q, _⟩ | ⟨_, q, _⟩ | ⟨_, _, q⟩
          · omega
          · omega
          · exact q
        have lT := wS_len wp'
        have pl : T.length + 1 + P2.length = S.length + C.length := pl
        (repeat (first | (with_reducible apply wm_o; focus (simp (disch := omega) only [wr_id, Int.toNat_natCast, Int.reduceToNat, tn_lk, tn_kl, if_pos, if_neg, ↓reduceIte, and_self, and_true, true_and, FM, x18, s2]; with_reducible rfl)) | (with_reducible apply wm_q) | (with_reducible apply wm_c; focus (first | assumption | decide +kernel)) | (with_reducible apply wm_d; focus (simp (disch := omega) only [wr_id, Int.toNat_natCast, Int.reduceToNat, tn_lk, tn_kl, if_pos, if_neg, ↓reduceIte, and_self, and_true, true_and, FM, x18, s2]; with_reducible rfl)) | (with_reducible apply wm_t; focus (first | omega | (simp (disch := omega) only [wr_id, FM, x18, s2]; omega) | (simp (disch := omega) only [wr_id, FM, x18, s2]; done))) | (with_reducible apply wm_f; focus (first | omega | (simp (disch := omega) only [wr_id, FM, x18, s2]; omega) | (simp (disch := omega) only [wr_id, FM, x18, s2]; done)))))
        refine wm_b co0 (fun r J3 hJ3 => ?_)
        obtain ⟨g1, g2, g3, g4, g5, g6⟩ := hJ3
        have g2 : J3 369 43 = ((T.length + 1 : Nat) : Int) := g2
        have u12 : up J3 369 43 (((T.length + 1 : Nat) : Int) - 1) 369 12 = (o : Int) := by rw [up_g, if_neg (by decide), g1.2 12 (by decide)]; exact s2
        (repeat (first | (with_reducible apply wm_o; focus (simp (disch := omega) only [wr_id, Int.toNat_natCast, Int.reduceToNat, tn_lk, tn_kl, if_pos, if_neg, ↓reduceIte, and_self, and_true, true_and, FM, g2, u12]; with_reducible rfl)) | (with_reducible apply wm_q) | (with_reducible apply wm_c; focus (first | assumption | decide +kernel)) | (with_reducible apply wm_d; focus (simp (disch := omega) only [wr_id, Int.toNat_natCast, Int.reduceToNat, tn_lk, tn_kl, if_pos, if_neg, ↓reduceIte, and_self, and_true, true_and, FM, g2, u12]; with_reducible rfl)) | (with_reducible apply wm_t; focus (first | omega | (simp (disch := omega) only [wr_id, FM, g2, u12]; omega) | (simp (disch := omega) only [wr_id, FM, g2, u12]; done))) | (with_reducible apply wm_f; focus (first | omega | (simp (disch := omega) only [wr_id, FM, g2, u12]; omega) | (simp (disch := omega) only [wr_id, FM, g2, u12]; done)))))
        have rd3 : rdM K V ps J3 i' := rd_frM g1 (fun a b1 b2 => by omega) (by decide) (by decide) s1
        have rd4 : rdM K V ps (up (up J3 369 43 (((T.length + 1 : Nat) : Int) - 1)) 369 12 ((o : Int) - 1)) i' := rd_fd (by decide) (rd_fd (by decide) rd3)
        have fr3 : frM exP exT I J3 := frM_trans s8 (frM_sub g1 (fun a h => by unfold exP; omega) (fun a h => by unfold exT; omega))
        have fr4 : frM exP exT I (up (up J3 369 43 (((T.length + 1 : Nat) : Int) - 1)) 369 12 ((o : Int) - 1)) := frM_fd (frM_fd fr3 (by unfold exT; omega)) (by unfold exT; omega)
        have k397 : ∀ (X : Nat → Nat → Int), X 397 = J3 397 → wtA (X 397) T := fun X h => by rw [h]; exact g3.2
        refine wm_b (w_goesOn rd4 (by omega)) (fun r J4 hJ4 => ?_)
        rcases hJ4 with ⟨_, ⟨a1, rfl, a2⟩ | ⟨a1, rfl, a2⟩⟩
        · rw [if_pos a1] at hM
          refine hrec2 (n2 + 1) _ (by omega) (by omega) (Or.inl ⟨T, o - 1, P2, i' + 1, f', ⟨a2, ?_, ?_, ?_, ?_, ?_, fun p hp => ?_, frM_fd fr4 (by unfold exT; omega), by omega, wp', by omega⟩, hM, by omega, by omega, by omega⟩)
          · rw [up_g, if_neg (by decide), up_s]; omega
          · rw [up_g, if_neg (by decide), up_g, if_neg (by decide), up_s]; omega
          · exact k397 _ (by rw [up_ne (by decide), up_ne (by decide), up_ne (by decide)])
          · rw [up_g, if_neg (by decide), up_g, if_neg (by decide), up_g, if_neg (by decide)]; exact g4
          · rw [up_ne (by decide), up_ne (by decide), up_ne (by decide), up_ne (by decide), up_ne (by decide), up_ne (by decide)]; exact g5
          · rw [up_ne (by decide), up_ne (by decide), up_ne (by decide), up_ne (by decide), up_ne (by decide), up_ne (by decide), (g6 p hp).1, (g6 p hp).2]
            exact s7 p hp
        · rw [if_neg a1] at hM
          refine hrec2 (n2 + 1) _ (by omega) (by omega) (Or.inr ⟨by omega, 2, i', T, P2, frM_trans fr4 (flI_frm (by unfold exT; omega) (by unfold exT; omega)), fun p hp => (by unfold flI; rw [up_ne (by decide), up_ne (by decide), up_ne (by decide), up_ne (by decide), up_ne (by decide), up_ne (by decide), up_ne (by decide), up_ne (by decide), (g6 p hp).1, (g6 p hp).2]; exact s7 p hp), hM.symm, a2, wS_sg wp', ?_, ?_, ?_, ?_, by omega, by omega⟩)
          · unfold flI; rw [up_g, if_neg (by decide), up_g, if_neg (by decide), up_g, if_neg (by decide), up_s]; omega
          · exact k397 _ (by unfold flI; rw [up_ne (by decide), up_ne (by decide), up_ne (by decide), up_ne (by decide)])
          · unfold flI; rw [up_g, if_neg (by decide), up_g, if_neg (by decide), up_g, if_neg (by decide), up_g, if_neg (by decide)]; exact g4
          · unfold flI; rw [up_ne (by decide), up_ne (by decide), up_ne (by decide), up_ne (by decide), up_ne (by decide), up_ne (by decide), up_ne (by decide), up_ne (by decide)]; exact g5
    · rw [if_neg c18] at hM
      -- an operator, or the end
      have opr : ∀ b : Bool, isMul (K i') = b → (isAdd (K i') || isMul (K i')) = true → ∀ zz : Int, zz = (if b then 1 else 0) → wm t d rt (jbd (f_X12_comesOut 369 zz (mm t d rt J)) fun _ M21 =>
          (jm_gR 12 42 M21 369).bind fun r22 =>
          (jm_gI 12 43 M21 369).bind fun v23 =>
          (jm_gR 12 5 M21 369).bind fun r24 =>
          (jm_gI 12 11 M21 369).bind fun v25 =>
          (jm_ld 20 M21 r24 v25).bind fun v26 =>
          (jm_st 20 M21 r22 v23 v26).bind fun M27 =>
          (jm_gI 12 43 M27 369).bind fun v28 =>
          (jm_pI 12 43 M27 369 (v28 + 1)).bind fun M29 =>
          jcall 12 M29 369 (f_X12_goesOn 369 M29) fun _ M31 =>
          rec 1 M31) (fun _ J => exQ K V ps c0 hi I R J) := by
        intro b hb hop zz hz
        rw [if_pos hop] at hM
        rw [hb] at hM
        have co0 := co b
        have wp : wS (popO b S C).1 o (if b then 1 else 0) := wS_pop (b := b) s10
        have pl := popO_len (b := b) (S := S) (C := C)
        generalize popO b S C = P at co0 wp pl hM
        obtain ⟨P1, P2⟩ := P
        have lP := wS_len wp
        have lP' : P1.length ≤ 3 * o + 1 := by
          cases b
          · have : P1.length ≤ 3 * o + 0 := lP
            omega
          · exact lP
        have wq : wS (K i' :: P1) o 2 := by
          cases b
          · have ha : isAdd (K i') = true := by
              rw [hb, Bool.or_false] at hop; exact hop
            exact Or.inr (Or.inl ⟨ha, by decide, wp⟩)
          · exact Or.inl ⟨hb, rfl, wp⟩
        rw [hz]
        refine wm_b co0 (fun r J3 hJ3 => ?_)
        obtain ⟨g1, g2, g3, g4, g5, g6⟩ := hJ3
        have g2 : J3 369 43 = (P1.length : Int) := g2
        have pl : P1.length + P2.length = S.length + C.length := pl
        have rd3 : rdM K V ps J3 i' := rd_frM g1 (fun a b1 b2 => by omega) (by decide) (by decide) s1
        have e11 := rd3.2.1
        have eK := (rd3.1 i' li rd3.2.2.2.2).1
        have u43 : up J3 397 P1.length (mkK (K i') : Int) 369 43 = (P1.length : Int) := by rw [up_ne (by decide)]; exact g2
        (repeat (first | (with_reducible apply wm_o; focus (simp (disch := omega) only [wr_id, Int.toNat_natCast, Int.reduceToNat, tn_lk, tn_kl, if_pos, if_neg, ↓reduceIte, and_self, and_true, true_and, FM, g2, e11, eK, u43]; with_reducible rfl)) | (with_reducible apply wm_q) | (with_reducible apply wm_c; focus (first | assumption | decide +kernel)) | (with_reducible apply wm_d; focus (simp (disch := omega) only [wr_id, Int.toNat_natCast, Int.reduceToNat, tn_lk, tn_kl, if_pos, if_neg, ↓reduceIte, and_self, and_true, true_and, FM, g2, e11, eK, u43]; with_reducible rfl)) | (with_reducible apply wm_t; focus (first | omega | (simp (disch := omega) only [wr_id, FM, g2, e11, eK, u43]; omega) | (simp (disch := omega) only [wr_id, FM, g2, e11, eK, u43]; done))) | (with_reducible apply wm_f; focus (first | omega | (simp (disch := omega) only [wr_id, FM, g2, e11, eK, u43]; omega) | (simp (disch := omega) only [wr_id, FM, g2, e11, eK, u43]; done)))))
        have rd4 : rdM K V ps (up (up J3 397 P1.length (mkK (K i') : Int)) 369 43 ((P1.length : Int) + 1)) i' := rd_fd (by decide) (rd_frM (S := fun a => a = 397) (T := fun _ => False) (frM_up (frM_refl _ _ _) (by decide) rfl) (fun a b1 b2 => by omega) (fun h => h) (fun h => h) rd3)
        have fr3 : frM exP exT I J3 := frM_trans s8 (frM_sub g1 (fun a h => by unfold exP; omega) (fun a h => by unfold exT; omega))
        have fr4 : frM exP exT I (up (up J3 397 P1.length (mkK (K i') : Int)) 369 43 ((P1.length : Int) + 1)) := frM_fd (frM_up fr3 (by decide) (by unfold exP; omega)) (by unfold exT; omega)
        have kn0 : K i' ≠ 0 := fun q => by rw [q] at hop; exact absurd hop (by decide)
        refine wm_b (w_goesOn rd4 kn0) (fun r J4 hJ4 => ?_)
        rcases hJ4 with ⟨_, ⟨a1, rfl, a2⟩ | ⟨a1, rfl, a2⟩⟩
        · rw [if_pos a1] at hM
          refine hrec (i' + 1) _ _ (by omega) (by omega) (Or.inl ⟨rfl, K i' :: P1, o, P2, i' + 1, f', ⟨a2, ?_, ?_, ?_, ?_, ?_, fun p hp => ?_, frM_fd fr4 (by unfold exT; omega), ?_, wq, s11⟩, hM, by omega, by omega⟩)
          · rw [up_g, if_neg (by decide), up_g, if_neg (by decide), up_ne (by decide), g1.2 12 (by decide)]; exact s2
          · rw [up_g, if_neg (by decide), up_s, List.length_cons]; omega
          · rw [up_ne (by decide), up_ne (by decide), up_row]
            exact ⟨rSet_s, wtA_up (Nat.le_refl _) g3⟩
          · rw [up_g, if_neg (by decide), up_g, if_neg (by decide), up_ne (by decide)]; exact g4
          · rw [up_ne (by decide), up_ne (by decide), up_ne (by decide), up_ne (by decide), up_ne (by decide), up_ne (by decide)]; exact g5
          · rw [up_ne (by decide), up_ne (by decide), up_ne (by decide), up_ne (by decide), up_ne (by decide), up_ne (by decide), (g6 p hp).1, (g6 p hp).2]
            exact s7 p hp
          · rw [List.length_cons]; omega
        · rw [if_neg a1] at hM
          exact hrec (k + 1) _ _ (by omega) (by omega) (Or.inr ⟨rfl, by omega, 2, i', frM_trans fr4 (flI_frm (by unfold exT; omega) (by unfold exT; omega)), fun p hp => (by unfold flI; rw [up_ne (by decide), up_ne (by decide), up_ne (by decide), up_ne (by decide), up_ne (by decide), up_ne (by decide), up_ne (by decide), up_ne (by decide), (g6 p hp).1, (g6 p hp).2]; exact s7 p hp), hM.symm, a2⟩)
      have fin : (isAdd (K i') || isMul (K i')) = false → wm t d rt ((jm_gI 12 12 (mm t d rt J) 369).bind fun v13 =>
          jjq (fun (M_204 : jMem) =>
          jcall 12 M_204 369 (f_X12_comesOut 369 0 M_204) fun _ M15 =>
          some (0, M15)) fun j_204 =>
          if jd_wr v13 ≤ jd_wr 0 then (j_204 (mm t d rt J))
          else (jcall 12 (mm t d rt J) 369 (f_X12_fail 369 1 (mm t d rt J)) fun _ M17 =>
          j_204 M17)) (fun _ J => exQ K V ps c0 hi I R J) := by
        intro hop
        rw [if_neg (by rw [hop]; decide)] at hM
        by_cases co' : 0 < o
        · rw [if_pos co'] at hM
          have fl := q_fail (t := t) (d := d) (rt := rt) s1 (c := 1) (z := 1) rfl
          have F := flI_ok s1 (c := 1) (Or.inl rfl)
          have ffr : frM (fun _ => False) (fun j => j = 13 ∨ j = 14) J (flI ps J 1 i') := flI_frm (Or.inl rfl) (Or.inr rfl)
          (repeat (first | (with_reducible apply wm_o; focus (simp (disch := omega) only [wr_id, Int.toNat_natCast, Int.reduceToNat, tn_lk, tn_kl, if_pos, if_neg, ↓reduceIte, and_self, and_true, true_and, FM, s2, fl]; with_reducible rfl)) | (with_reducible apply wm_q) | (with_reducible apply wm_c; focus (first | assumption | decide +kernel)) | (with_reducible apply wm_d; focus (simp (disch := omega) only [wr_id, Int.toNat_natCast, Int.reduceToNat, tn_lk, tn_kl, if_pos, if_neg, ↓reduceIte, and_self, and_true, true_and, FM, s2, fl]; with_reducible rfl)) | (with_reducible apply wm_t; focus (first | omega | (simp (disch := omega) only [wr_id, FM, s2, fl]; omega) | (simp (disch := omega) only [wr_id, FM, s2, fl]; done))) | (with_reducible apply wm_f; focus (first | omega | (simp (disch := omega) only [wr_id, FM, s2, fl]; omega) | (simp (disch := omega) only [wr_id, FM, s2, fl]; done)))))
          refine wm_b (w_comesOut (b := false) rfl sg (by rw [ffr.2 43 (by decide)]; exact s3) (by rw [ffr.1 397 (by decide) (fun h => h)]; exact s4) (by rw [ffr.2 38 (by decide)]; exact s5) (by rw [ffr.1 394 (by decide) (fun h => h), ffr.1 395 (by decide) (fun h => h)]; exact s6) (hi := hi) (by omega) hb (by omega)) (fun r J3 hJ3 => ?_)
          obtain ⟨g1, _, _, _, _, gk⟩ := hJ3
          refine wm_r (badQ (frM_trans (frM_trans s8 (frM_sub ffr (fun a h => h.elim) (fun a h => by unfold exT; omega))) (frM_sub g1 (fun a h => by unfold exP; omega) (fun a h => by unfold exT; omega))) (fun p hp => ⟨((gk p hp).1).trans (by rw [ffr.1 394 (by decide) (fun h => h)]; exact (s7 p hp).1), ((gk p hp).2).trans (by rw [ffr.1 395 (by decide) (fun h => h)]; exact (s7 p hp).2)⟩) hM.symm ?_)
          obtain ⟨d1, d2, d3, s, d4, d5⟩ := F
          exact ⟨d1, by rw [g1.2 13 (by decide)]; exact d2, by rw [g1.2 14 (by decide)]; exact d3, s, by rw [g1.2 11 (by decide)]; exact d4, d5⟩
        · rw [if_neg co'] at hM
          have o0 : o = 0 := by omega
          subst o0
          have s2' : J 369 12 = 0 := s2
          have co0 := co false
          generalize popO false S C = P at co0 hM
          (repeat (first | (with_reducible apply wm_o; focus (simp (disch := omega) only [wr_id, Int.toNat_natCast, Int.reduceToNat, tn_lk, tn_kl, if_pos, if_neg, ↓reduceIte, and_self, and_true, true_and, FM, s2']; with_reducible rfl)) | (with_reducible apply wm_q) | (with_reducible apply wm_c; focus (first | assumption | decide +kernel)) | (with_reducible apply wm_d; focus (simp (disch := omega) only [wr_id, Int.toNat_natCast, Int.reduceToNat, tn_lk, tn_kl, if_pos, if_neg, ↓reduceIte, and_self, and_true, true_and, FM, s2']; with_reducible rfl)) | (with_reducible apply wm_t; focus (first | omega | (simp (disch := omega) only [wr_id, FM, s2']; omega) | (simp (disch := omega) only [wr_id, FM, s2']; done))) | (with_reducible apply wm_f; focus (first | omega | (simp (disch := omega) only [wr_id, FM, s2']; omega) | (simp (disch := omega) only [wr_id, FM, s2']; done)))))
          refine wm_b co0 (fun r J3 hJ3 => ?_)
          obtain ⟨g1, g2, g3, g4, g5, g6⟩ := hJ3
          refine wm_r ⟨frM_trans s8 (frM_sub g1 (fun a h => by unfold exP; omega) (fun a h => by unfold exT; omega)), fun p hp => ?_, Or.inl ⟨i', P.2, hM.symm, rd_frM g1 (fun a b1 b2 => by omega) (by decide) (by decide) s1, ?_, g4, g5⟩⟩
          · rw [(g6 p hp).1, (g6 p hp).2]; exact s7 p hp
          · rw [g1.2 12 (by decide)]; exact s2'
      have tail : wm t d rt (jbd (f_X12_is 369 8 (mm t d rt J)) fun v11 M12 =>
          jjq (fun (z0_186 : Int) (M_186 : jMem) =>
          if jd_wr z0_186 = 0 then ((jm_gI 12 12 M_186 369).bind fun v13 =>
          jjq (fun (M_204 : jMem) =>
          jcall 12 M_204 369 (f_X12_comesOut 369 0 M_204) fun _ M15 =>
          some (0, M15)) fun j_204 =>
          if jd_wr v13 ≤ jd_wr 0 then (j_204 M_186)
          else (jcall 12 M_186 369 (f_X12_fail 369 1 M_186) fun _ M17 =>
          j_204 M17))
          else (jcall 12 M_186 369 (f_X12_is 369 10 M_186) fun v18 M19 =>
          jjq (fun (z0_234 : Int) (M_234 : jMem) =>
          jcall 12 M_234 369 (f_X12_comesOut 369 z0_234 M_234) fun _ M21 =>
          (jm_gR 12 42 M21 369).bind fun r22 =>
          (jm_gI 12 43 M21 369).bind fun v23 =>
          (jm_gR 12 5 M21 369).bind fun r24 =>
          (jm_gI 12 11 M21 369).bind fun v25 =>
          (jm_ld 20 M21 r24 v25).bind fun v26 =>
          (jm_st 20 M21 r22 v23 v26).bind fun M27 =>
          (jm_gI 12 43 M27 369).bind fun v28 =>
          (jm_pI 12 43 M27 369 (v28 + 1)).bind fun M29 =>
          jcall 12 M29 369 (f_X12_goesOn 369 M29) fun _ M31 =>
          rec z0_186 M31) fun j_234 =>
          jjq (fun (M_229 : jMem) =>
          j_234 1 M_229) fun j_229 =>
          if jd_wr v18 = 0 then (jcall 12 M19 369 (f_X12_is 369 15 M19) fun v32 M33 =>
          if jd_wr v32 = 0 then (j_234 0 M33)
          else (j_229 M33))
          else (j_229 M19))) fun j_186 =>
          jjq (fun (M_181 : jMem) =>
          j_186 1 M_181) fun j_181 =>
          if jd_wr v11 = 0 then (jcall 12 M12 369 (f_X12_is 369 9 M12) fun v34 M35 =>
          if jd_wr v34 = 0 then (jcall 12 M35 369 (f_X12_is 369 10 M35) fun v36 M37 =>
          if jd_wr v36 = 0 then (jcall 12 M37 369 (f_X12_is 369 15 M37) fun v38 M39 =>
          if jd_wr v38 = 0 then (j_186 0 M39)
          else (j_181 M39))
          else (j_181 M37))
          else (j_181 M35))
          else (j_181 M12)) (fun _ J => exQ K V ps c0 hi I R J) := by
        by_cases k12 : K i' = 12
        · rw [if_pos k12] at x12
          rw [if_neg (by omega)] at x14 x15
          (repeat (first | (with_reducible apply wm_o; focus (simp (disch := omega) only [wr_id, Int.toNat_natCast, Int.reduceToNat, tn_lk, tn_kl, if_pos, if_neg, ↓reduceIte, and_self, and_true, true_and, FM, x12, x14, x15]; with_reducible rfl)) | (with_reducible apply wm_q) | (with_reducible apply wm_c; focus (first | assumption | decide +kernel)) | (with_reducible apply wm_d; focus (simp (disch := omega) only [wr_id, Int.toNat_natCast, Int.reduceToNat, tn_lk, tn_kl, if_pos, if_neg, ↓reduceIte, and_self, and_true, true_and, FM, x12, x14, x15]; with_reducible rfl)) | (with_reducible apply wm_t; focus (first | omega | (simp (disch := omega) only [wr_id, FM, x12, x14, x15]; omega) | (simp (disch := omega) only [wr_id, FM, x12, x14, x15]; done))) | (with_reducible apply wm_f; focus (first | omega | (simp (disch := omega) only [wr_id, FM, x12, x14, x15]; omega) | (simp (disch := omega) only [wr_id, FM, x12, x14, x15]; done)))))
          exact opr false (by rw [k12]; rfl) (by rw [k12]; rfl) 0 rfl
        rw [if_neg k12] at x12
        by_cases k13 : K i' = 13
        · rw [if_pos k13] at x13
          rw [if_neg (by omega)] at x14 x15
          (repeat (first | (with_reducible apply wm_o; focus (simp (disch := omega) only [wr_id, Int.toNat_natCast, Int.reduceToNat, tn_lk, tn_kl, if_pos, if_neg, ↓reduceIte, and_self, and_true, true_and, FM, x12, x13, x14, x15]; with_reducible rfl)) | (with_reducible apply wm_q) | (with_reducible apply wm_c; focus (first | assumption | decide +kernel)) | (with_reducible apply wm_d; focus (simp (disch := omega) only [wr_id, Int.toNat_natCast, Int.reduceToNat, tn_lk, tn_kl, if_pos, if_neg, ↓reduceIte, and_self, and_true, true_and, FM, x12, x13, x14, x15]; with_reducible rfl)) | (with_reducible apply wm_t; focus (first | omega | (simp (disch := omega) only [wr_id, FM, x12, x13, x14, x15]; omega) | (simp (disch := omega) only [wr_id, FM, x12, x13, x14, x15]; done))) | (with_reducible apply wm_f; focus (first | omega | (simp (disch := omega) only [wr_id, FM, x12, x13, x14, x15]; omega) | (simp (disch := omega) only [wr_id, FM, x12, x13, x14, x15]; done)))))
          exact opr false (by rw [k13]; rfl) (by rw [k13]; rfl) 0 rfl
        rw [if_neg k13] at x13
        by_cases k14 : K i' = 14
        · rw [if_pos k14] at x14
          (repeat (first | (with_reducible apply wm_o; focus (simp (disch := omega) only [wr_id, Int.toNat_natCast, Int.reduceToNat, tn_lk, tn_kl, if_pos, if_neg, ↓reduceIte, and_self, and_true, true_and, FM, x12, x13, x14]; with_reducible rfl)) | (with_reducible apply wm_q) | (with_reducible apply wm_c; focus (first | assumption | decide +kernel)) | (with_reducible apply wm_d; focus (simp (disch := omega) only [wr_id, Int.toNat_natCast, Int.reduceToNat, tn_lk, tn_kl, if_pos, if_neg, ↓reduceIte, and_self, and_true, true_and, FM, x12, x13, x14]; with_reducible rfl)) | (with_reducible apply wm_t; focus (first | omega | (simp (disch := omega) only [wr_id, FM, x12, x13, x14]; omega) | (simp (disch := omega) only [wr_id, FM, x12, x13, x14]; done))) | (with_reducible apply wm_f; focus (first | omega | (simp (disch := omega) only [wr_id, FM, x12, x13, x14]; omega) | (simp (disch := omega) only [wr_id, FM, x12, x13, x14]; done)))))
          exact opr true (by rw [k14]; rfl) (by rw [k14]; rfl) 1 rfl
        rw [if_neg k14] at x14
        by_cases k15 : K i' = 15
        · rw [if_pos k15] at x15
          (repeat (first | (with_reducible apply wm_o; focus (simp (disch := omega) only [wr_id, Int.toNat_natCast, Int.reduceToNat, tn_lk, tn_kl, if_pos, if_neg, ↓reduceIte, and_self, and_true, true_and, FM, x12, x13, x14, x15]; with_reducible rfl)) | (with_reducible apply wm_q) | (with_reducible apply wm_c; focus (first | assumption | decide +kernel)) | (with_reducible apply wm_d; focus (simp (disch := omega) only [wr_id, Int.toNat_natCast, Int.reduceToNat, tn_lk, tn_kl, if_pos, if_neg, ↓reduceIte, and_self, and_true, true_and, FM, x12, x13, x14, x15]; with_reducible rfl)) | (with_reducible apply wm_t; focus (first | omega | (simp (disch := omega) only [wr_id, FM, x12, x13, x14, x15]; omega) | (simp (disch := omega) only [wr_id, FM, x12, x13, x14, x15]; done))) | (with_reducible apply wm_f; focus (first | omega | (simp (disch := omega) only [wr_id, FM, x12, x13, x14, x15]; omega) | (simp (disch := omega) only [wr_id, FM, x12, x13, x14, x15]; done)))))
          exact opr true (by rw [k15]; rfl) (by rw [k15]; rfl) 1 rfl
        rw [if_neg k15] at x15
        refine wm_d x12 ?_
        refine wm_q (wm_q (wm_t (by decide) ?_))
        refine wm_c (by decide +kernel) (wm_d x13 (wm_t (by decide) ?_))
        refine wm_c (by decide +kernel) (wm_d x14 (wm_t (by decide) ?_))
        refine wm_c (by decide +kernel) (wm_d x15 (wm_t (by decide) ?_))
        refine wm_t (by decide) ?_
        refine fin ?_
        unfold isAdd isMul
        rw [beq_false_of_ne k12, beq_false_of_ne k13, beq_false_of_ne k14, beq_false_of_ne k15]; rfl
      by_cases k18 : K i' = 18
      · rw [if_pos k18] at x18
        have o0 : o = 0 := by omega
        subst o0
        have s2' : J 369 12 = 0 := s2
        refine wm_c (by decide +kernel) (wm_d x18 (wm_q (wm_f (by decide) ?_)))
        refine wm_o (a := 0) (by rw [← s2']; simp only [FM]) ?_
        refine wm_t (by decide) ?_
        exact wm_c (by decide +kernel) tail
      · rw [if_neg k18] at x18
        refine wm_c (by decide +kernel) (wm_d x18 (wm_q (wm_t (by decide) ?_)))
        exact wm_c (by decide +kernel) tail
end ME
