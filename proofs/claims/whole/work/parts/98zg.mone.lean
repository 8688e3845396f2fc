/-! ===== the model reads one tell ===== -/
def lwS (J : Nat → Nat → Int) (sd b c q : Nat) (l : LW) : Prop := lwOK l.1 l.2 ∧ ((J 387 (3 * sd + q) = J 388 (3 * sd + q) ∧ l = dfLw q) ∨ ∃ bb e : Nat, J 387 (3 * sd + q) = (bb : Int) ∧ J 388 (3 * sd + q) = (e : Int) ∧ 130 * sd ≤ bb ∧ e ≤ b ∧ lwM J bb l.1 l.2 e ∧ ∀ x, bb ≤ x → x < e → ((420 * sd : Nat) : Int) ≤ J 392 x ∧ J 393 x ≤ (c : Int) ∧ (J 389 x = 1 → ((420 * sd : Nat) : Int) ≤ J 390 x))
theorem lws_kp {I J : Nat → Nat → Int} {sd b c b' c' q hi bh : Nat} {l : LW} (hk : kpL c hi b bh I J) (e1 : J 387 (3 * sd + q) = I 387 (3 * sd + q)) (e2 : J 388 (3 * sd + q) = I 388 (3 * sd + q)) (hb : b ≤ b') (hc : c ≤ c') (h : lwS I sd b c q l) : lwS J sd b' c' q l := by
  obtain ⟨h1, h2⟩ := h
  refine ⟨h1, ?_⟩
  rcases h2 with ⟨a1, a2⟩ | ⟨bb, e, a1, a2, a3, a4, a5, a6⟩
  · exact Or.inl ⟨by rw [e1, e2]; exact a1, a2⟩
  · refine Or.inr ⟨bb, e, by rw [e1]; exact a1, by rw [e2]; exact a2, a3, Nat.le_trans a4 hb, lwM_kp hk a4 (fun y y1 y2 => (a6 y y1 y2).2.1) a5, fun x x1 x2 => ?_⟩
    obtain ⟨z1, z2, z3⟩ := a6 x x1 x2
    obtain ⟨k1, k2, k3, k4, k5⟩ := hk.2 x (Or.inl (by omega))
    rw [k1, k2, k4, k5]
    exact ⟨z1, by omega, z3⟩
def mtB (sd : Nat) (J : Nat → Nat → Int) (w h se : Int) (H : TH) (S : TS) (lw : Nat → LW) (b c : Nat) : Prop := J 369 12 = 0 ∧ J 369 19 = (sd : Int) ∧ J 369 32 = (b : Int) ∧ J 369 38 = (c : Int) ∧ J 377 sd = w ∧ J 378 sd = h ∧ J 386 sd = se ∧ hsM J sd H S ∧ ∀ q, q < 3 → lwS J sd b c q (lw q)
def mtS (K : Nat → Nat) (V : Nat → Int) (ps : Nat → Nat) (sd : Nat) (J : Nat → Nat → Int) (i : Nat) (w h se : Int) (H : TH) (S : TS) (lw : Nat → LW) (wr : Option Nat) : Prop := ∃ b c : Nat, rdM K V ps J i ∧ wrM ps J i wr ∧ mtB sd J w h se H S lw b c ∧ 130 * sd ≤ b ∧ 4 * b ≤ i + 520 * sd ∧ 420 * sd ≤ c ∧ c ≤ 420 * sd + i
def mtQ (K : Nat → Nat) (V : Nat → Int) (ps : Nat → Nat) (sd : Nat) (I : Nat → Nat → Int) (R : ER TX) (J : Nat → Nat → Int) : Prop := mfr sd I J ∧ ((∃ t' w h se H S lw wr, R = eok t' (w, h, se, H, S, lw, wr) ∧ mtS K V ps sd J t' w h se H S lw wr) ∨ ∃ c q, R = efl c q ∧ fltM ps J c q)
theorem kpL_row {I J : Nat → Nat → Int} {c hi b bh : Nat} (er : ∀ a, 387 ≤ a → a ≤ 395 → J a = I a) : kpL c hi b bh I J := by
  refine ⟨fun p _ => ?_, fun x _ => ?_⟩
  · rw [er 394 (by decide) (by decide), er 395 (by decide) (by decide)]; exact ⟨rfl, rfl⟩
  · rw [er 389 (by decide) (by decide), er 390 (by decide) (by decide), er 391 (by decide) (by decide), er 392 (by decide) (by decide), er 393 (by decide) (by decide)]; exact ⟨rfl, rfl, rfl, rfl, rfl⟩
theorem mb_of {sd : Nat} {I J : Nat → Nat → Int} {w h se w' h' se' : Int} {H H' : TH} {S S' : TS} {lw : Nat → LW} {b c : Nat} (hB : mtB sd I w h se H S lw b c) (ef : ∀ j, j = 12 ∨ j = 19 ∨ j = 32 ∨ j = 38 → J 369 j = I 369 j) (er : ∀ a, 387 ≤ a → a ≤ 395 → J a = I a) (e0 : J 377 sd = w') (e1 : J 378 sd = h') (e2 : J 386 sd = se') (e3 : hsM J sd H' S') : mtB sd J w' h' se' H' S' lw b c := by
  obtain ⟨b1, b2, b3, b4, b5, b6, b7, b8, b9⟩ := hB
  refine ⟨(ef 12 (by omega)).trans b1, (ef 19 (by omega)).trans b2, (ef 32 (by omega)).trans b3, (ef 38 (by omega)).trans b4, e0, e1, e2, e3, fun q hq => ?_⟩
  exact lws_kp (hi := 0) (bh := 0) (kpL_row er) (by rw [er 387 (by decide) (by decide)]) (by rw [er 388 (by decide) (by decide)]) (Nat.le_refl _) (Nat.le_refl _) (b9 q hq)
theorem hs_row {sd : Nat} {I J : Nat → Nat → Int} {H : TH} {S : TS} (er : ∀ a, 379 ≤ a → a ≤ 385 → J a = I a) (h : hsM I sd H S) : hsM J sd H S := by
  unfold hsM at h ⊢
  rw [er 379 (by decide) (by decide), er 380 (by decide) (by decide), er 381 (by decide) (by decide), er 382 (by decide) (by decide), er 383 (by decide) (by decide), er 384 (by decide) (by decide), er 385 (by decide) (by decide)]
  exact h
theorem hs_hole {sd : Nat} {I J : Nat → Nat → Int} {H : TH} {S : TS} {x y : Int} (h : hsM I sd H S) (h12 : H.1 < 12) (e0 : J 379 sd = (H.1 : Int) + 1) (e1 : J 380 = rSet (I 380) (12 * sd + H.1) x) (e2 : J 381 = rSet (I 381) (12 * sd + H.1) y) (er : ∀ a, 382 ≤ a → a ≤ 385 → J a = I a) : hsM J sd (H.1 + 1, rSet H.2.1 H.1 x, rSet H.2.2 H.1 y) S := by
  obtain ⟨h1, h2, h3, h4, h5, h6⟩ := h
  refine ⟨by rw [e0]; rfl, by rw [er 382 (by decide) (by decide)]; exact h2, h12, h4, fun i hi => ?_, ?_⟩
  · rw [e1, e2]
    show rSet (I 380) (12 * sd + H.1) x (12 * sd + i) = rSet H.2.1 H.1 x i ∧ rSet (I 381) (12 * sd + H.1) y (12 * sd + i) = rSet H.2.2 H.1 y i
    unfold rSet
    by_cases e : i = H.1
    · rw [if_pos (by omega), if_pos e, if_pos (by omega), if_pos e]; exact ⟨rfl, rfl⟩
    · have hi' : i < H.1 + 1 := hi
      rw [if_neg (by omega), if_neg e, if_neg (by omega), if_neg e]; exact h5 i (by omega)
  · rw [er 383 (by decide) (by decide), er 384 (by decide) (by decide), er 385 (by decide) (by decide)]; exact h6
theorem hs_stone {sd : Nat} {I J : Nat → Nat → Int} {H : TH} {S : TS} {x y z : Int} (h : hsM I sd H S) (h18 : S.1 < 18) (e0 : J 382 sd = (S.1 : Int) + 1) (e1 : J 383 = rSet (I 383) (18 * sd + S.1) x) (e2 : J 384 = rSet (I 384) (18 * sd + S.1) y) (e3 : J 385 = rSet (I 385) (18 * sd + S.1) z) (er : ∀ a, 379 ≤ a → a ≤ 381 → J a = I a) : hsM J sd H (S.1 + 1, rSet S.2.1 S.1 x, rSet S.2.2.1 S.1 y, rSet S.2.2.2 S.1 z) := by
  obtain ⟨h1, h2, h3, h4, h5, h6⟩ := h
  refine ⟨by rw [er 379 (by decide) (by decide)]; exact h1, by rw [e0]; rfl, h3, h18, ?_, fun i hi => ?_⟩
  · rw [er 380 (by decide) (by decide), er 381 (by decide) (by decide)]; exact h5
  · rw [e1, e2, e3]
    show rSet (I 383) (18 * sd + S.1) x (18 * sd + i) = rSet S.2.1 S.1 x i ∧ rSet (I 384) (18 * sd + S.1) y (18 * sd + i) = rSet S.2.2.1 S.1 y i ∧ rSet (I 385) (18 * sd + S.1) z (18 * sd + i) = rSet S.2.2.2 S.1 z i
    unfold rSet
    by_cases e : i = S.1
    · rw [if_pos (by omega), if_pos e, if_pos (by omega), if_pos e, if_pos (by omega), if_pos e]; exact ⟨rfl, rfl, rfl⟩
    · have hi' : i < S.1 + 1 := hi
      rw [if_neg (by omega), if_neg e, if_neg (by omega), if_neg e, if_neg (by omega), if_neg e]; exact h6 i (by omega)
theorem wrM_fr {ps : Nat → Nat} {I J : Nat → Nat → Int} {i i' : Nat} {wr : Option Nat} (e1 : J 369 15 = I 369 15) (e2 : J 369 16 = I 369 16) (hi : i ≤ i') (h : wrM ps I i wr) : wrM ps J i' wr := by
  cases wr with
  | none => exact e1.trans h
  | some q => exact ⟨e1.trans h.1, e2.trans h.2.1, Nat.le_trans h.2.2 hi⟩
/-- reading so far: on, or with a fault -/
def stE (K : Nat → Nat) (V : Nat → Int) (ps : Nat → Nat) (R : ER (Option Nat)) (X : Nat → Nat → Int) : Prop := (∃ i wr, R = eok i wr ∧ rdM K V ps X i ∧ wrM ps X i wr) ∨ ∃ c q, R = efl c q ∧ fltM ps X c q
def gR (i : Nat) (wr : Option Nat) : ER (Option Nat) := if i < 400 then eok (i + 1) wr else efl 2 i
section SE
variable {t d rt : Nat} {I J X : Nat → Nat → Int} {K : Nat → Nat} {V : Nat → Int} {ps : Nat → Nat} {i : Nat} {wr : Option Nat} {R : ER (Option Nat)}
theorem se_up {a j : Nat} {v : Int} (ha : a ≠ 369 ∧ a ≠ 372 ∧ a ≠ 373 ∧ a ≠ 374) (h : stE K V ps R X) : stE K V ps R (up X a j v) := by
  rcases h with ⟨i, wr, e, h1, h2⟩ | ⟨c, q, e, h1⟩
  · exact Or.inl ⟨i, wr, e, rdM_up ha h1, wrM_fr (up_n (Or.inl (by omega))) (up_n (Or.inl (by omega))) (Nat.le_refl _) h2⟩
  · exact Or.inr ⟨c, q, e, flt_up ha.1 h1⟩
theorem w_gE (hR : rdM K V ps I i) (hw : wrM ps I i wr) (hK : K i ≠ 0) : wm t d rt (f_X12_goesOn 369 (mm t d rt I)) (fun _ X => frM (fun _ => False) nuT I X ∧ stE K V ps (gR i wr) X) := by
  refine wm_w (w_goesOn hR hK) (fun r X hX => ?_)
  unfold gR
  rcases hX with ⟨_, ⟨b1, rfl, b2⟩ | ⟨b1, rfl, b2⟩⟩
  · rw [if_pos b1]
    exact ⟨frM_fd (frM_refl _ _ _) (Or.inl rfl), Or.inl ⟨_, _, rfl, b2, wrM_fr (up_n (Or.inr (by decide))) (up_n (Or.inr (by decide))) (Nat.le_succ _) hw⟩⟩
  · rw [if_neg b1]
    exact ⟨flI_frm (by unfold nuT; omega) (by unfold nuT; omega), Or.inr ⟨_, _, rfl, b2⟩⟩
theorem w_bE (hk : ∀ i, kR (K i)) (hv : kvOK K V ps) (hm : ∀ a b, a ≤ b → ps a ≤ ps b) (h : stE K V ps R X) {lo hi : Int} (h1 : 0 ≤ lo ∧ lo ≤ 9999) (h2 : 0 ≤ hi ∧ hi ≤ 9999) : wm t d rt (f_X12_bounded 369 lo hi (mm t d rt X)) (fun r Y => frM (fun _ => False) nuT X Y ∧ stE K V ps (bnd R fun i wr => numR K V lo hi i wr) Y ∧ ∀ i wr t' wr', R = eok i wr → numR K V lo hi i wr = eok t' wr' → r = V i) := by
  rcases h with ⟨i, wr, rfl, a1, a2⟩ | ⟨c, q, rfl, hF⟩
  · refine wm_w (w_bounded hk hv hm a1 a2 h1 h2) (fun r Y hY => ?_)
    obtain ⟨f1, ⟨wr', g1, g2, g3, g4⟩ | ⟨c, q, g1, g2⟩⟩ := hY
    · rw [bnd_ok, g1]
      refine ⟨f1, Or.inl ⟨_, _, rfl, g3, g4⟩, fun i' wr' t' wr'' e _ => ?_⟩
      obtain ⟨rfl, _⟩ := eok_inj e
      exact g2
    · rw [bnd_ok, g1]
      refine ⟨f1, Or.inr ⟨_, _, rfl, g2⟩, fun i' wr' t' wr'' e e' => ?_⟩
      obtain ⟨rfl, rfl⟩ := eok_inj e
      rw [g1] at e'
      exact (eok_fl e'.symm).elim
  · rw [w_boundedF hF, bnd_fl]
    exact wm_r ⟨frM_refl _ _ _, Or.inr ⟨c, q, rfl, hF⟩, fun i' wr' t' wr'' e _ => (eok_fl e.symm).elim⟩
theorem w_mE (hk : ∀ i, kR (K i)) (h : stE K V ps R X) : wm t d rt (f_X12_must 369 4 (mm t d rt X)) (fun _ Y => frM (fun _ => False) nuT X Y ∧ stE K V ps (bnd R fun i wr => bnd (tokR K 10 i) fun t' _ => eok t' wr) Y) := by
  rcases h with ⟨i, wr, rfl, a1, a2⟩ | ⟨c, q, rfl, hF⟩
  · refine wm_w (w_must hk a1 (j := 10) (z := 4) rfl (Or.inr (Or.inl (by decide))) (by decide)) (fun r Y hY => ?_)
    obtain ⟨f1, f2⟩ := hY
    have f1' : frM (fun _ => False) nuT X Y := frM_sub f1 (fun a h => h) (fun a h => by unfold tkT at h; unfold nuT; omega)
    rw [bnd_ok]
    rcases f2 with ⟨g1, g2⟩ | ⟨c, q, g1, g2⟩
    · rw [g1, bnd_ok]
      exact ⟨f1', Or.inl ⟨_, _, rfl, g2, wrM_fr (f1.2 15 (by unfold tkT; omega)) (f1.2 16 (by unfold tkT; omega)) (Nat.le_succ _) a2⟩⟩
    · rw [g1, bnd_fl]
      exact ⟨f1', Or.inr ⟨_, _, rfl, g2⟩⟩
  · rw [q_mustF hF, bnd_fl]
    exact wm_r ⟨frM_refl _ _ _, Or.inr ⟨c, q, rfl, hF⟩⟩
theorem num_c {lo hi : Int} (i : Nat) (wr : Option Nat) : numR K V lo hi i wr = eok (i + 1) (wrN V lo hi i wr) ∨ ∃ c q, numR K V lo hi i wr = efl c q := by
  unfold numR
  by_cases c1 : K i = 3
  · rw [if_pos c1]
    by_cases c2 : i < 400
    · rw [if_pos c2]; exact Or.inl rfl
    · rw [if_neg c2]; exact Or.inr ⟨_, _, rfl⟩
  · rw [if_neg c1]; exact Or.inr ⟨_, _, rfl⟩
theorem tok_c (k i : Nat) : tokR K k i = eok (i + 1) () ∨ ∃ c q, tokR K k i = efl c q := by
  unfold tokR
  by_cases c1 : K i = k
  · rw [if_pos c1]
    by_cases c2 : i < 400
    · rw [if_pos c2]; exact Or.inl rfl
    · rw [if_neg c2]; exact Or.inr ⟨_, _, rfl⟩
  · rw [if_neg c1]; exact Or.inr ⟨_, _, rfl⟩
/-- a number, a number, an end: what it comes to -/
theorem two_c {a1 b1 a2 b2 : Int} {R : ER (Option Nat)} (hR : R = bnd (bnd (bnd (eok i wr) fun i wr => numR K V a1 b1 i wr) fun i wr => numR K V a2 b2 i wr) fun i wr => bnd (tokR K 10 i) fun t' _ => eok t' wr) : (∃ wr2, (∀ {α : Type} (g : Option Nat → α), (bnd (numR K V a1 b1 i wr) fun _ wr1 => bnd (numR K V a2 b2 (i + 1) wr1) fun _ wr2 => bnd (tokR K 10 (i + 2)) fun _ _ => eok (i + 3) (g wr2)) = eok (i + 3) (g wr2)) ∧ R = eok (i + 3) wr2 ∧ (∀ t' w', numR K V a1 b1 i wr = eok t' w' → t' = i + 1) ∧ ∃ w1 w2, numR K V a1 b1 i wr = eok (i + 1) w1 ∧ numR K V a2 b2 (i + 1) w1 = eok (i + 2) w2) ∨ (∃ c q, (∀ {α : Type} (g : Option Nat → α), (bnd (numR K V a1 b1 i wr) fun _ wr1 => bnd (numR K V a2 b2 (i + 1) wr1) fun _ wr2 => bnd (tokR K 10 (i + 2)) fun _ _ => eok (i + 3) (g wr2)) = efl c q) ∧ R = efl c q) := by
  rw [bnd_ok] at hR
  rcases num_c (K := K) (V := V) (lo := a1) (hi := b1) i wr with e1 | ⟨c, q, e1⟩
  · rw [e1, bnd_ok] at hR
    generalize ew1 : wrN V a1 b1 i wr = w1 at e1 hR
    rcases num_c (K := K) (V := V) (lo := a2) (hi := b2) (i + 1) w1 with e2 | ⟨c, q, e2⟩
    · rw [e2, bnd_ok] at hR
      generalize ew2 : wrN V a2 b2 (i + 1) w1 = w2 at e2 hR
      rcases tok_c (K := K) 10 (i + 2) with e3 | ⟨c, q, e3⟩
      · rw [show i + 1 + 1 = i + 2 from rfl, e3, bnd_ok] at hR
        exact Or.inl ⟨w2, fun g => by rw [e1, bnd_ok, e2, bnd_ok, e3, bnd_ok], hR, fun t' w' e => by rw [e1] at e; exact (eok_inj e).1.symm, w1, w2, e1, e2⟩
      · rw [show i + 1 + 1 = i + 2 from rfl, e3, bnd_fl] at hR
        exact Or.inr ⟨c, q, fun g => by rw [e1, bnd_ok, e2, bnd_ok, e3, bnd_fl], hR⟩
    · rw [e2, bnd_fl] at hR
      exact Or.inr ⟨c, q, fun g => by rw [e1, bnd_ok, e2, bnd_fl], hR⟩
  · rw [e1] at hR
    exact Or.inr ⟨c, q, fun g => by rw [e1, bnd_fl], hR⟩
theorem three_c {a1 b1 a2 b2 a3 b3 : Int} {R : ER (Option Nat)} (hR : R = bnd (bnd (bnd (bnd (eok i wr) fun i wr => numR K V a1 b1 i wr) fun i wr => numR K V a2 b2 i wr) fun i wr => numR K V a3 b3 i wr) fun i wr => bnd (tokR K 10 i) fun t' _ => eok t' wr) : (∃ wr3, (∀ {α : Type} (g : Option Nat → α), (bnd (numR K V a1 b1 i wr) fun _ wr1 => bnd (numR K V a2 b2 (i + 1) wr1) fun _ wr2 => bnd (numR K V a3 b3 (i + 2) wr2) fun _ wr3 => bnd (tokR K 10 (i + 3)) fun _ _ => eok (i + 4) (g wr3)) = eok (i + 4) (g wr3)) ∧ R = eok (i + 4) wr3 ∧ ∃ w1 w2 w3, numR K V a1 b1 i wr = eok (i + 1) w1 ∧ numR K V a2 b2 (i + 1) w1 = eok (i + 2) w2 ∧ numR K V a3 b3 (i + 2) w2 = eok (i + 3) w3) ∨ (∃ c q, (∀ {α : Type} (g : Option Nat → α), (bnd (numR K V a1 b1 i wr) fun _ wr1 => bnd (numR K V a2 b2 (i + 1) wr1) fun _ wr2 => bnd (numR K V a3 b3 (i + 2) wr2) fun _ wr3 => bnd (tokR K 10 (i + 3)) fun _ _ => eok (i + 4) (g wr3)) = efl c q) ∧ R = efl c q) := by
  rw [bnd_ok] at hR
  rcases num_c (K := K) (V := V) (lo := a1) (hi := b1) i wr with e1 | ⟨c, q, e1⟩
  · rw [e1, bnd_ok] at hR
    generalize ew1 : wrN V a1 b1 i wr = w1 at e1 hR
    rcases num_c (K := K) (V := V) (lo := a2) (hi := b2) (i + 1) w1 with e2 | ⟨c, q, e2⟩
    · rw [e2, bnd_ok] at hR
      generalize ew2 : wrN V a2 b2 (i + 1) w1 = w2 at e2 hR
      rcases num_c (K := K) (V := V) (lo := a3) (hi := b3) (i + 2) w2 with e3 | ⟨c, q, e3⟩
      · rw [show i + 1 + 1 = i + 2 from rfl, e3, bnd_ok] at hR
        generalize ew3 : wrN V a3 b3 (i + 2) w2 = w3 at e3 hR
        rcases tok_c (K := K) 10 (i + 3) with e4 | ⟨c, q, e4⟩
        · rw [show i + 2 + 1 = i + 3 from rfl, e4, bnd_ok] at hR
          exact Or.inl ⟨w3, fun g => by rw [e1, bnd_ok, e2, bnd_ok, e3, bnd_ok, e4, bnd_ok], hR, w1, w2, w3, e1, e2, e3⟩
        · rw [show i + 2 + 1 = i + 3 from rfl, e4, bnd_fl] at hR
          exact Or.inr ⟨c, q, fun g => by rw [e1, bnd_ok, e2, bnd_ok, e3, bnd_ok, e4, bnd_fl], hR⟩
      · rw [show i + 1 + 1 = i + 2 from rfl, e3, bnd_fl] at hR
        exact Or.inr ⟨c, q, fun g => by rw [e1, bnd_ok, e2, bnd_ok, e3, bnd_fl], hR⟩
    · rw [e2, bnd_fl] at hR
      exact Or.inr ⟨c, q, fun g => by rw [e1, bnd_ok, e2, bnd_fl], hR⟩
  · rw [e1] at hR
    exact Or.inr ⟨c, q, fun g => by rw [e1, bnd_fl], hR⟩
theorem one_c {a1 b1 : Int} {R : ER (Option Nat)} (hR : R = bnd (bnd (eok i wr) fun i wr => numR K V a1 b1 i wr) fun i wr => bnd (tokR K 10 i) fun t' _ => eok t' wr) : (∃ wr1, (∀ {α : Type} (g : Option Nat → α), (bnd (numR K V a1 b1 i wr) fun _ wr1 => bnd (tokR K 10 (i + 1)) fun _ _ => eok (i + 2) (g wr1)) = eok (i + 2) (g wr1)) ∧ R = eok (i + 2) wr1 ∧ ∃ w1, numR K V a1 b1 i wr = eok (i + 1) w1) ∨ (∃ c q, (∀ {α : Type} (g : Option Nat → α), (bnd (numR K V a1 b1 i wr) fun _ wr1 => bnd (tokR K 10 (i + 1)) fun _ _ => eok (i + 2) (g wr1)) = efl c q) ∧ R = efl c q) := by
  rw [bnd_ok] at hR
  rcases num_c (K := K) (V := V) (lo := a1) (hi := b1) i wr with e1 | ⟨c, q, e1⟩
  · rw [e1, bnd_ok] at hR
    generalize ew1 : wrN V a1 b1 i wr = w1 at e1 hR
    rcases tok_c (K := K) 10 (i + 1) with e3 | ⟨c, q, e3⟩
    · rw [e3, bnd_ok] at hR
      exact Or.inl ⟨w1, fun g => by rw [e1, bnd_ok, e3, bnd_ok], hR, w1, e1⟩
    · rw [e3, bnd_fl] at hR
      exact Or.inr ⟨c, q, fun g => by rw [e1, bnd_ok, e3, bnd_fl], hR⟩
  · rw [e1] at hR
    exact Or.inr ⟨c, q, fun g => by rw [e1, bnd_fl], hR⟩
theorem w_tellLawF {c q : Nat} (hF : fltM ps I c q) {sd b0 : Nat} (hsd : sd ≤ 1) (h32 : I 369 32 = (b0 : Int)) (hb : b0 ≤ 130 * sd + 110) (c0 qq : Nat) : wm t d rt (f_X12_tellLaw 369 (qq : Int) (mm t d rt I)) (fun _ J => frM lwP lwT I J ∧ kpL c0 (420 * sd + 420) b0 (130 * sd + 130) I J ∧ fltM ps J c q) := by
  have z0 : jd_z 0 = 0 := by decide
  have mf := q_mustF (t := t) (d := d) (rt := rt) hF (z := 5)
  have hid : idM ps c0 (420 * sd + 420) b0 (130 * sd + 130) I I b0 c q := ⟨frM_refl _ _ _, kpL_refl _ _ _ _ _, hF, h32, Nat.le_refl _⟩
  unfold f_X12_tellLaw
  (repeat (first | (with_reducible apply wm_o; focus (simp (disch := omega) only [wr_id, Int.toNat_natCast, Int.reduceToNat, tn_lk, tn_kl, if_pos, if_neg, ↓reduceIte, and_self, and_true, true_and, FM, mf, h32]; with_reducible rfl)) | (with_reducible apply wm_q) | (with_reducible apply wm_c; focus (first | assumption | decide +kernel)) | (with_reducible apply wm_d; focus (simp (disch := omega) only [wr_id, Int.toNat_natCast, Int.reduceToNat, tn_lk, tn_kl, if_pos, if_neg, ↓reduceIte, and_self, and_true, true_and, FM, mf, h32]; with_reducible rfl)) | (with_reducible apply wm_t; focus (first | omega | (simp (disch := omega) only [wr_id, FM, mf, h32]; omega) | (simp (disch := omega) only [wr_id, FM, mf, h32]; done))) | (with_reducible apply wm_f; focus (first | omega | (simp (disch := omega) only [wr_id, FM, mf, h32]; omega) | (simp (disch := omega) only [wr_id, FM, mf, h32]; done)))))
  refine wm_lp2 1 (fun n y J => J = I) ?_ (jfuel_n (by decide)) rfl
  rintro n hn y J rfl rec hrec
  have id1 : idM ps c0 (420 * sd + 420) b0 (130 * sd + 130) J (up J 389 b0 0) b0 c q := id_br (by decide) (by omega) hid
  have d2 := hF.2.1
  have d1 := hF.1
  (repeat (first | (with_reducible apply wm_o; focus (simp (disch := omega) only [wr_id, Int.toNat_natCast, Int.reduceToNat, tn_lk, tn_kl, if_pos, if_neg, ↓reduceIte, and_self, and_true, true_and, FM, d2, h32, z0]; with_reducible rfl)) | (with_reducible apply wm_q) | (with_reducible apply wm_c; focus (first | assumption | decide +kernel)) | (with_reducible apply wm_d; focus (simp (disch := omega) only [wr_id, Int.toNat_natCast, Int.reduceToNat, tn_lk, tn_kl, if_pos, if_neg, ↓reduceIte, and_self, and_true, true_and, FM, d2, h32, z0]; with_reducible rfl)) | (with_reducible apply wm_t; focus (first | omega | (simp (disch := omega) only [wr_id, FM, d2, h32, z0]; omega) | (simp (disch := omega) only [wr_id, FM, d2, h32, z0]; done))) | (with_reducible apply wm_f; focus (first | omega | (simp (disch := omega) only [wr_id, FM, d2, h32, z0]; omega) | (simp (disch := omega) only [wr_id, FM, d2, h32, z0]; done)))))
  refine wm_b (w_idTerm (by omega) (by omega) id1) (fun r X hX => ?_)
  have mf := q_mustF (t := t) (d := d) (rt := rt) hX.2.2.1 (z := 4)
  have x13 := hX.2.2.1.2.1
  have x12 := hX.2.2.1.1
  (repeat (first | (with_reducible apply wm_o; focus (simp (disch := omega) only [wr_id, Int.toNat_natCast, Int.reduceToNat, tn_lk, tn_kl, if_pos, if_neg, ↓reduceIte, and_self, and_true, true_and, FM, mf, x13]; with_reducible rfl)) | (with_reducible apply wm_q) | (with_reducible apply wm_c; focus (first | assumption | decide +kernel)) | (with_reducible apply wm_d; focus (simp (disch := omega) only [wr_id, Int.toNat_natCast, Int.reduceToNat, tn_lk, tn_kl, if_pos, if_neg, ↓reduceIte, and_self, and_true, true_and, FM, mf, x13]; with_reducible rfl)) | (with_reducible apply wm_t; focus (first | omega | (simp (disch := omega) only [wr_id, FM, mf, x13]; omega) | (simp (disch := omega) only [wr_id, FM, mf, x13]; done))) | (with_reducible apply wm_f; focus (first | omega | (simp (disch := omega) only [wr_id, FM, mf, x13]; omega) | (simp (disch := omega) only [wr_id, FM, mf, x13]; done)))))
  exact wm_r ⟨hX.1, hX.2.1, hX.2.2.1⟩
end SE
