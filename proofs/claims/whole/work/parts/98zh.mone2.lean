/-! ===== the model reads one tell, whole ===== -/
theorem nu_rd : ∀ j, nuT j → rdT j := by
  intro j h
  unfold nuT at h
  unfold rdT
  omega
theorem mk_l20 : ∀ k, k < 20 → mkK k < 20 := by decide +kernel
theorem mk_20 {k : Nat} (h : 20 ≤ k) : mkK k = k := by
  unfold mkK
  rw [if_neg (by omega), if_neg (by omega), if_neg (by omega), if_neg (by omega)]
theorem mfr_lm {sd b c : Nat} {X J : Nat → Nat → Int} (h1 : frM lxP lwT X J) (h2 : kpL c (420 * sd + 420) b (130 * sd + 130) X J) (hc : 420 * sd ≤ c) (hb : 130 * sd ≤ b) (h3 : ∀ j, ¬ (3 * sd ≤ j ∧ j < 3 * sd + 3) → J 387 j = X 387 j ∧ J 388 j = X 388 j) : mfr sd X J := by
  have e : ∀ a, a ≠ 369 → (a < 387 ∨ 395 < a) → a ≠ 397 → J a = X a := fun a a1 a2 a3 => h1.1 a a1 (by unfold lxP lwP; omega)
  refine ⟨fun a a1 a2 a3 => h1.1 a a1 (by unfold lxP lwP; omega), fun j c => h1.2 j (fun q => c (by unfold lwT at q; unfold rdT; omega)), ⟨fun p hp => h2.1 p (by omega), fun x hx => h2.2 x (by omega)⟩, fun j _ => ?_, fun j _ => ?_, fun j _ => ?_, h3⟩
  · rw [e 377 (by decide) (by decide) (by decide), e 378 (by decide) (by decide) (by decide), e 379 (by decide) (by decide) (by decide), e 382 (by decide) (by decide) (by decide), e 386 (by decide) (by decide) (by decide)]; exact ⟨rfl, rfl, rfl, rfl, rfl⟩
  · rw [e 380 (by decide) (by decide) (by decide), e 381 (by decide) (by decide) (by decide)]; exact ⟨rfl, rfl⟩
  · rw [e 383 (by decide) (by decide) (by decide), e 384 (by decide) (by decide) (by decide), e 385 (by decide) (by decide) (by decide)]; exact ⟨rfl, rfl, rfl⟩
section LC
variable {K : Nat → Nat} {V : Nat → Int}
theorem law_c {i : Nat} {R : ER LW} (hR : (bnd (tokR K 11 i) fun t1 _ => bnd (lwR K V 4 t1 []) fun t2 l => bnd (tokR K 10 t2) fun t3 _ => eok t3 l) = R) {α : Type} (g : LW → α) : (∀ t' l, R = eok t' l → (bnd (tokR K 11 i) fun t1 _ => bnd (lwR K V 4 t1 []) fun t2 l => bnd (tokR K 10 t2) fun t3 _ => eok t3 (g l)) = eok t' (g l)) ∧ ∀ c q, R = efl c q → (bnd (tokR K 11 i) fun t1 _ => bnd (lwR K V 4 t1 []) fun t2 l => bnd (tokR K 10 t2) fun t3 _ => eok t3 (g l)) = efl c q := by
  rcases er_cases (tokR K 11 i) with ⟨c, q, e⟩ | ⟨t1, u, e⟩
  · rw [e, bnd_fl] at hR
    rw [e, bnd_fl]
    refine ⟨fun t' l e' => ?_, fun c' q' e' => ?_⟩
    · rw [← hR] at e'; exact (eok_fl e'.symm).elim
    · rw [← hR] at e'; obtain ⟨rfl, rfl⟩ := efl_inj e'; rfl
  · rw [e, bnd_ok] at hR
    rw [e, bnd_ok]
    rcases er_cases (lwR K V 4 t1 []) with ⟨c, q, e2⟩ | ⟨t2, l2, e2⟩
    · rw [e2, bnd_fl] at hR
      rw [e2, bnd_fl]
      refine ⟨fun t' l e' => ?_, fun c' q' e' => ?_⟩
      · rw [← hR] at e'; exact (eok_fl e'.symm).elim
      · rw [← hR] at e'; obtain ⟨rfl, rfl⟩ := efl_inj e'; rfl
    · rw [e2, bnd_ok] at hR
      rw [e2, bnd_ok]
      rcases er_cases (tokR K 10 t2) with ⟨c, q, e3⟩ | ⟨t3, u3, e3⟩
      · rw [e3, bnd_fl] at hR
        rw [e3, bnd_fl]
        refine ⟨fun t' l e' => ?_, fun c' q' e' => ?_⟩
        · rw [← hR] at e'; exact (eok_fl e'.symm).elim
        · rw [← hR] at e'; obtain ⟨rfl, rfl⟩ := efl_inj e'; rfl
      · rw [e3, bnd_ok] at hR
        rw [e3, bnd_ok]
        refine ⟨fun t' l e' => ?_, fun c' q' e' => ?_⟩
        · rw [← hR] at e'; obtain ⟨rfl, rfl⟩ := eok_inj e'; rfl
        · rw [← hR] at e'; exact (eok_fl e').elim
end LC
section TO
variable {t d rt : Nat} {I : Nat → Nat → Int} {K : Nat → Nat} {V : Nat → Int} {ps : Nat → Nat} {i sd : Nat} {w h se : Int} {H : TH} {S : TS} {lw : Nat → LW} {wr : Option Nat}
theorem se_ok {R : ER (Option Nat)} {X : Nat → Nat → Int} {i' : Nat} {wr' : Option Nat} (e : R = eok i' wr') (h : stE K V ps R X) : rdM K V ps X i' ∧ wrM ps X i' wr' := by
  rcases h with ⟨a, b, e', h1, h2⟩ | ⟨c, q, e', h1⟩
  · rw [e] at e'; obtain ⟨rfl, rfl⟩ := eok_inj e'; exact ⟨h1, h2⟩
  · rw [e] at e'; exact (eok_fl e').elim
theorem se_fl {R : ER (Option Nat)} {X : Nat → Nat → Int} {c q : Nat} (e : R = efl c q) (h : stE K V ps R X) : fltM ps X c q := by
  rcases h with ⟨a, b, e', h1, h2⟩ | ⟨c', q', e', h1⟩
  · rw [e] at e'; exact (eok_fl e'.symm).elim
  · rw [e] at e'; obtain ⟨rfl, rfl⟩ := efl_inj e'; exact h1
theorem o_size (hk : ∀ i, kR (K i)) (hv : kvOK K V ps) (hm : ∀ a b, a ≤ b → ps a ≤ ps b) (hsd : sd ≤ 1) (hS : mtS K V ps sd I i w h se H S lw wr) (c20 : K i = 20) : wm t d rt (f_X12_tellOne 369 (mm t d rt I)) (fun _ J => mtQ K V ps sd I (tell1 K V i w h se H S lw wr) J) := by
  obtain ⟨b, c, hR, hw, hB, n1, n2, n3, n4⟩ := hS
  have hB' := hB
  obtain ⟨b1, b2, b3, b4, b5, b6, b7, b8, b9⟩ := hB
  have hR' := hR
  obtain ⟨a1, a2, a3, a4, a5⟩ := hR'
  have e3 : I 372 i = 20 := by rw [(a1 i a4 a5).1, c20]; rfl
  have n19 : ¬ nuT 19 := by unfold nuT; omega
  unfold f_X12_tellOne tell1
  rw [if_pos c20]
  (repeat (first | (with_reducible apply wm_o; focus (simp (disch := omega) only [wr_id, Int.toNat_natCast, Int.reduceToNat, tn_lk, tn_kl, if_pos, if_neg, ↓reduceIte, and_self, and_true, true_and, FM, a2, e3]; with_reducible rfl)) | (with_reducible apply wm_q) | (with_reducible apply wm_c; focus (first | assumption | decide +kernel)) | (with_reducible apply wm_d; focus (simp (disch := omega) only [wr_id, Int.toNat_natCast, Int.reduceToNat, tn_lk, tn_kl, if_pos, if_neg, ↓reduceIte, and_self, and_true, true_and, FM, a2, e3]; with_reducible rfl)) | (with_reducible apply wm_t; focus (first | omega | (simp (disch := omega) only [wr_id, FM, a2, e3]; omega) | (simp (disch := omega) only [wr_id, FM, a2, e3]; done))) | (with_reducible apply wm_f; focus (first | omega | (simp (disch := omega) only [wr_id, FM, a2, e3]; omega) | (simp (disch := omega) only [wr_id, FM, a2, e3]; done)))))
  refine wm_b (w_gE hR hw (by omega)) (fun _ X1 hX1 => ?_)
  obtain ⟨f1, s1⟩ := hX1
  have x19 : X1 369 19 = (sd : Int) := by rw [f1.2 19 n19]; exact b2
  (repeat (first | (with_reducible apply wm_o; focus (simp (disch := omega) only [wr_id, Int.toNat_natCast, Int.reduceToNat, tn_lk, tn_kl, if_pos, if_neg, ↓reduceIte, and_self, and_true, true_and, FM, x19]; with_reducible rfl)) | (with_reducible apply wm_q) | (with_reducible apply wm_c; focus (first | assumption | decide +kernel)) | (with_reducible apply wm_d; focus (simp (disch := omega) only [wr_id, Int.toNat_natCast, Int.reduceToNat, tn_lk, tn_kl, if_pos, if_neg, ↓reduceIte, and_self, and_true, true_and, FM, x19]; with_reducible rfl)) | (with_reducible apply wm_t; focus (first | omega | (simp (disch := omega) only [wr_id, FM, x19]; omega) | (simp (disch := omega) only [wr_id, FM, x19]; done))) | (with_reducible apply wm_f; focus (first | omega | (simp (disch := omega) only [wr_id, FM, x19]; omega) | (simp (disch := omega) only [wr_id, FM, x19]; done)))))
  refine wm_b (w_bE hk hv hm s1 (by decide) (by decide)) (fun v1 X2 hX2 => ?_)
  obtain ⟨f2, s2, v2⟩ := hX2
  have s2' := se_up (a := 377) (j := sd) (v := v1) (by decide) s2
  have y19 : up X2 377 sd v1 369 19 = (sd : Int) := by rw [up_ne (by decide), f2.2 19 n19]; exact x19
  (repeat (first | (with_reducible apply wm_o; focus (simp (disch := omega) only [wr_id, Int.toNat_natCast, Int.reduceToNat, tn_lk, tn_kl, if_pos, if_neg, ↓reduceIte, and_self, and_true, true_and, FM, y19]; with_reducible rfl)) | (with_reducible apply wm_q) | (with_reducible apply wm_c; focus (first | assumption | decide +kernel)) | (with_reducible apply wm_d; focus (simp (disch := omega) only [wr_id, Int.toNat_natCast, Int.reduceToNat, tn_lk, tn_kl, if_pos, if_neg, ↓reduceIte, and_self, and_true, true_and, FM, y19]; with_reducible rfl)) | (with_reducible apply wm_t; focus (first | omega | (simp (disch := omega) only [wr_id, FM, y19]; omega) | (simp (disch := omega) only [wr_id, FM, y19]; done))) | (with_reducible apply wm_f; focus (first | omega | (simp (disch := omega) only [wr_id, FM, y19]; omega) | (simp (disch := omega) only [wr_id, FM, y19]; done)))))
  refine wm_b (w_bE hk hv hm s2' (by decide) (by decide)) (fun v3 X3 hX3 => ?_)
  obtain ⟨f3, s3, v4⟩ := hX3
  have s3' := se_up (a := 378) (j := sd) (v := v3) (by decide) s3
  (repeat (first | (with_reducible apply wm_o; focus (simp (disch := omega) only [wr_id, Int.toNat_natCast, Int.reduceToNat, tn_lk, tn_kl, if_pos, if_neg, ↓reduceIte, and_self, and_true, true_and, FM]; with_reducible rfl)) | (with_reducible apply wm_q) | (with_reducible apply wm_c; focus (first | assumption | decide +kernel)) | (with_reducible apply wm_d; focus (simp (disch := omega) only [wr_id, Int.toNat_natCast, Int.reduceToNat, tn_lk, tn_kl, if_pos, if_neg, ↓reduceIte, and_self, and_true, true_and, FM]; with_reducible rfl)) | (with_reducible apply wm_t; focus (first | omega | (simp (disch := omega) only [wr_id, FM]; omega) | (simp (disch := omega) only [wr_id, FM]; done))) | (with_reducible apply wm_f; focus (first | omega | (simp (disch := omega) only [wr_id, FM]; omega) | (simp (disch := omega) only [wr_id, FM]; done)))))
  refine wm_b (w_mE hk s3') (fun _ X4 hX4 => ?_)
  obtain ⟨f4, s4⟩ := hX4
  have r2 : ∀ a, a ≠ 369 → X2 a = I a := fun a ha => (f2.1 a ha (fun q => q)).trans (f1.1 a ha (fun q => q))
  have r3 : ∀ a, a ≠ 369 → X3 a = up X2 377 sd v1 a := fun a ha => f3.1 a ha (fun q => q)
  have r4 : ∀ a, a ≠ 369 → X4 a = up X3 378 sd v3 a := fun a ha => f4.1 a ha (fun q => q)
  have M : mfr sd I X4 := mfr_trans (mfr_up (mfr_trans (mfr_up (mfr_trans (mfr_fr f1 nu_rd) (mfr_fr f2 nu_rd)) (Or.inl ⟨Or.inl rfl, rfl⟩)) (mfr_fr f3 nu_rd)) (Or.inl ⟨Or.inr (Or.inl rfl), rfl⟩)) (mfr_fr f4 nu_rd)
  refine wm_r ⟨M, ?_⟩
  unfold gR at s1 s2 s3 s4 v2 v4
  by_cases hi : i < 400
  · rw [if_pos hi] at s4 v2 v4 ⊢
    rcases two_c rfl with ⟨wr2, hg, hRok, _, w1, w2, q1, q2⟩ | ⟨cc, qq, hg, hRf⟩
    · have S4 := se_ok hRok s4
      have ev1 : v1 = V (i + 1) := v2 _ _ _ _ rfl q1
      have ev3 : v3 = V (i + 2) := v4 _ _ _ _ (by rw [bnd_ok]; exact q1) q2
      refine Or.inl ⟨i + 4, V (i + 1), V (i + 2), se, H, S, lw, wr2, hg (α := TX) (fun x => (V (i + 1), V (i + 2), se, H, S, lw, x)), b, c, S4.1, S4.2, mb_of hB' (fun j hj => ?_) (fun a h1 h2 => ?_) ?_ ?_ ?_ (hs_row (fun a h1 h2 => ?_) b8), n1, by omega, n3, by omega⟩
      · have nj : ¬ nuT j := by unfold nuT; omega
        rw [f4.2 j nj, up_ne (by decide), f3.2 j nj, up_ne (by decide), f2.2 j nj, f1.2 j nj]
      · rw [r4 a (by omega), up_ne (by omega), r3 a (by omega), up_ne (by omega), r2 a (by omega)]
      · rw [r4 377 (by decide), up_ne (by decide), r3 377 (by decide), up_s, ev1]
      · rw [r4 378 (by decide), up_s, ev3]
      · rw [r4 386 (by decide), up_ne (by decide), r3 386 (by decide), up_ne (by decide), r2 386 (by decide), b7]
      · rw [r4 a (by omega), up_ne (by omega), r3 a (by omega), up_ne (by omega), r2 a (by omega)]
    · exact Or.inr ⟨cc, qq, hg (α := TX) (fun x => (V (i + 1), V (i + 2), se, H, S, lw, x)), se_fl hRf s4⟩
  · rw [if_neg hi] at s4 ⊢
    exact Or.inr ⟨2, i, rfl, se_fl rfl s4⟩
theorem o_seed (hk : ∀ i, kR (K i)) (hv : kvOK K V ps) (hm : ∀ a b, a ≤ b → ps a ≤ ps b) (hsd : sd ≤ 1) (hS : mtS K V ps sd I i w h se H S lw wr) (c26 : K i = 26) : wm t d rt (f_X12_tellOne 369 (mm t d rt I)) (fun _ J => mtQ K V ps sd I (tell1 K V i w h se H S lw wr) J) := by
  obtain ⟨b, c, hR, hw, hB, n1, n2, n3, n4⟩ := hS
  have hB' := hB
  obtain ⟨b1, b2, b3, b4, b5, b6, b7, b8, b9⟩ := hB
  have hR' := hR
  obtain ⟨a1, a2, a3, a4, a5⟩ := hR'
  have e3 : I 372 i = 26 := by rw [(a1 i a4 a5).1, c26]; rfl
  have n19 : ¬ nuT 19 := by unfold nuT; omega
  unfold f_X12_tellOne tell1
  rw [if_neg (by omega), if_neg (by omega), if_neg (by omega), if_neg (by omega), if_pos c26]
  (repeat (first | (with_reducible apply wm_o; focus (simp (disch := omega) only [wr_id, Int.toNat_natCast, Int.reduceToNat, tn_lk, tn_kl, if_pos, if_neg, ↓reduceIte, and_self, and_true, true_and, FM, a2, e3]; with_reducible rfl)) | (with_reducible apply wm_q) | (with_reducible apply wm_c; focus (first | assumption | decide +kernel)) | (with_reducible apply wm_d; focus (simp (disch := omega) only [wr_id, Int.toNat_natCast, Int.reduceToNat, tn_lk, tn_kl, if_pos, if_neg, ↓reduceIte, and_self, and_true, true_and, FM, a2, e3]; with_reducible rfl)) | (with_reducible apply wm_t; focus (first | omega | (simp (disch := omega) only [wr_id, FM, a2, e3]; omega) | (simp (disch := omega) only [wr_id, FM, a2, e3]; done))) | (with_reducible apply wm_f; focus (first | omega | (simp (disch := omega) only [wr_id, FM, a2, e3]; omega) | (simp (disch := omega) only [wr_id, FM, a2, e3]; done)))))
  refine wm_b (w_gE hR hw (by omega)) (fun _ X1 hX1 => ?_)
  obtain ⟨f1, s1⟩ := hX1
  have x19 : X1 369 19 = (sd : Int) := by rw [f1.2 19 n19]; exact b2
  (repeat (first | (with_reducible apply wm_o; focus (simp (disch := omega) only [wr_id, Int.toNat_natCast, Int.reduceToNat, tn_lk, tn_kl, if_pos, if_neg, ↓reduceIte, and_self, and_true, true_and, FM, x19]; with_reducible rfl)) | (with_reducible apply wm_q) | (with_reducible apply wm_c; focus (first | assumption | decide +kernel)) | (with_reducible apply wm_d; focus (simp (disch := omega) only [wr_id, Int.toNat_natCast, Int.reduceToNat, tn_lk, tn_kl, if_pos, if_neg, ↓reduceIte, and_self, and_true, true_and, FM, x19]; with_reducible rfl)) | (with_reducible apply wm_t; focus (first | omega | (simp (disch := omega) only [wr_id, FM, x19]; omega) | (simp (disch := omega) only [wr_id, FM, x19]; done))) | (with_reducible apply wm_f; focus (first | omega | (simp (disch := omega) only [wr_id, FM, x19]; omega) | (simp (disch := omega) only [wr_id, FM, x19]; done)))))
  refine wm_b (w_bE hk hv hm s1 (by decide) (by decide)) (fun v1 X2 hX2 => ?_)
  obtain ⟨f2, s2, v2⟩ := hX2
  have s2' := se_up (a := 386) (j := sd) (v := v1) (by decide) s2
  (repeat (first | (with_reducible apply wm_o; focus (simp (disch := omega) only [wr_id, Int.toNat_natCast, Int.reduceToNat, tn_lk, tn_kl, if_pos, if_neg, ↓reduceIte, and_self, and_true, true_and, FM]; with_reducible rfl)) | (with_reducible apply wm_q) | (with_reducible apply wm_c; focus (first | assumption | decide +kernel)) | (with_reducible apply wm_d; focus (simp (disch := omega) only [wr_id, Int.toNat_natCast, Int.reduceToNat, tn_lk, tn_kl, if_pos, if_neg, ↓reduceIte, and_self, and_true, true_and, FM]; with_reducible rfl)) | (with_reducible apply wm_t; focus (first | omega | (simp (disch := omega) only [wr_id, FM]; omega) | (simp (disch := omega) only [wr_id, FM]; done))) | (with_reducible apply wm_f; focus (first | omega | (simp (disch := omega) only [wr_id, FM]; omega) | (simp (disch := omega) only [wr_id, FM]; done)))))
  refine wm_b (w_mE hk s2') (fun _ X4 hX4 => ?_)
  obtain ⟨f4, s4⟩ := hX4
  have r2 : ∀ a, a ≠ 369 → X2 a = I a := fun a ha => (f2.1 a ha (fun q => q)).trans (f1.1 a ha (fun q => q))
  have r4 : ∀ a, a ≠ 369 → X4 a = up X2 386 sd v1 a := fun a ha => f4.1 a ha (fun q => q)
  have M : mfr sd I X4 := mfr_trans (mfr_up (mfr_trans (mfr_fr f1 nu_rd) (mfr_fr f2 nu_rd)) (Or.inl ⟨by omega, rfl⟩)) (mfr_fr f4 nu_rd)
  refine wm_r ⟨M, ?_⟩
  unfold gR at s1 s2 s4 v2
  by_cases hi : i < 400
  · rw [if_pos hi] at s4 v2 ⊢
    rcases one_c rfl with ⟨wr2, hg, hRok, w1, q1⟩ | ⟨cc, qq, hg, hRf⟩
    · have S4 := se_ok hRok s4
      have ev1 : v1 = V (i + 1) := v2 _ _ _ _ rfl q1
      refine Or.inl ⟨i + 3, w, h, V (i + 1), H, S, lw, wr2, hg (α := TX) (fun x => (w, h, V (i + 1), H, S, lw, x)), b, c, S4.1, S4.2, mb_of hB' (fun j hj => ?_) (fun a h1 h2 => ?_) ?_ ?_ ?_ (hs_row (fun a h1 h2 => ?_) b8), n1, by omega, n3, by omega⟩
      · have nj : ¬ nuT j := by unfold nuT; omega
        rw [f4.2 j nj, up_ne (by decide), f2.2 j nj, f1.2 j nj]
      · rw [r4 a (by omega), up_ne (by omega), r2 a (by omega)]
      · rw [r4 377 (by decide), up_ne (by decide), r2 377 (by decide), b5]
      · rw [r4 378 (by decide), up_ne (by decide), r2 378 (by decide), b6]
      · rw [r4 386 (by decide), up_s, ev1]
      · rw [r4 a (by omega), up_ne (by omega), r2 a (by omega)]
    · exact Or.inr ⟨cc, qq, hg (α := TX) (fun x => (w, h, V (i + 1), H, S, lw, x)), se_fl hRf s4⟩
  · rw [if_neg hi] at s4 ⊢
    exact Or.inr ⟨2, i, rfl, se_fl rfl s4⟩
theorem o_hole (hk : ∀ i, kR (K i)) (hv : kvOK K V ps) (hm : ∀ a b, a ≤ b → ps a ≤ ps b) (hsd : sd ≤ 1) (hS : mtS K V ps sd I i w h se H S lw wr) (c21 : K i = 21) : wm t d rt (f_X12_tellOne 369 (mm t d rt I)) (fun _ J => mtQ K V ps sd I (tell1 K V i w h se H S lw wr) J) := by
  obtain ⟨b, c, hR, hw, hB, n1, n2, n3, n4⟩ := hS
  have hB' := hB
  obtain ⟨b1, b2, b3, b4, b5, b6, b7, b8, b9⟩ := hB
  have hR' := hR
  obtain ⟨a1, a2, a3, a4, a5⟩ := hR'
  have e3 : I 372 i = 21 := by rw [(a1 i a4 a5).1, c21]; rfl
  have n19 : ¬ nuT 19 := by unfold nuT; omega
  have h1 := b8.1
  have h3 := b8.2.2.1
  unfold f_X12_tellOne tell1
  rw [if_neg (by omega), if_pos c21]
  (repeat (first | (with_reducible apply wm_o; focus (simp (disch := omega) only [wr_id, Int.toNat_natCast, Int.reduceToNat, tn_lk, tn_kl, if_pos, if_neg, ↓reduceIte, and_self, and_true, true_and, FM, a2, e3, b2, h1]; with_reducible rfl)) | (with_reducible apply wm_q) | (with_reducible apply wm_c; focus (first | assumption | decide +kernel)) | (with_reducible apply wm_d; focus (simp (disch := omega) only [wr_id, Int.toNat_natCast, Int.reduceToNat, tn_lk, tn_kl, if_pos, if_neg, ↓reduceIte, and_self, and_true, true_and, FM, a2, e3, b2, h1]; with_reducible rfl)) | (with_reducible apply wm_t; focus (first | omega | (simp (disch := omega) only [wr_id, FM, a2, e3, b2, h1]; omega) | (simp (disch := omega) only [wr_id, FM, a2, e3, b2, h1]; done))) | (with_reducible apply wm_f; focus (first | omega | (simp (disch := omega) only [wr_id, FM, a2, e3, b2, h1]; omega) | (simp (disch := omega) only [wr_id, FM, a2, e3, b2, h1]; done)))))
  refine wm_b (w_roomFor hR (by omega) (a := H.1) (m := 12) rfl h3 (by decide)) (fun _ X1 hX1 => ?_)
  rcases hX1 with ⟨p1, p2, rfl, r1⟩ | ⟨p1, rfl, p3⟩
  rotate_left
  · have p13 : flI ps I 2 i 369 13 = 2 := p3.2.1
    (repeat (first | (with_reducible apply wm_o; focus (simp (disch := omega) only [wr_id, Int.toNat_natCast, Int.reduceToNat, tn_lk, tn_kl, if_pos, if_neg, ↓reduceIte, and_self, and_true, true_and, FM, p13]; with_reducible rfl)) | (with_reducible apply wm_q) | (with_reducible apply wm_c; focus (first | assumption | decide +kernel)) | (with_reducible apply wm_d; focus (simp (disch := omega) only [wr_id, Int.toNat_natCast, Int.reduceToNat, tn_lk, tn_kl, if_pos, if_neg, ↓reduceIte, and_self, and_true, true_and, FM, p13]; with_reducible rfl)) | (with_reducible apply wm_t; focus (first | omega | (simp (disch := omega) only [wr_id, FM, p13]; omega) | (simp (disch := omega) only [wr_id, FM, p13]; done))) | (with_reducible apply wm_f; focus (first | omega | (simp (disch := omega) only [wr_id, FM, p13]; omega) | (simp (disch := omega) only [wr_id, FM, p13]; done)))))
    rw [if_neg p1]
    exact wm_r ⟨mfr_fr (flI_frm (T := nuT) (by unfold nuT; omega) (by unfold nuT; omega)) nu_rd, Or.inr ⟨2, i, rfl, p3⟩⟩
  rw [if_pos ⟨p1, p2⟩]
  have f1 : frM (fun _ => False) nuT I (up I 369 11 ((i : Int) + 1)) := frM_fd (frM_refl _ _ _) (Or.inl rfl)
  have s1 : stE K V ps (eok (i + 1) wr) (up I 369 11 ((i : Int) + 1)) := Or.inl ⟨_, _, rfl, r1, wrM_fr (up_n (Or.inr (by decide))) (up_n (Or.inr (by decide))) (Nat.le_succ _) hw⟩
  generalize up I 369 11 ((i : Int) + 1) = X1 at r1 f1 s1 ⊢
  have x13 := r1.2.2.1
  have x19 : X1 369 19 = (sd : Int) := by rw [f1.2 19 n19]; exact b2
  have x379 : X1 379 sd = (H.1 : Int) := by rw [f1.1 379 (by decide) (fun q => q)]; exact h1
  (repeat (first | (with_reducible apply wm_o; focus (simp (disch := omega) only [wr_id, Int.toNat_natCast, Int.reduceToNat, tn_lk, tn_kl, if_pos, if_neg, ↓reduceIte, and_self, and_true, true_and, FM, x13, x19, x379]; with_reducible rfl)) | (with_reducible apply wm_q) | (with_reducible apply wm_c; focus (first | assumption | decide +kernel)) | (with_reducible apply wm_d; focus (simp (disch := omega) only [wr_id, Int.toNat_natCast, Int.reduceToNat, tn_lk, tn_kl, if_pos, if_neg, ↓reduceIte, and_self, and_true, true_and, FM, x13, x19, x379]; with_reducible rfl)) | (with_reducible apply wm_t; focus (first | omega | (simp (disch := omega) only [wr_id, FM, x13, x19, x379]; omega) | (simp (disch := omega) only [wr_id, FM, x13, x19, x379]; done))) | (with_reducible apply wm_f; focus (first | omega | (simp (disch := omega) only [wr_id, FM, x13, x19, x379]; omega) | (simp (disch := omega) only [wr_id, FM, x13, x19, x379]; done)))))
  refine wm_b (w_bE hk hv hm s1 (by decide) (by decide)) (fun v1 X2 hX2 => ?_)
  obtain ⟨f2, s2, v2⟩ := hX2
  have s2' := se_up (a := 380) (j := 12 * sd + H.1) (v := v1) (by decide) s2
  have ee : 12 * (sd : Int) + (H.1 : Int) = ((12 * sd + H.1 : Nat) : Int) := by omega
  (repeat (first | (with_reducible apply wm_o; focus (simp (disch := omega) only [wr_id, Int.toNat_natCast, Int.reduceToNat, tn_lk, tn_kl, if_pos, if_neg, ↓reduceIte, and_self, and_true, true_and, FM, ee]; with_reducible rfl)) | (with_reducible apply wm_q) | (with_reducible apply wm_c; focus (first | assumption | decide +kernel)) | (with_reducible apply wm_d; focus (simp (disch := omega) only [wr_id, Int.toNat_natCast, Int.reduceToNat, tn_lk, tn_kl, if_pos, if_neg, ↓reduceIte, and_self, and_true, true_and, FM, ee]; with_reducible rfl)) | (with_reducible apply wm_t; focus (first | omega | (simp (disch := omega) only [wr_id, FM, ee]; omega) | (simp (disch := omega) only [wr_id, FM, ee]; done))) | (with_reducible apply wm_f; focus (first | omega | (simp (disch := omega) only [wr_id, FM, ee]; omega) | (simp (disch := omega) only [wr_id, FM, ee]; done)))))
  refine wm_b (w_bE hk hv hm s2' (by decide) (by decide)) (fun v3 X3 hX3 => ?_)
  obtain ⟨f3, s3, v4⟩ := hX3
  have s3' := se_up (a := 381) (j := 12 * sd + H.1) (v := v3) (by decide) s3
  (repeat (first | (with_reducible apply wm_o; focus (simp (disch := omega) only [wr_id, Int.toNat_natCast, Int.reduceToNat, tn_lk, tn_kl, if_pos, if_neg, ↓reduceIte, and_self, and_true, true_and, FM, ee]; with_reducible rfl)) | (with_reducible apply wm_q) | (with_reducible apply wm_c; focus (first | assumption | decide +kernel)) | (with_reducible apply wm_d; focus (simp (disch := omega) only [wr_id, Int.toNat_natCast, Int.reduceToNat, tn_lk, tn_kl, if_pos, if_neg, ↓reduceIte, and_self, and_true, true_and, FM, ee]; with_reducible rfl)) | (with_reducible apply wm_t; focus (first | omega | (simp (disch := omega) only [wr_id, FM, ee]; omega) | (simp (disch := omega) only [wr_id, FM, ee]; done))) | (with_reducible apply wm_f; focus (first | omega | (simp (disch := omega) only [wr_id, FM, ee]; omega) | (simp (disch := omega) only [wr_id, FM, ee]; done)))))
  refine wm_b (w_mE hk s3') (fun _ X4 hX4 => ?_)
  obtain ⟨f4, s4⟩ := hX4
  have r2 : ∀ a, a ≠ 369 → X2 a = I a := fun a ha => (f2.1 a ha (fun q => q)).trans (f1.1 a ha (fun q => q))
  have r3 : ∀ a, a ≠ 369 → X3 a = up X2 380 (12 * sd + H.1) v1 a := fun a ha => f3.1 a ha (fun q => q)
  have r4 : ∀ a, a ≠ 369 → X4 a = up X3 381 (12 * sd + H.1) v3 a := fun a ha => f4.1 a ha (fun q => q)
  have y19 : X4 369 19 = (sd : Int) := by rw [f4.2 19 n19, up_ne (by decide), f3.2 19 n19, up_ne (by decide), f2.2 19 n19]; exact x19
  have y379 : X4 379 sd = (H.1 : Int) := by rw [r4 379 (by decide), up_ne (by decide), r3 379 (by decide), up_ne (by decide), r2 379 (by decide)]; exact h1
  (repeat (first | (with_reducible apply wm_o; focus (simp (disch := omega) only [wr_id, Int.toNat_natCast, Int.reduceToNat, tn_lk, tn_kl, if_pos, if_neg, ↓reduceIte, and_self, and_true, true_and, FM, y19, y379]; with_reducible rfl)) | (with_reducible apply wm_q) | (with_reducible apply wm_c; focus (first | assumption | decide +kernel)) | (with_reducible apply wm_d; focus (simp (disch := omega) only [wr_id, Int.toNat_natCast, Int.reduceToNat, tn_lk, tn_kl, if_pos, if_neg, ↓reduceIte, and_self, and_true, true_and, FM, y19, y379]; with_reducible rfl)) | (with_reducible apply wm_t; focus (first | omega | (simp (disch := omega) only [wr_id, FM, y19, y379]; omega) | (simp (disch := omega) only [wr_id, FM, y19, y379]; done))) | (with_reducible apply wm_f; focus (first | omega | (simp (disch := omega) only [wr_id, FM, y19, y379]; omega) | (simp (disch := omega) only [wr_id, FM, y19, y379]; done)))))
  have own : ∀ a, a = 380 ∨ a = 381 → ownS sd a (12 * sd + H.1) := fun a ha => Or.inr (Or.inl ⟨ha, by omega, by omega⟩)
  have M : mfr sd I (up X4 379 sd ((H.1 : Int) + 1)) := mfr_up (mfr_trans (mfr_up (mfr_trans (mfr_up (mfr_trans (mfr_fr f1 nu_rd) (mfr_fr f2 nu_rd)) (own 380 (Or.inl rfl))) (mfr_fr f3 nu_rd)) (own 381 (Or.inr rfl))) (mfr_fr f4 nu_rd)) (Or.inl ⟨by omega, rfl⟩)
  have s5 := se_up (a := 379) (j := sd) (v := (H.1 : Int) + 1) (by decide) s4
  refine wm_r ⟨M, ?_⟩
  rcases two_c rfl with ⟨wr2, hg, hRok, _, w1, w2, q1, q2⟩ | ⟨cc, qq, hg, hRf⟩
  · have S4 := se_ok hRok s5
    have ev1 : v1 = V (i + 1) := v2 _ _ _ _ rfl q1
    have ev3 : v3 = V (i + 2) := v4 _ _ _ _ (by rw [bnd_ok]; exact q1) q2
    refine Or.inl ⟨i + 4, w, h, se, _, S, lw, wr2, hg (α := TX) (fun x => (w, h, se, (H.1 + 1, rSet H.2.1 H.1 (V (i + 1)), rSet H.2.2 H.1 (V (i + 2))), S, lw, x)), b, c, S4.1, S4.2, mb_of hB' (fun j hj => ?_) (fun a h1 h2 => ?_) ?_ ?_ ?_ (hs_hole b8 p1 (up_s _ _ _ _) ?_ ?_ (fun a h1 h2 => ?_)), n1, by omega, n3, by omega⟩
    · have nj : ¬ nuT j := by unfold nuT; omega
      rw [up_ne (by decide), f4.2 j nj, up_ne (by decide), f3.2 j nj, up_ne (by decide), f2.2 j nj, f1.2 j nj]
    · rw [up_ne (by omega), r4 a (by omega), up_ne (by omega), r3 a (by omega), up_ne (by omega), r2 a (by omega)]
    · rw [up_ne (by decide), r4 377 (by decide), up_ne (by decide), r3 377 (by decide), up_ne (by decide), r2 377 (by decide), b5]
    · rw [up_ne (by decide), r4 378 (by decide), up_ne (by decide), r3 378 (by decide), up_ne (by decide), r2 378 (by decide), b6]
    · rw [up_ne (by decide), r4 386 (by decide), up_ne (by decide), r3 386 (by decide), up_ne (by decide), r2 386 (by decide), b7]
    · rw [up_ne (by decide), r4 380 (by decide), up_ne (by decide), r3 380 (by decide), up_row, r2 380 (by decide), ev1]
    · rw [up_ne (by decide), r4 381 (by decide), up_row, r3 381 (by decide), up_ne (by decide), r2 381 (by decide), ev3]
    · rw [up_ne (by omega), r4 a (by omega), up_ne (by omega), r3 a (by omega), up_ne (by omega), r2 a (by omega)]
  · exact Or.inr ⟨cc, qq, hg (α := TX) (fun x => (w, h, se, (H.1 + 1, rSet H.2.1 H.1 (V (i + 1)), rSet H.2.2 H.1 (V (i + 2))), S, lw, x)), se_fl hRf s5⟩
theorem o_stone (hk : ∀ i, kR (K i)) (hv : kvOK K V ps) (hm : ∀ a b, a ≤ b → ps a ≤ ps b) (hsd : sd ≤ 1) (hS : mtS K V ps sd I i w h se H S lw wr) (c22 : K i = 22) : wm t d rt (f_X12_tellOne 369 (mm t d rt I)) (fun _ J => mtQ K V ps sd I (tell1 K V i w h se H S lw wr) J) := by
  obtain ⟨b, c, hR, hw, hB, n1, n2, n3, n4⟩ := hS
  have hB' := hB
  obtain ⟨b1, b2, b3, b4, b5, b6, b7, b8, b9⟩ := hB
  have hR' := hR
  obtain ⟨a1, a2, a3, a4, a5⟩ := hR'
  have e3 : I 372 i = 22 := by rw [(a1 i a4 a5).1, c22]; rfl
  have n19 : ¬ nuT 19 := by unfold nuT; omega
  have h1 := b8.2.1
  have h3 := b8.2.2.2.1
  unfold f_X12_tellOne tell1
  rw [if_neg (by omega), if_neg (by omega), if_pos c22]
  (repeat (first | (with_reducible apply wm_o; focus (simp (disch := omega) only [wr_id, Int.toNat_natCast, Int.reduceToNat, tn_lk, tn_kl, if_pos, if_neg, ↓reduceIte, and_self, and_true, true_and, FM, a2, e3, b2, h1]; with_reducible rfl)) | (with_reducible apply wm_q) | (with_reducible apply wm_c; focus (first | assumption | decide +kernel)) | (with_reducible apply wm_d; focus (simp (disch := omega) only [wr_id, Int.toNat_natCast, Int.reduceToNat, tn_lk, tn_kl, if_pos, if_neg, ↓reduceIte, and_self, and_true, true_and, FM, a2, e3, b2, h1]; with_reducible rfl)) | (with_reducible apply wm_t; focus (first | omega | (simp (disch := omega) only [wr_id, FM, a2, e3, b2, h1]; omega) | (simp (disch := omega) only [wr_id, FM, a2, e3, b2, h1]; done))) | (with_reducible apply wm_f; focus (first | omega | (simp (disch := omega) only [wr_id, FM, a2, e3, b2, h1]; omega) | (simp (disch := omega) only [wr_id, FM, a2, e3, b2, h1]; done)))))
  refine wm_b (w_roomFor hR (by omega) (a := S.1) (m := 18) rfl h3 (by decide)) (fun _ X1 hX1 => ?_)
  rcases hX1 with ⟨p1, p2, rfl, r1⟩ | ⟨p1, rfl, p3⟩
  rotate_left
  · have p13 : flI ps I 2 i 369 13 = 2 := p3.2.1
    (repeat (first | (with_reducible apply wm_o; focus (simp (disch := omega) only [wr_id, Int.toNat_natCast, Int.reduceToNat, tn_lk, tn_kl, if_pos, if_neg, ↓reduceIte, and_self, and_true, true_and, FM, p13]; with_reducible rfl)) | (with_reducible apply wm_q) | (with_reducible apply wm_c; focus (first | assumption | decide +kernel)) | (with_reducible apply wm_d; focus (simp (disch := omega) only [wr_id, Int.toNat_natCast, Int.reduceToNat, tn_lk, tn_kl, if_pos, if_neg, ↓reduceIte, and_self, and_true, true_and, FM, p13]; with_reducible rfl)) | (with_reducible apply wm_t; focus (first | omega | (simp (disch := omega) only [wr_id, FM, p13]; omega) | (simp (disch := omega) only [wr_id, FM, p13]; done))) | (with_reducible apply wm_f; focus (first | omega | (simp (disch := omega) only [wr_id, FM, p13]; omega) | (simp (disch := omega) only [wr_id, FM, p13]; done)))))
    rw [if_neg p1]
    exact wm_r ⟨mfr_fr (flI_frm (T := nuT) (by unfold nuT; omega) (by unfold nuT; omega)) nu_rd, Or.inr ⟨2, i, rfl, p3⟩⟩
  rw [if_pos ⟨p1, p2⟩]
  have f1 : frM (fun _ => False) nuT I (up I 369 11 ((i : Int) + 1)) := frM_fd (frM_refl _ _ _) (Or.inl rfl)
  have s1 : stE K V ps (eok (i + 1) wr) (up I 369 11 ((i : Int) + 1)) := Or.inl ⟨_, _, rfl, r1, wrM_fr (up_n (Or.inr (by decide))) (up_n (Or.inr (by decide))) (Nat.le_succ _) hw⟩
  generalize up I 369 11 ((i : Int) + 1) = X1 at r1 f1 s1 ⊢
  have x13 := r1.2.2.1
  have x19 : X1 369 19 = (sd : Int) := by rw [f1.2 19 n19]; exact b2
  have x382 : X1 382 sd = (S.1 : Int) := by rw [f1.1 382 (by decide) (fun q => q)]; exact h1
  (repeat (first | (with_reducible apply wm_o; focus (simp (disch := omega) only [wr_id, Int.toNat_natCast, Int.reduceToNat, tn_lk, tn_kl, if_pos, if_neg, ↓reduceIte, and_self, and_true, true_and, FM, x13, x19, x382]; with_reducible rfl)) | (with_reducible apply wm_q) | (with_reducible apply wm_c; focus (first | assumption | decide +kernel)) | (with_reducible apply wm_d; focus (simp (disch := omega) only [wr_id, Int.toNat_natCast, Int.reduceToNat, tn_lk, tn_kl, if_pos, if_neg, ↓reduceIte, and_self, and_true, true_and, FM, x13, x19, x382]; with_reducible rfl)) | (with_reducible apply wm_t; focus (first | omega | (simp (disch := omega) only [wr_id, FM, x13, x19, x382]; omega) | (simp (disch := omega) only [wr_id, FM, x13, x19, x382]; done))) | (with_reducible apply wm_f; focus (first | omega | (simp (disch := omega) only [wr_id, FM, x13, x19, x382]; omega) | (simp (disch := omega) only [wr_id, FM, x13, x19, x382]; done)))))
  refine wm_b (w_bE hk hv hm s1 (by decide) (by decide)) (fun v1 X2 hX2 => ?_)
  obtain ⟨f2, s2, v2⟩ := hX2
  have s2' := se_up (a := 383) (j := 18 * sd + S.1) (v := v1) (by decide) s2
  have ee : 18 * (sd : Int) + (S.1 : Int) = ((18 * sd + S.1 : Nat) : Int) := by omega
  (repeat (first | (with_reducible apply wm_o; focus (simp (disch := omega) only [wr_id, Int.toNat_natCast, Int.reduceToNat, tn_lk, tn_kl, if_pos, if_neg, ↓reduceIte, and_self, and_true, true_and, FM, ee]; with_reducible rfl)) | (with_reducible apply wm_q) | (with_reducible apply wm_c; focus (first | assumption | decide +kernel)) | (with_reducible apply wm_d; focus (simp (disch := omega) only [wr_id, Int.toNat_natCast, Int.reduceToNat, tn_lk, tn_kl, if_pos, if_neg, ↓reduceIte, and_self, and_true, true_and, FM, ee]; with_reducible rfl)) | (with_reducible apply wm_t; focus (first | omega | (simp (disch := omega) only [wr_id, FM, ee]; omega) | (simp (disch := omega) only [wr_id, FM, ee]; done))) | (with_reducible apply wm_f; focus (first | omega | (simp (disch := omega) only [wr_id, FM, ee]; omega) | (simp (disch := omega) only [wr_id, FM, ee]; done)))))
  refine wm_b (w_bE hk hv hm s2' (by decide) (by decide)) (fun v3 X3 hX3 => ?_)
  obtain ⟨f3, s3, v4⟩ := hX3
  have s3' := se_up (a := 384) (j := 18 * sd + S.1) (v := v3) (by decide) s3
  (repeat (first | (with_reducible apply wm_o; focus (simp (disch := omega) only [wr_id, Int.toNat_natCast, Int.reduceToNat, tn_lk, tn_kl, if_pos, if_neg, ↓reduceIte, and_self, and_true, true_and, FM, ee]; with_reducible rfl)) | (with_reducible apply wm_q) | (with_reducible apply wm_c; focus (first | assumption | decide +kernel)) | (with_reducible apply wm_d; focus (simp (disch := omega) only [wr_id, Int.toNat_natCast, Int.reduceToNat, tn_lk, tn_kl, if_pos, if_neg, ↓reduceIte, and_self, and_true, true_and, FM, ee]; with_reducible rfl)) | (with_reducible apply wm_t; focus (first | omega | (simp (disch := omega) only [wr_id, FM, ee]; omega) | (simp (disch := omega) only [wr_id, FM, ee]; done))) | (with_reducible apply wm_f; focus (first | omega | (simp (disch := omega) only [wr_id, FM, ee]; omega) | (simp (disch := omega) only [wr_id, FM, ee]; done)))))
  refine wm_b (w_bE hk hv hm s3' (by decide) (by decide)) (fun v5 X5 hX5 => ?_)
  obtain ⟨f5, s5, v6⟩ := hX5
  have s5' := se_up (a := 385) (j := 18 * sd + S.1) (v := v5) (by decide) s5
  (repeat (first | (with_reducible apply wm_o; focus (simp (disch := omega) only [wr_id, Int.toNat_natCast, Int.reduceToNat, tn_lk, tn_kl, if_pos, if_neg, ↓reduceIte, and_self, and_true, true_and, FM, ee]; with_reducible rfl)) | (with_reducible apply wm_q) | (with_reducible apply wm_c; focus (first | assumption | decide +kernel)) | (with_reducible apply wm_d; focus (simp (disch := omega) only [wr_id, Int.toNat_natCast, Int.reduceToNat, tn_lk, tn_kl, if_pos, if_neg, ↓reduceIte, and_self, and_true, true_and, FM, ee]; with_reducible rfl)) | (with_reducible apply wm_t; focus (first | omega | (simp (disch := omega) only [wr_id, FM, ee]; omega) | (simp (disch := omega) only [wr_id, FM, ee]; done))) | (with_reducible apply wm_f; focus (first | omega | (simp (disch := omega) only [wr_id, FM, ee]; omega) | (simp (disch := omega) only [wr_id, FM, ee]; done)))))
  refine wm_b (w_mE hk s5') (fun _ X4 hX4 => ?_)
  obtain ⟨f4, s4⟩ := hX4
  have r2 : ∀ a, a ≠ 369 → X2 a = I a := fun a ha => (f2.1 a ha (fun q => q)).trans (f1.1 a ha (fun q => q))
  have r3 : ∀ a, a ≠ 369 → X3 a = up X2 383 (18 * sd + S.1) v1 a := fun a ha => f3.1 a ha (fun q => q)
  have r5 : ∀ a, a ≠ 369 → X5 a = up X3 384 (18 * sd + S.1) v3 a := fun a ha => f5.1 a ha (fun q => q)
  have r4 : ∀ a, a ≠ 369 → X4 a = up X5 385 (18 * sd + S.1) v5 a := fun a ha => f4.1 a ha (fun q => q)
  have fd : ∀ j, ¬ nuT j → X4 369 j = I 369 j := fun j nj => by rw [f4.2 j nj, up_ne (by decide), f5.2 j nj, up_ne (by decide), f3.2 j nj, up_ne (by decide), f2.2 j nj, f1.2 j nj]
  have rw' : ∀ a, a ≠ 369 → a ≠ 383 → a ≠ 384 → a ≠ 385 → X4 a = I a := fun a h1 h2 h3 h4 => by rw [r4 a h1, up_ne h4, r5 a h1, up_ne h3, r3 a h1, up_ne h2, r2 a h1]
  have y19 : X4 369 19 = (sd : Int) := by rw [fd 19 n19]; exact b2
  have y382 : X4 382 sd = (S.1 : Int) := by rw [rw' 382 (by decide) (by decide) (by decide) (by decide)]; exact h1
  (repeat (first | (with_reducible apply wm_o; focus (simp (disch := omega) only [wr_id, Int.toNat_natCast, Int.reduceToNat, tn_lk, tn_kl, if_pos, if_neg, ↓reduceIte, and_self, and_true, true_and, FM, y19, y382]; with_reducible rfl)) | (with_reducible apply wm_q) | (with_reducible apply wm_c; focus (first | assumption | decide +kernel)) | (with_reducible apply wm_d; focus (simp (disch := omega) only [wr_id, Int.toNat_natCast, Int.reduceToNat, tn_lk, tn_kl, if_pos, if_neg, ↓reduceIte, and_self, and_true, true_and, FM, y19, y382]; with_reducible rfl)) | (with_reducible apply wm_t; focus (first | omega | (simp (disch := omega) only [wr_id, FM, y19, y382]; omega) | (simp (disch := omega) only [wr_id, FM, y19, y382]; done))) | (with_reducible apply wm_f; focus (first | omega | (simp (disch := omega) only [wr_id, FM, y19, y382]; omega) | (simp (disch := omega) only [wr_id, FM, y19, y382]; done)))))
  have own : ∀ a, a = 383 ∨ a = 384 ∨ a = 385 → ownS sd a (18 * sd + S.1) := fun a ha => Or.inr (Or.inr ⟨ha, by omega, by omega⟩)
  have M : mfr sd I (up X4 382 sd ((S.1 : Int) + 1)) := mfr_up (mfr_trans (mfr_up (mfr_trans (mfr_up (mfr_trans (mfr_up (mfr_trans (mfr_fr f1 nu_rd) (mfr_fr f2 nu_rd)) (own 383 (Or.inl rfl))) (mfr_fr f3 nu_rd)) (own 384 (Or.inr (Or.inl rfl)))) (mfr_fr f5 nu_rd)) (own 385 (Or.inr (Or.inr rfl)))) (mfr_fr f4 nu_rd)) (Or.inl ⟨by omega, rfl⟩)
  have s6 := se_up (a := 382) (j := sd) (v := (S.1 : Int) + 1) (by decide) s4
  refine wm_r ⟨M, ?_⟩
  rcases three_c rfl with ⟨wr3, hg, hRok, w1, w2, w3, q1, q2, q3⟩ | ⟨cc, qq, hg, hRf⟩
  · have S4 := se_ok hRok s6
    have ev1 : v1 = V (i + 1) := v2 _ _ _ _ rfl q1
    have ev3 : v3 = V (i + 2) := v4 _ _ _ _ (by rw [bnd_ok]; exact q1) q2
    have ev5 : v5 = V (i + 3) := v6 _ _ _ _ (by rw [bnd_ok, q1, bnd_ok]; exact q2) q3
    refine Or.inl ⟨i + 5, w, h, se, H, _, lw, wr3, hg (α := TX) (fun x => (w, h, se, H, (S.1 + 1, rSet S.2.1 S.1 (V (i + 1)), rSet S.2.2.1 S.1 (V (i + 2)), rSet S.2.2.2 S.1 (V (i + 3))), lw, x)), b, c, S4.1, S4.2, mb_of hB' (fun j hj => ?_) (fun a h1 h2 => ?_) ?_ ?_ ?_ (hs_stone b8 p1 (up_s _ _ _ _) ?_ ?_ ?_ (fun a h1 h2 => ?_)), n1, by omega, n3, by omega⟩
    · rw [up_ne (by decide)]; exact fd j (by unfold nuT; omega)
    · rw [up_ne (by omega)]; exact rw' a (by omega) (by omega) (by omega) (by omega)
    · rw [up_ne (by decide), rw' 377 (by decide) (by decide) (by decide) (by decide), b5]
    · rw [up_ne (by decide), rw' 378 (by decide) (by decide) (by decide) (by decide), b6]
    · rw [up_ne (by decide), rw' 386 (by decide) (by decide) (by decide) (by decide), b7]
    · rw [up_ne (by decide), r4 383 (by decide), up_ne (by decide), r5 383 (by decide), up_ne (by decide), r3 383 (by decide), up_row, r2 383 (by decide), ev1]
    · rw [up_ne (by decide), r4 384 (by decide), up_ne (by decide), r5 384 (by decide), up_row, r3 384 (by decide), up_ne (by decide), r2 384 (by decide), ev3]
    · rw [up_ne (by decide), r4 385 (by decide), up_row, r5 385 (by decide), up_ne (by decide), r3 385 (by decide), up_ne (by decide), r2 385 (by decide), ev5]
    · rw [up_ne (by omega)]; exact rw' a (by omega) (by omega) (by omega) (by omega)
  · exact Or.inr ⟨cc, qq, hg (α := TX) (fun x => (w, h, se, H, (S.1 + 1, rSet S.2.1 S.1 (V (i + 1)), rSet S.2.2.1 S.1 (V (i + 2)), rSet S.2.2.2 S.1 (V (i + 3))), lw, x)), se_fl hRf s6⟩
theorem o_law (hk : ∀ i, kR (K i)) (hsd : sd ≤ 1) (hS : mtS K V ps sd I i w h se H S lw wr) {q : Nat} (hq : q < 3) (cq : K i = 23 + q) {z : Int} (hz : z = (q : Int)) : wm t d rt (jbd (f_X12_goesOn 369 (mm t d rt I)) fun _ M9 => jcall 12 M9 369 (f_X12_tellLaw 369 z M9) fun _ M11 => some (0, M11)) (fun _ J => mtQ K V ps sd I (tell1 K V i w h se H S lw wr) J) := by
  have st := sn_tell (K := K) (V := V) i w h se H S lw wr
  obtain ⟨b, c, hR, hw, hB, n1, n2, n3, n4⟩ := hS
  obtain ⟨b1, b2, b3, b4, b5, b6, b7, b8, b9⟩ := hB
  have l4 := hR.2.2.2.1
  have et : tell1 K V i w h se H S lw wr = if i < 400 then bnd (tokR K 11 (i + 1)) fun t1 _ => bnd (lwR K V 4 t1 []) fun t2 l => bnd (tokR K 10 t2) fun t3 _ => eok t3 (w, h, se, H, S, (fun x => if x = K i - 23 then l else lw x), wr) else efl 2 i := by
    unfold tell1
    rw [if_neg (by omega), if_neg (by omega), if_neg (by omega), if_pos (by omega)]
  rw [et] at st ⊢
  have eq' : K i - 23 = q := by omega
  rw [eq'] at st ⊢
  rw [hz]
  refine wm_b (w_goesOn hR (by omega)) (fun _ X hX => ?_)
  rcases hX with ⟨_, ⟨p1, rfl, p2⟩ | ⟨p1, rfl, p2⟩⟩
  · rw [if_pos p1] at st ⊢
    have f1 : frM (fun _ => False) nuT I (up I 369 11 ((i : Int) + 1)) := frM_fd (frM_refl _ _ _) (Or.inl rfl)
    have xg : ∀ j, j ≠ 11 → up I 369 11 ((i : Int) + 1) 369 j = I 369 j := fun j hj => up_n (Or.inr hj)
    generalize up I 369 11 ((i : Int) + 1) = X at p2 f1 xg ⊢
    have x : ∀ j, ¬ nuT j → X 369 j = I 369 j := fun j nj => f1.2 j nj
    refine wm_c (by decide +kernel) (wm_b (w_tellLaw hk p2 (by rw [x 12 (by unfold nuT; omega)]; exact b1) hsd hq (by rw [x 19 (by unfold nuT; omega)]; exact b2) (by rw [x 32 (by unfold nuT; omega)]; exact b3) (by rw [x 38 (by unfold nuT; omega)]; exact b4) (by omega) n1 (by omega) n3) (fun _ J hJ => ?_))
    obtain ⟨g1, g2, g3⟩ := hJ
    have xr : ∀ a, a ≠ 369 → X a = I a := fun a ha => f1.1 a ha (fun q => q)
    have lc := law_c (K := K) (V := V) (i := i + 1) rfl (fun l => ((w, h, se, H, S, (fun x => if x = q then l else lw x), wr) : TX))
    rcases g3 with ⟨t', l, b', c', k1, k2, k3, k4, k5, k6, k7, k8, k9, k10, k11, k12, k13, k14⟩ | ⟨cc, qq, k1, k2, k3, k4⟩
    · have et2 := lc.1 t' l k1
      have le := st.2 t' _ et2
      have jr : ∀ a, a ≠ 369 → a < 387 → J a = I a := fun a a1 a2 => (g1.1 a a1 (by unfold lxP lwP; omega)).trans (xr a a1)
      refine wm_r ⟨mfr_trans (mfr_fr f1 nu_rd) (mfr_lm g1 g2 n3 n1 (fun j hj => ?_)), Or.inl ⟨t', w, h, se, H, S, _, wr, et2, b', c', k2, wrM_fr ?_ ?_ (by omega) hw, ⟨k3, ?_, k4, k5, ?_, ?_, ?_, hs_row (fun a a1 a2 => jr a (by omega) (by omega)) b8, fun x hx => ?_⟩, by omega, by omega, by omega, by omega⟩⟩
      · rw [k10, k11]
        unfold rSet
        rw [if_neg (by omega), if_neg (by omega)]; exact ⟨rfl, rfl⟩
      · rw [g1.2 15 (by unfold lwT; omega)]; exact xg 15 (by decide)
      · rw [g1.2 16 (by unfold lwT; omega)]; exact xg 16 (by decide)
      · rw [g1.2 19 (by unfold lwT; omega), x 19 (by unfold nuT; omega)]; exact b2
      · rw [jr 377 (by decide) (by decide)]; exact b5
      · rw [jr 378 (by decide) (by decide)]; exact b6
      · rw [jr 386 (by decide) (by decide)]; exact b7
      · by_cases ex : x = q
        · have e1 : (fun x => if x = q then l else lw x) x = l := if_pos ex
          rw [e1, ex]
          refine ⟨k13, Or.inr ⟨b, b', by rw [k10]; exact if_pos rfl, by rw [k11]; exact if_pos rfl, n1, Nat.le_refl _, k12, k14⟩⟩
        · have e1 : (fun x => if x = q then l else lw x) x = lw x := if_neg ex
          rw [e1]
          refine lws_kp g2 ?_ ?_ (Nat.le_of_lt k6) k8 (lws_kp (hi := 0) (bh := 0) (kpL_row (fun a a1 a2 => xr a (by omega))) (by rw [xr 387 (by decide)]) (by rw [xr 388 (by decide)]) (Nat.le_refl _) (Nat.le_refl _) (b9 x hx))
          · rw [k10]; exact if_neg (by omega)
          · rw [k11]; exact if_neg (by omega)
    · refine wm_r ⟨mfr_trans (mfr_fr f1 nu_rd) (mfr_lm g1 g2 n3 n1 (fun j hj => ?_)), Or.inr ⟨cc, qq, lc.2 cc qq k1, k2⟩⟩
      rw [k3, k4]; exact ⟨rfl, rfl⟩
  · rw [if_neg p1]
    have f1 : frM (fun _ => False) nuT I (flI ps I 2 i) := flI_frm (by unfold nuT; omega) (by unfold nuT; omega)
    generalize flI ps I 2 i = X at p2 f1 ⊢
    refine wm_c (by decide +kernel) (wm_b (w_tellLawF p2 hsd (by rw [f1.2 32 (by unfold nuT; omega)]; exact b3) (by omega) c q) (fun _ J hJ => ?_))
    obtain ⟨g1, g2, g3⟩ := hJ
    have g1' := lx_sub g1
    refine wm_r ⟨mfr_trans (mfr_fr f1 nu_rd) (mfr_lm g1' g2 n3 n1 (fun j hj => ?_)), Or.inr ⟨2, i, rfl, g3⟩⟩
    rw [g1.1 387 (by decide) (by unfold lwP; omega), g1.1 388 (by decide) (by unfold lwP; omega)]; exact ⟨rfl, rfl⟩
theorem w_tellOne (hk : ∀ i, kR (K i)) (hv : kvOK K V ps) (hm : ∀ a b, a ≤ b → ps a ≤ ps b) (hsd : sd ≤ 1) (hS : mtS K V ps sd I i w h se H S lw wr) (hK : K i ≠ 0) : wm t d rt (f_X12_tellOne 369 (mm t d rt I)) (fun _ J => mtQ K V ps sd I (tell1 K V i w h se H S lw wr) J) := by
  by_cases c20 : K i = 20
  · exact o_size hk hv hm hsd hS c20
  by_cases c21 : K i = 21
  · exact o_hole hk hv hm hsd hS c21
  by_cases c22 : K i = 22
  · exact o_stone hk hv hm hsd hS c22
  by_cases c26 : K i = 26
  · exact o_seed hk hv hm hsd hS c26
  have law := fun (q : Nat) (hq : q < 3) (cq : K i = 23 + q) (z : Int) (hz : z = (q : Int)) => o_law (t := t) (d := d) (rt := rt) hk hsd hS hq cq hz
  obtain ⟨b, c, hR, hw, hB, n1, n2, n3, n4⟩ := hS
  have hR' := hR
  obtain ⟨a1, a2, a3, a4, a5⟩ := hR'
  have e3 := (a1 i a4 a5).1
  have kk := hk i
  unfold f_X12_tellOne
  by_cases c23 : K i = 23
  · rw [c23] at e3
    have e3 : I 372 i = 23 := e3
    (repeat (first | (with_reducible apply wm_o; focus (simp (disch := omega) only [wr_id, Int.toNat_natCast, Int.reduceToNat, tn_lk, tn_kl, if_pos, if_neg, ↓reduceIte, and_self, and_true, true_and, FM, a2, a3, e3]; with_reducible rfl)) | (with_reducible apply wm_q) | (with_reducible apply wm_c; focus (first | assumption | decide +kernel)) | (with_reducible apply wm_d; focus (simp (disch := omega) only [wr_id, Int.toNat_natCast, Int.reduceToNat, tn_lk, tn_kl, if_pos, if_neg, ↓reduceIte, and_self, and_true, true_and, FM, a2, a3, e3]; with_reducible rfl)) | (with_reducible apply wm_t; focus (first | omega | (simp (disch := omega) only [wr_id, FM, a2, a3, e3]; omega) | (simp (disch := omega) only [wr_id, FM, a2, a3, e3]; done))) | (with_reducible apply wm_f; focus (first | omega | (simp (disch := omega) only [wr_id, FM, a2, a3, e3]; omega) | (simp (disch := omega) only [wr_id, FM, a2, a3, e3]; done)))))
    exact law 0 (by decide) c23 _ (by omega)
  by_cases c24 : K i = 24
  · rw [c24] at e3
    have e3 : I 372 i = 24 := e3
    (repeat (first | (with_reducible apply wm_o; focus (simp (disch := omega) only [wr_id, Int.toNat_natCast, Int.reduceToNat, tn_lk, tn_kl, if_pos, if_neg, ↓reduceIte, and_self, and_true, true_and, FM, a2, a3, e3]; with_reducible rfl)) | (with_reducible apply wm_q) | (with_reducible apply wm_c; focus (first | assumption | decide +kernel)) | (with_reducible apply wm_d; focus (simp (disch := omega) only [wr_id, Int.toNat_natCast, Int.reduceToNat, tn_lk, tn_kl, if_pos, if_neg, ↓reduceIte, and_self, and_true, true_and, FM, a2, a3, e3]; with_reducible rfl)) | (with_reducible apply wm_t; focus (first | omega | (simp (disch := omega) only [wr_id, FM, a2, a3, e3]; omega) | (simp (disch := omega) only [wr_id, FM, a2, a3, e3]; done))) | (with_reducible apply wm_f; focus (first | omega | (simp (disch := omega) only [wr_id, FM, a2, a3, e3]; omega) | (simp (disch := omega) only [wr_id, FM, a2, a3, e3]; done)))))
    exact law 1 (by decide) c24 _ (by omega)
  by_cases c25 : K i = 25
  · rw [c25] at e3
    have e3 : I 372 i = 25 := e3
    (repeat (first | (with_reducible apply wm_o; focus (simp (disch := omega) only [wr_id, Int.toNat_natCast, Int.reduceToNat, tn_lk, tn_kl, if_pos, if_neg, ↓reduceIte, and_self, and_true, true_and, FM, a2, a3, e3]; with_reducible rfl)) | (with_reducible apply wm_q) | (with_reducible apply wm_c; focus (first | assumption | decide +kernel)) | (with_reducible apply wm_d; focus (simp (disch := omega) only [wr_id, Int.toNat_natCast, Int.reduceToNat, tn_lk, tn_kl, if_pos, if_neg, ↓reduceIte, and_self, and_true, true_and, FM, a2, a3, e3]; with_reducible rfl)) | (with_reducible apply wm_t; focus (first | omega | (simp (disch := omega) only [wr_id, FM, a2, a3, e3]; omega) | (simp (disch := omega) only [wr_id, FM, a2, a3, e3]; done))) | (with_reducible apply wm_f; focus (first | omega | (simp (disch := omega) only [wr_id, FM, a2, a3, e3]; omega) | (simp (disch := omega) only [wr_id, FM, a2, a3, e3]; done)))))
    exact law 2 (by decide) c25 _ (by omega)
  have et : tell1 K V i w h se H S lw wr = efl 1 i := by
    unfold tell1
    rw [if_neg c20, if_neg c21, if_neg c22, if_neg (by omega), if_neg c26]
  rw [et]
  have fl := q_fail (t := t) (d := d) (rt := rt) hR (c := 1) (z := 1) rfl
  have F := flI_ok hR (c := 1) (Or.inl rfl)
  have f13 : flI ps I 1 i 369 13 = 1 := F.2.1
  have M : mfr sd I (flI ps I 1 i) := mfr_fr (flI_frm (T := nuT) (by unfold nuT; omega) (by unfold nuT; omega)) nu_rd
  by_cases cl : K i < 20
  · have ml := mk_l20 _ cl
    generalize mkK (K i) = m at e3 ml
    (repeat (first | (with_reducible apply wm_o; focus (simp (disch := omega) only [wr_id, Int.toNat_natCast, Int.reduceToNat, tn_lk, tn_kl, if_pos, if_neg, ↓reduceIte, and_self, and_true, true_and, FM, a2, a3, e3, fl, f13]; with_reducible rfl)) | (with_reducible apply wm_q) | (with_reducible apply wm_c; focus (first | assumption | decide +kernel)) | (with_reducible apply wm_d; focus (simp (disch := omega) only [wr_id, Int.toNat_natCast, Int.reduceToNat, tn_lk, tn_kl, if_pos, if_neg, ↓reduceIte, and_self, and_true, true_and, FM, a2, a3, e3, fl, f13]; with_reducible rfl)) | (with_reducible apply wm_t; focus (first | omega | (simp (disch := omega) only [wr_id, FM, a2, a3, e3, fl, f13]; omega) | (simp (disch := omega) only [wr_id, FM, a2, a3, e3, fl, f13]; done))) | (with_reducible apply wm_f; focus (first | omega | (simp (disch := omega) only [wr_id, FM, a2, a3, e3, fl, f13]; omega) | (simp (disch := omega) only [wr_id, FM, a2, a3, e3, fl, f13]; done)))))
    exact wm_r ⟨M, Or.inr ⟨1, i, rfl, F⟩⟩
  · have ml := mk_20 (k := K i) (by omega)
    have mu : K i < 39 := by unfold kR at kk; omega
    rw [ml] at e3
    have mg : 27 ≤ K i := by omega
    generalize K i = m at e3 mu mg
    (repeat (first | (with_reducible apply wm_o; focus (simp (disch := omega) only [wr_id, Int.toNat_natCast, Int.reduceToNat, tn_lk, tn_kl, if_pos, if_neg, ↓reduceIte, and_self, and_true, true_and, FM, a2, a3, e3, fl, f13]; with_reducible rfl)) | (with_reducible apply wm_q) | (with_reducible apply wm_c; focus (first | assumption | decide +kernel)) | (with_reducible apply wm_d; focus (simp (disch := omega) only [wr_id, Int.toNat_natCast, Int.reduceToNat, tn_lk, tn_kl, if_pos, if_neg, ↓reduceIte, and_self, and_true, true_and, FM, a2, a3, e3, fl, f13]; with_reducible rfl)) | (with_reducible apply wm_t; focus (first | omega | (simp (disch := omega) only [wr_id, FM, a2, a3, e3, fl, f13]; omega) | (simp (disch := omega) only [wr_id, FM, a2, a3, e3, fl, f13]; done))) | (with_reducible apply wm_f; focus (first | omega | (simp (disch := omega) only [wr_id, FM, a2, a3, e3, fl, f13]; omega) | (simp (disch := omega) only [wr_id, FM, a2, a3, e3, fl, f13]; done)))))
    exact wm_r ⟨M, Or.inr ⟨1, i, rfl, F⟩⟩
end TO
