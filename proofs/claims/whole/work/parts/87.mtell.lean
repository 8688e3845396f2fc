/-! ===== the model's laws: what a law tells ===== -/
/-- a law's branches from b to e, in the model's tables -/
def lwM (I : Nat → Nat → Int) : Nat → List LwI → List CI → Nat → Prop
  | b, [], x, e => I 389 b = 0 ∧ (∃ p : Nat, I 392 b = (p : Int) ∧ I 393 b = ((p + x.length : Nat) : Int) ∧ cdAt (I 394) (I 395) p (x.map mkC) ∧ p + x.length ≤ 840) ∧ e = b + 1
  | b, i :: r, x, e => I 389 b = 1 ∧ (∃ p : Nat, I 390 b = (p : Int) ∧ I 391 b = ((p + i.1.length : Nat) : Int) ∧ I 392 b = ((p + i.1.length + i.2.1.length : Nat) : Int) ∧ I 393 b = ((p + i.1.length + i.2.1.length + i.2.2.length : Nat) : Int) ∧ cdAt (I 394) (I 395) p (i.1.map mkC) ∧ cdAt (I 394) (I 395) (p + i.1.length) (i.2.1.map mkC) ∧ cdAt (I 394) (I 395) (p + i.1.length + i.2.1.length) (i.2.2.map mkC) ∧ p + i.1.length + i.2.1.length + i.2.2.length ≤ 840) ∧ lwM I (b + 1) r x e
theorem lwM_le {I : Nat → Nat → Int} {x : List CI} {e : Nat} : ∀ {ifs : List LwI} {b : Nat}, lwM I b ifs x e → b < e
  | [], b, h => by have := h.2.2; omega
  | i :: r, b, h => by have := lwM_le h.2.2; omega
theorem lwM_frm {I J : Nat → Nat → Int} (h : J 389 = I 389 ∧ J 390 = I 390 ∧ J 391 = I 391 ∧ J 392 = I 392 ∧ J 393 = I 393 ∧ J 394 = I 394 ∧ J 395 = I 395) {x : List CI} {e : Nat} : ∀ {ifs : List LwI} {b : Nat}, lwM I b ifs x e → lwM J b ifs x e := by
  obtain ⟨h1, h2, h3, h4, h5, h6, h7⟩ := h
  intro ifs
  induction ifs with
  | nil => intro b hb; unfold lwM at hb ⊢; rw [h1, h4, h5, h6, h7]; exact hb
  | cons i r ih => intro b hb; unfold lwM at hb ⊢; rw [h1, h2, h3, h4, h5, h6, h7]; exact ⟨hb.1, hb.2.1, ih hb.2.2⟩
/-- law q of side sd; pl is what it is if none is told -/
def lawM (I : Nat → Nat → Int) (sd q : Nat) (pl : Int) (ifs : List LwI) (x : List CI) : Prop := lwOK ifs x ∧ ((I 387 (3 * sd + q) = I 388 (3 * sd + q) ∧ ifs = [] ∧ x = [cNum pl]) ∨ ∃ b e : Nat, I 387 (3 * sd + q) = (b : Int) ∧ I 388 (3 * sd + q) = (e : Int) ∧ e ≤ 260 ∧ lwM I b ifs x e)
def ltB (th : Nat) (x1 : Int) (x2 : Int) (v1 : Int) : (Int → jMem → Option (Int × jMem)) → Int → jMem → Option (Int × jMem) :=
(fun rec_39 (y4_39 : Int) (M_39 : jMem) =>
(jm_gR 12 31 M_39 th).bind fun r9 =>
(jm_ld 20 M_39 r9 ((3 * v1) + x1)).bind fun v10 =>
if jd_wr y4_39 < jd_wr v10 then ((jm_gR 12 33 M_39 th).bind fun r11 =>
(jm_ld 22 M_39 r11 y4_39).bind fun v12 =>
jjq (fun (M_119 : jMem) =>
(jm_gR 12 36 M_119 th).bind fun r13 =>
(jm_ld 20 M_119 r13 y4_39).bind fun v14 =>
(jm_gR 12 37 M_119 th).bind fun r15 =>
(jm_ld 20 M_119 r15 y4_39).bind fun v16 =>
jcall 12 M_119 th (f_X12_termOf th v14 v16 M_119) fun v17 M18 =>
(jm_gI 12 46 M18 th).bind fun v19 =>
if jd_wr v19 = 0 then (some (v17, M18))
else (some (0, M18))) fun j_119 =>
if jd_wr v12 = 0 then (j_119 M_39)
else ((jm_gR 12 34 M_39 th).bind fun r20 =>
(jm_ld 20 M_39 r20 y4_39).bind fun v21 =>
(jm_gR 12 35 M_39 th).bind fun r22 =>
(jm_ld 20 M_39 r22 y4_39).bind fun v23 =>
jcall 12 M_39 th (f_X12_termOf th v21 v23 M_39) fun v24 M25 =>
(jm_gR 12 35 M25 th).bind fun r26 =>
(jm_ld 20 M25 r26 y4_39).bind fun v27 =>
(jm_gR 12 36 M25 th).bind fun r28 =>
(jm_ld 20 M25 r28 y4_39).bind fun v29 =>
jcall 12 M25 th (f_X12_termOf th v27 v29 M25) fun v30 M31 =>
(jm_gI 12 46 M31 th).bind fun v32 =>
if jd_wr v32 = 0 then (if jd_wr v24 < jd_wr v30 then (j_119 M31)
else (rec_39 (y4_39 + 1) M31))
else (some (0, M31))))
else (some (0, M_39)))
theorem lt_eq (th : Nat) (x1 x2 : Int) (M : jMem) : f_X12_lawTells th x1 x2 M = (jm_gI 12 18 M th).bind fun v1 =>
(jm_gR 12 30 M th).bind fun r2 =>
(jm_ld 20 M r2 ((3 * v1) + x1)).bind fun v3 =>
(jm_gR 12 31 M th).bind fun r4 =>
(jm_ld 20 M r4 ((3 * v1) + x1)).bind fun v5 =>
if jd_wr v3 = jd_wr v5 then (some (x2, M))
else ((jm_pZ 12 46 M th 0).bind fun M6 =>
(jm_gR 12 30 M6 th).bind fun r7 =>
(jm_ld 20 M6 r7 ((3 * v1) + x1)).bind fun v8 =>
jlp2 (ltB th x1 x2 v1) jfuel v8 M6) := rfl
section MLT
variable {t d rt : Nat} {I : Nat → Nat → Int} {s w n nh l k : Nat} {ρ : Nat → Int} {vs : Nat → Int} {Q : Int → (Nat → Nat → Int) → Prop}
theorem wr_0 : jd_wr 0 = 0 := jw_wr0
theorem wr_1 : jd_wr 1 = 1 := by decide +kernel
theorem lt_law {x2 : Int} {x : List CI} {e q lv : Nat} (hq : q < 3) (hlv : lv < 2) (he : e ≤ 260) : ∀ (ifs : List LwI) (b f : Nat) (I : Nat → Nat → Int), lwOK ifs x → (∀ j, j < 9 → I 398 j = vs j) → I 388 (3 * lv + q) = (e : Int) → I 369 46 = 0 → lwM I b ifs x e → e ≤ b + f → wm t d rt (jlp2 (ltB 369 (q : Int) x2 (lv : Int)) f (b : Int) (mm t d rt I)) (fun r J => r = lwV jdv jnl jlt vs ifs x ∧ frM (fun a => a = 399) (fun j => j = 46) I J) := by
  intro ifs
  induction ifs with
  | nil =>
    intro b f I hok hvs h8 h46 hM hf
    obtain ⟨m1, ⟨p, m2, m3, m4, m5⟩, m6⟩ := hM
    obtain ⟨f', rfl⟩ : ∃ f', f = f' + 1 := ⟨f - 1, by omega⟩
    have e8 : ((3 : Int) * (lv : Int)) + (q : Int) = ((3 * lv + q : Nat) : Int) := by omega
    rw [jlp2_s]
    unfold ltB
    (repeat (first | (with_reducible apply wm_o; focus (simp (disch := omega) only [wr_id, Int.toNat_natCast, Int.reduceToNat, tn_lk, tn_kl, if_pos, if_neg, ↓reduceIte, and_self, and_true, true_and, FM, e8, h8, m1, m2, m3]; with_reducible rfl)) | (with_reducible apply wm_q) | (with_reducible apply wm_c; focus (first | assumption | decide +kernel)) | (with_reducible apply wm_d; focus (simp (disch := omega) only [wr_id, Int.toNat_natCast, Int.reduceToNat, tn_lk, tn_kl, if_pos, if_neg, ↓reduceIte, and_self, and_true, true_and, FM, e8, h8, m1, m2, m3]; with_reducible rfl)) | (with_reducible apply wm_t; focus (first | omega | (simp (disch := omega) only [wr_id, FM, e8, h8, m1, m2, m3]; omega) | (simp (disch := omega) only [wr_id, FM, e8, h8, m1, m2, m3]; done))) | (with_reducible apply wm_f; focus (first | omega | (simp (disch := omega) only [wr_id, FM, e8, h8, m1, m2, m3]; omega) | (simp (disch := omega) only [wr_id, FM, e8, h8, m1, m2, m3]; done)))))
    refine wm_b (w_termOf hok.2 hvs m4 m5) (fun v J hJ => ?_)
    obtain ⟨j1, j2, j3⟩ := hJ
    cases ev : evV jdv jnl vs x with
    | none =>
      rw [ev] at j1 j3
      have j3' : J 369 46 = 1 := j3
      (repeat (first | (with_reducible apply wm_o; focus (simp (disch := omega) only [wr_id, Int.toNat_natCast, Int.reduceToNat, tn_lk, tn_kl, if_pos, if_neg, ↓reduceIte, and_self, and_true, true_and, FM, j3']; with_reducible rfl)) | (with_reducible apply wm_q) | (with_reducible apply wm_c; focus (first | assumption | decide +kernel)) | (with_reducible apply wm_d; focus (simp (disch := omega) only [wr_id, Int.toNat_natCast, Int.reduceToNat, tn_lk, tn_kl, if_pos, if_neg, ↓reduceIte, and_self, and_true, true_and, FM, j3']; with_reducible rfl)) | (with_reducible apply wm_t; focus (first | omega | (simp (disch := omega) only [wr_id, FM, j3']; omega) | (simp (disch := omega) only [wr_id, FM, j3']; done))) | (with_reducible apply wm_f; focus (first | omega | (simp (disch := omega) only [wr_id, FM, j3']; omega) | (simp (disch := omega) only [wr_id, FM, j3']; done)))))
      exact wm_r ⟨by rw [lwV, ev]; rfl, j2⟩
    | some u =>
      rw [ev] at j1 j3
      have j3' : J 369 46 = 0 := j3.trans h46
      (repeat (first | (with_reducible apply wm_o; focus (simp (disch := omega) only [wr_id, Int.toNat_natCast, Int.reduceToNat, tn_lk, tn_kl, if_pos, if_neg, ↓reduceIte, and_self, and_true, true_and, FM, j3']; with_reducible rfl)) | (with_reducible apply wm_q) | (with_reducible apply wm_c; focus (first | assumption | decide +kernel)) | (with_reducible apply wm_d; focus (simp (disch := omega) only [wr_id, Int.toNat_natCast, Int.reduceToNat, tn_lk, tn_kl, if_pos, if_neg, ↓reduceIte, and_self, and_true, true_and, FM, j3']; with_reducible rfl)) | (with_reducible apply wm_t; focus (first | omega | (simp (disch := omega) only [wr_id, FM, j3']; omega) | (simp (disch := omega) only [wr_id, FM, j3']; done))) | (with_reducible apply wm_f; focus (first | omega | (simp (disch := omega) only [wr_id, FM, j3']; omega) | (simp (disch := omega) only [wr_id, FM, j3']; done)))))
      exact wm_r ⟨by rw [lwV, ev]; exact j1, j2⟩
  | cons i r ih =>
    intro b f I hok hvs h8 h46 hM hf
    have hle := lwM_le hM.2.2
    obtain ⟨m1, ⟨p, m2, m3, m4, m5, m6, m7, m8, m9⟩, m10⟩ := hM
    obtain ⟨o1, o2, o3⟩ := hok.1 i (List.mem_cons_self ..)
    have hok' : lwOK r x := ⟨fun y hy => hok.1 y (List.mem_cons_of_mem _ hy), hok.2⟩
    obtain ⟨f', rfl⟩ : ∃ f', f = f' + 1 := ⟨f - 1, by omega⟩
    have e8 : ((3 : Int) * (lv : Int)) + (q : Int) = ((3 * lv + q : Nat) : Int) := by omega
    have fix : ∀ {A B : Nat → Nat → Int}, frM (fun a => a = 399) (fun j => j = 46) A B → ∀ a, a ≠ 369 → a ≠ 399 → B a = A a := fun h a h1 h2 => h.1 a h1 h2
    rw [jlp2_s]
    unfold ltB
    (repeat (first | (with_reducible apply wm_o; focus (simp (disch := omega) only [wr_id, Int.toNat_natCast, Int.reduceToNat, tn_lk, tn_kl, if_pos, if_neg, ↓reduceIte, and_self, and_true, true_and, FM, e8, h8, m1, m2, m3]; with_reducible rfl)) | (with_reducible apply wm_q) | (with_reducible apply wm_c; focus (first | assumption | decide +kernel)) | (with_reducible apply wm_d; focus (simp (disch := omega) only [wr_id, Int.toNat_natCast, Int.reduceToNat, tn_lk, tn_kl, if_pos, if_neg, ↓reduceIte, and_self, and_true, true_and, FM, e8, h8, m1, m2, m3]; with_reducible rfl)) | (with_reducible apply wm_t; focus (first | omega | (simp (disch := omega) only [wr_id, FM, e8, h8, m1, m2, m3]; omega) | (simp (disch := omega) only [wr_id, FM, e8, h8, m1, m2, m3]; done))) | (with_reducible apply wm_f; focus (first | omega | (simp (disch := omega) only [wr_id, FM, e8, h8, m1, m2, m3]; omega) | (simp (disch := omega) only [wr_id, FM, e8, h8, m1, m2, m3]; done)))))
    refine wm_b (w_termOf o1 hvs m6 (by omega)) (fun u J hJ => ?_)
    obtain ⟨j1, j2, j3⟩ := hJ
    have J1 := fix j2
    have n3 : J 391 b = ((p + i.1.length : Nat) : Int) := by rw [J1 391 (by decide) (by decide)]; exact m3
    have n4 : J 392 b = ((p + i.1.length + i.2.1.length : Nat) : Int) := by rw [J1 392 (by decide) (by decide)]; exact m4
    have hvsJ : ∀ j, j < 9 → J 398 j = vs j := by rw [J1 398 (by decide) (by decide)]; exact hvs
    (repeat (first | (with_reducible apply wm_o; focus (simp (disch := omega) only [wr_id, Int.toNat_natCast, Int.reduceToNat, tn_lk, tn_kl, if_pos, if_neg, ↓reduceIte, and_self, and_true, true_and, FM, n3, n4]; with_reducible rfl)) | (with_reducible apply wm_q) | (with_reducible apply wm_c; focus (first | assumption | decide +kernel)) | (with_reducible apply wm_d; focus (simp (disch := omega) only [wr_id, Int.toNat_natCast, Int.reduceToNat, tn_lk, tn_kl, if_pos, if_neg, ↓reduceIte, and_self, and_true, true_and, FM, n3, n4]; with_reducible rfl)) | (with_reducible apply wm_t; focus (first | omega | (simp (disch := omega) only [wr_id, FM, n3, n4]; omega) | (simp (disch := omega) only [wr_id, FM, n3, n4]; done))) | (with_reducible apply wm_f; focus (first | omega | (simp (disch := omega) only [wr_id, FM, n3, n4]; omega) | (simp (disch := omega) only [wr_id, FM, n3, n4]; done)))))
    refine wm_b (w_termOf o2 hvsJ (by rw [J1 394 (by decide) (by decide), J1 395 (by decide) (by decide)]; exact m7) (by omega)) (fun v K hK => ?_)
    obtain ⟨k1, k2, k3⟩ := hK
    have K1 := fix k2
    have frK := frM_trans j2 k2
    have bro : evV jdv jnl vs i.1 = none ∨ evV jdv jnl vs i.2.1 = none → K 369 46 = 1 := by
      intro z
      cases z2 : evV jdv jnl vs i.2.1 with
      | none => rw [z2] at k3; exact k3
      | some v' =>
        rw [z2] at k3
        rcases z with z | z
        · rw [z] at j3; exact k3.trans j3
        · rw [z2] at z; cases z
    cases eu : evV jdv jnl vs i.1 with
    | none =>
      have z := bro (Or.inl eu)
      (repeat (first | (with_reducible apply wm_o; focus (simp (disch := omega) only [wr_id, Int.toNat_natCast, Int.reduceToNat, tn_lk, tn_kl, if_pos, if_neg, ↓reduceIte, and_self, and_true, true_and, FM, z]; with_reducible rfl)) | (with_reducible apply wm_q) | (with_reducible apply wm_c; focus (first | assumption | decide +kernel)) | (with_reducible apply wm_d; focus (simp (disch := omega) only [wr_id, Int.toNat_natCast, Int.reduceToNat, tn_lk, tn_kl, if_pos, if_neg, ↓reduceIte, and_self, and_true, true_and, FM, z]; with_reducible rfl)) | (with_reducible apply wm_t; focus (first | omega | (simp (disch := omega) only [wr_id, FM, z]; omega) | (simp (disch := omega) only [wr_id, FM, z]; done))) | (with_reducible apply wm_f; focus (first | omega | (simp (disch := omega) only [wr_id, FM, z]; omega) | (simp (disch := omega) only [wr_id, FM, z]; done)))))
      exact wm_r ⟨by rw [lwV, eu], frK⟩
    | some u' =>
      cases ev : evV jdv jnl vs i.2.1 with
      | none =>
        have z := bro (Or.inr ev)
        (repeat (first | (with_reducible apply wm_o; focus (simp (disch := omega) only [wr_id, Int.toNat_natCast, Int.reduceToNat, tn_lk, tn_kl, if_pos, if_neg, ↓reduceIte, and_self, and_true, true_and, FM, z]; with_reducible rfl)) | (with_reducible apply wm_q) | (with_reducible apply wm_c; focus (first | assumption | decide +kernel)) | (with_reducible apply wm_d; focus (simp (disch := omega) only [wr_id, Int.toNat_natCast, Int.reduceToNat, tn_lk, tn_kl, if_pos, if_neg, ↓reduceIte, and_self, and_true, true_and, FM, z]; with_reducible rfl)) | (with_reducible apply wm_t; focus (first | omega | (simp (disch := omega) only [wr_id, FM, z]; omega) | (simp (disch := omega) only [wr_id, FM, z]; done))) | (with_reducible apply wm_f; focus (first | omega | (simp (disch := omega) only [wr_id, FM, z]; omega) | (simp (disch := omega) only [wr_id, FM, z]; done)))))
        exact wm_r ⟨by rw [lwV, eu, ev], frK⟩
      | some v' =>
        rw [eu] at j1 j3
        rw [ev] at k1 k3
        have j1' : u = u' := j1
        have k1' : v = v' := k1
        subst j1' k1'
        have k46 : K 369 46 = 0 := (k3.trans j3).trans h46
        have hvsK : ∀ j, j < 9 → K 398 j = vs j := by rw [K1 398 (by decide) (by decide)]; exact hvsJ
        have K394 : K 394 = I 394 := (K1 394 (by decide) (by decide)).trans (J1 394 (by decide) (by decide))
        have K395 : K 395 = I 395 := (K1 395 (by decide) (by decide)).trans (J1 395 (by decide) (by decide))
        have p4 : K 392 b = ((p + i.1.length + i.2.1.length : Nat) : Int) := by rw [K1 392 (by decide) (by decide)]; exact n4
        have p5 : K 393 b = ((p + i.1.length + i.2.1.length + i.2.2.length : Nat) : Int) := by rw [K1 393 (by decide) (by decide), J1 393 (by decide) (by decide)]; exact m5
        by_cases z : jd_wr u < jd_wr v
        · have zl : jlt u v = true := by unfold jlt; exact decide_eq_true z
          (repeat (first | (with_reducible apply wm_o; focus (simp (disch := omega) only [wr_id, Int.toNat_natCast, Int.reduceToNat, tn_lk, tn_kl, if_pos, if_neg, ↓reduceIte, and_self, and_true, true_and, FM, k46, p4, p5]; with_reducible rfl)) | (with_reducible apply wm_q) | (with_reducible apply wm_c; focus (first | assumption | decide +kernel)) | (with_reducible apply wm_d; focus (simp (disch := omega) only [wr_id, Int.toNat_natCast, Int.reduceToNat, tn_lk, tn_kl, if_pos, if_neg, ↓reduceIte, and_self, and_true, true_and, FM, k46, p4, p5]; with_reducible rfl)) | (with_reducible apply wm_t; focus (first | omega | (simp (disch := omega) only [wr_id, FM, k46, p4, p5]; omega) | (simp (disch := omega) only [wr_id, FM, k46, p4, p5]; done))) | (with_reducible apply wm_f; focus (first | omega | (simp (disch := omega) only [wr_id, FM, k46, p4, p5]; omega) | (simp (disch := omega) only [wr_id, FM, k46, p4, p5]; done)))))
          refine wm_b (w_termOf o3 hvsK (by rw [K394, K395]; exact m8) (by omega)) (fun y L hL => ?_)
          obtain ⟨l1, l2, l3⟩ := hL
          cases ec : evV jdv jnl vs i.2.2 with
          | none =>
            rw [ec] at l3
            have l3' : L 369 46 = 1 := l3
            (repeat (first | (with_reducible apply wm_o; focus (simp (disch := omega) only [wr_id, Int.toNat_natCast, Int.reduceToNat, tn_lk, tn_kl, if_pos, if_neg, ↓reduceIte, and_self, and_true, true_and, FM, l3']; with_reducible rfl)) | (with_reducible apply wm_q) | (with_reducible apply wm_c; focus (first | assumption | decide +kernel)) | (with_reducible apply wm_d; focus (simp (disch := omega) only [wr_id, Int.toNat_natCast, Int.reduceToNat, tn_lk, tn_kl, if_pos, if_neg, ↓reduceIte, and_self, and_true, true_and, FM, l3']; with_reducible rfl)) | (with_reducible apply wm_t; focus (first | omega | (simp (disch := omega) only [wr_id, FM, l3']; omega) | (simp (disch := omega) only [wr_id, FM, l3']; done))) | (with_reducible apply wm_f; focus (first | omega | (simp (disch := omega) only [wr_id, FM, l3']; omega) | (simp (disch := omega) only [wr_id, FM, l3']; done)))))
            refine wm_r ⟨?_, frM_trans frK l2⟩
            rw [lwV, eu, ev, ec]
            simp only [zl, ↓reduceIte]
            rfl
          | some y' =>
            rw [ec] at l1 l3
            have l3' : L 369 46 = 0 := l3.trans k46
            (repeat (first | (with_reducible apply wm_o; focus (simp (disch := omega) only [wr_id, Int.toNat_natCast, Int.reduceToNat, tn_lk, tn_kl, if_pos, if_neg, ↓reduceIte, and_self, and_true, true_and, FM, l3']; with_reducible rfl)) | (with_reducible apply wm_q) | (with_reducible apply wm_c; focus (first | assumption | decide +kernel)) | (with_reducible apply wm_d; focus (simp (disch := omega) only [wr_id, Int.toNat_natCast, Int.reduceToNat, tn_lk, tn_kl, if_pos, if_neg, ↓reduceIte, and_self, and_true, true_and, FM, l3']; with_reducible rfl)) | (with_reducible apply wm_t; focus (first | omega | (simp (disch := omega) only [wr_id, FM, l3']; omega) | (simp (disch := omega) only [wr_id, FM, l3']; done))) | (with_reducible apply wm_f; focus (first | omega | (simp (disch := omega) only [wr_id, FM, l3']; omega) | (simp (disch := omega) only [wr_id, FM, l3']; done)))))
            refine wm_r ⟨?_, frM_trans frK l2⟩
            rw [lwV, eu, ev, ec]
            simp only [zl, ↓reduceIte]
            exact l1
        · have zl : jlt u v = false := by unfold jlt; exact decide_eq_false z
          (repeat (first | (with_reducible apply wm_o; focus (simp (disch := omega) only [wr_id, Int.toNat_natCast, Int.reduceToNat, tn_lk, tn_kl, if_pos, if_neg, ↓reduceIte, and_self, and_true, true_and, FM, k46]; with_reducible rfl)) | (with_reducible apply wm_q) | (with_reducible apply wm_c; focus (first | assumption | decide +kernel)) | (with_reducible apply wm_d; focus (simp (disch := omega) only [wr_id, Int.toNat_natCast, Int.reduceToNat, tn_lk, tn_kl, if_pos, if_neg, ↓reduceIte, and_self, and_true, true_and, FM, k46]; with_reducible rfl)) | (with_reducible apply wm_t; focus (first | omega | (simp (disch := omega) only [wr_id, FM, k46]; omega) | (simp (disch := omega) only [wr_id, FM, k46]; done))) | (with_reducible apply wm_f; focus (first | omega | (simp (disch := omega) only [wr_id, FM, k46]; omega) | (simp (disch := omega) only [wr_id, FM, k46]; done)))))
          have q := ih (b + 1) f' K hok' hvsK (by rw [K1 388 (by decide) (by decide), J1 388 (by decide) (by decide)]; exact h8) k46 (lwM_frm ⟨(K1 389 (by decide) (by decide)).trans (J1 389 (by decide) (by decide)), (K1 390 (by decide) (by decide)).trans (J1 390 (by decide) (by decide)), (K1 391 (by decide) (by decide)).trans (J1 391 (by decide) (by decide)), (K1 392 (by decide) (by decide)).trans (J1 392 (by decide) (by decide)), (K1 393 (by decide) (by decide)).trans (J1 393 (by decide) (by decide)), K394, K395⟩ m10) (by omega)
          refine wm_w q (fun r2 L hL => ⟨?_, frM_trans frK hL.2⟩)
          rw [hL.1, lwV, eu, ev]
          simp only [zl, Bool.false_eq_true, ↓reduceIte]
theorem w_lawTells {q lv : Nat} (hq : q < 3) (hlv : lv < 2) (h18 : I 369 18 = (lv : Int)) {pl : Int} {ifs : List LwI} {x : List CI} (hvs : ∀ j, j < 9 → I 398 j = vs j) (hC : lawM I lv q pl ifs x) : wm t d rt (f_X12_lawTells 369 (q : Int) pl (mm t d rt I)) (fun r J => r = lwV jdv jnl jlt vs ifs x ∧ frM (fun a => a = 399) (fun j => j = 46) I J) := by
  have e8 : ((3 : Int) * (lv : Int)) + (q : Int) = ((3 * lv + q : Nat) : Int) := by omega
  obtain ⟨hok, hC⟩ := hC
  rw [lt_eq]
  rcases hC with ⟨h1, rfl, rfl⟩ | ⟨b, e, h1, h2, h3, h4⟩
  · (repeat (first | (with_reducible apply wm_o; focus (simp (disch := omega) only [wr_id, Int.toNat_natCast, Int.reduceToNat, tn_lk, tn_kl, if_pos, if_neg, ↓reduceIte, and_self, and_true, true_and, FM, h18, e8, h1]; with_reducible rfl)) | (with_reducible apply wm_q) | (with_reducible apply wm_c; focus (first | assumption | decide +kernel)) | (with_reducible apply wm_d; focus (simp (disch := omega) only [wr_id, Int.toNat_natCast, Int.reduceToNat, tn_lk, tn_kl, if_pos, if_neg, ↓reduceIte, and_self, and_true, true_and, FM, h18, e8, h1]; with_reducible rfl)) | (with_reducible apply wm_t; focus (first | omega | (simp (disch := omega) only [wr_id, FM, h18, e8, h1]; omega) | (simp (disch := omega) only [wr_id, FM, h18, e8, h1]; done))) | (with_reducible apply wm_f; focus (first | omega | (simp (disch := omega) only [wr_id, FM, h18, e8, h1]; omega) | (simp (disch := omega) only [wr_id, FM, h18, e8, h1]; done)))))
    refine wm_r ⟨?_, frM_refl _ _ _⟩
    unfold lwV evV
    rw [evC_0 rfl]
    rfl
  · have hlt := lwM_le h4
    have eZ : ∀ J : Nat → Nat → Int, jm_pZ 12 46 (mm t d rt J) 369 0 = some (mm t d rt (up J 369 46 0)) := fun J => mm_pZ (by decide +kernel) (Or.inl wr_0)
    (repeat (first | (with_reducible apply wm_o; focus (simp (disch := omega) only [wr_id, Int.toNat_natCast, Int.reduceToNat, tn_lk, tn_kl, if_pos, if_neg, ↓reduceIte, and_self, and_true, true_and, FM, h18, e8, h1, h2, up_ne, eZ]; with_reducible rfl)) | (with_reducible apply wm_q) | (with_reducible apply wm_c; focus (first | assumption | decide +kernel)) | (with_reducible apply wm_d; focus (simp (disch := omega) only [wr_id, Int.toNat_natCast, Int.reduceToNat, tn_lk, tn_kl, if_pos, if_neg, ↓reduceIte, and_self, and_true, true_and, FM, h18, e8, h1, h2, up_ne, eZ]; with_reducible rfl)) | (with_reducible apply wm_t; focus (first | omega | (simp (disch := omega) only [wr_id, FM, h18, e8, h1, h2, up_ne, eZ]; omega) | (simp (disch := omega) only [wr_id, FM, h18, e8, h1, h2, up_ne, eZ]; done))) | (with_reducible apply wm_f; focus (first | omega | (simp (disch := omega) only [wr_id, FM, h18, e8, h1, h2, up_ne, eZ]; omega) | (simp (disch := omega) only [wr_id, FM, h18, e8, h1, h2, up_ne, eZ]; done)))))
    refine wm_w (lt_law hq hlv h3 ifs b jfuel (up I 369 46 0) hok (by rw [up_ne (by decide)]; exact hvs) (by rw [up_ne (by decide)]; exact h2) (by rw [up_g, if_pos rfl]) (lwM_frm ⟨up_ne (by decide), up_ne (by decide), up_ne (by decide), up_ne (by decide), up_ne (by decide), up_ne (by decide), up_ne (by decide)⟩ h4) (Nat.le_trans (show e ≤ b + 260 by omega) (Nat.add_le_add_left (Nat.le_of_lt (jfuel_n (by decide))) b))) (fun r J hJ => ⟨hJ.1, frM_trans (frM_fd (frM_refl _ _ _) rfl) hJ.2⟩)
theorem w_within {v most : Int} (hm : most = 99 ∨ most = 100) {M : jMem} : ∃ r, f_X12_within v 0 most M = some (r, M) ∧ jd_wr r = clV most v := by
  have em : jd_wr most = most := wr_m most (by omega)
  unfold f_X12_within clV
  rw [wr_0, em]
  by_cases z : jd_wr v < 0
  · rw [if_pos z, if_pos z]
    exact ⟨0, rfl, wr_0⟩
  · rw [if_neg z, if_neg z]
    by_cases z2 : jd_wr v ≤ most
    · rw [if_pos z2, if_pos z2]
      exact ⟨v, rfl, rfl⟩
    · rw [if_neg z2, if_neg z2]
      exact ⟨most, rfl, em⟩
theorem vRow_of {w n : Nat} {hl : Nat → Bool} {ρ : Nat → Int} (hr : rOK w n hl ρ) (hn : n ≤ 36) : vRow ρ := fun k hk => by
  rcases hr.1 k hk with q | q <;> omega
/-- the model tells a law's value of couple k -/
theorem w_tellsOf {h' lv q : Nat} {hl : Nat → Bool} (c : mCfg I lv w h' n) (hr : rOK w n hl (I 401)) (hnh : I 379 lv = (nh : Int)) (hk : k < 18) (h0 : 0 ≤ I 401 k) (hq : q < 3) {pl most : Int} (hm : most = 99 ∨ most = 100) {ifs : List LwI} {x : List CI} (hC : lawM I lv q pl ifs x) : wm t d rt (f_X12_tellsOf 369 (k : Int) (q : Int) pl most (mm t d rt I)) (fun r J => jd_wr r = clV most (lwV jdv jnl jlt (rV w nh (I 401) k) ifs x) ∧ frM (fun a => a = 398 ∨ a = 399) (fun j => j = 46) I J) := by
  have hn : n ≤ 36 := c.2.2.2.2.2.2.2.2.2.2
  have hv := vRow_of hr hn
  have cc := c
  obtain ⟨c1, c2, c3, c4, c5, c6, _⟩ := c
  have hb : I 401 k < 36 := by rcases hr.1 k hk with q | q <;> omega
  obtain ⟨z, ez⟩ : ∃ z : Nat, I 401 k = (z : Int) := ⟨(I 401 k).toNat, by omega⟩
  have hr1 : jm_rm (z : Int) (w : Int) = some ((z % w : Nat) : Int) := rm_n (by omega) (by omega) (by omega)
  have hd1 : jm_dv (z : Int) (w : Int) = some ((z / w : Nat) : Int) := dv_n (by omega) (by omega) (by omega)
  have e18 : ((18 : Int) + (k : Int)) = ((18 + k : Nat) : Int) := by omega
  have e36 : ((36 : Int) + (k : Int)) = ((36 + k : Nat) : Int) := by omega
  have e54 : ((54 : Int) + (k : Int)) = ((54 + k : Nat) : Int) := by omega
  have mU : ∀ (J : Nat → Nat → Int), frM (fun a => a = 398) (fun _ => False) I J → mCfg J lv w h' n := fun J hJ => by
    obtain ⟨c1, c2, c3, c4, c5⟩ := cc
    exact ⟨by rw [hJ.2 18 (by simp)]; exact c1, c2, by rw [hJ.1 377 (by decide) (by decide)]; exact c3, by rw [hJ.1 378 (by decide) (by decide)]; exact c4, c5⟩
  have f0 : frM (fun a => a = 398) (fun _ => False) I I := frM_refl _ _ _
  have fu : ∀ {J : Nat → Nat → Int} (j : Nat) (v : Int), frM (fun a => a = 398) (fun _ => False) I J → frM (fun a => a = 398) (fun _ => False) I (up J 398 j v) := fun j v hJ => frM_up hJ (by decide) rfl
  have w1 := fun {J : Nat → Nat → Int} (hJ : frM (fun a => a = 398) (fun _ => False) I J) => s_w (t := t) (d := d) (rt := rt) (mU J hJ)
  unfold f_X12_tellsOf
  (repeat (first | (with_reducible apply wm_o; focus (simp (disch := omega) only [wr_id, Int.toNat_natCast, Int.reduceToNat, tn_lk, tn_kl, if_pos, if_neg, ↓reduceIte, and_self, and_true, true_and, FM, e18, e36, e54, up_ne]; with_reducible rfl)) | (with_reducible apply wm_q) | (with_reducible apply wm_c; focus (first | assumption | decide +kernel)) | (with_reducible apply wm_d; focus (simp (disch := omega) only [wr_id, Int.toNat_natCast, Int.reduceToNat, tn_lk, tn_kl, if_pos, if_neg, ↓reduceIte, and_self, and_true, true_and, FM, e18, e36, e54, up_ne]; with_reducible rfl)) | (with_reducible apply wm_t; focus (first | omega | (simp (disch := omega) only [wr_id, FM, e18, e36, e54, up_ne]; omega) | (simp (disch := omega) only [wr_id, FM, e18, e36, e54, up_ne]; done))) | (with_reducible apply wm_f; focus (first | omega | (simp (disch := omega) only [wr_id, FM, e18, e36, e54, up_ne]; omega) | (simp (disch := omega) only [wr_id, FM, e18, e36, e54, up_ne]; done)))))
  have g1 := fu 0 (1 - I 401 (18 + k)) f0
  have w1 := s_w (t := t) (d := d) (rt := rt) (mU _ g1)
  (repeat (first | (with_reducible apply wm_o; focus (simp (disch := omega) only [wr_id, Int.toNat_natCast, Int.reduceToNat, tn_lk, tn_kl, if_pos, if_neg, ↓reduceIte, and_self, and_true, true_and, FM, e18, e36, e54, up_ne, ez, w1, hr1]; with_reducible rfl)) | (with_reducible apply wm_q) | (with_reducible apply wm_c; focus (first | assumption | decide +kernel)) | (with_reducible apply wm_d; focus (simp (disch := omega) only [wr_id, Int.toNat_natCast, Int.reduceToNat, tn_lk, tn_kl, if_pos, if_neg, ↓reduceIte, and_self, and_true, true_and, FM, e18, e36, e54, up_ne, ez, w1, hr1]; with_reducible rfl)) | (with_reducible apply wm_t; focus (first | omega | (simp (disch := omega) only [wr_id, FM, e18, e36, e54, up_ne, ez, w1, hr1]; omega) | (simp (disch := omega) only [wr_id, FM, e18, e36, e54, up_ne, ez, w1, hr1]; done))) | (with_reducible apply wm_f; focus (first | omega | (simp (disch := omega) only [wr_id, FM, e18, e36, e54, up_ne, ez, w1, hr1]; omega) | (simp (disch := omega) only [wr_id, FM, e18, e36, e54, up_ne, ez, w1, hr1]; done)))))
  have g2 := fu 1 (((z % w : Nat)) : Int) g1
  have w2 := s_w (t := t) (d := d) (rt := rt) (mU _ g2)
  (repeat (first | (with_reducible apply wm_o; focus (simp (disch := omega) only [wr_id, Int.toNat_natCast, Int.reduceToNat, tn_lk, tn_kl, if_pos, if_neg, ↓reduceIte, and_self, and_true, true_and, FM, e18, e36, e54, up_ne, ez, w2, hd1]; with_reducible rfl)) | (with_reducible apply wm_q) | (with_reducible apply wm_c; focus (first | assumption | decide +kernel)) | (with_reducible apply wm_d; focus (simp (disch := omega) only [wr_id, Int.toNat_natCast, Int.reduceToNat, tn_lk, tn_kl, if_pos, if_neg, ↓reduceIte, and_self, and_true, true_and, FM, e18, e36, e54, up_ne, ez, w2, hd1]; with_reducible rfl)) | (with_reducible apply wm_t; focus (first | omega | (simp (disch := omega) only [wr_id, FM, e18, e36, e54, up_ne, ez, w2, hd1]; omega) | (simp (disch := omega) only [wr_id, FM, e18, e36, e54, up_ne, ez, w2, hd1]; done))) | (with_reducible apply wm_f; focus (first | omega | (simp (disch := omega) only [wr_id, FM, e18, e36, e54, up_ne, ez, w2, hd1]; omega) | (simp (disch := omega) only [wr_id, FM, e18, e36, e54, up_ne, ez, w2, hd1]; done)))))
  have g3 := fu 2 (((z / w : Nat)) : Int) g2
  have g4 := fu 3 (I 401 (36 + k)) g3
  have g5 := fu 4 (I 401 (54 + k)) g4
  have g6 := fu 5 (I 401 72) g5
  have g7 := fu 6 (k : Int) g6
  have w3 := s_stoneMany (t := t) (d := d) (rt := rt) (I := _) (show vRow (up (up (up (up (up (up (up I 398 0 (1 - I 401 (18 + k))) 398 1 (((z % w : Nat)) : Int)) 398 2 (((z / w : Nat)) : Int)) 398 3 (I 401 (36 + k))) 398 4 (I 401 (54 + k))) 398 5 (I 401 72)) 398 6 (k : Int) 401) by rw [g7.1 401 (by decide) (by decide)]; exact hv)
  rw [g7.1 401 (by decide) (by decide)] at w3
  (repeat (first | (with_reducible apply wm_o; focus (simp (disch := omega) only [wr_id, Int.toNat_natCast, Int.reduceToNat, tn_lk, tn_kl, if_pos, if_neg, ↓reduceIte, and_self, and_true, true_and, FM, w3, up_ne, c1, hnh]; with_reducible rfl)) | (with_reducible apply wm_q) | (with_reducible apply wm_c; focus (first | assumption | decide +kernel)) | (with_reducible apply wm_d; focus (simp (disch := omega) only [wr_id, Int.toNat_natCast, Int.reduceToNat, tn_lk, tn_kl, if_pos, if_neg, ↓reduceIte, and_self, and_true, true_and, FM, w3, up_ne, c1, hnh]; with_reducible rfl)) | (with_reducible apply wm_t; focus (first | omega | (simp (disch := omega) only [wr_id, FM, w3, up_ne, c1, hnh]; omega) | (simp (disch := omega) only [wr_id, FM, w3, up_ne, c1, hnh]; done))) | (with_reducible apply wm_f; focus (first | omega | (simp (disch := omega) only [wr_id, FM, w3, up_ne, c1, hnh]; omega) | (simp (disch := omega) only [wr_id, FM, w3, up_ne, c1, hnh]; done)))))
  have g8 := fu 7 ((rMany (I 401) : Nat) : Int) g7
  have g9 := fu 8 (nh : Int) g8
  refine wm_b (w_lawTells (vs := rV w nh (I 401) k) hq c2 (by rw [g9.2 18 (by simp)]; exact c1) (fun j hj => ?_) (pl := pl) (ifs := ifs) (x := x) ?_) (fun v J hJ => ?_)
  · have hj' : j = 0 ∨ j = 1 ∨ j = 2 ∨ j = 3 ∨ j = 4 ∨ j = 5 ∨ j = 6 ∨ j = 7 ∨ j = 8 := by omega
    rcases hj' with rfl | rfl | rfl | rfl | rfl | rfl | rfl | rfl | rfl <;> simp only [up_g, Nat.reduceEqDiff, ↓reduceIte, rV, ez, Int.toNat_natCast]
  · obtain ⟨hok, hC⟩ := hC
    refine ⟨hok, ?_⟩
    rw [g9.1 387 (by decide) (by decide), g9.1 388 (by decide) (by decide)]
    rcases hC with q | ⟨b, e, q1, q2, q3, q4⟩
    · exact Or.inl q
    · exact Or.inr ⟨b, e, q1, q2, q3, lwM_frm ⟨g9.1 389 (by decide) (by decide), g9.1 390 (by decide) (by decide), g9.1 391 (by decide) (by decide), g9.1 392 (by decide) (by decide), g9.1 393 (by decide) (by decide), g9.1 394 (by decide) (by decide), g9.1 395 (by decide) (by decide)⟩ q4⟩
  · obtain ⟨r, e1, e2⟩ := w_within (v := v) hm (M := mm t d rt J)
    (repeat (first | (with_reducible apply wm_o; focus (simp (disch := omega) only [wr_id, Int.toNat_natCast, Int.reduceToNat, tn_lk, tn_kl, if_pos, if_neg, ↓reduceIte, and_self, and_true, true_and, e1]; with_reducible rfl)) | (with_reducible apply wm_q) | (with_reducible apply wm_c; focus (first | assumption | decide +kernel)) | (with_reducible apply wm_d; focus (simp (disch := omega) only [wr_id, Int.toNat_natCast, Int.reduceToNat, tn_lk, tn_kl, if_pos, if_neg, ↓reduceIte, and_self, and_true, true_and, e1]; with_reducible rfl)) | (with_reducible apply wm_t; focus (first | omega | (simp (disch := omega) only [wr_id, e1]; omega) | (simp (disch := omega) only [wr_id, e1]; done))) | (with_reducible apply wm_f; focus (first | omega | (simp (disch := omega) only [wr_id, e1]; omega) | (simp (disch := omega) only [wr_id, e1]; done)))))
    refine wm_r ⟨by rw [e2, hJ.1], frM_trans (frM_sub g9 (fun a ha => Or.inl ha) (fun a ha => ha.elim)) (frM_sub hJ.2 (fun a ha => Or.inr ha) (fun a ha => ha))⟩
end MLT
