/-! ===== the model's laws ===== -/
/-- the model's frame: places S, and of its own fields T, may have changed -/
def frM (S T : Nat → Prop) (I J : Nat → Nat → Int) : Prop := (∀ a, a ≠ 369 → ¬ S a → J a = I a) ∧ ∀ j, ¬ T j → J 369 j = I 369 j
theorem frM_refl (S T : Nat → Prop) (I : Nat → Nat → Int) : frM S T I I := ⟨fun _ _ _ => rfl, fun _ _ => rfl⟩
theorem frM_trans {S T : Nat → Prop} {I J K : Nat → Nat → Int} (h1 : frM S T I J) (h2 : frM S T J K) : frM S T I K := ⟨fun a h0 ha => (h2.1 a h0 ha).trans (h1.1 a h0 ha), fun j hj => (h2.2 j hj).trans (h1.2 j hj)⟩
theorem frM_sub {S T S' T' : Nat → Prop} {I J : Nat → Nat → Int} (h : frM S T I J) (hs : ∀ a, S a → S' a) (ht : ∀ a, T a → T' a) : frM S' T' I J := ⟨fun a h0 ha => h.1 a h0 (fun q => ha (hs a q)), fun j hj => h.2 j (fun q => hj (ht j q))⟩
theorem frM_up {S T : Nat → Prop} {I J : Nat → Nat → Int} {a j : Nat} {v : Int} (h : frM S T I J) (h0 : a ≠ 369) (ha : S a) : frM S T I (up J a j v) := ⟨fun x hx hS => by
  rw [up_ne (fun e : x = a => hS (by rw [e]; exact ha))]
  exact h.1 x hx hS, fun i hi => by
  rw [up_ne (fun e => h0 e.symm)]
  exact h.2 i hi⟩
theorem frM_fd {S T : Nat → Prop} {I J : Nat → Nat → Int} {j : Nat} {v : Int} (h : frM S T I J) (ha : T j) : frM S T I (up J 369 j v) := ⟨fun x hx hS => by
  rw [up_ne hx]
  exact h.1 x hx hS, fun i hi => by
  rw [up_g, if_neg (fun e : i = j => hi (by rw [e]; exact ha))]
  exact h.2 i hi⟩
def mkC (x : CI) : CI := (if x.1 < 2 then x.1 else x.1 - 10, x.2)
def tmB (th : Nat) (x1 : Int) (x2 : Int) : (Int → Int → jMem → Option (Int × jMem)) → Int → Int → jMem → Option (Int × jMem) :=
(fun rec_5 (y3_5 : Int) (y4_5 : Int) (M_5 : jMem) =>
if jd_wr y4_5 < jd_wr x2 then ((jm_gR 12 39 M_5 th).bind fun r1 =>
(jm_ld 20 M_5 r1 y4_5).bind fun v2 =>
jjq (fun (y3_159 : Int) (M_159 : jMem) =>
rec_5 y3_159 (y4_5 + 1) M_159) fun j_159 =>
if jd_wr v2 < jd_wr 2 then ((jm_gR 12 45 M_5 th).bind fun r3 =>
jjq (fun (z0_58 : Int) =>
(jm_st 20 M_5 r3 y3_5 z0_58).bind fun M4 =>
j_159 (y3_5 + 1) M4) fun j_58 =>
if jd_wr v2 = 0 then ((jm_gR 12 40 M_5 th).bind fun r5 =>
(jm_ld 20 M_5 r5 y4_5).bind fun v6 =>
j_58 v6)
else ((jm_gR 12 44 M_5 th).bind fun r7 =>
(jm_gR 12 40 M_5 th).bind fun r8 =>
(jm_ld 20 M_5 r8 y4_5).bind fun v9 =>
(jm_ld 20 M_5 r7 v9).bind fun v10 =>
j_58 v10))
else ((jm_gR 12 45 M_5 th).bind fun r11 =>
(jm_ld 20 M_5 r11 ((y3_5 + (-1)) - 1)).bind fun v12 =>
(jm_gR 12 45 M_5 th).bind fun r13 =>
(jm_ld 20 M_5 r13 (y3_5 + (-1))).bind fun v14 =>
jjq ((jm_gR 12 45 M_5 th).bind fun r15 =>
jjq (fun (z0_158 : Int) =>
(jm_st 20 M_5 r15 ((y3_5 + (-1)) - 1) z0_158).bind fun M16 =>
j_159 (y3_5 + (-1)) M16) fun j_158 =>
if jd_wr v2 = jd_wr 2 then (j_158 (v12 + v14))
else (if jd_wr v2 = jd_wr 3 then (j_158 (v12 - v14))
else (if jd_wr v2 = jd_wr 4 then (j_158 (v12 * v14))
else ((jm_dv v12 v14).bind fun v17 =>
j_158 v17)))) fun j_104 =>
if jd_wr v2 = jd_wr 5 then (if jd_wr v14 = 0 then ((jm_pZ 12 46 M_5 th 1).bind fun M18 =>
some (0, M18))
else (j_104 ))
else (j_104 )))
else ((jm_gR 12 45 M_5 th).bind fun r19 =>
(jm_ld 20 M_5 r19 0).bind fun v20 =>
some (v20, M_5)))
theorem tm_eq (th : Nat) (x1 x2 : Int) (M : jMem) : f_X12_termOf th x1 x2 M = jlp3 (tmB th x1 x2) jfuel 0 x1 M := rfl
section MLW
variable {t d rt : Nat} {I : Nat → Nat → Int} {s w n nh l k : Nat} {ρ : Nat → Int} {vs : Nat → Int} {Q : Int → (Nat → Nat → Int) → Prop}
theorem tm_num {x1 : Int} {p top e : Nat} {v : Int} (hp : p < e) (he : e ≤ 840) (ht : top < 400) (a : I 394 p = 0) (b : I 395 p = v) {rec : Int → Int → jMem → Option (Int × jMem)} (h : wm t d rt (rec ((top : Int) + 1) ((p : Int) + 1) (mm t d rt (up I 399 top v))) Q) : wm t d rt (tmB 369 x1 (e : Int) rec (top : Int) (p : Int) (mm t d rt I)) Q := by
  unfold tmB
  (repeat (first | (with_reducible apply wm_o; focus (simp (disch := omega) only [wr_id, Int.toNat_natCast, Int.reduceToNat, tn_lk, tn_kl, if_pos, if_neg, ↓reduceIte, and_self, and_true, true_and, FM, a, b]; with_reducible rfl)) | (with_reducible apply wm_q) | (with_reducible apply wm_c; focus (first | assumption | decide +kernel)) | (with_reducible apply wm_d; focus (simp (disch := omega) only [wr_id, Int.toNat_natCast, Int.reduceToNat, tn_lk, tn_kl, if_pos, if_neg, ↓reduceIte, and_self, and_true, true_and, FM, a, b]; with_reducible rfl)) | (with_reducible apply wm_t; focus (first | omega | (simp (disch := omega) only [wr_id, FM, a, b]; omega) | (simp (disch := omega) only [wr_id, FM, a, b]; done))) | (with_reducible apply wm_f; focus (first | omega | (simp (disch := omega) only [wr_id, FM, a, b]; omega) | (simp (disch := omega) only [wr_id, FM, a, b]; done)))))
  exact h
theorem tm_var {x1 : Int} {p top e j : Nat} (hp : p < e) (he : e ≤ 840) (ht : top < 400) (hj : j < 9) (a : I 394 p = 1) (b : I 395 p = (j : Int)) {rec : Int → Int → jMem → Option (Int × jMem)} (h : wm t d rt (rec ((top : Int) + 1) ((p : Int) + 1) (mm t d rt (up I 399 top (I 398 j)))) Q) : wm t d rt (tmB 369 x1 (e : Int) rec (top : Int) (p : Int) (mm t d rt I)) Q := by
  unfold tmB
  (repeat (first | (with_reducible apply wm_o; focus (simp (disch := omega) only [wr_id, Int.toNat_natCast, Int.reduceToNat, tn_lk, tn_kl, if_pos, if_neg, ↓reduceIte, and_self, and_true, true_and, FM, a, b]; with_reducible rfl)) | (with_reducible apply wm_q) | (with_reducible apply wm_c; focus (first | assumption | decide +kernel)) | (with_reducible apply wm_d; focus (simp (disch := omega) only [wr_id, Int.toNat_natCast, Int.reduceToNat, tn_lk, tn_kl, if_pos, if_neg, ↓reduceIte, and_self, and_true, true_and, FM, a, b]; with_reducible rfl)) | (with_reducible apply wm_t; focus (first | omega | (simp (disch := omega) only [wr_id, FM, a, b]; omega) | (simp (disch := omega) only [wr_id, FM, a, b]; done))) | (with_reducible apply wm_f; focus (first | omega | (simp (disch := omega) only [wr_id, FM, a, b]; omega) | (simp (disch := omega) only [wr_id, FM, a, b]; done)))))
  exact h
theorem tm_op {x1 : Int} {p top e o : Nat} (hp : p < e) (he : e ≤ 840) (ht : top + 2 ≤ 400) (ho : o = 12 ∨ o = 13 ∨ o = 14 ∨ o = 15) (a : I 394 p = ((o - 10 : Nat) : Int)) (hz : ¬ (o = 15 ∧ jnl (I 399 (top + 1)) = true)) {rec : Int → Int → jMem → Option (Int × jMem)} (h : wm t d rt (rec ((top : Int) + 1) ((p : Int) + 1) (mm t d rt (up I 399 top (jnV jdv o (I 399 top) (I 399 (top + 1)))))) Q) : wm t d rt (tmB 369 x1 (e : Int) rec ((top : Int) + 2) (p : Int) (mm t d rt I)) Q := by
  have e1 : (top : Int) + 1 - 1 = (top : Int) := by omega
  have e2 : (top : Int) + 2 + (-1) = (top : Int) + 1 := by omega
  unfold tmB
  rcases ho with rfl | rfl | rfl | rfl
  · have a' : I 394 p = 2 := a
    (repeat (first | (with_reducible apply wm_o; focus (simp (disch := omega) only [wr_id, Int.toNat_natCast, Int.reduceToNat, tn_lk, tn_kl, if_pos, if_neg, ↓reduceIte, and_self, and_true, true_and, FM, a', e1, e2]; with_reducible rfl)) | (with_reducible apply wm_q) | (with_reducible apply wm_c; focus (first | assumption | decide +kernel)) | (with_reducible apply wm_d; focus (simp (disch := omega) only [wr_id, Int.toNat_natCast, Int.reduceToNat, tn_lk, tn_kl, if_pos, if_neg, ↓reduceIte, and_self, and_true, true_and, FM, a', e1, e2]; with_reducible rfl)) | (with_reducible apply wm_t; focus (first | omega | (simp (disch := omega) only [wr_id, FM, a', e1, e2]; omega) | (simp (disch := omega) only [wr_id, FM, a', e1, e2]; done))) | (with_reducible apply wm_f; focus (first | omega | (simp (disch := omega) only [wr_id, FM, a', e1, e2]; omega) | (simp (disch := omega) only [wr_id, FM, a', e1, e2]; done)))))
    simp only [e2]
    exact h
  · have a' : I 394 p = 3 := a
    (repeat (first | (with_reducible apply wm_o; focus (simp (disch := omega) only [wr_id, Int.toNat_natCast, Int.reduceToNat, tn_lk, tn_kl, if_pos, if_neg, ↓reduceIte, and_self, and_true, true_and, FM, a', e1, e2]; with_reducible rfl)) | (with_reducible apply wm_q) | (with_reducible apply wm_c; focus (first | assumption | decide +kernel)) | (with_reducible apply wm_d; focus (simp (disch := omega) only [wr_id, Int.toNat_natCast, Int.reduceToNat, tn_lk, tn_kl, if_pos, if_neg, ↓reduceIte, and_self, and_true, true_and, FM, a', e1, e2]; with_reducible rfl)) | (with_reducible apply wm_t; focus (first | omega | (simp (disch := omega) only [wr_id, FM, a', e1, e2]; omega) | (simp (disch := omega) only [wr_id, FM, a', e1, e2]; done))) | (with_reducible apply wm_f; focus (first | omega | (simp (disch := omega) only [wr_id, FM, a', e1, e2]; omega) | (simp (disch := omega) only [wr_id, FM, a', e1, e2]; done)))))
    simp only [e2]
    exact h
  · have a' : I 394 p = 4 := a
    (repeat (first | (with_reducible apply wm_o; focus (simp (disch := omega) only [wr_id, Int.toNat_natCast, Int.reduceToNat, tn_lk, tn_kl, if_pos, if_neg, ↓reduceIte, and_self, and_true, true_and, FM, a', e1, e2]; with_reducible rfl)) | (with_reducible apply wm_q) | (with_reducible apply wm_c; focus (first | assumption | decide +kernel)) | (with_reducible apply wm_d; focus (simp (disch := omega) only [wr_id, Int.toNat_natCast, Int.reduceToNat, tn_lk, tn_kl, if_pos, if_neg, ↓reduceIte, and_self, and_true, true_and, FM, a', e1, e2]; with_reducible rfl)) | (with_reducible apply wm_t; focus (first | omega | (simp (disch := omega) only [wr_id, FM, a', e1, e2]; omega) | (simp (disch := omega) only [wr_id, FM, a', e1, e2]; done))) | (with_reducible apply wm_f; focus (first | omega | (simp (disch := omega) only [wr_id, FM, a', e1, e2]; omega) | (simp (disch := omega) only [wr_id, FM, a', e1, e2]; done)))))
    simp only [e2]
    exact h
  · have a' : I 394 p = 5 := a
    have z : ¬ jd_wr (I 399 (top + 1)) = 0 := fun q => hz ⟨rfl, by unfold jnl; exact decide_eq_true q⟩
    have e3 : jm_dv (I 399 top) (I 399 (top + 1)) = some (jdv (I 399 top) (I 399 (top + 1))) := by unfold jm_dv jdv; rw [if_neg z]
    (repeat (first | (with_reducible apply wm_o; focus (simp (disch := omega) only [wr_id, Int.toNat_natCast, Int.reduceToNat, tn_lk, tn_kl, if_pos, if_neg, ↓reduceIte, and_self, and_true, true_and, FM, a', e1, e2, e3]; with_reducible rfl)) | (with_reducible apply wm_q) | (with_reducible apply wm_c; focus (first | assumption | decide +kernel)) | (with_reducible apply wm_d; focus (simp (disch := omega) only [wr_id, Int.toNat_natCast, Int.reduceToNat, tn_lk, tn_kl, if_pos, if_neg, ↓reduceIte, and_self, and_true, true_and, FM, a', e1, e2, e3]; with_reducible rfl)) | (with_reducible apply wm_t; focus (first | omega | (simp (disch := omega) only [wr_id, FM, a', e1, e2, e3]; omega) | (simp (disch := omega) only [wr_id, FM, a', e1, e2, e3]; done))) | (with_reducible apply wm_f; focus (first | omega | (simp (disch := omega) only [wr_id, FM, a', e1, e2, e3]; omega) | (simp (disch := omega) only [wr_id, FM, a', e1, e2, e3]; done)))))
    simp only [e2]
    exact h
theorem tm_zero {x1 : Int} {p top e : Nat} (hp : p < e) (he : e ≤ 840) (ht : top + 2 ≤ 400) (a : I 394 p = 5) (hz : jnl (I 399 (top + 1)) = true) {rec : Int → Int → jMem → Option (Int × jMem)} (h : Q 0 (up I 369 46 1)) : wm t d rt (tmB 369 x1 (e : Int) rec ((top : Int) + 2) (p : Int) (mm t d rt I)) Q := by
  have e1 : (top : Int) + 1 - 1 = (top : Int) := by omega
  have e2 : (top : Int) + 2 + (-1) = (top : Int) + 1 := by omega
  have z : jd_wr (I 399 (top + 1)) = 0 := by unfold jnl at hz; simpa using hz
  have hw1 : jd_wr 1 = 1 := by decide +kernel
  unfold tmB
  (repeat (first | (with_reducible apply wm_o; focus (simp (disch := omega) only [wr_id, Int.toNat_natCast, Int.reduceToNat, tn_lk, tn_kl, if_pos, if_neg, ↓reduceIte, and_self, and_true, true_and, FM, a, e1, e2, hw1]; with_reducible rfl)) | (with_reducible apply wm_q) | (with_reducible apply wm_c; focus (first | assumption | decide +kernel)) | (with_reducible apply wm_d; focus (simp (disch := omega) only [wr_id, Int.toNat_natCast, Int.reduceToNat, tn_lk, tn_kl, if_pos, if_neg, ↓reduceIte, and_self, and_true, true_and, FM, a, e1, e2, hw1]; with_reducible rfl)) | (with_reducible apply wm_t; focus (first | omega | (simp (disch := omega) only [wr_id, FM, a, e1, e2, hw1]; omega) | (simp (disch := omega) only [wr_id, FM, a, e1, e2, hw1]; done))) | (with_reducible apply wm_f; focus (first | omega | (simp (disch := omega) only [wr_id, FM, a, e1, e2, hw1]; omega) | (simp (disch := omega) only [wr_id, FM, a, e1, e2, hw1]; done)))))
  exact wm_r h
theorem tm_end {x1 : Int} {e : Nat} (he : e ≤ 840) {top : Int} {rec : Int → Int → jMem → Option (Int × jMem)} (h : Q (I 399 0) I) : wm t d rt (tmB 369 x1 (e : Int) rec top (e : Int) (mm t d rt I)) Q := by
  unfold tmB
  (repeat (first | (with_reducible apply wm_o; focus (simp (disch := omega) only [wr_id, Int.toNat_natCast, Int.reduceToNat, tn_lk, tn_kl, if_pos, if_neg, ↓reduceIte, and_self, and_true, true_and, FM]; with_reducible rfl)) | (with_reducible apply wm_q) | (with_reducible apply wm_c; focus (first | assumption | decide +kernel)) | (with_reducible apply wm_d; focus (simp (disch := omega) only [wr_id, Int.toNat_natCast, Int.reduceToNat, tn_lk, tn_kl, if_pos, if_neg, ↓reduceIte, and_self, and_true, true_and, FM]; with_reducible rfl)) | (with_reducible apply wm_t; focus (first | omega | (simp (disch := omega) only [wr_id, FM]; omega) | (simp (disch := omega) only [wr_id, FM]; done))) | (with_reducible apply wm_f; focus (first | omega | (simp (disch := omega) only [wr_id, FM]; omega) | (simp (disch := omega) only [wr_id, FM]; done)))))
  exact wm_r h
theorem tm_code {x1 : Int} {e : Nat} (he : e ≤ 840) {f : Nat} : ∀ (cs : List CI) (p : Nat) (st : List Int) (I : Nat → Nat → Int), (∀ j, j < 9 → I 398 j = vs j) → cdAt (I 394) (I 395) p (cs.map mkC) → p + cs.length ≤ e → (∃ q, hOK 32 cs st.length = some q) → (∀ x, x ∈ cs → ciOK x) → st.length ≤ 32 → plAt (I 399) st → (evC jdv jnl vs cs st = none → ∀ J, frM (fun a => a = 399) (fun j => j = 46) I J → J 369 46 = 1 → Q 0 J) → (∀ st', evC jdv jnl vs cs st = some st' → ∀ J, frM (fun a => a = 399) (fun j => j = 46) I J → J 369 46 = I 369 46 → plAt (J 399) st' → wm t d rt (jlp3 (tmB 369 x1 (e : Int)) f (st'.length : Int) ((p + cs.length : Nat) : Int) (mm t d rt J)) Q) → wm t d rt (jlp3 (tmB 369 x1 (e : Int)) (f + cs.length) (st.length : Int) (p : Int) (mm t d rt I)) Q := by
  intro cs
  induction cs with
  | nil =>
    intro p st I _ _ _ _ _ _ hp _ h
    exact h st rfl I (frM_refl _ _ _) rfl hp
  | cons x r ih =>
    intro p st I hvs hcd hps hok hci h32 hp hnone hsome
    rw [List.length_cons] at hps
    rw [List.map_cons] at hcd
    obtain ⟨c1, c2, c3⟩ := hcd
    obtain ⟨q, hok⟩ := hok
    have lift : ∀ (v : Int) (j : Nat), frM (fun a => a = 399) (fun j => j = 46) I (up I 399 j v) := fun v j => frM_up (frM_refl _ _ _) (by decide) rfl
    have next : ∀ (v : Int) (st1 : List Int), st1.length < 32 → plAt (I 399) st1 → (∃ q, hOK 32 r (v :: st1).length = some q) → evC jdv jnl vs (x :: r) st = evC jdv jnl vs r (v :: st1) → wm t d rt (jlp3 (tmB 369 x1 (e : Int)) (f + r.length) ((st1.length : Int) + 1) ((p : Int) + 1) (mm t d rt (up I 399 st1.length v))) Q := by
      intro v st1 hl1 hp1 hok1 hev
      have e46 : up I 399 st1.length v 369 46 = I 369 46 := by rw [up_ne (by decide)]
      have q := ih (p + 1) (v :: st1) (up I 399 st1.length v) (by rw [up_ne (by decide)]; exact hvs) (by rw [up_ne (by decide), up_ne (by decide)]; exact c3) (by omega) hok1 (fun y hy => hci y (List.mem_cons_of_mem _ hy)) (by rw [List.length_cons]; omega) (by rw [up_row]; exact plAt_push hp1) (fun ee J hJ h46 => hnone (by rw [hev]; exact ee) J (frM_trans (lift _ _) hJ) h46) (fun st' ee J hJ h46 hpl => by
        have z := hsome st' (by rw [hev]; exact ee) J (frM_trans (lift _ _) hJ) (h46.trans e46) hpl
        rw [List.length_cons] at z
        rw [show p + 1 + r.length = p + (r.length + 1) by omega]
        exact z)
      rw [List.length_cons] at q
      rw [show ((p : Int) + 1) = ((p + 1 : Nat) : Int) by omega, show ((st1.length : Int) + 1) = ((st1.length + 1 : Nat) : Int) by omega]
      exact q
    rw [List.length_cons, ← Nat.add_assoc, jlp3_s]
    rcases hci x (List.mem_cons_self ..) with z | ⟨j, hj, z⟩ | ⟨o, z, ho⟩
    · rw [hOK, if_pos (by omega)] at hok
      have ht : st.length < 32 := by
        by_cases q : st.length < 32
        · exact q
        · rw [if_neg q] at hok; cases hok
      rw [if_pos ht] at hok
      exact tm_num (by omega) he (by omega) (by rw [c1]; unfold mkC; simp [z]) c2 (next x.2 st ht hp ⟨q, hok⟩ (evC_0 z))
    · subst z
      rw [hOK, if_pos (by unfold cVar; simp)] at hok
      have ht : st.length < 32 := by
        by_cases q : st.length < 32
        · exact q
        · rw [if_neg q] at hok; cases hok
      rw [if_pos ht] at hok
      refine tm_var (by omega) he (by omega) hj c1 c2 ?_
      rw [hvs j hj]
      exact next _ st ht hp ⟨q, hok⟩ evC_1
    · subst z
      have hog := op_ge ho
      have hmk : (mkC (cOp o)).1 = o - 10 := by unfold mkC cOp; rw [if_neg (by omega)]
      rw [hOK, if_neg (by unfold cOp; simp; omega)] at hok
      have ht : 2 ≤ st.length := by
        by_cases q : 2 ≤ st.length
        · exact q
        · rw [if_neg q] at hok; cases hok
      rw [if_pos ht] at hok
      match st, ht, h32, hp, hok, hnone, hsome, next with
      | b :: a :: s0, ht, h32, hp, hok, hnone, hsome, next =>
        obtain ⟨p1, p2, p3⟩ := hp
        have e12 := evC_2 (dv := jdv) (nil := jnl) (vs := vs) hog.1 (r := r) (a := a) (b := b) (st := s0)
        have el : (((b :: a :: s0).length : Nat) : Int) = (s0.length : Int) + 2 := by simp only [List.length_cons]; omega
        rw [List.length_cons] at p1
        rw [el]
        have hs32 : s0.length + 2 ≤ 32 := by simp only [List.length_cons] at h32; omega
        rw [hmk] at c1
        by_cases z : o = 15 ∧ jnl b = true
        · rw [if_pos z] at e12
          exact tm_zero (by omega) he (by omega) (by rw [c1, z.1]; rfl) (by rw [p1]; exact z.2) (hnone e12 _ (frM_fd (frM_refl _ _ _) rfl) (by rw [up_g, if_pos rfl]))
        · rw [if_neg z] at e12
          refine tm_op (o := o) (by omega) he (by omega) (by omega) c1 (by rw [p1]; exact z) ?_
          rw [p1, p2]
          exact next _ s0 (by omega) p3 ⟨q, by simpa using hok⟩ e12
theorem w_termOf {p : Nat} {cs : List CI} (hc : sOK cs) (hvs : ∀ j, j < 9 → I 398 j = vs j) (hcd : cdAt (I 394) (I 395) p (cs.map mkC)) (hp : p + cs.length ≤ 840) : wm t d rt (f_X12_termOf 369 (p : Int) ((p + cs.length : Nat) : Int) (mm t d rt I)) (fun r J => r = (evV jdv jnl vs cs).getD 0 ∧ frM (fun a => a = 399) (fun j => j = 46) I J ∧ J 369 46 = if (evV jdv jnl vs cs).isNone then 1 else I 369 46) := by
  have hv := evC_val (dv := jdv) (nil := jnl) (vs := vs) hc.2.1 []
  rw [tm_eq]
  obtain ⟨f, hf⟩ : ∃ f, jfuel = (f + 1) + cs.length := ⟨jfuel - 1 - cs.length, by
    have := jfuel_n (show 841 < 1000000 by decide)
    omega⟩
  rw [hf]
  refine tm_code hp cs p [] I hvs hcd (by omega) ⟨_, hc.2.1⟩ hc.1 (by decide) True.intro (fun e J hJ h46 => ?_) (fun st' e J hJ h46 hpl => ?_)
  · rw [hv] at e
    cases q : evV jdv jnl vs cs with
    | none => exact ⟨rfl, hJ, h46⟩
    | some v => rw [q] at e; cases e
  · rw [hv] at e
    cases q : evV jdv jnl vs cs with
    | none => rw [q] at e; cases e
    | some v =>
      rw [q] at e
      injection e with e
      subst e
      rw [jlp3_s]
      exact tm_end hp ⟨hpl.1, hJ, h46⟩
end MLW
