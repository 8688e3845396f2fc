/-! ===== the class's laws: a code's value ===== -/
/-- the turn of worth's loop -/
def wkB (th : Nat) (x1 : Int) (a2 : Nat) (x3 : Int) (x4 : Int) : (Int → Int → Int → jMem → Option (Int × jMem)) → Int → Int → Int → jMem → Option (Int × jMem) :=
(fun rec_14 (y5_14 : Int) (y6_14 : Int) (y7_14 : Int) (M_14 : jMem) =>
if jd_wr y7_14 < jd_wr 404 then (if jd_wr y5_14 < 0 then (some (0, M_14))
else ((jm_gI 2 4 M_14 th).bind fun v3 =>
if jd_wr y5_14 < jd_wr v3 then ((jm_gR 2 0 M_14 th).bind fun r4 =>
(jm_ld 20 M_14 r4 y5_14).bind fun v5 =>
(jm_gR 2 1 M_14 th).bind fun r6 =>
(jm_ld 20 M_14 r6 y5_14).bind fun v7 =>
if jd_wr v5 = jd_wr 3 then (if jd_wr y6_14 ≤ 0 then (some (0, M_14))
else ((jm_gR 2 3 M_14 th).bind fun r8 =>
(jm_ld 20 M_14 r8 (y6_14 - 1)).bind fun v9 =>
some (v9, M_14)))
else (jjq (fun (y5_223 : Int) (y6_223 : Int) (M_223 : jMem) =>
rec_14 y5_223 y6_223 (y7_14 + 1) M_223) fun j_223 =>
jjq (if jd_wr y6_14 < jd_wr 32 then ((jm_gR 2 3 M_14 th).bind fun r10 =>
jjq (fun (z0_127 : Int) (M_127 : jMem) =>
(jm_st 20 M_127 r10 y6_14 z0_127).bind fun M11 =>
j_223 (y5_14 + 1) (y6_14 + 1) M11) fun j_127 =>
if jd_wr v5 = 0 then (j_127 v7 M_14)
else (jbd (f_X2_variable v7 a2 x3 x4 M_14) fun v12 M13 =>
j_127 v12 M13))
else (some (0, M_14))) fun j_93 =>
if jd_wr v5 = 0 then (j_93 )
else (if jd_wr v5 = jd_wr 1 then (j_93 )
else (if jd_wr y6_14 < jd_wr 2 then (some (0, M_14))
else ((jm_gR 2 3 M_14 th).bind fun r14 =>
(jm_ld 20 M_14 r14 (y6_14 + (-2))).bind fun v15 =>
(jm_gR 2 3 M_14 th).bind fun r16 =>
(jm_ld 20 M_14 r16 ((y6_14 + (-2)) + 1)).bind fun v17 =>
if jd_wr v5 = jd_wr 2 then (jjq (fun (z0_185 : Int) =>
j_223 z0_185 (y6_14 + (-2)) M_14) fun j_185 =>
if jd_wr v15 < jd_wr v17 then (j_185 (y5_14 + 1))
else (j_185 v7))
else (jjq ((jm_gR 2 3 M_14 th).bind fun r18 =>
jbd (f_X2_joined v5 v15 v17 M_14) fun v19 M20 =>
(jm_st 20 M20 r18 (y6_14 + (-2)) v19).bind fun M21 =>
j_223 (y5_14 + 1) ((y6_14 + (-2)) + 1) M21) fun j_204 =>
if jd_wr v5 = jd_wr 15 then (if jd_wr v17 = 0 then (some (0, M_14))
else (j_204 ))
else (j_204 )))))))
else (some (0, M_14))))
else (some (0, M_14)))
theorem wk_eq (th : Nat) (x1 : Int) (a2 : Nat) (x3 : Int) (x4 : Int) (M : jMem) : f_X2_worth th x1 a2 x3 x4 M = (jm_gR 2 2 M th).bind fun r1 => (jm_ld 20 M r1 x1).bind fun v2 => jlp4 (wkB th x1 a2 x3 x4) jfuel v2 0 0 M := rfl
def jdv (a b : Int) : Int := Int.tdiv (jd_wr a) (jd_wr b)
def jnl (b : Int) : Bool := decide (jd_wr b = 0)
def jlt (a b : Int) : Bool := decide (jd_wr a < jd_wr b)
/-- a code lies at p -/
def cdAt (A B : Nat → Int) : Nat → List CI → Prop
  | _, [] => True
  | p, x :: r => A p = (x.1 : Int) ∧ B p = x.2 ∧ cdAt A B (p + 1) r
/-- a pile lies -/
def plAt (P : Nat → Int) : List Int → Prop
  | [] => True
  | x :: r => P r.length = x ∧ plAt P r
theorem plAt_up {P : Nat → Int} {j : Nat} {v : Int} : ∀ {s : List Int}, s.length ≤ j → plAt P s → plAt (rSet P j v) s
  | [], _, _ => True.intro
  | x :: r, h, hp => by
    rw [List.length_cons] at h
    exact ⟨by rw [rSet_n (by omega)]; exact hp.1, plAt_up (by omega) hp.2⟩
theorem plAt_push {P : Nat → Int} {v : Int} {s : List Int} (h : plAt P s) : plAt (rSet P s.length v) (v :: s) := ⟨rSet_s, plAt_up (Nat.le_refl _) h⟩
theorem up_row {I : Nat → Nat → Int} {a j : Nat} {v : Int} : up I a j v a = rSet (I a) j v := by
  funext y
  rw [up_g]
  rfl
/-- what the variables of couple k are -/
def rV (w nh : Nat) (ρ : Nat → Int) (k j : Nat) : Int := if j = 0 then 1 - ρ (18 + k) else if j = 1 then (((ρ k).toNat % w : Nat) : Int) else if j = 2 then (((ρ k).toNat / w : Nat) : Int) else if j = 3 then ρ (36 + k) else if j = 4 then ρ (54 + k) else if j = 5 then ρ 72 else if j = 6 then (k : Int) else if j = 7 then (rMany ρ : Int) else (nh : Int)
section LW
variable {t d rt : Nat} {I : Nat → Nat → Int} {s w n nh l k : Nat} {ρ : Nat → Int} {hl : Nat → Bool} {Q : Int → (Nat → Nat → Int) → Prop}
theorem w_variable (hs : s ∈ stL) (hw : 2 ≤ w ∧ w ≤ 6) (hn : n ≤ 36) (hr : rOK w n hl ρ) (h : stR I s w ρ) {j : Nat} (hk : k < 18) (hj : j < 9) (h0 : 0 ≤ ρ k) : f_X2_variable (j : Int) s (k : Int) (nh : Int) (mm t d rt I) = some (rV w nh ρ k j, mm t d rt I) := by
  have h1 := h.1 k hk
  rw [if_pos h0] at h1
  obtain ⟨f1, f2, f3⟩ := h.2.1 k hk h0
  obtain ⟨_, _, _, _, h5, h6, h7, _, _⟩ := h
  have hb : ρ k < 36 ∧ (ρ (18 + k) = 0 ∨ ρ (18 + k) = 1) := by rcases hr.1 k hk with q | q <;> omega
  obtain ⟨c, ec⟩ : ∃ c : Nat, ρ k = (c : Int) := ⟨(ρ k).toNat, by omega⟩
  have hr1 : ∀ M : jMem, f_X4_columnOf (c : Int) (w : Int) M = some (((c % w : Nat) : Int), M) := fun M => col_n (by omega) (by omega) (by omega) M
  have hd1 : ∀ M : jMem, f_X4_rowOf (c : Int) (w : Int) M = some (((c / w : Nat) : Int), M) := fun M => row_n (by omega) (by omega) (by omega) M
  have ec2 : (ρ k).toNat = c := by omega
  have hj' : j = 0 ∨ j = 1 ∨ j = 2 ∨ j = 3 ∨ j = 4 ∨ j = 5 ∨ j = 6 ∨ j = 7 ∨ j = 8 := by omega
  rcases hj' with rfl | rfl | rfl | rfl | rfl | rfl | rfl | rfl | rfl
  · rcases hb.2 with z | z
    · have g : I (s + 2) k = 1 := by omega
      simp (disch := omega) only [Option.bind_some, jbd_s, jjq, jz0, jz1, wr_id, Int.toNat_natCast, Int.reduceToNat, tn_lk, tn_kl, if_true, if_false, Bool.false_eq_true, reduceCtorEq, ↓reduceIte, if_pos, if_neg, f_X2_variable, FState hs, g, rV, z]
      rfl
    · have g : I (s + 2) k = 0 := by omega
      simp (disch := omega) only [Option.bind_some, jbd_s, jjq, jz0, jz1, wr_id, Int.toNat_natCast, Int.reduceToNat, tn_lk, tn_kl, if_true, if_false, Bool.false_eq_true, reduceCtorEq, ↓reduceIte, if_pos, if_neg, f_X2_variable, FState hs, g, rV, z]
      rfl
  all_goals simp (disch := omega) only [Option.bind_some, jbd_s, jjq, jz0, jz1, wr_id, Int.toNat_natCast, Int.reduceToNat, tn_lk, tn_kl, if_true, if_false, Bool.false_eq_true, reduceCtorEq, ↓reduceIte, if_pos, if_neg, f_X2_variable, FState hs, rV, h1, ec, ec2, h5, hr1, hd1, f2, f3, h6, h7, Nat.reduceEqDiff]
theorem wk_num (hl' : l ∈ [11, 24]) {x1 : Int} {sp p top m : Nat} {v : Int} (h4 : I l 4 = (sp : Int)) (hsp : sp ≤ 404) (hp : p < sp) (hm : m ≤ p) (ht : top < 32) (a : I (l + 1) p = 0) (b : I (l + 2) p = v) {rec : Int → Int → Int → jMem → Option (Int × jMem)} (h : wm t d rt (rec ((p : Int) + 1) ((top : Int) + 1) ((m : Int) + 1) (mm t d rt (up I (l + 4) top v))) Q) : wm t d rt (wkB l x1 s k nh rec (p : Int) (top : Int) (m : Int) (mm t d rt I)) Q := by
  unfold wkB
  (repeat (first | (with_reducible apply wm_o; focus (simp (disch := omega) only [wr_id, Int.toNat_natCast, Int.reduceToNat, tn_lk, tn_kl, if_pos, if_neg, ↓reduceIte, and_self, and_true, true_and, FLaws hl', h4, a, b]; with_reducible rfl)) | (with_reducible apply wm_q) | (with_reducible apply wm_c; focus (first | assumption | decide +kernel)) | (with_reducible apply wm_d; focus (simp (disch := omega) only [wr_id, Int.toNat_natCast, Int.reduceToNat, tn_lk, tn_kl, if_pos, if_neg, ↓reduceIte, and_self, and_true, true_and, FLaws hl', h4, a, b]; with_reducible rfl)) | (with_reducible apply wm_t; focus (first | omega | (simp (disch := omega) only [wr_id, FLaws hl', h4, a, b]; omega) | (simp (disch := omega) only [wr_id, FLaws hl', h4, a, b]; done))) | (with_reducible apply wm_f; focus (first | omega | (simp (disch := omega) only [wr_id, FLaws hl', h4, a, b]; omega) | (simp (disch := omega) only [wr_id, FLaws hl', h4, a, b]; done)))))
  exact h
theorem wk_var (hl' : l ∈ [11, 24]) (hs : s ∈ stL) (hw : 2 ≤ w ∧ w ≤ 6) (hn : n ≤ 36) (hr : rOK w n hl ρ) (hst : stR I s w ρ) (hk : k < 18) (h0 : 0 ≤ ρ k) {x1 : Int} {sp p top m j : Nat} (hj : j < 9) (h4 : I l 4 = (sp : Int)) (hsp : sp ≤ 404) (hp : p < sp) (hm : m ≤ p) (ht : top < 32) (a : I (l + 1) p = 1) (b : I (l + 2) p = (j : Int)) {rec : Int → Int → Int → jMem → Option (Int × jMem)} (h : wm t d rt (rec ((p : Int) + 1) ((top : Int) + 1) ((m : Int) + 1) (mm t d rt (up I (l + 4) top (rV w nh ρ k j)))) Q) : wm t d rt (wkB l x1 s k nh rec (p : Int) (top : Int) (m : Int) (mm t d rt I)) Q := by
  unfold wkB
  (repeat (first | (with_reducible apply wm_o; focus (simp (disch := omega) only [wr_id, Int.toNat_natCast, Int.reduceToNat, tn_lk, tn_kl, if_pos, if_neg, ↓reduceIte, and_self, and_true, true_and, FLaws hl', h4, a, b, w_variable hs hw hn hr hst hk hj h0]; with_reducible rfl)) | (with_reducible apply wm_q) | (with_reducible apply wm_c; focus (first | assumption | decide +kernel)) | (with_reducible apply wm_d; focus (simp (disch := omega) only [wr_id, Int.toNat_natCast, Int.reduceToNat, tn_lk, tn_kl, if_pos, if_neg, ↓reduceIte, and_self, and_true, true_and, FLaws hl', h4, a, b, w_variable hs hw hn hr hst hk hj h0]; with_reducible rfl)) | (with_reducible apply wm_t; focus (first | omega | (simp (disch := omega) only [wr_id, FLaws hl', h4, a, b, w_variable hs hw hn hr hst hk hj h0]; omega) | (simp (disch := omega) only [wr_id, FLaws hl', h4, a, b, w_variable hs hw hn hr hst hk hj h0]; done))) | (with_reducible apply wm_f; focus (first | omega | (simp (disch := omega) only [wr_id, FLaws hl', h4, a, b, w_variable hs hw hn hr hst hk hj h0]; omega) | (simp (disch := omega) only [wr_id, FLaws hl', h4, a, b, w_variable hs hw hn hr hst hk hj h0]; done)))))
  exact h
theorem wk_op (hl' : l ∈ [11, 24]) {x1 : Int} {sp p top m o : Nat} (ho : o = 12 ∨ o = 13 ∨ o = 14 ∨ o = 15) (h4 : I l 4 = (sp : Int)) (hsp : sp ≤ 404) (hp : p < sp) (hm : m ≤ p) (ht : top + 2 ≤ 32) (a : I (l + 1) p = (o : Int)) (hz : ¬ (o = 15 ∧ jnl (I (l + 4) (top + 1)) = true)) {rec : Int → Int → Int → jMem → Option (Int × jMem)} (h : wm t d rt (rec ((p : Int) + 1) ((top : Int) + 1) ((m : Int) + 1) (mm t d rt (up I (l + 4) top (jnV jdv o (I (l + 4) top) (I (l + 4) (top + 1)))))) Q) : wm t d rt (wkB l x1 s k nh rec (p : Int) ((top : Int) + 2) (m : Int) (mm t d rt I)) Q := by
  have e2 : (top : Int) + 2 + (-2) = (top : Int) := by omega
  have e3 : f_X2_joined (o : Int) (I (l + 4) top) (I (l + 4) (top + 1)) (mm t d rt I) = some (jnV jdv o (I (l + 4) top) (I (l + 4) (top + 1)), mm t d rt I) := by
    refine wm_eq ?_
    unfold f_X2_joined
    rcases ho with rfl | rfl | rfl | rfl
    · (repeat (first | (with_reducible apply wm_o; focus (simp (disch := omega) only [wr_id, Int.toNat_natCast, Int.reduceToNat, tn_lk, tn_kl, if_pos, if_neg, ↓reduceIte, and_self, and_true, true_and]; with_reducible rfl)) | (with_reducible apply wm_q) | (with_reducible apply wm_c; focus (first | assumption | decide +kernel)) | (with_reducible apply wm_d; focus (simp (disch := omega) only [wr_id, Int.toNat_natCast, Int.reduceToNat, tn_lk, tn_kl, if_pos, if_neg, ↓reduceIte, and_self, and_true, true_and]; with_reducible rfl)) | (with_reducible apply wm_t; focus (first | omega | (simp (disch := omega) only [wr_id]; omega) | (simp (disch := omega) only [wr_id]; done))) | (with_reducible apply wm_f; focus (first | omega | (simp (disch := omega) only [wr_id]; omega) | (simp (disch := omega) only [wr_id]; done)))))
      exact wm_r ⟨rfl, rfl⟩
    · (repeat (first | (with_reducible apply wm_o; focus (simp (disch := omega) only [wr_id, Int.toNat_natCast, Int.reduceToNat, tn_lk, tn_kl, if_pos, if_neg, ↓reduceIte, and_self, and_true, true_and]; with_reducible rfl)) | (with_reducible apply wm_q) | (with_reducible apply wm_c; focus (first | assumption | decide +kernel)) | (with_reducible apply wm_d; focus (simp (disch := omega) only [wr_id, Int.toNat_natCast, Int.reduceToNat, tn_lk, tn_kl, if_pos, if_neg, ↓reduceIte, and_self, and_true, true_and]; with_reducible rfl)) | (with_reducible apply wm_t; focus (first | omega | (simp (disch := omega) only [wr_id]; omega) | (simp (disch := omega) only [wr_id]; done))) | (with_reducible apply wm_f; focus (first | omega | (simp (disch := omega) only [wr_id]; omega) | (simp (disch := omega) only [wr_id]; done)))))
      exact wm_r ⟨rfl, rfl⟩
    · (repeat (first | (with_reducible apply wm_o; focus (simp (disch := omega) only [wr_id, Int.toNat_natCast, Int.reduceToNat, tn_lk, tn_kl, if_pos, if_neg, ↓reduceIte, and_self, and_true, true_and]; with_reducible rfl)) | (with_reducible apply wm_q) | (with_reducible apply wm_c; focus (first | assumption | decide +kernel)) | (with_reducible apply wm_d; focus (simp (disch := omega) only [wr_id, Int.toNat_natCast, Int.reduceToNat, tn_lk, tn_kl, if_pos, if_neg, ↓reduceIte, and_self, and_true, true_and]; with_reducible rfl)) | (with_reducible apply wm_t; focus (first | omega | (simp (disch := omega) only [wr_id]; omega) | (simp (disch := omega) only [wr_id]; done))) | (with_reducible apply wm_f; focus (first | omega | (simp (disch := omega) only [wr_id]; omega) | (simp (disch := omega) only [wr_id]; done)))))
      exact wm_r ⟨rfl, rfl⟩
    · have z : ¬ jd_wr (I (l + 4) (top + 1)) = 0 := fun q => hz ⟨rfl, by unfold jnl; exact decide_eq_true q⟩
      have e3 : jm_dv (I (l + 4) top) (I (l + 4) (top + 1)) = some (jdv (I (l + 4) top) (I (l + 4) (top + 1))) := by unfold jm_dv jdv; rw [if_neg z]
      (repeat (first | (with_reducible apply wm_o; focus (simp (disch := omega) only [wr_id, Int.toNat_natCast, Int.reduceToNat, tn_lk, tn_kl, if_pos, if_neg, ↓reduceIte, and_self, and_true, true_and, e3]; with_reducible rfl)) | (with_reducible apply wm_q) | (with_reducible apply wm_c; focus (first | assumption | decide +kernel)) | (with_reducible apply wm_d; focus (simp (disch := omega) only [wr_id, Int.toNat_natCast, Int.reduceToNat, tn_lk, tn_kl, if_pos, if_neg, ↓reduceIte, and_self, and_true, true_and, e3]; with_reducible rfl)) | (with_reducible apply wm_t; focus (first | omega | (simp (disch := omega) only [wr_id, e3]; omega) | (simp (disch := omega) only [wr_id, e3]; done))) | (with_reducible apply wm_f; focus (first | omega | (simp (disch := omega) only [wr_id, e3]; omega) | (simp (disch := omega) only [wr_id, e3]; done)))))
      exact wm_r ⟨rfl, rfl⟩
  by_cases z : o = 15
  · have z2 : ¬ jd_wr (I (l + 4) (top + 1)) = 0 := fun q => hz ⟨z, by unfold jnl; exact decide_eq_true q⟩
    unfold wkB
    (repeat (first | (with_reducible apply wm_o; focus (simp (disch := omega) only [wr_id, Int.toNat_natCast, Int.reduceToNat, tn_lk, tn_kl, if_pos, if_neg, ↓reduceIte, and_self, and_true, true_and, FLaws hl', h4, a, e2, e3]; with_reducible rfl)) | (with_reducible apply wm_q) | (with_reducible apply wm_c; focus (first | assumption | decide +kernel)) | (with_reducible apply wm_d; focus (simp (disch := omega) only [wr_id, Int.toNat_natCast, Int.reduceToNat, tn_lk, tn_kl, if_pos, if_neg, ↓reduceIte, and_self, and_true, true_and, FLaws hl', h4, a, e2, e3]; with_reducible rfl)) | (with_reducible apply wm_t; focus (first | omega | (simp (disch := omega) only [wr_id, FLaws hl', h4, a, e2, e3]; omega) | (simp (disch := omega) only [wr_id, FLaws hl', h4, a, e2, e3]; done))) | (with_reducible apply wm_f; focus (first | omega | (simp (disch := omega) only [wr_id, FLaws hl', h4, a, e2, e3]; omega) | (simp (disch := omega) only [wr_id, FLaws hl', h4, a, e2, e3]; done)))))
    simp only [e2]
    exact h
  · unfold wkB
    (repeat (first | (with_reducible apply wm_o; focus (simp (disch := omega) only [wr_id, Int.toNat_natCast, Int.reduceToNat, tn_lk, tn_kl, if_pos, if_neg, ↓reduceIte, and_self, and_true, true_and, FLaws hl', h4, a, e2, e3]; with_reducible rfl)) | (with_reducible apply wm_q) | (with_reducible apply wm_c; focus (first | assumption | decide +kernel)) | (with_reducible apply wm_d; focus (simp (disch := omega) only [wr_id, Int.toNat_natCast, Int.reduceToNat, tn_lk, tn_kl, if_pos, if_neg, ↓reduceIte, and_self, and_true, true_and, FLaws hl', h4, a, e2, e3]; with_reducible rfl)) | (with_reducible apply wm_t; focus (first | omega | (simp (disch := omega) only [wr_id, FLaws hl', h4, a, e2, e3]; omega) | (simp (disch := omega) only [wr_id, FLaws hl', h4, a, e2, e3]; done))) | (with_reducible apply wm_f; focus (first | omega | (simp (disch := omega) only [wr_id, FLaws hl', h4, a, e2, e3]; omega) | (simp (disch := omega) only [wr_id, FLaws hl', h4, a, e2, e3]; done)))))
    simp only [e2]
    exact h
theorem wk_zero (hl' : l ∈ [11, 24]) {x1 : Int} {sp p top m : Nat} (h4 : I l 4 = (sp : Int)) (hsp : sp ≤ 404) (hp : p < sp) (hm : m ≤ p) (ht : top + 2 ≤ 32) (a : I (l + 1) p = 15) (hz : jnl (I (l + 4) (top + 1)) = true) {rec : Int → Int → Int → jMem → Option (Int × jMem)} (h : Q 0 I) : wm t d rt (wkB l x1 s k nh rec (p : Int) ((top : Int) + 2) (m : Int) (mm t d rt I)) Q := by
  have e2 : (top : Int) + 2 + (-2) = (top : Int) := by omega
  have z : jd_wr (I (l + 4) (top + 1)) = 0 := by unfold jnl at hz; simpa using hz
  unfold wkB
  (repeat (first | (with_reducible apply wm_o; focus (simp (disch := omega) only [wr_id, Int.toNat_natCast, Int.reduceToNat, tn_lk, tn_kl, if_pos, if_neg, ↓reduceIte, and_self, and_true, true_and, FLaws hl', h4, a, e2]; with_reducible rfl)) | (with_reducible apply wm_q) | (with_reducible apply wm_c; focus (first | assumption | decide +kernel)) | (with_reducible apply wm_d; focus (simp (disch := omega) only [wr_id, Int.toNat_natCast, Int.reduceToNat, tn_lk, tn_kl, if_pos, if_neg, ↓reduceIte, and_self, and_true, true_and, FLaws hl', h4, a, e2]; with_reducible rfl)) | (with_reducible apply wm_t; focus (first | omega | (simp (disch := omega) only [wr_id, FLaws hl', h4, a, e2]; omega) | (simp (disch := omega) only [wr_id, FLaws hl', h4, a, e2]; done))) | (with_reducible apply wm_f; focus (first | omega | (simp (disch := omega) only [wr_id, FLaws hl', h4, a, e2]; omega) | (simp (disch := omega) only [wr_id, FLaws hl', h4, a, e2]; done)))))
  exact wm_r h
theorem wk_go (hl' : l ∈ [11, 24]) {x1 : Int} {sp p m g : Nat} (h4 : I l 4 = (sp : Int)) (hsp : sp ≤ 404) (hp : p < sp) (hm : m ≤ p) (a : I (l + 1) p = 2) (b : I (l + 2) p = (g : Int)) {rec : Int → Int → Int → jMem → Option (Int × jMem)} (h : wm t d rt (rec (if jlt (I (l + 4) 0) (I (l + 4) 1) = true then (p : Int) + 1 else (g : Int)) 0 ((m : Int) + 1) (mm t d rt I)) Q) : wm t d rt (wkB l x1 s k nh rec (p : Int) 2 (m : Int) (mm t d rt I)) Q := by
  have e2 : (2 : Int) + (-2) = 0 := by omega
  have e3 : (0 : Int) + 1 = 1 := by omega
  unfold wkB
  by_cases z : jd_wr (I (l + 4) 0) < jd_wr (I (l + 4) 1)
  · rw [if_pos (by unfold jlt; exact decide_eq_true z)] at h
    (repeat (first | (with_reducible apply wm_o; focus (simp (disch := omega) only [wr_id, Int.toNat_natCast, Int.reduceToNat, tn_lk, tn_kl, if_pos, if_neg, ↓reduceIte, and_self, and_true, true_and, FLaws hl', h4, a, b, e2, e3]; with_reducible rfl)) | (with_reducible apply wm_q) | (with_reducible apply wm_c; focus (first | assumption | decide +kernel)) | (with_reducible apply wm_d; focus (simp (disch := omega) only [wr_id, Int.toNat_natCast, Int.reduceToNat, tn_lk, tn_kl, if_pos, if_neg, ↓reduceIte, and_self, and_true, true_and, FLaws hl', h4, a, b, e2, e3]; with_reducible rfl)) | (with_reducible apply wm_t; focus (first | omega | (simp (disch := omega) only [wr_id, FLaws hl', h4, a, b, e2, e3]; omega) | (simp (disch := omega) only [wr_id, FLaws hl', h4, a, b, e2, e3]; done))) | (with_reducible apply wm_f; focus (first | omega | (simp (disch := omega) only [wr_id, FLaws hl', h4, a, b, e2, e3]; omega) | (simp (disch := omega) only [wr_id, FLaws hl', h4, a, b, e2, e3]; done)))))
    exact h
  · rw [if_neg (by unfold jlt; simpa using z)] at h
    (repeat (first | (with_reducible apply wm_o; focus (simp (disch := omega) only [wr_id, Int.toNat_natCast, Int.reduceToNat, tn_lk, tn_kl, if_pos, if_neg, ↓reduceIte, and_self, and_true, true_and, FLaws hl', h4, a, b, e2, e3]; with_reducible rfl)) | (with_reducible apply wm_q) | (with_reducible apply wm_c; focus (first | assumption | decide +kernel)) | (with_reducible apply wm_d; focus (simp (disch := omega) only [wr_id, Int.toNat_natCast, Int.reduceToNat, tn_lk, tn_kl, if_pos, if_neg, ↓reduceIte, and_self, and_true, true_and, FLaws hl', h4, a, b, e2, e3]; with_reducible rfl)) | (with_reducible apply wm_t; focus (first | omega | (simp (disch := omega) only [wr_id, FLaws hl', h4, a, b, e2, e3]; omega) | (simp (disch := omega) only [wr_id, FLaws hl', h4, a, b, e2, e3]; done))) | (with_reducible apply wm_f; focus (first | omega | (simp (disch := omega) only [wr_id, FLaws hl', h4, a, b, e2, e3]; omega) | (simp (disch := omega) only [wr_id, FLaws hl', h4, a, b, e2, e3]; done)))))
    exact h
theorem wk_ans (hl' : l ∈ [11, 24]) {x1 : Int} {sp p m : Nat} (h4 : I l 4 = (sp : Int)) (hsp : sp ≤ 404) (hp : p < sp) (hm : m ≤ p) (a : I (l + 1) p = 3) {rec : Int → Int → Int → jMem → Option (Int × jMem)} (h : Q (I (l + 4) 0) I) : wm t d rt (wkB l x1 s k nh rec (p : Int) 1 (m : Int) (mm t d rt I)) Q := by
  have e2 : (1 : Int) - 1 = 0 := by omega
  unfold wkB
  (repeat (first | (with_reducible apply wm_o; focus (simp (disch := omega) only [wr_id, Int.toNat_natCast, Int.reduceToNat, tn_lk, tn_kl, if_pos, if_neg, ↓reduceIte, and_self, and_true, true_and, FLaws hl', h4, a, e2]; with_reducible rfl)) | (with_reducible apply wm_q) | (with_reducible apply wm_c; focus (first | assumption | decide +kernel)) | (with_reducible apply wm_d; focus (simp (disch := omega) only [wr_id, Int.toNat_natCast, Int.reduceToNat, tn_lk, tn_kl, if_pos, if_neg, ↓reduceIte, and_self, and_true, true_and, FLaws hl', h4, a, e2]; with_reducible rfl)) | (with_reducible apply wm_t; focus (first | omega | (simp (disch := omega) only [wr_id, FLaws hl', h4, a, e2]; omega) | (simp (disch := omega) only [wr_id, FLaws hl', h4, a, e2]; done))) | (with_reducible apply wm_f; focus (first | omega | (simp (disch := omega) only [wr_id, FLaws hl', h4, a, e2]; omega) | (simp (disch := omega) only [wr_id, FLaws hl', h4, a, e2]; done)))))
  exact wm_r h
theorem stL_ge {s : Nat} (hs : s ∈ stL) : 34 ≤ s := by
  have : ∀ x ∈ stL, 34 ≤ x := by decide +kernel
  exact this s hs
theorem lw_lt (hl' : l ∈ [11, 24]) : l + 4 < 34 ∧ 11 ≤ l := by
  have : ∀ x ∈ [11, 24], x + 4 < 34 ∧ 11 ≤ x := by decide +kernel
  exact this l hl'
theorem evC_0 {dv : Int → Int → Int} {nil : Int → Bool} {vs : Nat → Int} {x : CI} {r : List CI} {st : List Int} (h : x.1 = 0) : evC dv nil vs (x :: r) st = evC dv nil vs r (x.2 :: st) := by rw [evC, if_pos h]
theorem evC_1 {dv : Int → Int → Int} {nil : Int → Bool} {vs : Nat → Int} {j : Nat} {r : List CI} {st : List Int} : evC dv nil vs (cVar j :: r) st = evC dv nil vs r (vs j :: st) := by
  rw [evC, if_neg (by unfold cVar; simp), if_pos (by unfold cVar; rfl)]
  unfold cVar
  simp
theorem evC_2 {dv : Int → Int → Int} {nil : Int → Bool} {vs : Nat → Int} {o : Nat} (ho : 12 ≤ o) {r : List CI} {a b : Int} {st : List Int} : evC dv nil vs (cOp o :: r) (b :: a :: st) = if o = 15 ∧ nil b = true then none else evC dv nil vs r (jnV dv o a b :: st) := by
  rw [evC, if_neg (by unfold cOp; simp; omega), if_neg (by unfold cOp; simp; omega)]
  show (if o = 15 ∧ nil b = true then none else some (jnV dv o a b :: st)).bind (evC dv nil vs r) = _
  by_cases q : o = 15 ∧ nil b = true
  · rw [if_pos q, if_pos q]; rfl
  · rw [if_neg q, if_neg q]; rfl
theorem wk_code (hl' : l ∈ [11, 24]) (hs : s ∈ stL) (hw : 2 ≤ w ∧ w ≤ 6) (hn : n ≤ 36) (hr : rOK w n hl ρ) (hk : k < 18) (h0 : 0 ≤ ρ k) {x1 : Int} {sp : Nat} (hsp : sp ≤ 404) {f : Nat} : ∀ (cs : List CI) (p m : Nat) (st : List Int) (I : Nat → Nat → Int), stR I s w ρ → I l 4 = (sp : Int) → cdAt (I (l + 1)) (I (l + 2)) p cs → p + cs.length ≤ sp → m ≤ p → (∃ q, hOK 32 cs st.length = some q) → (∀ x, x ∈ cs → ciOK x) → st.length ≤ 32 → plAt (I (l + 4)) st → (evC jdv jnl (rV w nh ρ k) cs st = none → ∀ J, frm (fun a => a = l + 4) I J → Q 0 J) → (∀ st', evC jdv jnl (rV w nh ρ k) cs st = some st' → ∀ J, frm (fun a => a = l + 4) I J → plAt (J (l + 4)) st' → wm t d rt (jlp4 (wkB l x1 s k nh) f ((p + cs.length : Nat) : Int) (st'.length : Int) ((m + cs.length : Nat) : Int) (mm t d rt J)) Q) → wm t d rt (jlp4 (wkB l x1 s k nh) (f + cs.length) (p : Int) (st.length : Int) (m : Int) (mm t d rt I)) Q := by
  intro cs
  induction cs with
  | nil =>
    intro p m st I _ _ _ _ _ _ _ _ hp _ h
    exact h st rfl I (frm_refl _ _) hp
  | cons x r ih =>
    intro p m st I hst h4 hcd hps hm hok hci h32 hp hnone hsome
    have hsg := stL_ge hs
    have hlg := lw_lt hl'
    rw [List.length_cons] at hps
    obtain ⟨c1, c2, c3⟩ := hcd
    obtain ⟨q, hok⟩ := hok
    have lift : ∀ (v : Int) (j : Nat), frm (fun a => a = l + 4) I (up I (l + 4) j v) := fun v j => frm_up (frm_refl _ _) rfl
    have next : ∀ (v : Int) (st1 : List Int), st1.length < 32 → plAt (I (l + 4)) st1 → (∃ q, hOK 32 r (v :: st1).length = some q) → evC jdv jnl (rV w nh ρ k) (x :: r) st = evC jdv jnl (rV w nh ρ k) r (v :: st1) → wm t d rt (jlp4 (wkB l x1 s k nh) (f + r.length) ((p : Int) + 1) ((st1.length : Int) + 1) ((m : Int) + 1) (mm t d rt (up I (l + 4) st1.length v))) Q := by
      intro v st1 hl1 hp1 hok1 hev
      have q := ih (p + 1) (m + 1) (v :: st1) (up I (l + 4) st1.length v) (stR_frm (lift _ _) (fun a a1 a2 => by omega) hst) (by rw [up_ne (by omega)]; exact h4) (by rw [up_ne (by omega), up_ne (by omega)]; exact c3) (by omega) (by omega) hok1 (fun y hy => hci y (List.mem_cons_of_mem _ hy)) (by rw [List.length_cons]; omega) (by rw [up_row]; exact plAt_push hp1) (fun e J hJ => hnone (by rw [hev]; exact e) J (frm_trans (lift _ _) hJ)) (fun st' e J hJ hpl => by
        have z := hsome st' (by rw [hev]; exact e) J (frm_trans (lift _ _) hJ) hpl
        rw [List.length_cons] at z
        rw [show p + 1 + r.length = p + (r.length + 1) by omega, show m + 1 + r.length = m + (r.length + 1) by omega]
        exact z)
      rw [List.length_cons] at q
      rw [show ((p : Int) + 1) = ((p + 1 : Nat) : Int) by omega, show ((m : Int) + 1) = ((m + 1 : Nat) : Int) by omega, show ((st1.length : Int) + 1) = ((st1.length + 1 : Nat) : Int) by omega]
      exact q
    rw [List.length_cons, ← Nat.add_assoc, jlp4_s]
    rcases hci x (List.mem_cons_self ..) with z | ⟨j, hj, z⟩ | ⟨o, z, ho⟩
    · rw [hOK, if_pos (by omega)] at hok
      have ht : st.length < 32 := by
        by_cases q : st.length < 32
        · exact q
        · rw [if_neg q] at hok; cases hok
      rw [if_pos ht] at hok
      exact wk_num hl' h4 hsp (by omega) hm ht (by rw [c1, z]; rfl) c2 (next x.2 st ht hp ⟨q, hok⟩ (evC_0 z))
    · subst z
      rw [hOK, if_pos (by unfold cVar; simp)] at hok
      have ht : st.length < 32 := by
        by_cases q : st.length < 32
        · exact q
        · rw [if_neg q] at hok; cases hok
      rw [if_pos ht] at hok
      exact wk_var hl' hs hw hn hr hst hk h0 hj h4 hsp (by omega) hm ht c1 c2 (next _ st ht hp ⟨q, hok⟩ evC_1)
    · subst z
      have hog := op_ge ho
      rw [hOK, if_neg (by unfold cOp; simp; omega)] at hok
      have ht : 2 ≤ st.length := by
        by_cases q : 2 ≤ st.length
        · exact q
        · rw [if_neg q] at hok; cases hok
      rw [if_pos ht] at hok
      match st, ht, h32, hp, hok, hnone, hsome, next with
      | b :: a :: s0, ht, h32, hp, hok, hnone, hsome, next =>
        obtain ⟨p1, p2, p3⟩ := hp
        have e12 := evC_2 (dv := jdv) (nil := jnl) (vs := rV w nh ρ k) hog.1 (r := r) (a := a) (b := b) (st := s0)
        have el : (((b :: a :: s0).length : Nat) : Int) = (s0.length : Int) + 2 := by simp only [List.length_cons]; omega
        rw [List.length_cons] at p1
        rw [el]
        have hs32 : s0.length + 2 ≤ 32 := by simp only [List.length_cons] at h32; omega
        by_cases z : o = 15 ∧ jnl b = true
        · rw [if_pos z] at e12
          exact wk_zero hl' h4 hsp (by omega) hm hs32 (by rw [c1]; unfold cOp; simp [z.1]) (by rw [p1]; exact z.2) (hnone e12 I (frm_refl _ _))
        · rw [if_neg z] at e12
          refine wk_op (o := o) hl' (by omega) h4 hsp (by omega) hm hs32 c1 (by rw [p1]; exact z) ?_
          rw [p1, p2]
          exact next _ s0 (by omega) p3 ⟨q, by simpa using hok⟩ e12
end LW
