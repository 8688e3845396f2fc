/-! ===== the class reads a law ===== -/
section LR
variable {t d rt : Nat} {I J : Nat → Nat → Int} {K : Nat → Nat} {V : Nat → Int} {ps : Nat → Nat} {i sp : Nat}
theorem q_aim {l g : Nat} (hl : l = 11 ∨ l = 24) (h0 : I l 4 = (sp : Int)) (hg : g < sp) (hs : sp ≤ 404) : f_X2_aimHere l (g : Int) (mm t d rt I) = some (0, mm t d rt (up I (l + 2) g (sp : Int))) := by
  have hl' : l ∈ [11, 24] := by simpa using hl
  apply wm_eq
  unfold f_X2_aimHere
  (repeat (first | (with_reducible apply wm_o; focus (simp (disch := omega) only [wr_id, Int.toNat_natCast, Int.reduceToNat, tn_lk, tn_kl, if_pos, if_neg, ↓reduceIte, and_self, and_true, true_and, FLaws hl', h0]; with_reducible rfl)) | (with_reducible apply wm_q) | (with_reducible apply wm_c; focus (first | assumption | decide +kernel)) | (with_reducible apply wm_d; focus (simp (disch := omega) only [wr_id, Int.toNat_natCast, Int.reduceToNat, tn_lk, tn_kl, if_pos, if_neg, ↓reduceIte, and_self, and_true, true_and, FLaws hl', h0]; with_reducible rfl)) | (with_reducible apply wm_t; focus (first | omega | (simp (disch := omega) only [wr_id, FLaws hl', h0]; omega) | (simp (disch := omega) only [wr_id, FLaws hl', h0]; done))) | (with_reducible apply wm_f; focus (first | omega | (simp (disch := omega) only [wr_id, FLaws hl', h0]; omega) | (simp (disch := omega) only [wr_id, FLaws hl', h0]; done)))))
  exact wm_r ⟨rfl, rfl⟩
/-- an if of a law, read ahead of whatever goes on behind it -/
theorem w_ifs {k : jMem → Option (Int × jMem)} {Q : Int → (Nat → Nat → Int) → Prop} (ht : rt ∈ [3, 16]) (hv : kvOK K V ps) (hR : rdC K V ps (rt + 8) I i sp) (hsp : sp ≤ 2 + i) (h1 : ∀ t' b e J, ifR K V i = eok t' b → frP (rt + 8) I J → rdC K V ps (rt + 8) J t' e → e ≤ 3 + t' → kpC (rt + 8) I J sp → brC (J (rt + 8 + 1)) (J (rt + 8 + 2)) sp [b] e → sOK b.1 ∧ sOK b.2.1 ∧ sOK b.2.2 → wm t d rt (k (mm t d rt J)) Q) (h0 : ∀ c q J, ifR K V i = efl c q → fltC ps (rt + 8) I J c q → Q 0 J) : wm t d rt (jbd (f_X3_takeSumT 29 0 (mm t d rt I)) fun v16 M17 =>
if jd_wr v16 = 0 then (jm_z 0 M17)
else (jcall 3 M17 29 (f_X3_acceptOf 29 16 M17) fun v18 M19 =>
if jd_wr v18 = 0 then (jm_z 0 M19)
else (jcall 3 M19 29 (f_X3_takeSumT 29 0 M19) fun v20 M21 =>
if jd_wr v20 = 0 then (jm_z 0 M21)
else (jcall 3 M21 29 (f_X3_acceptOf 29 28 M21) fun v22 M23 =>
if jd_wr v22 = 0 then (jm_z 0 M23)
else ((jm_gR 3 2 M23 29).bind fun r24 =>
(jm_gR 8 12 M23 r24).bind fun r25 =>
jcall 2 M23 r25 (f_X2_add r25 2 (-1) M23) fun v26 M27 =>
jcall 3 M27 29 (f_X3_takeSumT 29 0 M27) fun v28 M29 =>
if jd_wr v28 = 0 then (jm_z 0 M29)
else (jcall 3 M29 29 (f_X3_acceptOf 29 29 M29) fun v30 M31 =>
if jd_wr v30 = 0 then (jm_z 0 M31)
else ((jm_gR 3 2 M31 29).bind fun r32 =>
(jm_gR 8 12 M31 r32).bind fun r33 =>
jcall 2 M31 r33 (f_X2_add r33 3 0 M31) fun v34 M35 =>
(jm_gR 3 2 M35 29).bind fun r36 =>
(jm_gR 8 12 M35 r36).bind fun r37 =>
jcall 2 M35 r37 (f_X2_aimHere r37 v26 M35) fun _ M39 =>
k M39))))))) Q := by
  have hl : rt + 8 = 11 ∨ rt + 8 = 24 := by
    have : rt = 3 ∨ rt = 16 := by simpa using ht
    omega
  have hl' : rt + 8 ∈ [11, 24] := by simpa using hl
  have kl : (K0 (rt + 8)).1 = 2 ∧ rt + 8 < 418 := ⟨(FLaws_k _ hl').1, (FLaws_k _ hl').2.1⟩
  generalize eR : ifR K V i = R at h0 h1
  unfold ifR at eR
  (repeat (first | (with_reducible apply wm_o; focus (simp (disch := omega) only [wr_id, Int.toNat_natCast, Int.reduceToNat, tn_lk, tn_kl, if_pos, if_neg, ↓reduceIte, and_self, and_true, true_and, FReader]; with_reducible rfl)) | (with_reducible apply wm_q) | (with_reducible apply wm_c; focus (first | assumption | decide +kernel)) | (with_reducible apply wm_d; focus (simp (disch := omega) only [wr_id, Int.toNat_natCast, Int.reduceToNat, tn_lk, tn_kl, if_pos, if_neg, ↓reduceIte, and_self, and_true, true_and, FReader]; with_reducible rfl)) | (with_reducible apply wm_t; focus (first | omega | (simp (disch := omega) only [wr_id, FReader]; omega) | (simp (disch := omega) only [wr_id, FReader]; done))) | (with_reducible apply wm_f; focus (first | omega | (simp (disch := omega) only [wr_id, FReader]; omega) | (simp (disch := omega) only [wr_id, FReader]; done)))))
  refine wm_b (c_sumT ht hv I i sp hR (by omega)) (fun r J1 hJ1 => ?_)
  rcases hJ1 with ⟨t1, a, e1, rfl, a1, a2, a3, a4, a5⟩ | ⟨c, q, e1, rfl, a1⟩
  rotate_left
  · rw [e1] at eR
    (repeat (first | (with_reducible apply wm_o; focus (simp (disch := omega) only [wr_id, Int.toNat_natCast, Int.reduceToNat, tn_lk, tn_kl, if_pos, if_neg, ↓reduceIte, and_self, and_true, true_and]; with_reducible rfl)) | (with_reducible apply wm_q) | (with_reducible apply wm_c; focus (first | assumption | decide +kernel)) | (with_reducible apply wm_d; focus (simp (disch := omega) only [wr_id, Int.toNat_natCast, Int.reduceToNat, tn_lk, tn_kl, if_pos, if_neg, ↓reduceIte, and_self, and_true, true_and]; with_reducible rfl)) | (with_reducible apply wm_t; focus (first | omega | (simp (disch := omega) only [wr_id]; omega) | (simp (disch := omega) only [wr_id]; done))) | (with_reducible apply wm_f; focus (first | omega | (simp (disch := omega) only [wr_id]; omega) | (simp (disch := omega) only [wr_id]; done)))))
    exact wm_z0 (h0 c q _ eR.symm (a1))
  rw [show sumD K V 6 i = eok t1 a from e1, bnd_ok] at eR
  have oka := sum_ok e1
  have l1 := a2.2.2.2.2.2.2.1
  (repeat (first | (with_reducible apply wm_o; focus (simp (disch := omega) only [wr_id, Int.toNat_natCast, Int.reduceToNat, tn_lk, tn_kl, if_pos, if_neg, ↓reduceIte, and_self, and_true, true_and, FReader]; with_reducible rfl)) | (with_reducible apply wm_q) | (with_reducible apply wm_c; focus (first | assumption | decide +kernel)) | (with_reducible apply wm_d; focus (simp (disch := omega) only [wr_id, Int.toNat_natCast, Int.reduceToNat, tn_lk, tn_kl, if_pos, if_neg, ↓reduceIte, and_self, and_true, true_and, FReader]; with_reducible rfl)) | (with_reducible apply wm_t; focus (first | omega | (simp (disch := omega) only [wr_id, FReader]; omega) | (simp (disch := omega) only [wr_id, FReader]; done))) | (with_reducible apply wm_f; focus (first | omega | (simp (disch := omega) only [wr_id, FReader]; omega) | (simp (disch := omega) only [wr_id, FReader]; done)))))
  refine wm_b (w_acceptOf hl hv a2 (by omega) (k := 16) (by decide) (by decide)) (fun r J2 hJ2 => ?_)
  rcases hJ2 with ⟨z1, z2, rfl, b1, b2, b3, b4⟩ | ⟨z1, z2, rfl, b1⟩ | ⟨z1, rfl, b1⟩
  rotate_left
  · unfold tokR at eR
    rw [if_pos z1, if_neg z2] at eR
    (repeat (first | (with_reducible apply wm_o; focus (simp (disch := omega) only [wr_id, Int.toNat_natCast, Int.reduceToNat, tn_lk, tn_kl, if_pos, if_neg, ↓reduceIte, and_self, and_true, true_and]; with_reducible rfl)) | (with_reducible apply wm_q) | (with_reducible apply wm_c; focus (first | assumption | decide +kernel)) | (with_reducible apply wm_d; focus (simp (disch := omega) only [wr_id, Int.toNat_natCast, Int.reduceToNat, tn_lk, tn_kl, if_pos, if_neg, ↓reduceIte, and_self, and_true, true_and]; with_reducible rfl)) | (with_reducible apply wm_t; focus (first | omega | (simp (disch := omega) only [wr_id]; omega) | (simp (disch := omega) only [wr_id]; done))) | (with_reducible apply wm_f; focus (first | omega | (simp (disch := omega) only [wr_id]; omega) | (simp (disch := omega) only [wr_id]; done)))))
    exact wm_z0 (h0 2 t1 _ eR.symm (flt_tr a1 b1))
  · unfold tokR at eR
    rw [if_neg z1] at eR
    (repeat (first | (with_reducible apply wm_o; focus (simp (disch := omega) only [wr_id, Int.toNat_natCast, Int.reduceToNat, tn_lk, tn_kl, if_pos, if_neg, ↓reduceIte, and_self, and_true, true_and]; with_reducible rfl)) | (with_reducible apply wm_q) | (with_reducible apply wm_c; focus (first | assumption | decide +kernel)) | (with_reducible apply wm_d; focus (simp (disch := omega) only [wr_id, Int.toNat_natCast, Int.reduceToNat, tn_lk, tn_kl, if_pos, if_neg, ↓reduceIte, and_self, and_true, true_and]; with_reducible rfl)) | (with_reducible apply wm_t; focus (first | omega | (simp (disch := omega) only [wr_id]; omega) | (simp (disch := omega) only [wr_id]; done))) | (with_reducible apply wm_f; focus (first | omega | (simp (disch := omega) only [wr_id]; omega) | (simp (disch := omega) only [wr_id]; done)))))
    exact wm_z0 (h0 1 t1 _ eR.symm (flt_tr a1 b1))
  have tk : tokR K 16 t1 = eok (t1 + 1) () := by unfold tokR; rw [if_pos z1, if_pos z2]
  rw [tk, bnd_ok] at eR
  (repeat (first | (with_reducible apply wm_o; focus (simp (disch := omega) only [wr_id, Int.toNat_natCast, Int.reduceToNat, tn_lk, tn_kl, if_pos, if_neg, ↓reduceIte, and_self, and_true, true_and, FReader]; with_reducible rfl)) | (with_reducible apply wm_q) | (with_reducible apply wm_c; focus (first | assumption | decide +kernel)) | (with_reducible apply wm_d; focus (simp (disch := omega) only [wr_id, Int.toNat_natCast, Int.reduceToNat, tn_lk, tn_kl, if_pos, if_neg, ↓reduceIte, and_self, and_true, true_and, FReader]; with_reducible rfl)) | (with_reducible apply wm_t; focus (first | omega | (simp (disch := omega) only [wr_id, FReader]; omega) | (simp (disch := omega) only [wr_id, FReader]; done))) | (with_reducible apply wm_f; focus (first | omega | (simp (disch := omega) only [wr_id, FReader]; omega) | (simp (disch := omega) only [wr_id, FReader]; done)))))
  refine wm_b (c_sumT ht hv J2 (t1 + 1) _ b2 (by omega)) (fun r J3 hJ3 => ?_)
  rcases hJ3 with ⟨t3, b, e3, rfl, c1, c2, c3, c4, c5⟩ | ⟨c, q, e3, rfl, c1⟩
  rotate_left
  · rw [e3] at eR
    (repeat (first | (with_reducible apply wm_o; focus (simp (disch := omega) only [wr_id, Int.toNat_natCast, Int.reduceToNat, tn_lk, tn_kl, if_pos, if_neg, ↓reduceIte, and_self, and_true, true_and]; with_reducible rfl)) | (with_reducible apply wm_q) | (with_reducible apply wm_c; focus (first | assumption | decide +kernel)) | (with_reducible apply wm_d; focus (simp (disch := omega) only [wr_id, Int.toNat_natCast, Int.reduceToNat, tn_lk, tn_kl, if_pos, if_neg, ↓reduceIte, and_self, and_true, true_and]; with_reducible rfl)) | (with_reducible apply wm_t; focus (first | omega | (simp (disch := omega) only [wr_id]; omega) | (simp (disch := omega) only [wr_id]; done))) | (with_reducible apply wm_f; focus (first | omega | (simp (disch := omega) only [wr_id]; omega) | (simp (disch := omega) only [wr_id]; done)))))
    exact wm_z0 (h0 c q _ eR.symm (flt_tr (frP_trans a1 b1) c1))
  rw [show sumD K V 6 (t1 + 1) = eok t3 b from e3, bnd_ok] at eR
  have okb := sum_ok e3
  have l3 := c2.2.2.2.2.2.2.1
  (repeat (first | (with_reducible apply wm_o; focus (simp (disch := omega) only [wr_id, Int.toNat_natCast, Int.reduceToNat, tn_lk, tn_kl, if_pos, if_neg, ↓reduceIte, and_self, and_true, true_and, FReader]; with_reducible rfl)) | (with_reducible apply wm_q) | (with_reducible apply wm_c; focus (first | assumption | decide +kernel)) | (with_reducible apply wm_d; focus (simp (disch := omega) only [wr_id, Int.toNat_natCast, Int.reduceToNat, tn_lk, tn_kl, if_pos, if_neg, ↓reduceIte, and_self, and_true, true_and, FReader]; with_reducible rfl)) | (with_reducible apply wm_t; focus (first | omega | (simp (disch := omega) only [wr_id, FReader]; omega) | (simp (disch := omega) only [wr_id, FReader]; done))) | (with_reducible apply wm_f; focus (first | omega | (simp (disch := omega) only [wr_id, FReader]; omega) | (simp (disch := omega) only [wr_id, FReader]; done)))))
  refine wm_b (w_acceptOf hl hv c2 (by omega) (k := 28) (by decide) (by decide)) (fun r J4 hJ4 => ?_)
  rcases hJ4 with ⟨y1, y2, rfl, d1, d2, d3, d4⟩ | ⟨y1, y2, rfl, d1⟩ | ⟨y1, rfl, d1⟩
  rotate_left
  · unfold tokR at eR
    rw [if_pos y1, if_neg y2] at eR
    (repeat (first | (with_reducible apply wm_o; focus (simp (disch := omega) only [wr_id, Int.toNat_natCast, Int.reduceToNat, tn_lk, tn_kl, if_pos, if_neg, ↓reduceIte, and_self, and_true, true_and]; with_reducible rfl)) | (with_reducible apply wm_q) | (with_reducible apply wm_c; focus (first | assumption | decide +kernel)) | (with_reducible apply wm_d; focus (simp (disch := omega) only [wr_id, Int.toNat_natCast, Int.reduceToNat, tn_lk, tn_kl, if_pos, if_neg, ↓reduceIte, and_self, and_true, true_and]; with_reducible rfl)) | (with_reducible apply wm_t; focus (first | omega | (simp (disch := omega) only [wr_id]; omega) | (simp (disch := omega) only [wr_id]; done))) | (with_reducible apply wm_f; focus (first | omega | (simp (disch := omega) only [wr_id]; omega) | (simp (disch := omega) only [wr_id]; done)))))
    exact wm_z0 (h0 2 t3 _ eR.symm (flt_tr (frP_trans (frP_trans a1 b1) c1) d1))
  · unfold tokR at eR
    rw [if_neg y1] at eR
    (repeat (first | (with_reducible apply wm_o; focus (simp (disch := omega) only [wr_id, Int.toNat_natCast, Int.reduceToNat, tn_lk, tn_kl, if_pos, if_neg, ↓reduceIte, and_self, and_true, true_and]; with_reducible rfl)) | (with_reducible apply wm_q) | (with_reducible apply wm_c; focus (first | assumption | decide +kernel)) | (with_reducible apply wm_d; focus (simp (disch := omega) only [wr_id, Int.toNat_natCast, Int.reduceToNat, tn_lk, tn_kl, if_pos, if_neg, ↓reduceIte, and_self, and_true, true_and]; with_reducible rfl)) | (with_reducible apply wm_t; focus (first | omega | (simp (disch := omega) only [wr_id]; omega) | (simp (disch := omega) only [wr_id]; done))) | (with_reducible apply wm_f; focus (first | omega | (simp (disch := omega) only [wr_id]; omega) | (simp (disch := omega) only [wr_id]; done)))))
    exact wm_z0 (h0 1 t3 _ eR.symm (flt_tr (frP_trans (frP_trans a1 b1) c1) d1))
  have tk : tokR K 28 t3 = eok (t3 + 1) () := by unfold tokR; rw [if_pos y1, if_pos y2]
  rw [tk, bnd_ok] at eR
  have fr4 := frP_trans (frP_trans (frP_trans a1 b1) c1) d1
  -- what lies so far
  generalize es : sp + a.length + b.length = s at d2 l3
  have k4 : kpC (rt + 8) J1 J4 (sp + a.length) := by
    refine kpC_trans (kpC_eq b3 b4 (sp := sp + a.length)) (kpC_trans c4 (kpC_eq d3 d4 (sp := sp + a.length)) (Nat.le_refl _)) (Nat.le_refl _)
  have kk4 : kpC (rt + 8) I J4 sp := kpC_trans a4 k4 (by omega)
  have ca4 : cdAt (J4 (rt + 8 + 1)) (J4 (rt + 8 + 2)) sp a := cdAt_congr (fun p p1 p2 => k4 p (by omega)) a5
  have cb4 : cdAt (J4 (rt + 8 + 1)) (J4 (rt + 8 + 2)) (sp + a.length) b := by rw [d3, d4]; exact c5
  have ad := q_add (t := t) (d := d) (rt := rt) hl d2.2.2.2.2.2.1 (by omega) (a := 2) (v := -1)
  (repeat (first | (with_reducible apply wm_o; focus (simp (disch := omega) only [wr_id, Int.toNat_natCast, Int.reduceToNat, tn_lk, tn_kl, if_pos, if_neg, ↓reduceIte, and_self, and_true, true_and, FReader, FText ht, ad]; with_reducible rfl)) | (with_reducible apply wm_q) | (with_reducible apply wm_c; focus (first | assumption | decide +kernel)) | (with_reducible apply wm_d; focus (simp (disch := omega) only [wr_id, Int.toNat_natCast, Int.reduceToNat, tn_lk, tn_kl, if_pos, if_neg, ↓reduceIte, and_self, and_true, true_and, FReader, FText ht, ad]; with_reducible rfl)) | (with_reducible apply wm_t; focus (first | omega | (simp (disch := omega) only [wr_id, FReader, FText ht, ad]; omega) | (simp (disch := omega) only [wr_id, FReader, FText ht, ad]; done))) | (with_reducible apply wm_f; focus (first | omega | (simp (disch := omega) only [wr_id, FReader, FText ht, ad]; omega) | (simp (disch := omega) only [wr_id, FReader, FText ht, ad]; done)))))
  refine wm_b (c_sumT ht hv _ (t3 + 1) (s + 1) (ad_rd hl d2) (by omega)) (fun r J6 hJ6 => ?_)
  rcases hJ6 with ⟨t5, c, e5, rfl, g1, g2, g3, g4, g5⟩ | ⟨cc, q, e5, rfl, g1⟩
  rotate_left
  · rw [e5] at eR
    (repeat (first | (with_reducible apply wm_o; focus (simp (disch := omega) only [wr_id, Int.toNat_natCast, Int.reduceToNat, tn_lk, tn_kl, if_pos, if_neg, ↓reduceIte, and_self, and_true, true_and]; with_reducible rfl)) | (with_reducible apply wm_q) | (with_reducible apply wm_c; focus (first | assumption | decide +kernel)) | (with_reducible apply wm_d; focus (simp (disch := omega) only [wr_id, Int.toNat_natCast, Int.reduceToNat, tn_lk, tn_kl, if_pos, if_neg, ↓reduceIte, and_self, and_true, true_and]; with_reducible rfl)) | (with_reducible apply wm_t; focus (first | omega | (simp (disch := omega) only [wr_id]; omega) | (simp (disch := omega) only [wr_id]; done))) | (with_reducible apply wm_f; focus (first | omega | (simp (disch := omega) only [wr_id]; omega) | (simp (disch := omega) only [wr_id]; done)))))
    exact wm_z0 (h0 cc q _ eR.symm (flt_tr (frP_trans fr4 (ad_frP hl)) g1))
  rw [show sumD K V 6 (t3 + 1) = eok t5 c from e5, bnd_ok] at eR
  have okc := sum_ok e5
  have l5 := g2.2.2.2.2.2.2.1
  have fr6 := frP_trans (frP_trans fr4 (ad_frP hl)) g1
  (repeat (first | (with_reducible apply wm_o; focus (simp (disch := omega) only [wr_id, Int.toNat_natCast, Int.reduceToNat, tn_lk, tn_kl, if_pos, if_neg, ↓reduceIte, and_self, and_true, true_and, FReader]; with_reducible rfl)) | (with_reducible apply wm_q) | (with_reducible apply wm_c; focus (first | assumption | decide +kernel)) | (with_reducible apply wm_d; focus (simp (disch := omega) only [wr_id, Int.toNat_natCast, Int.reduceToNat, tn_lk, tn_kl, if_pos, if_neg, ↓reduceIte, and_self, and_true, true_and, FReader]; with_reducible rfl)) | (with_reducible apply wm_t; focus (first | omega | (simp (disch := omega) only [wr_id, FReader]; omega) | (simp (disch := omega) only [wr_id, FReader]; done))) | (with_reducible apply wm_f; focus (first | omega | (simp (disch := omega) only [wr_id, FReader]; omega) | (simp (disch := omega) only [wr_id, FReader]; done)))))
  refine wm_b (w_acceptOf hl hv g2 (by omega) (k := 29) (by decide) (by decide)) (fun r J7 hJ7 => ?_)
  rcases hJ7 with ⟨x1, x2, rfl, m1, m2, m3, m4⟩ | ⟨x1, x2, rfl, m1⟩ | ⟨x1, rfl, m1⟩
  rotate_left
  · unfold tokR at eR
    rw [if_pos x1, if_neg x2] at eR
    (repeat (first | (with_reducible apply wm_o; focus (simp (disch := omega) only [wr_id, Int.toNat_natCast, Int.reduceToNat, tn_lk, tn_kl, if_pos, if_neg, ↓reduceIte, and_self, and_true, true_and]; with_reducible rfl)) | (with_reducible apply wm_q) | (with_reducible apply wm_c; focus (first | assumption | decide +kernel)) | (with_reducible apply wm_d; focus (simp (disch := omega) only [wr_id, Int.toNat_natCast, Int.reduceToNat, tn_lk, tn_kl, if_pos, if_neg, ↓reduceIte, and_self, and_true, true_and]; with_reducible rfl)) | (with_reducible apply wm_t; focus (first | omega | (simp (disch := omega) only [wr_id]; omega) | (simp (disch := omega) only [wr_id]; done))) | (with_reducible apply wm_f; focus (first | omega | (simp (disch := omega) only [wr_id]; omega) | (simp (disch := omega) only [wr_id]; done)))))
    exact wm_z0 (h0 2 t5 _ eR.symm (flt_tr fr6 m1))
  · unfold tokR at eR
    rw [if_neg x1] at eR
    (repeat (first | (with_reducible apply wm_o; focus (simp (disch := omega) only [wr_id, Int.toNat_natCast, Int.reduceToNat, tn_lk, tn_kl, if_pos, if_neg, ↓reduceIte, and_self, and_true, true_and]; with_reducible rfl)) | (with_reducible apply wm_q) | (with_reducible apply wm_c; focus (first | assumption | decide +kernel)) | (with_reducible apply wm_d; focus (simp (disch := omega) only [wr_id, Int.toNat_natCast, Int.reduceToNat, tn_lk, tn_kl, if_pos, if_neg, ↓reduceIte, and_self, and_true, true_and]; with_reducible rfl)) | (with_reducible apply wm_t; focus (first | omega | (simp (disch := omega) only [wr_id]; omega) | (simp (disch := omega) only [wr_id]; done))) | (with_reducible apply wm_f; focus (first | omega | (simp (disch := omega) only [wr_id]; omega) | (simp (disch := omega) only [wr_id]; done)))))
    exact wm_z0 (h0 1 t5 _ eR.symm (flt_tr fr6 m1))
  have tk : tokR K 29 t5 = eok (t5 + 1) () := by unfold tokR; rw [if_pos x1, if_pos x2]
  rw [tk, bnd_ok] at eR
  generalize ez : s + 1 + c.length = z at m2 l5
  have ad8 := q_add (t := t) (d := d) (rt := rt) hl m2.2.2.2.2.2.1 (by omega) (a := 3) (v := 0)
  have rd8 := ad_rd hl (a := 3) (v := 0) m2
  have aim := q_aim (t := t) (d := d) (rt := rt) hl rd8.2.2.2.2.2.1 (g := s) (by omega) (by omega)
  (repeat (first | (with_reducible apply wm_o; focus (simp (disch := omega) only [wr_id, Int.toNat_natCast, Int.reduceToNat, tn_lk, tn_kl, if_pos, if_neg, ↓reduceIte, and_self, and_true, true_and, FReader, FText ht, ad8, aim]; with_reducible rfl)) | (with_reducible apply wm_q) | (with_reducible apply wm_c; focus (first | assumption | decide +kernel)) | (with_reducible apply wm_d; focus (simp (disch := omega) only [wr_id, Int.toNat_natCast, Int.reduceToNat, tn_lk, tn_kl, if_pos, if_neg, ↓reduceIte, and_self, and_true, true_and, FReader, FText ht, ad8, aim]; with_reducible rfl)) | (with_reducible apply wm_t; focus (first | omega | (simp (disch := omega) only [wr_id, FReader, FText ht, ad8, aim]; omega) | (simp (disch := omega) only [wr_id, FReader, FText ht, ad8, aim]; done))) | (with_reducible apply wm_f; focus (first | omega | (simp (disch := omega) only [wr_id, FReader, FText ht, ad8, aim]; omega) | (simp (disch := omega) only [wr_id, FReader, FText ht, ad8, aim]; done)))))
  have rowA : ∀ p, up (adI J7 (rt + 8) z 3 0) (rt + 8 + 2) s ((z + 1 : Nat) : Int) (rt + 8 + 1) p = if p = z then 3 else J6 (rt + 8 + 1) p := fun p => by
    rw [up_ne (by omega), (ad_row hl p).1, m3]
  have rowB : ∀ p, up (adI J7 (rt + 8) z 3 0) (rt + 8 + 2) s ((z + 1 : Nat) : Int) (rt + 8 + 2) p = if p = s then ((z + 1 : Nat) : Int) else if p = z then 0 else J6 (rt + 8 + 2) p := fun p => by
    rw [up_g, (ad_row hl p).2, m4]
  have low : ∀ p, p < s → J6 (rt + 8 + 1) p = J4 (rt + 8 + 1) p ∧ J6 (rt + 8 + 2) p = J4 (rt + 8 + 2) p := fun p hp => by
    obtain ⟨r1, r2⟩ := g4 p (by omega)
    rw [r1, r2, (ad_row hl p).1, (ad_row hl p).2, if_neg (by omega), if_neg (by omega)]
    exact ⟨rfl, rfl⟩
  have at_s : J6 (rt + 8 + 1) s = 2 := by
    rw [(g4 s (by omega)).1, (ad_row hl s).1, if_pos rfl]
  refine h1 (t5 + 1) (a, b, c) (z + 1) _ eR.symm ?_ ?_ (by omega) (fun p hp => ?_) ?_ ⟨oka, okb, okc⟩
  · exact frP_up (frP_trans (frP_trans fr6 m1) (ad_frP hl)) (by omega) hl
  · obtain ⟨h1, h2, h3, h4, h5, h6, h7, h8, h9⟩ := rd8
    refine ⟨tbC_frm (up_ne (by omega)) (up_ne (by omega)) (up_ne (by omega)) h1, ?_, ?_, ?_, ?_, ?_, h7, h8, ?_⟩
    · rw [up_ne (by omega)]; exact h2
    · rw [up_ne (by omega)]; exact h3
    · rw [up_ne (by omega)]; exact h4
    · rw [up_ne (by omega)]; exact h5
    · rw [up_ne (by omega)]; exact h6
    · rw [up_ne (by omega)]; exact h9
  · rw [rowA, rowB, if_neg (by omega), if_neg (by omega), if_neg (by omega), (low p (by omega)).1, (low p (by omega)).2]
    exact kk4 p hp
  · refine ⟨cdAt_congr (fun p p1 p2 => ?_) ca4, cdAt_congr (fun p p1 p2 => ?_) cb4, ?_, ?_, cdAt_congr (fun p p1 p2 => ?_) (by show cdAt _ _ (sp + a.length + b.length + 1) c; rw [es]; exact g5), ?_, ?_⟩
    · have p2' : p < sp + a.length := p2
      rw [rowA, rowB, if_neg (by omega), if_neg (by omega), if_neg (by omega)]
      exact low p (by omega)
    · have p2' : p < sp + a.length + b.length := p2
      rw [rowA, rowB, if_neg (by omega), if_neg (by omega), if_neg (by omega)]
      exact low p (by omega)
    · show _ = (2 : Int)
      rw [es, rowA, if_neg (by omega)]
      exact at_s
    · show _ = ((sp + a.length + b.length + 1 + c.length + 1 : Nat) : Int)
      rw [es, rowB, if_pos rfl, ez]
    · have p1' : sp + a.length + b.length + 1 ≤ p := p1
      have p2' : p < sp + a.length + b.length + 1 + c.length := p2
      rw [rowA, rowB, if_neg (by omega), if_neg (by omega), if_neg (by omega)]
      exact ⟨rfl, rfl⟩
    · show _ = (3 : Int)
      rw [es, ez, rowA, if_pos rfl]
    · show z + 1 = sp + a.length + b.length + 1 + c.length + 1
      omega
end LR
