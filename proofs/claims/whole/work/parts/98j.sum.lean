/-! ===== the class reads a sum ===== -/
def kpC (l : Nat) (I J : Nat → Nat → Int) (sp : Nat) : Prop := ∀ p, p < sp → J (l + 1) p = I (l + 1) p ∧ J (l + 2) p = I (l + 2) p
def okC (K : Nat → Nat) (V : Nat → Int) (ps : Nat → Nat) (l : Nat) (I : Nat → Nat → Int) (i sp t' : Nat) (cs : List CI) (J : Nat → Nat → Int) : Prop := frP l I J ∧ rdC K V ps l J t' (sp + cs.length) ∧ i + cs.length ≤ t' ∧ kpC l I J sp ∧ cdAt (J (l + 1)) (J (l + 2)) sp cs
def sQ (K : Nat → Nat) (V : Nat → Int) (ps : Nat → Nat) (l : Nat) (I : Nat → Nat → Int) (i sp : Nat) (R : PR) (r : Int) (J : Nat → Nat → Int) : Prop := (∃ t' cs, R = okr t' cs ∧ r = 1 ∧ okC K V ps l I i sp t' cs J) ∨ (∃ c q, R = pfl c q ∧ r = 0 ∧ fltC ps l I J c q)
def cRun (t d rt : Nat) (K : Nat → Nat) (V : Nat → Int) (ps : Nat → Nat) (f : jMem → Option (Int × jMem)) (next : Nat → PR) : Prop := ∀ (I : Nat → Nat → Int) (i sp : Nat), rdC K V ps (rt + 8) I i sp → sp ≤ 4 + i → wm t d rt (f (mm t d rt I)) (fun r J => sQ K V ps (rt + 8) I i sp (next i) r J)
theorem kpC_trans {l : Nat} {I J M : Nat → Nat → Int} {sp sp' : Nat} (h1 : kpC l I J sp) (h2 : kpC l J M sp') (h : sp ≤ sp') : kpC l I M sp := fun p hp => ⟨((h2 p (by omega)).1).trans (h1 p hp).1, ((h2 p (by omega)).2).trans (h1 p hp).2⟩
theorem kpC_eq {l : Nat} {I J : Nat → Nat → Int} {sp : Nat} (h1 : J (l + 1) = I (l + 1)) (h2 : J (l + 2) = I (l + 2)) : kpC l I J sp := fun p _ => ⟨by rw [h1], by rw [h2]⟩
theorem flt_tr {ps : Nat → Nat} {l : Nat} {I J M : Nat → Nat → Int} {c q : Nat} (h : frP l I J) (h2 : fltC ps l J M c q) : fltC ps l I M c q := ⟨frP_trans h h2.1, h2.2⟩
def lpB (o1 o2 : Int) (f : jMem → Option (Int × jMem)) : (Int → Int → jMem → Option (Int × jMem)) → Int → Int → jMem → Option (Int × jMem) := fun rec_8 y2_8 y3_8 M_8 =>
if jd_wr y3_8 ≤ jd_wr 400 then (if jd_wr y2_8 = 0 then (jm_z y2_8 M_8)
else ((jm_gI 3 4 M_8 29).bind fun v3 =>
jjq ((jm_gI 3 4 M_8 29).bind fun v4 =>
jcall 3 M_8 29 (f_X3_accept 29 1 M_8) fun v5 M6 =>
jjq (fun (z0_64 : Int) (M_64 : jMem) =>
(jm_gR 3 2 M_64 29).bind fun r7 =>
(jm_gR 8 12 M_64 r7).bind fun r8 =>
jcall 2 M_64 r8 (f_X2_add r8 v4 0 M_64) fun v9 M10 =>
rec_8 z0_64 (y3_8 + 1) M10) fun j_64 =>
jjq (fun (M_63 : jMem) =>
j_64 0 M_63) fun j_63 =>
if jd_wr v5 = 0 then (j_63 M6)
else (jcall 3 M6 29 (f M6) fun v11 M12 =>
if jd_wr v11 = 0 then (j_63 M12)
else (j_64 1 M12))) fun j_37 =>
if jd_wr v3 = jd_wr o1 then (j_37 )
else ((jm_gI 3 4 M_8 29).bind fun v13 =>
if jd_wr v13 = jd_wr o2 then (j_37 )
else (jm_z y2_8 M_8))))
else (jm_z y2_8 M_8)
section SM
variable {t d rt : Nat} {I J : Nat → Nat → Int} {K : Nat → Nat} {V : Nat → Int} {ps : Nat → Nat} {i sp : Nat}
theorem c_loop (ht : rt ∈ [3, 16]) (hv : kvOK K V ps) {o1 o2 : Nat} {isop : Nat → Bool} (ho : ∀ k, isop k = true ↔ k = o1 ∨ k = o2) (h1 : 12 ≤ o1 ∧ o1 ≤ 15) (h2 : 12 ≤ o2 ∧ o2 ≤ 15) {f : jMem → Option (Int × jMem)} {next : Nat → PR} (hn : cRun t d rt K V ps f next) {R1 : PR} {r1 : Int} (hsp : sp ≤ 4 + i) (hJ : sQ K V ps (rt + 8) I i sp R1 r1 J) : wm t d rt (jlp3 (lpB (o1 : Int) (o2 : Int) f) jfuel r1 0 (mm t d rt J)) (fun r J => sQ K V ps (rt + 8) I i sp (andT R1 (fun t2 cs => loopR K isop next 401 t2 cs)) r J) := by
  have hl : rt + 8 = 11 ∨ rt + 8 = 24 := by
    have : rt = 3 ∨ rt = 16 := by simpa using ht
    omega
  have hl' : rt + 8 ∈ [11, 24] := by simpa using hl
  have kl : (K0 (rt + 8)).1 = 2 ∧ rt + 8 < 418 := ⟨(FLaws_k _ hl').1, (FLaws_k _ hl').2.1⟩
  generalize eR : andT R1 (fun t2 cs => loopR K isop next 401 t2 cs) = R
  refine wm_lp3 401 (fun n y2 y3 J => y3 = (n : Int) ∧ ((∃ t' cs, y2 = 1 ∧ okC K V ps (rt + 8) I i sp t' cs J ∧ loopR K isop next (401 - n) t' cs = R) ∨ (∃ c q, y2 = 0 ∧ fltC ps (rt + 8) I J c q ∧ R = pfl c q))) ?_ (jfuel_n (by decide)) ⟨rfl, ?_⟩
  · rintro n hn' y2 y3 J ⟨rfl, hc⟩ rec hrec
    unfold lpB
    rcases hc with ⟨t', cs, rfl, ⟨a1, a2, a3, a4, a5⟩, e⟩ | ⟨c, q, rfl, a1, e⟩
    · have a2' := a2
      obtain ⟨b1, b2, b3, b4, b5, b6, b7, b8, b9⟩ := a2
      have kt := (hv t').1
      by_cases cn : n = 401
      · have e' : R = okr t' cs := by rw [← e, show 401 - n = 0 by omega]; rfl
        (repeat (first | (with_reducible apply wm_o; focus (simp (disch := omega) only [wr_id, Int.toNat_natCast, Int.reduceToNat, tn_lk, tn_kl, if_pos, if_neg, ↓reduceIte, and_self, and_true, true_and]; with_reducible rfl)) | (with_reducible apply wm_q) | (with_reducible apply wm_c; focus (first | assumption | decide +kernel)) | (with_reducible apply wm_d; focus (simp (disch := omega) only [wr_id, Int.toNat_natCast, Int.reduceToNat, tn_lk, tn_kl, if_pos, if_neg, ↓reduceIte, and_self, and_true, true_and]; with_reducible rfl)) | (with_reducible apply wm_t; focus (first | omega | (simp (disch := omega) only [wr_id]; omega) | (simp (disch := omega) only [wr_id]; done))) | (with_reducible apply wm_f; focus (first | omega | (simp (disch := omega) only [wr_id]; omega) | (simp (disch := omega) only [wr_id]; done)))))
        exact wm_z1 (Or.inl ⟨t', cs, e', rfl, a1, a2', a3, a4, a5⟩)
      · obtain ⟨m, em⟩ : ∃ m, 401 - n = m + 1 := ⟨400 - n, by omega⟩
        rw [em, loopR] at e
        by_cases cop : isop (K t') = true
        · rw [if_pos cop] at e
          have kop := (ho (K t')).mp cop
          have kn0 : K t' ≠ 0 := by omega
          -- behind the sign
          have go : wm t d rt (jbd (f_X3_accept 29 1 (mm t d rt J)) fun v5 M6 =>
              jjq (fun (z0_64 : Int) (M_64 : jMem) =>
              (jm_gR 3 2 M_64 29).bind fun r7 =>
              (jm_gR 8 12 M_64 r7).bind fun r8 =>
              jcall 2 M_64 r8 (f_X2_add r8 (K t' : Int) 0 M_64) fun v9 M10 =>
              rec z0_64 ((n : Int) + 1) M10) fun j_64 =>
              jjq (fun (M_63 : jMem) =>
              j_64 0 M_63) fun j_63 =>
              if jd_wr v5 = 0 then (j_63 M6)
              else (jcall 3 M6 29 (f M6) fun v11 M12 =>
              if jd_wr v11 = 0 then (j_63 M12)
              else (j_64 1 M12))) (fun r J => sQ K V ps (rt + 8) I i sp R r J) := by
            have bad : ∀ J2 c q, fltC ps (rt + 8) I J2 c q → R = pfl c q → wm t d rt ((jm_gR 3 2 (mm t d rt J2) 29).bind fun r7 =>
                (jm_gR 8 12 (mm t d rt J2) r7).bind fun r8 =>
                jcall 2 (mm t d rt J2) r8 (f_X2_add r8 (K t' : Int) 0 (mm t d rt J2)) fun v9 M10 =>
                rec 0 ((n : Int) + 1) M10) (fun r J => sQ K V ps (rt + 8) I i sp R r J) := by
              rintro J2 c q ⟨f1, f2, f3, s, f4, f5⟩ hR
              (repeat (first | (with_reducible apply wm_o; focus (simp (disch := omega) only [wr_id, Int.toNat_natCast, Int.reduceToNat, tn_lk, tn_kl, if_pos, if_neg, ↓reduceIte, and_self, and_true, true_and, FReader, FText ht, FLaws hl']; with_reducible rfl)) | (with_reducible apply wm_q) | (with_reducible apply wm_c; focus (first | assumption | decide +kernel)) | (with_reducible apply wm_d; focus (simp (disch := omega) only [wr_id, Int.toNat_natCast, Int.reduceToNat, tn_lk, tn_kl, if_pos, if_neg, ↓reduceIte, and_self, and_true, true_and, FReader, FText ht, FLaws hl']; with_reducible rfl)) | (with_reducible apply wm_t; focus (first | omega | (simp (disch := omega) only [wr_id, FReader, FText ht, FLaws hl']; omega) | (simp (disch := omega) only [wr_id, FReader, FText ht, FLaws hl']; done))) | (with_reducible apply wm_f; focus (first | omega | (simp (disch := omega) only [wr_id, FReader, FText ht, FLaws hl']; omega) | (simp (disch := omega) only [wr_id, FReader, FText ht, FLaws hl']; done)))))
              refine wm_b (w_add hl f4 f5) (fun r J3 hJ3 => ?_)
              refine hrec (n + 1) _ _ _ (by omega) (by omega) ⟨by omega, Or.inr ⟨c, q, rfl, ?_, hR⟩⟩
              rcases hJ3 with ⟨g1, rfl, g2⟩ | ⟨g1, rfl⟩
              · refine ⟨frP_trans f1 (ad_frP hl), ?_, ?_, s + 1, ?_, by omega⟩
                · unfold adI; rw [up_ne (by omega), up_ne (by omega), up_ne (by omega)]; exact f2
                · unfold adI; rw [up_ne (by omega), up_ne (by omega), up_ne (by omega)]; exact f3
                · unfold adI; rw [up_s]; omega
              · exact ⟨f1, f2, f3, s, f4, f5⟩
            refine wm_b (w_accept hl hv a2' (by omega) (Or.inr rfl) kn0) (fun r J2 hJ2 => ?_)
            rcases hJ2 with ⟨_, c4, rfl, d1, d2, d3, d4⟩ | ⟨c4, rfl, d1⟩
            · rw [if_pos c4] at e
              (repeat (first | (with_reducible apply wm_o; focus (simp (disch := omega) only [wr_id, Int.toNat_natCast, Int.reduceToNat, tn_lk, tn_kl, if_pos, if_neg, ↓reduceIte, and_self, and_true, true_and, FReader]; with_reducible rfl)) | (with_reducible apply wm_q) | (with_reducible apply wm_c; focus (first | assumption | decide +kernel)) | (with_reducible apply wm_d; focus (simp (disch := omega) only [wr_id, Int.toNat_natCast, Int.reduceToNat, tn_lk, tn_kl, if_pos, if_neg, ↓reduceIte, and_self, and_true, true_and, FReader]; with_reducible rfl)) | (with_reducible apply wm_t; focus (first | omega | (simp (disch := omega) only [wr_id, FReader]; omega) | (simp (disch := omega) only [wr_id, FReader]; done))) | (with_reducible apply wm_f; focus (first | omega | (simp (disch := omega) only [wr_id, FReader]; omega) | (simp (disch := omega) only [wr_id, FReader]; done)))))
              refine wm_b (hn J2 (t' + 1) _ d2 (by omega)) (fun r J3 hJ3 => ?_)
              rcases hJ3 with ⟨t2, cs2, e2, rfl, g1, g2, g3, g4, g5⟩ | ⟨c, q, e2, rfl, g1⟩
              · rw [e2, andT_ok] at e
                have g6 := g2.2.2.2.2.2.2.1
                have ad := q_add (t := t) (d := d) (rt := rt) hl g2.2.2.2.2.2.1 (by omega) (a := (K t' : Int)) (v := 0)
                (repeat (first | (with_reducible apply wm_o; focus (simp (disch := omega) only [wr_id, Int.toNat_natCast, Int.reduceToNat, tn_lk, tn_kl, if_pos, if_neg, ↓reduceIte, and_self, and_true, true_and, FReader, FText ht, FLaws hl', ad]; with_reducible rfl)) | (with_reducible apply wm_q) | (with_reducible apply wm_c; focus (first | assumption | decide +kernel)) | (with_reducible apply wm_d; focus (simp (disch := omega) only [wr_id, Int.toNat_natCast, Int.reduceToNat, tn_lk, tn_kl, if_pos, if_neg, ↓reduceIte, and_self, and_true, true_and, FReader, FText ht, FLaws hl', ad]; with_reducible rfl)) | (with_reducible apply wm_t; focus (first | omega | (simp (disch := omega) only [wr_id, FReader, FText ht, FLaws hl', ad]; omega) | (simp (disch := omega) only [wr_id, FReader, FText ht, FLaws hl', ad]; done))) | (with_reducible apply wm_f; focus (first | omega | (simp (disch := omega) only [wr_id, FReader, FText ht, FLaws hl', ad]; omega) | (simp (disch := omega) only [wr_id, FReader, FText ht, FLaws hl', ad]; done)))))
                have el : sp + (cs ++ cs2 ++ [cOp (K t')]).length = sp + cs.length + cs2.length + 1 := by
                  simp only [List.length_append, List.length_cons, List.length_nil]; omega
                have el2 : (cs ++ cs2 ++ [cOp (K t')]).length = cs.length + cs2.length + 1 := by
                  simp only [List.length_append, List.length_cons, List.length_nil]
                have k3 : kpC (rt + 8) J J3 (sp + cs.length) := kpC_trans (kpC_eq d3 d4 (sp := sp + cs.length)) g4 (Nat.le_refl _)
                refine hrec (n + 1) _ _ _ (by omega) (by omega) ⟨by omega, Or.inl ⟨t2, cs ++ cs2 ++ [cOp (K t')], rfl, ⟨frP_trans (frP_trans (frP_trans a1 d1) g1) (ad_frP hl), ?_, by rw [el2]; omega, ?_, ?_⟩, ?_⟩⟩
                · rw [el]; exact ad_rd hl g2
                · intro p hp
                  obtain ⟨r1, r2⟩ := ad_row (I := J3) (sp := sp + cs.length + cs2.length) hl (a := (K t' : Int)) (v := 0) p
                  rw [r1, r2, if_neg (by omega), if_neg (by omega)]
                  obtain ⟨r3, r4⟩ := k3 p (by omega)
                  obtain ⟨r5, r6⟩ := a4 p hp
                  exact ⟨r3.trans r5, r4.trans r6⟩
                · rw [cdAt_app, cdAt_app]
                  refine ⟨⟨cdAt_congr (fun p p1 p2 => ?_) a5, cdAt_congr (fun p p1 p2 => ?_) g5⟩, ?_⟩
                  · obtain ⟨r1, r2⟩ := ad_row (I := J3) (sp := sp + cs.length + cs2.length) hl (a := (K t' : Int)) (v := 0) p
                    rw [r1, r2, if_neg (by omega), if_neg (by omega)]
                    exact k3 p (by omega)
                  · obtain ⟨r1, r2⟩ := ad_row (I := J3) (sp := sp + cs.length + cs2.length) hl (a := (K t' : Int)) (v := 0) p
                    rw [r1, r2, if_neg (by omega), if_neg (by omega)]
                    exact ⟨rfl, rfl⟩
                  · obtain ⟨r1, r2⟩ := ad_row (I := J3) (sp := sp + cs.length + cs2.length) hl (a := (K t' : Int)) (v := 0) (sp + (cs ++ cs2).length)
                    rw [List.length_append] at r1 r2 ⊢
                    rw [if_pos (by omega)] at r1 r2
                    exact ⟨r1, r2, True.intro⟩
                · rw [show 401 - (n + 1) = m by omega]; exact e
              · rw [e2, andT_fl] at e
                (repeat (first | (with_reducible apply wm_o; focus (simp (disch := omega) only [wr_id, Int.toNat_natCast, Int.reduceToNat, tn_lk, tn_kl, if_pos, if_neg, ↓reduceIte, and_self, and_true, true_and, FReader]; with_reducible rfl)) | (with_reducible apply wm_q) | (with_reducible apply wm_c; focus (first | assumption | decide +kernel)) | (with_reducible apply wm_d; focus (simp (disch := omega) only [wr_id, Int.toNat_natCast, Int.reduceToNat, tn_lk, tn_kl, if_pos, if_neg, ↓reduceIte, and_self, and_true, true_and, FReader]; with_reducible rfl)) | (with_reducible apply wm_t; focus (first | omega | (simp (disch := omega) only [wr_id, FReader]; omega) | (simp (disch := omega) only [wr_id, FReader]; done))) | (with_reducible apply wm_f; focus (first | omega | (simp (disch := omega) only [wr_id, FReader]; omega) | (simp (disch := omega) only [wr_id, FReader]; done)))))
                exact bad J3 c q (flt_tr (frP_trans a1 d1) g1) e.symm
            · rw [if_neg (fun q => c4 ⟨rfl, q⟩)] at e
              exact bad J2 2 t' (flt_tr a1 d1) e.symm
          by_cases c1 : K t' = o1
          · (repeat (first | (with_reducible apply wm_o; focus (simp (disch := omega) only [wr_id, Int.toNat_natCast, Int.reduceToNat, tn_lk, tn_kl, if_pos, if_neg, ↓reduceIte, and_self, and_true, true_and, FReader, b3]; with_reducible rfl)) | (with_reducible apply wm_q) | (with_reducible apply wm_c; focus (first | assumption | decide +kernel)) | (with_reducible apply wm_d; focus (simp (disch := omega) only [wr_id, Int.toNat_natCast, Int.reduceToNat, tn_lk, tn_kl, if_pos, if_neg, ↓reduceIte, and_self, and_true, true_and, FReader, b3]; with_reducible rfl)) | (with_reducible apply wm_t; focus (first | omega | (simp (disch := omega) only [wr_id, FReader, b3]; omega) | (simp (disch := omega) only [wr_id, FReader, b3]; done))) | (with_reducible apply wm_f; focus (first | omega | (simp (disch := omega) only [wr_id, FReader, b3]; omega) | (simp (disch := omega) only [wr_id, FReader, b3]; done)))))
            exact go
          · have c2 : K t' = o2 := by omega
            (repeat (first | (with_reducible apply wm_o; focus (simp (disch := omega) only [wr_id, Int.toNat_natCast, Int.reduceToNat, tn_lk, tn_kl, if_pos, if_neg, ↓reduceIte, and_self, and_true, true_and, FReader, b3]; with_reducible rfl)) | (with_reducible apply wm_q) | (with_reducible apply wm_c; focus (first | assumption | decide +kernel)) | (with_reducible apply wm_d; focus (simp (disch := omega) only [wr_id, Int.toNat_natCast, Int.reduceToNat, tn_lk, tn_kl, if_pos, if_neg, ↓reduceIte, and_self, and_true, true_and, FReader, b3]; with_reducible rfl)) | (with_reducible apply wm_t; focus (first | omega | (simp (disch := omega) only [wr_id, FReader, b3]; omega) | (simp (disch := omega) only [wr_id, FReader, b3]; done))) | (with_reducible apply wm_f; focus (first | omega | (simp (disch := omega) only [wr_id, FReader, b3]; omega) | (simp (disch := omega) only [wr_id, FReader, b3]; done)))))
            exact go
        · rw [if_neg cop] at e
          have n1 : K t' ≠ o1 := fun q => cop ((ho _).mpr (Or.inl q))
          have n2 : K t' ≠ o2 := fun q => cop ((ho _).mpr (Or.inr q))
          (repeat (first | (with_reducible apply wm_o; focus (simp (disch := omega) only [wr_id, Int.toNat_natCast, Int.reduceToNat, tn_lk, tn_kl, if_pos, if_neg, ↓reduceIte, and_self, and_true, true_and, FReader, b3]; with_reducible rfl)) | (with_reducible apply wm_q) | (with_reducible apply wm_c; focus (first | assumption | decide +kernel)) | (with_reducible apply wm_d; focus (simp (disch := omega) only [wr_id, Int.toNat_natCast, Int.reduceToNat, tn_lk, tn_kl, if_pos, if_neg, ↓reduceIte, and_self, and_true, true_and, FReader, b3]; with_reducible rfl)) | (with_reducible apply wm_t; focus (first | omega | (simp (disch := omega) only [wr_id, FReader, b3]; omega) | (simp (disch := omega) only [wr_id, FReader, b3]; done))) | (with_reducible apply wm_f; focus (first | omega | (simp (disch := omega) only [wr_id, FReader, b3]; omega) | (simp (disch := omega) only [wr_id, FReader, b3]; done)))))
          exact wm_z1 (Or.inl ⟨t', cs, e.symm, rfl, a1, a2', a3, a4, a5⟩)
    · by_cases cn : n = 401
      · (repeat (first | (with_reducible apply wm_o; focus (simp (disch := omega) only [wr_id, Int.toNat_natCast, Int.reduceToNat, tn_lk, tn_kl, if_pos, if_neg, ↓reduceIte, and_self, and_true, true_and]; with_reducible rfl)) | (with_reducible apply wm_q) | (with_reducible apply wm_c; focus (first | assumption | decide +kernel)) | (with_reducible apply wm_d; focus (simp (disch := omega) only [wr_id, Int.toNat_natCast, Int.reduceToNat, tn_lk, tn_kl, if_pos, if_neg, ↓reduceIte, and_self, and_true, true_and]; with_reducible rfl)) | (with_reducible apply wm_t; focus (first | omega | (simp (disch := omega) only [wr_id]; omega) | (simp (disch := omega) only [wr_id]; done))) | (with_reducible apply wm_f; focus (first | omega | (simp (disch := omega) only [wr_id]; omega) | (simp (disch := omega) only [wr_id]; done)))))
        exact wm_z0 (Or.inr ⟨c, q, e, rfl, a1⟩)
      · (repeat (first | (with_reducible apply wm_o; focus (simp (disch := omega) only [wr_id, Int.toNat_natCast, Int.reduceToNat, tn_lk, tn_kl, if_pos, if_neg, ↓reduceIte, and_self, and_true, true_and]; with_reducible rfl)) | (with_reducible apply wm_q) | (with_reducible apply wm_c; focus (first | assumption | decide +kernel)) | (with_reducible apply wm_d; focus (simp (disch := omega) only [wr_id, Int.toNat_natCast, Int.reduceToNat, tn_lk, tn_kl, if_pos, if_neg, ↓reduceIte, and_self, and_true, true_and]; with_reducible rfl)) | (with_reducible apply wm_t; focus (first | omega | (simp (disch := omega) only [wr_id]; omega) | (simp (disch := omega) only [wr_id]; done))) | (with_reducible apply wm_f; focus (first | omega | (simp (disch := omega) only [wr_id]; omega) | (simp (disch := omega) only [wr_id]; done)))))
        exact wm_z0 (Or.inr ⟨c, q, e, rfl, a1⟩)
  · rcases hJ with ⟨t', cs, e, rfl, h⟩ | ⟨c, q, e, rfl, h⟩
    · refine Or.inl ⟨t', cs, rfl, h, ?_⟩
      rw [← eR, e, andT_ok]
    · refine Or.inr ⟨c, q, rfl, h, ?_⟩
      rw [← eR, e, andT_fl]
end SM
