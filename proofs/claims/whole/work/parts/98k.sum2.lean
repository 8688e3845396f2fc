/-! ===== the class reads a sum, with its brackets ===== -/
section SN
variable {t d rt : Nat} {I J : Nat → Nat → Int} {K : Nat → Nat} {V : Nat → Int} {ps : Nat → Nat} {i sp : Nat}
theorem okC_acc {l : Nat} (hR : rdC K V ps l J (i + 1) sp) (hf : frP l I J) (h1 : J (l + 1) = I (l + 1)) (h2 : J (l + 2) = I (l + 2)) : okC K V ps l I i sp (i + 1) [] J := ⟨hf, hR, by show i + 0 ≤ i + 1; omega, kpC_eq h1 h2, True.intro⟩
theorem c_one (hl : rt + 8 = 11 ∨ rt + 8 = 24) (hv : kvOK K V ps) (hR : rdC K V ps (rt + 8) I i sp) (hsp : sp ≤ 4 + i) (hK : K i ≠ 0) {a : Nat} {v : Int} {R : PR} (hRR : R = if i < 400 then okr (i + 1) [(a, v)] else pfl 2 i) : wm t d rt (jbd (f_X2_add (rt + 8) (a : Int) v (mm t d rt I)) fun v8 M9 => jcall 3 M9 29 (f_X3_accept 29 1 M9) fun v10 M11 => jm_z v10 M11) (fun r J => sQ K V ps (rt + 8) I i sp R r J) := by
  have hi := hR.2.2.2.2.2.2.1
  refine wm_b (w_add hl hR.2.2.2.2.2.1 (by omega)) (fun r J hJ => ?_)
  rcases hJ with ⟨g1, rfl, g2⟩ | ⟨g1, rfl⟩
  · (repeat (first | (with_reducible apply wm_o; focus (simp (disch := omega) only [wr_id, Int.toNat_natCast, Int.reduceToNat, tn_lk, tn_kl, if_pos, if_neg, ↓reduceIte, and_self, and_true, true_and, FReader]; with_reducible rfl)) | (with_reducible apply wm_q) | (with_reducible apply wm_c; focus (first | assumption | decide +kernel)) | (with_reducible apply wm_d; focus (simp (disch := omega) only [wr_id, Int.toNat_natCast, Int.reduceToNat, tn_lk, tn_kl, if_pos, if_neg, ↓reduceIte, and_self, and_true, true_and, FReader]; with_reducible rfl)) | (with_reducible apply wm_t; focus (first | omega | (simp (disch := omega) only [wr_id, FReader]; omega) | (simp (disch := omega) only [wr_id, FReader]; done))) | (with_reducible apply wm_f; focus (first | omega | (simp (disch := omega) only [wr_id, FReader]; omega) | (simp (disch := omega) only [wr_id, FReader]; done)))))
    refine wm_b (w_accept hl hv (ad_rd hl hR) (by omega) (Or.inr rfl) hK) (fun r J hJ => ?_)
    rcases hJ with ⟨_, c4, rfl, d1, d2, d3, d4⟩ | ⟨c4, rfl, d1⟩
    · rw [if_pos c4] at hRR
      refine wm_z1 (Or.inl ⟨_, _, hRR, rfl, frP_trans (ad_frP hl) d1, d2, Nat.le_refl _, fun p hp => ?_, ?_, ?_, True.intro⟩)
      · obtain ⟨r1, r2⟩ := ad_row (I := I) (sp := sp) hl (a := (a : Int)) (v := v) p
        rw [d3, d4, r1, r2, if_neg (by omega), if_neg (by omega)]
        exact ⟨rfl, rfl⟩
      · rw [d3, (ad_row hl sp).1, if_pos rfl]
      · rw [d4, (ad_row hl sp).2, if_pos rfl]
    · rw [if_neg (fun q => c4 ⟨rfl, q⟩)] at hRR
      exact wm_z0 (Or.inr ⟨2, i, hRR, rfl, flt_tr (ad_frP hl) d1⟩)
  · (repeat (first | (with_reducible apply wm_o; focus (simp (disch := omega) only [wr_id, Int.toNat_natCast, Int.reduceToNat, tn_lk, tn_kl, if_pos, if_neg, ↓reduceIte, and_self, and_true, true_and, FReader]; with_reducible rfl)) | (with_reducible apply wm_q) | (with_reducible apply wm_c; focus (first | assumption | decide +kernel)) | (with_reducible apply wm_d; focus (simp (disch := omega) only [wr_id, Int.toNat_natCast, Int.reduceToNat, tn_lk, tn_kl, if_pos, if_neg, ↓reduceIte, and_self, and_true, true_and, FReader]; with_reducible rfl)) | (with_reducible apply wm_t; focus (first | omega | (simp (disch := omega) only [wr_id, FReader]; omega) | (simp (disch := omega) only [wr_id, FReader]; done))) | (with_reducible apply wm_f; focus (first | omega | (simp (disch := omega) only [wr_id, FReader]; omega) | (simp (disch := omega) only [wr_id, FReader]; done)))))
    refine wm_b (w_accept hl hv hR (by omega) (Or.inr rfl) hK) (fun r J hJ => ?_)
    rcases hJ with ⟨_, c4, rfl, d1, d2, d3, d4⟩ | ⟨c4, rfl, d1⟩
    · omega
    · rw [if_neg (fun q => c4 ⟨rfl, q⟩)] at hRR
      exact wm_z0 (Or.inr ⟨2, i, hRR, rfl, d1⟩)
theorem c_unit (ht : rt ∈ [3, 16]) (hv : kvOK K V ps) {rm : Bool} {rs : Nat → PR} {x1 : Int} (hx : 0 ≤ x1 ∧ x1 ≤ 6) {rsf : Nat → Int → jMem → Option (Int × jMem)} (h1 : rm = true → x1 < 6 ∧ cRun t d rt K V ps (fun M => rsf 29 (x1 + 1) M) rs) (h2 : rm = false → x1 = 6) : cRun t d rt K V ps (fun M => f_X3_takeUnit rsf 29 x1 M) (unitR K V rm rs) := by
  intro I i sp hR hsp
  have hl : rt + 8 = 11 ∨ rt + 8 = 24 := by
    have : rt = 3 ∨ rt = 16 := by simpa using ht
    omega
  have hl' : rt + 8 ∈ [11, 24] := by simpa using hl
  have kl : (K0 (rt + 8)).1 = 2 ∧ rt + 8 < 418 := ⟨(FLaws_k _ hl').1, (FLaws_k _ hl').2.1⟩
  have hR' := hR
  obtain ⟨a1, a2, a3, a4, a5, a6, a7, a8, a9⟩ := hR
  have ki := (hv i).1
  show wm t d rt (f_X3_takeUnit rsf 29 x1 (mm t d rt I)) _
  unfold f_X3_takeUnit
  by_cases c1 : K i = 3
  · have hRR : unitR K V rm rs i = if i < 400 then okr (i + 1) [(0, V i)] else pfl 2 i := by unfold unitR; rw [if_pos c1]; rfl
    have nb := q_numberOf (t := t) (d := d) (rt := rt) (I := I) a7
    rw [(a1 i a7 a8).2.2 c1] at nb
    (repeat (first | (with_reducible apply wm_o; focus (simp (disch := omega) only [wr_id, Int.toNat_natCast, Int.reduceToNat, tn_lk, tn_kl, if_pos, if_neg, ↓reduceIte, and_self, and_true, true_and, FReader, FText ht, FTok, a3, a2, nb]; with_reducible rfl)) | (with_reducible apply wm_q) | (with_reducible apply wm_c; focus (first | assumption | decide +kernel)) | (with_reducible apply wm_d; focus (simp (disch := omega) only [wr_id, Int.toNat_natCast, Int.reduceToNat, tn_lk, tn_kl, if_pos, if_neg, ↓reduceIte, and_self, and_true, true_and, FReader, FText ht, FTok, a3, a2, nb]; with_reducible rfl)) | (with_reducible apply wm_t; focus (first | omega | (simp (disch := omega) only [wr_id, FReader, FText ht, FTok, a3, a2, nb]; omega) | (simp (disch := omega) only [wr_id, FReader, FText ht, FTok, a3, a2, nb]; done))) | (with_reducible apply wm_f; focus (first | omega | (simp (disch := omega) only [wr_id, FReader, FText ht, FTok, a3, a2, nb]; omega) | (simp (disch := omega) only [wr_id, FReader, FText ht, FTok, a3, a2, nb]; done)))))
    exact c_one hl hv hR' hsp (by omega) hRR
  · by_cases c2 : 30 ≤ K i ∧ K i ≤ 38
    · have hRR : unitR K V rm rs i = if i < 400 then okr (i + 1) [(1, ((K i - 30 : Nat) : Int))] else pfl 2 i := by unfold unitR; rw [if_neg c1, if_pos c2]; rfl
      have e30 : (K i : Int) - 30 = ((K i - 30 : Nat) : Int) := by omega
      (repeat (first | (with_reducible apply wm_o; focus (simp (disch := omega) only [wr_id, Int.toNat_natCast, Int.reduceToNat, tn_lk, tn_kl, if_pos, if_neg, ↓reduceIte, and_self, and_true, true_and, FReader, FText ht, FTok, a3, a2]; with_reducible rfl)) | (with_reducible apply wm_q) | (with_reducible apply wm_c; focus (first | assumption | decide +kernel)) | (with_reducible apply wm_d; focus (simp (disch := omega) only [wr_id, Int.toNat_natCast, Int.reduceToNat, tn_lk, tn_kl, if_pos, if_neg, ↓reduceIte, and_self, and_true, true_and, FReader, FText ht, FTok, a3, a2]; with_reducible rfl)) | (with_reducible apply wm_t; focus (first | omega | (simp (disch := omega) only [wr_id, FReader, FText ht, FTok, a3, a2]; omega) | (simp (disch := omega) only [wr_id, FReader, FText ht, FTok, a3, a2]; done))) | (with_reducible apply wm_f; focus (first | omega | (simp (disch := omega) only [wr_id, FReader, FText ht, FTok, a3, a2]; omega) | (simp (disch := omega) only [wr_id, FReader, FText ht, FTok, a3, a2]; done)))))
      rw [e30]
      exact c_one hl hv hR' hsp (by omega) hRR
    · by_cases c3 : K i = 17
      · have hRR : unitR K V rm rs i = if rm = true ∧ i < 400 then andT (rs (i + 1)) (fun t2 cs => if K t2 = 18 then (if t2 < 400 then okr (t2 + 1) cs else pfl 2 t2) else pfl 1 t2) else pfl 2 i := by unfold unitR; rw [if_neg c1, if_neg c2, if_pos c3]
        rw [hRR]
        cases rm with
        | false =>
          have x6 := h2 rfl
          rw [if_neg (fun q => absurd q.1 (by decide))]
          (repeat (first | (with_reducible apply wm_o; focus (simp (disch := omega) only [wr_id, Int.toNat_natCast, Int.reduceToNat, tn_lk, tn_kl, if_pos, if_neg, ↓reduceIte, and_self, and_true, true_and, FReader, a3]; with_reducible rfl)) | (with_reducible apply wm_q) | (with_reducible apply wm_c; focus (first | assumption | decide +kernel)) | (with_reducible apply wm_d; focus (simp (disch := omega) only [wr_id, Int.toNat_natCast, Int.reduceToNat, tn_lk, tn_kl, if_pos, if_neg, ↓reduceIte, and_self, and_true, true_and, FReader, a3]; with_reducible rfl)) | (with_reducible apply wm_t; focus (first | omega | (simp (disch := omega) only [wr_id, FReader, a3]; omega) | (simp (disch := omega) only [wr_id, FReader, a3]; done))) | (with_reducible apply wm_f; focus (first | omega | (simp (disch := omega) only [wr_id, FReader, a3]; omega) | (simp (disch := omega) only [wr_id, FReader, a3]; done)))))
          refine wm_b (w_accept hl hv hR' (by omega) (Or.inl rfl) (by omega)) (fun r J hJ => ?_)
          rcases hJ with ⟨q, _⟩ | ⟨c4, rfl, d1⟩
          · exact absurd q (by decide)
          · (repeat (first | (with_reducible apply wm_o; focus (simp (disch := omega) only [wr_id, Int.toNat_natCast, Int.reduceToNat, tn_lk, tn_kl, if_pos, if_neg, ↓reduceIte, and_self, and_true, true_and]; with_reducible rfl)) | (with_reducible apply wm_q) | (with_reducible apply wm_c; focus (first | assumption | decide +kernel)) | (with_reducible apply wm_d; focus (simp (disch := omega) only [wr_id, Int.toNat_natCast, Int.reduceToNat, tn_lk, tn_kl, if_pos, if_neg, ↓reduceIte, and_self, and_true, true_and]; with_reducible rfl)) | (with_reducible apply wm_t; focus (first | omega | (simp (disch := omega) only [wr_id]; omega) | (simp (disch := omega) only [wr_id]; done))) | (with_reducible apply wm_f; focus (first | omega | (simp (disch := omega) only [wr_id]; omega) | (simp (disch := omega) only [wr_id]; done)))))
            exact wm_z0 (Or.inr ⟨2, i, rfl, rfl, d1⟩)
        | true =>
          obtain ⟨x6, hs⟩ := h1 rfl
          (repeat (first | (with_reducible apply wm_o; focus (simp (disch := omega) only [wr_id, Int.toNat_natCast, Int.reduceToNat, tn_lk, tn_kl, if_pos, if_neg, ↓reduceIte, and_self, and_true, true_and, FReader, a3]; with_reducible rfl)) | (with_reducible apply wm_q) | (with_reducible apply wm_c; focus (first | assumption | decide +kernel)) | (with_reducible apply wm_d; focus (simp (disch := omega) only [wr_id, Int.toNat_natCast, Int.reduceToNat, tn_lk, tn_kl, if_pos, if_neg, ↓reduceIte, and_self, and_true, true_and, FReader, a3]; with_reducible rfl)) | (with_reducible apply wm_t; focus (first | omega | (simp (disch := omega) only [wr_id, FReader, a3]; omega) | (simp (disch := omega) only [wr_id, FReader, a3]; done))) | (with_reducible apply wm_f; focus (first | omega | (simp (disch := omega) only [wr_id, FReader, a3]; omega) | (simp (disch := omega) only [wr_id, FReader, a3]; done)))))
          refine wm_b (w_accept hl hv hR' (by omega) (Or.inr rfl) (by omega)) (fun r J hJ => ?_)
          rcases hJ with ⟨_, c4, rfl, d1, d2, d3, d4⟩ | ⟨c4, rfl, d1⟩
          · rw [if_pos ⟨rfl, c4⟩]
            (repeat (first | (with_reducible apply wm_o; focus (simp (disch := omega) only [wr_id, Int.toNat_natCast, Int.reduceToNat, tn_lk, tn_kl, if_pos, if_neg, ↓reduceIte, and_self, and_true, true_and, FReader]; with_reducible rfl)) | (with_reducible apply wm_q) | (with_reducible apply wm_c; focus (first | assumption | decide +kernel)) | (with_reducible apply wm_d; focus (simp (disch := omega) only [wr_id, Int.toNat_natCast, Int.reduceToNat, tn_lk, tn_kl, if_pos, if_neg, ↓reduceIte, and_self, and_true, true_and, FReader]; with_reducible rfl)) | (with_reducible apply wm_t; focus (first | omega | (simp (disch := omega) only [wr_id, FReader]; omega) | (simp (disch := omega) only [wr_id, FReader]; done))) | (with_reducible apply wm_f; focus (first | omega | (simp (disch := omega) only [wr_id, FReader]; omega) | (simp (disch := omega) only [wr_id, FReader]; done)))))
            refine wm_b (hs J (i + 1) sp d2 (by omega)) (fun r J2 hJ2 => ?_)
            rcases hJ2 with ⟨t2, cs, e2, rfl, g1, g2, g3, g4, g5⟩ | ⟨c, q, e2, rfl, g1⟩
            · rw [e2, andT_ok]
              have g6 := g2.2.2.2.2.2.2.1
              have ao := w_acceptOf (t := t) (d := d) (rt := rt) hl hv g2 (by omega) (k := 18) (by decide) (by decide)
              (repeat (first | (with_reducible apply wm_o; focus (simp (disch := omega) only [wr_id, Int.toNat_natCast, Int.reduceToNat, tn_lk, tn_kl, if_pos, if_neg, ↓reduceIte, and_self, and_true, true_and, FReader]; with_reducible rfl)) | (with_reducible apply wm_q) | (with_reducible apply wm_c; focus (first | assumption | decide +kernel)) | (with_reducible apply wm_d; focus (simp (disch := omega) only [wr_id, Int.toNat_natCast, Int.reduceToNat, tn_lk, tn_kl, if_pos, if_neg, ↓reduceIte, and_self, and_true, true_and, FReader]; with_reducible rfl)) | (with_reducible apply wm_t; focus (first | omega | (simp (disch := omega) only [wr_id, FReader]; omega) | (simp (disch := omega) only [wr_id, FReader]; done))) | (with_reducible apply wm_f; focus (first | omega | (simp (disch := omega) only [wr_id, FReader]; omega) | (simp (disch := omega) only [wr_id, FReader]; done)))))
              refine wm_b ao (fun r J3 hJ3 => ?_)
              rcases hJ3 with ⟨z1, z2, rfl, z3, z4, z5, z6⟩ | ⟨z1, z2, rfl, z3⟩ | ⟨z1, rfl, z3⟩
              · rw [if_pos z1, if_pos z2]
                (repeat (first | (with_reducible apply wm_o; focus (simp (disch := omega) only [wr_id, Int.toNat_natCast, Int.reduceToNat, tn_lk, tn_kl, if_pos, if_neg, ↓reduceIte, and_self, and_true, true_and]; with_reducible rfl)) | (with_reducible apply wm_q) | (with_reducible apply wm_c; focus (first | assumption | decide +kernel)) | (with_reducible apply wm_d; focus (simp (disch := omega) only [wr_id, Int.toNat_natCast, Int.reduceToNat, tn_lk, tn_kl, if_pos, if_neg, ↓reduceIte, and_self, and_true, true_and]; with_reducible rfl)) | (with_reducible apply wm_t; focus (first | omega | (simp (disch := omega) only [wr_id]; omega) | (simp (disch := omega) only [wr_id]; done))) | (with_reducible apply wm_f; focus (first | omega | (simp (disch := omega) only [wr_id]; omega) | (simp (disch := omega) only [wr_id]; done)))))
                refine wm_z1 (Or.inl ⟨t2 + 1, cs, rfl, rfl, frP_trans (frP_trans d1 g1) z3, z4, by omega, fun p hp => ?_, ?_⟩)
                · obtain ⟨r1, r2⟩ := g4 p hp
                  rw [z5, z6, r1, r2, d3, d4]
                  exact ⟨rfl, rfl⟩
                · rw [z5, z6]; exact g5
              · rw [if_pos z1, if_neg z2]
                (repeat (first | (with_reducible apply wm_o; focus (simp (disch := omega) only [wr_id, Int.toNat_natCast, Int.reduceToNat, tn_lk, tn_kl, if_pos, if_neg, ↓reduceIte, and_self, and_true, true_and]; with_reducible rfl)) | (with_reducible apply wm_q) | (with_reducible apply wm_c; focus (first | assumption | decide +kernel)) | (with_reducible apply wm_d; focus (simp (disch := omega) only [wr_id, Int.toNat_natCast, Int.reduceToNat, tn_lk, tn_kl, if_pos, if_neg, ↓reduceIte, and_self, and_true, true_and]; with_reducible rfl)) | (with_reducible apply wm_t; focus (first | omega | (simp (disch := omega) only [wr_id]; omega) | (simp (disch := omega) only [wr_id]; done))) | (with_reducible apply wm_f; focus (first | omega | (simp (disch := omega) only [wr_id]; omega) | (simp (disch := omega) only [wr_id]; done)))))
                exact wm_z0 (Or.inr ⟨2, t2, rfl, rfl, flt_tr (frP_trans d1 g1) z3⟩)
              · rw [if_neg z1]
                (repeat (first | (with_reducible apply wm_o; focus (simp (disch := omega) only [wr_id, Int.toNat_natCast, Int.reduceToNat, tn_lk, tn_kl, if_pos, if_neg, ↓reduceIte, and_self, and_true, true_and]; with_reducible rfl)) | (with_reducible apply wm_q) | (with_reducible apply wm_c; focus (first | assumption | decide +kernel)) | (with_reducible apply wm_d; focus (simp (disch := omega) only [wr_id, Int.toNat_natCast, Int.reduceToNat, tn_lk, tn_kl, if_pos, if_neg, ↓reduceIte, and_self, and_true, true_and]; with_reducible rfl)) | (with_reducible apply wm_t; focus (first | omega | (simp (disch := omega) only [wr_id]; omega) | (simp (disch := omega) only [wr_id]; done))) | (with_reducible apply wm_f; focus (first | omega | (simp (disch := omega) only [wr_id]; omega) | (simp (disch := omega) only [wr_id]; done)))))
                exact wm_z0 (Or.inr ⟨1, t2, rfl, rfl, flt_tr (frP_trans d1 g1) z3⟩)
            · rw [e2, andT_fl]
              (repeat (first | (with_reducible apply wm_o; focus (simp (disch := omega) only [wr_id, Int.toNat_natCast, Int.reduceToNat, tn_lk, tn_kl, if_pos, if_neg, ↓reduceIte, and_self, and_true, true_and]; with_reducible rfl)) | (with_reducible apply wm_q) | (with_reducible apply wm_c; focus (first | assumption | decide +kernel)) | (with_reducible apply wm_d; focus (simp (disch := omega) only [wr_id, Int.toNat_natCast, Int.reduceToNat, tn_lk, tn_kl, if_pos, if_neg, ↓reduceIte, and_self, and_true, true_and]; with_reducible rfl)) | (with_reducible apply wm_t; focus (first | omega | (simp (disch := omega) only [wr_id]; omega) | (simp (disch := omega) only [wr_id]; done))) | (with_reducible apply wm_f; focus (first | omega | (simp (disch := omega) only [wr_id]; omega) | (simp (disch := omega) only [wr_id]; done)))))
              exact wm_z0 (Or.inr ⟨c, q, rfl, rfl, flt_tr d1 g1⟩)
          · rw [if_neg (fun q => c4 ⟨rfl, q.2⟩)]
            (repeat (first | (with_reducible apply wm_o; focus (simp (disch := omega) only [wr_id, Int.toNat_natCast, Int.reduceToNat, tn_lk, tn_kl, if_pos, if_neg, ↓reduceIte, and_self, and_true, true_and]; with_reducible rfl)) | (with_reducible apply wm_q) | (with_reducible apply wm_c; focus (first | assumption | decide +kernel)) | (with_reducible apply wm_d; focus (simp (disch := omega) only [wr_id, Int.toNat_natCast, Int.reduceToNat, tn_lk, tn_kl, if_pos, if_neg, ↓reduceIte, and_self, and_true, true_and]; with_reducible rfl)) | (with_reducible apply wm_t; focus (first | omega | (simp (disch := omega) only [wr_id]; omega) | (simp (disch := omega) only [wr_id]; done))) | (with_reducible apply wm_f; focus (first | omega | (simp (disch := omega) only [wr_id]; omega) | (simp (disch := omega) only [wr_id]; done)))))
            exact wm_z0 (Or.inr ⟨2, i, rfl, rfl, d1⟩)
      · have hRR : unitR K V rm rs i = pfl 1 i := by unfold unitR; rw [if_neg c1, if_neg c2, if_neg c3]
        have rf : f_X3_refuse 29 1 (ps i : Int) (mm t d rt I) = some (0, mm t d rt (up (up I 29 7 1) 29 8 (ps i : Int))) := q_refuse
        have fin : sQ K V ps (rt + 8) I i sp (unitR K V rm rs i) 0 (up (up I 29 7 1) 29 8 (ps i : Int)) := Or.inr ⟨1, i, hRR, rfl, flt_mk hl a6 (by omega) (c := 1)⟩
        by_cases c4 : K i < 30
        · (repeat (first | (with_reducible apply wm_o; focus (simp (disch := omega) only [wr_id, Int.toNat_natCast, Int.reduceToNat, tn_lk, tn_kl, if_pos, if_neg, ↓reduceIte, and_self, and_true, true_and, FReader, a3, a4, rf]; with_reducible rfl)) | (with_reducible apply wm_q) | (with_reducible apply wm_c; focus (first | assumption | decide +kernel)) | (with_reducible apply wm_d; focus (simp (disch := omega) only [wr_id, Int.toNat_natCast, Int.reduceToNat, tn_lk, tn_kl, if_pos, if_neg, ↓reduceIte, and_self, and_true, true_and, FReader, a3, a4, rf]; with_reducible rfl)) | (with_reducible apply wm_t; focus (first | omega | (simp (disch := omega) only [wr_id, FReader, a3, a4, rf]; omega) | (simp (disch := omega) only [wr_id, FReader, a3, a4, rf]; done))) | (with_reducible apply wm_f; focus (first | omega | (simp (disch := omega) only [wr_id, FReader, a3, a4, rf]; omega) | (simp (disch := omega) only [wr_id, FReader, a3, a4, rf]; done)))))
          exact wm_z0 fin
        · exfalso; omega
theorem c_part (ht : rt ∈ [3, 16]) (hv : kvOK K V ps) {rm : Bool} {rs : Nat → PR} {x1 : Int} (hx : 0 ≤ x1 ∧ x1 ≤ 6) {rsf : Nat → Int → jMem → Option (Int × jMem)} (h1 : rm = true → x1 < 6 ∧ cRun t d rt K V ps (fun M => rsf 29 (x1 + 1) M) rs) (h2 : rm = false → x1 = 6) : cRun t d rt K V ps (fun M => f_X3_takePart rsf 29 x1 M) (partR K V rm rs) := by
  intro I i sp hR hsp
  show wm t d rt (f_X3_takePart rsf 29 x1 (mm t d rt I)) _
  unfold f_X3_takePart
  (repeat (first | (with_reducible apply wm_o; focus (simp (disch := omega) only [wr_id, Int.toNat_natCast, Int.reduceToNat, tn_lk, tn_kl, if_pos, if_neg, ↓reduceIte, and_self, and_true, true_and, FReader]; with_reducible rfl)) | (with_reducible apply wm_q) | (with_reducible apply wm_c; focus (first | assumption | decide +kernel)) | (with_reducible apply wm_d; focus (simp (disch := omega) only [wr_id, Int.toNat_natCast, Int.reduceToNat, tn_lk, tn_kl, if_pos, if_neg, ↓reduceIte, and_self, and_true, true_and, FReader]; with_reducible rfl)) | (with_reducible apply wm_t; focus (first | omega | (simp (disch := omega) only [wr_id, FReader]; omega) | (simp (disch := omega) only [wr_id, FReader]; done))) | (with_reducible apply wm_f; focus (first | omega | (simp (disch := omega) only [wr_id, FReader]; omega) | (simp (disch := omega) only [wr_id, FReader]; done)))))
  refine wm_b (c_unit ht hv hx h1 h2 I i sp hR hsp) (fun r J hJ => ?_)
  exact c_loop ht hv (o1 := 14) (o2 := 15) (isop := isMul) (fun k => by unfold isMul; simp only [Bool.or_eq_true, beq_iff_eq]) (by decide) (by decide) (c_unit ht hv hx h1 h2) hsp hJ
theorem c_sum (ht : rt ∈ [3, 16]) (hv : kvOK K V ps) {rm : Bool} {rs : Nat → PR} {x1 : Int} (hx : 0 ≤ x1 ∧ x1 ≤ 6) {rsf : Nat → Int → jMem → Option (Int × jMem)} (h1 : rm = true → x1 < 6 ∧ cRun t d rt K V ps (fun M => rsf 29 (x1 + 1) M) rs) (h2 : rm = false → x1 = 6) : cRun t d rt K V ps (fun M => f_X3_takeSum rsf 29 x1 M) (sumR K V rm rs) := by
  intro I i sp hR hsp
  show wm t d rt (f_X3_takeSum rsf 29 x1 (mm t d rt I)) _
  unfold f_X3_takeSum
  (repeat (first | (with_reducible apply wm_o; focus (simp (disch := omega) only [wr_id, Int.toNat_natCast, Int.reduceToNat, tn_lk, tn_kl, if_pos, if_neg, ↓reduceIte, and_self, and_true, true_and, FReader]; with_reducible rfl)) | (with_reducible apply wm_q) | (with_reducible apply wm_c; focus (first | assumption | decide +kernel)) | (with_reducible apply wm_d; focus (simp (disch := omega) only [wr_id, Int.toNat_natCast, Int.reduceToNat, tn_lk, tn_kl, if_pos, if_neg, ↓reduceIte, and_self, and_true, true_and, FReader]; with_reducible rfl)) | (with_reducible apply wm_t; focus (first | omega | (simp (disch := omega) only [wr_id, FReader]; omega) | (simp (disch := omega) only [wr_id, FReader]; done))) | (with_reducible apply wm_f; focus (first | omega | (simp (disch := omega) only [wr_id, FReader]; omega) | (simp (disch := omega) only [wr_id, FReader]; done)))))
  refine wm_b (c_part ht hv hx h1 h2 I i sp hR hsp) (fun r J hJ => ?_)
  exact c_loop ht hv (o1 := 12) (o2 := 13) (isop := isAdd) (fun k => by unfold isAdd; simp only [Bool.or_eq_true, beq_iff_eq]) (by decide) (by decide) (c_part ht hv hx h1 h2) hsp hJ
theorem c_sumD (ht : rt ∈ [3, 16]) (hv : kvOK K V ps) : ∀ dd : Nat, dd ≤ 6 → cRun t d rt K V ps (fun M => f_X3_takeSumN (dd + 2) 29 (6 - (dd : Int)) M) (sumD K V dd)
  | 0, _ => c_sum ht hv (x1 := 6) (by decide) (fun h => absurd h (by decide)) (fun _ => rfl)
  | dd + 1, h => by
    have ih := c_sumD ht hv dd (by omega)
    refine c_sum ht hv (x1 := 6 - ((dd + 1 : Nat) : Int)) (by omega) (fun _ => ⟨by omega, ?_⟩) (fun h => absurd h (by decide))
    rw [show (6 - ((dd + 1 : Nat) : Int)) + 1 = 6 - (dd : Int) by omega]
    exact ih
theorem c_sumT (ht : rt ∈ [3, 16]) (hv : kvOK K V ps) : cRun t d rt K V ps (fun M => f_X3_takeSumT 29 0 M) (sumD K V 6) := c_sumD ht hv 6 (by decide)
end SN
