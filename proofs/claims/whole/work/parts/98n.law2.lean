/-! ===== the class reads a law, whole ===== -/
/-- what a law changes -/
def frL (l : Nat) (I J : Nat → Nat → Int) : Prop := (∀ a, a ≠ 29 → ¬ (l ≤ a ∧ a ≤ l + 3) → J a = I a) ∧ J 29 6 = I 29 6
theorem frL_P {l : Nat} {I J : Nat → Nat → Int} (h : frP l I J) : frL l I J := ⟨fun a h1 h2 => h.1 a h1 (by omega) (by omega) (by omega), h.2 6 (by decide) (by decide) (by decide) (by decide) (by decide)⟩
theorem frL_refl (l : Nat) (I : Nat → Nat → Int) : frL l I I := ⟨fun _ _ _ => rfl, rfl⟩
theorem frL_trans {l : Nat} {I J K : Nat → Nat → Int} (h1 : frL l I J) (h2 : frL l J K) : frL l I K := ⟨fun a b1 b2 => (h2.1 a b1 b2).trans (h1.1 a b1 b2), h2.2.trans h1.2⟩
def fltL (ps : Nat → Nat) (l : Nat) (I J : Nat → Nat → Int) (c q : Nat) : Prop := frL l I J ∧ J 29 7 = (c : Int) ∧ J 29 8 = (ps q : Int)
theorem fltL_C {ps : Nat → Nat} {l : Nat} {I J M : Nat → Nat → Int} {c q : Nat} (h : frL l I J) (h2 : fltC ps l J M c q) : fltL ps l I M c q := ⟨frL_trans h (frL_P h2.1), h2.2.1, h2.2.2.1⟩
def lwQ (K : Nat → Nat) (V : Nat → Int) (ps : Nat → Nat) (l q : Nat) (I : Nat → Nat → Int) (sp : Nat) (R : ER LW) (r : Int) (J : Nat → Nat → Int) : Prop := (∃ t' x e, R = eok t' x ∧ r = 1 ∧ frL l I J ∧ rdC K V ps l J t' e ∧ e ≤ 4 + t' ∧ sp ≤ e ∧ kpC l I J sp ∧ J (l + 3) = up I (l + 3) q (sp : Int) (l + 3) ∧ lwC (J (l + 1)) (J (l + 2)) sp x.1 x.2 e ∧ lwOK x.1 x.2) ∨ (∃ c q, R = efl c q ∧ r = 0 ∧ fltL ps l I J c q)
section LS
variable {t d rt : Nat} {I J : Nat → Nat → Int} {K : Nat → Nat} {V : Nat → Int} {ps : Nat → Nat} {i sp : Nat}
theorem rd_i {l : Nat} (h : rdC K V ps l I i sp) : i ≤ 400 := h.2.2.2.2.2.2.1
theorem w_takeLaw (ht : rt ∈ [3, 16]) (hv : kvOK K V ps) (hR : rdC K V ps (rt + 8) I i sp) (hsp : sp ≤ 3 + i) {q : Nat} (hq : q < 3) : wm t d rt (f_X3_takeLaw 29 (q : Int) (mm t d rt I)) (fun r J => lwQ K V ps (rt + 8) q I sp (bnd (tokR K 11 i) fun t1 _ => lwR K V 4 t1 []) r J) := by
  have hl : rt + 8 = 11 ∨ rt + 8 = 24 := by
    have : rt = 3 ∨ rt = 16 := by simpa using ht
    omega
  have hl' : rt + 8 ∈ [11, 24] := by simpa using hl
  have kl : (K0 (rt + 8)).1 = 2 ∧ rt + 8 < 418 := ⟨(FLaws_k _ hl').1, (FLaws_k _ hl').2.1⟩
  have l0 := rd_i hR
  unfold f_X3_takeLaw
  (repeat (first | (with_reducible apply wm_o; focus (simp (disch := omega) only [wr_id, Int.toNat_natCast, Int.reduceToNat, tn_lk, tn_kl, if_pos, if_neg, ↓reduceIte, and_self, and_true, true_and, FReader]; with_reducible rfl)) | (with_reducible apply wm_q) | (with_reducible apply wm_c; focus (first | assumption | decide +kernel)) | (with_reducible apply wm_d; focus (simp (disch := omega) only [wr_id, Int.toNat_natCast, Int.reduceToNat, tn_lk, tn_kl, if_pos, if_neg, ↓reduceIte, and_self, and_true, true_and, FReader]; with_reducible rfl)) | (with_reducible apply wm_t; focus (first | omega | (simp (disch := omega) only [wr_id, FReader]; omega) | (simp (disch := omega) only [wr_id, FReader]; done))) | (with_reducible apply wm_f; focus (first | omega | (simp (disch := omega) only [wr_id, FReader]; omega) | (simp (disch := omega) only [wr_id, FReader]; done)))))
  refine wm_b (w_acceptOf hl hv hR (by omega) (k := 11) (by decide) (by decide)) (fun r J1 hJ1 => ?_)
  rcases hJ1 with ⟨z1, z2, rfl, b1, b2, b3, b4⟩ | ⟨z1, z2, rfl, b1⟩ | ⟨z1, rfl, b1⟩
  rotate_left
  · unfold tokR
    rw [if_pos z1, if_neg z2]
    (repeat (first | (with_reducible apply wm_o; focus (simp (disch := omega) only [wr_id, Int.toNat_natCast, Int.reduceToNat, tn_lk, tn_kl, if_pos, if_neg, ↓reduceIte, and_self, and_true, true_and]; with_reducible rfl)) | (with_reducible apply wm_q) | (with_reducible apply wm_c; focus (first | assumption | decide +kernel)) | (with_reducible apply wm_d; focus (simp (disch := omega) only [wr_id, Int.toNat_natCast, Int.reduceToNat, tn_lk, tn_kl, if_pos, if_neg, ↓reduceIte, and_self, and_true, true_and]; with_reducible rfl)) | (with_reducible apply wm_t; focus (first | omega | (simp (disch := omega) only [wr_id]; omega) | (simp (disch := omega) only [wr_id]; done))) | (with_reducible apply wm_f; focus (first | omega | (simp (disch := omega) only [wr_id]; omega) | (simp (disch := omega) only [wr_id]; done)))))
    exact wm_z0 (Or.inr ⟨2, i, rfl, rfl, fltL_C (frL_refl _ _) b1⟩)
  · unfold tokR
    rw [if_neg z1]
    (repeat (first | (with_reducible apply wm_o; focus (simp (disch := omega) only [wr_id, Int.toNat_natCast, Int.reduceToNat, tn_lk, tn_kl, if_pos, if_neg, ↓reduceIte, and_self, and_true, true_and]; with_reducible rfl)) | (with_reducible apply wm_q) | (with_reducible apply wm_c; focus (first | assumption | decide +kernel)) | (with_reducible apply wm_d; focus (simp (disch := omega) only [wr_id, Int.toNat_natCast, Int.reduceToNat, tn_lk, tn_kl, if_pos, if_neg, ↓reduceIte, and_self, and_true, true_and]; with_reducible rfl)) | (with_reducible apply wm_t; focus (first | omega | (simp (disch := omega) only [wr_id]; omega) | (simp (disch := omega) only [wr_id]; done))) | (with_reducible apply wm_f; focus (first | omega | (simp (disch := omega) only [wr_id]; omega) | (simp (disch := omega) only [wr_id]; done)))))
    exact wm_z0 (Or.inr ⟨1, i, rfl, rfl, fltL_C (frL_refl _ _) b1⟩)
  have tk : tokR K 11 i = eok (i + 1) () := by unfold tokR; rw [if_pos z1, if_pos z2]
  rw [tk, bnd_ok]
  have hb6 := b2.2.2.2.2.2.1
  have bg : f_X2_begin (rt + 8) (q : Int) (mm t d rt J1) = some (0, mm t d rt (up J1 (rt + 8 + 3) q (sp : Int))) := by
    apply wm_eq
    unfold f_X2_begin
    (repeat (first | (with_reducible apply wm_o; focus (simp (disch := omega) only [wr_id, Int.toNat_natCast, Int.reduceToNat, tn_lk, tn_kl, if_pos, if_neg, ↓reduceIte, and_self, and_true, true_and, FLaws hl', hb6]; with_reducible rfl)) | (with_reducible apply wm_q) | (with_reducible apply wm_c; focus (first | assumption | decide +kernel)) | (with_reducible apply wm_d; focus (simp (disch := omega) only [wr_id, Int.toNat_natCast, Int.reduceToNat, tn_lk, tn_kl, if_pos, if_neg, ↓reduceIte, and_self, and_true, true_and, FLaws hl', hb6]; with_reducible rfl)) | (with_reducible apply wm_t; focus (first | omega | (simp (disch := omega) only [wr_id, FLaws hl', hb6]; omega) | (simp (disch := omega) only [wr_id, FLaws hl', hb6]; done))) | (with_reducible apply wm_f; focus (first | omega | (simp (disch := omega) only [wr_id, FLaws hl', hb6]; omega) | (simp (disch := omega) only [wr_id, FLaws hl', hb6]; done)))))
    exact wm_r ⟨rfl, rfl⟩
  (repeat (first | (with_reducible apply wm_o; focus (simp (disch := omega) only [wr_id, Int.toNat_natCast, Int.reduceToNat, tn_lk, tn_kl, if_pos, if_neg, ↓reduceIte, and_self, and_true, true_and, FReader, FText ht, bg]; with_reducible rfl)) | (with_reducible apply wm_q) | (with_reducible apply wm_c; focus (first | assumption | decide +kernel)) | (with_reducible apply wm_d; focus (simp (disch := omega) only [wr_id, Int.toNat_natCast, Int.reduceToNat, tn_lk, tn_kl, if_pos, if_neg, ↓reduceIte, and_self, and_true, true_and, FReader, FText ht, bg]; with_reducible rfl)) | (with_reducible apply wm_t; focus (first | omega | (simp (disch := omega) only [wr_id, FReader, FText ht, bg]; omega) | (simp (disch := omega) only [wr_id, FReader, FText ht, bg]; done))) | (with_reducible apply wm_f; focus (first | omega | (simp (disch := omega) only [wr_id, FReader, FText ht, bg]; omega) | (simp (disch := omega) only [wr_id, FReader, FText ht, bg]; done)))))
  have fr0 : frL (rt + 8) I (up J1 (rt + 8 + 3) q (sp : Int)) := by
    have f := frL_P b1
    refine ⟨fun a h1 h2 => by rw [up_ne (by omega)]; exact f.1 a h1 h2, by rw [up_ne (by omega)]; exact f.2⟩
  have rd0 : rdC K V ps (rt + 8) (up J1 (rt + 8 + 3) q (sp : Int)) (i + 1) sp := by
    obtain ⟨h1, h2, h3, h4, h5, h6, h7, h8, h9⟩ := b2
    refine ⟨tbC_frm (up_ne (by omega)) (up_ne (by omega)) (up_ne (by omega)) h1, ?_, ?_, ?_, ?_, ?_, h7, h8, ?_⟩
    · rw [up_ne (by omega)]; exact h2
    · rw [up_ne (by omega)]; exact h3
    · rw [up_ne (by omega)]; exact h4
    · rw [up_ne (by omega)]; exact h5
    · rw [up_ne (by omega)]; exact h6
    · rw [up_ne (by omega)]; exact h9
  have st0 : up J1 (rt + 8 + 3) q (sp : Int) (rt + 8 + 3) = up I (rt + 8 + 3) q (sp : Int) (rt + 8 + 3) := by
    funext y
    rw [up_g, up_g, b1.1 (rt + 8 + 3) (by omega) (by omega) (by omega) (by omega)]
  have kp0 : kpC (rt + 8) I (up J1 (rt + 8 + 3) q (sp : Int)) sp := fun p hp => by rw [up_ne (by omega), up_ne (by omega), b3, b4]; exact ⟨rfl, rfl⟩
  generalize up J1 (rt + 8 + 3) q (sp : Int) = J2 at fr0 rd0 st0 kp0
  generalize eR : lwR K V 4 (i + 1) [] = R
  refine wm_lp2 4 (fun n y J => y = (n : Int) ∧ ∃ i' s acc, lwR K V (4 - n) i' acc = R ∧ rdC K V ps (rt + 8) J i' s ∧ s ≤ 3 + i' ∧ brC (J (rt + 8 + 1)) (J (rt + 8 + 2)) sp acc s ∧ kpC (rt + 8) I J sp ∧ frL (rt + 8) I J ∧ J (rt + 8 + 3) = up I (rt + 8 + 3) q (sp : Int) (rt + 8 + 3) ∧ ∀ b, b ∈ acc → sOK b.1 ∧ sOK b.2.1 ∧ sOK b.2.2) ?_ (jfuel_n (by decide)) ⟨rfl, i + 1, sp, [], eR, rd0, by omega, rfl, kp0, fr0, st0, fun b hb => by cases hb⟩
  rintro n hn y J ⟨rfl, i', s, acc, a0, a1, a2, a3, a4, a5, a6, a7⟩ rec hrec
  have kt := (hv i').1
  have li := rd_i a1
  have eK := a1.2.2.1
  have sps := brC_le a3
  by_cases c : K i' = 27
  · by_cases c4 : n < 4
    · obtain ⟨m, em⟩ : ∃ m, 4 - n = m + 1 := ⟨3 - n, by omega⟩
      rw [em, lwR, if_pos c] at a0
      (repeat (first | (with_reducible apply wm_o; focus (simp (disch := omega) only [wr_id, Int.toNat_natCast, Int.reduceToNat, tn_lk, tn_kl, if_pos, if_neg, ↓reduceIte, and_self, and_true, true_and, FReader, eK]; with_reducible rfl)) | (with_reducible apply wm_q) | (with_reducible apply wm_c; focus (first | assumption | decide +kernel)) | (with_reducible apply wm_d; focus (simp (disch := omega) only [wr_id, Int.toNat_natCast, Int.reduceToNat, tn_lk, tn_kl, if_pos, if_neg, ↓reduceIte, and_self, and_true, true_and, FReader, eK]; with_reducible rfl)) | (with_reducible apply wm_t; focus (first | omega | (simp (disch := omega) only [wr_id, FReader, eK]; omega) | (simp (disch := omega) only [wr_id, FReader, eK]; done))) | (with_reducible apply wm_f; focus (first | omega | (simp (disch := omega) only [wr_id, FReader, eK]; omega) | (simp (disch := omega) only [wr_id, FReader, eK]; done)))))
      refine wm_b (w_accept hl hv a1 (by omega) (Or.inr rfl) (by omega)) (fun r J3 hJ3 => ?_)
      rcases hJ3 with ⟨_, c5, rfl, d1, d2, d3, d4⟩ | ⟨c5, rfl, d1⟩
      · rw [if_pos c5] at a0
        (repeat (first | (with_reducible apply wm_o; focus (simp (disch := omega) only [wr_id, Int.toNat_natCast, Int.reduceToNat, tn_lk, tn_kl, if_pos, if_neg, ↓reduceIte, and_self, and_true, true_and, FReader]; with_reducible rfl)) | (with_reducible apply wm_q) | (with_reducible apply wm_c; focus (first | assumption | decide +kernel)) | (with_reducible apply wm_d; focus (simp (disch := omega) only [wr_id, Int.toNat_natCast, Int.reduceToNat, tn_lk, tn_kl, if_pos, if_neg, ↓reduceIte, and_self, and_true, true_and, FReader]; with_reducible rfl)) | (with_reducible apply wm_t; focus (first | omega | (simp (disch := omega) only [wr_id, FReader]; omega) | (simp (disch := omega) only [wr_id, FReader]; done))) | (with_reducible apply wm_f; focus (first | omega | (simp (disch := omega) only [wr_id, FReader]; omega) | (simp (disch := omega) only [wr_id, FReader]; done)))))
        refine w_ifs ht hv d2 (by omega) (fun t' b e J4 e1 g1 g2 g3 g4 g5 g6 => ?_) (fun cc qq J4 e1 g1 => ?_)
        · rw [e1, bnd_ok] at a0
          have k4 : kpC (rt + 8) J J4 s := kpC_trans (kpC_eq d3 d4 (sp := s)) g4 (Nat.le_refl _)
          refine hrec (n + 1) _ _ (by omega) (by omega) ⟨by omega, t', e, acc ++ [b], by rw [show 4 - (n + 1) = m by omega]; exact a0, g2, g3, brC_snoc (brC_congr (fun p p1 p2 => k4 p p2) a3) g5, kpC_trans a4 k4 sps, frL_trans a5 (frL_P (frP_trans d1 g1)), ?_, fun b' hb' => ?_⟩
          · rw [g1.1 (rt + 8 + 3) (by omega) (by omega) (by omega) (by omega), d1.1 (rt + 8 + 3) (by omega) (by omega) (by omega) (by omega)]
            exact a6
          · rcases List.mem_append.mp hb' with hb' | hb'
            · exact a7 b' hb'
            · rw [List.mem_singleton] at hb'
              rw [hb']; exact g6
        · rw [e1, bnd_fl] at a0
          exact Or.inr ⟨cc, qq, a0.symm, rfl, fltL_C (frL_trans a5 (frL_P d1)) g1⟩
      · rw [if_neg (fun qq => c5 ⟨rfl, qq⟩)] at a0
        (repeat (first | (with_reducible apply wm_o; focus (simp (disch := omega) only [wr_id, Int.toNat_natCast, Int.reduceToNat, tn_lk, tn_kl, if_pos, if_neg, ↓reduceIte, and_self, and_true, true_and]; with_reducible rfl)) | (with_reducible apply wm_q) | (with_reducible apply wm_c; focus (first | assumption | decide +kernel)) | (with_reducible apply wm_d; focus (simp (disch := omega) only [wr_id, Int.toNat_natCast, Int.reduceToNat, tn_lk, tn_kl, if_pos, if_neg, ↓reduceIte, and_self, and_true, true_and]; with_reducible rfl)) | (with_reducible apply wm_t; focus (first | omega | (simp (disch := omega) only [wr_id]; omega) | (simp (disch := omega) only [wr_id]; done))) | (with_reducible apply wm_f; focus (first | omega | (simp (disch := omega) only [wr_id]; omega) | (simp (disch := omega) only [wr_id]; done)))))
        exact wm_z0 (Or.inr ⟨2, i', a0.symm, rfl, fltL_C a5 d1⟩)
    · rw [show 4 - n = 0 by omega, lwR, if_pos c] at a0
      (repeat (first | (with_reducible apply wm_o; focus (simp (disch := omega) only [wr_id, Int.toNat_natCast, Int.reduceToNat, tn_lk, tn_kl, if_pos, if_neg, ↓reduceIte, and_self, and_true, true_and, FReader, eK]; with_reducible rfl)) | (with_reducible apply wm_q) | (with_reducible apply wm_c; focus (first | assumption | decide +kernel)) | (with_reducible apply wm_d; focus (simp (disch := omega) only [wr_id, Int.toNat_natCast, Int.reduceToNat, tn_lk, tn_kl, if_pos, if_neg, ↓reduceIte, and_self, and_true, true_and, FReader, eK]; with_reducible rfl)) | (with_reducible apply wm_t; focus (first | omega | (simp (disch := omega) only [wr_id, FReader, eK]; omega) | (simp (disch := omega) only [wr_id, FReader, eK]; done))) | (with_reducible apply wm_f; focus (first | omega | (simp (disch := omega) only [wr_id, FReader, eK]; omega) | (simp (disch := omega) only [wr_id, FReader, eK]; done)))))
      refine wm_b (w_accept hl hv a1 (by omega) (Or.inl rfl) (by omega)) (fun r J3 hJ3 => ?_)
      rcases hJ3 with ⟨z, _⟩ | ⟨c5, rfl, d1⟩
      · exact absurd z (by decide)
      · (repeat (first | (with_reducible apply wm_o; focus (simp (disch := omega) only [wr_id, Int.toNat_natCast, Int.reduceToNat, tn_lk, tn_kl, if_pos, if_neg, ↓reduceIte, and_self, and_true, true_and]; with_reducible rfl)) | (with_reducible apply wm_q) | (with_reducible apply wm_c; focus (first | assumption | decide +kernel)) | (with_reducible apply wm_d; focus (simp (disch := omega) only [wr_id, Int.toNat_natCast, Int.reduceToNat, tn_lk, tn_kl, if_pos, if_neg, ↓reduceIte, and_self, and_true, true_and]; with_reducible rfl)) | (with_reducible apply wm_t; focus (first | omega | (simp (disch := omega) only [wr_id]; omega) | (simp (disch := omega) only [wr_id]; done))) | (with_reducible apply wm_f; focus (first | omega | (simp (disch := omega) only [wr_id]; omega) | (simp (disch := omega) only [wr_id]; done)))))
        exact wm_z0 (Or.inr ⟨2, i', a0.symm, rfl, fltL_C a5 d1⟩)
  · have a0' : bnd (sumD K V 6 i') (fun t' x => eok t' (acc, x)) = R := by
      rw [← a0]
      cases hm : 4 - n with
      | zero => rw [lwR, if_neg c]
      | succ m => rw [lwR, if_neg c]
    (repeat (first | (with_reducible apply wm_o; focus (simp (disch := omega) only [wr_id, Int.toNat_natCast, Int.reduceToNat, tn_lk, tn_kl, if_pos, if_neg, ↓reduceIte, and_self, and_true, true_and, FReader, eK]; with_reducible rfl)) | (with_reducible apply wm_q) | (with_reducible apply wm_c; focus (first | assumption | decide +kernel)) | (with_reducible apply wm_d; focus (simp (disch := omega) only [wr_id, Int.toNat_natCast, Int.reduceToNat, tn_lk, tn_kl, if_pos, if_neg, ↓reduceIte, and_self, and_true, true_and, FReader, eK]; with_reducible rfl)) | (with_reducible apply wm_t; focus (first | omega | (simp (disch := omega) only [wr_id, FReader, eK]; omega) | (simp (disch := omega) only [wr_id, FReader, eK]; done))) | (with_reducible apply wm_f; focus (first | omega | (simp (disch := omega) only [wr_id, FReader, eK]; omega) | (simp (disch := omega) only [wr_id, FReader, eK]; done)))))
    refine wm_b (c_sumT ht hv J i' s a1 (by omega)) (fun r J3 hJ3 => ?_)
    rcases hJ3 with ⟨t1, x, e1, rfl, d1, d2, d3, d4, d5⟩ | ⟨cc, qq, e1, rfl, d1⟩
    · rw [show sumD K V 6 i' = eok t1 x from e1, bnd_ok] at a0'
      have l1 := rd_i d2
      have ad := q_add (t := t) (d := d) (rt := rt) hl d2.2.2.2.2.2.1 (by omega) (a := 3) (v := 0)
      (repeat (first | (with_reducible apply wm_o; focus (simp (disch := omega) only [wr_id, Int.toNat_natCast, Int.reduceToNat, tn_lk, tn_kl, if_pos, if_neg, ↓reduceIte, and_self, and_true, true_and, FReader, FText ht, ad]; with_reducible rfl)) | (with_reducible apply wm_q) | (with_reducible apply wm_c; focus (first | assumption | decide +kernel)) | (with_reducible apply wm_d; focus (simp (disch := omega) only [wr_id, Int.toNat_natCast, Int.reduceToNat, tn_lk, tn_kl, if_pos, if_neg, ↓reduceIte, and_self, and_true, true_and, FReader, FText ht, ad]; with_reducible rfl)) | (with_reducible apply wm_t; focus (first | omega | (simp (disch := omega) only [wr_id, FReader, FText ht, ad]; omega) | (simp (disch := omega) only [wr_id, FReader, FText ht, ad]; done))) | (with_reducible apply wm_f; focus (first | omega | (simp (disch := omega) only [wr_id, FReader, FText ht, ad]; omega) | (simp (disch := omega) only [wr_id, FReader, FText ht, ad]; done)))))
      have low : ∀ p, p < s + x.length → adI J3 (rt + 8) (s + x.length) 3 0 (rt + 8 + 1) p = J3 (rt + 8 + 1) p ∧ adI J3 (rt + 8) (s + x.length) 3 0 (rt + 8 + 2) p = J3 (rt + 8 + 2) p := fun p hp => by
        rw [(ad_row hl p).1, (ad_row hl p).2, if_neg (by omega), if_neg (by omega)]
        exact ⟨rfl, rfl⟩
      have low2 : kpC (rt + 8) J (adI J3 (rt + 8) (s + x.length) 3 0) s := fun p hp => by
        rw [(low p (by omega)).1, (low p (by omega)).2]
        exact d4 p hp
      refine wm_z1 (Or.inl ⟨t1, (acc, x), s + x.length + 1, a0'.symm, rfl, frL_trans a5 (frL_P (frP_trans d1 (ad_frP hl))), ad_rd hl d2, by omega, by omega, kpC_trans a4 low2 sps, ?_, ?_, a7, sum_ok e1⟩)
      · have f := frP_trans d1 (ad_frP (I := J3) (sp := s + x.length) hl (a := 3) (v := 0))
        rw [f.1 (rt + 8 + 3) (by omega) (by omega) (by omega) (by omega)]
        exact a6
      · refine brC_end (brC_congr (fun p p1 p2 => low2 p p2) a3) ⟨cdAt_congr (fun p p1 p2 => low p p2) d5, ?_, rfl⟩
        rw [(ad_row hl _).1, if_pos rfl]
    · rw [show sumD K V 6 i' = efl cc qq from e1, bnd_fl] at a0'
      (repeat (first | (with_reducible apply wm_o; focus (simp (disch := omega) only [wr_id, Int.toNat_natCast, Int.reduceToNat, tn_lk, tn_kl, if_pos, if_neg, ↓reduceIte, and_self, and_true, true_and]; with_reducible rfl)) | (with_reducible apply wm_q) | (with_reducible apply wm_c; focus (first | assumption | decide +kernel)) | (with_reducible apply wm_d; focus (simp (disch := omega) only [wr_id, Int.toNat_natCast, Int.reduceToNat, tn_lk, tn_kl, if_pos, if_neg, ↓reduceIte, and_self, and_true, true_and]; with_reducible rfl)) | (with_reducible apply wm_t; focus (first | omega | (simp (disch := omega) only [wr_id]; omega) | (simp (disch := omega) only [wr_id]; done))) | (with_reducible apply wm_f; focus (first | omega | (simp (disch := omega) only [wr_id]; omega) | (simp (disch := omega) only [wr_id]; done)))))
      exact wm_z0 (Or.inr ⟨cc, qq, a0'.symm, rfl, fltL_C a5 d1⟩)
end LS
