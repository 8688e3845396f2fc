/-! ===== the class reads numbers ===== -/
def frNb (l : Nat) (I J : Nat → Nat → Int) : Prop := ∀ a, a ≠ 29 → a ≠ l → J a = I a
def frT (rt : Nat) (I J : Nat → Nat → Int) : Prop := ∀ a, a ≠ 29 → ¬ (rt ≤ a ∧ a ≤ rt + 11) → J a = I a
def fltT (ps : Nat → Nat) (rt : Nat) (I J : Nat → Nat → Int) (c q : Nat) : Prop := frT rt I J ∧ J 29 7 = (c : Int) ∧ J 29 8 = (ps q : Int)
theorem frT_trans {rt : Nat} {I J K : Nat → Nat → Int} (h1 : frT rt I J) (h2 : frT rt J K) : frT rt I K := fun a b1 b2 => (h2 a b1 b2).trans (h1 a b1 b2)
theorem frT_Nb {rt : Nat} {I J : Nat → Nat → Int} (h : frNb (rt + 8) I J) : frT rt I J := fun a b1 b2 => h a b1 (by omega)
theorem frT_L {rt : Nat} {I J : Nat → Nat → Int} (h : frL (rt + 8) I J) : frT rt I J := fun a b1 b2 => h.1 a b1 (by omega)
theorem frNb_trans {l : Nat} {I J K : Nat → Nat → Int} (h1 : frNb l I J) (h2 : frNb l J K) : frNb l I K := fun a b1 b2 => (h2 a b1 b2).trans (h1 a b1 b2)
theorem frNb_P {l : Nat} {I J : Nat → Nat → Int} (h : frP l I J) (h1 : J (l + 1) = I (l + 1)) (h2 : J (l + 2) = I (l + 2)) : frNb l I J := fun a b1 b2 => by
  by_cases e1 : a = l + 1
  · rw [e1]; exact h1
  · by_cases e2 : a = l + 2
    · rw [e2]; exact h2
    · exact h.1 a b1 b2 e1 e2
theorem fltT_C {ps : Nat → Nat} {rt : Nat} {I J M : Nat → Nat → Int} {c q : Nat} (h : frT rt I J) (h2 : fltC ps (rt + 8) J M c q) : fltT ps rt I M c q := ⟨frT_trans h (frT_L (frL_P h2.1)), h2.2.1, h2.2.2.1⟩
theorem fltT_T {ps : Nat → Nat} {rt : Nat} {I J M : Nat → Nat → Int} {c q : Nat} (h : frT rt I J) (h2 : fltT ps rt J M c q) : fltT ps rt I M c q := ⟨frT_trans h h2.1, h2.2⟩
theorem frT_refl (rt : Nat) (I : Nat → Nat → Int) : frT rt I I := fun _ _ _ => rfl
section NM
variable {t d rt : Nat} {I J : Nat → Nat → Int} {K : Nat → Nat} {V : Nat → Int} {ps : Nat → Nat} {i sp : Nat} {wr : Option Nat}
/-- behind a number -/
def nmQ (K : Nat → Nat) (V : Nat → Int) (ps : Nat → Nat) (rt : Nat) (I : Nat → Nat → Int) (i sp : Nat) (R : ER (Option Nat)) (r : Int) (J : Nat → Nat → Int) : Prop := (∃ wr', R = eok (i + 1) wr' ∧ K i = 3 ∧ r = 1 ∧ frNb (rt + 8) I J ∧ rdC K V ps (rt + 8) J (i + 1) sp ∧ J 29 6 = wrV ps wr') ∨ (∃ c q, R = efl c q ∧ r = 0 ∧ fltT ps rt I J c q)
theorem w_number (ht : rt ∈ [3, 16]) (hv : kvOK K V ps) (hR : rdC K V ps (rt + 8) I i sp) (hs : sp ≤ 404) (hw : I 29 6 = wrV ps wr) {lo hi : Int} (h1 : 0 ≤ lo ∧ lo ≤ 9999) (h2 : 0 ≤ hi ∧ hi ≤ 9999) : wm t d rt (f_X3_takeNumber 29 lo hi (mm t d rt I)) (fun r J => nmQ K V ps rt I i sp (numR K V lo hi i wr) r J) := by
  have hl : rt + 8 = 11 ∨ rt + 8 = 24 := by
    have : rt = 3 ∨ rt = 16 := by simpa using ht
    omega
  have hR' := hR
  obtain ⟨a1, a2, a3, a4, a5, a6, a7, a8, a9⟩ := hR
  have kt := hv i
  have nb := q_numberOf (t := t) (d := d) (rt := rt) (I := I) a7
  unfold f_X3_takeNumber
  have tail : ∀ J wr', frNb (rt + 8) I J → rdC K V ps (rt + 8) J i sp → J 29 6 = wrV ps wr' → (K i = 3 → wr' = wrN V lo hi i wr) → wm t d rt (jbd (f_X3_acceptOf 29 3 (mm t d rt J)) fun v6 M7 => jm_z v6 M7) (fun r J => nmQ K V ps rt I i sp (numR K V lo hi i wr) r J) := by
    intro J wr' f1 f2 f3 f4
    refine wm_b (w_acceptOf hl hv f2 hs (k := 3) (by decide) (by decide)) (fun r J2 hJ2 => ?_)
    unfold numR
    rcases hJ2 with ⟨z1, z2, rfl, b1, b2, b3, b4⟩ | ⟨z1, z2, rfl, b1⟩ | ⟨z1, rfl, b1⟩
    · rw [if_pos z1, if_pos z2]
      refine wm_z1 (Or.inl ⟨_, rfl, z1, rfl, frNb_trans f1 (frNb_P b1 b3 b4), b2, ?_⟩)
      rw [b1.2 6 (by decide) (by decide) (by decide) (by decide) (by decide), f3, f4 z1]
    · rw [if_pos z1, if_neg z2]
      exact wm_z0 (Or.inr ⟨2, i, rfl, rfl, fltT_C (frT_Nb f1) b1⟩)
    · rw [if_neg z1]
      exact wm_z0 (Or.inr ⟨1, i, rfl, rfl, fltT_C (frT_Nb f1) b1⟩)
  have rf : frNb (rt + 8) I I := fun _ _ _ => rfl
  by_cases c : K i = 3
  · obtain ⟨v1, v2⟩ := kt.2.2 c
    rw [(a1 i a7 a8).2.2 c] at nb
    cases wr with
    | some q =>
      have qb := (hv q).2.1
      have hw : I 29 6 = (ps q : Int) := hw
      (repeat (first | (with_reducible apply wm_o; focus (simp (disch := omega) only [wr_id, Int.toNat_natCast, Int.reduceToNat, tn_lk, tn_kl, if_pos, if_neg, ↓reduceIte, and_self, and_true, true_and, FReader, FTok, a2, nb, a3, hw]; with_reducible rfl)) | (with_reducible apply wm_q) | (with_reducible apply wm_c; focus (first | assumption | decide +kernel)) | (with_reducible apply wm_d; focus (simp (disch := omega) only [wr_id, Int.toNat_natCast, Int.reduceToNat, tn_lk, tn_kl, if_pos, if_neg, ↓reduceIte, and_self, and_true, true_and, FReader, FTok, a2, nb, a3, hw]; with_reducible rfl)) | (with_reducible apply wm_t; focus (first | omega | (simp (disch := omega) only [wr_id, FReader, FTok, a2, nb, a3, hw]; omega) | (simp (disch := omega) only [wr_id, FReader, FTok, a2, nb, a3, hw]; done))) | (with_reducible apply wm_f; focus (first | omega | (simp (disch := omega) only [wr_id, FReader, FTok, a2, nb, a3, hw]; omega) | (simp (disch := omega) only [wr_id, FReader, FTok, a2, nb, a3, hw]; done)))))
      exact tail I (some q) rf hR' hw (fun _ => by unfold wrN; rw [if_neg (fun z => absurd z.1 (by simp))])
    | none =>
      have hw : I 29 6 = -1 := hw
      have bad : (V i < lo ∨ hi < V i) → wm t d rt (jbd (f_X3_acceptOf 29 3 (mm t d rt (up I 29 6 (ps i : Int)))) fun v6 M7 => jm_z v6 M7) (fun r J => nmQ K V ps rt I i sp (numR K V lo hi i none) r J) := by
        intro cc
        refine tail _ (some i) (fun a h1 h2 => up_ne h1) ?_ (up_s _ _ _ _) (fun _ => by unfold wrN; rw [if_pos ⟨rfl, cc⟩])
        refine ⟨tbC_frm (up_ne (by decide)) (up_ne (by decide)) (up_ne (by decide)) a1, ?_, ?_, ?_, ?_, ?_, a7, a8, ?_⟩
        · rw [up_g, if_neg (by decide)]; exact a2
        · rw [up_g, if_neg (by decide)]; exact a3
        · rw [up_g, if_neg (by decide)]; exact a4
        · rw [up_g, if_neg (by decide)]; exact a5
        · rw [up_ne (by omega)]; exact a6
        · rw [up_g, if_neg (by decide)]; exact a9
      by_cases c1 : V i < lo
      · (repeat (first | (with_reducible apply wm_o; focus (simp (disch := omega) only [wr_id, Int.toNat_natCast, Int.reduceToNat, tn_lk, tn_kl, if_pos, if_neg, ↓reduceIte, and_self, and_true, true_and, FReader, FTok, a2, nb, a3, hw, a4]; with_reducible rfl)) | (with_reducible apply wm_q) | (with_reducible apply wm_c; focus (first | assumption | decide +kernel)) | (with_reducible apply wm_d; focus (simp (disch := omega) only [wr_id, Int.toNat_natCast, Int.reduceToNat, tn_lk, tn_kl, if_pos, if_neg, ↓reduceIte, and_self, and_true, true_and, FReader, FTok, a2, nb, a3, hw, a4]; with_reducible rfl)) | (with_reducible apply wm_t; focus (first | omega | (simp (disch := omega) only [wr_id, FReader, FTok, a2, nb, a3, hw, a4]; omega) | (simp (disch := omega) only [wr_id, FReader, FTok, a2, nb, a3, hw, a4]; done))) | (with_reducible apply wm_f; focus (first | omega | (simp (disch := omega) only [wr_id, FReader, FTok, a2, nb, a3, hw, a4]; omega) | (simp (disch := omega) only [wr_id, FReader, FTok, a2, nb, a3, hw, a4]; done)))))
        exact bad (Or.inl c1)
      · by_cases c2 : V i ≤ hi
        · (repeat (first | (with_reducible apply wm_o; focus (simp (disch := omega) only [wr_id, Int.toNat_natCast, Int.reduceToNat, tn_lk, tn_kl, if_pos, if_neg, ↓reduceIte, and_self, and_true, true_and, FReader, FTok, a2, nb, a3, hw, a4]; with_reducible rfl)) | (with_reducible apply wm_q) | (with_reducible apply wm_c; focus (first | assumption | decide +kernel)) | (with_reducible apply wm_d; focus (simp (disch := omega) only [wr_id, Int.toNat_natCast, Int.reduceToNat, tn_lk, tn_kl, if_pos, if_neg, ↓reduceIte, and_self, and_true, true_and, FReader, FTok, a2, nb, a3, hw, a4]; with_reducible rfl)) | (with_reducible apply wm_t; focus (first | omega | (simp (disch := omega) only [wr_id, FReader, FTok, a2, nb, a3, hw, a4]; omega) | (simp (disch := omega) only [wr_id, FReader, FTok, a2, nb, a3, hw, a4]; done))) | (with_reducible apply wm_f; focus (first | omega | (simp (disch := omega) only [wr_id, FReader, FTok, a2, nb, a3, hw, a4]; omega) | (simp (disch := omega) only [wr_id, FReader, FTok, a2, nb, a3, hw, a4]; done)))))
          exact tail I none rf hR' hw (fun _ => by unfold wrN; rw [if_neg (fun z => by omega)])
        · (repeat (first | (with_reducible apply wm_o; focus (simp (disch := omega) only [wr_id, Int.toNat_natCast, Int.reduceToNat, tn_lk, tn_kl, if_pos, if_neg, ↓reduceIte, and_self, and_true, true_and, FReader, FTok, a2, nb, a3, hw, a4]; with_reducible rfl)) | (with_reducible apply wm_q) | (with_reducible apply wm_c; focus (first | assumption | decide +kernel)) | (with_reducible apply wm_d; focus (simp (disch := omega) only [wr_id, Int.toNat_natCast, Int.reduceToNat, tn_lk, tn_kl, if_pos, if_neg, ↓reduceIte, and_self, and_true, true_and, FReader, FTok, a2, nb, a3, hw, a4]; with_reducible rfl)) | (with_reducible apply wm_t; focus (first | omega | (simp (disch := omega) only [wr_id, FReader, FTok, a2, nb, a3, hw, a4]; omega) | (simp (disch := omega) only [wr_id, FReader, FTok, a2, nb, a3, hw, a4]; done))) | (with_reducible apply wm_f; focus (first | omega | (simp (disch := omega) only [wr_id, FReader, FTok, a2, nb, a3, hw, a4]; omega) | (simp (disch := omega) only [wr_id, FReader, FTok, a2, nb, a3, hw, a4]; done)))))
          exact bad (Or.inr (by omega))
  · (repeat (first | (with_reducible apply wm_o; focus (simp (disch := omega) only [wr_id, Int.toNat_natCast, Int.reduceToNat, tn_lk, tn_kl, if_pos, if_neg, ↓reduceIte, and_self, and_true, true_and, FReader, FTok, a2, nb, a3]; with_reducible rfl)) | (with_reducible apply wm_q) | (with_reducible apply wm_c; focus (first | assumption | decide +kernel)) | (with_reducible apply wm_d; focus (simp (disch := omega) only [wr_id, Int.toNat_natCast, Int.reduceToNat, tn_lk, tn_kl, if_pos, if_neg, ↓reduceIte, and_self, and_true, true_and, FReader, FTok, a2, nb, a3]; with_reducible rfl)) | (with_reducible apply wm_t; focus (first | omega | (simp (disch := omega) only [wr_id, FReader, FTok, a2, nb, a3]; omega) | (simp (disch := omega) only [wr_id, FReader, FTok, a2, nb, a3]; done))) | (with_reducible apply wm_f; focus (first | omega | (simp (disch := omega) only [wr_id, FReader, FTok, a2, nb, a3]; omega) | (simp (disch := omega) only [wr_id, FReader, FTok, a2, nb, a3]; done)))))
    exact tail I wr rf hR' hw (fun z => absurd z c)
theorem q_before (ht : rt ∈ [3, 16]) (hR : rdC K V ps (rt + 8) I i sp) {k : Nat} {kz : Int} (hz : kz = (k : Int)) (hk : k ≤ i) (hK : K (i - k) = 3) : f_X3_numberBefore 29 kz (mm t d rt I) = some (V (i - k), mm t d rt I) := by
  rw [hz]
  obtain ⟨a1, a2, a3, a4, a5, a6, a7, a8, a9⟩ := hR
  have nb := q_numberOf (t := t) (d := d) (rt := rt) (I := I) (i := i - k) (by omega)
  rw [(a1 (i - k) (by omega) (fun j hj => a8 j (by omega))).2.2 hK] at nb
  rw [show ((i - k : Nat) : Int) = (i : Int) - (k : Int) by omega] at nb
  apply wm_eq
  unfold f_X3_numberBefore
  (repeat (first | (with_reducible apply wm_o; focus (simp (disch := omega) only [wr_id, Int.toNat_natCast, Int.reduceToNat, tn_lk, tn_kl, if_pos, if_neg, ↓reduceIte, and_self, and_true, true_and, FReader, FTok, a2, nb]; with_reducible rfl)) | (with_reducible apply wm_q) | (with_reducible apply wm_c; focus (first | assumption | decide +kernel)) | (with_reducible apply wm_d; focus (simp (disch := omega) only [wr_id, Int.toNat_natCast, Int.reduceToNat, tn_lk, tn_kl, if_pos, if_neg, ↓reduceIte, and_self, and_true, true_and, FReader, FTok, a2, nb]; with_reducible rfl)) | (with_reducible apply wm_t; focus (first | omega | (simp (disch := omega) only [wr_id, FReader, FTok, a2, nb]; omega) | (simp (disch := omega) only [wr_id, FReader, FTok, a2, nb]; done))) | (with_reducible apply wm_f; focus (first | omega | (simp (disch := omega) only [wr_id, FReader, FTok, a2, nb]; omega) | (simp (disch := omega) only [wr_id, FReader, FTok, a2, nb]; done)))))
  exact wm_r ⟨rfl, rfl⟩
theorem rd_up {l a j : Nat} {v : Int} (ha : a ≠ 29) (h1 : a ≠ 31) (h2 : a ≠ 32) (h3 : a ≠ 33) (h4 : a ≠ l) (hR : rdC K V ps l I i sp) : rdC K V ps l (up I a j v) i sp := by
  obtain ⟨a1, a2, a3, a4, a5, a6, a7, a8, a9⟩ := hR
  refine ⟨tbC_frm (up_ne (by omega)) (up_ne (by omega)) (up_ne (by omega)) a1, ?_, ?_, ?_, ?_, ?_, a7, a8, ?_⟩
  · rw [up_ne (by omega)]; exact a2
  · rw [up_ne (by omega)]; exact a3
  · rw [up_ne (by omega)]; exact a4
  · rw [up_ne (by omega)]; exact a5
  · rw [up_ne (by omega)]; exact a6
  · rw [up_ne (by omega)]; exact a9
end NM
