/-! ===== the model cuts the text ===== -/
theorem wdV_snoc (s : List Nat) (c : Nat) : wdV (s ++ [c]) = 27 * wdV s + ((c : Int) - 97 + 1) := by
  unfold wdV
  rw [List.foldl_append]; rfl
def leL (s : List Nat) : Prop := ∀ x, x ∈ s → 97 ≤ x ∧ x ≤ 122
theorem wdV_nn : ∀ (n : Nat) (s : List Nat), s.length = n → leL s → 0 ≤ wdV s ∧ wdV s < 27 ^ n
  | 0, s, h, _ => by
    rw [List.length_eq_zero_iff] at h
    rw [h]; exact ⟨Int.le_refl 0, by show (0 : Int) < 27 ^ 0; decide⟩
  | n + 1, s, h, hl => by
    rcases List.eq_nil_or_concat s with e | ⟨s', c, e⟩
    · rw [e] at h; exact absurd h (by simp)
    · rw [List.concat_eq_append] at e
      subst e
      rw [List.length_append] at h
      obtain ⟨h1, h2⟩ := wdV_nn n s' (by simpa using h) (fun x hx => hl x (List.mem_append_left _ hx))
      have hc := hl c (by simp)
      rw [wdV_snoc]
      have e : (27 : Int) ^ (n + 1) = 27 ^ n * 27 := Int.pow_succ 27 n
      rw [e]
      omega
theorem wdV_inj : ∀ (n : Nat) (a b : List Nat), a.length = n → leL a → leL b → wdV a = wdV b → a = b
  | 0, a, b, h, ha, hb, he => by
    rw [List.length_eq_zero_iff] at h
    subst h
    rcases List.eq_nil_or_concat b with e | ⟨b', c, e⟩
    · exact e.symm
    · rw [List.concat_eq_append] at e
      subst e
      have h1 := (wdV_nn b'.length b' rfl (fun x hx => hb x (List.mem_append_left _ hx))).1
      have hc := hb c (by simp)
      rw [wdV_snoc] at he
      have e0 : wdV [] = 0 := rfl
      rw [e0] at he
      omega
  | n + 1, a, b, h, ha, hb, he => by
    rcases List.eq_nil_or_concat a with e | ⟨a', c, e⟩
    · rw [e] at h; exact absurd h (by simp)
    · rw [List.concat_eq_append] at e
      subst e
      rw [List.length_append] at h
      have h1 := (wdV_nn a'.length a' rfl (fun x hx => ha x (List.mem_append_left _ hx))).1
      have hc := ha c (by simp)
      rw [wdV_snoc] at he
      rcases List.eq_nil_or_concat b with e | ⟨b', c', e⟩
      · subst e
        have e0 : wdV [] = 0 := rfl
        rw [e0] at he
        omega
      · rw [List.concat_eq_append] at e
        subst e
        have h2 := (wdV_nn b'.length b' rfl (fun x hx => hb x (List.mem_append_left _ hx))).1
        have hc' := hb c' (by simp)
        rw [wdV_snoc] at he
        have e1 : c = c' := by omega
        have e2 : wdV a' = wdV b' := by omega
        rw [e1, wdV_inj n a' b' (by simpa using h) (fun x hx => ha x (List.mem_append_left _ hx)) (fun x hx => hb x (List.mem_append_left _ hx)) e2]
theorem lcmp_0 {a b : Int} (ha : 0 ≤ a) (ha' : a < 4611686018427387904) (hb : 0 ≤ b) (hb' : b < 4611686018427387904) : jd_wr (jd_lcmp a b) = 0 ↔ a = b := by
  unfold jd_lcmp lg_cmp
  have e1 : (Int64.ofInt a).toInt = a := Int64.toInt_ofInt_of_le (by omega) (by omega)
  have e2 : (Int64.ofInt b).toInt = b := Int64.toInt_ofInt_of_le (by omega) (by omega)
  constructor
  · intro h
    by_cases c1 : Int64.ofInt a > Int64.ofInt b
    · rw [if_pos c1] at h; exact absurd h (by decide)
    · rw [if_neg c1] at h
      by_cases c2 : Int64.ofInt a = Int64.ofInt b
      · rw [← e1, ← e2, c2]
      · rw [if_neg c2] at h; exact absurd h (by decide)
  · rintro rfl
    rw [if_neg (Int64.lt_irrefl), if_pos rfl]
    decide
/-- the model's kinds -/
def mkK (k : Nat) : Nat := if k = 1 then 3 else if k = 2 then 1 else if k = 3 then 2 else if 10 ≤ k ∧ k ≤ 18 then [4, 5, 8, 9, 10, 15, 13, 6, 7].getD (k - 10) 0 else k
def toM (I : Nat → Nat → Int) (B : Nat → Nat) (tl n : Nat) : Prop := ∀ i, i < n → I 372 i = (mkK (tK B tl i) : Int) ∧ I 373 i = (tps B tl i : Int) ∧ (tK B tl i = 3 → I 374 i = tV B tl i)
def tpM (I : Nat → Nat → Int) (B : Nat → Nat) (tl : Nat) : Prop := I 369 4 = (tl : Int) ∧ ∀ i, i < tl → jd_and (I 371 i) 255 = (B i : Int)
def kyK (I : Nat → Nat → Int) : Prop := ∀ k, k < 19 → I 376 k = wdV (keyL.getD k [])
section MC
variable {t d rt : Nat} {I J : Nat → Nat → Int} {B : Nat → Nat} {tl : Nat}
theorem q_byteAt (hB : bOK B tl) (hT : tpM I B tl) (p : Nat) (hp : p ≤ 100000) : f_X12_byteAt 369 (p : Int) (mm t d rt I) = some ((B p : Int), mm t d rt I) := by
  obtain ⟨h1, h2⟩ := hT
  have ht := hB.1
  apply wm_eq
  unfold f_X12_byteAt
  by_cases c : p < tl
  · have e := h2 p c
    (repeat (first | (with_reducible apply wm_o; focus (simp (disch := omega) only [wr_id, Int.toNat_natCast, Int.reduceToNat, tn_lk, tn_kl, if_pos, if_neg, ↓reduceIte, and_self, and_true, true_and, FM, h1]; with_reducible rfl)) | (with_reducible apply wm_q) | (with_reducible apply wm_c; focus (first | assumption | decide +kernel)) | (with_reducible apply wm_d; focus (simp (disch := omega) only [wr_id, Int.toNat_natCast, Int.reduceToNat, tn_lk, tn_kl, if_pos, if_neg, ↓reduceIte, and_self, and_true, true_and, FM, h1]; with_reducible rfl)) | (with_reducible apply wm_t; focus (first | omega | (simp (disch := omega) only [wr_id, FM, h1]; omega) | (simp (disch := omega) only [wr_id, FM, h1]; done))) | (with_reducible apply wm_f; focus (first | omega | (simp (disch := omega) only [wr_id, FM, h1]; omega) | (simp (disch := omega) only [wr_id, FM, h1]; done)))))
    exact wm_r ⟨e, rfl⟩
  · (repeat (first | (with_reducible apply wm_o; focus (simp (disch := omega) only [wr_id, Int.toNat_natCast, Int.reduceToNat, tn_lk, tn_kl, if_pos, if_neg, ↓reduceIte, and_self, and_true, true_and, FM, h1]; with_reducible rfl)) | (with_reducible apply wm_q) | (with_reducible apply wm_c; focus (first | assumption | decide +kernel)) | (with_reducible apply wm_d; focus (simp (disch := omega) only [wr_id, Int.toNat_natCast, Int.reduceToNat, tn_lk, tn_kl, if_pos, if_neg, ↓reduceIte, and_self, and_true, true_and, FM, h1]; with_reducible rfl)) | (with_reducible apply wm_t; focus (first | omega | (simp (disch := omega) only [wr_id, FM, h1]; omega) | (simp (disch := omega) only [wr_id, FM, h1]; done))) | (with_reducible apply wm_f; focus (first | omega | (simp (disch := omega) only [wr_id, FM, h1]; omega) | (simp (disch := omega) only [wr_id, FM, h1]; done)))))
    exact wm_r ⟨by rw [hB.2.1 p (by omega)]; rfl, rfl⟩
theorem q_mLe {v : Nat} (h2 : v < 256) : f_X12_isLetter (v : Int) (mm t d rt I) = some ((if isLe v then 1 else 0), mm t d rt I) := by
  have e := q_isLe (t := t) (d := d) (rt := rt) (I := I) (v := (v : Int)) (by omega) (by omega)
  rw [show ((v : Int)).toNat = v by omega] at e
  exact e
theorem q_mDi {v : Nat} (h2 : v < 256) : f_X12_isDigit (v : Int) (mm t d rt I) = some ((if isDi v then 1 else 0), mm t d rt I) := by
  have e := q_isDi (t := t) (d := d) (rt := rt) (I := I) (v := (v : Int)) (by omega) (by omega)
  rw [show ((v : Int)).toNat = v by omega] at e
  exact e
def tkI (I : Nat → Nat → Int) (n : Nat) (a b c e : Int) : Nat → Nat → Int := up (up (up (up (up I 372 n a) 373 n b) 374 n c) 375 n e) 369 10 ((n : Int) + 1)
theorem q_token {n : Nat} {a b c e : Int} (hn : n ≤ 400) (h0 : I 369 10 = (n : Int)) : f_X12_token 369 a b c e (mm t d rt I) = some (0, mm t d rt (tkI I n a b c e)) := by
  apply wm_eq
  unfold f_X12_token tkI
  (repeat (first | (with_reducible apply wm_o; focus (simp (disch := omega) only [wr_id, Int.toNat_natCast, Int.reduceToNat, tn_lk, tn_kl, if_pos, if_neg, ↓reduceIte, and_self, and_true, true_and, FM, h0, up_ne]; with_reducible rfl)) | (with_reducible apply wm_q) | (with_reducible apply wm_c; focus (first | assumption | decide +kernel)) | (with_reducible apply wm_d; focus (simp (disch := omega) only [wr_id, Int.toNat_natCast, Int.reduceToNat, tn_lk, tn_kl, if_pos, if_neg, ↓reduceIte, and_self, and_true, true_and, FM, h0, up_ne]; with_reducible rfl)) | (with_reducible apply wm_t; focus (first | omega | (simp (disch := omega) only [wr_id, FM, h0, up_ne]; omega) | (simp (disch := omega) only [wr_id, FM, h0, up_ne]; done))) | (with_reducible apply wm_f; focus (first | omega | (simp (disch := omega) only [wr_id, FM, h0, up_ne]; omega) | (simp (disch := omega) only [wr_id, FM, h0, up_ne]; done)))))
  exact wm_r ⟨rfl, rfl⟩
theorem q_sign {n c p : Nat} {dd : Int} (hn : n ≤ 400) (hc : c < 256) (hp : p ≤ 100000) (h0 : I 369 10 = (n : Int)) : f_X12_sign 369 (p : Int) (c : Int) dd (mm t d rt I) = some (1, mm t d rt (tkI I n (mkK (sgK c) : Int) (p : Int) 0 0)) := by
  have tk : ∀ a : Int, f_X12_token 369 a (p : Int) 0 0 (mm t d rt I) = some (0, mm t d rt (tkI I n a (p : Int) 0 0)) := fun a => q_token hn h0
  apply wm_eq
  unfold f_X12_sign sgK
  by_cases c1 : c = 59
  · subst c1; (repeat (first | (with_reducible apply wm_o; focus (simp (disch := omega) only [wr_id, Int.toNat_natCast, Int.reduceToNat, tn_lk, tn_kl, if_pos, if_neg, ↓reduceIte, and_self, and_true, true_and, FM, tk]; with_reducible rfl)) | (with_reducible apply wm_q) | (with_reducible apply wm_c; focus (first | assumption | decide +kernel)) | (with_reducible apply wm_d; focus (simp (disch := omega) only [wr_id, Int.toNat_natCast, Int.reduceToNat, tn_lk, tn_kl, if_pos, if_neg, ↓reduceIte, and_self, and_true, true_and, FM, tk]; with_reducible rfl)) | (with_reducible apply wm_t; focus (first | omega | (simp (disch := omega) only [wr_id, FM, tk]; omega) | (simp (disch := omega) only [wr_id, FM, tk]; done))) | (with_reducible apply wm_f; focus (first | omega | (simp (disch := omega) only [wr_id, FM, tk]; omega) | (simp (disch := omega) only [wr_id, FM, tk]; done))))); exact wm_r ⟨rfl, rfl⟩
  by_cases c2 : c = 61
  · subst c2; (repeat (first | (with_reducible apply wm_o; focus (simp (disch := omega) only [wr_id, Int.toNat_natCast, Int.reduceToNat, tn_lk, tn_kl, if_pos, if_neg, ↓reduceIte, and_self, and_true, true_and, FM, tk]; with_reducible rfl)) | (with_reducible apply wm_q) | (with_reducible apply wm_c; focus (first | assumption | decide +kernel)) | (with_reducible apply wm_d; focus (simp (disch := omega) only [wr_id, Int.toNat_natCast, Int.reduceToNat, tn_lk, tn_kl, if_pos, if_neg, ↓reduceIte, and_self, and_true, true_and, FM, tk]; with_reducible rfl)) | (with_reducible apply wm_t; focus (first | omega | (simp (disch := omega) only [wr_id, FM, tk]; omega) | (simp (disch := omega) only [wr_id, FM, tk]; done))) | (with_reducible apply wm_f; focus (first | omega | (simp (disch := omega) only [wr_id, FM, tk]; omega) | (simp (disch := omega) only [wr_id, FM, tk]; done))))); exact wm_r ⟨rfl, rfl⟩
  by_cases c3 : c = 40
  · subst c3; (repeat (first | (with_reducible apply wm_o; focus (simp (disch := omega) only [wr_id, Int.toNat_natCast, Int.reduceToNat, tn_lk, tn_kl, if_pos, if_neg, ↓reduceIte, and_self, and_true, true_and, FM, tk]; with_reducible rfl)) | (with_reducible apply wm_q) | (with_reducible apply wm_c; focus (first | assumption | decide +kernel)) | (with_reducible apply wm_d; focus (simp (disch := omega) only [wr_id, Int.toNat_natCast, Int.reduceToNat, tn_lk, tn_kl, if_pos, if_neg, ↓reduceIte, and_self, and_true, true_and, FM, tk]; with_reducible rfl)) | (with_reducible apply wm_t; focus (first | omega | (simp (disch := omega) only [wr_id, FM, tk]; omega) | (simp (disch := omega) only [wr_id, FM, tk]; done))) | (with_reducible apply wm_f; focus (first | omega | (simp (disch := omega) only [wr_id, FM, tk]; omega) | (simp (disch := omega) only [wr_id, FM, tk]; done))))); exact wm_r ⟨rfl, rfl⟩
  by_cases c4 : c = 41
  · subst c4; (repeat (first | (with_reducible apply wm_o; focus (simp (disch := omega) only [wr_id, Int.toNat_natCast, Int.reduceToNat, tn_lk, tn_kl, if_pos, if_neg, ↓reduceIte, and_self, and_true, true_and, FM, tk]; with_reducible rfl)) | (with_reducible apply wm_q) | (with_reducible apply wm_c; focus (first | assumption | decide +kernel)) | (with_reducible apply wm_d; focus (simp (disch := omega) only [wr_id, Int.toNat_natCast, Int.reduceToNat, tn_lk, tn_kl, if_pos, if_neg, ↓reduceIte, and_self, and_true, true_and, FM, tk]; with_reducible rfl)) | (with_reducible apply wm_t; focus (first | omega | (simp (disch := omega) only [wr_id, FM, tk]; omega) | (simp (disch := omega) only [wr_id, FM, tk]; done))) | (with_reducible apply wm_f; focus (first | omega | (simp (disch := omega) only [wr_id, FM, tk]; omega) | (simp (disch := omega) only [wr_id, FM, tk]; done))))); exact wm_r ⟨rfl, rfl⟩
  by_cases c5 : c = 43
  · subst c5; (repeat (first | (with_reducible apply wm_o; focus (simp (disch := omega) only [wr_id, Int.toNat_natCast, Int.reduceToNat, tn_lk, tn_kl, if_pos, if_neg, ↓reduceIte, and_self, and_true, true_and, FM, tk]; with_reducible rfl)) | (with_reducible apply wm_q) | (with_reducible apply wm_c; focus (first | assumption | decide +kernel)) | (with_reducible apply wm_d; focus (simp (disch := omega) only [wr_id, Int.toNat_natCast, Int.reduceToNat, tn_lk, tn_kl, if_pos, if_neg, ↓reduceIte, and_self, and_true, true_and, FM, tk]; with_reducible rfl)) | (with_reducible apply wm_t; focus (first | omega | (simp (disch := omega) only [wr_id, FM, tk]; omega) | (simp (disch := omega) only [wr_id, FM, tk]; done))) | (with_reducible apply wm_f; focus (first | omega | (simp (disch := omega) only [wr_id, FM, tk]; omega) | (simp (disch := omega) only [wr_id, FM, tk]; done))))); exact wm_r ⟨rfl, rfl⟩
  by_cases c6 : c = 45
  · subst c6; (repeat (first | (with_reducible apply wm_o; focus (simp (disch := omega) only [wr_id, Int.toNat_natCast, Int.reduceToNat, tn_lk, tn_kl, if_pos, if_neg, ↓reduceIte, and_self, and_true, true_and, FM, tk]; with_reducible rfl)) | (with_reducible apply wm_q) | (with_reducible apply wm_c; focus (first | assumption | decide +kernel)) | (with_reducible apply wm_d; focus (simp (disch := omega) only [wr_id, Int.toNat_natCast, Int.reduceToNat, tn_lk, tn_kl, if_pos, if_neg, ↓reduceIte, and_self, and_true, true_and, FM, tk]; with_reducible rfl)) | (with_reducible apply wm_t; focus (first | omega | (simp (disch := omega) only [wr_id, FM, tk]; omega) | (simp (disch := omega) only [wr_id, FM, tk]; done))) | (with_reducible apply wm_f; focus (first | omega | (simp (disch := omega) only [wr_id, FM, tk]; omega) | (simp (disch := omega) only [wr_id, FM, tk]; done))))); exact wm_r ⟨rfl, rfl⟩
  by_cases c7 : c = 42
  · subst c7; (repeat (first | (with_reducible apply wm_o; focus (simp (disch := omega) only [wr_id, Int.toNat_natCast, Int.reduceToNat, tn_lk, tn_kl, if_pos, if_neg, ↓reduceIte, and_self, and_true, true_and, FM, tk]; with_reducible rfl)) | (with_reducible apply wm_q) | (with_reducible apply wm_c; focus (first | assumption | decide +kernel)) | (with_reducible apply wm_d; focus (simp (disch := omega) only [wr_id, Int.toNat_natCast, Int.reduceToNat, tn_lk, tn_kl, if_pos, if_neg, ↓reduceIte, and_self, and_true, true_and, FM, tk]; with_reducible rfl)) | (with_reducible apply wm_t; focus (first | omega | (simp (disch := omega) only [wr_id, FM, tk]; omega) | (simp (disch := omega) only [wr_id, FM, tk]; done))) | (with_reducible apply wm_f; focus (first | omega | (simp (disch := omega) only [wr_id, FM, tk]; omega) | (simp (disch := omega) only [wr_id, FM, tk]; done))))); exact wm_r ⟨rfl, rfl⟩
  by_cases c8 : c = 47
  · subst c8; (repeat (first | (with_reducible apply wm_o; focus (simp (disch := omega) only [wr_id, Int.toNat_natCast, Int.reduceToNat, tn_lk, tn_kl, if_pos, if_neg, ↓reduceIte, and_self, and_true, true_and, FM, tk]; with_reducible rfl)) | (with_reducible apply wm_q) | (with_reducible apply wm_c; focus (first | assumption | decide +kernel)) | (with_reducible apply wm_d; focus (simp (disch := omega) only [wr_id, Int.toNat_natCast, Int.reduceToNat, tn_lk, tn_kl, if_pos, if_neg, ↓reduceIte, and_self, and_true, true_and, FM, tk]; with_reducible rfl)) | (with_reducible apply wm_t; focus (first | omega | (simp (disch := omega) only [wr_id, FM, tk]; omega) | (simp (disch := omega) only [wr_id, FM, tk]; done))) | (with_reducible apply wm_f; focus (first | omega | (simp (disch := omega) only [wr_id, FM, tk]; omega) | (simp (disch := omega) only [wr_id, FM, tk]; done))))); exact wm_r ⟨rfl, rfl⟩
  by_cases c9 : c = 60
  · subst c9; (repeat (first | (with_reducible apply wm_o; focus (simp (disch := omega) only [wr_id, Int.toNat_natCast, Int.reduceToNat, tn_lk, tn_kl, if_pos, if_neg, ↓reduceIte, and_self, and_true, true_and, FM, tk]; with_reducible rfl)) | (with_reducible apply wm_q) | (with_reducible apply wm_c; focus (first | assumption | decide +kernel)) | (with_reducible apply wm_d; focus (simp (disch := omega) only [wr_id, Int.toNat_natCast, Int.reduceToNat, tn_lk, tn_kl, if_pos, if_neg, ↓reduceIte, and_self, and_true, true_and, FM, tk]; with_reducible rfl)) | (with_reducible apply wm_t; focus (first | omega | (simp (disch := omega) only [wr_id, FM, tk]; omega) | (simp (disch := omega) only [wr_id, FM, tk]; done))) | (with_reducible apply wm_f; focus (first | omega | (simp (disch := omega) only [wr_id, FM, tk]; omega) | (simp (disch := omega) only [wr_id, FM, tk]; done))))); exact wm_r ⟨rfl, rfl⟩
  rw [if_neg c1, if_neg c2, if_neg c5, if_neg c6, if_neg c7, if_neg c8, if_neg c9, if_neg c3, if_neg c4]
  (repeat (first | (with_reducible apply wm_o; focus (simp (disch := omega) only [wr_id, Int.toNat_natCast, Int.reduceToNat, tn_lk, tn_kl, if_pos, if_neg, ↓reduceIte, and_self, and_true, true_and, FM, tk]; with_reducible rfl)) | (with_reducible apply wm_q) | (with_reducible apply wm_c; focus (first | assumption | decide +kernel)) | (with_reducible apply wm_d; focus (simp (disch := omega) only [wr_id, Int.toNat_natCast, Int.reduceToNat, tn_lk, tn_kl, if_pos, if_neg, ↓reduceIte, and_self, and_true, true_and, FM, tk]; with_reducible rfl)) | (with_reducible apply wm_t; focus (first | omega | (simp (disch := omega) only [wr_id, FM, tk]; omega) | (simp (disch := omega) only [wr_id, FM, tk]; done))) | (with_reducible apply wm_f; focus (first | omega | (simp (disch := omega) only [wr_id, FM, tk]; omega) | (simp (disch := omega) only [wr_id, FM, tk]; done)))))
  exact wm_r ⟨rfl, rfl⟩
theorem tkI_frm {n : Nat} {a b c e : Int} : frM (fun a => 372 ≤ a ∧ a ≤ 375) (fun j => j = 10) I (tkI I n a b c e) := by
  unfold tkI
  refine ⟨fun x h1 h2 => ?_, fun j hj => ?_⟩
  · rw [up_ne h1, up_ne (by omega), up_ne (by omega), up_ne (by omega), up_ne (by omega)]
  · rw [up_g, if_neg hj, up_ne (by decide), up_ne (by decide), up_ne (by decide), up_ne (by decide)]
theorem tkI_to {n : Nat} {a b c e : Int} (hI : toM I B tl n) (ha : a = (mkK (tK B tl n) : Int)) (hb : b = (tps B tl n : Int)) (hc : tK B tl n = 3 → c = tV B tl n) : toM (tkI I n a b c e) B tl (n + 1) ∧ tkI I n a b c e 369 10 = ((n + 1 : Nat) : Int) := by
  unfold tkI
  refine ⟨fun i hi => ?_, by rw [up_s]; omega⟩
  rw [up_ne (by decide), up_ne (by decide), up_ne (by decide), up_ne (by decide), up_g, up_ne (by decide), up_ne (by decide), up_ne (by decide), up_g, up_ne (by decide), up_ne (by decide), up_ne (by decide), up_g]
  by_cases ei : i = n
  · rw [if_pos ei, if_pos ei, if_pos ei, ei]
    exact ⟨ha, hb, hc⟩
  · rw [if_neg ei, if_neg ei, if_neg ei, up_ne (by decide), up_ne (by decide)]
    exact hI i (by omega)
end MC
