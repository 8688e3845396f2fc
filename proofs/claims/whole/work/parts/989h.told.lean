/-! ===== what was told; calls: look ===== -/
def tdN (A B : Nat → Int) (v : Int) : Nat → Nat → Bool
  | 0, _ => false
  | k + 1, x => tdN A B v k x || (decide (B k = v) && decide (A k = (x : Int)))
theorem tdN_s (A B : Nat → Int) (v : Int) (k x : Nat) : tdN A B v (k + 1) x = (tdN A B v k x || (decide (B k = v) && decide (A k = (x : Int)))) := rfl
theorem tdN_t {A B : Nat → Int} {v : Int} {k c : Nat} (h1 : B k = v) (h2 : A k = (c : Int)) : tdN A B v (k + 1) = clAdd (tdN A B v k) c := by
  funext x
  rw [tdN_s, decide_eq_true h1, h2, Bool.true_and]
  unfold clAdd
  congr 1
  rw [Bool.eq_iff_iff]
  simp only [decide_eq_true_eq]
  omega
theorem tdN_f {A B : Nat → Int} {v : Int} {k : Nat} (h1 : ¬ B k = v) : tdN A B v (k + 1) = tdN A B v k := by
  funext x
  rw [tdN_s, decide_eq_false h1, Bool.false_and, Bool.or_false]
theorem tdN_m {A B : Nat → Int} {v : Int} {x : Nat} : ∀ {k : Nat}, tdN A B v k x = true → ∃ i, i < k ∧ A i = (x : Int)
  | 0, h => by cases h
  | k + 1, h => by
    rw [tdN_s, Bool.or_eq_true, Bool.and_eq_true, decide_eq_true_eq, decide_eq_true_eq] at h
    rcases h with h | h
    · obtain ⟨i, h1, h2⟩ := tdN_m h
      exact ⟨i, by omega, h2⟩
    · exact ⟨k, by omega, h.2⟩
/-- k told cells are open ones of the square -/
def tdOK (n : Nat) (hl : Nat → Bool) (A B : Nat → Int) (k : Nat) : Prop := ∀ i, i < k → (B i = 0 ∨ B i = 1) ∧ ∃ c : Nat, A i = (c : Int) ∧ c < n ∧ hl c = false
section TD
variable {t d rt : Nat} {I J K : Nat → Nat → Int} {lv w h n nh r : Nat} {hl cl na nd : Nat → Bool} {sd : Int} {ifs : Nat → List LwI} {xs : Nat → List CI} {ρ : Nat → Int} {u : Nat} {H : Nat → Nat → Int} {hd : Nat → Bool} {G : Nat → Nat → Int} {A B : Nat → Int}
theorem td_cl {k : Nat} {v : Int} (hT : tdOK n hl A B k) : ∀ x, tdN A B v k x = true → hl x = false := fun x hx => by
  obtain ⟨i, h1, h2⟩ := tdN_m hx
  obtain ⟨_, c, e1, e2, e3⟩ := hT i h1
  obtain rfl : x = c := by omega
  exact e3
theorem c_countKnown (sq : sqOK w h n nh hl) (c : cfC I t w h n nh hl sd ifs xs) (h12 : ∀ m, m < 64 → I 336 m = (oddR m : Int)) {k td : Nat} (hk : k ≤ td) (htd : td ≤ 20) (h2 : I 308 2 = (td : Int)) (hA : ∀ i, i < k → I 309 i = A i ∧ I 310 i = B i) (hT : tdOK n hl A B k) : wm t d rt (f_X11_countKnown 0 (k : Int) (mm t d rt I)) (fun _ J => frm (fun a => 324 ≤ a ∧ a ≤ 335) I J ∧ rCfg J 324 w h hl (tdN A B 0 k) (tdN A B 1 k) ∧ wyR J 324 w h hl (tdN A B 0 k) (tdN A B 1 k)) := by
  have htx := c.1
  have kt := (tx_k htx).1
  have kb := (tx_k htx).2.2.2
  have hn := sq.2.2.2.2.2.2.1
  have hnw := sq.2.2.2.2.1
  have k4 := so_k
  unfold f_X11_countKnown
  (repeat (first | (with_reducible apply wm_o; focus (simp (disch := omega) only [wr_id, Int.toNat_natCast, Int.reduceToNat, tn_lk, tn_kl, if_pos, if_neg, ↓reduceIte, and_self, and_true, true_and, FX]; with_reducible rfl)) | (with_reducible apply wm_q) | (with_reducible apply wm_c; focus (first | assumption | decide +kernel)) | (with_reducible apply wm_d; focus (simp (disch := omega) only [wr_id, Int.toNat_natCast, Int.reduceToNat, tn_lk, tn_kl, if_pos, if_neg, ↓reduceIte, and_self, and_true, true_and, FX]; with_reducible rfl)) | (with_reducible apply wm_t; focus (first | omega | (simp (disch := omega) only [wr_id, FX]; omega) | (simp (disch := omega) only [wr_id, FX]; done))) | (with_reducible apply wm_f; focus (first | omega | (simp (disch := omega) only [wr_id, FX]; omega) | (simp (disch := omega) only [wr_id, FX]; done)))))
  refine wm_b (w_begin so_in sq c h12) (fun v J hJ => ?_)
  obtain ⟨j1, j2⟩ := hJ
  refine wm_lp2 k (fun i y K => y = (i : Int) ∧ frm (fun a => 324 ≤ a ∧ a ≤ 335) I K ∧ rCfg K 324 w h hl (tdN A B 0 i) (tdN A B 1 i)) ?_ (Nat.lt_of_le_of_lt (show k ≤ 20 by omega) (jfuel_n (by decide))) ⟨rfl, frm_sub j1 (fun a ha => by omega), j2⟩
  rintro i hi y K ⟨rfl, hK, cK⟩ rec hrec
  have t2 : K 308 2 = (td : Int) := by rw [hK _ (by omega)]; exact h2
  by_cases e : i = k
  · subst e
    (repeat (first | (with_reducible apply wm_o; focus (simp (disch := omega) only [wr_id, Int.toNat_natCast, Int.reduceToNat, tn_lk, tn_kl, if_pos, if_neg, ↓reduceIte, and_self, and_true, true_and, FX]; with_reducible rfl)) | (with_reducible apply wm_q) | (with_reducible apply wm_c; focus (first | assumption | decide +kernel)) | (with_reducible apply wm_d; focus (simp (disch := omega) only [wr_id, Int.toNat_natCast, Int.reduceToNat, tn_lk, tn_kl, if_pos, if_neg, ↓reduceIte, and_self, and_true, true_and, FX]; with_reducible rfl)) | (with_reducible apply wm_t; focus (first | omega | (simp (disch := omega) only [wr_id, FX]; omega) | (simp (disch := omega) only [wr_id, FX]; done))) | (with_reducible apply wm_f; focus (first | omega | (simp (disch := omega) only [wr_id, FX]; omega) | (simp (disch := omega) only [wr_id, FX]; done)))))
    refine wm_b (w_countWays so_in cK (td_cl hT)) (fun v2 L hL => ?_)
    exact wm_r ⟨frm_trans hK (frm_sub hL.1 (fun a ha => by omega)), hL.2⟩
  · have hi2 : i < k := by omega
    obtain ⟨b01, q, e1, e2, e3⟩ := hT i hi2
    have a1 : K 309 i = (q : Int) := by rw [hK _ (by omega), (hA i hi2).1]; exact e1
    have a2 : K 310 i = B i := by rw [hK _ (by omega), (hA i hi2).2]
    rcases b01 with b | b
    · rw [b] at a2
      (repeat (first | (with_reducible apply wm_o; focus (simp (disch := omega) only [wr_id, Int.toNat_natCast, Int.reduceToNat, tn_lk, tn_kl, if_pos, if_neg, ↓reduceIte, and_self, and_true, true_and, FX, FTold, t2, a1, a2]; with_reducible rfl)) | (with_reducible apply wm_q) | (with_reducible apply wm_c; focus (first | assumption | decide +kernel)) | (with_reducible apply wm_d; focus (simp (disch := omega) only [wr_id, Int.toNat_natCast, Int.reduceToNat, tn_lk, tn_kl, if_pos, if_neg, ↓reduceIte, and_self, and_true, true_and, FX, FTold, t2, a1, a2]; with_reducible rfl)) | (with_reducible apply wm_t; focus (first | omega | (simp (disch := omega) only [wr_id, FX, FTold, t2, a1, a2]; omega) | (simp (disch := omega) only [wr_id, FX, FTold, t2, a1, a2]; done))) | (with_reducible apply wm_f; focus (first | omega | (simp (disch := omega) only [wr_id, FX, FTold, t2, a1, a2]; omega) | (simp (disch := omega) only [wr_id, FX, FTold, t2, a1, a2]; done)))))
      refine wm_b (w_bind so_in cK (c := q) (f := 0) (by omega) (Or.inl rfl)) (fun v2 L hL => ?_)
      obtain ⟨l1, l2⟩ := hL
      rw [if_pos rfl, if_pos rfl] at l2
      refine hrec (i + 1) _ _ (by omega) (by omega) ⟨by omega, frm_trans hK (frm_sub l1 (fun a ha => by omega)), ?_⟩
      rw [tdN_t b e1, tdN_f (by omega)]
      exact l2
    · rw [b] at a2
      (repeat (first | (with_reducible apply wm_o; focus (simp (disch := omega) only [wr_id, Int.toNat_natCast, Int.reduceToNat, tn_lk, tn_kl, if_pos, if_neg, ↓reduceIte, and_self, and_true, true_and, FX, FTold, t2, a1, a2]; with_reducible rfl)) | (with_reducible apply wm_q) | (with_reducible apply wm_c; focus (first | assumption | decide +kernel)) | (with_reducible apply wm_d; focus (simp (disch := omega) only [wr_id, Int.toNat_natCast, Int.reduceToNat, tn_lk, tn_kl, if_pos, if_neg, ↓reduceIte, and_self, and_true, true_and, FX, FTold, t2, a1, a2]; with_reducible rfl)) | (with_reducible apply wm_t; focus (first | omega | (simp (disch := omega) only [wr_id, FX, FTold, t2, a1, a2]; omega) | (simp (disch := omega) only [wr_id, FX, FTold, t2, a1, a2]; done))) | (with_reducible apply wm_f; focus (first | omega | (simp (disch := omega) only [wr_id, FX, FTold, t2, a1, a2]; omega) | (simp (disch := omega) only [wr_id, FX, FTold, t2, a1, a2]; done)))))
      refine wm_b (w_bind so_in cK (c := q) (f := 1) (by omega) (Or.inr rfl)) (fun v2 L hL => ?_)
      obtain ⟨l1, l2⟩ := hL
      rw [if_neg (by decide), if_neg (by decide)] at l2
      refine hrec (i + 1) _ _ (by omega) (by omega) ⟨by omega, frm_trans hK (frm_sub l1 (fun a ha => by omega)), ?_⟩
      rw [tdN_t b e1, tdN_f (by omega)]
      exact l2
theorem m_countsTold (c : cfM I lv w h n nh hl sd ifs xs) {k : Nat} (hk : k ≤ 20) (hA : ∀ i, i < k → I 414 i = A i ∧ I 415 i = B i) (hT : tdOK n hl A B k) : wm t d rt (f_X12_countsTold 369 (k : Int) (mm t d rt I)) (fun r J => r = (Np w n (tdN A B 0 k) (tdN A B 1 k) n 0 hl : Int) ∧ frM (fun a => 407 ≤ a ∧ a ≤ 410) (fun _ => False) I J ∧ flg J 408 hl ∧ flg J 409 (tdN A B 0 k) ∧ flg J 410 (tdN A B 1 k) ∧ ∀ c m, c ≤ n → m < 64 → J 407 (64 * c + m) = Fr w n hl (tdN A B 0 k) (tdN A B 1 k) (n - c) c m) := by
  have hn : n ≤ 36 := c.1.2.2.2.2.2.2.2.2.2.2
  unfold f_X12_countsTold
  (repeat (first | (with_reducible apply wm_o; focus (simp (disch := omega) only [wr_id, Int.toNat_natCast, Int.reduceToNat, tn_lk, tn_kl, if_pos, if_neg, ↓reduceIte, and_self, and_true, true_and]; with_reducible rfl)) | (with_reducible apply wm_q) | (with_reducible apply wm_c; focus (first | assumption | decide +kernel)) | (with_reducible apply wm_d; focus (simp (disch := omega) only [wr_id, Int.toNat_natCast, Int.reduceToNat, tn_lk, tn_kl, if_pos, if_neg, ↓reduceIte, and_self, and_true, true_and]; with_reducible rfl)) | (with_reducible apply wm_t; focus (first | omega | (simp (disch := omega) only [wr_id]; omega) | (simp (disch := omega) only [wr_id]; done))) | (with_reducible apply wm_f; focus (first | omega | (simp (disch := omega) only [wr_id]; omega) | (simp (disch := omega) only [wr_id]; done)))))
  refine wm_b (m_closesHoles c) (fun v J hJ => ?_)
  obtain ⟨j1, j2⟩ := hJ
  refine wm_lp2 36 (fun i y K => y = (i : Int) ∧ frM (fun a => a = 409 ∨ a = 410) (fun _ => False) J K ∧ ∀ x, x < i → K 409 x = 0 ∧ K 410 x = 0) ?_ (jfuel_n (by decide)) ⟨rfl, frM_refl _ _ _, fun x hx => by omega⟩
  rintro i hi y K ⟨rfl, hK, kA⟩ rec hrec
  refine wm_if (fun cc => ?_) (fun cc => ?_)
  · simp (disch := omega) only [wr_id] at cc
    (repeat (first | (with_reducible apply wm_o; focus (simp (disch := omega) only [wr_id, Int.toNat_natCast, Int.reduceToNat, tn_lk, tn_kl, if_pos, if_neg, ↓reduceIte, and_self, and_true, true_and, FM, jdz0]; with_reducible rfl)) | (with_reducible apply wm_q) | (with_reducible apply wm_c; focus (first | assumption | decide +kernel)) | (with_reducible apply wm_d; focus (simp (disch := omega) only [wr_id, Int.toNat_natCast, Int.reduceToNat, tn_lk, tn_kl, if_pos, if_neg, ↓reduceIte, and_self, and_true, true_and, FM, jdz0]; with_reducible rfl)) | (with_reducible apply wm_t; focus (first | omega | (simp (disch := omega) only [wr_id, FM, jdz0]; omega) | (simp (disch := omega) only [wr_id, FM, jdz0]; done))) | (with_reducible apply wm_f; focus (first | omega | (simp (disch := omega) only [wr_id, FM, jdz0]; omega) | (simp (disch := omega) only [wr_id, FM, jdz0]; done)))))
    refine hrec (i + 1) _ _ (by omega) (by omega) ⟨by omega, frM_up (frM_up hK (by decide) (by omega)) (by decide) (by omega), fun x hx => ?_⟩
    simp (disch := omega) only [up_ne, up_g]
    by_cases e : x = i
    · rw [if_pos e, if_pos e]; exact ⟨rfl, rfl⟩
    · rw [if_neg e, if_neg e]; exact kA x (by omega)
  · simp (disch := omega) only [wr_id] at cc
    obtain rfl : i = 36 := by omega
    clear hrec rec
    refine wm_lp2 k (fun i y L => y = (i : Int) ∧ frM (fun a => a = 409 ∨ a = 410) (fun _ => False) J L ∧ flg L 409 (tdN A B 0 i) ∧ flg L 410 (tdN A B 1 i)) ?_ (Nat.lt_of_le_of_lt hk (jfuel_n (by decide))) ⟨rfl, hK, fun x hx => (kA x hx).1, fun x hx => (kA x hx).2⟩
    rintro i hi' y L ⟨rfl, hL, l9, l0⟩ rec hrec
    have fL : frM (fun a => a = 408 ∨ a = 409 ∨ a = 410) (fun _ => False) I L := frM_trans (frM_f j1 (fun a ha => by omega)) (frM_f hL (fun a ha => by omega))
    by_cases e : i = k
    · subst e
      (repeat (first | (with_reducible apply wm_o; focus (simp (disch := omega) only [wr_id, Int.toNat_natCast, Int.reduceToNat, tn_lk, tn_kl, if_pos, if_neg, ↓reduceIte, and_self, and_true, true_and]; with_reducible rfl)) | (with_reducible apply wm_q) | (with_reducible apply wm_c; focus (first | assumption | decide +kernel)) | (with_reducible apply wm_d; focus (simp (disch := omega) only [wr_id, Int.toNat_natCast, Int.reduceToNat, tn_lk, tn_kl, if_pos, if_neg, ↓reduceIte, and_self, and_true, true_and]; with_reducible rfl)) | (with_reducible apply wm_t; focus (first | omega | (simp (disch := omega) only [wr_id]; omega) | (simp (disch := omega) only [wr_id]; done))) | (with_reducible apply wm_f; focus (first | omega | (simp (disch := omega) only [wr_id]; omega) | (simp (disch := omega) only [wr_id]; done)))))
      have cL := cfM_frm fL (fun a _ _ _ _ _ _ _ _ => by omega) (fun q => q) c
      have l8 : flg L 408 hl := flg_ne (hL.1 408 (by decide) (by decide)) j2
      refine wm_b (m_counts (b := 1) (tb := 407) cL.1 l8 l9 l0 (Or.inr ⟨rfl, rfl, rfl, rfl⟩)) (fun v2 N hN => ?_)
      obtain ⟨rfl, n1, n2⟩ := hN
      exact wm_r ⟨rfl, frM_trans (frM_f fL (fun a ha => by omega)) (frM_f n1 (fun a ha => by omega)), flg_ne (n1.1 408 (by decide) (by decide)) l8, flg_ne (n1.1 409 (by decide) (by decide)) l9, flg_ne (n1.1 410 (by decide) (by decide)) l0, n2⟩
    · have hi2 : i < k := by omega
      obtain ⟨b01, q, e1, e2, e3⟩ := hT i hi2
      have a1 : L 414 i = (q : Int) := by rw [fL.1 _ (by decide) (by omega), (hA i hi2).1]; exact e1
      have a2 : L 415 i = B i := by rw [fL.1 _ (by decide) (by omega), (hA i hi2).2]
      rcases b01 with b | b
      · rw [b] at a2
        (repeat (first | (with_reducible apply wm_o; focus (simp (disch := omega) only [wr_id, Int.toNat_natCast, Int.reduceToNat, tn_lk, tn_kl, if_pos, if_neg, ↓reduceIte, and_self, and_true, true_and, FM, a1, a2, jdz1]; with_reducible rfl)) | (with_reducible apply wm_q) | (with_reducible apply wm_c; focus (first | assumption | decide +kernel)) | (with_reducible apply wm_d; focus (simp (disch := omega) only [wr_id, Int.toNat_natCast, Int.reduceToNat, tn_lk, tn_kl, if_pos, if_neg, ↓reduceIte, and_self, and_true, true_and, FM, a1, a2, jdz1]; with_reducible rfl)) | (with_reducible apply wm_t; focus (first | omega | (simp (disch := omega) only [wr_id, FM, a1, a2, jdz1]; omega) | (simp (disch := omega) only [wr_id, FM, a1, a2, jdz1]; done))) | (with_reducible apply wm_f; focus (first | omega | (simp (disch := omega) only [wr_id, FM, a1, a2, jdz1]; omega) | (simp (disch := omega) only [wr_id, FM, a1, a2, jdz1]; done)))))
        refine hrec (i + 1) _ _ (by omega) (by omega) ⟨by omega, frM_up hL (by decide) (by omega), ?_, ?_⟩
        · rw [tdN_t b e1]; exact flg_up l9
        · rw [tdN_f (by omega)]; exact flg_ne (up_ne (by decide)) l0
      · rw [b] at a2
        (repeat (first | (with_reducible apply wm_o; focus (simp (disch := omega) only [wr_id, Int.toNat_natCast, Int.reduceToNat, tn_lk, tn_kl, if_pos, if_neg, ↓reduceIte, and_self, and_true, true_and, FM, a1, a2, jdz1]; with_reducible rfl)) | (with_reducible apply wm_q) | (with_reducible apply wm_c; focus (first | assumption | decide +kernel)) | (with_reducible apply wm_d; focus (simp (disch := omega) only [wr_id, Int.toNat_natCast, Int.reduceToNat, tn_lk, tn_kl, if_pos, if_neg, ↓reduceIte, and_self, and_true, true_and, FM, a1, a2, jdz1]; with_reducible rfl)) | (with_reducible apply wm_t; focus (first | omega | (simp (disch := omega) only [wr_id, FM, a1, a2, jdz1]; omega) | (simp (disch := omega) only [wr_id, FM, a1, a2, jdz1]; done))) | (with_reducible apply wm_f; focus (first | omega | (simp (disch := omega) only [wr_id, FM, a1, a2, jdz1]; omega) | (simp (disch := omega) only [wr_id, FM, a1, a2, jdz1]; done)))))
        refine hrec (i + 1) _ _ (by omega) (by omega) ⟨by omega, frM_up hL (by decide) (by omega), ?_, ?_⟩
        · rw [tdN_f (by omega)]; exact flg_ne (up_ne (by decide)) l9
        · rw [tdN_t b e1]; exact flg_up l0
theorem j_max {a b : Int} (ha : in32 a) (hb : in32 b) (M : jMem) : f_J9_max_7cf53 a b M = some (max a b, M) := by
  unfold in32 at ha hb
  unfold f_J9_max_7cf53
  by_cases z : a < b
  · rw [wr_id ha.1 ha.2, wr_id hb.1 hb.2, if_pos z, Int.max_eq_right (by omega)]
  · rw [wr_id ha.1 ha.2, wr_id hb.1 hb.2, if_neg z, Int.max_eq_left (by omega)]
end TD
/-- the first least of f among those of op -/
def lkS (f : Nat → Int) (op : Nat → Bool) : Nat → Option (Nat × Int)
  | 0 => none
  | k + 1 => match lkS f op k with
    | none => if op k then some (k, f k) else none
    | some (b, v) => if op k && decide (f k < v) then some (k, f k) else some (b, v)
theorem lkS_no {f : Nat → Int} {op : Nat → Bool} {k : Nat} (h : op k = false) : lkS f op (k + 1) = lkS f op k := by
  rw [lkS]
  cases lkS f op k with
  | none => simp [h]
  | some q => simp [h]
theorem lkS_n {f : Nat → Int} {op : Nat → Bool} {k : Nat} (h : op k = true) (e : lkS f op k = none) : lkS f op (k + 1) = some (k, f k) := by
  rw [lkS, e]; simp [h]
theorem lkS_lt {f : Nat → Int} {op : Nat → Bool} {k b : Nat} {v : Int} (h : op k = true) (e : lkS f op k = some (b, v)) (hl : f k < v) : lkS f op (k + 1) = some (k, f k) := by
  rw [lkS, e]; simp [h, hl]
theorem lkS_ge {f : Nat → Int} {op : Nat → Bool} {k b : Nat} {v : Int} (e : lkS f op k = some (b, v)) (hl : ¬ f k < v) : lkS f op (k + 1) = some (b, v) := by
  rw [lkS, e]; simp [hl]
theorem lkS_at {f : Nat → Int} {op : Nat → Bool} : ∀ {k b : Nat} {v : Int}, lkS f op k = some (b, v) → b < k ∧ v = f b ∧ op b = true
  | 0, b, v, h => by cases h
  | k + 1, b, v, h => by
    cases e : lkS f op k with
    | none =>
      rw [lkS, e] at h
      by_cases z : op k = true
      · simp [z] at h
        obtain ⟨rfl, rfl⟩ := h
        exact ⟨by omega, rfl, z⟩
      · simp [z] at h
    | some q =>
      obtain ⟨b', v'⟩ := q
      have ih := lkS_at e
      rw [lkS, e] at h
      by_cases z : (op k && decide (f k < v')) = true
      · simp only [z, if_true] at h
        injection h with h
        injection h with h1 h2
        rw [Bool.and_eq_true] at z
        subst h1 h2
        exact ⟨by omega, rfl, z.1⟩
      · rw [Bool.not_eq_true] at z
        simp only [z] at h
        injection h with h
        injection h with h1 h2
        subst h1 h2
        exact ⟨by omega, ih.2⟩
