/-! ===== the square, of both sides ===== -/
def in32 (x : Int) : Prop := -2147483648 ≤ x ∧ x < 2147483648
def sqOK (w h n nh : Nat) (hl : Nat → Bool) : Prop := 2 ≤ w ∧ w ≤ 6 ∧ 2 ≤ h ∧ h ≤ 6 ∧ n = w * h ∧ 4 ≤ n ∧ n ≤ 36 ∧ nh = cntB hl n ∧ ∀ c, hl c = true → c < n
def plV (q : Nat) : Int := if q = 0 then 1 else 0
/-- the class's text -/
def cfC (I : Nat → Nat → Int) (t w h n nh : Nat) (hl : Nat → Bool) (sd : Int) (ifs : Nat → List LwI) (xs : Nat → List CI) : Prop := t ∈ [3, 16] ∧ I t 0 = (w : Int) ∧ I t 1 = (h : Int) ∧ I t 2 = sd ∧ I t 3 = (nh : Int) ∧ (∀ c, c < 36 → I (t + 6) c = if hl c then 1 else 0) ∧ ∀ q, q < 3 → lawC I (t + 8) q (ifs q) (xs q)
/-- the model's -/
def cfM (I : Nat → Nat → Int) (lv w h n nh : Nat) (hl : Nat → Bool) (sd : Int) (ifs : Nat → List LwI) (xs : Nat → List CI) : Prop := mCfg I lv w h n ∧ I 379 lv = (nh : Int) ∧ I 386 lv = sd ∧ (∀ c, c < 36 → I 402 c = if hl c then 1 else 0) ∧ ∀ q, q < 3 → lawM I lv q (plV q) (ifs q) (xs q)
def opB (n : Nat) (hl : Nat → Bool) (x : Int) : Bool := decide (0 ≤ x) && decide (x < n) && !hl x.toNat
def frB (w n : Nat) (hl : Nat → Bool) (ρ : Nat → Int) (x : Int) : Bool := opB n hl x && (rCpl w ρ x).isNone
theorem lawC_frm {I J : Nat → Nat → Int} {l q : Nat} {ifs : List LwI} {x : List CI} (h0 : J l = I l) (h1 : J (l + 1) = I (l + 1)) (h2 : J (l + 2) = I (l + 2)) (h3 : J (l + 3) = I (l + 3)) (h : lawC I l q ifs x) : lawC J l q ifs x := by
  unfold lawC at h ⊢
  rw [h0, h1, h2, h3]
  exact h
theorem cfC_frm {I J : Nat → Nat → Int} {t w h n nh : Nat} {hl : Nat → Bool} {sd : Int} {ifs : Nat → List LwI} {xs : Nat → List CI} {S : Nat → Prop} (hf : frm S I J) (hs : ∀ a, t ≤ a → a ≤ t + 11 → ¬ S a) (hc : cfC I t w h n nh hl sd ifs xs) : cfC J t w h n nh hl sd ifs xs := by
  obtain ⟨c1, c2, c3, c4, c5, c6, c7⟩ := hc
  have e0 := hf t (hs t (by omega) (by omega))
  have e6 := hf (t + 6) (hs _ (by omega) (by omega))
  refine ⟨c1, by rw [e0]; exact c2, by rw [e0]; exact c3, by rw [e0]; exact c4, by rw [e0]; exact c5, by rw [e6]; exact c6, fun q hq => lawC_frm (hf _ (hs _ (by omega) (by omega))) (hf _ (hs _ (by omega) (by omega))) (hf _ (hs _ (by omega) (by omega))) (hf _ (hs _ (by omega) (by omega))) (c7 q hq)⟩
theorem lawM_frm {I J : Nat → Nat → Int} {lv q : Nat} {pl : Int} {ifs : List LwI} {x : List CI} (h : ∀ a, 387 ≤ a → a ≤ 395 → J a = I a) (hC : lawM I lv q pl ifs x) : lawM J lv q pl ifs x := by
  obtain ⟨hok, hC⟩ := hC
  refine ⟨hok, ?_⟩
  rw [h 387 (by omega) (by omega), h 388 (by omega) (by omega)]
  rcases hC with q | ⟨b, e, q1, q2, q3, q4⟩
  · exact Or.inl q
  · exact Or.inr ⟨b, e, q1, q2, q3, lwM_frm ⟨h _ (by omega) (by omega), h _ (by omega) (by omega), h _ (by omega) (by omega), h _ (by omega) (by omega), h _ (by omega) (by omega), h _ (by omega) (by omega), h _ (by omega) (by omega)⟩ q4⟩
theorem mCfg_frm {I J : Nat → Nat → Int} {lv w h n : Nat} (h1 : J 369 18 = I 369 18) (h2 : J 377 = I 377) (h3 : J 378 = I 378) (c : mCfg I lv w h n) : mCfg J lv w h n := by
  unfold mCfg at c ⊢
  rw [h1, h2, h3]
  exact c
theorem cfM_frm {I J : Nat → Nat → Int} {lv w h n nh : Nat} {hl : Nat → Bool} {sd : Int} {ifs : Nat → List LwI} {xs : Nat → List CI} {S T : Nat → Prop} (hf : frM S T I J) (hs : ∀ a, 377 ≤ a → a ≤ 402 → a ≠ 396 → a ≠ 397 → a ≠ 398 → a ≠ 399 → a ≠ 400 → a ≠ 401 → ¬ S a) (ht : ¬ T 18) (hc : cfM I lv w h n nh hl sd ifs xs) : cfM J lv w h n nh hl sd ifs xs := by
  obtain ⟨c1, c2, c3, c4, c5⟩ := hc
  have e : ∀ a, 377 ≤ a → a ≤ 402 → a ≠ 396 → a ≠ 397 → a ≠ 398 → a ≠ 399 → a ≠ 400 → a ≠ 401 → J a = I a := fun a h1 h2 h3 h4 h5 h6 h7 h8 => hf.1 a (by omega) (hs a h1 h2 h3 h4 h5 h6 h7 h8)
  refine ⟨mCfg_frm (hf.2 18 ht) (e _ (by omega) (by omega) (by omega) (by omega) (by omega) (by omega) (by omega) (by omega)) (e _ (by omega) (by omega) (by omega) (by omega) (by omega) (by omega) (by omega) (by omega)) c1, ?_, ?_, ?_, fun q hq => lawM_frm (fun a h1 h2 => e a (by omega) (by omega) (by omega) (by omega) (by omega) (by omega) (by omega) (by omega)) (c5 q hq)⟩
  · rw [e _ (by omega) (by omega) (by omega) (by omega) (by omega) (by omega) (by omega) (by omega)]; exact c2
  · rw [e _ (by omega) (by omega) (by omega) (by omega) (by omega) (by omega) (by omega) (by omega)]; exact c3
  · rw [e _ (by omega) (by omega) (by omega) (by omega) (by omega) (by omega) (by omega) (by omega)]; exact c4
theorem below_iff {w h n x : Nat} (hw : 2 ≤ w) (hn : n = w * h) : x / w + 1 < h ↔ x + w < n := by
  subst hn
  have h1 : x + w = x + w * 1 := by omega
  have e : (x + w) / w = x / w + 1 := by rw [h1, Nat.add_mul_div_left _ _ (by omega)]
  constructor
  · intro q
    have := (Nat.div_lt_iff_lt_mul (show 0 < w by omega)).mp (show (x + w) / w < h by omega)
    rw [Nat.mul_comm] at this
    exact this
  · intro q
    have := (Nat.div_lt_iff_lt_mul (show 0 < w by omega)).mpr (show x + w < h * w by rw [Nat.mul_comm]; exact q)
    omega
section CT
variable {t d rt : Nat} {I : Nat → Nat → Int} {lv w h n nh : Nat} {hl : Nat → Bool} {sd : Int} {ifs : Nat → List LwI} {xs : Nat → List CI} {ρ : Nat → Int}
theorem tx_k (ht : t ∈ [3, 16]) : ((K0 t).1 = 8 ∧ t < 418) ∧ ((K0 (t + 8)).1 = 2 ∧ t + 8 < 418) ∧ t + 8 ∈ [11, 24] ∧ 3 ≤ t ∧ t + 12 < 29 := by
  have : ∀ t ∈ [3, 16], ((K0 t).1 = 8 ∧ t < 418) ∧ ((K0 (t + 8)).1 = 2 ∧ t + 8 < 418) ∧ t + 8 ∈ [11, 24] ∧ 3 ≤ t ∧ t + 12 < 29 := by decide +kernel
  exact this t ht
theorem q_cells (sq : sqOK w h n nh hl) (c : cfC I t w h n nh hl sd ifs xs) : f_X8_cells t (mm t d rt I) = some ((n : Int), mm t d rt I) := by
  obtain ⟨c1, c2, c3, _⟩ := c
  obtain ⟨s1, s2, s3, s4, s5, s6, s7, _⟩ := sq
  refine wm_eq ?_
  unfold f_X8_cells
  (repeat (first | (with_reducible apply wm_o; focus (simp (disch := omega) only [wr_id, Int.toNat_natCast, Int.reduceToNat, tn_lk, tn_kl, if_pos, if_neg, ↓reduceIte, and_self, and_true, true_and, FText c1, c2, c3]; with_reducible rfl)) | (with_reducible apply wm_q) | (with_reducible apply wm_c; focus (first | assumption | decide +kernel)) | (with_reducible apply wm_d; focus (simp (disch := omega) only [wr_id, Int.toNat_natCast, Int.reduceToNat, tn_lk, tn_kl, if_pos, if_neg, ↓reduceIte, and_self, and_true, true_and, FText c1, c2, c3]; with_reducible rfl)) | (with_reducible apply wm_t; focus (first | omega | (simp (disch := omega) only [wr_id, FText c1, c2, c3]; omega) | (simp (disch := omega) only [wr_id, FText c1, c2, c3]; done))) | (with_reducible apply wm_f; focus (first | omega | (simp (disch := omega) only [wr_id, FText c1, c2, c3]; omega) | (simp (disch := omega) only [wr_id, FText c1, c2, c3]; done)))))
  exact wm_r ⟨nd_mul s5, rfl⟩
theorem q_hasCell (sq : sqOK w h n nh hl) (c : cfC I t w h n nh hl sd ifs xs) {x : Int} (hx : in32 x) : f_X8_hasCell t x (mm t d rt I) = some (if 0 ≤ x ∧ x < n then 1 else 0, mm t d rt I) := by
  obtain ⟨c1, c2, c3, _⟩ := c
  obtain ⟨s1, s2, s3, s4, s5, s6, s7, _⟩ := sq
  have e := nd_mul s5
  unfold in32 at hx
  refine wm_eq ?_
  unfold f_X8_hasCell
  by_cases z : 0 ≤ x
  · by_cases z2 : x < n
    · rw [if_pos ⟨z, z2⟩]
      (repeat (first | (with_reducible apply wm_o; focus (simp (disch := omega) only [wr_id, Int.toNat_natCast, Int.reduceToNat, tn_lk, tn_kl, if_pos, if_neg, ↓reduceIte, and_self, and_true, true_and, FText c1, c2, c3, e]; with_reducible rfl)) | (with_reducible apply wm_q) | (with_reducible apply wm_c; focus (first | assumption | decide +kernel)) | (with_reducible apply wm_d; focus (simp (disch := omega) only [wr_id, Int.toNat_natCast, Int.reduceToNat, tn_lk, tn_kl, if_pos, if_neg, ↓reduceIte, and_self, and_true, true_and, FText c1, c2, c3, e]; with_reducible rfl)) | (with_reducible apply wm_t; focus (first | omega | (simp (disch := omega) only [wr_id, FText c1, c2, c3, e]; omega) | (simp (disch := omega) only [wr_id, FText c1, c2, c3, e]; done))) | (with_reducible apply wm_f; focus (first | omega | (simp (disch := omega) only [wr_id, FText c1, c2, c3, e]; omega) | (simp (disch := omega) only [wr_id, FText c1, c2, c3, e]; done)))))
      exact wm_z1 ⟨rfl, rfl⟩
    · rw [if_neg (by omega)]
      (repeat (first | (with_reducible apply wm_o; focus (simp (disch := omega) only [wr_id, Int.toNat_natCast, Int.reduceToNat, tn_lk, tn_kl, if_pos, if_neg, ↓reduceIte, and_self, and_true, true_and, FText c1, c2, c3, e]; with_reducible rfl)) | (with_reducible apply wm_q) | (with_reducible apply wm_c; focus (first | assumption | decide +kernel)) | (with_reducible apply wm_d; focus (simp (disch := omega) only [wr_id, Int.toNat_natCast, Int.reduceToNat, tn_lk, tn_kl, if_pos, if_neg, ↓reduceIte, and_self, and_true, true_and, FText c1, c2, c3, e]; with_reducible rfl)) | (with_reducible apply wm_t; focus (first | omega | (simp (disch := omega) only [wr_id, FText c1, c2, c3, e]; omega) | (simp (disch := omega) only [wr_id, FText c1, c2, c3, e]; done))) | (with_reducible apply wm_f; focus (first | omega | (simp (disch := omega) only [wr_id, FText c1, c2, c3, e]; omega) | (simp (disch := omega) only [wr_id, FText c1, c2, c3, e]; done)))))
      exact wm_z0 ⟨rfl, rfl⟩
  · rw [if_neg (by omega)]
    (repeat (first | (with_reducible apply wm_o; focus (simp (disch := omega) only [wr_id, Int.toNat_natCast, Int.reduceToNat, tn_lk, tn_kl, if_pos, if_neg, ↓reduceIte, and_self, and_true, true_and, FText c1, c2, c3, e]; with_reducible rfl)) | (with_reducible apply wm_q) | (with_reducible apply wm_c; focus (first | assumption | decide +kernel)) | (with_reducible apply wm_d; focus (simp (disch := omega) only [wr_id, Int.toNat_natCast, Int.reduceToNat, tn_lk, tn_kl, if_pos, if_neg, ↓reduceIte, and_self, and_true, true_and, FText c1, c2, c3, e]; with_reducible rfl)) | (with_reducible apply wm_t; focus (first | omega | (simp (disch := omega) only [wr_id, FText c1, c2, c3, e]; omega) | (simp (disch := omega) only [wr_id, FText c1, c2, c3, e]; done))) | (with_reducible apply wm_f; focus (first | omega | (simp (disch := omega) only [wr_id, FText c1, c2, c3, e]; omega) | (simp (disch := omega) only [wr_id, FText c1, c2, c3, e]; done)))))
    exact wm_z0 ⟨rfl, rfl⟩
theorem opB_t {x : Int} (h : opB n hl x = true) : 0 ≤ x ∧ x < n ∧ hl x.toNat = false := by
  unfold opB at h
  simp only [Bool.and_eq_true, decide_eq_true_eq, Bool.not_eq_true'] at h
  exact ⟨h.1.1, h.1.2, h.2⟩
theorem opB_i {x : Int} (h : 0 ≤ x ∧ x < n ∧ hl x.toNat = false) : opB n hl x = true := by
  unfold opB
  simp only [Bool.and_eq_true, decide_eq_true_eq, Bool.not_eq_true']
  exact ⟨⟨h.1, h.2.1⟩, h.2.2⟩
theorem q_isOpen (sq : sqOK w h n nh hl) (c : cfC I t w h n nh hl sd ifs xs) {x : Int} (hx : in32 x) : f_X8_isOpen t x (mm t d rt I) = some (if opB n hl x then 1 else 0, mm t d rt I) := by
  have hc := q_hasCell (d := d) (rt := rt) sq c hx
  obtain ⟨c1, c2, c3, c4, c5, c6, _⟩ := c
  obtain ⟨s1, s2, s3, s4, s5, s6, s7, _⟩ := sq
  have kt := (tx_k c1).1
  unfold in32 at hx
  refine wm_eq ?_
  unfold f_X8_isOpen
  by_cases z : 0 ≤ x ∧ x < n
  · obtain ⟨y, ey⟩ : ∃ y : Nat, x = (y : Int) := ⟨x.toNat, by omega⟩
    subst ey
    rw [if_pos z] at hc
    have h6 := c6 y (by omega)
    by_cases z2 : hl y = true
    · rw [if_pos z2] at h6
      rw [if_neg (fun q => by have := (opB_t q).2.2; rw [Int.toNat_natCast, z2] at this; cases this)]
      (repeat (first | (with_reducible apply wm_o; focus (simp (disch := omega) only [wr_id, Int.toNat_natCast, Int.reduceToNat, tn_lk, tn_kl, if_pos, if_neg, ↓reduceIte, and_self, and_true, true_and, hc, FText c1, h6]; with_reducible rfl)) | (with_reducible apply wm_q) | (with_reducible apply wm_c; focus (first | assumption | decide +kernel)) | (with_reducible apply wm_d; focus (simp (disch := omega) only [wr_id, Int.toNat_natCast, Int.reduceToNat, tn_lk, tn_kl, if_pos, if_neg, ↓reduceIte, and_self, and_true, true_and, hc, FText c1, h6]; with_reducible rfl)) | (with_reducible apply wm_t; focus (first | omega | (simp (disch := omega) only [wr_id, hc, FText c1, h6]; omega) | (simp (disch := omega) only [wr_id, hc, FText c1, h6]; done))) | (with_reducible apply wm_f; focus (first | omega | (simp (disch := omega) only [wr_id, hc, FText c1, h6]; omega) | (simp (disch := omega) only [wr_id, hc, FText c1, h6]; done)))))
      exact wm_z0 ⟨rfl, rfl⟩
    · rw [if_neg z2] at h6
      rw [if_pos (opB_i ⟨z.1, z.2, by rw [Int.toNat_natCast]; simpa using z2⟩)]
      (repeat (first | (with_reducible apply wm_o; focus (simp (disch := omega) only [wr_id, Int.toNat_natCast, Int.reduceToNat, tn_lk, tn_kl, if_pos, if_neg, ↓reduceIte, and_self, and_true, true_and, hc, FText c1, h6]; with_reducible rfl)) | (with_reducible apply wm_q) | (with_reducible apply wm_c; focus (first | assumption | decide +kernel)) | (with_reducible apply wm_d; focus (simp (disch := omega) only [wr_id, Int.toNat_natCast, Int.reduceToNat, tn_lk, tn_kl, if_pos, if_neg, ↓reduceIte, and_self, and_true, true_and, hc, FText c1, h6]; with_reducible rfl)) | (with_reducible apply wm_t; focus (first | omega | (simp (disch := omega) only [wr_id, hc, FText c1, h6]; omega) | (simp (disch := omega) only [wr_id, hc, FText c1, h6]; done))) | (with_reducible apply wm_f; focus (first | omega | (simp (disch := omega) only [wr_id, hc, FText c1, h6]; omega) | (simp (disch := omega) only [wr_id, hc, FText c1, h6]; done)))))
      exact wm_z1 ⟨rfl, rfl⟩
  · rw [if_neg z] at hc
    rw [if_neg (fun q => z ⟨(opB_t q).1, (opB_t q).2.1⟩)]
    (repeat (first | (with_reducible apply wm_o; focus (simp (disch := omega) only [wr_id, Int.toNat_natCast, Int.reduceToNat, tn_lk, tn_kl, if_pos, if_neg, ↓reduceIte, and_self, and_true, true_and, hc]; with_reducible rfl)) | (with_reducible apply wm_q) | (with_reducible apply wm_c; focus (first | assumption | decide +kernel)) | (with_reducible apply wm_d; focus (simp (disch := omega) only [wr_id, Int.toNat_natCast, Int.reduceToNat, tn_lk, tn_kl, if_pos, if_neg, ↓reduceIte, and_self, and_true, true_and, hc]; with_reducible rfl)) | (with_reducible apply wm_t; focus (first | omega | (simp (disch := omega) only [wr_id, hc]; omega) | (simp (disch := omega) only [wr_id, hc]; done))) | (with_reducible apply wm_f; focus (first | omega | (simp (disch := omega) only [wr_id, hc]; omega) | (simp (disch := omega) only [wr_id, hc]; done)))))
    exact wm_z0 ⟨rfl, rfl⟩
theorem q_hasRight (sq : sqOK w h n nh hl) (c : cfC I t w h n nh hl sd ifs xs) {x : Nat} (hx : x < n) : f_X8_hasRight t (x : Int) (mm t d rt I) = some (if x % w + 1 < w then 1 else 0, mm t d rt I) := by
  obtain ⟨c1, c2, c3, _⟩ := c
  obtain ⟨s1, s2, s3, s4, s5, s6, s7, _⟩ := sq
  have hm := Nat.mod_lt x (show w > 0 by omega)
  have hr : ∀ M : jMem, f_X4_columnOf (x : Int) (w : Int) M = some (((x % w : Nat) : Int), M) := fun M => col_n (by omega) (by omega) (by omega) M
  refine wm_eq ?_
  unfold f_X8_hasRight
  by_cases z : x % w + 1 < w
  · rw [if_pos z]
    (repeat (first | (with_reducible apply wm_o; focus (simp (disch := omega) only [wr_id, Int.toNat_natCast, Int.reduceToNat, tn_lk, tn_kl, if_pos, if_neg, ↓reduceIte, and_self, and_true, true_and, FText c1, c2, hr]; with_reducible rfl)) | (with_reducible apply wm_q) | (with_reducible apply wm_c; focus (first | assumption | decide +kernel)) | (with_reducible apply wm_d; focus (simp (disch := omega) only [wr_id, Int.toNat_natCast, Int.reduceToNat, tn_lk, tn_kl, if_pos, if_neg, ↓reduceIte, and_self, and_true, true_and, FText c1, c2, hr]; with_reducible rfl)) | (with_reducible apply wm_t; focus (first | omega | (simp (disch := omega) only [wr_id, FText c1, c2, hr]; omega) | (simp (disch := omega) only [wr_id, FText c1, c2, hr]; done))) | (with_reducible apply wm_f; focus (first | omega | (simp (disch := omega) only [wr_id, FText c1, c2, hr]; omega) | (simp (disch := omega) only [wr_id, FText c1, c2, hr]; done)))))
    exact wm_z1 ⟨rfl, rfl⟩
  · rw [if_neg z]
    (repeat (first | (with_reducible apply wm_o; focus (simp (disch := omega) only [wr_id, Int.toNat_natCast, Int.reduceToNat, tn_lk, tn_kl, if_pos, if_neg, ↓reduceIte, and_self, and_true, true_and, FText c1, c2, hr]; with_reducible rfl)) | (with_reducible apply wm_q) | (with_reducible apply wm_c; focus (first | assumption | decide +kernel)) | (with_reducible apply wm_d; focus (simp (disch := omega) only [wr_id, Int.toNat_natCast, Int.reduceToNat, tn_lk, tn_kl, if_pos, if_neg, ↓reduceIte, and_self, and_true, true_and, FText c1, c2, hr]; with_reducible rfl)) | (with_reducible apply wm_t; focus (first | omega | (simp (disch := omega) only [wr_id, FText c1, c2, hr]; omega) | (simp (disch := omega) only [wr_id, FText c1, c2, hr]; done))) | (with_reducible apply wm_f; focus (first | omega | (simp (disch := omega) only [wr_id, FText c1, c2, hr]; omega) | (simp (disch := omega) only [wr_id, FText c1, c2, hr]; done)))))
    exact wm_z0 ⟨rfl, rfl⟩
theorem q_hasBelow (sq : sqOK w h n nh hl) (c : cfC I t w h n nh hl sd ifs xs) {x : Nat} (hx : x < n) : f_X8_hasBelow t (x : Int) (mm t d rt I) = some (if x + w < n then 1 else 0, mm t d rt I) := by
  obtain ⟨c1, c2, c3, _⟩ := c
  obtain ⟨s1, s2, s3, s4, s5, s6, s7, _⟩ := sq
  have hm : x / w ≤ x := Nat.div_le_self x w
  have hr : ∀ M : jMem, f_X4_rowOf (x : Int) (w : Int) M = some (((x / w : Nat) : Int), M) := fun M => row_n (by omega) (by omega) (by omega) M
  have hb := below_iff (x := x) s1 s5
  refine wm_eq ?_
  unfold f_X8_hasBelow
  by_cases z : x + w < n
  · have z2 := hb.mpr z
    rw [if_pos z]
    clear hb
    generalize x / w = q at hm hr z2
    (repeat (first | (with_reducible apply wm_o; focus (simp (disch := omega) only [wr_id, Int.toNat_natCast, Int.reduceToNat, tn_lk, tn_kl, if_pos, if_neg, ↓reduceIte, and_self, and_true, true_and, FText c1, c2, c3, hr]; with_reducible rfl)) | (with_reducible apply wm_q) | (with_reducible apply wm_c; focus (first | assumption | decide +kernel)) | (with_reducible apply wm_d; focus (simp (disch := omega) only [wr_id, Int.toNat_natCast, Int.reduceToNat, tn_lk, tn_kl, if_pos, if_neg, ↓reduceIte, and_self, and_true, true_and, FText c1, c2, c3, hr]; with_reducible rfl)) | (with_reducible apply wm_t; focus (first | omega | (simp (disch := omega) only [wr_id, FText c1, c2, c3, hr]; omega) | (simp (disch := omega) only [wr_id, FText c1, c2, c3, hr]; done))) | (with_reducible apply wm_f; focus (first | omega | (simp (disch := omega) only [wr_id, FText c1, c2, c3, hr]; omega) | (simp (disch := omega) only [wr_id, FText c1, c2, c3, hr]; done)))))
    exact wm_z1 ⟨rfl, rfl⟩
  · have z2 : ¬ x / w + 1 < h := fun q => z (hb.mp q)
    rw [if_neg z]
    (repeat (first | (with_reducible apply wm_o; focus (simp (disch := omega) only [wr_id, Int.toNat_natCast, Int.reduceToNat, tn_lk, tn_kl, if_pos, if_neg, ↓reduceIte, and_self, and_true, true_and, FText c1, c2, c3, hr]; with_reducible rfl)) | (with_reducible apply wm_q) | (with_reducible apply wm_c; focus (first | assumption | decide +kernel)) | (with_reducible apply wm_d; focus (simp (disch := omega) only [wr_id, Int.toNat_natCast, Int.reduceToNat, tn_lk, tn_kl, if_pos, if_neg, ↓reduceIte, and_self, and_true, true_and, FText c1, c2, c3, hr]; with_reducible rfl)) | (with_reducible apply wm_t; focus (first | omega | (simp (disch := omega) only [wr_id, FText c1, c2, c3, hr]; omega) | (simp (disch := omega) only [wr_id, FText c1, c2, c3, hr]; done))) | (with_reducible apply wm_f; focus (first | omega | (simp (disch := omega) only [wr_id, FText c1, c2, c3, hr]; omega) | (simp (disch := omega) only [wr_id, FText c1, c2, c3, hr]; done)))))
    exact wm_z0 ⟨rfl, rfl⟩
theorem q_isBlack (sq : sqOK w h n nh hl) (c : cfC I t w h n nh hl sd ifs xs) {x : Nat} (hx : x < n) : f_X8_isBlack t (x : Int) (mm t d rt I) = some (if (x / w + x % w) % 2 = 0 then 1 else 0, mm t d rt I) := by
  obtain ⟨c1, c2, c3, _⟩ := c
  obtain ⟨s1, s2, s3, s4, s5, s6, s7, _⟩ := sq
  have hm : x / w ≤ x := Nat.div_le_self x w
  have hm2 := Nat.mod_lt x (show w > 0 by omega)
  have hd1 : ∀ M : jMem, f_X4_rowOf (x : Int) (w : Int) M = some (((x / w : Nat) : Int), M) := fun M => row_n (by omega) (by omega) (by omega) M
  have hr : ∀ M : jMem, f_X4_columnOf (x : Int) (w : Int) M = some (((x % w : Nat) : Int), M) := fun M => col_n (by omega) (by omega) (by omega) M
  have h2 : jm_rm (((x / w : Nat) : Int) + ((x % w : Nat) : Int)) 2 = some (((x / w + x % w) % 2 : Nat) : Int) := by
    rw [show ((x / w : Nat) : Int) + ((x % w : Nat) : Int) = ((x / w + x % w : Nat) : Int) by omega]
    exact rm_n (b := 2) (by omega) (by omega) (by omega)
  refine wm_eq ?_
  unfold f_X8_isBlack
  by_cases z : (x / w + x % w) % 2 = 0
  · rw [if_pos z]
    (repeat (first | (with_reducible apply wm_o; focus (simp (disch := omega) only [wr_id, Int.toNat_natCast, Int.reduceToNat, tn_lk, tn_kl, if_pos, if_neg, ↓reduceIte, and_self, and_true, true_and, FText c1, c2, c3, hr, hd1, h2]; with_reducible rfl)) | (with_reducible apply wm_q) | (with_reducible apply wm_c; focus (first | assumption | decide +kernel)) | (with_reducible apply wm_d; focus (simp (disch := omega) only [wr_id, Int.toNat_natCast, Int.reduceToNat, tn_lk, tn_kl, if_pos, if_neg, ↓reduceIte, and_self, and_true, true_and, FText c1, c2, c3, hr, hd1, h2]; with_reducible rfl)) | (with_reducible apply wm_t; focus (first | omega | (simp (disch := omega) only [wr_id, FText c1, c2, c3, hr, hd1, h2]; omega) | (simp (disch := omega) only [wr_id, FText c1, c2, c3, hr, hd1, h2]; done))) | (with_reducible apply wm_f; focus (first | omega | (simp (disch := omega) only [wr_id, FText c1, c2, c3, hr, hd1, h2]; omega) | (simp (disch := omega) only [wr_id, FText c1, c2, c3, hr, hd1, h2]; done)))))
    exact wm_z1 ⟨rfl, rfl⟩
  · rw [if_neg z]
    (repeat (first | (with_reducible apply wm_o; focus (simp (disch := omega) only [wr_id, Int.toNat_natCast, Int.reduceToNat, tn_lk, tn_kl, if_pos, if_neg, ↓reduceIte, and_self, and_true, true_and, FText c1, c2, c3, hr, hd1, h2]; with_reducible rfl)) | (with_reducible apply wm_q) | (with_reducible apply wm_c; focus (first | assumption | decide +kernel)) | (with_reducible apply wm_d; focus (simp (disch := omega) only [wr_id, Int.toNat_natCast, Int.reduceToNat, tn_lk, tn_kl, if_pos, if_neg, ↓reduceIte, and_self, and_true, true_and, FText c1, c2, c3, hr, hd1, h2]; with_reducible rfl)) | (with_reducible apply wm_t; focus (first | omega | (simp (disch := omega) only [wr_id, FText c1, c2, c3, hr, hd1, h2]; omega) | (simp (disch := omega) only [wr_id, FText c1, c2, c3, hr, hd1, h2]; done))) | (with_reducible apply wm_f; focus (first | omega | (simp (disch := omega) only [wr_id, FText c1, c2, c3, hr, hd1, h2]; omega) | (simp (disch := omega) only [wr_id, FText c1, c2, c3, hr, hd1, h2]; done)))))
    exact wm_z0 ⟨rfl, rfl⟩
theorem on_w (hst : stR I 34 w ρ) {x : Nat} (hx : x < 36) : (I 39 x = -1 ∧ rCpl w ρ (x : Int) = none) ∨ ∃ k : Nat, k < 18 ∧ I 39 x = (k : Int) ∧ rCpl w ρ (x : Int) = some k ∧ rAt w ρ (x : Int) k = true := by
  have h4 : I 39 x = onI w ρ x := hst.2.2.2.1 x hx
  rw [h4]
  exact onI_cases w ρ x
theorem q_isFree (sq : sqOK w h n nh hl) (c : cfC I t w h n nh hl sd ifs xs) (hst : stR I 34 w ρ) {x : Int} (hx : in32 x) : f_X11_isFree 0 x (mm t d rt I) = some (if frB w n hl ρ x then 1 else 0, mm t d rt I) := by
  have hc := q_isOpen (d := d) (rt := rt) sq c hx
  obtain ⟨c1, _⟩ := c
  obtain ⟨s1, s2, s3, s4, s5, s6, s7, _⟩ := sq
  have kt := (tx_k c1).1
  unfold in32 at hx
  refine wm_eq ?_
  unfold f_X11_isFree frB
  by_cases z : opB n hl x = true
  · obtain ⟨z1, z2, z3⟩ := opB_t z
    obtain ⟨y, ey⟩ : ∃ y : Nat, x = (y : Int) := ⟨x.toNat, by omega⟩
    subst ey
    rw [if_pos z] at hc
    rw [z, Bool.true_and]
    rcases on_w hst (show y < 36 by omega) with ⟨o1, o2⟩ | ⟨k, o0, o1, o2, _⟩
    · rw [o2]
      (repeat (first | (with_reducible apply wm_o; focus (simp (disch := omega) only [wr_id, Int.toNat_natCast, Int.reduceToNat, tn_lk, tn_kl, if_pos, if_neg, ↓reduceIte, and_self, and_true, true_and, FX, hc, FState now_in, o1]; with_reducible rfl)) | (with_reducible apply wm_q) | (with_reducible apply wm_c; focus (first | assumption | decide +kernel)) | (with_reducible apply wm_d; focus (simp (disch := omega) only [wr_id, Int.toNat_natCast, Int.reduceToNat, tn_lk, tn_kl, if_pos, if_neg, ↓reduceIte, and_self, and_true, true_and, FX, hc, FState now_in, o1]; with_reducible rfl)) | (with_reducible apply wm_t; focus (first | omega | (simp (disch := omega) only [wr_id, FX, hc, FState now_in, o1]; omega) | (simp (disch := omega) only [wr_id, FX, hc, FState now_in, o1]; done))) | (with_reducible apply wm_f; focus (first | omega | (simp (disch := omega) only [wr_id, FX, hc, FState now_in, o1]; omega) | (simp (disch := omega) only [wr_id, FX, hc, FState now_in, o1]; done)))))
      exact wm_z1 ⟨rfl, rfl⟩
    · rw [o2]
      (repeat (first | (with_reducible apply wm_o; focus (simp (disch := omega) only [wr_id, Int.toNat_natCast, Int.reduceToNat, tn_lk, tn_kl, if_pos, if_neg, ↓reduceIte, and_self, and_true, true_and, FX, hc, FState now_in, o1]; with_reducible rfl)) | (with_reducible apply wm_q) | (with_reducible apply wm_c; focus (first | assumption | decide +kernel)) | (with_reducible apply wm_d; focus (simp (disch := omega) only [wr_id, Int.toNat_natCast, Int.reduceToNat, tn_lk, tn_kl, if_pos, if_neg, ↓reduceIte, and_self, and_true, true_and, FX, hc, FState now_in, o1]; with_reducible rfl)) | (with_reducible apply wm_t; focus (first | omega | (simp (disch := omega) only [wr_id, FX, hc, FState now_in, o1]; omega) | (simp (disch := omega) only [wr_id, FX, hc, FState now_in, o1]; done))) | (with_reducible apply wm_f; focus (first | omega | (simp (disch := omega) only [wr_id, FX, hc, FState now_in, o1]; omega) | (simp (disch := omega) only [wr_id, FX, hc, FState now_in, o1]; done)))))
      exact wm_z0 ⟨rfl, rfl⟩
  · rw [if_neg z] at hc
    rw [show opB n hl x = false by simpa using z, Bool.false_and]
    (repeat (first | (with_reducible apply wm_o; focus (simp (disch := omega) only [wr_id, Int.toNat_natCast, Int.reduceToNat, tn_lk, tn_kl, if_pos, if_neg, ↓reduceIte, and_self, and_true, true_and, FX, hc]; with_reducible rfl)) | (with_reducible apply wm_q) | (with_reducible apply wm_c; focus (first | assumption | decide +kernel)) | (with_reducible apply wm_d; focus (simp (disch := omega) only [wr_id, Int.toNat_natCast, Int.reduceToNat, tn_lk, tn_kl, if_pos, if_neg, ↓reduceIte, and_self, and_true, true_and, FX, hc]; with_reducible rfl)) | (with_reducible apply wm_t; focus (first | omega | (simp (disch := omega) only [wr_id, FX, hc]; omega) | (simp (disch := omega) only [wr_id, FX, hc]; done))) | (with_reducible apply wm_f; focus (first | omega | (simp (disch := omega) only [wr_id, FX, hc]; omega) | (simp (disch := omega) only [wr_id, FX, hc]; done)))))
    exact wm_z0 ⟨rfl, rfl⟩
theorem q_freeCells (sq : sqOK w h n nh hl) (c : cfC I t w h n nh hl sd ifs xs) (hst : stR I 34 w ρ) : f_X11_freeCells 0 (mm t d rt I) = some ((n : Int) - (nh : Int) - 2 * (rMany ρ : Int), mm t d rt I) := by
  have hc := q_cells (d := d) (rt := rt) sq c
  obtain ⟨c1, c2, c3, c4, c5, _⟩ := c
  have kt := (tx_k c1).1
  have h6 : I 34 6 = (rMany ρ : Int) := hst.2.2.2.2.2.1
  refine wm_eq ?_
  unfold f_X11_freeCells
  (repeat (first | (with_reducible apply wm_o; focus (simp (disch := omega) only [wr_id, Int.toNat_natCast, Int.reduceToNat, tn_lk, tn_kl, if_pos, if_neg, ↓reduceIte, and_self, and_true, true_and, FX, hc, FText c1, c5, FState now_in, h6]; with_reducible rfl)) | (with_reducible apply wm_q) | (with_reducible apply wm_c; focus (first | assumption | decide +kernel)) | (with_reducible apply wm_d; focus (simp (disch := omega) only [wr_id, Int.toNat_natCast, Int.reduceToNat, tn_lk, tn_kl, if_pos, if_neg, ↓reduceIte, and_self, and_true, true_and, FX, hc, FText c1, c5, FState now_in, h6]; with_reducible rfl)) | (with_reducible apply wm_t; focus (first | omega | (simp (disch := omega) only [wr_id, FX, hc, FText c1, c5, FState now_in, h6]; omega) | (simp (disch := omega) only [wr_id, FX, hc, FText c1, c5, FState now_in, h6]; done))) | (with_reducible apply wm_f; focus (first | omega | (simp (disch := omega) only [wr_id, FX, hc, FText c1, c5, FState now_in, h6]; omega) | (simp (disch := omega) only [wr_id, FX, hc, FText c1, c5, FState now_in, h6]; done)))))
  exact wm_r ⟨rfl, rfl⟩
end CT
