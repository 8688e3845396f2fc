/-! ===== the model's row: copies, laying, what is remembered ===== -/
theorem fl_all {I : Nat → Nat → Int} {a m : Nat} {g : Nat → Int} (h : ∀ y, m ≤ y → I a y = g y) : fl I a m g a = g := by
  funext y
  by_cases q : y < m
  · exact fl_in q
  · rw [fl_out (by omega)]; exact h y (by omega)
/-- what the model can undo -/
def mH (I : Nat → Nat → Int) (u : Nat) (H : Nat → Nat → Int) : Prop := I 369 53 = (u : Int) ∧ u ≤ 40 ∧ ∀ i, i < u → (∀ k, k < 75 → I 405 (75 * (u - 1 - i) + k) = H i k) ∧ ∀ k, 75 ≤ k → H i k = 0
theorem mH_frm {I J : Nat → Nat → Int} {u : Nat} {H : Nat → Nat → Int} (h1 : J 369 53 = I 369 53) (h2 : J 405 = I 405) (h : mH I u H) : mH J u H := by
  unfold mH at h ⊢
  rw [h1, h2]
  exact h
section MRW
variable {t d rt : Nat} {I : Nat → Nat → Int} {lv w h n nh : Nat} {hl : Nat → Bool} {sd : Int} {ifs : Nat → List LwI} {xs : Nat → List CI} {ρ : Nat → Int} {u : Nat} {H : Nat → Nat → Int}
theorem m_copies (c : mCfg I lv w h n) (h6 : I 386 lv = sd) (z0 : ∀ j, 75 ≤ j → I 400 j = 0) (z1 : ∀ j, 75 ≤ j → I 401 j = 0) : wm t d rt (f_X12_copies 369 (mm t d rt I)) (fun _ J => frM (fun a => a = 401) (fun j => j = 49) I J ∧ J 401 = I 400 ∧ J 369 49 = sd) := by
  obtain ⟨c1, c2, _⟩ := c
  unfold f_X12_copies
  refine wm_lp2 75 (fun i y J => y = (i : Int) ∧ J = fl I 401 i (I 400)) ?_ (jfuel_n (by decide)) ⟨rfl, by rw [fl_0]⟩
  rintro i hi y J ⟨rfl, rfl⟩ rec hrec
  refine wm_if (fun c => ?_) (fun c => ?_)
  · simp (disch := omega) only [wr_id] at c
    have e : fl I 401 i (I 400) 400 i = I 400 i := fl_ne (by decide)
    (repeat (first | (with_reducible apply wm_o; focus (simp (disch := omega) only [wr_id, Int.toNat_natCast, Int.reduceToNat, tn_lk, tn_kl, if_pos, if_neg, ↓reduceIte, and_self, and_true, true_and, FM, e]; with_reducible rfl)) | (with_reducible apply wm_q) | (with_reducible apply wm_c; focus (first | assumption | decide +kernel)) | (with_reducible apply wm_d; focus (simp (disch := omega) only [wr_id, Int.toNat_natCast, Int.reduceToNat, tn_lk, tn_kl, if_pos, if_neg, ↓reduceIte, and_self, and_true, true_and, FM, e]; with_reducible rfl)) | (with_reducible apply wm_t; focus (first | omega | (simp (disch := omega) only [wr_id, FM, e]; omega) | (simp (disch := omega) only [wr_id, FM, e]; done))) | (with_reducible apply wm_f; focus (first | omega | (simp (disch := omega) only [wr_id, FM, e]; omega) | (simp (disch := omega) only [wr_id, FM, e]; done)))))
    exact hrec (i + 1) _ _ (by omega) (by omega) ⟨by omega, fl_s I 401 i (I 400)⟩
  · simp (disch := omega) only [wr_id] at c
    obtain rfl : i = 75 := by omega
    have e1 : fl I 401 75 (I 400) 369 18 = (lv : Int) := by rw [fl_ne (by decide)]; exact c1
    have e2 : fl I 401 75 (I 400) 386 lv = sd := by rw [fl_ne (by decide)]; exact h6
    (repeat (first | (with_reducible apply wm_o; focus (simp (disch := omega) only [wr_id, Int.toNat_natCast, Int.reduceToNat, tn_lk, tn_kl, if_pos, if_neg, ↓reduceIte, and_self, and_true, true_and, FM, e1, e2]; with_reducible rfl)) | (with_reducible apply wm_q) | (with_reducible apply wm_c; focus (first | assumption | decide +kernel)) | (with_reducible apply wm_d; focus (simp (disch := omega) only [wr_id, Int.toNat_natCast, Int.reduceToNat, tn_lk, tn_kl, if_pos, if_neg, ↓reduceIte, and_self, and_true, true_and, FM, e1, e2]; with_reducible rfl)) | (with_reducible apply wm_t; focus (first | omega | (simp (disch := omega) only [wr_id, FM, e1, e2]; omega) | (simp (disch := omega) only [wr_id, FM, e1, e2]; done))) | (with_reducible apply wm_f; focus (first | omega | (simp (disch := omega) only [wr_id, FM, e1, e2]; omega) | (simp (disch := omega) only [wr_id, FM, e1, e2]; done)))))
    refine wm_r ⟨⟨fun a ha hS => ?_, fun j hj => ?_⟩, ?_, ?_⟩
    · rw [up_ne ha, flne hS]
    · rw [up_g, if_neg hj, fl_ne (by decide)]
    · rw [up_ne (by decide)]
      exact fl_all (fun y hy => by rw [z0 y hy, z1 y hy])
    · rw [up_g, if_pos rfl]
theorem m_isFree (c : mCfg I lv w h n) (hh : ∀ c, c < 36 → I 402 c = if hl c then 1 else 0) (hv : vRow (I 401)) {x : Int} (hx : in32 x) : f_X12_isFree 369 x (mm t d rt I) = some (if frB w n hl (I 401) x then 1 else 0, mm t d rt I) := by
  have hn : n ≤ 36 := c.2.2.2.2.2.2.2.2.2.2
  have hca := s_coupleAt (t := t) (d := d) (rt := rt) c hv hx
  refine wm_eq ?_
  unfold f_X12_isFree frB
  by_cases z : 0 ≤ x ∧ x < n
  · have hc := s_isCell_t (t := t) (d := d) (rt := rt) c z.1 z.2
    obtain ⟨y, ey⟩ : ∃ y : Nat, x = (y : Int) := ⟨x.toNat, by omega⟩
    subst ey
    have h6 := hh y (by omega)
    by_cases z2 : hl y = true
    · rw [if_pos z2] at h6
      rw [show opB n hl (y : Int) = false by unfold opB; simp [z2], Bool.false_and]
      (repeat (first | (with_reducible apply wm_o; focus (simp (disch := omega) only [wr_id, Int.toNat_natCast, Int.reduceToNat, tn_lk, tn_kl, if_pos, if_neg, ↓reduceIte, and_self, and_true, true_and, hc, FM, h6]; with_reducible rfl)) | (with_reducible apply wm_q) | (with_reducible apply wm_c; focus (first | assumption | decide +kernel)) | (with_reducible apply wm_d; focus (simp (disch := omega) only [wr_id, Int.toNat_natCast, Int.reduceToNat, tn_lk, tn_kl, if_pos, if_neg, ↓reduceIte, and_self, and_true, true_and, hc, FM, h6]; with_reducible rfl)) | (with_reducible apply wm_t; focus (first | omega | (simp (disch := omega) only [wr_id, hc, FM, h6]; omega) | (simp (disch := omega) only [wr_id, hc, FM, h6]; done))) | (with_reducible apply wm_f; focus (first | omega | (simp (disch := omega) only [wr_id, hc, FM, h6]; omega) | (simp (disch := omega) only [wr_id, hc, FM, h6]; done)))))
      exact wm_z0 ⟨rfl, rfl⟩
    · rw [if_neg z2] at h6
      rw [show opB n hl (y : Int) = true from opB_i ⟨z.1, z.2, by rw [Int.toNat_natCast]; simpa using z2⟩, Bool.true_and]
      cases ho : rCpl w (I 401) (y : Int) with
      | none =>
        rw [ho] at hca
        have hca' : f_X12_coupleAt 369 (y : Int) (mm t d rt I) = some (-2, mm t d rt I) := hca
        (repeat (first | (with_reducible apply wm_o; focus (simp (disch := omega) only [wr_id, Int.toNat_natCast, Int.reduceToNat, tn_lk, tn_kl, if_pos, if_neg, ↓reduceIte, and_self, and_true, true_and, hc, FM, h6, hca']; with_reducible rfl)) | (with_reducible apply wm_q) | (with_reducible apply wm_c; focus (first | assumption | decide +kernel)) | (with_reducible apply wm_d; focus (simp (disch := omega) only [wr_id, Int.toNat_natCast, Int.reduceToNat, tn_lk, tn_kl, if_pos, if_neg, ↓reduceIte, and_self, and_true, true_and, hc, FM, h6, hca']; with_reducible rfl)) | (with_reducible apply wm_t; focus (first | omega | (simp (disch := omega) only [wr_id, hc, FM, h6, hca']; omega) | (simp (disch := omega) only [wr_id, hc, FM, h6, hca']; done))) | (with_reducible apply wm_f; focus (first | omega | (simp (disch := omega) only [wr_id, hc, FM, h6, hca']; omega) | (simp (disch := omega) only [wr_id, hc, FM, h6, hca']; done)))))
        exact wm_z1 ⟨rfl, rfl⟩
      | some k =>
        rw [ho] at hca
        have hca' : f_X12_coupleAt 369 (y : Int) (mm t d rt I) = some ((k : Int), mm t d rt I) := hca
        have hk := (rCpl_sat ho).1
        (repeat (first | (with_reducible apply wm_o; focus (simp (disch := omega) only [wr_id, Int.toNat_natCast, Int.reduceToNat, tn_lk, tn_kl, if_pos, if_neg, ↓reduceIte, and_self, and_true, true_and, hc, FM, h6, hca']; with_reducible rfl)) | (with_reducible apply wm_q) | (with_reducible apply wm_c; focus (first | assumption | decide +kernel)) | (with_reducible apply wm_d; focus (simp (disch := omega) only [wr_id, Int.toNat_natCast, Int.reduceToNat, tn_lk, tn_kl, if_pos, if_neg, ↓reduceIte, and_self, and_true, true_and, hc, FM, h6, hca']; with_reducible rfl)) | (with_reducible apply wm_t; focus (first | omega | (simp (disch := omega) only [wr_id, hc, FM, h6, hca']; omega) | (simp (disch := omega) only [wr_id, hc, FM, h6, hca']; done))) | (with_reducible apply wm_f; focus (first | omega | (simp (disch := omega) only [wr_id, hc, FM, h6, hca']; omega) | (simp (disch := omega) only [wr_id, hc, FM, h6, hca']; done)))))
        exact wm_z0 ⟨rfl, rfl⟩
  · have hc := s_isCell_f (t := t) (d := d) (rt := rt) c hx (by omega)
    rw [show opB n hl x = false by
      cases q : opB n hl x with
      | false => rfl
      | true => exact absurd ⟨(opB_t q).1, (opB_t q).2.1⟩ z, Bool.false_and]
    (repeat (first | (with_reducible apply wm_o; focus (simp (disch := omega) only [wr_id, Int.toNat_natCast, Int.reduceToNat, tn_lk, tn_kl, if_pos, if_neg, ↓reduceIte, and_self, and_true, true_and, hc]; with_reducible rfl)) | (with_reducible apply wm_q) | (with_reducible apply wm_c; focus (first | assumption | decide +kernel)) | (with_reducible apply wm_d; focus (simp (disch := omega) only [wr_id, Int.toNat_natCast, Int.reduceToNat, tn_lk, tn_kl, if_pos, if_neg, ↓reduceIte, and_self, and_true, true_and, hc]; with_reducible rfl)) | (with_reducible apply wm_t; focus (first | omega | (simp (disch := omega) only [wr_id, hc]; omega) | (simp (disch := omega) only [wr_id, hc]; done))) | (with_reducible apply wm_f; focus (first | omega | (simp (disch := omega) only [wr_id, hc]; omega) | (simp (disch := omega) only [wr_id, hc]; done)))))
    exact wm_z0 ⟨rfl, rfl⟩
theorem m_isGround (c : mCfg I lv w h n) (hh : ∀ c, c < 36 → I 402 c = if hl c then 1 else 0) {x : Int} (hx : in32 x) : f_X12_isGround 369 x (mm t d rt I) = some (if opB n hl x then 1 else 0, mm t d rt I) := by
  have hn : n ≤ 36 := c.2.2.2.2.2.2.2.2.2.2
  refine wm_eq ?_
  unfold f_X12_isGround
  by_cases z : 0 ≤ x ∧ x < n
  · have hc := s_isCell_t (t := t) (d := d) (rt := rt) c z.1 z.2
    obtain ⟨y, ey⟩ : ∃ y : Nat, x = (y : Int) := ⟨x.toNat, by omega⟩
    subst ey
    have h6 := hh y (by omega)
    by_cases z2 : hl y = true
    · rw [if_pos z2] at h6
      rw [show opB n hl (y : Int) = false by unfold opB; simp [z2]]
      (repeat (first | (with_reducible apply wm_o; focus (simp (disch := omega) only [wr_id, Int.toNat_natCast, Int.reduceToNat, tn_lk, tn_kl, if_pos, if_neg, ↓reduceIte, and_self, and_true, true_and, hc, FM, h6]; with_reducible rfl)) | (with_reducible apply wm_q) | (with_reducible apply wm_c; focus (first | assumption | decide +kernel)) | (with_reducible apply wm_d; focus (simp (disch := omega) only [wr_id, Int.toNat_natCast, Int.reduceToNat, tn_lk, tn_kl, if_pos, if_neg, ↓reduceIte, and_self, and_true, true_and, hc, FM, h6]; with_reducible rfl)) | (with_reducible apply wm_t; focus (first | omega | (simp (disch := omega) only [wr_id, hc, FM, h6]; omega) | (simp (disch := omega) only [wr_id, hc, FM, h6]; done))) | (with_reducible apply wm_f; focus (first | omega | (simp (disch := omega) only [wr_id, hc, FM, h6]; omega) | (simp (disch := omega) only [wr_id, hc, FM, h6]; done)))))
      exact wm_z0 ⟨rfl, rfl⟩
    · rw [if_neg z2] at h6
      rw [show opB n hl (y : Int) = true from opB_i ⟨z.1, z.2, by rw [Int.toNat_natCast]; simpa using z2⟩]
      (repeat (first | (with_reducible apply wm_o; focus (simp (disch := omega) only [wr_id, Int.toNat_natCast, Int.reduceToNat, tn_lk, tn_kl, if_pos, if_neg, ↓reduceIte, and_self, and_true, true_and, hc, FM, h6]; with_reducible rfl)) | (with_reducible apply wm_q) | (with_reducible apply wm_c; focus (first | assumption | decide +kernel)) | (with_reducible apply wm_d; focus (simp (disch := omega) only [wr_id, Int.toNat_natCast, Int.reduceToNat, tn_lk, tn_kl, if_pos, if_neg, ↓reduceIte, and_self, and_true, true_and, hc, FM, h6]; with_reducible rfl)) | (with_reducible apply wm_t; focus (first | omega | (simp (disch := omega) only [wr_id, hc, FM, h6]; omega) | (simp (disch := omega) only [wr_id, hc, FM, h6]; done))) | (with_reducible apply wm_f; focus (first | omega | (simp (disch := omega) only [wr_id, hc, FM, h6]; omega) | (simp (disch := omega) only [wr_id, hc, FM, h6]; done)))))
      exact wm_z1 ⟨rfl, rfl⟩
  · have hc := s_isCell_f (t := t) (d := d) (rt := rt) c hx (by omega)
    rw [show opB n hl x = false by
      cases q : opB n hl x with
      | false => rfl
      | true => exact absurd ⟨(opB_t q).1, (opB_t q).2.1⟩ z]
    (repeat (first | (with_reducible apply wm_o; focus (simp (disch := omega) only [wr_id, Int.toNat_natCast, Int.reduceToNat, tn_lk, tn_kl, if_pos, if_neg, ↓reduceIte, and_self, and_true, true_and, hc]; with_reducible rfl)) | (with_reducible apply wm_q) | (with_reducible apply wm_c; focus (first | assumption | decide +kernel)) | (with_reducible apply wm_d; focus (simp (disch := omega) only [wr_id, Int.toNat_natCast, Int.reduceToNat, tn_lk, tn_kl, if_pos, if_neg, ↓reduceIte, and_self, and_true, true_and, hc]; with_reducible rfl)) | (with_reducible apply wm_t; focus (first | omega | (simp (disch := omega) only [wr_id, hc]; omega) | (simp (disch := omega) only [wr_id, hc]; done))) | (with_reducible apply wm_f; focus (first | omega | (simp (disch := omega) only [wr_id, hc]; omega) | (simp (disch := omega) only [wr_id, hc]; done)))))
    exact wm_z0 ⟨rfl, rfl⟩
theorem m_freeMany (c : mCfg I lv w h n) (hnh : I 379 lv = (nh : Int)) (hv : vRow (I 401)) : f_X12_freeMany 369 (mm t d rt I) = some ((n : Int) - (nh : Int) - 2 * (rMany (I 401) : Int), mm t d rt I) := by
  have h1 := s_cells (t := t) (d := d) (rt := rt) c
  have h2 := s_stoneMany (t := t) (d := d) (rt := rt) hv
  obtain ⟨c1, c2, _⟩ := c
  refine wm_eq ?_
  unfold f_X12_freeMany
  (repeat (first | (with_reducible apply wm_o; focus (simp (disch := omega) only [wr_id, Int.toNat_natCast, Int.reduceToNat, tn_lk, tn_kl, if_pos, if_neg, ↓reduceIte, and_self, and_true, true_and, h1, FM, c1, hnh, h2]; with_reducible rfl)) | (with_reducible apply wm_q) | (with_reducible apply wm_c; focus (first | assumption | decide +kernel)) | (with_reducible apply wm_d; focus (simp (disch := omega) only [wr_id, Int.toNat_natCast, Int.reduceToNat, tn_lk, tn_kl, if_pos, if_neg, ↓reduceIte, and_self, and_true, true_and, h1, FM, c1, hnh, h2]; with_reducible rfl)) | (with_reducible apply wm_t; focus (first | omega | (simp (disch := omega) only [wr_id, h1, FM, c1, hnh, h2]; omega) | (simp (disch := omega) only [wr_id, h1, FM, c1, hnh, h2]; done))) | (with_reducible apply wm_f; focus (first | omega | (simp (disch := omega) only [wr_id, h1, FM, c1, hnh, h2]; omega) | (simp (disch := omega) only [wr_id, h1, FM, c1, hnh, h2]; done)))))
  exact wm_r ⟨rfl, rfl⟩
theorem m_isBlack (c : mCfg I lv w h n) {x : Nat} (hx : x < n) : f_X12_isBlack 369 (x : Int) (mm t d rt I) = some (if (x / w + x % w) % 2 = 0 then 1 else 0, mm t d rt I) := by
  have hw := s_w (t := t) (d := d) (rt := rt) c
  obtain ⟨c1, c2, c3, c4, c5, c6, c7, c8, c9, c10, c11⟩ := c
  have hm : x / w ≤ x := Nat.div_le_self x w
  have hm2 := Nat.mod_lt x (show w > 0 by omega)
  have hd1 : jm_dv (x : Int) (w : Int) = some ((x / w : Nat) : Int) := dv_n (by omega) (by omega) (by omega)
  have hr : jm_rm (x : Int) (w : Int) = some ((x % w : Nat) : Int) := rm_n (by omega) (by omega) (by omega)
  have h2 : jm_rm (((x % w : Nat) : Int) + ((x / w : Nat) : Int)) 2 = some (((x / w + x % w) % 2 : Nat) : Int) := by
    rw [show ((x % w : Nat) : Int) + ((x / w : Nat) : Int) = ((x / w + x % w : Nat) : Int) by omega]
    exact rm_n (b := 2) (by omega) (by omega) (by omega)
  refine wm_eq ?_
  unfold f_X12_isBlack
  by_cases z : (x / w + x % w) % 2 = 0
  · rw [if_pos z]
    (repeat (first | (with_reducible apply wm_o; focus (simp (disch := omega) only [wr_id, Int.toNat_natCast, Int.reduceToNat, tn_lk, tn_kl, if_pos, if_neg, ↓reduceIte, and_self, and_true, true_and, hw, hr, hd1, h2]; with_reducible rfl)) | (with_reducible apply wm_q) | (with_reducible apply wm_c; focus (first | assumption | decide +kernel)) | (with_reducible apply wm_d; focus (simp (disch := omega) only [wr_id, Int.toNat_natCast, Int.reduceToNat, tn_lk, tn_kl, if_pos, if_neg, ↓reduceIte, and_self, and_true, true_and, hw, hr, hd1, h2]; with_reducible rfl)) | (with_reducible apply wm_t; focus (first | omega | (simp (disch := omega) only [wr_id, hw, hr, hd1, h2]; omega) | (simp (disch := omega) only [wr_id, hw, hr, hd1, h2]; done))) | (with_reducible apply wm_f; focus (first | omega | (simp (disch := omega) only [wr_id, hw, hr, hd1, h2]; omega) | (simp (disch := omega) only [wr_id, hw, hr, hd1, h2]; done)))))
    exact wm_z1 ⟨rfl, rfl⟩
  · rw [if_neg z]
    (repeat (first | (with_reducible apply wm_o; focus (simp (disch := omega) only [wr_id, Int.toNat_natCast, Int.reduceToNat, tn_lk, tn_kl, if_pos, if_neg, ↓reduceIte, and_self, and_true, true_and, hw, hr, hd1, h2]; with_reducible rfl)) | (with_reducible apply wm_q) | (with_reducible apply wm_c; focus (first | assumption | decide +kernel)) | (with_reducible apply wm_d; focus (simp (disch := omega) only [wr_id, Int.toNat_natCast, Int.reduceToNat, tn_lk, tn_kl, if_pos, if_neg, ↓reduceIte, and_self, and_true, true_and, hw, hr, hd1, h2]; with_reducible rfl)) | (with_reducible apply wm_t; focus (first | omega | (simp (disch := omega) only [wr_id, hw, hr, hd1, h2]; omega) | (simp (disch := omega) only [wr_id, hw, hr, hd1, h2]; done))) | (with_reducible apply wm_f; focus (first | omega | (simp (disch := omega) only [wr_id, hw, hr, hd1, h2]; omega) | (simp (disch := omega) only [wr_id, hw, hr, hd1, h2]; done)))))
    exact wm_z0 ⟨rfl, rfl⟩
theorem m_laid {k : Nat} (hk : k < 18) {c way : Int} : wm t d rt (f_X12_laid 369 (k : Int) c way (mm t d rt I)) (fun _ J => frM (fun a => a = 401) (fun _ => False) I J ∧ J 401 = rPut (I 401) k c way) := by
  have e18 : ((18 : Int) + (k : Int)) = ((18 + k : Nat) : Int) := by omega
  have e36 : ((36 : Int) + (k : Int)) = ((36 + k : Nat) : Int) := by omega
  have e54 : ((54 : Int) + (k : Int)) = ((54 + k : Nat) : Int) := by omega
  unfold f_X12_laid
  (repeat (first | (with_reducible apply wm_o; focus (simp (disch := omega) only [wr_id, Int.toNat_natCast, Int.reduceToNat, tn_lk, tn_kl, if_pos, if_neg, ↓reduceIte, and_self, and_true, true_and, FM, e18, e36, e54]; with_reducible rfl)) | (with_reducible apply wm_q) | (with_reducible apply wm_c; focus (first | assumption | decide +kernel)) | (with_reducible apply wm_d; focus (simp (disch := omega) only [wr_id, Int.toNat_natCast, Int.reduceToNat, tn_lk, tn_kl, if_pos, if_neg, ↓reduceIte, and_self, and_true, true_and, FM, e18, e36, e54]; with_reducible rfl)) | (with_reducible apply wm_t; focus (first | omega | (simp (disch := omega) only [wr_id, FM, e18, e36, e54]; omega) | (simp (disch := omega) only [wr_id, FM, e18, e36, e54]; done))) | (with_reducible apply wm_f; focus (first | omega | (simp (disch := omega) only [wr_id, FM, e18, e36, e54]; omega) | (simp (disch := omega) only [wr_id, FM, e18, e36, e54]; done)))))
  refine wm_r ⟨frM_up (frM_up (frM_up (frM_up (frM_refl _ _ _) (by decide) rfl) (by decide) rfl) (by decide) rfl) (by decide) rfl, ?_⟩
  funext y
  simp only [up_g, rPut]
theorem m_lifted {k : Nat} (hk : k < 18) : wm t d rt (f_X12_lifted 369 (k : Int) (mm t d rt I)) (fun _ J => frM (fun a => a = 401) (fun _ => False) I J ∧ J 401 = rPut (I 401) k (-2) 0) := by
  unfold f_X12_lifted
  (repeat (first | (with_reducible apply wm_o; focus (simp (disch := omega) only [wr_id, Int.toNat_natCast, Int.reduceToNat, tn_lk, tn_kl, if_pos, if_neg, ↓reduceIte, and_self, and_true, true_and]; with_reducible rfl)) | (with_reducible apply wm_q) | (with_reducible apply wm_c; focus (first | assumption | decide +kernel)) | (with_reducible apply wm_d; focus (simp (disch := omega) only [wr_id, Int.toNat_natCast, Int.reduceToNat, tn_lk, tn_kl, if_pos, if_neg, ↓reduceIte, and_self, and_true, true_and]; with_reducible rfl)) | (with_reducible apply wm_t; focus (first | omega | (simp (disch := omega) only [wr_id]; omega) | (simp (disch := omega) only [wr_id]; done))) | (with_reducible apply wm_f; focus (first | omega | (simp (disch := omega) only [wr_id]; omega) | (simp (disch := omega) only [wr_id]; done)))))
  refine wm_b (m_laid hk) (fun v J hJ => wm_r hJ)
theorem m_records (hH : mH I u H) (z1 : ∀ j, 75 ≤ j → I 401 j = 0) (z0 : ∀ j, 75 ≤ j → I 400 j = 0) : wm t d rt (f_X12_records 369 (mm t d rt I)) (fun _ J => frM (fun a => a = 400 ∨ a = 405) (fun j => j = 53) I J ∧ J 400 = I 401 ∧ mH J (min (u + 1) 40) (hCons (I 400) H)) := by
  obtain ⟨h1, h2, h3⟩ := hH
  -- the latter half, from v remembered rows on
  have fin : ∀ (v : Nat) (J : Nat → Nat → Int), v < 40 → frM (fun a => a = 405) (fun j => j = 53) I J → J 369 53 = (v : Int) → (∀ i, i < v → ∀ k, k < 75 → J 405 (75 * (v - 1 - i) + k) = H i k) → min (u + 1) 40 = v + 1 → wm t d rt (jlp2 (fun rec_51 (y1_51 : Int) (M_51 : jMem) =>
      if jd_wr y1_51 < jd_wr 75 then ((jm_gR 12 54 M_51 369).bind fun r2 =>
      (jm_gI 12 53 M_51 369).bind fun v3 =>
      (jm_gR 12 47 M_51 369).bind fun r4 =>
      (jm_ld 20 M_51 r4 y1_51).bind fun v5 =>
      (jm_st 20 M_51 r2 ((75 * v3) + y1_51) v5).bind fun M6 =>
      rec_51 (y1_51 + 1) M6)
      else ((jm_gI 12 53 M_51 369).bind fun v7 =>
      (jm_pI 12 53 M_51 369 (v7 + 1)).bind fun M8 =>
      jcall 12 M8 369 (f_X12_keepsRow 369 M8) fun _ M10 =>
      some (0, M10))) jfuel 0 (mm t d rt J)) (fun _ J => frM (fun a => a = 400 ∨ a = 405) (fun j => j = 53) I J ∧ J 400 = I 401 ∧ mH J (min (u + 1) 40) (hCons (I 400) H)) := by
    intro v J hv hJ j53 jh hu
    have j400 : J 400 = I 400 := hJ.1 400 (by decide) (by decide)
    have j401 : J 401 = I 401 := hJ.1 401 (by decide) (by decide)
    refine wm_lp2 75 (fun i y K => y = (i : Int) ∧ K = flB J 405 (fun y => decide (75 * v ≤ y ∧ y < 75 * v + i)) (fun y => I 400 (y - 75 * v))) ?_ (jfuel_n (by decide)) ⟨rfl, ?_⟩
    · rintro i hi y K ⟨rfl, rfl⟩ rec hrec
      have e53 : flB J 405 (fun y => decide (75 * v ≤ y ∧ y < 75 * v + i)) (fun y => I 400 (y - 75 * v)) 369 53 = (v : Int) := by rw [flB_ne (by decide)]; exact j53
      have e400 : flB J 405 (fun y => decide (75 * v ≤ y ∧ y < 75 * v + i)) (fun y => I 400 (y - 75 * v)) 400 i = I 400 i := by rw [flB_ne (by decide), j400]
      refine wm_if (fun c => ?_) (fun c => ?_)
      · simp (disch := omega) only [wr_id] at c
        have ei : ((75 : Int) * (v : Int)) + (i : Int) = ((75 * v + i : Nat) : Int) := by omega
        (repeat (first | (with_reducible apply wm_o; focus (simp (disch := omega) only [wr_id, Int.toNat_natCast, Int.reduceToNat, tn_lk, tn_kl, if_pos, if_neg, ↓reduceIte, and_self, and_true, true_and, FM, e53, e400, ei]; with_reducible rfl)) | (with_reducible apply wm_q) | (with_reducible apply wm_c; focus (first | assumption | decide +kernel)) | (with_reducible apply wm_d; focus (simp (disch := omega) only [wr_id, Int.toNat_natCast, Int.reduceToNat, tn_lk, tn_kl, if_pos, if_neg, ↓reduceIte, and_self, and_true, true_and, FM, e53, e400, ei]; with_reducible rfl)) | (with_reducible apply wm_t; focus (first | omega | (simp (disch := omega) only [wr_id, FM, e53, e400, ei]; omega) | (simp (disch := omega) only [wr_id, FM, e53, e400, ei]; done))) | (with_reducible apply wm_f; focus (first | omega | (simp (disch := omega) only [wr_id, FM, e53, e400, ei]; omega) | (simp (disch := omega) only [wr_id, FM, e53, e400, ei]; done)))))
        refine hrec (i + 1) _ _ (by omega) (by omega) ⟨by omega, ?_⟩
        have q := flB_up (I := J) (a := 405) (i := 75 * v + i) (P := fun y => decide (75 * v ≤ y ∧ y < 75 * v + i)) (Q := fun y => decide (75 * v ≤ y ∧ y < 75 * v + (i + 1))) (g := fun y => I 400 (y - 75 * v)) (fun y => by
          rw [Bool.eq_iff_iff]
          simp only [Bool.or_eq_true, decide_eq_true_eq, beq_iff_eq]
          omega)
        rw [← q]
        simp only [Nat.add_sub_cancel_left]
      · simp (disch := omega) only [wr_id] at c
        obtain rfl : i = 75 := by omega
        have ek := fun (A : Nat → Nat → Int) => s_keepsRow (t := t) (d := d) (rt := rt) (I := A)
        (repeat (first | (with_reducible apply wm_o; focus (simp (disch := omega) only [wr_id, Int.toNat_natCast, Int.reduceToNat, tn_lk, tn_kl, if_pos, if_neg, ↓reduceIte, and_self, and_true, true_and, FM, e53, ek]; with_reducible rfl)) | (with_reducible apply wm_q) | (with_reducible apply wm_c; focus (first | assumption | decide +kernel)) | (with_reducible apply wm_d; focus (simp (disch := omega) only [wr_id, Int.toNat_natCast, Int.reduceToNat, tn_lk, tn_kl, if_pos, if_neg, ↓reduceIte, and_self, and_true, true_and, FM, e53, ek]; with_reducible rfl)) | (with_reducible apply wm_t; focus (first | omega | (simp (disch := omega) only [wr_id, FM, e53, ek]; omega) | (simp (disch := omega) only [wr_id, FM, e53, ek]; done))) | (with_reducible apply wm_f; focus (first | omega | (simp (disch := omega) only [wr_id, FM, e53, ek]; omega) | (simp (disch := omega) only [wr_id, FM, e53, ek]; done)))))
        clear ek
        refine wm_r ⟨⟨fun a ha hS => ?_, fun j hj => ?_⟩, ?_, ?_, by omega, fun i hi => ⟨fun k hk => ?_, fun k hk => ?_⟩⟩
        · rw [flne (by omega), up_ne ha]
          funext y
          rw [flB_ne (by omega), hJ.1 a ha (by omega)]
        · rw [fl_ne (by decide), up_g, if_neg hj, flB_ne (by decide), hJ.2 j hj]
        · have e1 : up (flB J 405 (fun y => decide (75 * v ≤ y ∧ y < 75 * v + 75)) (fun y => I 400 (y - 75 * v))) 369 53 ((v : Int) + 1) 401 = I 401 := by
            rw [up_ne (by decide)]
            funext y
            rw [flB_ne (by decide), j401]
          rw [e1]
          exact fl_all (fun y hy => by rw [up_ne (by decide), flB_ne (by decide), j400, z0 y hy, z1 y hy])
        · rw [fl_ne (by decide), up_g, if_pos rfl, hu]; omega
        · rw [hu, fl_ne (by decide), up_ne (by decide)]
          by_cases z : i = 0
          · subst z
            rw [hCons_0, show 75 * (v + 1 - 1 - 0) + k = 75 * v + k by omega, flB_in (by simp; omega), Nat.add_sub_cancel_left]
          · rw [hCons_n z]
            have ne : ¬ (75 * v ≤ 75 * (v + 1 - 1 - i) + k ∧ 75 * (v + 1 - 1 - i) + k < 75 * v + 75) := by omega
            have e1 : flB J 405 (fun y => decide (75 * v ≤ y ∧ y < 75 * v + 75)) (fun y => I 400 (y - 75 * v)) 405 (75 * (v + 1 - 1 - i) + k) = J 405 (75 * (v + 1 - 1 - i) + k) := by
              unfold flB
              rw [if_neg (fun q => ne (by simpa using q.2))]
            rw [e1, ← jh (i - 1) (by omega) k hk, show v - 1 - (i - 1) = v + 1 - 1 - i by omega]
        · by_cases z : i = 0
          · subst z
            rw [hCons_0]; exact z0 k hk
          · rw [hCons_n z]; exact (h3 (i - 1) (by omega)).2 k hk
    · exact (flB_0 (fun y => decide_eq_false (by omega))).symm
  unfold f_X12_records
  by_cases z : u = 40
  · subst z
    (repeat (first | (with_reducible apply wm_o; focus (simp (disch := omega) only [wr_id, Int.toNat_natCast, Int.reduceToNat, tn_lk, tn_kl, if_pos, if_neg, ↓reduceIte, and_self, and_true, true_and, FM, h1]; with_reducible rfl)) | (with_reducible apply wm_q) | (with_reducible apply wm_c; focus (first | assumption | decide +kernel)) | (with_reducible apply wm_d; focus (simp (disch := omega) only [wr_id, Int.toNat_natCast, Int.reduceToNat, tn_lk, tn_kl, if_pos, if_neg, ↓reduceIte, and_self, and_true, true_and, FM, h1]; with_reducible rfl)) | (with_reducible apply wm_t; focus (first | omega | (simp (disch := omega) only [wr_id, FM, h1]; omega) | (simp (disch := omega) only [wr_id, FM, h1]; done))) | (with_reducible apply wm_f; focus (first | omega | (simp (disch := omega) only [wr_id, FM, h1]; omega) | (simp (disch := omega) only [wr_id, FM, h1]; done)))))
    refine wm_lp2 2925 (fun i y K => y = (i : Int) ∧ K = fl I 405 i (fun y => I 405 (y + 75))) ?_ (jfuel_n (by decide)) ⟨rfl, by rw [fl_0]⟩
    rintro i hi y K ⟨rfl, rfl⟩ rec hrec
    refine wm_if (fun c => ?_) (fun c => ?_)
    · simp (disch := omega) only [wr_id] at c
      have e : fl I 405 i (fun y => I 405 (y + 75)) 405 (i + 75) = I 405 (i + 75) := fl_out (by omega)
      have e2 : (i : Int) + 75 = ((i + 75 : Nat) : Int) := by omega
      (repeat (first | (with_reducible apply wm_o; focus (simp (disch := omega) only [wr_id, Int.toNat_natCast, Int.reduceToNat, tn_lk, tn_kl, if_pos, if_neg, ↓reduceIte, and_self, and_true, true_and, FM, e2, e]; with_reducible rfl)) | (with_reducible apply wm_q) | (with_reducible apply wm_c; focus (first | assumption | decide +kernel)) | (with_reducible apply wm_d; focus (simp (disch := omega) only [wr_id, Int.toNat_natCast, Int.reduceToNat, tn_lk, tn_kl, if_pos, if_neg, ↓reduceIte, and_self, and_true, true_and, FM, e2, e]; with_reducible rfl)) | (with_reducible apply wm_t; focus (first | omega | (simp (disch := omega) only [wr_id, FM, e2, e]; omega) | (simp (disch := omega) only [wr_id, FM, e2, e]; done))) | (with_reducible apply wm_f; focus (first | omega | (simp (disch := omega) only [wr_id, FM, e2, e]; omega) | (simp (disch := omega) only [wr_id, FM, e2, e]; done)))))
      exact hrec (i + 1) _ _ (by omega) (by omega) ⟨by omega, fl_s I 405 i (fun y => I 405 (y + 75))⟩
    · simp (disch := omega) only [wr_id] at c
      obtain rfl : i = 2925 := by omega
      have e : fl I 405 2925 (fun y => I 405 (y + 75)) 369 53 = 40 := by rw [fl_ne (by decide)]; exact h1
      (repeat (first | (with_reducible apply wm_o; focus (simp (disch := omega) only [wr_id, Int.toNat_natCast, Int.reduceToNat, tn_lk, tn_kl, if_pos, if_neg, ↓reduceIte, and_self, and_true, true_and, FM, e]; with_reducible rfl)) | (with_reducible apply wm_q) | (with_reducible apply wm_c; focus (first | assumption | decide +kernel)) | (with_reducible apply wm_d; focus (simp (disch := omega) only [wr_id, Int.toNat_natCast, Int.reduceToNat, tn_lk, tn_kl, if_pos, if_neg, ↓reduceIte, and_self, and_true, true_and, FM, e]; with_reducible rfl)) | (with_reducible apply wm_t; focus (first | omega | (simp (disch := omega) only [wr_id, FM, e]; omega) | (simp (disch := omega) only [wr_id, FM, e]; done))) | (with_reducible apply wm_f; focus (first | omega | (simp (disch := omega) only [wr_id, FM, e]; omega) | (simp (disch := omega) only [wr_id, FM, e]; done)))))
      refine fin 39 _ (by decide) ⟨fun a ha hS => ?_, fun j hj => ?_⟩ ?_ (fun i hi k hk => ?_) (by decide)
      · rw [up_ne ha, flne hS]
      · rw [up_g, if_neg hj, fl_ne (by decide)]
      · rw [up_g, if_pos rfl]; rfl
      · rw [up_ne (by decide), fl_in (by omega), ← (h3 i (by omega)).1 k hk]
        rw [show 75 * (39 - 1 - i) + k + 75 = 75 * (40 - 1 - i) + k by omega]
  · (repeat (first | (with_reducible apply wm_o; focus (simp (disch := omega) only [wr_id, Int.toNat_natCast, Int.reduceToNat, tn_lk, tn_kl, if_pos, if_neg, ↓reduceIte, and_self, and_true, true_and, FM, h1]; with_reducible rfl)) | (with_reducible apply wm_q) | (with_reducible apply wm_c; focus (first | assumption | decide +kernel)) | (with_reducible apply wm_d; focus (simp (disch := omega) only [wr_id, Int.toNat_natCast, Int.reduceToNat, tn_lk, tn_kl, if_pos, if_neg, ↓reduceIte, and_self, and_true, true_and, FM, h1]; with_reducible rfl)) | (with_reducible apply wm_t; focus (first | omega | (simp (disch := omega) only [wr_id, FM, h1]; omega) | (simp (disch := omega) only [wr_id, FM, h1]; done))) | (with_reducible apply wm_f; focus (first | omega | (simp (disch := omega) only [wr_id, FM, h1]; omega) | (simp (disch := omega) only [wr_id, FM, h1]; done)))))
    refine fin u I (by omega) (frM_refl _ _ _) h1 (fun i hi k hk => (h3 i hi).1 k hk) (by omega)
end MRW
