/-! ===== hills; calls: hill ===== -/
def stH (w mask x : Nat) : Int := if mask.testBit (w - 1 - x) then -3 else 1
/-- the hills of a row of corners, by its mask -/
def hlC (w y mask : Nat) : Nat → Int
  | 0 => -((y % 2 : Nat) : Int)
  | x + 1 => hlC w y mask x + (if (x + y) % 2 = 0 then stH w mask x else -stH w mask x)
theorem hlC_s (w y mask x : Nat) : hlC w y mask (x + 1) = hlC w y mask x + (if (x + y) % 2 = 0 then stH w mask x else -stH w mask x) := rfl
theorem stH_b (w mask x : Nat) : stH w mask x = -3 ∨ stH w mask x = 1 := by unfold stH; split <;> simp
theorem hlC_b (w y mask : Nat) : ∀ x : Nat, -(1 + 3 * (x : Int)) ≤ hlC w y mask x ∧ hlC w y mask x ≤ 3 * (x : Int)
  | 0 => by unfold hlC; omega
  | x + 1 => by
    have ih := hlC_b w y mask x
    have hs := stH_b w mask x
    rw [hlC_s]
    split <;> rcases hs with e | e <;> rw [e] <;> omega
theorem hlC_4 (w y m m' : Nat) : ∀ x, (4 : Int) ∣ hlC w y m x - hlC w y m' x
  | 0 => by unfold hlC; omega
  | x + 1 => by
    have ih := hlC_4 w y m m' x
    have hs := stH_b w m x
    have hs' := stH_b w m' x
    rw [hlC_s, hlC_s]
    split <;> rcases hs with e | e <;> rcases hs' with e' | e' <;> rw [e, e'] <;> omega
def smI (f : Nat → Int) : Nat → Int
  | 0 => 0
  | k + 1 => smI f k + f k
theorem smI_s (f : Nat → Int) (k : Nat) : smI f (k + 1) = smI f k + f k := rfl
theorem smI_congr {f g : Nat → Int} : ∀ {k : Nat}, (∀ j, j < k → f j = g j) → smI f k = smI g k
  | 0, _ => rfl
  | k + 1, h => by rw [smI_s, smI_s, smI_congr (fun j hj => h j (by omega)), h k (by omega)]
theorem smI_b {f : Nat → Int} {a b : Int} : ∀ {k : Nat}, (∀ j, j < k → a ≤ f j ∧ f j ≤ b) → (k : Int) * a ≤ smI f k ∧ smI f k ≤ (k : Int) * b
  | 0, _ => by unfold smI; omega
  | k + 1, h => by
    have ih := smI_b (fun j hj => h j (by omega)) (k := k)
    have := h k (by omega)
    rw [smI_s]
    have e1 : ((k + 1 : Nat) : Int) * a = (k : Int) * a + a := by rw [Int.natCast_add, Int.add_mul]; omega
    have e2 : ((k + 1 : Nat) : Int) * b = (k : Int) * b + b := by rw [Int.natCast_add, Int.add_mul]; omega
    omega
section HI
variable {t d rt : Nat} {I J K : Nat → Nat → Int} {lv w h n nh r : Nat} {hl cl na nd U : Nat → Bool} {sd : Int} {ifs : Nat → List LwI} {xs : Nat → List CI} {ρ : Nat → Int} {u : Nat} {H : Nat → Nat → Int} {hd : Nat → Bool} {G : Nat → Nat → Int} {p : List Int}
theorem w_climb {a y mask : Nat} (ha : a = 365 ∨ a = 366) (hw : 2 ≤ w ∧ w ≤ 6) (h5 : I 311 5 = (w : Int)) (hy : y ≤ 6) (hm : mask < 64) : wm t d rt (f_X0_climb 311 (y : Int) (mask : Int) a (mm t d rt I)) (fun _ J => frm (fun x => x = a) I J ∧ ∀ x, x ≤ w → J a x = hlC w y mask x) := by
  have ka : K0 a = (20, 7) ∧ a < 418 := by rcases ha with rfl | rfl <;> exact ⟨by decide +kernel, by decide⟩
  have fxs : ∀ (J : Nat → Nat → Int) i v, jm_st 20 (mm t d rt J) a i v = if 0 ≤ jd_wr i ∧ jd_wr i < 7 then some (mm t d rt (up J a (jd_wr i).toNat v)) else none := fun J i v => mm_st (n := 7) ka.1 ka.2 rfl
  have k4 : (K0 311).1 = 4 ∧ 311 < 418 := by decide +kernel
  have ey : jd_and (y : Int) 1 = ((y % 2 : Nat) : Int) := by
    rw [m1_b (by omega), Nat.and_one_is_mod]
  have w0 := wr_0
  unfold f_X0_climb
  (repeat (first | (with_reducible apply wm_o; focus (simp (disch := omega) only [wr_id, Int.toNat_natCast, Int.reduceToNat, tn_lk, tn_kl, if_pos, if_neg, ↓reduceIte, and_self, and_true, true_and, fxs, ey, w0]; with_reducible rfl)) | (with_reducible apply wm_q) | (with_reducible apply wm_c; focus (first | assumption | decide +kernel)) | (with_reducible apply wm_d; focus (simp (disch := omega) only [wr_id, Int.toNat_natCast, Int.reduceToNat, tn_lk, tn_kl, if_pos, if_neg, ↓reduceIte, and_self, and_true, true_and, fxs, ey, w0]; with_reducible rfl)) | (with_reducible apply wm_t; focus (first | omega | (simp (disch := omega) only [wr_id, fxs, ey, w0]; omega) | (simp (disch := omega) only [wr_id, fxs, ey, w0]; done))) | (with_reducible apply wm_f; focus (first | omega | (simp (disch := omega) only [wr_id, fxs, ey, w0]; omega) | (simp (disch := omega) only [wr_id, fxs, ey, w0]; done)))))
  refine wm_lp3 w (fun i b x J => b = hlC w y mask i ∧ x = (i : Int) ∧ frm (fun x => x = a) I J ∧ ∀ x, x ≤ i → J a x = hlC w y mask x) ?_ (Nat.lt_of_le_of_lt hw.2 (jfuel_n (by decide))) ⟨by show _ = -((y % 2 : Nat) : Int); omega, rfl, frm_up (frm_refl _ _) rfl, fun x hx => ?_⟩
  · rintro i hi b x J ⟨rfl, rfl, hJ, jA⟩ rec hrec
    have j5 : J 311 5 = (w : Int) := by rw [hJ _ (by omega)]; exact h5
    by_cases e : i = w
    · subst e
      (repeat (first | (with_reducible apply wm_o; focus (simp (disch := omega) only [wr_id, Int.toNat_natCast, Int.reduceToNat, tn_lk, tn_kl, if_pos, if_neg, ↓reduceIte, and_self, and_true, true_and, FRows ev_in, j5]; with_reducible rfl)) | (with_reducible apply wm_q) | (with_reducible apply wm_c; focus (first | assumption | decide +kernel)) | (with_reducible apply wm_d; focus (simp (disch := omega) only [wr_id, Int.toNat_natCast, Int.reduceToNat, tn_lk, tn_kl, if_pos, if_neg, ↓reduceIte, and_self, and_true, true_and, FRows ev_in, j5]; with_reducible rfl)) | (with_reducible apply wm_t; focus (first | omega | (simp (disch := omega) only [wr_id, FRows ev_in, j5]; omega) | (simp (disch := omega) only [wr_id, FRows ev_in, j5]; done))) | (with_reducible apply wm_f; focus (first | omega | (simp (disch := omega) only [wr_id, FRows ev_in, j5]; omega) | (simp (disch := omega) only [wr_id, FRows ev_in, j5]; done)))))
      exact wm_r ⟨hJ, jA⟩
    · have hb := q_bit (t := t) (d := d) (rt := rt) (r := 311) (I := J) ev_in j5 hw.2 (show i < w by omega)
      have l2 : 2 ^ (w - 1 - i) < 64 := Nat.lt_of_le_of_lt (Nat.pow_le_pow_right (by decide) (show w - 1 - i ≤ 5 by omega)) (by decide)
      have ea := and_n (a := mask) (b := 2 ^ (w - 1 - i)) (by omega) (by omega)
      have al : mask &&& 2 ^ (w - 1 - i) ≤ mask := Nat.and_le_left
      have tb := tb_bit mask hm (w - 1 - i) (by omega)
      have hr2 : jm_rm ((i : Int) + (y : Int)) 2 = some (((i + y) % 2 : Nat) : Int) := by
        rw [show (i : Int) + (y : Int) = ((i + y : Nat) : Int) by omega]
        exact rm_n (b := 2) (by omega) (by omega) (by omega)
      have hs := hlC_s w y mask i
      have hbd := hlC_b w y mask i
      have fin : ∀ v : Int, v = hlC w y mask (i + 1) → wm t d rt (rec v ((i : Int) + 1) (mm t d rt (up J a (i + 1) v))) (fun _ J => frm (fun x => x = a) I J ∧ ∀ x, x ≤ w → J a x = hlC w y mask x) := by
        intro v hv
        refine hrec (i + 1) _ _ _ (by omega) (by omega) ⟨hv, by omega, frm_up hJ rfl, fun x hx => ?_⟩
        rw [up_g]
        by_cases ex : x = i + 1
        · rw [if_pos ex, ex, hv]
        · rw [if_neg ex]; exact jA x (by omega)
      unfold stH at hs
      by_cases z : mask.testBit (w - 1 - i) = false
      · have z2 := tb.mpr z
        rw [z2] at ea
        rw [z, if_neg (show ¬ (false = true) by decide)] at hs
        by_cases zp : (i + y) % 2 = 0
        · rw [if_pos zp] at hs
          (repeat (first | (with_reducible apply wm_o; focus (simp (disch := omega) only [wr_id, Int.toNat_natCast, Int.reduceToNat, tn_lk, tn_kl, if_pos, if_neg, ↓reduceIte, and_self, and_true, true_and, FRows ev_in, j5, hb, ea, hr2, fxs]; with_reducible rfl)) | (with_reducible apply wm_q) | (with_reducible apply wm_c; focus (first | assumption | decide +kernel)) | (with_reducible apply wm_d; focus (simp (disch := omega) only [wr_id, Int.toNat_natCast, Int.reduceToNat, tn_lk, tn_kl, if_pos, if_neg, ↓reduceIte, and_self, and_true, true_and, FRows ev_in, j5, hb, ea, hr2, fxs]; with_reducible rfl)) | (with_reducible apply wm_t; focus (first | omega | (simp (disch := omega) only [wr_id, FRows ev_in, j5, hb, ea, hr2, fxs]; omega) | (simp (disch := omega) only [wr_id, FRows ev_in, j5, hb, ea, hr2, fxs]; done))) | (with_reducible apply wm_f; focus (first | omega | (simp (disch := omega) only [wr_id, FRows ev_in, j5, hb, ea, hr2, fxs]; omega) | (simp (disch := omega) only [wr_id, FRows ev_in, j5, hb, ea, hr2, fxs]; done)))))
          exact fin _ hs.symm
        · rw [if_neg zp] at hs
          (repeat (first | (with_reducible apply wm_o; focus (simp (disch := omega) only [wr_id, Int.toNat_natCast, Int.reduceToNat, tn_lk, tn_kl, if_pos, if_neg, ↓reduceIte, and_self, and_true, true_and, FRows ev_in, j5, hb, ea, hr2, fxs]; with_reducible rfl)) | (with_reducible apply wm_q) | (with_reducible apply wm_c; focus (first | assumption | decide +kernel)) | (with_reducible apply wm_d; focus (simp (disch := omega) only [wr_id, Int.toNat_natCast, Int.reduceToNat, tn_lk, tn_kl, if_pos, if_neg, ↓reduceIte, and_self, and_true, true_and, FRows ev_in, j5, hb, ea, hr2, fxs]; with_reducible rfl)) | (with_reducible apply wm_t; focus (first | omega | (simp (disch := omega) only [wr_id, FRows ev_in, j5, hb, ea, hr2, fxs]; omega) | (simp (disch := omega) only [wr_id, FRows ev_in, j5, hb, ea, hr2, fxs]; done))) | (with_reducible apply wm_f; focus (first | omega | (simp (disch := omega) only [wr_id, FRows ev_in, j5, hb, ea, hr2, fxs]; omega) | (simp (disch := omega) only [wr_id, FRows ev_in, j5, hb, ea, hr2, fxs]; done)))))
          exact fin _ (by rw [hs]; rfl)
      · have z2 : ¬ mask &&& 2 ^ (w - 1 - i) = 0 := fun q => z (tb.mp q)
        rw [show mask.testBit (w - 1 - i) = true by simpa using z, if_pos rfl] at hs
        by_cases zp : (i + y) % 2 = 0
        · rw [if_pos zp] at hs
          (repeat (first | (with_reducible apply wm_o; focus (simp (disch := omega) only [wr_id, Int.toNat_natCast, Int.reduceToNat, tn_lk, tn_kl, if_pos, if_neg, ↓reduceIte, and_self, and_true, true_and, FRows ev_in, j5, hb, ea, hr2, fxs]; with_reducible rfl)) | (with_reducible apply wm_q) | (with_reducible apply wm_c; focus (first | assumption | decide +kernel)) | (with_reducible apply wm_d; focus (simp (disch := omega) only [wr_id, Int.toNat_natCast, Int.reduceToNat, tn_lk, tn_kl, if_pos, if_neg, ↓reduceIte, and_self, and_true, true_and, FRows ev_in, j5, hb, ea, hr2, fxs]; with_reducible rfl)) | (with_reducible apply wm_t; focus (first | omega | (simp (disch := omega) only [wr_id, FRows ev_in, j5, hb, ea, hr2, fxs]; omega) | (simp (disch := omega) only [wr_id, FRows ev_in, j5, hb, ea, hr2, fxs]; done))) | (with_reducible apply wm_f; focus (first | omega | (simp (disch := omega) only [wr_id, FRows ev_in, j5, hb, ea, hr2, fxs]; omega) | (simp (disch := omega) only [wr_id, FRows ev_in, j5, hb, ea, hr2, fxs]; done)))))
          exact fin _ hs.symm
        · rw [if_neg zp] at hs
          (repeat (first | (with_reducible apply wm_o; focus (simp (disch := omega) only [wr_id, Int.toNat_natCast, Int.reduceToNat, tn_lk, tn_kl, if_pos, if_neg, ↓reduceIte, and_self, and_true, true_and, FRows ev_in, j5, hb, ea, hr2, fxs]; with_reducible rfl)) | (with_reducible apply wm_q) | (with_reducible apply wm_c; focus (first | assumption | decide +kernel)) | (with_reducible apply wm_d; focus (simp (disch := omega) only [wr_id, Int.toNat_natCast, Int.reduceToNat, tn_lk, tn_kl, if_pos, if_neg, ↓reduceIte, and_self, and_true, true_and, FRows ev_in, j5, hb, ea, hr2, fxs]; with_reducible rfl)) | (with_reducible apply wm_t; focus (first | omega | (simp (disch := omega) only [wr_id, FRows ev_in, j5, hb, ea, hr2, fxs]; omega) | (simp (disch := omega) only [wr_id, FRows ev_in, j5, hb, ea, hr2, fxs]; done))) | (with_reducible apply wm_f; focus (first | omega | (simp (disch := omega) only [wr_id, FRows ev_in, j5, hb, ea, hr2, fxs]; omega) | (simp (disch := omega) only [wr_id, FRows ev_in, j5, hb, ea, hr2, fxs]; done)))))
          exact fin _ (by rw [hs]; rfl)
  · obtain rfl : x = 0 := by omega
    rw [up_g, if_pos rfl]
    show _ = -((y % 2 : Nat) : Int)
    omega
/-- the masks of a paving's corner rows -/
def lnF (w h : Nat) (p : List Int) (y : Nat) : Nat := (0 :: lnP w h p).getD y 0
theorem lnF_0 : lnF w h p 0 = 0 := rfl
theorem lnF_s {y : Nat} (hy : y < h) : lnF w h p (y + 1) = row1 w (p.drop (y * w)) := by unfold lnF; rw [gd_s1, lnP_get hy]
theorem lnF_b (hw : w ≤ 6) (y : Nat) : lnF w h p y < 2 ^ w := by
  have hp := Nat.two_pow_pos w
  unfold lnF
  cases y with
  | zero => exact hp
  | succ y =>
    rw [gd_s1, List.getD_eq_getElem?_getD]
    cases e : (lnP w h p)[y]? with
    | none => exact hp
    | some o => exact lnP_b w h p o (List.mem_of_getElem? e)
theorem row1_tb (hw : 0 < w) (hl' : p.length = n) {y x : Nat} (hx : x < w) : (row1 w (p.drop (y * w))).testBit (w - 1 - x) = (p.getD (y * w + x) (-1) == 1) := by
  unfold row1
  rw [mkM_tb, decide_eq_true (show w - 1 - x < w by omega), Bool.true_and, List.getD_eq_getElem?_getD, List.getElem?_drop, ← List.getD_eq_getElem?_getD, show y * w + (w - 1 - (w - 1 - x)) = y * w + x by omega]
/-- is a stone over this edge -/
theorem over_iff (sq : sqOK w h n nh hl) (hp : p ∈ Lp w n noB noB n 0 hl) {y x : Nat} (hy : y ≤ h) (hx : x < w) : (lnF w h p y).testBit (w - 1 - x) = (decide (1 ≤ y ∧ y ≤ h - 1) && (p.getD (w * (y - 1) + x) (-1) == 1)) := by
  have hw := sq.1
  have hnw := sq.2.2.2.2.1
  have hpl : p.length = n := Lp_len hp
  cases y with
  | zero => rw [lnF_0]; simp
  | succ y =>
    rw [lnF_s (by omega), row1_tb (by omega) hpl hx, Nat.add_sub_cancel, Nat.mul_comm w y]
    by_cases z : y + 1 ≤ h - 1
    · rw [decide_eq_true (show 1 ≤ y + 1 ∧ y + 1 ≤ h - 1 by omega), Bool.true_and]
    · rw [decide_eq_false (show ¬ (1 ≤ y + 1 ∧ y + 1 ≤ h - 1) by omega), Bool.false_and]
      have h2 := (p_wy hp (y * w + x)).2.1
      cases q : p.getD (y * w + x) (-1) == 1 with
      | false => rfl
      | true =>
        have := (h2 (by simpa using q)).2.2
        have e1 : h = y + 1 := by omega
        rw [hnw, e1, Nat.mul_add, Nat.mul_one, Nat.mul_comm w y] at this
        omega
theorem m_fillsHills (c : mCfg I lv w h n) (sq : sqOK w h n nh hl) (hp : p ∈ Lp w n noB noB n 0 hl) (h0 : I 412 0 = 0) (hW : ∀ x, x < n → I 411 x = p.getD x (-1)) : wm t d rt (f_X12_fillsHills 369 (mm t d rt I)) (fun _ J => frM (fun a => a = 412) (fun _ => False) I J ∧ J 412 0 = 0 ∧ ∀ y, y ≤ h → ∀ x, x ≤ w → J 412 (7 * y + x) = hlC w y (lnF w h p y) x) := by
  have c0 := c
  obtain ⟨c1, c2, c3, c4, c5, c6, c7, c8, c9, c10, c11⟩ := c
  have w0 := wr_0
  have cS : ∀ J, frM (fun a => a = 412) (fun _ => False) I J → J 369 18 = (lv : Int) ∧ J 378 lv = (h : Int) ∧ mCfg J lv w h n := fun J hJ => by
    have e1 := hJ.2 18 (fun q => q)
    have e2 := hJ.1 378 (by decide) (by decide)
    exact ⟨by rw [e1]; exact c1, by rw [e2]; exact c4, mCfg_frm e1 (hJ.1 377 (by decide) (by decide)) e2 c0⟩
  unfold f_X12_fillsHills
  refine wm_lp2 (h + 1) (fun y b J => b = (y : Int) ∧ frM (fun a => a = 412) (fun _ => False) I J ∧ J 412 0 = 0 ∧ ∀ y', y' < y → ∀ x, x ≤ w → J 412 (7 * y' + x) = hlC w y' (lnF w h p y') x) ?_ (Nat.lt_of_le_of_lt (show h + 1 ≤ 7 by omega) (jfuel_n (by decide))) ⟨rfl, frM_refl _ _ _, h0, fun y' hy' => by omega⟩
  rintro y hy b J ⟨rfl, hJ, j0, jA⟩ rec hrec
  obtain ⟨s1, s2, s3⟩ := cS J hJ
  by_cases e : y = h + 1
  · subst e
    (repeat (first | (with_reducible apply wm_o; focus (simp (disch := omega) only [wr_id, Int.toNat_natCast, Int.reduceToNat, tn_lk, tn_kl, if_pos, if_neg, ↓reduceIte, and_self, and_true, true_and, FM, s1, s2]; with_reducible rfl)) | (with_reducible apply wm_q) | (with_reducible apply wm_c; focus (first | assumption | decide +kernel)) | (with_reducible apply wm_d; focus (simp (disch := omega) only [wr_id, Int.toNat_natCast, Int.reduceToNat, tn_lk, tn_kl, if_pos, if_neg, ↓reduceIte, and_self, and_true, true_and, FM, s1, s2]; with_reducible rfl)) | (with_reducible apply wm_t; focus (first | omega | (simp (disch := omega) only [wr_id, FM, s1, s2]; omega) | (simp (disch := omega) only [wr_id, FM, s1, s2]; done))) | (with_reducible apply wm_f; focus (first | omega | (simp (disch := omega) only [wr_id, FM, s1, s2]; omega) | (simp (disch := omega) only [wr_id, FM, s1, s2]; done)))))
    exact wm_r ⟨hJ, j0, fun y' hy' => jA y' (by omega)⟩
  · have hyh : y ≤ h := by omega
    -- the row's corners, from the first on
    have row : ∀ L, frM (fun a => a = 412) (fun _ => False) I L → L 412 0 = 0 → (∀ y', y' < y → ∀ x, x ≤ w → L 412 (7 * y' + x) = hlC w y' (lnF w h p y') x) → L 412 (7 * y) = hlC w y (lnF w h p y) 0 → wm t d rt (jlp2 (fun rec_54 (y2_54 : Int) (M_54 : jMem) =>
jcall 12 M_54 369 (f_X12_w 369 M_54) fun v4 M5 =>
if jd_wr y2_54 ≤ jd_wr v4 then ((jm_rm ((y2_54 - 1) + (y : Int)) 2).bind fun v6 =>
jjq (fun (z0_77 : Int) =>
(jm_gR 12 21 M5 369).bind fun r7 =>
(jm_gI 12 18 M5 369).bind fun v8 =>
(jm_ld 20 M5 r7 v8).bind fun v9 =>
jbd (f_X12_in (y : Int) 1 (v9 - 1) M5) fun v10 M11 =>
jjq (fun (z0_123 : Int) (M_123 : jMem) =>
(jm_gR 12 61 M_123 369).bind fun r12 =>
(jm_gR 12 61 M_123 369).bind fun r13 =>
(jm_ld 20 M_123 r13 (((7 * (y : Int)) + y2_54) - 1)).bind fun v14 =>
jjq (fun (z0_161 : Int) =>
(jm_st 20 M_123 r12 ((7 * (y : Int)) + y2_54) (v14 + z0_161)).bind fun M15 =>
rec_54 (y2_54 + 1) M15) fun j_161 =>
if jd_wr z0_123 = 0 then (j_161 z0_77)
else (j_161 ((-3) * z0_77))) fun j_123 =>
jjq (fun (M_122 : jMem) =>
j_123 0 M_122) fun j_122 =>
if jd_wr v10 = 0 then (j_122 M11)
else ((jm_gR 12 60 M11 369).bind fun r16 =>
jcall 12 M11 369 (f_X12_w 369 M11) fun v17 M18 =>
(jm_ld 20 M18 r16 (((v17 * ((y : Int) - 1)) + y2_54) - 1)).bind fun v19 =>
if jd_wr v19 = jd_wr 1 then (j_123 1 M18)
else (j_122 M18))) fun j_77 =>
if jd_wr v6 = 0 then (j_77 1)
else (j_77 (-1)))
else (rec ((y : Int) + 1) M5)) jfuel 1 (mm t d rt L)) (fun _ J => frM (fun a => a = 412) (fun _ => False) I J ∧ J 412 0 = 0 ∧ ∀ y, y ≤ h → ∀ x, x ≤ w → J 412 (7 * y + x) = hlC w y (lnF w h p y) x) := by
      intro L hL l0 lA lz
      refine wm_lp2 w (fun k b N => b = (k : Int) + 1 ∧ frM (fun a => a = 412) (fun _ => False) I N ∧ N 412 0 = 0 ∧ (∀ y', y' < y → ∀ x, x ≤ w → N 412 (7 * y' + x) = hlC w y' (lnF w h p y') x) ∧ ∀ x, x ≤ k → N 412 (7 * y + x) = hlC w y (lnF w h p y) x) ?_ (Nat.lt_of_le_of_lt c6 (jfuel_n (by decide))) ⟨by omega, hL, l0, lA, fun x hx => by rw [show x = 0 by omega]; exact lz⟩
      rintro k hk b N ⟨rfl, hN, n0, nA, nB⟩ rec2 hrec2
      obtain ⟨t1, t2, t3⟩ := cS N hN
      have hwN := s_w (t := t) (d := d) (rt := rt) t3
      by_cases ek : k = w
      · subst ek
        (repeat (first | (with_reducible apply wm_o; focus (simp (disch := omega) only [wr_id, Int.toNat_natCast, Int.reduceToNat, tn_lk, tn_kl, if_pos, if_neg, ↓reduceIte, and_self, and_true, true_and, hwN]; with_reducible rfl)) | (with_reducible apply wm_q) | (with_reducible apply wm_c; focus (first | assumption | decide +kernel)) | (with_reducible apply wm_d; focus (simp (disch := omega) only [wr_id, Int.toNat_natCast, Int.reduceToNat, tn_lk, tn_kl, if_pos, if_neg, ↓reduceIte, and_self, and_true, true_and, hwN]; with_reducible rfl)) | (with_reducible apply wm_t; focus (first | omega | (simp (disch := omega) only [wr_id, hwN]; omega) | (simp (disch := omega) only [wr_id, hwN]; done))) | (with_reducible apply wm_f; focus (first | omega | (simp (disch := omega) only [wr_id, hwN]; omega) | (simp (disch := omega) only [wr_id, hwN]; done)))))
        refine hrec (y + 1) _ _ (by omega) (by omega) ⟨by omega, hN, n0, fun y' hy' x hx => ?_⟩
        by_cases ey : y' = y
        · rw [ey]; exact nB x hx
        · exact nA y' (by omega) x hx
      · have hkw : k < w := by omega
        have er : ((k : Int) + 1 - 1) + (y : Int) = ((k + y : Nat) : Int) := by omega
        have hr2 : jm_rm (((k : Int) + 1 - 1) + (y : Int)) 2 = some (((k + y) % 2 : Nat) : Int) := by
          rw [er]; exact rm_n (b := 2) (by omega) (by omega) (by omega)
        have ei : ((7 : Int) * (y : Int)) + ((k : Int) + 1) = ((7 * y + (k + 1) : Nat) : Int) := by omega
        have ej : ((7 * y + (k + 1) : Nat) : Int) - 1 = ((7 * y + k : Nat) : Int) := by omega
        have nk := nB k (Nat.le_refl k)
        have hov := over_iff sq hp (y := y) (x := k) hyh hkw
        have hs := hlC_s w y (lnF w h p y) k
        unfold stH at hs
        rw [hov] at hs
        have fin : ∀ v : Int, v = hlC w y (lnF w h p y) (k + 1) → wm t d rt (rec2 ((k : Int) + 1 + 1) (mm t d rt (up N 412 (7 * y + (k + 1)) v))) (fun _ J => frM (fun a => a = 412) (fun _ => False) I J ∧ J 412 0 = 0 ∧ ∀ y, y ≤ h → ∀ x, x ≤ w → J 412 (7 * y + x) = hlC w y (lnF w h p y) x) := by
          intro v hv
          refine hrec2 (k + 1) _ _ (by omega) (by omega) ⟨by omega, frM_up hN (by decide) rfl, by rw [up_g, if_neg (by omega)]; exact n0, fun y' hy' x hx => ?_, fun x hx => ?_⟩
          · rw [up_g, if_neg (by omega)]; exact nA y' hy' x hx
          · rw [up_g]
            by_cases ex : x = k + 1
            · rw [if_pos (by omega), ex, hv]
            · rw [if_neg (by omega)]; exact nB x (by omega)
        have w1 := wr_1
        by_cases zi : 1 ≤ y ∧ y ≤ h - 1
        · have in1 := fun (M : jMem) => m_in_t (x := (y : Int)) (a := 1) (b := (h : Int) - 1) (M := M) (i32 (by omega) (by omega)) (i32 (by omega) (by omega)) (i32 (by omega) (by omega)) (by omega)
          obtain ⟨q, hq⟩ : ∃ q, q = w * (y - 1) + k := ⟨_, rfl⟩
          have hqn : q < n := by
            have h1 : w * (y - 1) + w ≤ w * h := by
              have := Nat.mul_le_mul_left w (show y - 1 + 1 ≤ h by omega)
              rw [Nat.mul_add, Nat.mul_one] at this
              exact this
            omega
          have eq : ((w : Int) * ((y : Int) - 1)) + ((k : Int) + 1) - 1 = (q : Int) := by
            rw [show (y : Int) - 1 = ((y - 1 : Nat) : Int) by omega, hq, Int.natCast_add, Int.natCast_mul]; omega
          have n11 : N 411 q = p.getD q (-1) := by rw [hN.1 411 (by decide) (by decide)]; exact hW q hqn
          rw [decide_eq_true zi, Bool.true_and, ← hq] at hs
          have h3 := (p_wy hp q).2.2
          by_cases zo : p.getD q (-1) = 1
          · rw [zo] at n11 hs
            rw [if_pos (show ((1 : Int) == 1) = true by decide)] at hs
            by_cases zp : (k + y) % 2 = 0
            · rw [if_pos zp] at hs
              (repeat (first | (with_reducible apply wm_o; focus (simp (disch := omega) only [wr_id, Int.toNat_natCast, Int.reduceToNat, tn_lk, tn_kl, if_pos, if_neg, ↓reduceIte, and_self, and_true, true_and, hwN, hr2, FM, t1, t2, in1, eq, n11, ej, nk, ei]; with_reducible rfl)) | (with_reducible apply wm_q) | (with_reducible apply wm_c; focus (first | assumption | decide +kernel)) | (with_reducible apply wm_d; focus (simp (disch := omega) only [wr_id, Int.toNat_natCast, Int.reduceToNat, tn_lk, tn_kl, if_pos, if_neg, ↓reduceIte, and_self, and_true, true_and, hwN, hr2, FM, t1, t2, in1, eq, n11, ej, nk, ei]; with_reducible rfl)) | (with_reducible apply wm_t; focus (first | omega | (simp (disch := omega) only [wr_id, hwN, hr2, FM, t1, t2, in1, eq, n11, ej, nk, ei]; omega) | (simp (disch := omega) only [wr_id, hwN, hr2, FM, t1, t2, in1, eq, n11, ej, nk, ei]; done))) | (with_reducible apply wm_f; focus (first | omega | (simp (disch := omega) only [wr_id, hwN, hr2, FM, t1, t2, in1, eq, n11, ej, nk, ei]; omega) | (simp (disch := omega) only [wr_id, hwN, hr2, FM, t1, t2, in1, eq, n11, ej, nk, ei]; done)))))
              exact fin _ (by rw [hs]; omega)
            · rw [if_neg zp] at hs
              (repeat (first | (with_reducible apply wm_o; focus (simp (disch := omega) only [wr_id, Int.toNat_natCast, Int.reduceToNat, tn_lk, tn_kl, if_pos, if_neg, ↓reduceIte, and_self, and_true, true_and, hwN, hr2, FM, t1, t2, in1, eq, n11, ej, nk, ei]; with_reducible rfl)) | (with_reducible apply wm_q) | (with_reducible apply wm_c; focus (first | assumption | decide +kernel)) | (with_reducible apply wm_d; focus (simp (disch := omega) only [wr_id, Int.toNat_natCast, Int.reduceToNat, tn_lk, tn_kl, if_pos, if_neg, ↓reduceIte, and_self, and_true, true_and, hwN, hr2, FM, t1, t2, in1, eq, n11, ej, nk, ei]; with_reducible rfl)) | (with_reducible apply wm_t; focus (first | omega | (simp (disch := omega) only [wr_id, hwN, hr2, FM, t1, t2, in1, eq, n11, ej, nk, ei]; omega) | (simp (disch := omega) only [wr_id, hwN, hr2, FM, t1, t2, in1, eq, n11, ej, nk, ei]; done))) | (with_reducible apply wm_f; focus (first | omega | (simp (disch := omega) only [wr_id, hwN, hr2, FM, t1, t2, in1, eq, n11, ej, nk, ei]; omega) | (simp (disch := omega) only [wr_id, hwN, hr2, FM, t1, t2, in1, eq, n11, ej, nk, ei]; done)))))
              exact fin _ (by rw [hs]; omega)
          · rw [if_neg (show ¬ ((p.getD q (-1) == 1) = true) by simpa using zo)] at hs
            generalize p.getD q (-1) = g at n11 h3 zo
            by_cases zp : (k + y) % 2 = 0
            · rw [if_pos zp] at hs
              (repeat (first | (with_reducible apply wm_o; focus (simp (disch := omega) only [wr_id, Int.toNat_natCast, Int.reduceToNat, tn_lk, tn_kl, if_pos, if_neg, ↓reduceIte, and_self, and_true, true_and, hwN, hr2, FM, t1, t2, in1, eq, n11, ej, nk, ei, w0]; with_reducible rfl)) | (with_reducible apply wm_q) | (with_reducible apply wm_c; focus (first | assumption | decide +kernel)) | (with_reducible apply wm_d; focus (simp (disch := omega) only [wr_id, Int.toNat_natCast, Int.reduceToNat, tn_lk, tn_kl, if_pos, if_neg, ↓reduceIte, and_self, and_true, true_and, hwN, hr2, FM, t1, t2, in1, eq, n11, ej, nk, ei, w0]; with_reducible rfl)) | (with_reducible apply wm_t; focus (first | omega | (simp (disch := omega) only [wr_id, hwN, hr2, FM, t1, t2, in1, eq, n11, ej, nk, ei, w0]; omega) | (simp (disch := omega) only [wr_id, hwN, hr2, FM, t1, t2, in1, eq, n11, ej, nk, ei, w0]; done))) | (with_reducible apply wm_f; focus (first | omega | (simp (disch := omega) only [wr_id, hwN, hr2, FM, t1, t2, in1, eq, n11, ej, nk, ei, w0]; omega) | (simp (disch := omega) only [wr_id, hwN, hr2, FM, t1, t2, in1, eq, n11, ej, nk, ei, w0]; done)))))
              exact fin _ (by rw [hs])
            · rw [if_neg zp] at hs
              (repeat (first | (with_reducible apply wm_o; focus (simp (disch := omega) only [wr_id, Int.toNat_natCast, Int.reduceToNat, tn_lk, tn_kl, if_pos, if_neg, ↓reduceIte, and_self, and_true, true_and, hwN, hr2, FM, t1, t2, in1, eq, n11, ej, nk, ei, w0]; with_reducible rfl)) | (with_reducible apply wm_q) | (with_reducible apply wm_c; focus (first | assumption | decide +kernel)) | (with_reducible apply wm_d; focus (simp (disch := omega) only [wr_id, Int.toNat_natCast, Int.reduceToNat, tn_lk, tn_kl, if_pos, if_neg, ↓reduceIte, and_self, and_true, true_and, hwN, hr2, FM, t1, t2, in1, eq, n11, ej, nk, ei, w0]; with_reducible rfl)) | (with_reducible apply wm_t; focus (first | omega | (simp (disch := omega) only [wr_id, hwN, hr2, FM, t1, t2, in1, eq, n11, ej, nk, ei, w0]; omega) | (simp (disch := omega) only [wr_id, hwN, hr2, FM, t1, t2, in1, eq, n11, ej, nk, ei, w0]; done))) | (with_reducible apply wm_f; focus (first | omega | (simp (disch := omega) only [wr_id, hwN, hr2, FM, t1, t2, in1, eq, n11, ej, nk, ei, w0]; omega) | (simp (disch := omega) only [wr_id, hwN, hr2, FM, t1, t2, in1, eq, n11, ej, nk, ei, w0]; done)))))
              exact fin _ (by rw [hs])
        · have in1 := fun (M : jMem) => m_in_f (x := (y : Int)) (a := 1) (b := (h : Int) - 1) (M := M) (i32 (by omega) (by omega)) (i32 (by omega) (by omega)) (i32 (by omega) (by omega)) (by omega)
          rw [decide_eq_false zi, Bool.false_and, if_neg (show ¬ (false = true) by decide)] at hs
          by_cases zp : (k + y) % 2 = 0
          · rw [if_pos zp] at hs
            (repeat (first | (with_reducible apply wm_o; focus (simp (disch := omega) only [wr_id, Int.toNat_natCast, Int.reduceToNat, tn_lk, tn_kl, if_pos, if_neg, ↓reduceIte, and_self, and_true, true_and, hwN, hr2, FM, t1, t2, in1, ej, nk, ei, w0]; with_reducible rfl)) | (with_reducible apply wm_q) | (with_reducible apply wm_c; focus (first | assumption | decide +kernel)) | (with_reducible apply wm_d; focus (simp (disch := omega) only [wr_id, Int.toNat_natCast, Int.reduceToNat, tn_lk, tn_kl, if_pos, if_neg, ↓reduceIte, and_self, and_true, true_and, hwN, hr2, FM, t1, t2, in1, ej, nk, ei, w0]; with_reducible rfl)) | (with_reducible apply wm_t; focus (first | omega | (simp (disch := omega) only [wr_id, hwN, hr2, FM, t1, t2, in1, ej, nk, ei, w0]; omega) | (simp (disch := omega) only [wr_id, hwN, hr2, FM, t1, t2, in1, ej, nk, ei, w0]; done))) | (with_reducible apply wm_f; focus (first | omega | (simp (disch := omega) only [wr_id, hwN, hr2, FM, t1, t2, in1, ej, nk, ei, w0]; omega) | (simp (disch := omega) only [wr_id, hwN, hr2, FM, t1, t2, in1, ej, nk, ei, w0]; done)))))
            exact fin _ (by rw [hs])
          · rw [if_neg zp] at hs
            (repeat (first | (with_reducible apply wm_o; focus (simp (disch := omega) only [wr_id, Int.toNat_natCast, Int.reduceToNat, tn_lk, tn_kl, if_pos, if_neg, ↓reduceIte, and_self, and_true, true_and, hwN, hr2, FM, t1, t2, in1, ej, nk, ei, w0]; with_reducible rfl)) | (with_reducible apply wm_q) | (with_reducible apply wm_c; focus (first | assumption | decide +kernel)) | (with_reducible apply wm_d; focus (simp (disch := omega) only [wr_id, Int.toNat_natCast, Int.reduceToNat, tn_lk, tn_kl, if_pos, if_neg, ↓reduceIte, and_self, and_true, true_and, hwN, hr2, FM, t1, t2, in1, ej, nk, ei, w0]; with_reducible rfl)) | (with_reducible apply wm_t; focus (first | omega | (simp (disch := omega) only [wr_id, hwN, hr2, FM, t1, t2, in1, ej, nk, ei, w0]; omega) | (simp (disch := omega) only [wr_id, hwN, hr2, FM, t1, t2, in1, ej, nk, ei, w0]; done))) | (with_reducible apply wm_f; focus (first | omega | (simp (disch := omega) only [wr_id, hwN, hr2, FM, t1, t2, in1, ej, nk, ei, w0]; omega) | (simp (disch := omega) only [wr_id, hwN, hr2, FM, t1, t2, in1, ej, nk, ei, w0]; done)))))
            exact fin _ (by rw [hs])
    by_cases zy : y = 0
    · subst zy
      (repeat (first | (with_reducible apply wm_o; focus (simp (disch := omega) only [wr_id, Int.toNat_natCast, Int.reduceToNat, tn_lk, tn_kl, if_pos, if_neg, ↓reduceIte, and_self, and_true, true_and, FM, s1, s2]; with_reducible rfl)) | (with_reducible apply wm_q) | (with_reducible apply wm_c; focus (first | assumption | decide +kernel)) | (with_reducible apply wm_d; focus (simp (disch := omega) only [wr_id, Int.toNat_natCast, Int.reduceToNat, tn_lk, tn_kl, if_pos, if_neg, ↓reduceIte, and_self, and_true, true_and, FM, s1, s2]; with_reducible rfl)) | (with_reducible apply wm_t; focus (first | omega | (simp (disch := omega) only [wr_id, FM, s1, s2]; omega) | (simp (disch := omega) only [wr_id, FM, s1, s2]; done))) | (with_reducible apply wm_f; focus (first | omega | (simp (disch := omega) only [wr_id, FM, s1, s2]; omega) | (simp (disch := omega) only [wr_id, FM, s1, s2]; done)))))
      exact row J hJ j0 jA (by rw [j0]; rfl)
    · have ei : (7 : Int) * (y : Int) = ((7 * y : Nat) : Int) := by omega
      have ej : ((7 * y : Nat) : Int) - 7 = ((7 * (y - 1) : Nat) : Int) := by omega
      have jp : J 412 (7 * (y - 1)) = -(((y - 1) % 2 : Nat) : Int) := jA (y - 1) (by omega) 0 (by omega)
      have hr2 : jm_rm (y : Int) 2 = some ((y % 2 : Nat) : Int) := rm_n (b := 2) (by omega) (by omega) (by omega)
      have fin : ∀ v : Int, v = hlC w y (lnF w h p y) 0 → wm t d rt (jlp2 (fun rec_54 (y2_54 : Int) (M_54 : jMem) =>
jcall 12 M_54 369 (f_X12_w 369 M_54) fun v4 M5 =>
if jd_wr y2_54 ≤ jd_wr v4 then ((jm_rm ((y2_54 - 1) + (y : Int)) 2).bind fun v6 =>
jjq (fun (z0_77 : Int) =>
(jm_gR 12 21 M5 369).bind fun r7 =>
(jm_gI 12 18 M5 369).bind fun v8 =>
(jm_ld 20 M5 r7 v8).bind fun v9 =>
jbd (f_X12_in (y : Int) 1 (v9 - 1) M5) fun v10 M11 =>
jjq (fun (z0_123 : Int) (M_123 : jMem) =>
(jm_gR 12 61 M_123 369).bind fun r12 =>
(jm_gR 12 61 M_123 369).bind fun r13 =>
(jm_ld 20 M_123 r13 (((7 * (y : Int)) + y2_54) - 1)).bind fun v14 =>
jjq (fun (z0_161 : Int) =>
(jm_st 20 M_123 r12 ((7 * (y : Int)) + y2_54) (v14 + z0_161)).bind fun M15 =>
rec_54 (y2_54 + 1) M15) fun j_161 =>
if jd_wr z0_123 = 0 then (j_161 z0_77)
else (j_161 ((-3) * z0_77))) fun j_123 =>
jjq (fun (M_122 : jMem) =>
j_123 0 M_122) fun j_122 =>
if jd_wr v10 = 0 then (j_122 M11)
else ((jm_gR 12 60 M11 369).bind fun r16 =>
jcall 12 M11 369 (f_X12_w 369 M11) fun v17 M18 =>
(jm_ld 20 M18 r16 (((v17 * ((y : Int) - 1)) + y2_54) - 1)).bind fun v19 =>
if jd_wr v19 = jd_wr 1 then (j_123 1 M18)
else (j_122 M18))) fun j_77 =>
if jd_wr v6 = 0 then (j_77 1)
else (j_77 (-1)))
else (rec ((y : Int) + 1) M5)) jfuel 1 (mm t d rt (up J 412 (7 * y) v))) (fun _ J => frM (fun a => a = 412) (fun _ => False) I J ∧ J 412 0 = 0 ∧ ∀ y, y ≤ h → ∀ x, x ≤ w → J 412 (7 * y + x) = hlC w y (lnF w h p y) x) := by
        intro v hv
        refine row _ (frM_up hJ (by decide) rfl) (by rw [up_g, if_neg (by omega)]; exact j0) (fun y' hy' x hx => ?_) (by rw [up_g, if_pos rfl]; exact hv)
        rw [up_g, if_neg (by omega)]; exact jA y' hy' x hx
      by_cases zp : y % 2 = 0
      · (repeat (first | (with_reducible apply wm_o; focus (simp (disch := omega) only [wr_id, Int.toNat_natCast, Int.reduceToNat, tn_lk, tn_kl, if_pos, if_neg, ↓reduceIte, and_self, and_true, true_and, FM, s1, s2, ej, jp, hr2, ei]; with_reducible rfl)) | (with_reducible apply wm_q) | (with_reducible apply wm_c; focus (first | assumption | decide +kernel)) | (with_reducible apply wm_d; focus (simp (disch := omega) only [wr_id, Int.toNat_natCast, Int.reduceToNat, tn_lk, tn_kl, if_pos, if_neg, ↓reduceIte, and_self, and_true, true_and, FM, s1, s2, ej, jp, hr2, ei]; with_reducible rfl)) | (with_reducible apply wm_t; focus (first | omega | (simp (disch := omega) only [wr_id, FM, s1, s2, ej, jp, hr2, ei]; omega) | (simp (disch := omega) only [wr_id, FM, s1, s2, ej, jp, hr2, ei]; done))) | (with_reducible apply wm_f; focus (first | omega | (simp (disch := omega) only [wr_id, FM, s1, s2, ej, jp, hr2, ei]; omega) | (simp (disch := omega) only [wr_id, FM, s1, s2, ej, jp, hr2, ei]; done)))))
        exact fin _ (by show _ = -((y % 2 : Nat) : Int); omega)
      · (repeat (first | (with_reducible apply wm_o; focus (simp (disch := omega) only [wr_id, Int.toNat_natCast, Int.reduceToNat, tn_lk, tn_kl, if_pos, if_neg, ↓reduceIte, and_self, and_true, true_and, FM, s1, s2, ej, jp, hr2, ei]; with_reducible rfl)) | (with_reducible apply wm_q) | (with_reducible apply wm_c; focus (first | assumption | decide +kernel)) | (with_reducible apply wm_d; focus (simp (disch := omega) only [wr_id, Int.toNat_natCast, Int.reduceToNat, tn_lk, tn_kl, if_pos, if_neg, ↓reduceIte, and_self, and_true, true_and, FM, s1, s2, ej, jp, hr2, ei]; with_reducible rfl)) | (with_reducible apply wm_t; focus (first | omega | (simp (disch := omega) only [wr_id, FM, s1, s2, ej, jp, hr2, ei]; omega) | (simp (disch := omega) only [wr_id, FM, s1, s2, ej, jp, hr2, ei]; done))) | (with_reducible apply wm_f; focus (first | omega | (simp (disch := omega) only [wr_id, FM, s1, s2, ej, jp, hr2, ei]; omega) | (simp (disch := omega) only [wr_id, FM, s1, s2, ej, jp, hr2, ei]; done)))))
        exact fin _ (by show _ = -((y % 2 : Nat) : Int); omega)
end HI
