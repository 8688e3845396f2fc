/-! ===== lots, seasons ===== -/
/-- law q of couple k -/
def LV (ifs : Nat → List LwI) (xs : Nat → List CI) (w nh : Nat) (ρ : Nat → Int) (k q : Nat) : Int := clV (if q = 1 then 100 else 99) (lwV jdv jnl jlt (rV w nh ρ k) (ifs q) (xs q))
def mixF (a b : Int) : Int := jd_xor (((jd_xor a b) * 1103515245) + 12345) (jd_ushr (((jd_xor a b) * 1103515245) + 12345) 15)
def lotF (sd wh : Int) : Int := Int.tmod (jd_wr (jd_ushr (mixF (mixF sd 169) wh) 1)) (jd_wr 100)
theorem ushr1_nn (v : Int) : 0 ≤ jd_wr (jd_ushr v 1) := by
  unfold jd_wr jd_ushr
  rw [Int32.ofInt_toInt, ← Int32.toInt_toBitVec, UInt32.toBitVec_toInt32, UInt32.toBitVec_shiftRight, Int32.toBitVec_toUInt32]
  have e : ∀ X : BitVec 32, 0 ≤ (X >>> (1 : Nat)).toInt := fun X => by
    rw [BitVec.toInt_eq_toNat_of_lt (by rw [BitVec.toNat_ushiftRight, Nat.shiftRight_eq_div_pow]; have := X.isLt; omega)]
    omega
  exact e _
theorem wr_100 : jd_wr 100 = 100 := by decide +kernel
theorem lot_b (sd wh : Int) : 0 ≤ lotF sd wh ∧ lotF sd wh < 100 := by
  unfold lotF
  rw [wr_100]
  have h := ushr1_nn (mixF (mixF sd 169) wh)
  rw [Int.tmod_eq_emod_of_nonneg h]
  omega
/-- who loosens in row ρ -/
def lsL (ifs : Nat → List LwI) (xs : Nat → List CI) (w nh : Nat) (sd : Int) (ρ : Nat → Int) (k : Nat) : Bool := rLies ρ k && decide (lotF sd (32 * ρ 72 + (k : Int)) < LV ifs xs w nh ρ k 1)
/-- n seasons on -/
def gsR (ifs : Nat → List LwI) (xs : Nat → List CI) (w nh : Nat) (sd : Int) (ρ : Nat → Int) : Nat → Nat → Int
  | 0 => ρ
  | m + 1 => rAge (lsL ifs xs w nh sd (gsR ifs xs w nh sd ρ m)) (gsR ifs xs w nh sd ρ m)
theorem shr_n {a k : Nat} (ha : a < 2147483648) (hk : k < 32) : jd_shr (a : Int) (k : Int) = ((a >>> k : Nat) : Int) := by
  have hk' : ∀ k : Nat, k < 32 → ((Int32.ofInt (k : Int) &&& 31).toBitVec.smod 32).toNat = k := by decide +kernel
  unfold jd_shr
  rw [← Int32.toInt_toBitVec, Int32.toBitVec_shiftRight, bv_n]
  rw [BitVec.sshiftRight', hk' k hk]
  have hm : (BitVec.ofNat 32 a).msb = false := by
    rw [BitVec.msb_eq_false_iff_two_mul_lt, BitVec.toNat_ofNat, Nat.mod_eq_of_lt (by omega)]
    omega
  rw [BitVec.sshiftRight_eq_of_msb_false hm]
  apply bv_i
  · rw [BitVec.toNat_ushiftRight, BitVec.toNat_ofNat, Nat.mod_eq_of_lt (by omega)]
  · rw [Nat.shiftRight_eq_div_pow]
    exact Nat.lt_of_le_of_lt (Nat.div_le_self _ _) ha
def bN (p : Nat → Bool) : Nat → Nat
  | 0 => 0
  | m + 1 => if p m then bN p m ||| (1 <<< m) else bN p m
theorem bN_lt (p : Nat → Bool) : ∀ m, m ≤ 20 → bN p m < 2 ^ m
  | 0, _ => by unfold bN; decide
  | m + 1, hm => by
    have ih := bN_lt p m (by omega)
    have h2 : 2 ^ m < 2 ^ (m + 1) := Nat.pow_lt_pow_right (by decide) (by omega)
    unfold bN
    split
    · exact Nat.or_lt_two_pow (by omega) (by rw [Nat.one_shiftLeft]; exact h2)
    · omega
theorem bitF_n (p : Nat → Bool) : ∀ m, m ≤ 20 → bitF p m = (bN p m : Int)
  | 0, _ => rfl
  | m + 1, hm => by
    have ih := bitF_n p m (by omega)
    have hl := bN_lt p m (by omega)
    have h20 : 2 ^ m ≤ 2 ^ 19 := Nat.pow_le_pow_right (by decide) (by omega)
    have e19 : 2 ^ 19 = 524288 := by decide
    unfold bitF bN
    rw [ih]
    split
    · rw [shl_1 m (by omega), or_n (by omega) (by rw [Nat.one_shiftLeft]; omega)]
    · rfl
theorem bN_tb (p : Nat → Bool) (k : Nat) : ∀ m, (bN p m).testBit k = (decide (k < m) && p k)
  | 0 => by simp [bN]
  | m + 1 => by
    have ih := bN_tb p k m
    unfold bN
    by_cases q : p m = true
    · rw [if_pos q, Nat.testBit_or, ih, tb_1s]
      by_cases e : k = m
      · subst e; simp [q]
      · have : decide (k < m) = decide (k < m + 1) := by
          rw [Bool.eq_iff_iff]; simp; omega
        simp [e, this]
    · rw [if_neg q, ih]
      by_cases e : k = m
      · subst e
        have : p k = false := by simpa using q
        simp [this]
      · have : decide (k < m) = decide (k < m + 1) := by
          rw [Bool.eq_iff_iff]; simp; omega
        rw [this]
theorem bit_at (p : Nat → Bool) {k m : Nat} (hm : m ≤ 20) (hk : k < m) : jd_wr (jd_and (jd_shr (bitF p m) (k : Int)) 1) = 0 ↔ p k = false := by
  have hl := bN_lt p m hm
  have h20 : 2 ^ m ≤ 2 ^ 20 := Nat.pow_le_pow_right (by decide) hm
  have e20 : 2 ^ 20 = 1048576 := by decide
  have h3 : bN p m >>> k ≤ bN p m := by rw [Nat.shiftRight_eq_div_pow]; exact Nat.div_le_self _ _
  have e := and_n (a := bN p m >>> k) (b := 1) (by omega) (by decide)
  have tb := bN_tb p k m
  rw [decide_eq_true hk, Bool.true_and] at tb
  rw [bitF_n p m hm, shr_n (by omega) (by omega), show (1 : Int) = ((1 : Nat) : Int) from rfl, e, Nat.and_one_is_mod]
  rw [wr_n _ (by omega), ← tb, Nat.testBit_eq_decide_div_mod_eq, Nat.shiftRight_eq_div_pow]
  have := Nat.mod_lt (bN p m / 2 ^ k) (show 2 > 0 by decide)
  rw [decide_eq_false_iff_not]
  omega
section SG
variable {t d rt : Nat} {I J K : Nat → Nat → Int} {lv w h n nh s k : Nat} {hl : Nat → Bool} {sd : Int} {ifs : Nat → List LwI} {xs : Nat → List CI} {ρ σ : Nat → Int}
theorem c_held (sq : sqOK w h n nh hl) (c : cfC I t w h n nh hl sd ifs xs) (hs : s ∈ stL) (hr : rOK w n hl ρ) (hst : stR I s w ρ) (hk : k < 18) (h0 : 0 ≤ ρ k) {q : Nat} (hq : q < 3) : wm t d rt (f_X2_held (t + 8) (q : Int) s (k : Int) (nh : Int) (mm t d rt I)) (fun r J => jd_wr r = LV ifs xs w nh ρ k q ∧ frm (fun a => a = t + 12) I J) :=
  w_held (tx_k c.1).2.2.1 hs ⟨sq.1, sq.2.1⟩ sq.2.2.2.2.2.2.1 hr hk h0 hst hq (c.2.2.2.2.2.2 q hq)
theorem LV_b (q : Nat) : 0 ≤ LV ifs xs w nh ρ k q ∧ LV ifs xs w nh ρ k q ≤ 100 := by
  unfold LV
  split
  · exact clV_b (by decide)
  · have := clV_b (most := 99) (v := lwV jdv jnl jlt (rV w nh ρ k) (ifs q) (xs q)) (by decide)
    omega
theorem q_lot {a b : Int} {M : jMem} : f_X11_lotOfHundred a b M = some (lotF a b, M) := by
  unfold f_X11_lotOfHundred f_X11_mixed
  rw [jbd_s, jbd_s]
  show (jm_rm (jd_ushr (mixF (mixF a 169) b) 1) 100).bind _ = _
  unfold jm_rm
  rw [if_neg (by rw [wr_100]; decide)]
  rfl
theorem scr_12 (ht : t ∈ [3, 16]) : ∀ a, a = t + 12 → scrC a := fun a ha => by
  have : t = 3 ∨ t = 16 := by simpa using ht
  unfold scrC
  omega
theorem c_loosen (sq : sqOK w h n nh hl) (c : cfC I t w h n nh hl sd ifs xs) (hs : s ∈ stL) (hr : rOK w n hl ρ) (hst : stR I s w ρ) : wm t d rt (f_X11_couplesThatLoosen 0 s (mm t d rt I)) (fun r J => r = bitF (lsL ifs xs w nh sd ρ) 18 ∧ frm (fun a => a = t + 12) I J) := by
  have hn := sq.2.2.2.2.2.2.1
  have htx := c.1
  have kt := tx_k htx
  have kl := kt.2.1
  have ks : (K0 s).1 = 6 ∧ s < 418 := ⟨(FState_k s hs).1, (FState_k s hs).2.1⟩
  have hsg := stL_ge hs
  have w0 := wr_0
  unfold f_X11_couplesThatLoosen
  refine wm_lp3 18 (fun i a y J => a = bitF (lsL ifs xs w nh sd ρ) i ∧ y = (i : Int) ∧ frm (fun a => a = t + 12) I J) ?_ (jfuel_n (by decide)) ⟨rfl, rfl, frm_refl _ _⟩
  rintro i hi a y J ⟨rfl, rfl, hJ⟩ rec hrec
  have cJ := cfC_frm hJ (fun a a1 a2 => by omega) c
  have sJ := stR_frm hJ (fun a a1 a2 => by omega) hst
  refine wm_if (fun cc => ?_) (fun cc => ?_)
  · simp (disch := omega) only [wr_id] at cc
    have hi2 : i < 18 := by omega
    have hli := w_lies (t := t) (d := d) (rt := rt) hs hr hn sJ hi2
    by_cases z : 0 ≤ ρ i
    · rw [if_pos z] at hli
      have c5 := cJ.2.2.2.2.1
      (repeat (first | (with_reducible apply wm_o; focus (simp (disch := omega) only [wr_id, Int.toNat_natCast, Int.reduceToNat, tn_lk, tn_kl, if_pos, if_neg, ↓reduceIte, and_self, and_true, true_and, hli, FX, FText htx, c5]; with_reducible rfl)) | (with_reducible apply wm_q) | (with_reducible apply wm_c; focus (first | assumption | decide +kernel)) | (with_reducible apply wm_d; focus (simp (disch := omega) only [wr_id, Int.toNat_natCast, Int.reduceToNat, tn_lk, tn_kl, if_pos, if_neg, ↓reduceIte, and_self, and_true, true_and, hli, FX, FText htx, c5]; with_reducible rfl)) | (with_reducible apply wm_t; focus (first | omega | (simp (disch := omega) only [wr_id, hli, FX, FText htx, c5]; omega) | (simp (disch := omega) only [wr_id, hli, FX, FText htx, c5]; done))) | (with_reducible apply wm_f; focus (first | omega | (simp (disch := omega) only [wr_id, hli, FX, FText htx, c5]; omega) | (simp (disch := omega) only [wr_id, hli, FX, FText htx, c5]; done)))))
      refine wm_b (c_held (q := 1) sq cJ hs hr sJ hi2 z (by decide)) (fun v L hL => ?_)
      obtain ⟨l1, l2⟩ := hL
      have hL2 := frm_trans hJ l2
      have cL := cfC_frm l2 (fun a a1 a2 => by omega) cJ
      have sL := stR_frm l2 (fun a a1 a2 => by omega) sJ
      have lb := LV_b (ifs := ifs) (xs := xs) (w := w) (nh := nh) (ρ := ρ) (k := i) 1
      have lt := lot_b sd (32 * ρ 72 + (i : Int))
      have c4 := cL.2.2.2.1
      have s7 := sL.2.2.2.2.2.2.1
      have ql := fun (M : jMem) => q_lot (a := sd) (b := 32 * ρ 72 + (i : Int)) (M := M)
      have wl : jd_wr (lotF sd (32 * ρ 72 + (i : Int))) = lotF sd (32 * ρ 72 + (i : Int)) := wr_id (by omega) (by omega)
      by_cases zl : lotF sd (32 * ρ 72 + (i : Int)) < LV ifs xs w nh ρ i 1
      · have eb : bitF (lsL ifs xs w nh sd ρ) (i + 1) = jd_or (bitF (lsL ifs xs w nh sd ρ) i) (jd_shl 1 (i : Int)) := by
          rw [bitF, if_pos (by unfold lsL rLies; rw [decide_eq_true z, decide_eq_true zl]; rfl)]
        (repeat (first | (with_reducible apply wm_o; focus (simp (disch := omega) only [wr_id, Int.toNat_natCast, Int.reduceToNat, tn_lk, tn_kl, if_pos, if_neg, ↓reduceIte, and_self, and_true, true_and, FX, FText htx, FState hs, c4, s7, ql, l1, wl]; with_reducible rfl)) | (with_reducible apply wm_q) | (with_reducible apply wm_c; focus (first | assumption | decide +kernel)) | (with_reducible apply wm_d; focus (simp (disch := omega) only [wr_id, Int.toNat_natCast, Int.reduceToNat, tn_lk, tn_kl, if_pos, if_neg, ↓reduceIte, and_self, and_true, true_and, FX, FText htx, FState hs, c4, s7, ql, l1, wl]; with_reducible rfl)) | (with_reducible apply wm_t; focus (first | omega | (simp (disch := omega) only [wr_id, FX, FText htx, FState hs, c4, s7, ql, l1, wl]; omega) | (simp (disch := omega) only [wr_id, FX, FText htx, FState hs, c4, s7, ql, l1, wl]; done))) | (with_reducible apply wm_f; focus (first | omega | (simp (disch := omega) only [wr_id, FX, FText htx, FState hs, c4, s7, ql, l1, wl]; omega) | (simp (disch := omega) only [wr_id, FX, FText htx, FState hs, c4, s7, ql, l1, wl]; done)))))
        exact hrec (i + 1) _ _ _ (by omega) (by omega) ⟨eb.symm, by omega, hL2⟩
      · have eb : bitF (lsL ifs xs w nh sd ρ) (i + 1) = bitF (lsL ifs xs w nh sd ρ) i := by
          rw [bitF, if_neg (by unfold lsL; rw [decide_eq_false zl, Bool.and_false]; decide)]
        by_cases z0 : LV ifs xs w nh ρ i 1 ≤ 0
        · (repeat (first | (with_reducible apply wm_o; focus (simp (disch := omega) only [wr_id, Int.toNat_natCast, Int.reduceToNat, tn_lk, tn_kl, if_pos, if_neg, ↓reduceIte, and_self, and_true, true_and, FX, FText htx, FState hs, c4, s7, ql, l1, wl]; with_reducible rfl)) | (with_reducible apply wm_q) | (with_reducible apply wm_c; focus (first | assumption | decide +kernel)) | (with_reducible apply wm_d; focus (simp (disch := omega) only [wr_id, Int.toNat_natCast, Int.reduceToNat, tn_lk, tn_kl, if_pos, if_neg, ↓reduceIte, and_self, and_true, true_and, FX, FText htx, FState hs, c4, s7, ql, l1, wl]; with_reducible rfl)) | (with_reducible apply wm_t; focus (first | omega | (simp (disch := omega) only [wr_id, FX, FText htx, FState hs, c4, s7, ql, l1, wl]; omega) | (simp (disch := omega) only [wr_id, FX, FText htx, FState hs, c4, s7, ql, l1, wl]; done))) | (with_reducible apply wm_f; focus (first | omega | (simp (disch := omega) only [wr_id, FX, FText htx, FState hs, c4, s7, ql, l1, wl]; omega) | (simp (disch := omega) only [wr_id, FX, FText htx, FState hs, c4, s7, ql, l1, wl]; done)))))
          exact hrec (i + 1) _ _ _ (by omega) (by omega) ⟨eb.symm, by omega, hL2⟩
        · (repeat (first | (with_reducible apply wm_o; focus (simp (disch := omega) only [wr_id, Int.toNat_natCast, Int.reduceToNat, tn_lk, tn_kl, if_pos, if_neg, ↓reduceIte, and_self, and_true, true_and, FX, FText htx, FState hs, c4, s7, ql, l1, wl]; with_reducible rfl)) | (with_reducible apply wm_q) | (with_reducible apply wm_c; focus (first | assumption | decide +kernel)) | (with_reducible apply wm_d; focus (simp (disch := omega) only [wr_id, Int.toNat_natCast, Int.reduceToNat, tn_lk, tn_kl, if_pos, if_neg, ↓reduceIte, and_self, and_true, true_and, FX, FText htx, FState hs, c4, s7, ql, l1, wl]; with_reducible rfl)) | (with_reducible apply wm_t; focus (first | omega | (simp (disch := omega) only [wr_id, FX, FText htx, FState hs, c4, s7, ql, l1, wl]; omega) | (simp (disch := omega) only [wr_id, FX, FText htx, FState hs, c4, s7, ql, l1, wl]; done))) | (with_reducible apply wm_f; focus (first | omega | (simp (disch := omega) only [wr_id, FX, FText htx, FState hs, c4, s7, ql, l1, wl]; omega) | (simp (disch := omega) only [wr_id, FX, FText htx, FState hs, c4, s7, ql, l1, wl]; done)))))
          exact hrec (i + 1) _ _ _ (by omega) (by omega) ⟨eb.symm, by omega, hL2⟩
    · rw [if_neg z] at hli
      have eb : bitF (lsL ifs xs w nh sd ρ) (i + 1) = bitF (lsL ifs xs w nh sd ρ) i := by
        rw [bitF, if_neg (by unfold lsL rLies; rw [decide_eq_false z]; simp)]
      (repeat (first | (with_reducible apply wm_o; focus (simp (disch := omega) only [wr_id, Int.toNat_natCast, Int.reduceToNat, tn_lk, tn_kl, if_pos, if_neg, ↓reduceIte, and_self, and_true, true_and, hli]; with_reducible rfl)) | (with_reducible apply wm_q) | (with_reducible apply wm_c; focus (first | assumption | decide +kernel)) | (with_reducible apply wm_d; focus (simp (disch := omega) only [wr_id, Int.toNat_natCast, Int.reduceToNat, tn_lk, tn_kl, if_pos, if_neg, ↓reduceIte, and_self, and_true, true_and, hli]; with_reducible rfl)) | (with_reducible apply wm_t; focus (first | omega | (simp (disch := omega) only [wr_id, hli]; omega) | (simp (disch := omega) only [wr_id, hli]; done))) | (with_reducible apply wm_f; focus (first | omega | (simp (disch := omega) only [wr_id, hli]; omega) | (simp (disch := omega) only [wr_id, hli]; done)))))
      exact hrec (i + 1) _ _ _ (by omega) (by omega) ⟨eb.symm, by omega, hJ⟩
  · simp (disch := omega) only [wr_id] at cc
    obtain rfl : i = 18 := by omega
    exact wm_r ⟨rfl, hJ⟩
theorem rOK_gs (hr : rOK w n hl ρ) : ∀ m, rOK w n hl (gsR ifs xs w nh sd ρ m)
  | 0 => hr
  | m + 1 => rOK_age (rOK_gs hr m)
theorem c_pass (sq : sqOK w h n nh hl) (c : cfC I t w h n nh hl sd ifs xs) (hs : s ∈ stL) (hr : rOK w n hl ρ) (hst : stR I s w ρ) {m : Nat} (hm : m ≤ 60) : wm t d rt (f_X11_passSeasons 0 s (m : Int) (mm t d rt I)) (fun _ J => frm (fun a => a = t + 12 ∨ stF s a) I J ∧ stR J s w (gsR ifs xs w nh sd ρ m)) := by
  have hn := sq.2.2.2.2.2.2.1
  have kt := tx_k c.1
  have ks : (K0 s).1 = 6 ∧ s < 418 := ⟨(FState_k s hs).1, (FState_k s hs).2.1⟩
  have hsg := stL_ge hs
  unfold f_X11_passSeasons
  refine wm_lp2 m (fun i y J => y = (i : Int) ∧ frm (fun a => a = t + 12 ∨ stF s a) I J ∧ stR J s w (gsR ifs xs w nh sd ρ i)) ?_ (Nat.lt_of_le_of_lt hm (jfuel_n (by decide))) ⟨rfl, frm_refl _ _, hst⟩
  rintro i hi y J ⟨rfl, hJ, sJ⟩ rec hrec
  refine wm_if (fun cc => ?_) (fun cc => ?_)
  · simp (disch := omega) only [wr_id] at cc
    have cJ := cfC_frm hJ (fun a a1 a2 => by unfold stF; omega) c
    have rJ := rOK_gs (ifs := ifs) (xs := xs) (nh := nh) (sd := sd) hr i
    (repeat (first | (with_reducible apply wm_o; focus (simp (disch := omega) only [wr_id, Int.toNat_natCast, Int.reduceToNat, tn_lk, tn_kl, if_pos, if_neg, ↓reduceIte, and_self, and_true, true_and]; with_reducible rfl)) | (with_reducible apply wm_q) | (with_reducible apply wm_c; focus (first | assumption | decide +kernel)) | (with_reducible apply wm_d; focus (simp (disch := omega) only [wr_id, Int.toNat_natCast, Int.reduceToNat, tn_lk, tn_kl, if_pos, if_neg, ↓reduceIte, and_self, and_true, true_and]; with_reducible rfl)) | (with_reducible apply wm_t; focus (first | omega | (simp (disch := omega) only [wr_id]; omega) | (simp (disch := omega) only [wr_id]; done))) | (with_reducible apply wm_f; focus (first | omega | (simp (disch := omega) only [wr_id]; omega) | (simp (disch := omega) only [wr_id]; done)))))
    refine wm_b (c_loosen sq cJ hs rJ sJ) (fun v L hL => ?_)
    obtain ⟨rfl, l2⟩ := hL
    have sL := stR_frm l2 (fun a a1 a2 => by omega) sJ
    (repeat (first | (with_reducible apply wm_o; focus (simp (disch := omega) only [wr_id, Int.toNat_natCast, Int.reduceToNat, tn_lk, tn_kl, if_pos, if_neg, ↓reduceIte, and_self, and_true, true_and]; with_reducible rfl)) | (with_reducible apply wm_q) | (with_reducible apply wm_c; focus (first | assumption | decide +kernel)) | (with_reducible apply wm_d; focus (simp (disch := omega) only [wr_id, Int.toNat_natCast, Int.reduceToNat, tn_lk, tn_kl, if_pos, if_neg, ↓reduceIte, and_self, and_true, true_and]; with_reducible rfl)) | (with_reducible apply wm_t; focus (first | omega | (simp (disch := omega) only [wr_id]; omega) | (simp (disch := omega) only [wr_id]; done))) | (with_reducible apply wm_f; focus (first | omega | (simp (disch := omega) only [wr_id]; omega) | (simp (disch := omega) only [wr_id]; done)))))
    refine wm_b (w_ageAll (L := lsL ifs xs w nh sd (gsR ifs xs w nh sd ρ i)) hs ⟨sq.1, sq.2.1⟩ hn sq.2.2.2.2.1 rJ sL (fun k hk => bit_at _ (by decide) hk)) (fun v2 L2 hL2 => ?_)
    exact hrec (i + 1) _ _ (by omega) (by omega) ⟨by omega, frm_trans (frm_trans hJ (frm_sub l2 (fun a ha => Or.inl ha))) (frm_sub hL2.1 (fun a ha => Or.inr ha)), hL2.2⟩
  · simp (disch := omega) only [wr_id] at cc
    obtain rfl : i = m := by omega
    exact wm_r ⟨hJ, sJ⟩
end SG
