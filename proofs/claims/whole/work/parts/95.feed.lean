/-! ===== calls: feed ===== -/
theorem by_key (X : BitVec 32) (k : Nat) (hk : k ≤ 24) : (X >>> k).signExtend 8 = (X.sshiftRight k).signExtend 8 := by
  apply BitVec.eq_of_getLsbD_eq
  intro i hi
  rw [BitVec.getLsbD_signExtend, BitVec.getLsbD_signExtend, BitVec.getLsbD_ushiftRight, BitVec.getLsbD_sshiftRight]
  simp (disch := omega) only [if_pos, hi, decide_true, Bool.true_and, if_true]
  have h1 : i < 32 := by omega
  have h2 : k + i < 32 := by omega
  have h3 : ¬ 32 ≤ i := by omega
  simp [h1, h2, h3]
theorem by_sh (x : Int) {s : Int} (hs : s = 24 ∨ s = 16 ∨ s = 8 ∨ s = 0) : jd_b (jd_ushr x s) = jd_b (jd_shr x s) := by
  unfold jd_b jd_ushr jd_shr
  rw [Int32.ofInt_toInt, Int32.ofInt_toInt]
  congr 2
  apply Int8.toBitVec.inj
  rw [Int32.toBitVec_toInt8, Int32.toBitVec_toInt8, UInt32.toBitVec_toInt32, UInt32.toBitVec_shiftRight, Int32.toBitVec_shiftRight, Int32.toBitVec_toUInt32]
  rcases hs with rfl | rfl | rfl | rfl
  · exact by_key _ 24 (by decide)
  · exact by_key _ 16 (by decide)
  · exact by_key _ 8 (by decide)
  · exact by_key _ 0 (by decide)
theorem by_rng (v : Int) : -128 ≤ jd_b v ∧ jd_b v < 128 := by
  unfold jd_b
  rw [Int8.toInt_toInt32]
  exact ⟨Int8.le_toInt _, Int8.toInt_lt _⟩
/-- byte k of a number, the highest first -/
def byF (x : Int) (k : Nat) : Int := jd_b (jd_b (jd_shr x (24 - 8 * (k : Int))))
theorem by_stg {A A' B B' : Nat → Int} {T : Nat} {x : Int} (ha : ∀ y, A' y = if y < T then A y else if y < T + 4 then byF x (y - T) else A y) (hb : ∀ y, B' y = if y < T then B y else if y < T + 4 then byF x (y - T) else B y) (h : ∀ i, i < T → A i = B i ∧ -128 ≤ A i ∧ A i < 128) : ∀ i, i < T + 4 → A' i = B' i ∧ -128 ≤ A' i ∧ A' i < 128 := by
  intro i hi
  rw [ha i, hb i]
  by_cases z : i < T
  · rw [if_pos z, if_pos z]; exact h i z
  · rw [if_neg z, if_neg z, if_pos hi, if_pos hi]
    exact ⟨rfl, by unfold byF; exact by_rng _⟩
section PF
variable {t d rt : Nat} {I J K : Nat → Nat → Int} {lv w h n nh : Nat} {hl : Nat → Bool} {sd : Int} {ifs : Nat → List LwI} {xs : Nat → List CI} {ρ σ : Nat → Int} {u : Nat} {H : Nat → Nat → Int} {hd : Nat → Bool} {G : Nat → Nat → Int}
theorem w_addFour {x : Int} {tl : Nat} (h1 : I 1 1 = (tl : Int)) (h2 : tl ≤ 1996) : wm t d rt (f_X7_addFour 1 x (mm t d rt I)) (fun _ J => frm (fun a => a = 1 ∨ a = 2) I J ∧ J 1 1 = ((tl + 4 : Nat) : Int) ∧ ∀ y, J 2 y = if y < tl then I 2 y else if y < tl + 4 then byF x (y - tl) else I 2 y) := by
  unfold f_X7_addFour
  refine wm_lp2 4 (fun i y J => y = 24 - 8 * (i : Int) ∧ frm (fun a => a = 1 ∨ a = 2) I J ∧ J 1 1 = ((tl + i : Nat) : Int) ∧ ∀ y, J 2 y = if y < tl then I 2 y else if y < tl + i then byF x (y - tl) else I 2 y) ?_ (jfuel_n (by decide)) ⟨by decide, frm_refl _ _, h1, fun y => ?_⟩
  · rintro i hi y J ⟨rfl, j1, j2, j3⟩ rec hrec
    refine wm_if (fun c => ?_) (fun c => ?_)
    · simp (disch := omega) only [wr_id] at c
      obtain rfl : i = 4 := by omega
      exact wm_r ⟨j1, j2, j3⟩
    · simp (disch := omega) only [wr_id] at c
      have hi4 : i < 4 := by omega
      have eb : jd_b (jd_b (jd_ushr x (24 - 8 * (i : Int)))) = byF x i := by
        unfold byF
        rw [by_sh x (by omega)]
      (repeat (first | (with_reducible apply wm_o; focus (simp (disch := omega) only [wr_id, Int.toNat_natCast, Int.reduceToNat, tn_lk, tn_kl, if_pos, if_neg, ↓reduceIte, and_self, and_true, true_and, FTape, j2, eb, up_ne]; with_reducible rfl)) | (with_reducible apply wm_q) | (with_reducible apply wm_c; focus (first | assumption | decide +kernel)) | (with_reducible apply wm_d; focus (simp (disch := omega) only [wr_id, Int.toNat_natCast, Int.reduceToNat, tn_lk, tn_kl, if_pos, if_neg, ↓reduceIte, and_self, and_true, true_and, FTape, j2, eb, up_ne]; with_reducible rfl)) | (with_reducible apply wm_t; focus (first | omega | (simp (disch := omega) only [wr_id, FTape, j2, eb, up_ne]; omega) | (simp (disch := omega) only [wr_id, FTape, j2, eb, up_ne]; done))) | (with_reducible apply wm_f; focus (first | omega | (simp (disch := omega) only [wr_id, FTape, j2, eb, up_ne]; omega) | (simp (disch := omega) only [wr_id, FTape, j2, eb, up_ne]; done)))))
      refine hrec (i + 1) _ _ (by omega) (by omega) ⟨by omega, frm_up (frm_up j1 (Or.inr rfl)) (Or.inl rfl), ?_, fun y => ?_⟩
      · rw [up_g, if_pos rfl]; omega
      · rw [up_ne (by decide), up_g]
        by_cases e : y = tl + i
        · rw [if_pos e, if_neg (by omega), if_pos (by omega), e, Nat.add_sub_cancel_left]
        · rw [if_neg e, j3 y]
          by_cases e2 : y < tl
          · rw [if_pos e2, if_pos e2]
          · rw [if_neg e2, if_neg e2]
            by_cases e3 : y < tl + i
            · rw [if_pos e3, if_pos (by omega)]
            · rw [if_neg e3, if_neg (by omega)]
  · by_cases e2 : y < tl
    · rw [if_pos e2]
    · rw [if_neg e2, if_neg (by omega)]
theorem m_put {x : Int} {tl : Nat} (h1 : I 369 2 = (tl : Int)) (h2 : tl ≤ 1996) : wm t d rt (f_X12_put 369 x (mm t d rt I)) (fun _ J => frM (fun a => a = 370) (fun j => j = 2) I J ∧ J 369 2 = ((tl + 4 : Nat) : Int) ∧ ∀ y, J 370 y = if y < tl then I 370 y else if y < tl + 4 then byF x (y - tl) else I 370 y) := by
  unfold f_X12_put
  refine wm_lp2 4 (fun i y J => y = 24 - 8 * (i : Int) ∧ frM (fun a => a = 370) (fun j => j = 2) I J ∧ J 369 2 = ((tl + i : Nat) : Int) ∧ ∀ y, J 370 y = if y < tl then I 370 y else if y < tl + i then byF x (y - tl) else I 370 y) ?_ (jfuel_n (by decide)) ⟨by decide, frM_refl _ _ _, h1, fun y => ?_⟩
  · rintro i hi y J ⟨rfl, j1, j2, j3⟩ rec hrec
    refine wm_if (fun c => ?_) (fun c => ?_)
    · simp (disch := omega) only [wr_id] at c
      obtain rfl : i = 4 := by omega
      exact wm_r ⟨j1, j2, j3⟩
    · simp (disch := omega) only [wr_id] at c
      have hi4 : i < 4 := by omega
      have eb : jd_b (jd_b (jd_shr x (24 - 8 * (i : Int)))) = byF x i := rfl
      (repeat (first | (with_reducible apply wm_o; focus (simp (disch := omega) only [wr_id, Int.toNat_natCast, Int.reduceToNat, tn_lk, tn_kl, if_pos, if_neg, ↓reduceIte, and_self, and_true, true_and, FM, j2, eb, up_ne]; with_reducible rfl)) | (with_reducible apply wm_q) | (with_reducible apply wm_c; focus (first | assumption | decide +kernel)) | (with_reducible apply wm_d; focus (simp (disch := omega) only [wr_id, Int.toNat_natCast, Int.reduceToNat, tn_lk, tn_kl, if_pos, if_neg, ↓reduceIte, and_self, and_true, true_and, FM, j2, eb, up_ne]; with_reducible rfl)) | (with_reducible apply wm_t; focus (first | omega | (simp (disch := omega) only [wr_id, FM, j2, eb, up_ne]; omega) | (simp (disch := omega) only [wr_id, FM, j2, eb, up_ne]; done))) | (with_reducible apply wm_f; focus (first | omega | (simp (disch := omega) only [wr_id, FM, j2, eb, up_ne]; omega) | (simp (disch := omega) only [wr_id, FM, j2, eb, up_ne]; done)))))
      refine hrec (i + 1) _ _ (by omega) (by omega) ⟨by omega, frM_fd (frM_up j1 (by decide) rfl) rfl, ?_, fun y => ?_⟩
      · rw [up_g, if_pos rfl]; omega
      · rw [up_ne (by decide), up_g]
        by_cases e : y = tl + i
        · rw [if_pos e, if_neg (by omega), if_pos (by omega), e, Nat.add_sub_cancel_left]
        · rw [if_neg e, j3 y]
          by_cases e2 : y < tl
          · rw [if_pos e2, if_pos e2]
          · rw [if_neg e2, if_neg e2]
            by_cases e3 : y < tl + i
            · rw [if_pos e3, if_pos (by omega)]
            · rw [if_neg e3, if_neg (by omega)]
  · by_cases e2 : y < tl
    · rw [if_pos e2]
    · rw [if_neg e2, if_neg (by omega)]
theorem P_feed (hI : INV t d rt I) (x1 x2 x3 x4 x5 : Int) : both t d rt (f_X11_feed 0 x1 x2 x3 x4 x5 (mm t d rt I)) (fun M => f_X12_feed 369 x1 x2 x3 x4 x5 M) := by
  have hI' := hI
  obtain ⟨lv, w, h, n, nh, hl, sd, ifs, xs, hR, ρ, u, H, hd, G, hC, hM⟩ := hI
  obtain ⟨td, q1, q2, q3, q4⟩ := hR.2.2.2.2.1
  obtain ⟨tl, p1, p2, p3, p4⟩ := hR.2.2.2.2.2.1
  unfold both f_X11_feed
  by_cases z : tl ≤ 1980
  · (repeat (first | (with_reducible apply wm_o; focus (simp (disch := omega) only [wr_id, Int.toNat_natCast, Int.reduceToNat, tn_lk, tn_kl, if_pos, if_neg, ↓reduceIte, and_self, and_true, true_and, FX, FTape, p2]; with_reducible rfl)) | (with_reducible apply wm_q) | (with_reducible apply wm_c; focus (first | assumption | decide +kernel)) | (with_reducible apply wm_d; focus (simp (disch := omega) only [wr_id, Int.toNat_natCast, Int.reduceToNat, tn_lk, tn_kl, if_pos, if_neg, ↓reduceIte, and_self, and_true, true_and, FX, FTape, p2]; with_reducible rfl)) | (with_reducible apply wm_t; focus (first | omega | (simp (disch := omega) only [wr_id, FX, FTape, p2]; omega) | (simp (disch := omega) only [wr_id, FX, FTape, p2]; done))) | (with_reducible apply wm_f; focus (first | omega | (simp (disch := omega) only [wr_id, FX, FTape, p2]; omega) | (simp (disch := omega) only [wr_id, FX, FTape, p2]; done)))))
    refine wm_b (w_addFour p2 (by omega)) (fun v J1 hJ => ?_)
    obtain ⟨a1, b1, c1⟩ := hJ
    (repeat (first | (with_reducible apply wm_o; focus (simp (disch := omega) only [wr_id, Int.toNat_natCast, Int.reduceToNat, tn_lk, tn_kl, if_pos, if_neg, ↓reduceIte, and_self, and_true, true_and, FX]; with_reducible rfl)) | (with_reducible apply wm_q) | (with_reducible apply wm_c; focus (first | assumption | decide +kernel)) | (with_reducible apply wm_d; focus (simp (disch := omega) only [wr_id, Int.toNat_natCast, Int.reduceToNat, tn_lk, tn_kl, if_pos, if_neg, ↓reduceIte, and_self, and_true, true_and, FX]; with_reducible rfl)) | (with_reducible apply wm_t; focus (first | omega | (simp (disch := omega) only [wr_id, FX]; omega) | (simp (disch := omega) only [wr_id, FX]; done))) | (with_reducible apply wm_f; focus (first | omega | (simp (disch := omega) only [wr_id, FX]; omega) | (simp (disch := omega) only [wr_id, FX]; done)))))
    refine wm_b (w_addFour b1 (by omega)) (fun v J2 hJ => ?_)
    obtain ⟨a2, b2, c2⟩ := hJ
    (repeat (first | (with_reducible apply wm_o; focus (simp (disch := omega) only [wr_id, Int.toNat_natCast, Int.reduceToNat, tn_lk, tn_kl, if_pos, if_neg, ↓reduceIte, and_self, and_true, true_and, FX]; with_reducible rfl)) | (with_reducible apply wm_q) | (with_reducible apply wm_c; focus (first | assumption | decide +kernel)) | (with_reducible apply wm_d; focus (simp (disch := omega) only [wr_id, Int.toNat_natCast, Int.reduceToNat, tn_lk, tn_kl, if_pos, if_neg, ↓reduceIte, and_self, and_true, true_and, FX]; with_reducible rfl)) | (with_reducible apply wm_t; focus (first | omega | (simp (disch := omega) only [wr_id, FX]; omega) | (simp (disch := omega) only [wr_id, FX]; done))) | (with_reducible apply wm_f; focus (first | omega | (simp (disch := omega) only [wr_id, FX]; omega) | (simp (disch := omega) only [wr_id, FX]; done)))))
    refine wm_b (w_addFour b2 (by omega)) (fun v J3 hJ => ?_)
    obtain ⟨a3, b3, c3⟩ := hJ
    (repeat (first | (with_reducible apply wm_o; focus (simp (disch := omega) only [wr_id, Int.toNat_natCast, Int.reduceToNat, tn_lk, tn_kl, if_pos, if_neg, ↓reduceIte, and_self, and_true, true_and, FX]; with_reducible rfl)) | (with_reducible apply wm_q) | (with_reducible apply wm_c; focus (first | assumption | decide +kernel)) | (with_reducible apply wm_d; focus (simp (disch := omega) only [wr_id, Int.toNat_natCast, Int.reduceToNat, tn_lk, tn_kl, if_pos, if_neg, ↓reduceIte, and_self, and_true, true_and, FX]; with_reducible rfl)) | (with_reducible apply wm_t; focus (first | omega | (simp (disch := omega) only [wr_id, FX]; omega) | (simp (disch := omega) only [wr_id, FX]; done))) | (with_reducible apply wm_f; focus (first | omega | (simp (disch := omega) only [wr_id, FX]; omega) | (simp (disch := omega) only [wr_id, FX]; done)))))
    refine wm_b (w_addFour b3 (by omega)) (fun v J4 hJ => ?_)
    obtain ⟨a4, b4, c4⟩ := hJ
    (repeat (first | (with_reducible apply wm_o; focus (simp (disch := omega) only [wr_id, Int.toNat_natCast, Int.reduceToNat, tn_lk, tn_kl, if_pos, if_neg, ↓reduceIte, and_self, and_true, true_and, FX]; with_reducible rfl)) | (with_reducible apply wm_q) | (with_reducible apply wm_c; focus (first | assumption | decide +kernel)) | (with_reducible apply wm_d; focus (simp (disch := omega) only [wr_id, Int.toNat_natCast, Int.reduceToNat, tn_lk, tn_kl, if_pos, if_neg, ↓reduceIte, and_self, and_true, true_and, FX]; with_reducible rfl)) | (with_reducible apply wm_t; focus (first | omega | (simp (disch := omega) only [wr_id, FX]; omega) | (simp (disch := omega) only [wr_id, FX]; done))) | (with_reducible apply wm_f; focus (first | omega | (simp (disch := omega) only [wr_id, FX]; omega) | (simp (disch := omega) only [wr_id, FX]; done)))))
    refine wm_b (w_addFour b4 (by omega)) (fun v J5 hJ => ?_)
    obtain ⟨a5, b5, c5⟩ := hJ
    (repeat (first | (with_reducible apply wm_o; focus (simp (disch := omega) only [wr_id, Int.toNat_natCast, Int.reduceToNat, tn_lk, tn_kl, if_pos, if_neg, ↓reduceIte, and_self, and_true, true_and, FX, FTape, b5]; with_reducible rfl)) | (with_reducible apply wm_q) | (with_reducible apply wm_c; focus (first | assumption | decide +kernel)) | (with_reducible apply wm_d; focus (simp (disch := omega) only [wr_id, Int.toNat_natCast, Int.reduceToNat, tn_lk, tn_kl, if_pos, if_neg, ↓reduceIte, and_self, and_true, true_and, FX, FTape, b5]; with_reducible rfl)) | (with_reducible apply wm_t; focus (first | omega | (simp (disch := omega) only [wr_id, FX, FTape, b5]; omega) | (simp (disch := omega) only [wr_id, FX, FTape, b5]; done))) | (with_reducible apply wm_f; focus (first | omega | (simp (disch := omega) only [wr_id, FX, FTape, b5]; omega) | (simp (disch := omega) only [wr_id, FX, FTape, b5]; done)))))
    refine wm_r ?_
    have aJ := frm_trans (frm_trans (frm_trans (frm_trans a1 a2) a3) a4) a5
    show wm t d rt (f_X12_feed 369 x1 x2 x3 x4 x5 (mm t d rt J5)) _
    unfold f_X12_feed
    have p3' : J5 369 2 = (tl : Int) := by rw [aJ 369 (by omega)]; exact p3
    (repeat (first | (with_reducible apply wm_o; focus (simp (disch := omega) only [wr_id, Int.toNat_natCast, Int.reduceToNat, tn_lk, tn_kl, if_pos, if_neg, ↓reduceIte, and_self, and_true, true_and, FM, p3']; with_reducible rfl)) | (with_reducible apply wm_q) | (with_reducible apply wm_c; focus (first | assumption | decide +kernel)) | (with_reducible apply wm_d; focus (simp (disch := omega) only [wr_id, Int.toNat_natCast, Int.reduceToNat, tn_lk, tn_kl, if_pos, if_neg, ↓reduceIte, and_self, and_true, true_and, FM, p3']; with_reducible rfl)) | (with_reducible apply wm_t; focus (first | omega | (simp (disch := omega) only [wr_id, FM, p3']; omega) | (simp (disch := omega) only [wr_id, FM, p3']; done))) | (with_reducible apply wm_f; focus (first | omega | (simp (disch := omega) only [wr_id, FM, p3']; omega) | (simp (disch := omega) only [wr_id, FM, p3']; done)))))
    refine wm_b (m_put p3' (by omega)) (fun v K1 hK => ?_)
    obtain ⟨e1, f1, g1⟩ := hK
    (repeat (first | (with_reducible apply wm_o; focus (simp (disch := omega) only [wr_id, Int.toNat_natCast, Int.reduceToNat, tn_lk, tn_kl, if_pos, if_neg, ↓reduceIte, and_self, and_true, true_and]; with_reducible rfl)) | (with_reducible apply wm_q) | (with_reducible apply wm_c; focus (first | assumption | decide +kernel)) | (with_reducible apply wm_d; focus (simp (disch := omega) only [wr_id, Int.toNat_natCast, Int.reduceToNat, tn_lk, tn_kl, if_pos, if_neg, ↓reduceIte, and_self, and_true, true_and]; with_reducible rfl)) | (with_reducible apply wm_t; focus (first | omega | (simp (disch := omega) only [wr_id]; omega) | (simp (disch := omega) only [wr_id]; done))) | (with_reducible apply wm_f; focus (first | omega | (simp (disch := omega) only [wr_id]; omega) | (simp (disch := omega) only [wr_id]; done)))))
    refine wm_b (m_put f1 (by omega)) (fun v K2 hK => ?_)
    obtain ⟨e2, f2, g2⟩ := hK
    (repeat (first | (with_reducible apply wm_o; focus (simp (disch := omega) only [wr_id, Int.toNat_natCast, Int.reduceToNat, tn_lk, tn_kl, if_pos, if_neg, ↓reduceIte, and_self, and_true, true_and]; with_reducible rfl)) | (with_reducible apply wm_q) | (with_reducible apply wm_c; focus (first | assumption | decide +kernel)) | (with_reducible apply wm_d; focus (simp (disch := omega) only [wr_id, Int.toNat_natCast, Int.reduceToNat, tn_lk, tn_kl, if_pos, if_neg, ↓reduceIte, and_self, and_true, true_and]; with_reducible rfl)) | (with_reducible apply wm_t; focus (first | omega | (simp (disch := omega) only [wr_id]; omega) | (simp (disch := omega) only [wr_id]; done))) | (with_reducible apply wm_f; focus (first | omega | (simp (disch := omega) only [wr_id]; omega) | (simp (disch := omega) only [wr_id]; done)))))
    refine wm_b (m_put f2 (by omega)) (fun v K3 hK => ?_)
    obtain ⟨e3, f3, g3⟩ := hK
    (repeat (first | (with_reducible apply wm_o; focus (simp (disch := omega) only [wr_id, Int.toNat_natCast, Int.reduceToNat, tn_lk, tn_kl, if_pos, if_neg, ↓reduceIte, and_self, and_true, true_and]; with_reducible rfl)) | (with_reducible apply wm_q) | (with_reducible apply wm_c; focus (first | assumption | decide +kernel)) | (with_reducible apply wm_d; focus (simp (disch := omega) only [wr_id, Int.toNat_natCast, Int.reduceToNat, tn_lk, tn_kl, if_pos, if_neg, ↓reduceIte, and_self, and_true, true_and]; with_reducible rfl)) | (with_reducible apply wm_t; focus (first | omega | (simp (disch := omega) only [wr_id]; omega) | (simp (disch := omega) only [wr_id]; done))) | (with_reducible apply wm_f; focus (first | omega | (simp (disch := omega) only [wr_id]; omega) | (simp (disch := omega) only [wr_id]; done)))))
    refine wm_b (m_put f3 (by omega)) (fun v K4 hK => ?_)
    obtain ⟨e4, f4, g4⟩ := hK
    (repeat (first | (with_reducible apply wm_o; focus (simp (disch := omega) only [wr_id, Int.toNat_natCast, Int.reduceToNat, tn_lk, tn_kl, if_pos, if_neg, ↓reduceIte, and_self, and_true, true_and]; with_reducible rfl)) | (with_reducible apply wm_q) | (with_reducible apply wm_c; focus (first | assumption | decide +kernel)) | (with_reducible apply wm_d; focus (simp (disch := omega) only [wr_id, Int.toNat_natCast, Int.reduceToNat, tn_lk, tn_kl, if_pos, if_neg, ↓reduceIte, and_self, and_true, true_and]; with_reducible rfl)) | (with_reducible apply wm_t; focus (first | omega | (simp (disch := omega) only [wr_id]; omega) | (simp (disch := omega) only [wr_id]; done))) | (with_reducible apply wm_f; focus (first | omega | (simp (disch := omega) only [wr_id]; omega) | (simp (disch := omega) only [wr_id]; done)))))
    refine wm_b (m_put f4 (by omega)) (fun v K5 hK => ?_)
    obtain ⟨e5, f5, g5⟩ := hK
    (repeat (first | (with_reducible apply wm_o; focus (simp (disch := omega) only [wr_id, Int.toNat_natCast, Int.reduceToNat, tn_lk, tn_kl, if_pos, if_neg, ↓reduceIte, and_self, and_true, true_and, FM, f5]; with_reducible rfl)) | (with_reducible apply wm_q) | (with_reducible apply wm_c; focus (first | assumption | decide +kernel)) | (with_reducible apply wm_d; focus (simp (disch := omega) only [wr_id, Int.toNat_natCast, Int.reduceToNat, tn_lk, tn_kl, if_pos, if_neg, ↓reduceIte, and_self, and_true, true_and, FM, f5]; with_reducible rfl)) | (with_reducible apply wm_t; focus (first | omega | (simp (disch := omega) only [wr_id, FM, f5]; omega) | (simp (disch := omega) only [wr_id, FM, f5]; done))) | (with_reducible apply wm_f; focus (first | omega | (simp (disch := omega) only [wr_id, FM, f5]; omega) | (simp (disch := omega) only [wr_id, FM, f5]; done)))))
    have eK := frM_trans (frM_trans (frM_trans (frM_trans e1 e2) e3) e4) e5
    refine wm_r ⟨rfl, INV_x hR hC hM (fun a h0 ha => ?_) (fun j h1 h2 => ?_) ⟨td, q1, ?_, ?_, fun i hi => ?_⟩ ⟨tl + 4 + 4 + 4 + 4 + 4, by omega, ?_, f5, fun i hi => ?_⟩⟩
    · rw [eK.1 a h0 (by omega), aJ a (by omega)]
    · rw [eK.2 j h1, aJ 369 (by omega)]
    · rw [eK.1 308 (by decide) (by decide), aJ 308 (by omega)]; exact q2
    · rw [eK.2 63 (by decide), aJ 369 (by omega)]; exact q3
    · rw [eK.1 309 (by decide) (by decide), aJ 309 (by omega), eK.1 310 (by decide) (by decide), aJ 310 (by omega), eK.1 414 (by decide) (by decide), aJ 414 (by omega), eK.1 415 (by decide) (by decide), aJ 415 (by omega)]; exact q4 i hi
    · rw [eK.1 1 (by decide) (by decide)]; exact b5
    · have k2 : K5 2 = J5 2 := eK.1 2 (by decide) (by decide)
      have j370 : J5 370 = I 370 := aJ 370 (by omega)
      rw [k2]
      rw [j370] at g1
      exact by_stg c5 g5 (by_stg c4 g4 (by_stg c3 g3 (by_stg c2 g2 (by_stg c1 g1 p4)))) i hi
  · (repeat (first | (with_reducible apply wm_o; focus (simp (disch := omega) only [wr_id, Int.toNat_natCast, Int.reduceToNat, tn_lk, tn_kl, if_pos, if_neg, ↓reduceIte, and_self, and_true, true_and, FX, FTape, p2]; with_reducible rfl)) | (with_reducible apply wm_q) | (with_reducible apply wm_c; focus (first | assumption | decide +kernel)) | (with_reducible apply wm_d; focus (simp (disch := omega) only [wr_id, Int.toNat_natCast, Int.reduceToNat, tn_lk, tn_kl, if_pos, if_neg, ↓reduceIte, and_self, and_true, true_and, FX, FTape, p2]; with_reducible rfl)) | (with_reducible apply wm_t; focus (first | omega | (simp (disch := omega) only [wr_id, FX, FTape, p2]; omega) | (simp (disch := omega) only [wr_id, FX, FTape, p2]; done))) | (with_reducible apply wm_f; focus (first | omega | (simp (disch := omega) only [wr_id, FX, FTape, p2]; omega) | (simp (disch := omega) only [wr_id, FX, FTape, p2]; done)))))
    refine wm_r ?_
    show wm t d rt (f_X12_feed 369 x1 x2 x3 x4 x5 (mm t d rt I)) _
    unfold f_X12_feed
    (repeat (first | (with_reducible apply wm_o; focus (simp (disch := omega) only [wr_id, Int.toNat_natCast, Int.reduceToNat, tn_lk, tn_kl, if_pos, if_neg, ↓reduceIte, and_self, and_true, true_and, FM, p3]; with_reducible rfl)) | (with_reducible apply wm_q) | (with_reducible apply wm_c; focus (first | assumption | decide +kernel)) | (with_reducible apply wm_d; focus (simp (disch := omega) only [wr_id, Int.toNat_natCast, Int.reduceToNat, tn_lk, tn_kl, if_pos, if_neg, ↓reduceIte, and_self, and_true, true_and, FM, p3]; with_reducible rfl)) | (with_reducible apply wm_t; focus (first | omega | (simp (disch := omega) only [wr_id, FM, p3]; omega) | (simp (disch := omega) only [wr_id, FM, p3]; done))) | (with_reducible apply wm_f; focus (first | omega | (simp (disch := omega) only [wr_id, FM, p3]; omega) | (simp (disch := omega) only [wr_id, FM, p3]; done)))))
    exact wm_r ⟨rfl, hI'⟩
end PF
