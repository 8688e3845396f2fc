/-! ===== the model reads a law's terms ===== -/
def lwP : Nat → Prop := fun a => (389 ≤ a ∧ a ≤ 395) ∨ a = 397
def lwT : Nat → Prop := fun j => j = 11 ∨ j = 12 ∨ j = 13 ∨ j = 14 ∨ j = 32 ∨ j = 38 ∨ j = 43
/-- codes outside [c0, hi) and branches outside [b0, bh) stay -/
def kpL (c0 hi b0 bh : Nat) (I J : Nat → Nat → Int) : Prop := (∀ p, p < c0 ∨ hi ≤ p → J 394 p = I 394 p ∧ J 395 p = I 395 p) ∧ ∀ b, b < b0 ∨ bh ≤ b → J 389 b = I 389 b ∧ J 390 b = I 390 b ∧ J 391 b = I 391 b ∧ J 392 b = I 392 b ∧ J 393 b = I 393 b
theorem kpL_refl (c0 hi b0 bh : Nat) (I : Nat → Nat → Int) : kpL c0 hi b0 bh I I := ⟨fun _ _ => ⟨rfl, rfl⟩, fun _ _ => ⟨rfl, rfl, rfl, rfl, rfl⟩⟩
theorem kpL_trans {c0 c1 hi b0 b1 bh : Nat} {I J K : Nat → Nat → Int} (h1 : kpL c0 hi b0 bh I J) (h2 : kpL c1 hi b1 bh J K) (hc : c0 ≤ c1) (hb : b0 ≤ b1) : kpL c0 hi b0 bh I K := by
  refine ⟨fun p hp => ?_, fun b hb' => ?_⟩
  · obtain ⟨a1, a2⟩ := h1.1 p hp
    obtain ⟨a3, a4⟩ := h2.1 p (by omega)
    exact ⟨a3.trans a1, a4.trans a2⟩
  · obtain ⟨a1, a2, a3, a4, a5⟩ := h1.2 b hb'
    obtain ⟨b1, b2, b3, b4, b5⟩ := h2.2 b (by omega)
    exact ⟨b1.trans a1, b2.trans a2, b3.trans a3, b4.trans a4, b5.trans a5⟩
theorem kpL_fd {c0 hi b0 bh j : Nat} {v : Int} {I J : Nat → Nat → Int} (h : kpL c0 hi b0 bh I J) : kpL c0 hi b0 bh I (up J 369 j v) := by
  refine ⟨fun p hp => ?_, fun b hb' => ?_⟩
  · rw [up_ne (by decide), up_ne (by decide)]; exact h.1 p hp
  · rw [up_ne (by decide), up_ne (by decide), up_ne (by decide), up_ne (by decide), up_ne (by decide)]; exact h.2 b hb'
theorem kpL_br {c0 hi b0 bh a br : Nat} {v : Int} {I J : Nat → Nat → Int} (h : kpL c0 hi b0 bh I J) (ha : 389 ≤ a ∧ a ≤ 393) (hb : b0 ≤ br ∧ br < bh) : kpL c0 hi b0 bh I (up J a br v) := by
  refine ⟨fun p hp => ?_, fun b hb' => ?_⟩
  · rw [up_ne (by omega), up_ne (by omega)]; exact h.1 p hp
  · have n : b ≠ br := by omega
    have e : ∀ x, up J a br v x b = J x b := fun x => up_n (Or.inr n)
    rw [e, e, e, e, e]; exact h.2 b hb'
theorem kpL_fr {S T : Nat → Prop} {c0 hi b0 bh : Nat} {I J : Nat → Nat → Int} (h : frM S T I J) (hS : ∀ a, 389 ≤ a → a ≤ 395 → ¬ S a) : kpL c0 hi b0 bh I J := by
  have e : ∀ a, 389 ≤ a → a ≤ 395 → J a = I a := fun a h1 h2 => h.1 a (by omega) (hS a h1 h2)
  refine ⟨fun p _ => ?_, fun b _ => ?_⟩
  · rw [e 394 (by decide) (by decide), e 395 (by decide) (by decide)]; exact ⟨rfl, rfl⟩
  · rw [e 389 (by decide) (by decide), e 390 (by decide) (by decide), e 391 (by decide) (by decide), e 392 (by decide) (by decide), e 393 (by decide) (by decide)]; exact ⟨rfl, rfl, rfl, rfl, rfl⟩
section MT
variable {t d rt : Nat} {I J : Nat → Nat → Int} {K : Nat → Nat} {V : Nat → Int} {ps : Nat → Nat} {i c0 hi br bh : Nat}
theorem sum_lt {t' : Nat} {cs : List CI} (h : sumD K V 6 i = okr t' cs) : i < t' ∧ t' ≤ 400 ∧ i + cs.length ≤ t' := by
  have h1 := (sumD_sim (K := K) (V := V) 6 (by decide) i).2 t' cs h
  have h2 := h_sumD (K := K) (V := V) 6 i t' cs h
  exact ⟨h1.1, h1.2.1, h2.2.1⟩
theorem flt_fd {c q j : Nat} {v : Int} (hj : j ≠ 11 ∧ j ≠ 13 ∧ j ≠ 14) (h : fltM ps I c q) : fltM ps (up I 369 j v) c q := by
  obtain ⟨d1, d2, d3, s, d4, d5⟩ := h
  exact ⟨d1, by rw [up_g, if_neg (by omega)]; exact d2, by rw [up_g, if_neg (by omega)]; exact d3, s, by rw [up_g, if_neg (by omega)]; exact d4, d5⟩
theorem flt_up {c q a j : Nat} {v : Int} (ha : a ≠ 369) (h : fltM ps I c q) : fltM ps (up I a j v) c q := by
  obtain ⟨d1, d2, d3, s, d4, d5⟩ := h
  have e : up I a j v 369 = I 369 := up_ne (fun q => ha q.symm)
  exact ⟨d1, by rw [e]; exact d2, by rw [e]; exact d3, s, by rw [e]; exact d4, d5⟩
theorem rdM_up {a j : Nat} {v : Int} (ha : a ≠ 369 ∧ a ≠ 372 ∧ a ≠ 373 ∧ a ≠ 374) (h : rdM K V ps I i) : rdM K V ps (up I a j v) i := by
  obtain ⟨h1, h2, h3, h4, h5⟩ := h
  have e : up I a j v 369 = I 369 := up_ne (by omega)
  exact ⟨tbM_frm (up_ne (by omega)) (up_ne (by omega)) (up_ne (by omega)) h1, by rw [e]; exact h2, by rw [e]; exact h3, h4, h5⟩
/-- behind a term: its codes lie from c0 to c0 + the length -/
def tmQ (K : Nat → Nat) (V : Nat → Int) (ps : Nat → Nat) (c0 hi br bh : Nat) (I : Nat → Nat → Int) (R : PR) (J : Nat → Nat → Int) : Prop := frM lwP lwT I J ∧ kpL c0 hi br bh I J ∧ J 369 32 = ((br + 1 : Nat) : Int) ∧ J 389 = I 389 ∧ J 390 = I 390 ∧ J 391 = I 391 ∧ ((∃ t' cs, R = okr t' cs ∧ rdM K V ps J t' ∧ J 369 12 = 0 ∧ J 369 38 = ((c0 + cs.length : Nat) : Int) ∧ cdAt (J 394) (J 395) c0 (cs.map mkC) ∧ J 392 br = (c0 : Int) ∧ J 393 br = ((c0 + cs.length : Nat) : Int)) ∨ (∃ c q, R = pfl c q ∧ fltM ps J c q))
theorem exLw {I J : Nat → Nat → Int} (h : frM exP exT I J) : frM lwP lwT I J := frM_sub h (fun a h => by unfold exP at h; unfold lwP; omega) (fun a h => by unfold exT at h; unfold lwT; omega)
theorem w_term (hk : ∀ i, kR (K i)) (hR : rdM K V ps I i) (ho : I 369 12 = 0) (hc : I 369 38 = (c0 : Int)) (hbr : I 369 32 = (br : Int)) (hb : br < bh) (hbh : bh ≤ 260) (hh : c0 + 401 ≤ hi + i) (hhi : hi ≤ 840) (hc840 : c0 ≤ 840) : wm t d rt (f_X12_term 369 (mm t d rt I)) (fun _ J => tmQ K V ps c0 hi br bh I (sumD K V 6 i) J) := by
  unfold f_X12_term
  have e13 := hR.2.2.1
  have u13 : up I 392 br (c0 : Int) 369 13 = 0 := by rw [up_ne (by decide)]; exact e13
  have u12 : up I 392 br (c0 : Int) 369 12 = 0 := by rw [up_ne (by decide)]; exact ho
  have u38 : up I 392 br (c0 : Int) 369 38 = (c0 : Int) := by rw [up_ne (by decide)]; exact hc
  (repeat (first | (with_reducible apply wm_o; focus (simp (disch := omega) only [wr_id, Int.toNat_natCast, Int.reduceToNat, tn_lk, tn_kl, if_pos, if_neg, ↓reduceIte, and_self, and_true, true_and, FM, hbr, hc, u13]; with_reducible rfl)) | (with_reducible apply wm_q) | (with_reducible apply wm_c; focus (first | assumption | decide +kernel)) | (with_reducible apply wm_d; focus (simp (disch := omega) only [wr_id, Int.toNat_natCast, Int.reduceToNat, tn_lk, tn_kl, if_pos, if_neg, ↓reduceIte, and_self, and_true, true_and, FM, hbr, hc, u13]; with_reducible rfl)) | (with_reducible apply wm_t; focus (first | omega | (simp (disch := omega) only [wr_id, FM, hbr, hc, u13]; omega) | (simp (disch := omega) only [wr_id, FM, hbr, hc, u13]; done))) | (with_reducible apply wm_f; focus (first | omega | (simp (disch := omega) only [wr_id, FM, hbr, hc, u13]; omega) | (simp (disch := omega) only [wr_id, FM, hbr, hc, u13]; done)))))
  refine wm_b (w_expression hk (rdM_up (by decide) hR) u12 u38 hh hhi) (fun r J hJ => ?_)
  obtain ⟨g1, g2, g3⟩ := hJ
  have j32 : J 369 32 = (br : Int) := by rw [g1.2 32 (by unfold exT; omega), up_ne (by decide)]; exact hbr
  have e : ∀ a, 389 ≤ a → a ≤ 393 → J a = up I 392 br (c0 : Int) a := fun a h1 h2 => g1.1 a (by omega) (by unfold exP; omega)
  have kk : kpL c0 hi br bh I J := by
    have k0 : kpL c0 hi br bh I (up I 392 br (c0 : Int)) := kpL_br (kpL_refl _ _ _ _ _) (by decide) (by omega)
    refine ⟨fun p hp => ?_, fun b hb' => ?_⟩
    · obtain ⟨a1, a2⟩ := g2 p hp
      obtain ⟨a3, a4⟩ := k0.1 p hp
      exact ⟨a1.trans a3, a2.trans a4⟩
    · rw [e 389 (by decide) (by decide), e 390 (by decide) (by decide), e 391 (by decide) (by decide), e 392 (by decide) (by decide), e 393 (by decide) (by decide)]
      exact k0.2 b hb'
  have fr : frM lwP lwT I J := frM_trans (frM_up (frM_refl _ _ _) (by decide) (by unfold lwP; omega)) (exLw g1)
  have fin : ∀ n : Nat, J 369 38 = (n : Int) → n ≤ 840 → ∀ R, (∀ X : Nat → Nat → Int, X = up (up J 393 br (n : Int)) 369 32 ((br : Int) + 1) → ((∃ t' cs, R = okr t' cs ∧ rdM K V ps X t' ∧ X 369 12 = 0 ∧ X 369 38 = ((c0 + cs.length : Nat) : Int) ∧ cdAt (X 394) (X 395) c0 (cs.map mkC) ∧ X 392 br = (c0 : Int) ∧ X 393 br = ((c0 + cs.length : Nat) : Int)) ∨ (∃ c q, R = pfl c q ∧ fltM ps X c q))) → tmQ K V ps c0 hi br bh I R (up (up J 393 br (n : Int)) 369 32 ((br : Int) + 1)) := by
    intro n hn hn' R hX
    refine ⟨frM_fd (frM_up fr (by decide) (by unfold lwP; omega)) (by unfold lwT; omega), kpL_fd (kpL_br kk (by decide) (by omega)), ?_, ?_, ?_, ?_, hX _ rfl⟩
    · rw [up_s]; omega
    · rw [up_ne (by decide), up_ne (by decide), e 389 (by decide) (by decide), up_ne (by decide)]
    · rw [up_ne (by decide), up_ne (by decide), e 390 (by decide) (by decide), up_ne (by decide)]
    · rw [up_ne (by decide), up_ne (by decide), e 391 (by decide) (by decide), up_ne (by decide)]
  rcases g3 with ⟨t', cs, q1, q2, q3, q4, q5⟩ | ⟨c, q, q1, q2⟩
  · have sl := sum_lt q1
    have u32 : up J 393 br ((c0 + cs.length : Nat) : Int) 369 32 = (br : Int) := by rw [up_ne (by decide)]; exact j32
    (repeat (first | (with_reducible apply wm_o; focus (simp (disch := omega) only [wr_id, Int.toNat_natCast, Int.reduceToNat, tn_lk, tn_kl, if_pos, if_neg, ↓reduceIte, and_self, and_true, true_and, FM, j32, q4, u32]; with_reducible rfl)) | (with_reducible apply wm_q) | (with_reducible apply wm_c; focus (first | assumption | decide +kernel)) | (with_reducible apply wm_d; focus (simp (disch := omega) only [wr_id, Int.toNat_natCast, Int.reduceToNat, tn_lk, tn_kl, if_pos, if_neg, ↓reduceIte, and_self, and_true, true_and, FM, j32, q4, u32]; with_reducible rfl)) | (with_reducible apply wm_t; focus (first | omega | (simp (disch := omega) only [wr_id, FM, j32, q4, u32]; omega) | (simp (disch := omega) only [wr_id, FM, j32, q4, u32]; done))) | (with_reducible apply wm_f; focus (first | omega | (simp (disch := omega) only [wr_id, FM, j32, q4, u32]; omega) | (simp (disch := omega) only [wr_id, FM, j32, q4, u32]; done)))))
    refine wm_r (fin (c0 + cs.length) q4 (by omega) _ (fun X hX => Or.inl ⟨t', cs, q1, ?_, ?_, ?_, ?_, ?_, ?_⟩))
    · rw [hX]; exact rd_fd (by decide) (rdM_up (by decide) q2)
    · rw [hX, up_g, if_neg (by decide), up_ne (by decide)]; exact q3
    · rw [hX, up_g, if_neg (by decide), up_ne (by decide)]; exact q4
    · rw [hX, up_ne (by decide), up_ne (by decide), up_ne (by decide), up_ne (by decide)]; exact q5
    · rw [hX, up_ne (by decide), up_ne (by decide), e 392 (by decide) (by decide), up_s]
    · rw [hX, up_ne (by decide), up_s]
  · obtain ⟨v38, hv⟩ : ∃ v, J 369 38 = v := ⟨_, rfl⟩
    have u32 : up J 393 br v38 369 32 = (br : Int) := by rw [up_ne (by decide)]; exact j32
    (repeat (first | (with_reducible apply wm_o; focus (simp (disch := omega) only [wr_id, Int.toNat_natCast, Int.reduceToNat, tn_lk, tn_kl, if_pos, if_neg, ↓reduceIte, and_self, and_true, true_and, FM, j32, hv, u32]; with_reducible rfl)) | (with_reducible apply wm_q) | (with_reducible apply wm_c; focus (first | assumption | decide +kernel)) | (with_reducible apply wm_d; focus (simp (disch := omega) only [wr_id, Int.toNat_natCast, Int.reduceToNat, tn_lk, tn_kl, if_pos, if_neg, ↓reduceIte, and_self, and_true, true_and, FM, j32, hv, u32]; with_reducible rfl)) | (with_reducible apply wm_t; focus (first | omega | (simp (disch := omega) only [wr_id, FM, j32, hv, u32]; omega) | (simp (disch := omega) only [wr_id, FM, j32, hv, u32]; done))) | (with_reducible apply wm_f; focus (first | omega | (simp (disch := omega) only [wr_id, FM, j32, hv, u32]; omega) | (simp (disch := omega) only [wr_id, FM, j32, hv, u32]; done)))))
    refine wm_r ⟨frM_fd (frM_up fr (by decide) (by unfold lwP; omega)) (by unfold lwT; omega), kpL_fd (kpL_br kk (by decide) (by omega)), ?_, ?_, ?_, ?_, Or.inr ⟨c, q, q1, flt_fd (by decide) (flt_up (by decide) q2)⟩⟩
    · rw [up_s]; omega
    · rw [up_ne (by decide), up_ne (by decide), e 389 (by decide) (by decide), up_ne (by decide)]
    · rw [up_ne (by decide), up_ne (by decide), e 390 (by decide) (by decide), up_ne (by decide)]
    · rw [up_ne (by decide), up_ne (by decide), e 391 (by decide) (by decide), up_ne (by decide)]
theorem w_termF {c q : Nat} (hF : fltM ps I c q) (hbr : I 369 32 = (br : Int)) (hb : br < bh) (hbh : bh ≤ 260) (c0 hi : Nat) : wm t d rt (f_X12_term 369 (mm t d rt I)) (fun _ J => frM lwP lwT I J ∧ kpL c0 hi br bh I J ∧ J 369 32 = ((br + 1 : Nat) : Int) ∧ fltM ps J c q) := by
  unfold f_X12_term
  have hF' := hF
  obtain ⟨d1, d2, d3, s, d4, d5⟩ := hF
  obtain ⟨v38, hv⟩ : ∃ v, I 369 38 = v := ⟨_, rfl⟩
  have u13 : up I 392 br v38 369 13 = (c : Int) := by rw [up_ne (by decide)]; exact d2
  have u32 : up I 392 br v38 369 32 = (br : Int) := by rw [up_ne (by decide)]; exact hbr
  have u38 : up I 392 br v38 369 38 = v38 := by rw [up_ne (by decide)]; exact hv
  have u32' : up (up I 392 br v38) 393 br v38 369 32 = (br : Int) := by rw [up_ne (by decide)]; exact u32
  (repeat (first | (with_reducible apply wm_o; focus (simp (disch := omega) only [wr_id, Int.toNat_natCast, Int.reduceToNat, tn_lk, tn_kl, if_pos, if_neg, ↓reduceIte, and_self, and_true, true_and, FM, hbr, hv, u13, u32, u38, u32']; with_reducible rfl)) | (with_reducible apply wm_q) | (with_reducible apply wm_c; focus (first | assumption | decide +kernel)) | (with_reducible apply wm_d; focus (simp (disch := omega) only [wr_id, Int.toNat_natCast, Int.reduceToNat, tn_lk, tn_kl, if_pos, if_neg, ↓reduceIte, and_self, and_true, true_and, FM, hbr, hv, u13, u32, u38, u32']; with_reducible rfl)) | (with_reducible apply wm_t; focus (first | omega | (simp (disch := omega) only [wr_id, FM, hbr, hv, u13, u32, u38, u32']; omega) | (simp (disch := omega) only [wr_id, FM, hbr, hv, u13, u32, u38, u32']; done))) | (with_reducible apply wm_f; focus (first | omega | (simp (disch := omega) only [wr_id, FM, hbr, hv, u13, u32, u38, u32']; omega) | (simp (disch := omega) only [wr_id, FM, hbr, hv, u13, u32, u38, u32']; done)))))
  refine wm_r ⟨frM_fd (frM_up (frM_up (frM_refl _ _ _) (by decide) (by unfold lwP; omega)) (by decide) (by unfold lwP; omega)) (by unfold lwT; omega), kpL_fd (kpL_br (kpL_br (kpL_refl _ _ _ _ _) (by decide) (by omega)) (by decide) (by omega)), ?_, flt_fd (by decide) (flt_up (by decide) (flt_up (by decide) hF'))⟩
  rw [up_s]; omega
end MT
/-- branches so far -/
def brM (I : Nat → Nat → Int) (lo hi : Nat) : Nat → List LwI → Nat → Prop
  | b, [], e => e = b
  | b, i :: r, e => I 389 b = 1 ∧ (∃ p : Nat, I 390 b = (p : Int) ∧ I 391 b = ((p + i.1.length : Nat) : Int) ∧ I 392 b = ((p + i.1.length + i.2.1.length : Nat) : Int) ∧ I 393 b = ((p + i.1.length + i.2.1.length + i.2.2.length : Nat) : Int) ∧ cdAt (I 394) (I 395) p (i.1.map mkC) ∧ cdAt (I 394) (I 395) (p + i.1.length) (i.2.1.map mkC) ∧ cdAt (I 394) (I 395) (p + i.1.length + i.2.1.length) (i.2.2.map mkC) ∧ lo ≤ p ∧ p + i.1.length + i.2.1.length + i.2.2.length ≤ hi) ∧ brM I lo hi (b + 1) r e
theorem brM_le {I : Nat → Nat → Int} {lo hi e : Nat} : ∀ {r : List LwI} {b : Nat}, brM I lo hi b r e → b ≤ e
  | [], b, h => by have : e = b := h; omega
  | i :: r, b, h => by have := brM_le h.2.2; omega
theorem brM_congr {I J : Nat → Nat → Int} {lo hi c0 chi bh e : Nat} : ∀ {r : List LwI} {b : Nat}, kpL c0 chi e bh I J → hi ≤ c0 → brM I lo hi b r e → brM J lo hi b r e
  | [], b, _, _, h => h
  | i :: r, b, hk, hc, h => by
    obtain ⟨h1, ⟨p, p1, p2, p3, p4, p5, p6, p7, p8, p9⟩, h2⟩ := h
    have le := brM_le h2
    obtain ⟨e1, e2, e3, e4, e5⟩ := hk.2 b (by omega)
    refine ⟨e1.trans h1, ⟨p, e2.trans p1, e3.trans p2, e4.trans p3, e5.trans p4, cdAt_congr (fun q q1 q2 => hk.1 q ?_) p5, cdAt_congr (fun q q1 q2 => hk.1 q ?_) p6, cdAt_congr (fun q q1 q2 => hk.1 q ?_) p7, p8, p9⟩, brM_congr hk hc h2⟩
    · rw [List.length_map] at q2; omega
    · rw [List.length_map] at q2; omega
    · rw [List.length_map] at q2; omega
theorem brM_hi {I : Nat → Nat → Int} {lo hi hi' e : Nat} (hh : hi ≤ hi') : ∀ {r : List LwI} {b : Nat}, brM I lo hi b r e → brM I lo hi' b r e
  | [], b, h => h
  | i :: r, b, h => by
    obtain ⟨h1, ⟨p, p1, p2, p3, p4, p5, p6, p7, p8, p9⟩, h2⟩ := h
    exact ⟨h1, ⟨p, p1, p2, p3, p4, p5, p6, p7, p8, by omega⟩, brM_hi hh h2⟩
theorem brM_snoc {I : Nat → Nat → Int} {lo hi e e' : Nat} {x : LwI} : ∀ {r : List LwI} {b : Nat}, brM I lo hi b r e → brM I lo hi e [x] e' → brM I lo hi b (r ++ [x]) e'
  | [], b, h, hx => by
    have h : e = b := h
    rw [h] at hx; exact hx
  | i :: r, b, h, hx => ⟨h.1, h.2.1, brM_snoc h.2.2 hx⟩
theorem brM_end {I : Nat → Nat → Int} {lo hi e e' : Nat} {x : List CI} (hhi : hi ≤ 840) : ∀ {r : List LwI} {b : Nat}, brM I lo hi b r e → lwM I e [] x e' → lwM I b r x e'
  | [], b, h, hx => by
    have h : e = b := h
    rw [h] at hx; exact hx
  | i :: r, b, h, hx => by
    obtain ⟨h1, ⟨p, p1, p2, p3, p4, p5, p6, p7, p8, p9⟩, h2⟩ := h
    exact ⟨h1, ⟨p, p1, p2, p3, p4, p5, p6, p7, by omega⟩, brM_end hhi h2 hx⟩
theorem brM_rg {I : Nat → Nat → Int} {lo hi e : Nat} : ∀ {r : List LwI} {b : Nat}, brM I lo hi b r e → ∀ b', b ≤ b' → b' < e → (lo : Int) ≤ I 392 b' ∧ I 393 b' ≤ (hi : Int) ∧ (lo : Int) ≤ I 390 b'
  | [], b, h, b', h1, h2 => by
    have h : e = b := h
    omega
  | i :: r, b, h, b', h1, h2 => by
    obtain ⟨_, ⟨p, p1, p2, p3, p4, p5, p6, p7, p8, p9⟩, h3⟩ := h
    by_cases c : b' = b
    · subst c
      rw [p3, p4, p1]
      omega
    · exact brM_rg h3 b' (by omega) h2
