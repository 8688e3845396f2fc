/-! ===== calls: farthest, lowest ===== -/
theorem vL_sm {wt : Nat → Nat → Int} : ∀ {l : List Nat} {y into : Nat}, vL wt y into l = smI (fun j => wt (y + j) ((into :: l).getD j 0)) (l.length + 1)
  | [], y, into => by
    rw [vL]
    show _ = (0 : Int) + wt (y + 0) into
    rw [Int.zero_add]; rfl
  | o :: l, y, into => by
    have ih := vL_sm (wt := wt) (l := l) (y := y + 1) (into := o)
    rw [vL, ih]
    have key : ∀ k : Nat, wt y into + smI (fun j => wt (y + 1 + j) ((o :: l).getD j 0)) k = smI (fun j => wt (y + j) ((into :: o :: l).getD j 0)) (k + 1) := by
      intro k
      induction k with
      | zero => show _ = (0 : Int) + wt (y + 0) into; unfold smI; rw [Int.zero_add, Int.add_zero]; rfl
      | succ k ihk =>
        rw [smI_s, smI_s, ← ihk, show y + 1 + k = y + (k + 1) by omega]
        have : (into :: o :: l).getD (k + 1) 0 = (o :: l).getD k 0 := by simp
        rw [this]
        omega
    exact key _
theorem vL_F {wt : Nat → Nat → Int} {w h : Nat} {p : List Int} : vL wt 0 0 (lnP w h p) = smI (fun y => wt y (lnF w h p y)) (h + 1) := by
  rw [vL_sm, lnP_len]
  exact smI_congr (fun j _ => by rw [Nat.zero_add]; rfl)
theorem smI_neg {f : Nat → Int} : ∀ {k : Nat}, smI (fun j => -f j) k = -smI f k
  | 0 => rfl
  | k + 1 => by rw [smI_s, smI_s, smI_neg]; omega
theorem dvF_e {v : Int} (h1 : 0 ≤ v) (h2 : v < 100000) : dvF v = v / 4 := by
  unfold dvF
  rw [wr_id (by omega) (by omega), show jd_wr 4 = 4 by decide +kernel, Int.tdiv_eq_ediv_of_nonneg h1]
/-- the sum of all hills -/
def lsV (w h : Nat) (p : List Int) : Int := smI (fun y => smI (hlC w y (lnF w h p y)) (w + 1)) (h + 1)
section FR
variable {t d rt : Nat} {I J K : Nat → Nat → Int} {lv w h n nh r : Nat} {hl cl na nd U : Nat → Bool} {sd : Int} {ifs : Nat → List LwI} {xs : Nat → List CI} {ρ : Nat → Int} {u : Nat} {H : Nat → Nat → Int} {hd : Nat → Bool} {G : Nat → Nat → Int} {p p' : List Int}
theorem w_weighFar (c : rCfg I 311 w h cl na nd) (hL : lnI I 367 (lnP w h p)) : wm t d rt (f_X0_weighFar 348 311 367 (mm t d rt I)) (fun _ J => frm (fun a => (350 ≤ a ∧ a ≤ 356) ∨ a = 365 ∨ a = 366) I J ∧ ∀ y, y ≤ h → ∀ m, m < 2 ^ w → J (350 + y) m = apR w y m (lnF w h p y)) := by
  have c0 := c
  obtain ⟨c1, c2, c3, c4, c5, c6, c7, c8, c9, c10, c11⟩ := c
  have hp6 : 2 ^ w ≤ 2 ^ 6 := Nat.pow_le_pow_right (by decide) c5
  have hp := Nat.two_pow_pos w
  have kr := ev_k
  have kb := be_k
  have cS : ∀ J : Nat → Nat → Int, frm (fun a => (350 ≤ a ∧ a ≤ 356) ∨ a = 365 ∨ a = 366) I J → rCfg J 311 w h cl na nd := fun J hJ => rCfg_frm (hJ _ (by omega)) (hJ _ (by omega)) (hJ _ (by omega)) (hJ _ (by omega)) (hJ _ (by omega)) c0
  unfold f_X0_weighFar
  refine wm_lp2 (h + 1) (fun i y J => y = (i : Int) ∧ frm (fun a => (350 ≤ a ∧ a ≤ 356) ∨ a = 365 ∨ a = 366) I J ∧ ∀ y, y < i → ∀ m, m < 2 ^ w → J (350 + y) m = apR w y m (lnF w h p y)) ?_ (Nat.lt_of_le_of_lt (show h + 1 ≤ 7 by omega) (jfuel_n (by decide))) ⟨rfl, frm_refl _ _, fun y hy => by omega⟩
  rintro i hi y J ⟨rfl, hJ, jA⟩ rec hrec
  have cJ := cS J hJ
  have j6 := cJ.2.1
  by_cases e : i = h + 1
  · subst e
    (repeat (first | (with_reducible apply wm_o; focus (simp (disch := omega) only [wr_id, Int.toNat_natCast, Int.reduceToNat, tn_lk, tn_kl, if_pos, if_neg, ↓reduceIte, and_self, and_true, true_and, FRows ev_in, j6]; with_reducible rfl)) | (with_reducible apply wm_q) | (with_reducible apply wm_c; focus (first | assumption | decide +kernel)) | (with_reducible apply wm_d; focus (simp (disch := omega) only [wr_id, Int.toNat_natCast, Int.reduceToNat, tn_lk, tn_kl, if_pos, if_neg, ↓reduceIte, and_self, and_true, true_and, FRows ev_in, j6]; with_reducible rfl)) | (with_reducible apply wm_t; focus (first | omega | (simp (disch := omega) only [wr_id, FRows ev_in, j6]; omega) | (simp (disch := omega) only [wr_id, FRows ev_in, j6]; done))) | (with_reducible apply wm_f; focus (first | omega | (simp (disch := omega) only [wr_id, FRows ev_in, j6]; omega) | (simp (disch := omega) only [wr_id, FRows ev_in, j6]; done)))))
    exact wm_r ⟨hJ, fun y hy => jA y (by omega)⟩
  · have jl : J 367 i = ((lnF w h p i : Nat) : Int) := by rw [hJ _ (by omega)]; exact lnI_F hL (by omega)
    (repeat (first | (with_reducible apply wm_o; focus (simp (disch := omega) only [wr_id, Int.toNat_natCast, Int.reduceToNat, tn_lk, tn_kl, if_pos, if_neg, ↓reduceIte, and_self, and_true, true_and, FRows ev_in, j6, FX, jl, FBest]; with_reducible rfl)) | (with_reducible apply wm_q) | (with_reducible apply wm_c; focus (first | assumption | decide +kernel)) | (with_reducible apply wm_d; focus (simp (disch := omega) only [wr_id, Int.toNat_natCast, Int.reduceToNat, tn_lk, tn_kl, if_pos, if_neg, ↓reduceIte, and_self, and_true, true_and, FRows ev_in, j6, FX, jl, FBest]; with_reducible rfl)) | (with_reducible apply wm_t; focus (first | omega | (simp (disch := omega) only [wr_id, FRows ev_in, j6, FX, jl, FBest]; omega) | (simp (disch := omega) only [wr_id, FRows ev_in, j6, FX, jl, FBest]; done))) | (with_reducible apply wm_f; focus (first | omega | (simp (disch := omega) only [wr_id, FRows ev_in, j6, FX, jl, FBest]; omega) | (simp (disch := omega) only [wr_id, FRows ev_in, j6, FX, jl, FBest]; done)))))
    refine wm_b (w_climb (Or.inr rfl) ⟨c4, c5⟩ cJ.1 (show i ≤ 6 by omega) (lnF_64 c5 i)) (fun v K hK => ?_)
    obtain ⟨k1, k2⟩ := hK
    have q1 := fun (J : Nat → Nat → Int) => g_row (t := t) (d := d) (rt := rt) (I := J) (a := 349) (y := i) (i := (i : Int)) (b := 350 + i) gd_o (by omega) rfl (by omega)
    have q2 := fun (J : Nat → Nat → Int) (k v : Int) => g_st (t := t) (d := d) (rt := rt) (I := J) (a := 349) (y := i) (b := 350 + i) gd_o (by omega) (by omega) k v
    refine wm_lp2 (2 ^ w) (fun k x L => x = (k : Int) ∧ frm (fun a => a = 350 + i ∨ a = 365) K L ∧ ∀ m, m < k → L (350 + i) m = apR w i m (lnF w h p i)) ?_ (Nat.lt_of_le_of_lt hp6 (jfuel_n (by decide))) ⟨rfl, frm_refl _ _, fun m hm => by omega⟩
    rintro k hk x L ⟨rfl, hL', lA⟩ rec2 hrec2
    have fL : frm (fun a => (350 ≤ a ∧ a ≤ 356) ∨ a = 365 ∨ a = 366) I L := frm_trans hJ (frm_trans (frm_sub k1 (fun a ha => by omega)) (frm_sub hL' (fun a ha => by omega)))
    have cL := cS L fL
    have l7 := cL.2.2.1
    by_cases ek : k = 2 ^ w
    · subst ek
      (repeat (first | (with_reducible apply wm_o; focus (simp (disch := omega) only [wr_id, Int.toNat_natCast, Int.reduceToNat, tn_lk, tn_kl, if_pos, if_neg, ↓reduceIte, and_self, and_true, true_and, FRows ev_in, l7]; with_reducible rfl)) | (with_reducible apply wm_q) | (with_reducible apply wm_c; focus (first | assumption | decide +kernel)) | (with_reducible apply wm_d; focus (simp (disch := omega) only [wr_id, Int.toNat_natCast, Int.reduceToNat, tn_lk, tn_kl, if_pos, if_neg, ↓reduceIte, and_self, and_true, true_and, FRows ev_in, l7]; with_reducible rfl)) | (with_reducible apply wm_t; focus (first | omega | (simp (disch := omega) only [wr_id, FRows ev_in, l7]; omega) | (simp (disch := omega) only [wr_id, FRows ev_in, l7]; done))) | (with_reducible apply wm_f; focus (first | omega | (simp (disch := omega) only [wr_id, FRows ev_in, l7]; omega) | (simp (disch := omega) only [wr_id, FRows ev_in, l7]; done)))))
      refine hrec (i + 1) _ _ (by omega) (by omega) ⟨by omega, fL, fun z z1 m hm => ?_⟩
      by_cases ez : z = i
      · subst ez; exact lA m hm
      · rw [hL' _ (by omega), k1 _ (by omega)]; exact jA z (by omega) m hm
    · (repeat (first | (with_reducible apply wm_o; focus (simp (disch := omega) only [wr_id, Int.toNat_natCast, Int.reduceToNat, tn_lk, tn_kl, if_pos, if_neg, ↓reduceIte, and_self, and_true, true_and, FRows ev_in, FBest, l7, q1]; with_reducible rfl)) | (with_reducible apply wm_q) | (with_reducible apply wm_c; focus (first | assumption | decide +kernel)) | (with_reducible apply wm_d; focus (simp (disch := omega) only [wr_id, Int.toNat_natCast, Int.reduceToNat, tn_lk, tn_kl, if_pos, if_neg, ↓reduceIte, and_self, and_true, true_and, FRows ev_in, FBest, l7, q1]; with_reducible rfl)) | (with_reducible apply wm_t; focus (first | omega | (simp (disch := omega) only [wr_id, FRows ev_in, FBest, l7, q1]; omega) | (simp (disch := omega) only [wr_id, FRows ev_in, FBest, l7, q1]; done))) | (with_reducible apply wm_f; focus (first | omega | (simp (disch := omega) only [wr_id, FRows ev_in, FBest, l7, q1]; omega) | (simp (disch := omega) only [wr_id, FRows ev_in, FBest, l7, q1]; done)))))
      refine wm_b (w_apartRow (m' := lnF w h p i) ⟨c4, c5⟩ cL.1 (show i ≤ 6 by omega) (show k < 64 by omega) (fun x hx => by rw [hL' _ (by omega)]; exact k2 x hx)) (fun v2 L2 hL2 => ?_)
      obtain ⟨rfl, l1⟩ := hL2
      (repeat (first | (with_reducible apply wm_o; focus (simp (disch := omega) only [wr_id, Int.toNat_natCast, Int.reduceToNat, tn_lk, tn_kl, if_pos, if_neg, ↓reduceIte, and_self, and_true, true_and, q2]; with_reducible rfl)) | (with_reducible apply wm_q) | (with_reducible apply wm_c; focus (first | assumption | decide +kernel)) | (with_reducible apply wm_d; focus (simp (disch := omega) only [wr_id, Int.toNat_natCast, Int.reduceToNat, tn_lk, tn_kl, if_pos, if_neg, ↓reduceIte, and_self, and_true, true_and, q2]; with_reducible rfl)) | (with_reducible apply wm_t; focus (first | omega | (simp (disch := omega) only [wr_id, q2]; omega) | (simp (disch := omega) only [wr_id, q2]; done))) | (with_reducible apply wm_f; focus (first | omega | (simp (disch := omega) only [wr_id, q2]; omega) | (simp (disch := omega) only [wr_id, q2]; done)))))
      refine hrec2 (k + 1) _ _ (by omega) (by omega) ⟨by omega, frm_up (frm_trans hL' (frm_sub l1 (fun a ha => Or.inr ha))) (Or.inl rfl), fun m hm => ?_⟩
      rw [up_g]
      by_cases em : m = k
      · rw [if_pos em, em]
      · rw [if_neg em, l1 _ (by omega)]; exact lA m (by omega)
theorem w_weighLow (c : rCfg I 311 w h cl na nd) : wm t d rt (f_X0_weighLow 348 311 (mm t d rt I)) (fun _ J => frm (fun a => (350 ≤ a ∧ a ≤ 356) ∨ a = 365) I J ∧ ∀ y, y ≤ h → ∀ m, m < 2 ^ w → J (350 + y) m = -smI (hlC w y m) (w + 1)) := by
  have c0 := c
  obtain ⟨c1, c2, c3, c4, c5, c6, c7, c8, c9, c10, c11⟩ := c
  have hp6 : 2 ^ w ≤ 2 ^ 6 := Nat.pow_le_pow_right (by decide) c5
  have hp := Nat.two_pow_pos w
  have kr := ev_k
  have kb := be_k
  have cS : ∀ J : Nat → Nat → Int, frm (fun a => (350 ≤ a ∧ a ≤ 356) ∨ a = 365) I J → rCfg J 311 w h cl na nd := fun J hJ => rCfg_frm (hJ _ (by omega)) (hJ _ (by omega)) (hJ _ (by omega)) (hJ _ (by omega)) (hJ _ (by omega)) c0
  unfold f_X0_weighLow
  refine wm_lp2 (h + 1) (fun i y J => y = (i : Int) ∧ frm (fun a => (350 ≤ a ∧ a ≤ 356) ∨ a = 365) I J ∧ ∀ y, y < i → ∀ m, m < 2 ^ w → J (350 + y) m = -smI (hlC w y m) (w + 1)) ?_ (Nat.lt_of_le_of_lt (show h + 1 ≤ 7 by omega) (jfuel_n (by decide))) ⟨rfl, frm_refl _ _, fun y hy => by omega⟩
  rintro i hi y J ⟨rfl, hJ, jA⟩ rec hrec
  have cJ := cS J hJ
  have j6 := cJ.2.1
  by_cases e : i = h + 1
  · subst e
    (repeat (first | (with_reducible apply wm_o; focus (simp (disch := omega) only [wr_id, Int.toNat_natCast, Int.reduceToNat, tn_lk, tn_kl, if_pos, if_neg, ↓reduceIte, and_self, and_true, true_and, FRows ev_in, j6]; with_reducible rfl)) | (with_reducible apply wm_q) | (with_reducible apply wm_c; focus (first | assumption | decide +kernel)) | (with_reducible apply wm_d; focus (simp (disch := omega) only [wr_id, Int.toNat_natCast, Int.reduceToNat, tn_lk, tn_kl, if_pos, if_neg, ↓reduceIte, and_self, and_true, true_and, FRows ev_in, j6]; with_reducible rfl)) | (with_reducible apply wm_t; focus (first | omega | (simp (disch := omega) only [wr_id, FRows ev_in, j6]; omega) | (simp (disch := omega) only [wr_id, FRows ev_in, j6]; done))) | (with_reducible apply wm_f; focus (first | omega | (simp (disch := omega) only [wr_id, FRows ev_in, j6]; omega) | (simp (disch := omega) only [wr_id, FRows ev_in, j6]; done)))))
    exact wm_r ⟨hJ, fun y hy => jA y (by omega)⟩
  · (repeat (first | (with_reducible apply wm_o; focus (simp (disch := omega) only [wr_id, Int.toNat_natCast, Int.reduceToNat, tn_lk, tn_kl, if_pos, if_neg, ↓reduceIte, and_self, and_true, true_and, FRows ev_in, j6]; with_reducible rfl)) | (with_reducible apply wm_q) | (with_reducible apply wm_c; focus (first | assumption | decide +kernel)) | (with_reducible apply wm_d; focus (simp (disch := omega) only [wr_id, Int.toNat_natCast, Int.reduceToNat, tn_lk, tn_kl, if_pos, if_neg, ↓reduceIte, and_self, and_true, true_and, FRows ev_in, j6]; with_reducible rfl)) | (with_reducible apply wm_t; focus (first | omega | (simp (disch := omega) only [wr_id, FRows ev_in, j6]; omega) | (simp (disch := omega) only [wr_id, FRows ev_in, j6]; done))) | (with_reducible apply wm_f; focus (first | omega | (simp (disch := omega) only [wr_id, FRows ev_in, j6]; omega) | (simp (disch := omega) only [wr_id, FRows ev_in, j6]; done)))))
    have q1 := fun (J : Nat → Nat → Int) => g_row (t := t) (d := d) (rt := rt) (I := J) (a := 349) (y := i) (i := (i : Int)) (b := 350 + i) gd_o (by omega) rfl (by omega)
    have q2 := fun (J : Nat → Nat → Int) (k v : Int) => g_st (t := t) (d := d) (rt := rt) (I := J) (a := 349) (y := i) (b := 350 + i) gd_o (by omega) (by omega) k v
    refine wm_lp2 (2 ^ w) (fun k x L => x = (k : Int) ∧ frm (fun a => a = 350 + i ∨ a = 365) J L ∧ ∀ m, m < k → L (350 + i) m = -smI (hlC w i m) (w + 1)) ?_ (Nat.lt_of_le_of_lt hp6 (jfuel_n (by decide))) ⟨rfl, frm_refl _ _, fun m hm => by omega⟩
    rintro k hk x L ⟨rfl, hL', lA⟩ rec2 hrec2
    have fL : frm (fun a => (350 ≤ a ∧ a ≤ 356) ∨ a = 365) I L := frm_trans hJ (frm_sub hL' (fun a ha => by omega))
    have cL := cS L fL
    have l7 := cL.2.2.1
    by_cases ek : k = 2 ^ w
    · subst ek
      (repeat (first | (with_reducible apply wm_o; focus (simp (disch := omega) only [wr_id, Int.toNat_natCast, Int.reduceToNat, tn_lk, tn_kl, if_pos, if_neg, ↓reduceIte, and_self, and_true, true_and, FRows ev_in, l7]; with_reducible rfl)) | (with_reducible apply wm_q) | (with_reducible apply wm_c; focus (first | assumption | decide +kernel)) | (with_reducible apply wm_d; focus (simp (disch := omega) only [wr_id, Int.toNat_natCast, Int.reduceToNat, tn_lk, tn_kl, if_pos, if_neg, ↓reduceIte, and_self, and_true, true_and, FRows ev_in, l7]; with_reducible rfl)) | (with_reducible apply wm_t; focus (first | omega | (simp (disch := omega) only [wr_id, FRows ev_in, l7]; omega) | (simp (disch := omega) only [wr_id, FRows ev_in, l7]; done))) | (with_reducible apply wm_f; focus (first | omega | (simp (disch := omega) only [wr_id, FRows ev_in, l7]; omega) | (simp (disch := omega) only [wr_id, FRows ev_in, l7]; done)))))
      refine hrec (i + 1) _ _ (by omega) (by omega) ⟨by omega, fL, fun z z1 m hm => ?_⟩
      by_cases ez : z = i
      · subst ez; exact lA m hm
      · rw [hL' _ (by omega)]; exact jA z (by omega) m hm
    · (repeat (first | (with_reducible apply wm_o; focus (simp (disch := omega) only [wr_id, Int.toNat_natCast, Int.reduceToNat, tn_lk, tn_kl, if_pos, if_neg, ↓reduceIte, and_self, and_true, true_and, FRows ev_in, FBest, l7]; with_reducible rfl)) | (with_reducible apply wm_q) | (with_reducible apply wm_c; focus (first | assumption | decide +kernel)) | (with_reducible apply wm_d; focus (simp (disch := omega) only [wr_id, Int.toNat_natCast, Int.reduceToNat, tn_lk, tn_kl, if_pos, if_neg, ↓reduceIte, and_self, and_true, true_and, FRows ev_in, FBest, l7]; with_reducible rfl)) | (with_reducible apply wm_t; focus (first | omega | (simp (disch := omega) only [wr_id, FRows ev_in, FBest, l7]; omega) | (simp (disch := omega) only [wr_id, FRows ev_in, FBest, l7]; done))) | (with_reducible apply wm_f; focus (first | omega | (simp (disch := omega) only [wr_id, FRows ev_in, FBest, l7]; omega) | (simp (disch := omega) only [wr_id, FRows ev_in, FBest, l7]; done)))))
      refine wm_b (w_climb (Or.inl rfl) ⟨c4, c5⟩ cL.1 (show i ≤ 6 by omega) (show k < 64 by omega)) (fun v2 L2 hL2 => ?_)
      obtain ⟨l1, l2⟩ := hL2
      have m5 : L2 311 5 = (w : Int) := by rw [l1 _ (by omega)]; exact cL.1
      refine wm_lq2 (w + 1) (fun x a b => a = smI (hlC w i k) x ∧ b = (x : Int)) ?_ (Nat.lt_of_le_of_lt (show w + 1 ≤ 7 by omega) (jfuel_n (by decide))) ⟨rfl, rfl⟩
      rintro x hx a b ⟨rfl, rfl⟩ rec3 hrec3
      by_cases ex : x = w + 1
      · subst ex
        (repeat (first | (with_reducible apply wm_o; focus (simp (disch := omega) only [wr_id, Int.toNat_natCast, Int.reduceToNat, tn_lk, tn_kl, if_pos, if_neg, ↓reduceIte, and_self, and_true, true_and, FRows ev_in, FBest, m5, q1, q2]; with_reducible rfl)) | (with_reducible apply wm_q) | (with_reducible apply wm_c; focus (first | assumption | decide +kernel)) | (with_reducible apply wm_d; focus (simp (disch := omega) only [wr_id, Int.toNat_natCast, Int.reduceToNat, tn_lk, tn_kl, if_pos, if_neg, ↓reduceIte, and_self, and_true, true_and, FRows ev_in, FBest, m5, q1, q2]; with_reducible rfl)) | (with_reducible apply wm_t; focus (first | omega | (simp (disch := omega) only [wr_id, FRows ev_in, FBest, m5, q1, q2]; omega) | (simp (disch := omega) only [wr_id, FRows ev_in, FBest, m5, q1, q2]; done))) | (with_reducible apply wm_f; focus (first | omega | (simp (disch := omega) only [wr_id, FRows ev_in, FBest, m5, q1, q2]; omega) | (simp (disch := omega) only [wr_id, FRows ev_in, FBest, m5, q1, q2]; done)))))
        refine hrec2 (k + 1) _ _ (by omega) (by omega) ⟨by omega, frm_up (frm_trans hL' (frm_sub l1 (fun a ha => Or.inr ha))) (Or.inl rfl), fun m hm => ?_⟩
        rw [up_g]
        by_cases em : m = k
        · rw [if_pos em, em]; omega
        · rw [if_neg em, l1 _ (by omega)]; exact lA m (by omega)
      · have lx := l2 x (by omega)
        (repeat (first | (with_reducible apply wm_o; focus (simp (disch := omega) only [wr_id, Int.toNat_natCast, Int.reduceToNat, tn_lk, tn_kl, if_pos, if_neg, ↓reduceIte, and_self, and_true, true_and, FRows ev_in, FBest, m5, lx]; with_reducible rfl)) | (with_reducible apply wm_q) | (with_reducible apply wm_c; focus (first | assumption | decide +kernel)) | (with_reducible apply wm_d; focus (simp (disch := omega) only [wr_id, Int.toNat_natCast, Int.reduceToNat, tn_lk, tn_kl, if_pos, if_neg, ↓reduceIte, and_self, and_true, true_and, FRows ev_in, FBest, m5, lx]; with_reducible rfl)) | (with_reducible apply wm_t; focus (first | omega | (simp (disch := omega) only [wr_id, FRows ev_in, FBest, m5, lx]; omega) | (simp (disch := omega) only [wr_id, FRows ev_in, FBest, m5, lx]; done))) | (with_reducible apply wm_f; focus (first | omega | (simp (disch := omega) only [wr_id, FRows ev_in, FBest, m5, lx]; omega) | (simp (disch := omega) only [wr_id, FRows ev_in, FBest, m5, lx]; done)))))
        exact hrec3 (x + 1) _ _ (by omega) (by omega) ⟨rfl, by omega⟩
/-- the class's best and its number -/
theorem best_F (sq : sqOK w h n nh hl) {wt : Nat → Nat → Int} (hwt : ∀ y m, -10000 ≤ wt y m ∧ wt y m ≤ 10000) (hpos : 0 < Np w n noB noB n 0 hl) : ∃ b, b < Np w n noB noB n 0 hl ∧ lnB wt w h hl noB noB h 0 0 = lnP w h (nthP w n noB noB n 0 hl b) ∧ Gn wt w h hl noB noB h 0 0 = smI (fun y => wt y (lnF w h (nthP w n noB noB n 0 hl b) y)) (h + 1) ∧ ∀ i, i < Np w n noB noB n 0 hl → smI (fun y => wt y (lnF w h (nthP w n noB noB n 0 hl i) y)) (h + 1) ≤ smI (fun y => wt y (lnF w h (nthP w n noB noB n 0 hl b) y)) (h + 1) ∧ (i < b → smI (fun y => wt y (lnF w h (nthP w n noB noB n 0 hl i) y)) (h + 1) < smI (fun y => wt y (lnF w h (nthP w n noB noB n 0 hl b) y)) (h + 1)) := by
  have hnw := sq.2.2.2.2.1
  have h1 : 2 ≤ w := sq.1
  have h2 : 2 ≤ h := sq.2.2.1
  have e1 : Np w (w * h) noB noB (h * w) (0 * w) (Uc w hl 0 0) = Np w n noB noB n 0 hl := by rw [Uc_0, Nat.zero_mul, Nat.mul_comm h w, hnw]
  obtain ⟨b, b1, b2, b3, b4, _⟩ := best_spec (w := w) (h := h) (cl := hl) (na := noB) (nd := noB) (wt := wt) (by omega) sq.2.1 (by omega) sq.2.2.2.1 no_cl (fun y m => (hwt y m).1) (k := h) (y := 0) (into := 0) (by omega) (by unfold canR; rw [if_pos rfl]; rfl) (by rw [e1]; exact hpos)
  rw [Uc_0, Nat.zero_mul, Nat.mul_comm h w, ← hnw] at b1 b2 b3
  have b4' : ∀ i, i < Np w n noB noB n 0 hl → vL wt 0 0 (lnP w h (nthP w n noB noB n 0 hl i)) ≤ vL wt 0 0 (lnP w h (nthP w n noB noB n 0 hl b)) ∧ (i < b → vL wt 0 0 (lnP w h (nthP w n noB noB n 0 hl i)) < vL wt 0 0 (lnP w h (nthP w n noB noB n 0 hl b))) := by
    intro i hi
    have := b4 i (by rw [e1]; exact hi)
    rw [Uc_0, Nat.zero_mul, Nat.mul_comm h w, ← hnw] at this
    exact this
  refine ⟨b, b1, b2, by rw [b3, vL_F], fun i hi => ?_⟩
  have := b4' i hi
  rw [vL_F, vL_F] at this
  exact this
end FR
