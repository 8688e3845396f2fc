/-! ===== Kept: undo, slots ===== -/
theorem rF_past : ∀ j, j < 40 → rF 47 j = some (48 + 6 * j) := by decide +kernel
theorem rF_slot : ∀ j, j < 3 → rF 288 j = some (289 + 6 * j) := by decide +kernel
theorem pst_in : ∀ j, j < 40 → 48 + 6 * j ∈ stL := by decide +kernel
theorem slt_in : ∀ j, j < 3 → 289 + 6 * j ∈ stL := by decide +kernel
theorem now_in : 34 ∈ stL := by decide +kernel
theorem lat_in : 40 ∈ stL := by decide +kernel
/-- u states can be gone back to; H i is the one i + 1 steps back -/
def kpR (I : Nat → Nat → Int) (w u nw : Nat) (H : Nat → Nat → Int) : Prop := I 46 3 = (nw : Int) ∧ nw < 40 ∧ I 46 4 = (u : Int) ∧ u ≤ 40 ∧ ∀ i, i < u → stR I (48 + 6 * ((nw + 40 - i) % 40)) w (H i)
/-- the slots -/
def slR (I : Nat → Nat → Int) (w : Nat) (G : Nat → Nat → Int) : Prop := ∀ i, i < 3 → (I 307 i = 0 ∨ I 307 i = 1) ∧ (I 307 i = 1 → stR I (289 + 6 * i) w (G i))
def hCons (ρ : Nat → Int) (H : Nat → Nat → Int) : Nat → Nat → Int := fun i => if i = 0 then ρ else H (i - 1)
theorem hCons_0 (ρ : Nat → Int) (H : Nat → Nat → Int) : hCons ρ H 0 = ρ := rfl
theorem hCons_n {ρ : Nat → Int} {H : Nat → Nat → Int} {i : Nat} (h : i ≠ 0) : hCons ρ H i = H (i - 1) := if_neg h
def gSet (G : Nat → Nat → Int) (i : Nat) (ρ : Nat → Int) : Nat → Nat → Int := fun j => if j = i then ρ else G j
theorem gSet_s {G : Nat → Nat → Int} {i : Nat} {ρ : Nat → Int} : gSet G i ρ i = ρ := if_pos rfl
theorem gSet_n {G : Nat → Nat → Int} {i j : Nat} {ρ : Nat → Int} (h : j ≠ i) : gSet G i ρ j = G j := if_neg h
section KP
variable {t d rt : Nat} {I : Nat → Nat → Int} {w u nw : Nat} {ρ : Nat → Int} {H G : Nat → Nat → Int}
theorem past_ld {j : Nat} (hj : j < 40) : jm_ldR 25 (mm t d rt I) 47 (j : Int) = some (48 + 6 * j) := by
  rw [mm_ldR (n := 40) (m := 40) (by decide +kernel) (by decide) rfl, wr_n j (by omega), if_pos (by omega), Int.toNat_natCast, R0_f (Or.inl (by decide)) (Or.inl (by decide))]
  exact rF_past j hj
theorem slot_ld {j : Nat} (hj : j < 3) : jm_ldR 25 (mm t d rt I) 288 (j : Int) = some (289 + 6 * j) := by
  rw [mm_ldR (n := 3) (m := 3) (by decide +kernel) (by decide) rfl, wr_n j (by omega), if_pos (by omega), Int.toNat_natCast, R0_f (Or.inl (by decide)) (Or.inl (by decide))]
  exact rF_slot j hj
theorem kpR_frm {J : Nat → Nat → Int} {S : Nat → Prop} (hf : frm S I J) (hs : ∀ a, (a = 46 ∨ (48 ≤ a ∧ a < 288)) → ¬ S a) (h : kpR I w u nw H) : kpR J w u nw H := by
  obtain ⟨h1, h2, h3, h4, h5⟩ := h
  have e := hf 46 (hs 46 (Or.inl rfl))
  refine ⟨by rw [e]; exact h1, h2, by rw [e]; exact h3, h4, fun i hi => stR_frm hf (fun a a1 a2 => hs a (Or.inr ?_)) (h5 i hi)⟩
  have := Nat.mod_lt (nw + 40 - i) (show 40 > 0 by decide)
  omega
theorem slR_frm {J : Nat → Nat → Int} {S : Nat → Prop} (hf : frm S I J) (hs : ∀ a, 289 ≤ a → a ≤ 307 → ¬ S a) (h : slR I w G) : slR J w G := by
  intro i hi
  have e := hf 307 (hs 307 (by omega) (by omega))
  rw [e]
  exact ⟨(h i hi).1, fun q => stR_frm hf (fun a a1 a2 => hs a (by omega) (by omega)) ((h i hi).2 q)⟩
theorem w_keep (h : stR I 34 w ρ) (hk : kpR I w u nw H) : wm t d rt (f_X1_keepForUndo 46 34 (mm t d rt I)) (fun _ J => frm (fun a => a = 46 ∨ (48 ≤ a ∧ a < 288)) I J ∧ kpR J w (min (u + 1) 40) ((nw + 1) % 40) (hCons ρ H)) := by
  obtain ⟨h1, h2, h3, h4, h5⟩ := hk
  have hm : (nw + 1) % 40 < 40 := Nat.mod_lt _ (by decide)
  have e1 : jm_rm ((nw : Int) + 1) 40 = some (((nw + 1) % 40 : Nat) : Int) := by
    have := rm_n (a := nw + 1) (b := 40) (by omega) (by omega) (by omega)
    rw [show ((nw : Int) + 1) = ((nw + 1 : Nat) : Int) by omega]
    exact this
  generalize hq : (nw + 1) % 40 = q at *
  have hin := pst_in q hm
  simp (disch := omega) only [Option.bind_some, jbd_s, jjq, jz0, jz1, wr_id, Int.toNat_natCast, Int.reduceToNat, tn_lk, tn_kl, if_true, if_false, Bool.false_eq_true, reduceCtorEq, ↓reduceIte, if_pos, if_neg, f_X1_keepForUndo, FKept, h1, e1, up_g, past_ld hm, FState hin]
  have hf1 : frm (fun a => a = 46) I (up I 46 3 (q : Int)) := frm_up (frm_refl _ _) rfl
  refine wm_b (w_copyOf hin now_in (by omega) (stR_frm hf1 (fun a a1 a2 => by omega) h)) (fun v K hK => ?_)
  obtain ⟨k1, k2⟩ := hK
  have k3 : frm (fun a => a = 46 ∨ (48 ≤ a ∧ a < 288)) I K := frm_trans (frm_sub hf1 (fun a ha => Or.inl ha)) (frm_sub k1 (fun a ha => by unfold stF at ha; omega))
  have k46 : K 46 = up I 46 3 (q : Int) 46 := k1 46 (by unfold stF; omega)
  have e4 : K 46 4 = (u : Int) := by rw [k46, up_g, if_neg (by decide)]; exact h3
  have e3 : K 46 3 = (q : Int) := by rw [k46, up_g, if_pos rfl]
  have ev : f_J9_min_7cf53 ((u : Int) + 1) 40 (mm t d rt K) = some (((min (u + 1) 40 : Nat) : Int), mm t d rt K) := by
    by_cases z : u + 1 ≤ 40
    · rw [Nat.min_eq_left z]
      simp (disch := omega) only [Option.bind_some, jbd_s, jjq, jz0, jz1, wr_id, Int.toNat_natCast, Int.reduceToNat, tn_lk, tn_kl, if_true, if_false, Bool.false_eq_true, reduceCtorEq, ↓reduceIte, if_pos, if_neg, f_J9_min_7cf53]
      rfl
    · rw [Nat.min_eq_right (by omega)]
      simp (disch := omega) only [Option.bind_some, jbd_s, jjq, jz0, jz1, wr_id, Int.toNat_natCast, Int.reduceToNat, tn_lk, tn_kl, if_true, if_false, Bool.false_eq_true, reduceCtorEq, ↓reduceIte, if_pos, if_neg, f_J9_min_7cf53]
      rfl
  simp (disch := omega) only [Option.bind_some, jbd_s, jjq, jz0, jz1, wr_id, Int.toNat_natCast, Int.reduceToNat, tn_lk, tn_kl, if_true, if_false, Bool.false_eq_true, reduceCtorEq, ↓reduceIte, if_pos, if_neg, FKept, e4, ev]
  refine wm_r ⟨frm_up k3 (Or.inl rfl), ?_, hm, ?_, by omega, fun i hi => ?_⟩
  · rw [up_g, if_neg (by decide)]; exact e3
  · rw [up_g, if_pos rfl]
  · have hfu : frm (fun a => a = 46) K (up K 46 4 (((min (u + 1) 40 : Nat)) : Int)) := frm_up (frm_refl _ _) rfl
    by_cases z : i = 0
    · subst z
      rw [hCons_0, show (q + 40 - 0) % 40 = q by omega]
      exact stR_frm hfu (fun a a1 a2 => by omega) k2
    · rw [hCons_n z]
      have hpl : (q + 40 - i) % 40 = (nw + 40 - (i - 1)) % 40 := by omega
      have hne : (q + 40 - i) % 40 ≠ q := by omega
      have hlt := Nat.mod_lt (q + 40 - i) (show 40 > 0 by decide)
      refine stR_frm hfu (fun a a1 a2 => by omega) (stR_frm k1 (fun a a1 a2 => by unfold stF; omega) (stR_frm hf1 (fun a a1 a2 => by omega) ?_))
      rw [hpl]
      exact h5 (i - 1) (by omega)
theorem w_giveBack0 (hk : kpR I w 0 nw H) : f_X1_giveBack 46 34 (mm t d rt I) = some (0, mm t d rt I) := by
  have h3 : I 46 4 = 0 := hk.2.2.1
  simp (disch := omega) only [Option.bind_some, jbd_s, jjq, jz0, jz1, wr_id, Int.toNat_natCast, Int.reduceToNat, tn_lk, tn_kl, if_true, if_false, Bool.false_eq_true, reduceCtorEq, ↓reduceIte, if_pos, if_neg, f_X1_giveBack, FKept, h3]
theorem w_giveBack (hk : kpR I w (u + 1) nw H) (hne : stR I 34 w ρ) : wm t d rt (f_X1_giveBack 46 34 (mm t d rt I)) (fun r J => r = 1 ∧ frm (fun a => a = 46 ∨ stF 34 a) I J ∧ stR J 34 w (H 0) ∧ kpR J w u ((nw + 39) % 40) (fun i => H (i + 1))) := by
  obtain ⟨h1, h2, h3, h4, h5⟩ := hk
  have h3' : I 46 4 = (u : Int) + 1 := by rw [h3]; omega
  have e1 : jm_rm ((nw : Int) + 40 - 1) 40 = some (((nw + 39) % 40 : Nat) : Int) := by
    have := rm_n (a := nw + 39) (b := 40) (by omega) (by omega) (by omega)
    rw [show ((nw : Int) + 40 - 1) = ((nw + 39 : Nat) : Int) by omega]
    exact this
  have hin := pst_in nw h2
  have p0 := h5 0 (by omega)
  rw [show (nw + 40 - 0) % 40 = nw by omega] at p0
  simp (disch := omega) only [Option.bind_some, jbd_s, jjq, jz0, jz1, wr_id, Int.toNat_natCast, Int.reduceToNat, tn_lk, tn_kl, if_true, if_false, Bool.false_eq_true, reduceCtorEq, ↓reduceIte, if_pos, if_neg, f_X1_giveBack, FKept, h1, h3', past_ld h2, FState now_in]
  refine wm_b (w_copyOf now_in hin (by omega) p0) (fun v K hK => ?_)
  obtain ⟨k1, k2⟩ := hK
  have k46 : K 46 = I 46 := k1 46 (by unfold stF; omega)
  have hm : (nw + 39) % 40 < 40 := Nat.mod_lt _ (by decide)
  simp (disch := omega) only [Option.bind_some, jbd_s, jjq, jz0, jz1, wr_id, Int.toNat_natCast, Int.reduceToNat, tn_lk, tn_kl, if_true, if_false, Bool.false_eq_true, reduceCtorEq, ↓reduceIte, if_pos, if_neg, FKept, k46, h1, e1, up_g, h3']
  generalize hq : (nw + 39) % 40 = q at *
  have hfu : frm (fun a => a = 46) K (up (up K 46 3 (q : Int)) 46 4 ((u : Int) + 1 - 1)) := frm_up (frm_up (frm_refl _ _) rfl) rfl
  refine wm_r ⟨rfl, frm_trans (frm_sub k1 (fun a ha => Or.inr ha)) (frm_sub hfu (fun a ha => Or.inl ha)), stR_frm hfu (fun a a1 a2 => by omega) k2, ?_, hm, ?_, by omega, fun i hi => ?_⟩
  · rw [up_g, if_neg (by decide), up_g, if_pos rfl]
  · rw [up_g, if_pos rfl]; omega
  · have hlt := Nat.mod_lt (q + 40 - i) (show 40 > 0 by decide)
    have hpl : (q + 40 - i) % 40 = (nw + 40 - (i + 1)) % 40 := by omega
    refine stR_frm hfu (fun a a1 a2 => by omega) (stR_frm k1 (fun a a1 a2 => by unfold stF; omega) ?_)
    rw [hpl]
    exact h5 (i + 1) (by omega)
theorem w_kclear : wm t d rt (f_X1_clear 46 (mm t d rt I)) (fun _ J => frm (fun a => a = 46 ∨ a = 307) I J ∧ J 46 4 = 0 ∧ J 46 3 = I 46 3 ∧ ∀ i, i < 3 → J 307 i = 0) := by
  unfold f_X1_clear
  simp only [FKept, Option.bind_some]
  refine wm_lp2 3 (fun i y J => y = (i : Int) ∧ J = fl (up I 46 4 0) 307 i (fun _ => 0)) ?_ (jfuel_n (by decide)) ⟨rfl, by rw [fl_0]⟩
  rintro i hi y J ⟨rfl, rfl⟩ rec hrec
  refine wm_if (fun c => ?_) (fun c => ?_)
  · simp (disch := omega) only [wr_id] at c
    simp (disch := omega) only [Option.bind_some, jbd_s, jjq, jz0, jz1, wr_id, Int.toNat_natCast, Int.reduceToNat, tn_lk, tn_kl, if_true, if_false, Bool.false_eq_true, reduceCtorEq, ↓reduceIte, if_pos, if_neg, FKept, jdz0]
    exact hrec (i + 1) _ _ (by omega) (by omega) ⟨by omega, fl_s _ _ _ (fun _ => 0)⟩
  · simp (disch := omega) only [wr_id] at c
    obtain rfl : i = 3 := by omega
    refine wm_r ⟨fun a ha => ?_, ?_, ?_, fun i hi => fl_in hi⟩
    · rw [flne (by omega), up_ne (by omega)]
    · rw [fl_ne (by decide), up_g, if_pos rfl]
    · rw [fl_ne (by decide), up_g, if_neg (by decide)]
theorem w_putSlot_f {x : Int} (hx : jd_wr x < 0 ∨ 3 ≤ jd_wr x) : f_X1_putIntoSlot 46 x 34 (mm t d rt I) = some (0, mm t d rt I) := by
  rcases hx with z | z
  · simp (disch := omega) only [Option.bind_some, jbd_s, jjq, jz0, jz1, wr_id, Int.toNat_natCast, Int.reduceToNat, tn_lk, tn_kl, if_true, if_false, Bool.false_eq_true, reduceCtorEq, ↓reduceIte, if_pos, if_neg, f_X1_putIntoSlot]
  · simp (disch := omega) only [Option.bind_some, jbd_s, jjq, jz0, jz1, wr_id, Int.toNat_natCast, Int.reduceToNat, tn_lk, tn_kl, if_true, if_false, Bool.false_eq_true, reduceCtorEq, ↓reduceIte, if_pos, if_neg, f_X1_putIntoSlot]
theorem w_putSlot (h : stR I 34 w ρ) (hg : slR I w G) {i : Nat} (hi : i < 3) : wm t d rt (f_X1_putIntoSlot 46 (i : Int) 34 (mm t d rt I)) (fun r J => r = 1 ∧ frm (fun a => 289 ≤ a ∧ a ≤ 307) I J ∧ J 307 = rSet (I 307) i 1 ∧ slR J w (gSet G i ρ)) := by
  have hin := slt_in i hi
  simp (disch := omega) only [Option.bind_some, jbd_s, jjq, jz0, jz1, wr_id, Int.toNat_natCast, Int.reduceToNat, tn_lk, tn_kl, if_true, if_false, Bool.false_eq_true, reduceCtorEq, ↓reduceIte, if_pos, if_neg, f_X1_putIntoSlot, FKept, slot_ld hi, FState hin]
  refine wm_b (w_copyOf hin now_in (by omega) h) (fun v K hK => ?_)
  obtain ⟨k1, k2⟩ := hK
  have k307 : K 307 = I 307 := k1 307 (by unfold stF; omega)
  simp (disch := omega) only [Option.bind_some, jbd_s, jjq, jz0, jz1, wr_id, Int.toNat_natCast, Int.reduceToNat, tn_lk, tn_kl, if_true, if_false, Bool.false_eq_true, reduceCtorEq, ↓reduceIte, if_pos, if_neg, FKept, jdz1]
  have hfu : frm (fun a => a = 307) K (up K 307 i 1) := frm_up (frm_refl _ _) rfl
  have e307 : up K 307 i 1 307 = rSet (I 307) i 1 := by
    funext y
    rw [up_g, k307]
    rfl
  refine wm_r ⟨rfl, frm_up (frm_sub k1 (fun a ha => by unfold stF at ha; omega)) (by omega), e307, fun j hj => ?_⟩
  rw [e307]
  by_cases z : j = i
  · subst z
    rw [rSet_s, gSet_s]
    exact ⟨Or.inr rfl, fun _ => stR_frm hfu (fun a a1 a2 => by omega) k2⟩
  · rw [rSet_n z, gSet_n z]
    exact ⟨(hg j hj).1, fun q => stR_frm hfu (fun a a1 a2 => by omega) (stR_frm k1 (fun a a1 a2 => by unfold stF; omega) ((hg j hj).2 q))⟩
theorem w_takeSlot_f {x : Int} (hx : jd_wr x < 0 ∨ 3 ≤ jd_wr x) : f_X1_takeFromSlot 46 x 34 (mm t d rt I) = some (0, mm t d rt I) := by
  rcases hx with z | z
  · simp (disch := omega) only [Option.bind_some, jbd_s, jjq, jz0, jz1, wr_id, Int.toNat_natCast, Int.reduceToNat, tn_lk, tn_kl, if_true, if_false, Bool.false_eq_true, reduceCtorEq, ↓reduceIte, if_pos, if_neg, f_X1_takeFromSlot]
  · simp (disch := omega) only [Option.bind_some, jbd_s, jjq, jz0, jz1, wr_id, Int.toNat_natCast, Int.reduceToNat, tn_lk, tn_kl, if_true, if_false, Bool.false_eq_true, reduceCtorEq, ↓reduceIte, if_pos, if_neg, f_X1_takeFromSlot]
theorem w_takeSlot_0 {i : Nat} (hi : i < 3) (h0 : I 307 i = 0) : f_X1_takeFromSlot 46 (i : Int) 34 (mm t d rt I) = some (0, mm t d rt I) := by
  simp (disch := omega) only [Option.bind_some, jbd_s, jjq, jz0, jz1, wr_id, Int.toNat_natCast, Int.reduceToNat, tn_lk, tn_kl, if_true, if_false, Bool.false_eq_true, reduceCtorEq, ↓reduceIte, if_pos, if_neg, f_X1_takeFromSlot, FKept, h0]
theorem w_takeSlot (hg : slR I w G) (hk : kpR I w u nw H) {i : Nat} (hi : i < 3) (h1 : I 307 i = 1) : wm t d rt (f_X1_takeFromSlot 46 (i : Int) 34 (mm t d rt I)) (fun r J => r = 1 ∧ frm (fun a => a = 46 ∨ stF 34 a) I J ∧ stR J 34 w (G i) ∧ kpR J w 0 nw H) := by
  have hin := slt_in i hi
  have hs := (hg i hi).2 h1
  simp (disch := omega) only [Option.bind_some, jbd_s, jjq, jz0, jz1, wr_id, Int.toNat_natCast, Int.reduceToNat, tn_lk, tn_kl, if_true, if_false, Bool.false_eq_true, reduceCtorEq, ↓reduceIte, if_pos, if_neg, f_X1_takeFromSlot, FKept, slot_ld hi, FState now_in, h1]
  refine wm_b (w_copyOf now_in hin (by omega) hs) (fun v K hK => ?_)
  obtain ⟨k1, k2⟩ := hK
  have k46 : K 46 = I 46 := k1 46 (by unfold stF; omega)
  simp (disch := omega) only [Option.bind_some, jbd_s, jjq, jz0, jz1, wr_id, Int.toNat_natCast, Int.reduceToNat, tn_lk, tn_kl, if_true, if_false, Bool.false_eq_true, reduceCtorEq, ↓reduceIte, if_pos, if_neg, FKept]
  have hfu : frm (fun a => a = 46) K (up K 46 4 0) := frm_up (frm_refl _ _) rfl
  refine wm_r ⟨rfl, frm_trans (frm_sub k1 (fun a ha => Or.inr ha)) (frm_sub hfu (fun a ha => Or.inl ha)), stR_frm hfu (fun a a1 a2 => by omega) k2, ?_, hk.2.1, ?_, by omega, fun i hi => by omega⟩
  · rw [up_g, if_neg (by decide), k46]; exact hk.1
  · rw [up_g, if_pos rfl]; rfl
theorem w_slotsInUse (h : ∀ i, i < 3 → I 307 i = 0 ∨ I 307 i = 1) : f_X1_slotsInUse 46 (mm t d rt I) = some (I 307 0 + I 307 1 + I 307 2, mm t d rt I) := by
  refine wm_eq ?_
  unfold f_X1_slotsInUse
  refine wm_lq2 3 (fun i a y => y = (i : Int) ∧ a = (if i = 0 then 0 else if i = 1 then I 307 0 else if i = 2 then I 307 0 + I 307 1 else I 307 0 + I 307 1 + I 307 2)) ?_ (jfuel_n (by decide)) ⟨rfl, rfl⟩
  rintro i hi a y ⟨rfl, rfl⟩ rec hrec
  refine wm_if (fun c => ?_) (fun c => ?_)
  · simp (disch := omega) only [wr_id] at c
    have hc := h i (by omega)
    have hb : i = 0 ∨ i = 1 ∨ i = 2 := by omega
    rcases hc with z | z
    · simp (disch := omega) only [Option.bind_some, jbd_s, jjq, jz0, jz1, wr_id, Int.toNat_natCast, Int.reduceToNat, tn_lk, tn_kl, if_true, if_false, Bool.false_eq_true, reduceCtorEq, ↓reduceIte, if_pos, if_neg, FKept, z]
      refine hrec (i + 1) _ _ (by omega) (by omega) ⟨by omega, ?_⟩
      rcases hb with rfl | rfl | rfl <;> simp [z]
    · simp (disch := omega) only [Option.bind_some, jbd_s, jjq, jz0, jz1, wr_id, Int.toNat_natCast, Int.reduceToNat, tn_lk, tn_kl, if_true, if_false, Bool.false_eq_true, reduceCtorEq, ↓reduceIte, if_pos, if_neg, FKept, z]
      refine hrec (i + 1) _ _ (by omega) (by omega) ⟨by omega, ?_⟩
      rcases hb with rfl | rfl | rfl <;> simp [z]
  · simp (disch := omega) only [wr_id] at c
    obtain rfl : i = 3 := by omega
    exact wm_r ⟨by simp, rfl⟩
end KP
