/-! ===== the class's text, empty ===== -/
def dfLw (q : Nat) : LW := ([], [cNum (plV q)])
theorem dfLw_ok (q : Nat) : lwOK (dfLw q).1 (dfLw q).2 := by
  refine ⟨fun b hb => absurd hb (List.not_mem_nil), ?_, rfl, rfl⟩
  intro x hx
  have : x = cNum (plV q) := List.mem_singleton.mp hx
  rw [this]
  exact Or.inl rfl
section CL
variable {t d rt : Nat} {I J : Nat → Nat → Int} {l sp : Nat}
theorem q_begin (hl : l = 11 ∨ l = 24) (hs : I l 4 = (sp : Int)) (h4 : sp ≤ 404) {q : Nat} {qz : Int} (hz : qz = (q : Int)) (hq : q < 3) : f_X2_begin l qz (mm t d rt I) = some (0, mm t d rt (up I (l + 3) q (sp : Int))) := by
  have hl' : l ∈ [11, 24] := by simpa using hl
  rw [hz]
  apply wm_eq
  unfold f_X2_begin
  (repeat (first | (with_reducible apply wm_o; focus (simp (disch := omega) only [wr_id, Int.toNat_natCast, Int.reduceToNat, tn_lk, tn_kl, if_pos, if_neg, ↓reduceIte, and_self, and_true, true_and, FLaws hl', hs]; with_reducible rfl)) | (with_reducible apply wm_q) | (with_reducible apply wm_c; focus (first | assumption | decide +kernel)) | (with_reducible apply wm_d; focus (simp (disch := omega) only [wr_id, Int.toNat_natCast, Int.reduceToNat, tn_lk, tn_kl, if_pos, if_neg, ↓reduceIte, and_self, and_true, true_and, FLaws hl', hs]; with_reducible rfl)) | (with_reducible apply wm_t; focus (first | omega | (simp (disch := omega) only [wr_id, FLaws hl', hs]; omega) | (simp (disch := omega) only [wr_id, FLaws hl', hs]; done))) | (with_reducible apply wm_f; focus (first | omega | (simp (disch := omega) only [wr_id, FLaws hl', hs]; omega) | (simp (disch := omega) only [wr_id, FLaws hl', hs]; done)))))
  exact wm_r ⟨rfl, rfl⟩
theorem ad_sp {a v : Int} : adI I l sp a v l 4 = ((sp + 1 : Nat) : Int) := by
  unfold adI
  rw [up_s]; omega
theorem w_lclear (hl : l = 11 ∨ l = 24) : wm t d rt (f_X2_clear l (mm t d rt I)) (fun _ J => frm (fun a => l ≤ a ∧ a ≤ l + 3) I J ∧ J l 4 = 4 ∧ J (l + 1) 0 = 0 ∧ J (l + 2) 0 = 1 ∧ J (l + 1) 1 = 3 ∧ J (l + 1) 2 = 0 ∧ J (l + 2) 2 = 0 ∧ J (l + 1) 3 = 3 ∧ J (l + 3) 0 = 0 ∧ J (l + 3) 1 = 2 ∧ J (l + 3) 2 = 2) := by
  have hl' : l ∈ [11, 24] := by simpa using hl
  have kl : (K0 l).1 = 2 ∧ l < 418 := ⟨(FLaws_k _ hl').1, (FLaws_k _ hl').2.1⟩
  unfold f_X2_clear
  have s0 : up I l 4 0 l 4 = ((0 : Nat) : Int) := up_s _ _ _ _
  generalize e0 : up I l 4 0 = I0 at s0
  have b0 := q_begin (t := t) (d := d) (rt := rt) hl s0 (by decide) (q := 0) (qz := 0) rfl (by decide)
  have s1 : up I0 (l + 3) 0 ((0 : Nat) : Int) l 4 = ((0 : Nat) : Int) := by rw [up_ne (by omega)]; exact s0
  generalize e1 : up I0 (l + 3) 0 ((0 : Nat) : Int) = I1 at s1 b0
  have b1 := q_add (t := t) (d := d) (rt := rt) hl s1 (by decide) (a := 0) (v := 1)
  have s2 := ad_sp (I := I1) (l := l) (sp := 0) (a := 0) (v := 1)
  generalize e2 : adI I1 l 0 0 1 = I2 at s2 b1
  have b2 := q_add (t := t) (d := d) (rt := rt) hl s2 (by decide) (a := 3) (v := 0)
  have s3 := ad_sp (I := I2) (l := l) (sp := 1) (a := 3) (v := 0)
  generalize e3 : adI I2 l (0 + 1) 3 0 = I3 at s3 b2
  have b3 := q_begin (t := t) (d := d) (rt := rt) hl s3 (by decide) (q := 1) (qz := 1) rfl (by decide)
  have s4 : up I3 (l + 3) 1 ((1 + 1 : Nat) : Int) l 4 = ((2 : Nat) : Int) := by rw [up_ne (by omega)]; exact s3
  generalize e4 : up I3 (l + 3) 1 ((1 + 1 : Nat) : Int) = I4 at s4 b3
  have b4 := q_begin (t := t) (d := d) (rt := rt) hl s4 (by decide) (q := 2) (qz := 2) rfl (by decide)
  have s5 : up I4 (l + 3) 2 ((2 : Nat) : Int) l 4 = ((2 : Nat) : Int) := by rw [up_ne (by omega)]; exact s4
  generalize e5 : up I4 (l + 3) 2 ((2 : Nat) : Int) = I5 at s5 b4
  have b5 := q_add (t := t) (d := d) (rt := rt) hl s5 (by decide) (a := 0) (v := 0)
  have s6 := ad_sp (I := I5) (l := l) (sp := 2) (a := 0) (v := 0)
  generalize e6 : adI I5 l 2 0 0 = I6 at s6 b5
  have b6 := q_add (t := t) (d := d) (rt := rt) hl s6 (by decide) (a := 3) (v := 0)
  refine wm_o ((by have := @FLaws t d rt I l hl'; simp only [this, e0]) : jm_pI 2 4 (mm t d rt I) l 0 = some (mm t d rt I0)) ?_
  refine wm_c kl (wm_d b0 (wm_c kl (wm_d b1 (wm_c kl (wm_d b2 (wm_c kl (wm_d b3 (wm_c kl (wm_d b4 (wm_c kl (wm_d b5 (wm_c kl (wm_d b6 (wm_r ?_))))))))))))))
  have a7 : ∀ p, adI I6 l (2 + 1) 3 0 (l + 1) p = (if p = 3 then 3 else I6 (l + 1) p) ∧ adI I6 l (2 + 1) 3 0 (l + 2) p = (if p = 3 then 0 else I6 (l + 2) p) := fun p => ad_row hl p
  have a6 : ∀ p, I6 (l + 1) p = (if p = 2 then 0 else I5 (l + 1) p) ∧ I6 (l + 2) p = (if p = 2 then 0 else I5 (l + 2) p) := fun p => by rw [← e6]; exact ad_row hl p
  have a3 : ∀ p, I3 (l + 1) p = (if p = 1 then 3 else I2 (l + 1) p) ∧ I3 (l + 2) p = (if p = 1 then 0 else I2 (l + 2) p) := fun p => by rw [← e3]; exact ad_row hl p
  have a2 : ∀ p, I2 (l + 1) p = (if p = 0 then 0 else I1 (l + 1) p) ∧ I2 (l + 2) p = (if p = 0 then 1 else I1 (l + 2) p) := fun p => by rw [← e2]; exact ad_row hl p
  have r5 : ∀ a, a ≠ l + 3 → I5 a = I3 a := fun a ha => by rw [← e5, up_ne ha, ← e4, up_ne ha]
  have ad3 : ∀ (X : Nat → Nat → Int) (s : Nat) (a v : Int), adI X l s a v (l + 3) = X (l + 3) := fun X s a v => by unfold adI; rw [up_ne (by omega), up_ne (by omega), up_ne (by omega)]
  have r3 : ∀ y, adI I6 l (2 + 1) 3 0 (l + 3) y = if y = 2 then 2 else if y = 1 then 2 else if y = 0 then 0 else I0 (l + 3) y := fun y => by
    rw [ad3, ← e6, ad3, ← e5, up_g, ← e4, up_g, ← e3, ad3, ← e2, ad3, ← e1, up_g]
    rfl
  refine ⟨fun a ha => ?_, ?_, ?_, ?_, ?_, ?_, ?_, ?_, ?_, ?_, ?_⟩
  · have z : ∀ (X : Nat → Nat → Int) (s : Nat) (x v : Int), adI X l s x v a = X a := fun X s x v => by unfold adI; rw [up_ne (by omega), up_ne (by omega), up_ne (by omega)]
    rw [z, ← e6, z, ← e5, up_ne (by omega), ← e4, up_ne (by omega), ← e3, z, ← e2, z, ← e1, up_ne (by omega), ← e0, up_ne (by omega)]
  · exact ad_sp
  · rw [(a7 0).1, if_neg (by decide), (a6 0).1, if_neg (by decide), r5 _ (by omega), (a3 0).1, if_neg (by decide), (a2 0).1, if_pos rfl]
  · rw [(a7 0).2, if_neg (by decide), (a6 0).2, if_neg (by decide), r5 _ (by omega), (a3 0).2, if_neg (by decide), (a2 0).2, if_pos rfl]
  · rw [(a7 1).1, if_neg (by decide), (a6 1).1, if_neg (by decide), r5 _ (by omega), (a3 1).1, if_pos rfl]
  · rw [(a7 2).1, if_neg (by decide), (a6 2).1, if_pos rfl]
  · rw [(a7 2).2, if_neg (by decide), (a6 2).2, if_pos rfl]
  · rw [(a7 3).1, if_pos rfl]
  · rw [r3]; rfl
  · rw [r3]; rfl
  · rw [r3]; rfl
theorem w_tclear (ht : rt ∈ [3, 16]) : wm t d rt (f_X8_clear rt (mm t d rt I)) (fun _ J => frm (fun a => rt ≤ a ∧ a ≤ rt + 11) I J ∧ J (rt + 8) 4 = 4 ∧ txC rt J 4 4 4 0 (0, fun _ => 0, fun _ => 0) (0, fun _ => 0, fun _ => 0, fun _ => 0) dfLw) := by
  have rt3 : rt = 3 ∨ rt = 16 := by simpa using ht
  have hl : rt + 8 = 11 ∨ rt + 8 = 24 := by omega
  have hl' : rt + 8 ∈ [11, 24] := by simpa using hl
  have kl : (K0 (rt + 8)).1 = 2 ∧ rt + 8 < 418 := ⟨(FLaws_k _ hl').1, (FLaws_k _ hl').2.1⟩
  unfold f_X8_clear
  (repeat (first | (with_reducible apply wm_o; focus (simp (disch := omega) only [wr_id, Int.toNat_natCast, Int.reduceToNat, tn_lk, tn_kl, if_pos, if_neg, ↓reduceIte, and_self, and_true, true_and, FText ht]; with_reducible rfl)) | (with_reducible apply wm_q) | (with_reducible apply wm_c; focus (first | assumption | decide +kernel)) | (with_reducible apply wm_d; focus (simp (disch := omega) only [wr_id, Int.toNat_natCast, Int.reduceToNat, tn_lk, tn_kl, if_pos, if_neg, ↓reduceIte, and_self, and_true, true_and, FText ht]; with_reducible rfl)) | (with_reducible apply wm_t; focus (first | omega | (simp (disch := omega) only [wr_id, FText ht]; omega) | (simp (disch := omega) only [wr_id, FText ht]; done))) | (with_reducible apply wm_f; focus (first | omega | (simp (disch := omega) only [wr_id, FText ht]; omega) | (simp (disch := omega) only [wr_id, FText ht]; done)))))
  generalize e0 : up (up (up (up (up I rt 0 4) rt 1 4) rt 2 0) rt 3 0) rt 4 0 = I0
  have g : ∀ j, I0 rt j = if j = 4 then 0 else if j = 3 then 0 else if j = 2 then 0 else if j = 1 then 4 else if j = 0 then 4 else I rt j := fun j => by
    rw [← e0, up_g, up_g, up_g, up_g, up_g]
  have f0 : frm (fun a => a = rt) I I0 := by
    rw [← e0]
    exact frm_up (frm_up (frm_up (frm_up (frm_up (frm_refl _ _) rfl) rfl) rfl) rfl) rfl
  refine wm_lp2 36 (fun n y J => y = (n : Int) ∧ frm (fun a => a = rt + 6 ∨ a = rt + 7) I0 J ∧ ∀ c, c < n → J (rt + 6) c = 0 ∧ J (rt + 7) c = 0) ?_ (jfuel_n (by decide)) ⟨rfl, frm_refl _ _, fun c hc => absurd hc (Nat.not_lt_zero _)⟩
  rintro n hn y J ⟨rfl, j1, j2⟩ rec hrec
  have z0 : jd_z 0 = 0 := by decide
  by_cases c : n < 36
  · (repeat (first | (with_reducible apply wm_o; focus (simp (disch := omega) only [wr_id, Int.toNat_natCast, Int.reduceToNat, tn_lk, tn_kl, if_pos, if_neg, ↓reduceIte, and_self, and_true, true_and, FText ht, z0]; with_reducible rfl)) | (with_reducible apply wm_q) | (with_reducible apply wm_c; focus (first | assumption | decide +kernel)) | (with_reducible apply wm_d; focus (simp (disch := omega) only [wr_id, Int.toNat_natCast, Int.reduceToNat, tn_lk, tn_kl, if_pos, if_neg, ↓reduceIte, and_self, and_true, true_and, FText ht, z0]; with_reducible rfl)) | (with_reducible apply wm_t; focus (first | omega | (simp (disch := omega) only [wr_id, FText ht, z0]; omega) | (simp (disch := omega) only [wr_id, FText ht, z0]; done))) | (with_reducible apply wm_f; focus (first | omega | (simp (disch := omega) only [wr_id, FText ht, z0]; omega) | (simp (disch := omega) only [wr_id, FText ht, z0]; done)))))
    refine hrec (n + 1) _ _ (by omega) (by omega) ⟨by omega, frm_up (frm_up j1 (Or.inl rfl)) (Or.inr rfl), fun x hx => ?_⟩
    rw [up_ne (by omega), up_g, up_g, up_ne (by omega)]
    by_cases e : x = n
    · rw [if_pos e, if_pos e]; exact ⟨rfl, rfl⟩
    · rw [if_neg e, if_neg e]; exact j2 x (by omega)
  · (repeat (first | (with_reducible apply wm_o; focus (simp (disch := omega) only [wr_id, Int.toNat_natCast, Int.reduceToNat, tn_lk, tn_kl, if_pos, if_neg, ↓reduceIte, and_self, and_true, true_and, FText ht]; with_reducible rfl)) | (with_reducible apply wm_q) | (with_reducible apply wm_c; focus (first | assumption | decide +kernel)) | (with_reducible apply wm_d; focus (simp (disch := omega) only [wr_id, Int.toNat_natCast, Int.reduceToNat, tn_lk, tn_kl, if_pos, if_neg, ↓reduceIte, and_self, and_true, true_and, FText ht]; with_reducible rfl)) | (with_reducible apply wm_t; focus (first | omega | (simp (disch := omega) only [wr_id, FText ht]; omega) | (simp (disch := omega) only [wr_id, FText ht]; done))) | (with_reducible apply wm_f; focus (first | omega | (simp (disch := omega) only [wr_id, FText ht]; omega) | (simp (disch := omega) only [wr_id, FText ht]; done)))))
    refine wm_b (w_lclear hl) (fun r J2 hJ2 => ?_)
    obtain ⟨k0, k1, k2, k3, k4, k5, k6, k7, k8, k9, k10⟩ := hJ2
    have er : J2 rt = I0 rt := by rw [k0 rt (by omega), j1 rt (by omega)]
    refine wm_r ⟨fun a ha => ?_, k1, ?_⟩
    · rw [k0 a (by omega), j1 a (by omega), f0 a (by omega)]
    · refine ⟨by rw [er, g]; rfl, by rw [er, g]; rfl, by rw [er, g]; rfl, by rw [er, g]; rfl, by rw [er, g]; rfl, by decide, by decide, fun i hi => absurd hi (Nat.not_lt_zero _), fun i hi => absurd hi (Nat.not_lt_zero _), fun q hq => ⟨dfLw_ok q, ?_⟩, fun c hc => ?_⟩
      · by_cases q0 : q = 0
        · subst q0
          exact ⟨0, 2, k8, by decide, ⟨k2, k3, True.intro⟩, k4, rfl⟩
        · have hp : plV q = 0 := by unfold plV; rw [if_neg q0]
          refine ⟨2, 4, ?_, Nat.le_refl _, ⟨k5, ?_, True.intro⟩, k7, rfl⟩
          · rcases (by omega : q = 1 ∨ q = 2) with rfl | rfl
            · exact k9
            · exact k10
          · show J2 (rt + 8 + 2) 2 = plV q
            rw [hp]; exact k6
      · rw [k0 _ (by omega), k0 _ (by omega)]
        exact j2 c (by omega)
end CL
