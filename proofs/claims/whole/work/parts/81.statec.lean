/-! ===== State: a season, copies, clearing, counts ===== -/
/-- a season's loop over the couples: L loosen -/
def agS (L : Nat → Bool) (ρ : Nat → Int) : Nat → Nat → Int
  | 0 => ρ
  | m + 1 => if 0 ≤ agS L ρ m m then (if L m then rSet (rPut (agS L ρ m) m (-2) 0) 74 (agS L ρ m 74 + 1) else rSet (agS L ρ m) (54 + m) (agS L ρ m (54 + m) + 1)) else agS L ρ m
theorem agS_s (L : Nat → Bool) (ρ : Nat → Int) (m : Nat) : agS L ρ (m + 1) = if 0 ≤ agS L ρ m m then (if L m then rSet (rPut (agS L ρ m) m (-2) 0) 74 (agS L ρ m 74 + 1) else rSet (agS L ρ m) (54 + m) (agS L ρ m (54 + m) + 1)) else agS L ρ m := rfl
def rAge (L : Nat → Bool) (ρ : Nat → Int) : Nat → Int := rSet (agS L ρ 18) 72 (agS L ρ 18 72 + 1)
theorem rOK_agS {w n : Nat} {hl L : Nat → Bool} {ρ : Nat → Int} (hr : rOK w n hl ρ) : ∀ m, m ≤ 18 → rOK w n hl (agS L ρ m)
  | 0, _ => hr
  | m + 1, hm => by
    have ih := rOK_agS (L := L) hr m (by omega)
    unfold agS
    by_cases z : 0 ≤ agS L ρ m m
    · rw [if_pos z]
      by_cases q : L m = true
      · rw [if_pos q]
        exact rOK_set72 (rOK_take ih (by omega)) (by omega) _
      · rw [if_neg q]
        exact rOK_setk ih (by omega) (Or.inr rfl) z _
    · rw [if_neg z]; exact ih
theorem rOK_age {w n : Nat} {hl L : Nat → Bool} {ρ : Nat → Int} (hr : rOK w n hl ρ) : rOK w n hl (rAge L ρ) := rOK_set72 (rOK_agS hr 18 (by omega)) (by omega) _
section SV
variable {t d rt : Nat} {I : Nat → Nat → Int} {s w n : Nat} {ρ : Nat → Int} {hl L : Nat → Bool}
theorem stF_0 : stF s s := by unfold stF; omega
theorem stF_4 : stF s (s + 4) := by unfold stF; omega
theorem w_ageAll (hs : s ∈ stL) (hw : 2 ≤ w ∧ w ≤ 6) (hn : n ≤ 36) {h' : Nat} (hnw : n = w * h') (hr : rOK w n hl ρ) (h : stR I s w ρ) {x : Int} (hL : ∀ k : Nat, k < 18 → (jd_wr (jd_and (jd_shr x (k : Int)) 1) = 0 ↔ L k = false)) : wm t d rt (f_X6_ageAll s x (mm t d rt I)) (fun _ J => frm (stF s) I J ∧ stR J s w (rAge L ρ)) := by
  unfold f_X6_ageAll
  refine wm_lp2 18 (fun i y J => y = (i : Int) ∧ frm (stF s) I J ∧ stR J s w (agS L ρ i)) ?_ (jfuel_n (by decide)) ⟨rfl, frm_refl _ _, h⟩
  rintro i hi y J ⟨rfl, hf, hst⟩ rec hrec
  have hok := rOK_agS (L := L) hr i hi
  refine wm_if (fun c => ?_) (fun c => ?_)
  · simp (disch := omega) only [wr_id] at c
    have hi2 : i < 18 := by omega
    have hLi := hL i hi2
    by_cases z : 0 ≤ agS L ρ i i
    · by_cases q : L i = true
      · have q' : ¬ jd_wr (jd_and (jd_shr x (i : Int)) 1) = 0 := fun e => by rw [hLi.mp e] at q; cases q
        simp (disch := omega) only [Option.bind_some, jbd_s, jjq, jz0, jz1, wr_id, Int.toNat_natCast, Int.reduceToNat, tn_lk, tn_kl, if_true, if_false, Bool.false_eq_true, reduceCtorEq, ↓reduceIte, if_pos, if_neg, FState hs, w_lies hs hok hn hst hi2, z, q']
        refine wm_b (w_take hs hw hn hnw hok hst hi2 z) (fun v K hK => ?_)
        simp (disch := omega) only [Option.bind_some, jbd_s, jjq, jz0, jz1, wr_id, Int.toNat_natCast, Int.reduceToNat, tn_lk, tn_kl, if_true, if_false, Bool.false_eq_true, reduceCtorEq, ↓reduceIte, if_pos, if_neg, FState hs]
        refine hrec (i + 1) _ _ (by omega) (by omega) ⟨by omega, frm_up (frm_trans hf hK.1) stF_0, ?_⟩
        have e := stR_fld (j := 9) (r := 74) (v := K s 9 + 1) (Or.inr (Or.inr ⟨rfl, rfl⟩)) hK.2
        have e2 : K s 9 = agS L ρ i 74 := by rw [hK.2.2.2.2.2.2.2.2.2, rPut_n (by omega)]
        rw [e2] at e
        rw [e2]
        rw [agS_s, if_pos z, if_pos q]
        exact e
      · have q1 : L i = false := by simpa using q
        have q' : jd_wr (jd_and (jd_shr x (i : Int)) 1) = 0 := hLi.mpr q1
        simp (disch := omega) only [Option.bind_some, jbd_s, jjq, jz0, jz1, wr_id, Int.toNat_natCast, Int.reduceToNat, tn_lk, tn_kl, if_true, if_false, Bool.false_eq_true, reduceCtorEq, ↓reduceIte, if_pos, if_neg, FState hs, w_lies hs hok hn hst hi2, z, q']
        refine hrec (i + 1) _ _ (by omega) (by omega) ⟨by omega, frm_up hf stF_4, ?_⟩
        have e := stR_age (k := i) (v := J (s + 4) i + 1) hi2 hst
        have e2 : J (s + 4) i = agS L ρ i (54 + i) := (hst.2.1 i hi2 z).2.2
        rw [e2] at e
        rw [e2]
        rw [agS_s, if_pos z, if_neg q]
        exact e
    · simp (disch := omega) only [Option.bind_some, jbd_s, jjq, jz0, jz1, wr_id, Int.toNat_natCast, Int.reduceToNat, tn_lk, tn_kl, if_true, if_false, Bool.false_eq_true, reduceCtorEq, ↓reduceIte, if_pos, if_neg, FState hs, w_lies hs hok hn hst hi2, z]
      refine hrec (i + 1) _ _ (by omega) (by omega) ⟨by omega, hf, ?_⟩
      rw [agS_s, if_neg z]
      exact hst
  · simp (disch := omega) only [wr_id] at c
    have hi2 : i = 18 := by omega
    subst hi2
    simp (disch := omega) only [Option.bind_some, jbd_s, jjq, jz0, jz1, wr_id, Int.toNat_natCast, Int.reduceToNat, tn_lk, tn_kl, if_true, if_false, Bool.false_eq_true, reduceCtorEq, ↓reduceIte, if_pos, if_neg, FState hs]
    refine wm_r ⟨frm_up hf stF_0, ?_⟩
    have e := stR_fld (j := 7) (r := 72) (v := J s 7 + 1) (Or.inl ⟨rfl, rfl⟩) hst
    rw [hst.2.2.2.2.2.2.1] at e
    rw [hst.2.2.2.2.2.2.1]
    exact e
theorem mm_cpy {src dst m : Nat} {n1 n2 : Nat} (h1 : K0 src = (20, n1) ∧ src < 418) (h2 : K0 dst = (20, n2) ∧ dst < 418) (hm : m ≤ n1 ∧ m ≤ n2 ∧ m < 1000) : jm_cpy (mm t d rt I) src 0 dst 0 (m : Int) = some (mm t d rt (fl I dst m (I src))) := by
  unfold jm_cpy
  simp only [mm_K, mm_N, h1.1, h2.1]
  rw [wr_n m (by omega), show jd_wr 0 = 0 from jw_wr0]
  rw [if_pos ⟨⟨trivial, h1.2⟩, ⟨trivial, h2.2⟩, ⟨by omega, by omega, by omega⟩, by omega, by omega⟩]
  rw [show (m : Int).toNat = m from Int.toNat_natCast m, show (0 : Int).toNat = 0 from rfl]
  unfold jcpy mm fl
  congr 3
  funext x y
  by_cases q : x = dst ∧ y < m
  · rw [if_pos q, if_pos ⟨q.1, by omega, by omega⟩, Nat.sub_zero, Nat.zero_add]
  · rw [if_neg q, if_neg (fun z => q ⟨z.1, by omega⟩)]
theorem stL_apart : ∀ a ∈ stL, ∀ b ∈ stL, a ≠ b → a + 6 ≤ b ∨ b + 6 ≤ a := by decide +kernel
theorem w_copyOf {o : Nat} (hs : s ∈ stL) (ho : o ∈ stL) (hne : s ≠ o) (h : stR I o w ρ) : wm t d rt (f_X6_copyOf s o (mm t d rt I)) (fun _ J => frm (stF s) I J ∧ stR J s w ρ) := by
  have ap := stL_apart s hs o ho hne
  have ks := FState_k s hs
  have ko := FState_k o ho
  have hst := h
  obtain ⟨h1, h2, h3, h4, h5, h6, h7, h8, h9⟩ := h
  have c1 := fun (J : Nat → Nat → Int) => mm_cpy (t := t) (d := d) (rt := rt) (I := J) (m := 18) ko.2.2.2.2.2.1 ks.2.2.2.2.2.1 (by decide)
  have c2 := fun (J : Nat → Nat → Int) => mm_cpy (t := t) (d := d) (rt := rt) (I := J) (m := 18) ko.2.2.2.2.2.2.2.2.2.1 ks.2.2.2.2.2.2.2.2.2.1 (by decide)
  have c3 := fun (J : Nat → Nat → Int) => mm_cpy (t := t) (d := d) (rt := rt) (I := J) (m := 18) ko.2.2.2.2.2.2.2.2.2.2.2.1 ks.2.2.2.2.2.2.2.2.2.2.2.1 (by decide)
  have c4 := fun (J : Nat → Nat → Int) => mm_cpy (t := t) (d := d) (rt := rt) (I := J) (m := 36) ko.2.2.2.2.2.2.2.2.2.2.2.2.2 ks.2.2.2.2.2.2.2.2.2.2.2.2.2 (by decide)
  simp only [show ((18 : Nat) : Int) = 18 from rfl, show ((36 : Nat) : Int) = 36 from rfl] at c1 c2 c3 c4
  unfold f_X6_copyOf
  simp only [FState hs, FState ho, c1, c2, c3, c4, Option.bind_some]
  have flne : ∀ (J : Nat → Nat → Int) (a m x : Nat) (g : Nat → Int), x ≠ a → fl J a m g x = J x := fun J a m x g hx => by funext y; exact fl_ne hx
  simp (disch := omega) only [flne]
  generalize hA : fl (fl (fl (fl I (s + 1) 18 (I (o + 1))) (s + 3) 18 (I (o + 3))) (s + 4) 18 (I (o + 4))) (s + 5) 36 (I (o + 5)) = A
  have A0 : ∀ a, a ≠ s + 1 → a ≠ s + 3 → a ≠ s + 4 → a ≠ s + 5 → A a = I a := fun a q1 q2 q3 q4 => by rw [← hA, flne _ _ _ _ _ q4, flne _ _ _ _ _ q3, flne _ _ _ _ _ q2, flne _ _ _ _ _ q1]
  have A1 : ∀ k, k < 18 → A (s + 1) k = I (o + 1) k := fun k hk => by rw [← hA, flne _ _ _ _ _ (by omega), flne _ _ _ _ _ (by omega), flne _ _ _ _ _ (by omega), fl_in hk]
  have A3 : ∀ k, k < 18 → A (s + 3) k = I (o + 3) k := fun k hk => by rw [← hA, flne _ _ _ _ _ (by omega), flne _ _ _ _ _ (by omega), fl_in hk]
  have A4 : ∀ k, k < 18 → A (s + 4) k = I (o + 4) k := fun k hk => by rw [← hA, flne _ _ _ _ _ (by omega), fl_in hk]
  have A5 : ∀ k, k < 36 → A (s + 5) k = I (o + 5) k := fun k hk => by rw [← hA, fl_in hk]
  refine wm_lp2 18 (fun i y J => y = (i : Int) ∧ J = fl A (s + 2) i (I (o + 2))) ?_ (jfuel_n (by decide)) ⟨rfl, by rw [fl_0]⟩
  rintro i hi y J ⟨rfl, rfl⟩ rec hrec
  refine wm_if (fun c => ?_) (fun c => ?_)
  · simp (disch := omega) only [wr_id] at c
    have ez : jd_z (I (o + 2) i) = I (o + 2) i := by
      rcases h3 i (by omega) with q | q <;> rw [q]
      · exact jdz0
      · exact jdz1
    have er : fl A (s + 2) i (I (o + 2)) (o + 2) i = I (o + 2) i := by rw [fl_ne (by omega), A0 _ (by omega) (by omega) (by omega) (by omega)]
    simp (disch := omega) only [Option.bind_some, jbd_s, jjq, jz0, jz1, wr_id, Int.toNat_natCast, Int.reduceToNat, tn_lk, tn_kl, if_true, if_false, Bool.false_eq_true, reduceCtorEq, ↓reduceIte, if_pos, if_neg, FState hs, FState ho, er, ez]
    exact hrec (i + 1) _ _ (by omega) (by omega) ⟨by omega, fl_s A (s + 2) i (I (o + 2))⟩
  · simp (disch := omega) only [wr_id] at c
    have hi2 : i = 18 := by omega
    subst hi2
    simp (disch := omega) only [Option.bind_some, jbd_s, jjq, jz0, jz1, wr_id, Int.toNat_natCast, Int.reduceToNat, tn_lk, tn_kl, if_true, if_false, Bool.false_eq_true, reduceCtorEq, ↓reduceIte, if_pos, if_neg, FState hs, FState ho, up_ne]
    have eo : ∀ j, fl A (s + 2) 18 (I (o + 2)) o j = I o j := fun j => by rw [fl_ne (by omega), A0 _ (by omega) (by omega) (by omega) (by omega)]
    simp only [eo]
    refine wm_r ⟨?_, ?_⟩
    · intro a ha
      have ha' : a ≠ s ∧ a ≠ s + 1 ∧ a ≠ s + 2 ∧ a ≠ s + 3 ∧ a ≠ s + 4 ∧ a ≠ s + 5 := by unfold stF at ha; omega
      obtain ⟨a1, a2, a3, a4, a5, a6⟩ := ha'
      rw [up_ne a1, up_ne a1, up_ne a1, up_ne a1, up_ne a1, flne _ _ _ _ _ a3, A0 a a2 a4 a5 a6]
    · refine ⟨fun k hk => ?_, fun k hk q => ?_, fun k hk => ?_, fun k hk => ?_, ?_, ?_, ?_, ?_, ?_⟩
      · simp (disch := omega) only [up_ne, flne]; rw [A1 k hk]; exact h1 k hk
      · simp (disch := omega) only [up_ne, flne]; rw [fl_in hk, A3 k hk, A4 k hk]; exact h2 k hk q
      · simp (disch := omega) only [up_ne, flne]; rw [fl_in hk]; exact h3 k hk
      · simp (disch := omega) only [up_ne, flne]; rw [A5 k hk]; exact h4 k hk
      · simp (disch := omega) only [up_g, ↓reduceIte, if_neg, Nat.reduceEqDiff]; exact h5
      · simp (disch := omega) only [up_g, ↓reduceIte, if_neg, Nat.reduceEqDiff]; exact h6
      · simp (disch := omega) only [up_g, ↓reduceIte, if_neg, Nat.reduceEqDiff]; exact h7
      · simp (disch := omega) only [up_g, ↓reduceIte, if_neg, Nat.reduceEqDiff]; exact h8
      · simp (disch := omega) only [up_g, ↓reduceIte, if_neg, Nat.reduceEqDiff]; exact h9
end SV
