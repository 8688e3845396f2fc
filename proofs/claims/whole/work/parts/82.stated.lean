/-! ===== State: clearing, counts ===== -/
def rClr (ρ : Nat → Int) : Nat → Int := fun j => if j < 18 then -2 else if j < 72 then 0 else ρ j
def rNil : Nat → Int := fun j => if j < 18 then -2 else 0
theorem rOK_clr {w n : Nat} {hl : Nat → Bool} (ρ : Nat → Int) : rOK w n hl (rClr ρ) := by
  refine ⟨fun k hk => Or.inl ?_, fun j k hj hk e h1 _ => ?_⟩
  · unfold rClr
    simp (disch := omega) only [if_pos, if_neg, and_self]
  · unfold rClr at h1
    rw [if_pos hj] at h1
    omega
theorem rNil_clr : rNil = rClr (fun _ => 0) := by
  funext j
  unfold rNil rClr
  split
  · rfl
  · split <;> rfl
theorem rOK_nil {w n : Nat} {hl : Nat → Bool} : rOK w n hl rNil := by rw [rNil_clr]; exact rOK_clr _
theorem clr_lies (ρ : Nat → Int) {k : Nat} (hk : k < 18) : rClr ρ k = -2 := by unfold rClr; rw [if_pos hk]
theorem clr_on (w : Nat) (ρ : Nat → Int) (c : Nat) : onI w (rClr ρ) c = -1 := onI_none (fun k hk => by
  rw [Bool.eq_false_iff]
  intro q
  rw [rAt_iff, clr_lies ρ hk] at q
  omega)
theorem cntB_0 {p : Nat → Bool} : ∀ {m : Nat}, (∀ j, j < m → p j = false) → cntB p m = 0
  | 0, _ => rfl
  | m + 1, h => by unfold cntB; rw [cntB_0 (fun j hj => h j (by omega)), h m (by omega)]; rfl
theorem clr_many (ρ : Nat → Int) : rMany (rClr ρ) = 0 := cntB_0 (fun j hj => by unfold rLies; rw [clr_lies ρ hj]; rfl)
/-- a row's bits, a row's sums -/
def bitF (p : Nat → Bool) : Nat → Int
  | 0 => 0
  | m + 1 => if p m then jd_or (bitF p m) (jd_shl 1 (m : Int)) else bitF p m
def sumF (p : Nat → Bool) (g : Nat → Int) : Nat → Int
  | 0 => 0
  | m + 1 => if p m then sumF p g m + g m else sumF p g m
section SW
variable {t d rt : Nat} {I : Nat → Nat → Int} {s w n : Nat} {ρ : Nat → Int} {hl : Nat → Bool}
theorem flne {J : Nat → Nat → Int} {a m x : Nat} {g : Nat → Int} (hx : x ≠ a) : fl J a m g x = J x := by funext y; exact fl_ne hx
theorem w_fill {a m : Nat} (h : K0 a = (20, m)) (ha : a < 418) (hm : m ≤ 1000) (v : Int) : f_J7_fill_53178 a v (mm t d rt I) = some (0, mm t d rt (fl I a m (fun _ => v))) := by
  have e : jm_ln 20 (mm t d rt I) a = some (m : Int) := by
    unfold jm_ln
    rw [mm_K, mm_N, h, if_pos ⟨rfl, ha⟩]
  have st := fun (J : Nat → Nat → Int) (i v : Int) => mm_st (t := t) (d := d) (rt := rt) (I := J) (i := i) (v := v) (n := m) h ha rfl
  refine wm_eq ?_
  unfold f_J7_fill_53178
  rw [e, Option.bind_some]
  refine wm_lp2 m (fun i y J => y = (i : Int) ∧ J = fl I a i (fun _ => v)) ?_ (Nat.lt_of_le_of_lt hm (jfuel_n (by decide))) ⟨rfl, by rw [fl_0]⟩
  rintro i hi y J ⟨rfl, rfl⟩ rec hrec
  refine wm_if (fun c => ?_) (fun c => ?_)
  · simp (disch := omega) only [wr_id] at c
    simp (disch := omega) only [Option.bind_some, jbd_s, jjq, jz0, jz1, wr_id, Int.toNat_natCast, Int.reduceToNat, tn_lk, tn_kl, if_true, if_false, Bool.false_eq_true, reduceCtorEq, ↓reduceIte, if_pos, if_neg, st]
    exact hrec (i + 1) _ _ (by omega) (by omega) ⟨by omega, fl_s I a i (fun _ => v)⟩
  · simp (disch := omega) only [wr_id] at c
    have : i = m := by omega
    subst this
    exact wm_r ⟨rfl, rfl⟩
theorem q_takeAll (hs : s ∈ stL) : f_X6_takeAll s (mm t d rt I) = some (0, mm t d rt (up (fl (fl I (s + 1) 18 (fun _ => -1)) (s + 5) 36 (fun _ => -1)) s 6 0)) := by
  have ks := FState_k s hs
  have f1 := fun (J : Nat → Nat → Int) => w_fill (t := t) (d := d) (rt := rt) (I := J) ks.2.2.2.2.2.1.1 ks.2.2.2.2.2.1.2 (by decide) (-1)
  have f2 := fun (J : Nat → Nat → Int) => w_fill (t := t) (d := d) (rt := rt) (I := J) ks.2.2.2.2.2.2.2.2.2.2.2.2.2.1 ks.2.2.2.2.2.2.2.2.2.2.2.2.2.2 (by decide) (-1)
  simp only [f_X6_takeAll, FState hs, f1, f2, Option.bind_some, jbd_s]
theorem w_takeAll (hs : s ∈ stL) (h : stR I s w ρ) : wm t d rt (f_X6_takeAll s (mm t d rt I)) (fun _ J => frm (stF s) I J ∧ stR J s w (rClr ρ)) := by
  obtain ⟨h1, h2, h3, h4, h5, h6, h7, h8, h9⟩ := h
  refine wm_e (q_takeAll hs) ⟨?_, fun k hk => ?_, fun k hk q => ?_, fun k hk => ?_, fun c hc => ?_, ?_, ?_, ?_, ?_, ?_⟩
  · intro a ha
    have ha' : a ≠ s ∧ a ≠ s + 1 ∧ a ≠ s + 2 ∧ a ≠ s + 3 ∧ a ≠ s + 4 ∧ a ≠ s + 5 := by unfold stF at ha; omega
    obtain ⟨a1, a2, a3, a4, a5, a6⟩ := ha'
    rw [up_ne a1, flne a6, flne a2]
  · rw [up_ne (by omega), flne (by omega), fl_in hk, clr_lies ρ hk]; rfl
  · rw [clr_lies ρ hk] at q; omega
  · rw [up_ne (by omega), flne (by omega), flne (by omega)]; exact h3 k hk
  · rw [up_ne (by omega), fl_in hc, clr_on]
  all_goals simp (disch := omega) only [up_g, ↓reduceIte, if_neg, flne, Nat.reduceEqDiff, clr_many, rClr, h5, h7, h8, h9]
  rfl
theorem w_clear (hs : s ∈ stL) (h3 : ∀ k, k < 18 → I (s + 2) k = 0 ∨ I (s + 2) k = 1) : wm t d rt (f_X6_clear s (w : Int) (mm t d rt I)) (fun _ J => frm (stF s) I J ∧ stR J s w rNil) := by
  have run : f_X6_clear s (w : Int) (mm t d rt I) = some (0, mm t d rt (up (up (up (up (up (fl (fl I (s + 1) 18 (fun _ => -1)) (s + 5) 36 (fun _ => -1)) s 6 0) s 5 (w : Int)) s 7 0) s 8 0) s 9 0)) := by
    simp only [f_X6_clear, FState hs, q_takeAll hs, jbd_s, Option.bind_some]
  refine wm_e run ⟨?_, fun k hk => ?_, fun k hk q => ?_, fun k hk => ?_, fun c hc => ?_, ?_, ?_, ?_, ?_, ?_⟩
  · intro a ha
    have ha' : a ≠ s ∧ a ≠ s + 1 ∧ a ≠ s + 2 ∧ a ≠ s + 3 ∧ a ≠ s + 4 ∧ a ≠ s + 5 := by unfold stF at ha; omega
    obtain ⟨a1, a2, a3, a4, a5, a6⟩ := ha'
    rw [up_ne a1, up_ne a1, up_ne a1, up_ne a1, up_ne a1, flne a6, flne a2]
  · simp (disch := omega) only [up_ne, flne]
    rw [fl_in hk, rNil_clr, clr_lies _ hk]; rfl
  · rw [rNil_clr, clr_lies _ hk] at q; omega
  · simp (disch := omega) only [up_ne, flne]
    exact h3 k hk
  · simp (disch := omega) only [up_ne, flne]
    rw [fl_in hc, rNil_clr, clr_on]
  · simp (disch := omega) only [up_g, ↓reduceIte, if_neg, Nat.reduceEqDiff]
  · simp (disch := omega) only [up_g, ↓reduceIte, if_neg, Nat.reduceEqDiff]
    rw [rNil_clr, clr_many]; rfl
  · simp (disch := omega) only [up_g, ↓reduceIte, if_neg, Nat.reduceEqDiff]
    rfl
  · simp (disch := omega) only [up_g, ↓reduceIte, if_neg, Nat.reduceEqDiff]
    rfl
  · simp (disch := omega) only [up_g, ↓reduceIte, if_neg, Nat.reduceEqDiff]
    rfl
theorem w_flatStones (hs : s ∈ stL) (hr : rOK w n hl ρ) (hn : n ≤ 36) (h : stR I s w ρ) : f_X6_flatStones s (mm t d rt I) = some ((cntB (fun k => rLies ρ k && decide (ρ (18 + k) = 0)) 18 : Int), mm t d rt I) := by
  refine wm_eq ?_
  unfold f_X6_flatStones
  refine wm_lp3 18 (fun i a y J => a = (cntB (fun k => rLies ρ k && decide (ρ (18 + k) = 0)) i : Int) ∧ y = (i : Int) ∧ J = I) ?_ (jfuel_n (by decide)) ⟨rfl, rfl, rfl⟩
  rintro i hi a y J ⟨rfl, rfl, rfl⟩ rec hrec
  refine wm_if (fun c => ?_) (fun c => ?_)
  · simp (disch := omega) only [wr_id] at c
    have hi2 : i < 18 := by omega
    by_cases z : 0 ≤ ρ i
    · obtain ⟨f1, f2, f3⟩ := h.2.1 i hi2 z
      have hw2 : ρ (18 + i) = 0 ∨ ρ (18 + i) = 1 := by rcases hr.1 i hi2 with q | q <;> omega
      by_cases q : ρ (18 + i) = 0
      · have g : J (s + 2) i = 1 := by omega
        simp (disch := omega) only [Option.bind_some, jbd_s, jjq, jz0, jz1, wr_id, Int.toNat_natCast, Int.reduceToNat, tn_lk, tn_kl, if_true, if_false, Bool.false_eq_true, reduceCtorEq, ↓reduceIte, if_pos, if_neg, FState hs, w_lies hs hr hn h hi2, z, g]
        refine hrec (i + 1) _ _ _ (by omega) (by omega) ⟨?_, by omega, rfl⟩
        simp only [cntB, rLies, z, q, decide_true, Bool.and_self, ↓reduceIte]
        omega
      · have g : J (s + 2) i = 0 := by omega
        simp (disch := omega) only [Option.bind_some, jbd_s, jjq, jz0, jz1, wr_id, Int.toNat_natCast, Int.reduceToNat, tn_lk, tn_kl, if_true, if_false, Bool.false_eq_true, reduceCtorEq, ↓reduceIte, if_pos, if_neg, FState hs, w_lies hs hr hn h hi2, z, g]
        refine hrec (i + 1) _ _ _ (by omega) (by omega) ⟨?_, by omega, rfl⟩
        simp only [cntB, rLies, z, q, decide_true, decide_false, Bool.and_false, Bool.false_eq_true, ↓reduceIte, Nat.add_zero]
    · simp (disch := omega) only [Option.bind_some, jbd_s, jjq, jz0, jz1, wr_id, Int.toNat_natCast, Int.reduceToNat, tn_lk, tn_kl, if_true, if_false, Bool.false_eq_true, reduceCtorEq, ↓reduceIte, if_pos, if_neg, FState hs, w_lies hs hr hn h hi2, z]
      refine hrec (i + 1) _ _ _ (by omega) (by omega) ⟨?_, by omega, rfl⟩
      simp only [cntB, rLies, z, decide_false, Bool.false_and, Bool.false_eq_true, ↓reduceIte, Nat.add_zero]
  · simp (disch := omega) only [wr_id] at c
    have hi2 : i = 18 := by omega
    subst hi2
    exact wm_r ⟨rfl, rfl⟩
theorem w_coupleBits (hs : s ∈ stL) (hr : rOK w n hl ρ) (hn : n ≤ 36) (h : stR I s w ρ) : f_X6_coupleBits s (mm t d rt I) = some (bitF (rLies ρ) 18, mm t d rt I) := by
  refine wm_eq ?_
  unfold f_X6_coupleBits
  refine wm_lp3 18 (fun i a y J => a = bitF (rLies ρ) i ∧ y = (i : Int) ∧ J = I) ?_ (jfuel_n (by decide)) ⟨rfl, rfl, rfl⟩
  rintro i hi a y J ⟨rfl, rfl, rfl⟩ rec hrec
  refine wm_if (fun c => ?_) (fun c => ?_)
  · simp (disch := omega) only [wr_id] at c
    have hi2 : i < 18 := by omega
    by_cases z : 0 ≤ ρ i
    · simp (disch := omega) only [Option.bind_some, jbd_s, jjq, jz0, jz1, wr_id, Int.toNat_natCast, Int.reduceToNat, tn_lk, tn_kl, if_true, if_false, Bool.false_eq_true, reduceCtorEq, ↓reduceIte, if_pos, if_neg, FState hs, w_lies hs hr hn h hi2, z]
      refine hrec (i + 1) _ _ _ (by omega) (by omega) ⟨?_, by omega, rfl⟩
      simp only [bitF, rLies, z, decide_true, ↓reduceIte]
    · simp (disch := omega) only [Option.bind_some, jbd_s, jjq, jz0, jz1, wr_id, Int.toNat_natCast, Int.reduceToNat, tn_lk, tn_kl, if_true, if_false, Bool.false_eq_true, reduceCtorEq, ↓reduceIte, if_pos, if_neg, FState hs, w_lies hs hr hn h hi2, z]
      refine hrec (i + 1) _ _ _ (by omega) (by omega) ⟨?_, by omega, rfl⟩
      simp only [bitF, rLies, z, decide_false, Bool.false_eq_true, ↓reduceIte]
  · simp (disch := omega) only [wr_id] at c
    have hi2 : i = 18 := by omega
    subst hi2
    exact wm_r ⟨rfl, rfl⟩
theorem w_turnedInAll (hs : s ∈ stL) (hr : rOK w n hl ρ) (hn : n ≤ 36) (h : stR I s w ρ) : f_X6_turnedInAll s (mm t d rt I) = some (sumF (rLies ρ) (fun k => ρ (36 + k)) 18, mm t d rt I) := by
  refine wm_eq ?_
  unfold f_X6_turnedInAll
  refine wm_lp3 18 (fun i a y J => a = sumF (rLies ρ) (fun k => ρ (36 + k)) i ∧ y = (i : Int) ∧ J = I) ?_ (jfuel_n (by decide)) ⟨rfl, rfl, rfl⟩
  rintro i hi a y J ⟨rfl, rfl, rfl⟩ rec hrec
  refine wm_if (fun c => ?_) (fun c => ?_)
  · simp (disch := omega) only [wr_id] at c
    have hi2 : i < 18 := by omega
    by_cases z : 0 ≤ ρ i
    · have f2 := (h.2.1 i hi2 z).2.1
      simp (disch := omega) only [Option.bind_some, jbd_s, jjq, jz0, jz1, wr_id, Int.toNat_natCast, Int.reduceToNat, tn_lk, tn_kl, if_true, if_false, Bool.false_eq_true, reduceCtorEq, ↓reduceIte, if_pos, if_neg, FState hs, w_lies hs hr hn h hi2, z, f2]
      refine hrec (i + 1) _ _ _ (by omega) (by omega) ⟨?_, by omega, rfl⟩
      simp only [sumF, rLies, z, decide_true, ↓reduceIte]
    · simp (disch := omega) only [Option.bind_some, jbd_s, jjq, jz0, jz1, wr_id, Int.toNat_natCast, Int.reduceToNat, tn_lk, tn_kl, if_true, if_false, Bool.false_eq_true, reduceCtorEq, ↓reduceIte, if_pos, if_neg, FState hs, w_lies hs hr hn h hi2, z]
      refine hrec (i + 1) _ _ _ (by omega) (by omega) ⟨?_, by omega, rfl⟩
      simp only [sumF, rLies, z, decide_false, Bool.false_eq_true, ↓reduceIte]
  · simp (disch := omega) only [wr_id] at c
    have hi2 : i = 18 := by omega
    subst hi2
    exact wm_r ⟨rfl, rfl⟩
end SW
