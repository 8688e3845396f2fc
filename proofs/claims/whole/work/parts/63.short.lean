/-! ===== the most stones; the fewest cells left ===== -/
def cbN : Nat → (Nat → Bool) → Nat
  | 0, _ => 0
  | j + 1, g => (if g j then 1 else 0) + cbN j g
/-- the most pairs of neighbours among the j lowest bits -/
def prN : Nat → (Nat → Bool) → Nat
  | 0, _ => 0
  | 1, _ => 0
  | j + 2, f => max (prN (j + 1) f) (if f (j + 1) && f j then 1 + prN j f else 0)
def noB : Nat → Bool := fun _ => false
/-- the most stones on the k cells from c on -/
def Mx (w n : Nat) : Nat → Nat → (Nat → Bool) → Nat
  | 0, _, _ => 0
  | k + 1, c, U => if U c then Mx w n k (c + 1) U else max (max (Mx w n k (c + 1) U) (if aOK w noB U c then 1 + Mx w n k (c + 1) (cov U (c + 1)) else 0)) (if dOK w n noB U c then 1 + Mx w n k (c + 1) (cov U (c + w)) else 0)
theorem prN_odd : ∀ m, m < 64 → 2 * prN 6 m.testBit + oddR m = cbN 6 m.testBit := by decide +kernel
theorem cbN_congr {f g : Nat → Bool} : ∀ {j : Nat}, (∀ i, i < j → f i = g i) → cbN j f = cbN j g
  | 0, _ => rfl
  | j + 1, h => by rw [cbN, cbN, h j (by omega), cbN_congr (fun i hi => h i (by omega))]
theorem prN_congr {f g : Nat → Bool} : ∀ {j : Nat}, (∀ i, i < j → f i = g i) → prN j f = prN j g
  | 0, _ => rfl
  | 1, _ => rfl
  | j + 2, h => by rw [prN, prN, h (j + 1) (by omega), h j (by omega), prN_congr (fun i hi => h i (by omega)), prN_congr (j := j) (fun i hi => h i (by omega))]
theorem cbN_up {f : Nat → Bool} : ∀ {d j : Nat}, (∀ i, j ≤ i → f i = false) → cbN (j + d) f = cbN j f
  | 0, _, _ => rfl
  | d + 1, j, hf => by
    rw [show j + (d + 1) = (j + d) + 1 by omega, cbN, hf (j + d) (by omega), cbN_up hf]; simp
theorem prN_s0 {f : Nat → Bool} {j : Nat} (h : f j = false) : prN (j + 1) f = prN j f := by
  cases j with
  | zero => rfl
  | succ j => rw [prN, h]; simp
theorem prN_up {f : Nat → Bool} : ∀ {d j : Nat}, (∀ i, j ≤ i → f i = false) → prN (j + d) f = prN j f
  | 0, _, _ => rfl
  | d + 1, j, hf => by
    rw [show j + (d + 1) = (j + d) + 1 by omega, prN_s0 (hf (j + d) (by omega)), prN_up hf]
def aftD (w j c : Nat) (U : Nat → Bool) (o : Nat) : Nat → Bool := fun x => U x || (decide (c + w ≤ x) && decide (x < c + w + j) && o.testBit (j - 1 - (x - c - w)))
def dnA (w n j c : Nat) (U : Nat → Bool) (o : Nat) : Prop := o < 2 ^ j ∧ ∀ i, i < j → o.testBit i = true → U (c + (j - 1 - i)) = false ∧ dOK w n noB U (c + (j - 1 - i)) = true
def restF (j c : Nat) (U : Nat → Bool) (o : Nat) : Nat → Bool := fun i => !U (c + (j - 1 - i)) && !o.testBit i
section PM
variable {w n : Nat}
theorem Mx_congr {k : Nat} : ∀ {c : Nat} {U V : Nat → Bool}, (∀ x, c ≤ x → U x = V x) → Mx w n k c U = Mx w n k c V := by
  induction k with
  | zero => intros; rfl
  | succ k ih =>
    intro c U V h
    have hc : ∀ o x, c + 1 ≤ x → cov U o x = cov V o x := by
      intro o x hx; unfold cov; rw [h x (by omega)]
    unfold Mx
    rw [h c (Nat.le_refl c), aOK_congr h, dOK_congr h, ih (U := U) (V := V) (fun x hx => h x (by omega)), ih (hc (c + 1)), ih (hc (c + w))]
theorem restF_s {j c : Nat} {U : Nat → Bool} {o i : Nat} (hi : i < j) : restF (j + 1) c U o i = restF j (c + 1) U o i := by
  unfold restF; rw [show c + (j + 1 - 1 - i) = c + 1 + (j - 1 - i) by omega]
theorem restF_top {j c : Nat} {U : Nat → Bool} {o : Nat} : restF (j + 1) c U o j = (!U c && !o.testBit j) := by
  unfold restF; rw [show c + (j + 1 - 1 - j) = c by omega]
theorem aftD_0 {j c : Nat} {U : Nat → Bool} {o x : Nat} (ho : o.testBit j = false) (hx : c + (j + 1) ≤ x) : aftD w (j + 1) c U o x = aftD w j (c + 1) U o x := by
  unfold aftD
  congr 1
  by_cases e : x = c + w
  · subst e; simp [ho]; omega
  · by_cases z : c + 1 + w ≤ x
    · rw [show j - 1 - (x - (c + 1) - w) = j + 1 - 1 - (x - c - w) by omega]
      have z2 : (x < c + 1 + w + j) = (x < c + w + (j + 1)) := by apply propext; omega
      simp [z, z2, show c + w ≤ x by omega]
    · have : ¬ c + w ≤ x := by omega
      simp [z, this]
theorem aftD_1 {j c : Nat} {U : Nat → Bool} {o x : Nat} (ho : o < 2 ^ j) : aftD w (j + 1) c U (2 ^ j + o) x = aftD w j (c + 1) (cov U (c + w)) o x := by
  unfold aftD
  by_cases e : x = c + w
  · subst e; simp [tb_top ho, cov_eq]
  · rw [cov_ne e]
    congr 1
    by_cases z : c + 1 + w ≤ x
    · by_cases z3 : x < c + 1 + w + j
      · rw [tb_add (by omega), show j - 1 - (x - (c + 1) - w) = j + 1 - 1 - (x - c - w) by omega]
        simp [z, z3, show c + w ≤ x by omega, show x < c + w + (j + 1) by omega]
      · simp [z3, show ¬ x < c + w + (j + 1) by omega]
    · have : ¬ c + w ≤ x := by omega
      simp [z, this]
theorem dOK_cov {U : Nat → Bool} {c q : Nat} (h : c + w ≠ q) : dOK w n noB (cov U q) c = dOK w n noB U c := by
  unfold dOK; rw [cov_ne h]
/-- the row's last word on the most stones: no strategy beats it, one attains it -/
theorem Mx_row {k : Nat} : ∀ {j : Nat} {c : Nat} {U : Nat → Bool}, 1 < w → j ≤ w → (c + j) % w = 0 → (∀ o, dnA w n j c U o → cbN j o.testBit + prN j (restF j c U o) + Mx w n k (c + j) (aftD w j c U o) ≤ Mx w n (j + k) c U) ∧ (∃ o, dnA w n j c U o ∧ Mx w n (j + k) c U ≤ cbN j o.testBit + prN j (restF j c U o) + Mx w n k (c + j) (aftD w j c U o)) := by
  intro j
  induction j using Nat.strongRecOn with
  | _ j IH =>
  intro c U hw hj hc
  cases j with
  | zero =>
    have e : ∀ o, Mx w n k (c + 0) (aftD w 0 c U o) = Mx w n (0 + k) c U := by
      intro o
      rw [Nat.zero_add]
      apply Mx_congr
      intro x hx
      unfold aftD
      have : ¬ (c + w ≤ x ∧ x < c + w + 0) := by omega
      by_cases z : c + w ≤ x
      · simp [show ¬ x < c + w by omega]
      · simp [z]
    exact ⟨fun o _ => by rw [e]; simp [cbN, prN], ⟨0, ⟨by simp, by omega⟩, by rw [e]; simp [cbN, prN]⟩⟩
  | succ j =>
    have hc' : (c + 1 + j) % w = 0 := by rw [← hc]; congr 1; omega
    have i1 : ∀ {V : Nat → Bool}, _ := fun {V} => IH j (Nat.lt_succ_self j) (c := c + 1) (U := V) hw (by omega) hc'
    have ej : j + 1 + k = (j + k) + 1 := by omega
    have ecj : c + (j + 1) = c + 1 + j := by omega
    -- a strategy that leaves c alone
    have dn0 : ∀ {V : Nat → Bool} {o : Nat}, o < 2 ^ j → (∀ x, c + 1 ≤ x → V x = U x) → (dnA w n (j + 1) c U o ↔ dnA w n j (c + 1) V o) := by
      intro V o ho hV
      unfold dnA
      constructor
      · rintro ⟨_, h2⟩
        refine ⟨ho, fun i hi hb => ?_⟩
        have := h2 i (by omega) hb
        rw [show c + (j + 1 - 1 - i) = c + 1 + (j - 1 - i) by omega] at this
        rw [hV _ (by omega), dOK_congr (V := U) (fun x hx => hV x (by omega))]
        exact this
      · rintro ⟨_, h2⟩
        refine ⟨by rw [Nat.pow_succ]; omega, fun i hi hb => ?_⟩
        rcases Nat.lt_or_ge i j with q | q
        · have := h2 i q hb
          rw [hV _ (by omega), dOK_congr (V := U) (fun x hx => hV x (by omega))] at this
          rw [show c + (j + 1 - 1 - i) = c + 1 + (j - 1 - i) by omega]
          exact this
        · rw [tb_hi ho (by omega)] at hb; cases hb
    have cb0 : ∀ {o : Nat}, o < 2 ^ j → cbN (j + 1) o.testBit = cbN j o.testBit := by
      intro o ho; rw [cbN, tb_hi ho (Nat.le_refl j)]; simp
    have mx0 : ∀ {o : Nat}, o < 2 ^ j → Mx w n k (c + (j + 1)) (aftD w (j + 1) c U o) = Mx w n k (c + 1 + j) (aftD w j (c + 1) U o) := by
      intro o ho
      rw [ecj]
      exact Mx_congr (fun x hx => aftD_0 (tb_hi ho (Nat.le_refl j)) (by omega))
    have pr0 : ∀ {o : Nat}, prN j (restF (j + 1) c U o) = prN j (restF j (c + 1) U o) := fun {o} => prN_congr (fun i hi => restF_s hi)
    -- every mask is low, or has the highest bit
    have tops : ∀ o, o < 2 ^ (j + 1) → o < 2 ^ j ∨ ∃ o', o' < 2 ^ j ∧ o = 2 ^ j + o' := by
      intro o ho
      rcases Nat.lt_or_ge o (2 ^ j) with q | q
      · exact Or.inl q
      · exact Or.inr ⟨o - 2 ^ j, by rw [Nat.pow_succ] at ho; omega, by omega⟩
    rw [ej]
    by_cases hU : U c = true
    · -- covered
      have eM : Mx w n (j + k + 1) c U = Mx w n (j + k) (c + 1) U := by rw [Mx, if_pos hU]
      have prU : ∀ {o : Nat}, prN (j + 1) (restF (j + 1) c U o) = prN j (restF j (c + 1) U o) := by
        intro o; rw [prN_s0 (by rw [restF_top, hU]; rfl), pr0]
      rw [eM]
      refine ⟨fun o ho => ?_, ?_⟩
      · rcases tops o ho.1 with q | ⟨o', q1, q2⟩
        · rw [cb0 q, prU, mx0 q]
          exact i1.1 o ((dn0 q (fun _ _ => rfl)).mp ho)
        · have := (ho.2 j (by omega) (by rw [q2]; exact tb_top q1)).1
          rw [show c + (j + 1 - 1 - j) = c by omega, hU] at this; cases this
      · obtain ⟨o, h1, h2⟩ := i1 (V := U).2
        refine ⟨o, (dn0 h1.1 (fun _ _ => rfl)).mpr h1, ?_⟩
        rw [cb0 h1.1, prU, mx0 h1.1]; exact h2
    · have hU' : U c = false := by simpa using hU
      have eM : Mx w n (j + k + 1) c U = max (max (Mx w n (j + k) (c + 1) U) (if aOK w noB U c then 1 + Mx w n (j + k) (c + 1) (cov U (c + 1)) else 0)) (if dOK w n noB U c then 1 + Mx w n (j + k) (c + 1) (cov U (c + w)) else 0) := by rw [Mx, if_neg hU]
      -- a pair across, for a strategy without c and c + 1
      have hrow : aOK w noB U c = true → ∃ j', j = j' + 1 ∧ U (c + 1) = false := by
        intro ha
        simp only [aOK, noB, Bool.and_eq_true, decide_eq_true_eq, Bool.not_eq_true'] at ha
        cases j with
        | zero =>
          exfalso
          have z := ha.1.1.1
          have := Nat.add_mod c 1 w
          rw [Nat.mod_eq_of_lt (a := 1) (by omega), Nat.mod_eq_of_lt (a := c % w + 1) z] at this
          simp at hc; omega
        | succ j' => exact ⟨j', rfl, ha.1.1.2⟩
      rw [eM]
      -- what c alone, down, gives
      have dn1 : ∀ {o' : Nat}, o' < 2 ^ j → (dnA w n (j + 1) c U (2 ^ j + o') ↔ dOK w n noB U c = true ∧ dnA w n j (c + 1) (cov U (c + w)) o') := by
        intro o' ho'
        unfold dnA
        constructor
        · rintro ⟨_, h2⟩
          have h3 := h2 j (by omega) (tb_top ho')
          rw [show c + (j + 1 - 1 - j) = c by omega] at h3
          refine ⟨h3.2, ho', fun i hi hb => ?_⟩
          have := h2 i (by omega) (by rw [tb_add hi]; exact hb)
          rw [show c + (j + 1 - 1 - i) = c + 1 + (j - 1 - i) by omega] at this
          rw [cov_ne (by omega), dOK_cov (by omega)]
          exact this
        · rintro ⟨h1, _, h2⟩
          refine ⟨by rw [Nat.pow_succ]; omega, fun i hi hb => ?_⟩
          rcases Nat.lt_or_ge i j with q | q
          · rw [tb_add q] at hb
            have := h2 i q hb
            rw [cov_ne (by omega), dOK_cov (by omega)] at this
            rw [show c + (j + 1 - 1 - i) = c + 1 + (j - 1 - i) by omega]
            exact this
          · rw [show c + (j + 1 - 1 - i) = c by omega]; exact ⟨hU', h1⟩
      have cb1 : ∀ {o' : Nat}, o' < 2 ^ j → cbN (j + 1) (2 ^ j + o').testBit = 1 + cbN j o'.testBit := by
        intro o' ho'
        rw [cbN, tb_top ho', if_pos rfl]
        congr 1
        exact cbN_congr (fun i hi => tb_add hi)
      have pr1 : ∀ {o' : Nat}, o' < 2 ^ j → prN (j + 1) (restF (j + 1) c U (2 ^ j + o')) = prN j (restF j (c + 1) (cov U (c + w)) o') := by
        intro o' ho'
        rw [prN_s0 (by rw [restF_top, tb_top ho']; simp)]
        apply prN_congr
        intro i hi
        rw [restF_s hi]
        unfold restF
        rw [tb_add hi, cov_ne (by omega)]
      have mx1 : ∀ {o' : Nat}, o' < 2 ^ j → Mx w n k (c + (j + 1)) (aftD w (j + 1) c U (2 ^ j + o')) = Mx w n k (c + 1 + j) (aftD w j (c + 1) (cov U (c + w)) o') := by
        intro o' ho'
        rw [ecj]
        exact Mx_congr (fun x hx => aftD_1 ho')
      refine ⟨fun o ho => ?_, ?_⟩
      · rcases tops o ho.1 with q | ⟨o', q1, rfl⟩
        · rw [cb0 q, mx0 q]
          have hA := i1.1 o ((dn0 (V := U) q (fun _ _ => rfl)).mp ho)
          -- pair or not
          cases j with
          | zero =>
            rw [show prN (0 + 1) (restF (0 + 1) c U o) = prN 0 (restF 0 (c + 1) U o) from rfl]
            omega
          | succ j' =>
            rw [prN]
            have e1 : prN (j' + 1) (restF (j' + 1 + 1) c U o) = prN (j' + 1) (restF (j' + 1) (c + 1) U o) := pr0
            rw [e1]
            by_cases hf : (restF (j' + 2) c U o (j' + 1) && restF (j' + 2) c U o j') = true
            · have hf' := hf
              rw [Bool.and_eq_true] at hf'
              have f2 := hf'.2
              unfold restF at f2
              rw [show c + (j' + 2 - 1 - j') = c + 1 by omega, Bool.and_eq_true, Bool.not_eq_true', Bool.not_eq_true'] at f2
              have hcm : c % w + 1 < w := by
                rcases Nat.lt_or_ge (c % w + 1) w with z | z
                · exact z
                · exfalso
                  have z2 : c % w < w := Nat.mod_lt _ (by omega)
                  have z3 : (c + 1) % w = 0 := by
                    rw [Nat.add_mod, show c % w = w - 1 by omega, Nat.mod_eq_of_lt (a := 1) hw, show w - 1 + 1 = w by omega, Nat.mod_self]
                  rw [Nat.add_mod, z3, Nat.zero_add, Nat.mod_mod, Nat.mod_eq_of_lt (by omega)] at hc'
                  omega
              have ha : aOK w noB U c = true := by simp [aOK, noB, hcm, f2.1]
              have q' : o < 2 ^ j' := by
                apply lt_tb
                intro i hi
                rcases Nat.lt_or_ge i (j' + 1) with z | z
                · rw [show i = j' by omega]; exact f2.2
                · exact tb_hi q z
              have hcov : Mx w n (j' + 1 + k) (c + 1) (cov U (c + 1)) = Mx w n (j' + k) (c + 2) U := by
                rw [show j' + 1 + k = (j' + k) + 1 by omega, Mx, if_pos (cov_eq U (c + 1))]
                exact Mx_congr (fun x hx => cov_ne (by omega))
              have hB := (IH j' (by omega) (c := c + 2) (U := U) hw (by omega) (by rw [← hc]; congr 1; omega)).1 o ⟨q', fun i hi hb => by
                have := ho.2 i (by omega) hb
                rw [show c + (j' + 1 + 1 - 1 - i) = c + 2 + (j' - 1 - i) by omega] at this
                exact this⟩
              have e2 : prN j' (restF (j' + 2) c U o) = prN j' (restF j' (c + 2) U o) := prN_congr (fun i hi => by
                unfold restF; rw [show c + (j' + 2 - 1 - i) = c + 2 + (j' - 1 - i) by omega])
              have e3 : Mx w n k (c + 2 + j') (aftD w j' (c + 2) U o) = Mx w n k (c + 1 + (j' + 1)) (aftD w (j' + 1) (c + 1) U o) := by
                rw [show c + 1 + (j' + 1) = c + 2 + j' by omega]
                exact Mx_congr (fun x hx => (aftD_0 f2.2 (by omega)).symm)
              have e4 : cbN (j' + 1) o.testBit = cbN j' o.testBit := by rw [cbN, f2.2]; simp
              rw [if_pos hf, if_pos ha, hcov, e2]
              rw [e3] at hB
              omega
            · rw [if_neg hf]
              have := Nat.max_eq_left (Nat.zero_le (prN (j' + 1) (restF (j' + 1) (c + 1) U o)))
              omega
        · have h1 := (dn1 q1).mp ho
          rw [cb1 q1, pr1 q1, mx1 q1, if_pos h1.1]
          have := i1.1 o' h1.2
          omega
      · -- what attains it
        have c1 : ∀ m a b d : Nat, m = max (max a b) d → m = a ∨ m = b ∨ m = d := by intro m a b d h; omega
        obtain ⟨o0, a1, a2⟩ := i1 (V := U).2
        have skip : ∃ o, dnA w n (j + 1) c U o ∧ Mx w n (j + k) (c + 1) U ≤ cbN (j + 1) o.testBit + prN (j + 1) (restF (j + 1) c U o) + Mx w n k (c + (j + 1)) (aftD w (j + 1) c U o) := by
          refine ⟨o0, (dn0 a1.1 (fun _ _ => rfl)).mpr a1, ?_⟩
          rw [cb0 a1.1, mx0 a1.1]
          have : prN j (restF j (c + 1) U o0) ≤ prN (j + 1) (restF (j + 1) c U o0) := by
            rw [← pr0]
            cases j with
            | zero => exact Nat.le_refl _
            | succ j' => exact Nat.le_max_left _ _
          omega
        rcases c1 _ _ _ _ eM with h | h | h
        · rw [← eM, h]; exact skip
        · by_cases ha : aOK w noB U c = true
          · rw [if_pos ha] at h
            rw [← eM, h]
            obtain ⟨j', rfl, hu1⟩ := hrow ha
            have hcov : Mx w n (j' + 1 + k) (c + 1) (cov U (c + 1)) = Mx w n (j' + k) (c + 2) U := by
              rw [show j' + 1 + k = (j' + k) + 1 by omega, Mx, if_pos (cov_eq U (c + 1))]
              exact Mx_congr (fun x hx => cov_ne (by omega))
            obtain ⟨o, b1, b2⟩ := (IH j' (by omega) (c := c + 2) (U := U) hw (by omega) (by rw [← hc]; congr 1; omega)).2
            have q1 : o < 2 ^ (j' + 1) := by have := b1.1; rw [Nat.pow_succ]; omega
            have f2 : o.testBit j' = false := tb_hi b1.1 (Nat.le_refl j')
            have f1 : o.testBit (j' + 1) = false := tb_hi b1.1 (by omega)
            refine ⟨o, ⟨by rw [Nat.pow_succ]; omega, fun i hi hb => ?_⟩, ?_⟩
            · rcases Nat.lt_or_ge i j' with z | z
              · have := b1.2 i z hb
                rw [show c + (j' + 1 + 1 - 1 - i) = c + 2 + (j' - 1 - i) by omega]
                exact this
              · rw [tb_hi b1.1 z] at hb; cases hb
            · rw [cb0 q1, mx0 q1, prN]
              have t1 : restF (j' + 2) c U o (j' + 1) = true := by rw [restF_top, hU', f1]; rfl
              have t2 : restF (j' + 2) c U o j' = true := by
                unfold restF; rw [show c + (j' + 2 - 1 - j') = c + 1 by omega, hu1, f2]; rfl
              rw [t1, t2, hcov]
              simp only [Bool.and_self, if_true]
              have e2 : prN j' (restF (j' + 2) c U o) = prN j' (restF j' (c + 2) U o) := prN_congr (fun i hi => by
                unfold restF; rw [show c + (j' + 2 - 1 - i) = c + 2 + (j' - 1 - i) by omega])
              have e3 : Mx w n k (c + 2 + j') (aftD w j' (c + 2) U o) = Mx w n k (c + 1 + (j' + 1)) (aftD w (j' + 1) (c + 1) U o) := by
                rw [show c + 1 + (j' + 1) = c + 2 + j' by omega]
                exact Mx_congr (fun x hx => (aftD_0 f2 (by omega)).symm)
              have e4 : cbN (j' + 1) o.testBit = cbN j' o.testBit := by rw [cbN, f2]; simp
              have e5 : prN j' (restF (j' + 1 + 1) c U o) = prN j' (restF j' (c + 2) U o) := e2
              rw [← e3, e4, e5]
              omega
          · rw [if_neg ha] at h
            rw [← eM, h]
            obtain ⟨o, s1, s2⟩ := skip
            exact ⟨o, s1, by omega⟩
        · by_cases hd : dOK w n noB U c = true
          · rw [if_pos hd] at h
            rw [← eM, h]
            obtain ⟨o', b1, b2⟩ := i1 (V := cov U (c + w)).2
            refine ⟨2 ^ j + o', (dn1 b1.1).mpr ⟨hd, b1⟩, ?_⟩
            rw [cb1 b1.1, pr1 b1.1, mx1 b1.1]
            omega
          · rw [if_neg hd] at h
            rw [← eM, h]
            obtain ⟨o, s1, s2⟩ := skip
            exact ⟨o, s1, by omega⟩
end PM
/-! ===== the fewest cells left, row by row ===== -/
def minL (g : Nat → Nat) (m : Nat) (l : List Nat) : Nat := l.foldl (fun a o => min a (g o)) m
def Gs (w h : Nat) (cl : Nat → Bool) : Nat → Nat → Nat → Nat
  | 0, _, _ => 0
  | k + 1, y, into => if canR w h cl noB y into then minL (fun o => lone w h cl y into o + Gs w h cl k (y + 1) o) 36 (subs (room w h cl noB y into)) else 0
theorem minL_le (g : Nat → Nat) : ∀ (l : List Nat) (m : Nat), minL g m l ≤ m ∧ ∀ o, o ∈ l → minL g m l ≤ g o
  | [], m => ⟨Nat.le_refl m, by simp⟩
  | a :: l, m => by
    have := minL_le g l (min m (g a))
    have e : minL g m (a :: l) = minL g (min m (g a)) l := rfl
    rw [e]
    refine ⟨by omega, fun o ho => ?_⟩
    rw [List.mem_cons] at ho
    rcases ho with rfl | ho
    · omega
    · exact this.2 o ho
theorem minL_eq (g : Nat → Nat) : ∀ (l : List Nat) (m : Nat), minL g m l = m ∨ ∃ o, o ∈ l ∧ minL g m l = g o
  | [], m => Or.inl rfl
  | a :: l, m => by
    have e : minL g m (a :: l) = minL g (min m (g a)) l := rfl
    rw [e]
    rcases minL_eq g l (min m (g a)) with h | ⟨o, h1, h2⟩
    · rw [h]
      rcases Nat.le_total m (g a) with q | q
      · exact Or.inl (Nat.min_eq_left q)
      · exact Or.inr ⟨a, by simp, Nat.min_eq_right q⟩
    · exact Or.inr ⟨o, by simp [h1], h2⟩
theorem frN_add {U : Nat → Bool} : ∀ {j k c : Nat}, frN U (j + k) c = frN U j c + frN U k (c + j)
  | 0, k, c => by simp [frN]
  | j + 1, k, c => by
    rw [show j + 1 + k = (j + k) + 1 by omega, frN, frN, frN_add, show c + 1 + j = c + (j + 1) by omega]; omega
theorem frN_cb {U : Nat → Bool} : ∀ {j c : Nat}, frN U j c = cbN j (fun i => !U (c + (j - 1 - i)))
  | 0, c => rfl
  | j + 1, c => by
    rw [frN, cbN, show c + (j + 1 - 1 - j) = c by omega, frN_cb]
    congr 1
    · cases U c <;> rfl
    · apply cbN_congr
      intro i hi
      rw [show c + (j + 1 - 1 - i) = c + 1 + (j - 1 - i) by omega]
theorem cbN_split (f o : Nat → Bool) : ∀ {j : Nat}, (∀ i, i < j → o i = true → f i = true) → cbN j f = cbN j o + cbN j (fun i => f i && !o i)
  | 0, _ => rfl
  | j + 1, h => by
    have ih := cbN_split f o (j := j) (fun i hi => h i (by omega))
    have h1 := h j (by omega)
    rw [cbN, cbN, cbN, ih]
    cases q : o j with
    | true => simp [h1 q]; omega
    | false => cases f j <;> simp <;> omega
theorem frN_le {U : Nat → Bool} : ∀ {k c : Nat}, frN U k c ≤ k
  | 0, _ => Nat.le_refl 0
  | k + 1, c => by
    have := frN_le (U := U) (k := k) (c := c + 1)
    rw [frN]; split <;> omega
section PN
variable {w h : Nat} {cl : Nat → Bool}
theorem dnA_room {y into o : Nat} (hy : y < h) : dnA w (w * h) w (y * w) (Uc w cl y into) o ↔ (o &&& room w h cl noB y into == o) = true := by
  rw [and_sub]
  unfold dnA
  have cB : ∀ i, y * w + (w - 1 - i) = clB w y i := fun i => rfl
  have key : ∀ i, i < w → ((Uc w cl y into (clB w y i) = false ∧ dOK w (w * h) noB (Uc w cl y into) (clB w y i) = true) ↔ (room w h cl noB y into).testBit i = true) := by
    intro i hiw
    rw [room_tb, clM_tb, clM_tb, tlM_tb, tlM_tb, Uc_row hiw]
    have hyn : clB w y i + w < w * h ↔ y + 1 < h := by
      constructor
      · intro d1
        rcases Nat.lt_or_ge (y + 1) h with q | q
        · exact q
        · exfalso
          rw [clB_next, clB, show h = y + 1 by omega, Nat.mul_comm w] at d1
          omega
      · intro q; rw [clB_next]; exact clB_lt hiw q
    unfold dOK
    rw [Uc_next (by unfold clB; omega), clB_next]
    rw [clB_next] at hyn
    by_cases q : y + 1 < h
    · simp [hiw, hyn.mpr q, noB, show ¬ h ≤ y by omega, show ¬ h ≤ y + 1 by omega]
      cases cl (clB w y i) <;> cases cl (clB w (y + 1) i) <;> simp
    · have : ¬ clB w (y + 1) i < w * h := fun z => q (hyn.mp z)
      simp [hiw, this, show h ≤ y + 1 by omega]
  constructor
  · rintro ⟨h1, h2⟩ i hi
    have hiw : i < w := by
      rcases Nat.lt_or_ge i w with q | q
      · exact q
      · rw [tb_hi h1 q] at hi; cases hi
    exact (key i hiw).mp (h2 i hiw hi)
  · intro h2
    refine ⟨sub_lt (and_sub.mpr h2) room_lt, fun i hi hb => ?_⟩
    rw [cB]
    exact (key i hi).mpr (h2 i hb)
theorem lone_pr (hw6 : w ≤ 6) {y into o : Nat} (hy : y < h) : 2 * prN w (restF w (y * w) (Uc w cl y into) o) + lone w h cl y into o = cbN w (restF w (y * w) (Uc w cl y into) o) := by
  have hm : ndM w (clM w h cl y ||| into ||| o) < 64 := Nat.lt_of_lt_of_le (mkM_lt _ _) (show 2 ^ w ≤ 2 ^ 6 from Nat.pow_le_pow_right (by decide) hw6)
  have e := prN_odd _ hm
  have z : ∀ i, w ≤ i → (ndM w (clM w h cl y ||| into ||| o)).testBit i = false := fun i hi => by rw [ndM, mkM_tb]; simp; omega
  have e1 := prN_up (d := 6 - w) z
  have e2 := cbN_up (d := 6 - w) z
  rw [show w + (6 - w) = 6 by omega] at e1 e2
  rw [e1, e2] at e
  have cg : ∀ i, i < w → (ndM w (clM w h cl y ||| into ||| o)).testBit i = restF w (y * w) (Uc w cl y into) o i := by
    intro i hi
    unfold restF
    rw [show y * w + (w - 1 - i) = clB w y i from rfl, Uc_row hi, ndM, mkM_tb, Nat.testBit_or, Nat.testBit_or, clM_tb]
    simp [hi, show ¬ h ≤ y by omega, Bool.and_assoc]
  rw [prN_congr cg, cbN_congr cg] at e
  exact e
/-- the class's number, and the model's -/
theorem Gs_eq (hw : 1 < w) (hw6 : w ≤ 6) (hh6 : h ≤ 6) {k : Nat} : ∀ {y into : Nat}, y + k = h → canR w h cl noB y into = true → Gs w h cl k y into + 2 * Mx w (w * h) (k * w) (y * w) (Uc w cl y into) = frN (Uc w cl y into) (k * w) (y * w) := by
  induction k with
  | zero => intro y into hy hc; rw [Nat.zero_mul]; rfl
  | succ k ih =>
    intro y into hy hc
    have hy0 : y < h := by omega
    obtain ⟨L1, o1, d1, L2⟩ := Mx_row (n := w * h) (k := k * w) (j := w) (c := y * w) (U := Uc w cl y into) hw (Nat.le_refl w) (by rw [Nat.add_mod_right, Nat.mul_mod_left])
    have ek : (k + 1) * w = w + k * w := by rw [Nat.succ_mul, Nat.add_comm]
    -- each strategy's number
    have val : ∀ o, (o &&& room w h cl noB y into == o) = true → lone w h cl y into o + Gs w h cl k (y + 1) o + 2 * (cbN w o.testBit + prN w (restF w (y * w) (Uc w cl y into) o) + Mx w (w * h) (k * w) (y * w + w) (aftD w w (y * w) (Uc w cl y into) o)) = frN (Uc w cl y into) (w + k * w) (y * w) := by
      intro o ho
      have hcan : canR w h cl noB (y + 1) o = true := by
        unfold canR
        rw [if_neg (by omega), Nat.add_sub_cancel, and_sub]
        intro i hi
        have := and_sub.mp ho i hi
        rw [room_tb] at this ⊢
        simp only [Bool.and_eq_true] at this ⊢
        exact ⟨this.1, by simp⟩
      have I := ih (y := y + 1) (into := o) (by omega) hcan
      have ea : ∀ x, y * w + w ≤ x → aftD w w (y * w) (Uc w cl y into) o x = Uc w cl (y + 1) o x := by
        intro x hx
        unfold aftD
        rw [Uc_next hx]
        unfold Uc
        rw [Nat.succ_mul, show x - y * w - w = x - (y * w + w) by omega]
      have eM : Mx w (w * h) (k * w) (y * w + w) (aftD w w (y * w) (Uc w cl y into) o) = Mx w (w * h) (k * w) ((y + 1) * w) (Uc w cl (y + 1) o) := by
        rw [Nat.succ_mul]; exact Mx_congr (fun x hx => ea x hx)
      rw [eM, frN_add, frN_cb (j := w)]
      have hd := (dnA_room hy0).mpr ho
      have s1 := cbN_split (fun i => !Uc w cl y into (y * w + (w - 1 - i))) o.testBit (j := w) (fun i hi hb => by rw [(hd.2 i hi hb).1]; rfl)
      have s2 : cbN w (fun i => !Uc w cl y into (y * w + (w - 1 - i)) && !o.testBit i) = cbN w (restF w (y * w) (Uc w cl y into) o) := rfl
      have s3 := lone_pr (cl := cl) hw6 (into := into) (o := o) hy0
      -- the row below
      have s4 : frN (Uc w cl y into) (k * w) (y * w + w) = frN (Uc w cl (y + 1) o) (k * w) ((y + 1) * w) + cbN w o.testBit := by
        rw [Nat.succ_mul]
        have t1 : frN (Uc w cl y into) (k * w) (y * w + w) = frN cl (k * w) (y * w + w) := frN_congr (fun x h1 h2 => Uc_next h1)
        rw [t1]
        cases k with
        | zero =>
          have : o = 0 := can_last (w := w) (h := h) (cl := cl) (nd := noB) (by omega) (by rw [show h = y + 1 by omega] at hcan ⊢; exact hcan)
          subst this
          rw [Nat.zero_mul]
          have : cbN w (fun i => (0 : Nat).testBit i) = 0 := by
            clear L1 L2 d1 hd s1 s2 s3 t1 I eM ea
            generalize w = w'
            induction w' with
            | zero => rfl
            | succ j ihj => rw [cbN, ihj]; simp
          rw [this]; rfl
        | succ k =>
          rw [Nat.succ_mul, Nat.add_comm (k * w) w, frN_add, frN_add (U := Uc w cl (y + 1) o), frN_cb (j := w), frN_cb (j := w) (U := Uc w cl (y + 1) o)]
          have t2 : frN (Uc w cl (y + 1) o) (k * w) (y * w + w + w) = frN cl (k * w) (y * w + w + w) := frN_congr (fun x h1 h2 => Uc_next (by rw [Nat.succ_mul]; exact h1))
          rw [t2]
          have t3 := cbN_split (fun i => !cl (y * w + w + (w - 1 - i))) o.testBit (j := w) (fun i hi hb => by
            have := (hd.2 i hi hb).2
            simp only [dOK, Bool.and_eq_true, Bool.not_eq_true'] at this
            have := this.1.1.2
            rw [Uc_next (by omega), show y * w + (w - 1 - i) + w = y * w + w + (w - 1 - i) by omega] at this
            rw [this]; rfl)
          have t4 : cbN w (fun i => !Uc w cl (y + 1) o (y * w + w + (w - 1 - i))) = cbN w (fun i => !cl (y * w + w + (w - 1 - i)) && !o.testBit i) := by
            apply cbN_congr
            intro i hi
            have := Uc_row (cl := cl) (y := y + 1) (into := o) hi
            unfold clB at this
            rw [Nat.succ_mul] at this
            rw [this]; simp
          rw [t3, t4]
          omega
      rw [s1, s2, s4]
      omega
    rw [Gs, if_pos hc, ek]
    have mem : ∀ o, o ∈ subs (room w h cl noB y into) ↔ (o &&& room w h cl noB y into == o) = true := by
      intro o
      unfold subs
      rw [List.mem_filter, List.mem_range]
      constructor
      · exact fun z => z.2
      · exact fun z => ⟨Nat.lt_of_lt_of_le (sub_lt z room_lt) (show 2 ^ w ≤ 2 ^ 6 from Nat.pow_le_pow_right (by decide) hw6), z⟩
    have m1 := minL_le (fun o => lone w h cl y into o + Gs w h cl k (y + 1) o) (subs (room w h cl noB y into)) 36
    have hd1 := (dnA_room hy0).mp d1
    have v1 := val o1 hd1
    have a1 := m1.2 o1 ((mem o1).mpr hd1)
    have a2 := L1 o1 d1
    have hfr : frN (Uc w cl y into) (w + k * w) (y * w) ≤ 36 := by
      have h1 := frN_le (U := Uc w cl y into) (k := w + k * w) (c := y * w)
      have h2 : (k + 1) * w ≤ 6 * 6 := Nat.mul_le_mul (by omega) hw6
      rw [ek] at h2
      omega
    rcases minL_eq (fun o => lone w h cl y into o + Gs w h cl k (y + 1) o) (subs (room w h cl noB y into)) 36 with e | ⟨o, e1, e2⟩
    · rw [e] at a1 ⊢
      omega
    · have v2 := val o ((mem o).mp e1)
      have a3 := L1 o ((dnA_room hy0).mpr ((mem o).mp e1))
      rw [e2] at a1 ⊢
      omega
end PN
