/-! ===== what a sum's code does to a pile ===== -/
/-- the pile's height behind the code; none: it fell short, or went over D -/
def hOK (D : Nat) : List CI → Nat → Option Nat
  | [], n => some n
  | .num _ :: r, n => if n < D then hOK D r (n + 1) else none
  | .var _ :: r, n => if n < D then hOK D r (n + 1) else none
  | .op _ :: r, n => if 2 ≤ n then hOK D r (n - 1) else none
/-- variables of a code are below 9, signs are signs -/
def ciOK : CI → Prop
  | .num _ => True
  | .var k => k < 9
  | .op s => isAdd s = true ∨ isMul s = true
section PQ
variable {K : Nat → Nat} {V : Nat → Int}
/-- a reader whose code needs e more than it finds -/
def hSim (K : Nat → Nat) (V : Nat → Int) (e : Nat) (next : Nat → PR) : Prop := ∀ t t' cs, next t = .ok t' cs → t ≤ t' ∧ t + cs.length ≤ t' ∧ (∀ x, x ∈ cs → ciOK x) ∧ (∀ x, x ∈ cs → ∀ v, x = .num v → ∃ i, i < t' ∧ t ≤ i ∧ K i = 3 ∧ v = V i) ∧ ∀ D n rest, n + e ≤ D → hOK D (cs ++ rest) n = hOK D rest (n + 1)
theorem h_loop {isop : Nat → Bool} (hop : ∀ s, isop s = true → isAdd s = true ∨ isMul s = true) {e : Nat} (he : 1 ≤ e) {next : Nat → PR} (hn : hSim K V e next) {t0 : Nat} : ∀ {f t : Nat} {cs : List CI} {t' : Nat} {cs' : List CI}, loopR K isop next f t cs = .ok t' cs' → t0 ≤ t → t0 + cs.length ≤ t → (∀ x, x ∈ cs → ciOK x) → (∀ x, x ∈ cs → ∀ v, x = .num v → ∃ i, i < t ∧ t0 ≤ i ∧ K i = 3 ∧ v = V i) → (∀ D n rest, n + (e + 1) ≤ D → hOK D (cs ++ rest) n = hOK D rest (n + 1)) → t0 ≤ t' ∧ t0 + cs'.length ≤ t' ∧ (∀ x, x ∈ cs' → ciOK x) ∧ (∀ x, x ∈ cs' → ∀ v, x = .num v → ∃ i, i < t' ∧ t0 ≤ i ∧ K i = 3 ∧ v = V i) ∧ (∀ D n rest, n + (e + 1) ≤ D → hOK D (cs' ++ rest) n = hOK D rest (n + 1))
  | 0, t, cs, t', cs', h, h0, h1, h2, h3, h4 => by
    rw [loopR] at h
    injection h with e1 e2
    subst e1; subst e2
    exact ⟨h0, h1, h2, h3, h4⟩
  | f + 1, t, cs, t', cs', h, h0, h1, h2, h3, h4 => by
    rw [loopR] at h
    by_cases z : isop (K t) = true
    · rw [if_pos z] at h
      by_cases zt : t < 400
      · rw [if_pos zt] at h
        cases hr : next (t + 1) with
        | fl c q => rw [hr] at h; cases h
        | ok t2 cs2 =>
          rw [hr] at h
          simp only [] at h
          obtain ⟨g1, g2, g3, g4, g5⟩ := hn (t + 1) t2 cs2 hr
          refine h_loop hop he hn h (by omega) (by simp; omega) ?_ ?_ ?_
          · intro x hx
            simp only [List.mem_append, List.mem_singleton] at hx
            rcases hx with (hx | hx) | rfl
            · exact h2 x hx
            · exact g3 x hx
            · exact hop _ z
          · intro x hx v hv
            simp only [List.mem_append, List.mem_singleton] at hx
            rcases hx with (hx | hx) | rfl
            · obtain ⟨i, i1, i2, i3, i4⟩ := h3 x hx v hv; exact ⟨i, by omega, i2, i3, i4⟩
            · obtain ⟨i, i1, i2, i3, i4⟩ := g4 x hx v hv; exact ⟨i, by omega, by omega, i3, i4⟩
            · cases hv
          · intro D n rest hD
            rw [List.append_assoc, List.append_assoc, h4 D n _ hD, g5 D (n + 1) _ (by omega), List.singleton_append, hOK, if_pos (by omega)]
            rfl
      · rw [if_neg zt] at h; cases h
    · rw [if_neg z] at h
      injection h with e1 e2
      subst e1; subst e2
      exact ⟨h0, h1, h2, h3, h4⟩
theorem h_unit {e : Nat} {rm : Bool} {rs : Nat → PR} (hs : rm = true → hSim K V e rs) (he : 1 ≤ e) : hSim K V e (unitR K V rm rs) := by
  intro t t' cs h
  unfold unitR at h
  by_cases k3 : K t = 3
  · rw [if_pos k3] at h
    by_cases zt : t < 400
    · rw [if_pos zt] at h
      injection h with e1 e2
      subst e1; subst e2
      refine ⟨by omega, by simp, by simp [ciOK], ?_, ?_⟩
      · intro x hx v hv
        simp only [List.mem_singleton] at hx
        subst hx
        injection hv with hv
        exact ⟨t, by omega, by omega, k3, hv.symm⟩
      · intro D n rest hD
        rw [List.singleton_append, hOK, if_pos (by omega)]
    · rw [if_neg zt] at h; cases h
  · rw [if_neg k3] at h
    by_cases kv : 30 ≤ K t ∧ K t ≤ 38
    · rw [if_pos kv] at h
      by_cases zt : t < 400
      · rw [if_pos zt] at h
        injection h with e1 e2
        subst e1; subst e2
        refine ⟨by omega, by simp, ?_, ?_, ?_⟩
        · intro x hx
          simp only [List.mem_singleton] at hx
          subst hx
          show K t - 30 < 9
          omega
        · intro x hx v hv
          simp only [List.mem_singleton] at hx
          subst hx
          cases hv
        · intro D n rest hD
          rw [List.singleton_append, hOK, if_pos (by omega)]
      · rw [if_neg zt] at h; cases h
    · rw [if_neg kv] at h
      by_cases kp : K t = 17
      · rw [if_pos kp] at h
        by_cases zr : rm = true ∧ t < 400
        · rw [if_pos zr] at h
          cases hr : rs (t + 1) with
          | fl c q => rw [hr] at h; cases h
          | ok t2 cs2 =>
            rw [hr] at h
            simp only [] at h
            obtain ⟨g1, g2, g3, g4, g5⟩ := hs zr.1 (t + 1) t2 cs2 hr
            by_cases k18 : K t2 = 18
            · rw [if_pos k18] at h
              by_cases zt2 : t2 < 400
              · rw [if_pos zt2] at h
                injection h with e1 e2
                subst e1; subst e2
                refine ⟨by omega, by omega, g3, ?_, g5⟩
                intro x hx v hv
                obtain ⟨i, i1, i2, i3, i4⟩ := g4 x hx v hv
                exact ⟨i, by omega, by omega, i3, i4⟩
              · rw [if_neg zt2] at h; cases h
            · rw [if_neg k18] at h; cases h
        · rw [if_neg zr] at h; cases h
      · rw [if_neg kp] at h; cases h
theorem h_part {e : Nat} {rm : Bool} {rs : Nat → PR} (he : 1 ≤ e) (hu : hSim K V e (unitR K V rm rs)) : hSim K V (e + 1) (partR K V rm rs) := by
  intro t t' cs h
  unfold partR at h
  cases hr : unitR K V rm rs t with
  | fl c q => rw [hr] at h; cases h
  | ok t2 cs2 =>
    rw [hr] at h
    simp only [] at h
    obtain ⟨g1, g2, g3, g4, g5⟩ := hu t t2 cs2 hr
    exact h_loop (fun s hs => Or.inr hs) he hu h g1 g2 g3 g4 (fun D n rest hD => g5 D n rest (by omega))
theorem h_sum {e : Nat} {rm : Bool} {rs : Nat → PR} (he : 1 ≤ e) (hu : hSim K V e (unitR K V rm rs)) : hSim K V (e + 2) (sumR K V rm rs) := by
  intro t t' cs h
  unfold sumR at h
  cases hr : partR K V rm rs t with
  | fl c q => rw [hr] at h; cases h
  | ok t2 cs2 =>
    rw [hr] at h
    simp only [] at h
    obtain ⟨g1, g2, g3, g4, g5⟩ := h_part he hu t t2 cs2 hr
    exact h_loop (fun s hs => Or.inl hs) (by omega) (h_part he hu) h g1 g2 g3 g4 (fun D n rest hD => g5 D n rest (by omega))
theorem h_sumD : ∀ (d : Nat), hSim K V (2 * d + 3) (sumD K V d)
  | 0 => by
    intro t t' cs h
    exact h_sum (e := 1) (Nat.le_refl 1) (h_unit (by simp) (Nat.le_refl 1)) t t' cs h
  | d + 1 => by
    intro t t' cs h
    exact h_sum (e := 2 * d + 3) (by omega) (h_unit (fun _ => h_sumD d) (by omega)) t t' cs h
end PQ
/-- the pile itself: the top is the list's head; none: divided by nothing -/
def evC (dv : Int → Int → Int) (nil : Int → Bool) (vs : Nat → Int) : List CI → List Int → Option (List Int)
  | [], s => some s
  | .num v :: r, s => evC dv nil vs r (v :: s)
  | .var k :: r, s => evC dv nil vs r (vs k :: s)
  | .op o :: r, b :: a :: s => if o = 15 ∧ nil b = true then none else evC dv nil vs r ((if o = 12 then a + b else if o = 13 then a - b else if o = 14 then a * b else dv a b) :: s)
  | .op _ :: _, _ => some []
section PQe
variable {dv : Int → Int → Int} {nil : Int → Bool} {vs : Nat → Int}
theorem evC_app : ∀ (a b : List CI) (s : List Int), (∀ D, (hOK D a s.length).isSome = true ∨ True) → evC dv nil vs (a ++ b) s = (evC dv nil vs a s).bind (fun s' => evC dv nil vs b s') ∨ (∀ D, hOK D a s.length = none)
  | [], b, s, _ => Or.inl rfl
  | .num v :: a, b, s, _ => by
    rcases evC_app a b (v :: s) (fun _ => Or.inr trivial) with h | h
    · exact Or.inl (by simp only [List.cons_append, evC]; exact h)
    · refine Or.inr (fun D => ?_)
      rw [hOK]
      split
      · exact h D
      · rfl
  | .var k :: a, b, s, _ => by
    rcases evC_app a b (vs k :: s) (fun _ => Or.inr trivial) with h | h
    · exact Or.inl (by simp only [List.cons_append, evC]; exact h)
    · refine Or.inr (fun D => ?_)
      rw [hOK]
      split
      · exact h D
      · rfl
  | .op o :: a, b, [], _ => Or.inr (fun D => by rw [hOK, if_neg (by simp)])
  | .op o :: a, b, [x], _ => Or.inr (fun D => by rw [hOK, if_neg (by simp)])
  | .op o :: a, b, y :: x :: s, _ => by
    simp only [List.cons_append, evC]
    by_cases z : o = 15 ∧ nil y = true
    · rw [if_pos z, if_pos z]; exact Or.inl rfl
    · rw [if_neg z, if_neg z]
      rcases evC_app a b ((if o = 12 then x + y else if o = 13 then x - y else if o = 14 then x * y else dv x y) :: s) (fun _ => Or.inr trivial) with h | h
      · exact Or.inl h
      · refine Or.inr (fun D => ?_)
        rw [hOK, if_pos (by simp)]
        exact h D
end PQe
section PQf
variable {dv : Int → Int → Int} {nil : Int → Bool} {vs : Nat → Int}
theorem evC_off {D : Nat} (s : List Int) : ∀ (a : List CI) (s1 : List Int) (n : Nat), hOK D a s1.length = some n → evC dv nil vs a (s1 ++ s) = (evC dv nil vs a s1).map (· ++ s) ∧ (∀ q, evC dv nil vs a s1 = some q → q.length = n)
  | [], s1, n, h => ⟨rfl, fun q e => by
      simp only [evC] at e
      injection e with e
      subst e
      simp only [hOK] at h
      exact Option.some.inj h⟩
  | .num v :: a, s1, n, h => by
    rw [hOK] at h
    split at h
    · simp only [evC]
      exact evC_off s a (v :: s1) n (by simpa using h)
    · cases h
  | .var k :: a, s1, n, h => by
    rw [hOK] at h
    split at h
    · simp only [evC]
      exact evC_off s a (vs k :: s1) n (by simpa using h)
    · cases h
  | .op o :: a, [], n, h => by rw [hOK, if_neg (by simp)] at h; cases h
  | .op o :: a, [x], n, h => by rw [hOK, if_neg (by simp)] at h; cases h
  | .op o :: a, y :: x :: s1, n, h => by
    rw [hOK, if_pos (by simp)] at h
    simp only [List.cons_append, evC]
    by_cases z : o = 15 ∧ nil y = true
    · rw [if_pos z]; exact ⟨rfl, fun q e => by cases e⟩
    · rw [if_neg z]
      exact evC_off s a ((if o = 12 then x + y else if o = 13 then x - y else if o = 14 then x * y else dv x y) :: s1) n (by simpa using h)
/-- the value of a sum -/
def evV (dv : Int → Int → Int) (nil : Int → Bool) (vs : Nat → Int) (a : List CI) : Option Int := (evC dv nil vs a []).bind List.head?
theorem evC_val {D : Nat} {a : List CI} (h : hOK D a 0 = some 1) (s : List Int) : evC dv nil vs a s = (evV dv nil vs a).map (· :: s) := by
  have h1 := evC_off (dv := dv) (nil := nil) (vs := vs) s a [] 1 h
  rw [List.nil_append] at h1
  rw [h1.1]
  unfold evV
  cases e : evC dv nil vs a [] with
  | none => rfl
  | some q =>
    have := h1.2 q e
    match q, this with
    | [v], _ => rfl
/-- a law: what is told of if .. < .. then, and the last word -/
inductive LW where
  | last (x : List CI)
  | ite (u v x : List CI) (r : LW)
def lwV (dv : Int → Int → Int) (nil : Int → Bool) (lt : Int → Int → Bool) (vs : Nat → Int) : LW → Int
  | .last x => (evV dv nil vs x).getD 0
  | .ite u v x r => match evV dv nil vs u, evV dv nil vs v with
    | some a, some b => if lt a b then (evV dv nil vs x).getD 0 else lwV dv nil lt vs r
    | _, _ => 0
end PQf
