/-! ===== what a sum's code does to a pile ===== -/
/-- the pile's height behind the code; none: it fell short, or went over D -/
def hOK (D : Nat) : List CI → Nat → Option Nat
  | [], n => some n
  | x :: r, n => if x.1 < 2 then (if n < D then hOK D r (n + 1) else none) else (if 2 ≤ n then hOK D r (n - 1) else none)
/-- variables of a code are below 9, signs are signs -/
def ciOK (x : CI) : Prop := x.1 = 0 ∨ (∃ k, k < 9 ∧ x = cVar k) ∨ (∃ s, x = cOp s ∧ (isAdd s = true ∨ isMul s = true))
section PQ
variable {K : Nat → Nat} {V : Nat → Int}
/-- a reader whose code needs e more than it finds -/
def hSim (K : Nat → Nat) (V : Nat → Int) (e : Nat) (next : Nat → PR) : Prop := ∀ t t' cs, next t = okr t' cs → t ≤ t' ∧ t + cs.length ≤ t' ∧ (∀ x, x ∈ cs → ciOK x) ∧ (∀ x, x ∈ cs → x.1 = 0 → ∃ i, i < t' ∧ t ≤ i ∧ K i = 3 ∧ x.2 = V i) ∧ ∀ D n rest, n + e ≤ D → hOK D (cs ++ rest) n = hOK D rest (n + 1)
theorem op_ge {s : Nat} (h : isAdd s = true ∨ isMul s = true) : 12 ≤ s ∧ s ≤ 15 := by
  simp [isAdd, isMul] at h; omega
theorem h_loop {isop : Nat → Bool} (hop : ∀ s, isop s = true → isAdd s = true ∨ isMul s = true) {e : Nat} (he : 1 ≤ e) {next : Nat → PR} (hn : hSim K V e next) {t0 : Nat} : ∀ {f t : Nat} {cs : List CI} {t' : Nat} {cs' : List CI}, loopR K isop next f t cs = okr t' cs' → t0 ≤ t → t0 + cs.length ≤ t → (∀ x, x ∈ cs → ciOK x) → (∀ x, x ∈ cs → x.1 = 0 → ∃ i, i < t ∧ t0 ≤ i ∧ K i = 3 ∧ x.2 = V i) → (∀ D n rest, n + (e + 1) ≤ D → hOK D (cs ++ rest) n = hOK D rest (n + 1)) → t0 ≤ t' ∧ t0 + cs'.length ≤ t' ∧ (∀ x, x ∈ cs' → ciOK x) ∧ (∀ x, x ∈ cs' → x.1 = 0 → ∃ i, i < t' ∧ t0 ≤ i ∧ K i = 3 ∧ x.2 = V i) ∧ (∀ D n rest, n + (e + 1) ≤ D → hOK D (cs' ++ rest) n = hOK D rest (n + 1))
  | 0, t, cs, t', cs', h, h0, h1, h2, h3, h4 => by
    rw [loopR] at h
    obtain ⟨e1, e2⟩ := okr_inj h
    subst e1; subst e2
    exact ⟨h0, h1, h2, h3, h4⟩
  | f + 1, t, cs, t', cs', h, h0, h1, h2, h3, h4 => by
    rw [loopR] at h
    by_cases z : isop (K t) = true
    · rw [if_pos z] at h
      by_cases zt : t < 400
      · rw [if_pos zt] at h
        rcases pr_cases (next (t + 1)) with ⟨c, q, hr⟩ | ⟨t2, cs2, hr⟩
        · rw [hr, andT_fl] at h; exact absurd h (fun z => fl_okr z)
        · rw [hr, andT_ok] at h
          obtain ⟨g1, g2, g3, g4, g5⟩ := hn (t + 1) t2 cs2 hr
          have hge := op_ge (hop _ z)
          refine h_loop hop he hn h (by omega) (by simp; omega) ?_ ?_ ?_
          · intro x hx
            simp only [List.mem_append, List.mem_singleton] at hx
            rcases hx with (hx | hx) | rfl
            · exact h2 x hx
            · exact g3 x hx
            · exact Or.inr (Or.inr ⟨_, rfl, hop _ z⟩)
          · intro x hx hv
            simp only [List.mem_append, List.mem_singleton] at hx
            rcases hx with (hx | hx) | rfl
            · obtain ⟨i, i1, i2, i3, i4⟩ := h3 x hx hv; exact ⟨i, by omega, i2, i3, i4⟩
            · obtain ⟨i, i1, i2, i3, i4⟩ := g4 x hx hv; exact ⟨i, by omega, by omega, i3, i4⟩
            · simp only [cOp] at hv; omega
          · intro D n rest hD
            rw [List.append_assoc, List.append_assoc, h4 D n _ hD, g5 D (n + 1) _ (by omega), List.singleton_append, hOK, if_neg (by simp only [cOp]; omega), if_pos (by omega)]
            rfl
      · rw [if_neg zt] at h; exact absurd h (fun z => fl_okr z)
    · rw [if_neg z] at h
      obtain ⟨e1, e2⟩ := okr_inj h
      subst e1; subst e2
      exact ⟨h0, h1, h2, h3, h4⟩
theorem h_unit {e : Nat} {rm : Bool} {rs : Nat → PR} (hs : rm = true → hSim K V e rs) (he : 1 ≤ e) : hSim K V e (unitR K V rm rs) := by
  intro t t' cs h
  unfold unitR at h
  by_cases k3 : K t = 3
  · rw [if_pos k3] at h
    by_cases zt : t < 400
    · rw [if_pos zt] at h
      obtain ⟨e1, e2⟩ := okr_inj h
      subst e1; subst e2
      refine ⟨by omega, by simp, by simp [ciOK, cNum], ?_, ?_⟩
      · intro x hx hv
        simp only [List.mem_singleton] at hx
        subst hx
        exact ⟨t, by omega, by omega, k3, rfl⟩
      · intro D n rest hD
        rw [List.singleton_append, hOK, if_pos (by simp [cNum]), if_pos (by omega)]
    · rw [if_neg zt] at h; exact absurd h (fun z => fl_okr z)
  · rw [if_neg k3] at h
    by_cases kv : 30 ≤ K t ∧ K t ≤ 38
    · rw [if_pos kv] at h
      by_cases zt : t < 400
      · rw [if_pos zt] at h
        obtain ⟨e1, e2⟩ := okr_inj h
        subst e1; subst e2
        refine ⟨by omega, by simp, ?_, ?_, ?_⟩
        · intro x hx
          simp only [List.mem_singleton] at hx
          subst hx
          exact Or.inr (Or.inl ⟨K t - 30, by omega, rfl⟩)
        · intro x hx hv
          simp only [List.mem_singleton] at hx
          subst hx
          simp only [cVar] at hv; omega
        · intro D n rest hD
          rw [List.singleton_append, hOK, if_pos (by simp [cVar]), if_pos (by omega)]
      · rw [if_neg zt] at h; exact absurd h (fun z => fl_okr z)
    · rw [if_neg kv] at h
      by_cases kp : K t = 17
      · rw [if_pos kp] at h
        by_cases zr : rm = true ∧ t < 400
        · rw [if_pos zr] at h
          rcases pr_cases (rs (t + 1)) with ⟨c, q, hr⟩ | ⟨t2, cs2, hr⟩
          · rw [hr, andT_fl] at h; exact absurd h (fun z => fl_okr z)
          · rw [hr, andT_ok] at h
            obtain ⟨g1, g2, g3, g4, g5⟩ := hs zr.1 (t + 1) t2 cs2 hr
            by_cases k18 : K t2 = 18
            · rw [if_pos k18] at h
              by_cases zt2 : t2 < 400
              · rw [if_pos zt2] at h
                obtain ⟨e1, e2⟩ := okr_inj h
                subst e1; subst e2
                refine ⟨by omega, by omega, g3, ?_, g5⟩
                intro x hx hv
                obtain ⟨i, i1, i2, i3, i4⟩ := g4 x hx hv
                exact ⟨i, by omega, by omega, i3, i4⟩
              · rw [if_neg zt2] at h; exact absurd h (fun z => fl_okr z)
            · rw [if_neg k18] at h; exact absurd h (fun z => fl_okr z)
        · rw [if_neg zr] at h; exact absurd h (fun z => fl_okr z)
      · rw [if_neg kp] at h; exact absurd h (fun z => fl_okr z)
theorem h_part {e : Nat} {rm : Bool} {rs : Nat → PR} (he : 1 ≤ e) (hu : hSim K V e (unitR K V rm rs)) : hSim K V (e + 1) (partR K V rm rs) := by
  intro t t' cs h
  unfold partR at h
  rcases pr_cases (unitR K V rm rs t) with ⟨c, q, hr⟩ | ⟨t2, cs2, hr⟩
  · rw [hr, andT_fl] at h; exact absurd h (fun z => fl_okr z)
  · rw [hr, andT_ok] at h
    obtain ⟨g1, g2, g3, g4, g5⟩ := hu t t2 cs2 hr
    exact h_loop (fun s hs => Or.inr hs) he hu h g1 g2 g3 g4 (fun D n rest hD => g5 D n rest (by omega))
theorem h_sum {e : Nat} {rm : Bool} {rs : Nat → PR} (he : 1 ≤ e) (hu : hSim K V e (unitR K V rm rs)) : hSim K V (e + 2) (sumR K V rm rs) := by
  intro t t' cs h
  unfold sumR at h
  rcases pr_cases (partR K V rm rs t) with ⟨c, q, hr⟩ | ⟨t2, cs2, hr⟩
  · rw [hr, andT_fl] at h; exact absurd h (fun z => fl_okr z)
  · rw [hr, andT_ok] at h
    obtain ⟨g1, g2, g3, g4, g5⟩ := h_part he hu t t2 cs2 hr
    exact h_loop (fun s hs => Or.inl hs) (by omega) (h_part he hu) h g1 g2 g3 g4 (fun D n rest hD => g5 D n rest (by omega))
theorem h_sumD : ∀ (d : Nat), hSim K V (2 * d + 3) (sumD K V d)
  | 0 => by
    intro t t' cs h
    exact h_sum (e := 1) (Nat.le_refl 1) (h_unit (by simp) (Nat.le_refl 1)) t t' cs h
  | d + 1 => by
    intro t t' cs h
    exact h_sum (e := 2 * d + 3) (by omega) (h_unit (fun _ => h_sumD d) (by omega)) t t' cs h
end PQ
def jnV (dv : Int → Int → Int) (o : Nat) (a b : Int) : Int := if o = 12 then a + b else if o = 13 then a - b else if o = 14 then a * b else dv a b
/-- a sign on the pile: the top is the list's head; none: divided by nothing -/
def opT (dv : Int → Int → Int) (nil : Int → Bool) (o : Nat) : List Int → Option (List Int)
  | b :: a :: s => if o = 15 ∧ nil b = true then none else some (jnV dv o a b :: s)
  | _ => some []
/-- the pile itself -/
def evC (dv : Int → Int → Int) (nil : Int → Bool) (vs : Nat → Int) : List CI → List Int → Option (List Int)
  | [], s => some s
  | x :: r, s => if x.1 = 0 then evC dv nil vs r (x.2 :: s) else if x.1 = 1 then evC dv nil vs r (vs x.2.toNat :: s) else (opT dv nil x.1 s).bind (evC dv nil vs r)
section PQf
variable {dv : Int → Int → Int} {nil : Int → Bool} {vs : Nat → Int}
theorem evC_off {D : Nat} (s : List Int) : ∀ (a : List CI) (s1 : List Int) (n : Nat), hOK D a s1.length = some n → evC dv nil vs a (s1 ++ s) = (evC dv nil vs a s1).map (· ++ s) ∧ (∀ q, evC dv nil vs a s1 = some q → q.length = n)
  | [], s1, n, h => ⟨rfl, fun q e => by
      simp only [evC] at e
      injection e with e
      subst e
      simp only [hOK] at h
      exact Option.some.inj h⟩
  | x :: a, s1, n, h => by
    rw [hOK] at h
    rw [evC, evC]
    by_cases z2 : x.1 < 2
    · rw [if_pos z2] at h
      split at h
      · by_cases z0 : x.1 = 0
        · rw [if_pos z0, if_pos z0]
          exact evC_off s a (x.2 :: s1) n (by simpa using h)
        · rw [if_neg z0, if_neg z0, if_pos (by omega), if_pos (by omega)]
          exact evC_off s a (vs x.2.toNat :: s1) n (by simpa using h)
      · cases h
    · rw [if_neg z2] at h
      rw [if_neg (by omega), if_neg (by omega), if_neg (by omega), if_neg (by omega)]
      match s1, h with
      | [], h => rw [if_neg (by simp)] at h; cases h
      | [y], h => rw [if_neg (by simp)] at h; cases h
      | y :: w :: s1, h =>
        rw [if_pos (by simp)] at h
        simp only [List.cons_append, opT]
        by_cases z : x.1 = 15 ∧ nil y = true
        · rw [if_pos z, if_pos z]
          exact ⟨rfl, fun q e => by cases e⟩
        · rw [if_neg z, if_neg z]
          exact evC_off s a (jnV dv x.1 w y :: s1) n (by simpa using h)
/-- the value of a sum -/
def evV (dv : Int → Int → Int) (nil : Int → Bool) (vs : Nat → Int) (a : List CI) : Option Int := (evC dv nil vs a []).bind List.head?
theorem evC_val {D : Nat} {a : List CI} (h : hOK D a 0 = some 1) (s : List Int) : evC dv nil vs a s = (evV dv nil vs a).map (· :: s) := by
  have h1 := evC_off (dv := dv) (nil := nil) (vs := vs) s a [] 1 h
  rw [List.nil_append] at h1
  rw [h1.1]
  unfold evV
  cases e : evC dv nil vs a [] with
  | none => rfl
  | some q =>
    have := h1.2 q e
    match q, this with
    | [v], _ => rfl
/-- a law: its ifs, each with what is less, than what, then what; and the last word -/
def lwV (dv : Int → Int → Int) (nil : Int → Bool) (lt : Int → Int → Bool) (vs : Nat → Int) : List (List CI × List CI × List CI) → List CI → Int
  | [], x => (evV dv nil vs x).getD 0
  | b :: r, x => match evV dv nil vs b.1, evV dv nil vs b.2.1 with
    | some u, some v => if lt u v then (evV dv nil vs b.2.2).getD 0 else lwV dv nil lt vs r x
    | _, _ => 0
end PQf
