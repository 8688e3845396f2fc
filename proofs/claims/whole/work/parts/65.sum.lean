/-! ===== a sum, read in two ways ===== -/
/-- one step of a code: 0 and a number, 1 and a variable, or a sign -/
abbrev CI := Nat × Int
def cNum (v : Int) : CI := (0, v)
def cVar (k : Nat) : CI := (1, (k : Int))
def cOp (s : Nat) : CI := (s, 0)
abbrev PR := Except (Nat × Nat) (Nat × List CI)
def pfl (c q : Nat) : PR := Except.error (c, q)
def okr (t : Nat) (cs : List CI) : PR := Except.ok (t, cs)
theorem fl_inj {c q c' q' : Nat} (h : pfl c q = pfl c' q') : c = c' ∧ q = q' := by
  unfold pfl at h
  injection h with h
  injection h with h1 h2
  exact ⟨h1, h2⟩
theorem okr_inj {t t' : Nat} {cs cs' : List CI} (h : okr t cs = okr t' cs') : t = t' ∧ cs = cs' := by
  unfold okr at h
  injection h with h
  injection h with h1 h2
  exact ⟨h1, h2⟩
theorem okr_fl {t c q : Nat} {cs : List CI} (h : okr t cs = pfl c q) : False := by unfold okr pfl at h; cases h
theorem fl_okr {t c q : Nat} {cs : List CI} (h : pfl c q = okr t cs) : False := by unfold okr pfl at h; cases h
/-- go on behind what was read -/
def andT (r : PR) (g : Nat → List CI → PR) : PR := match r with
  | .error e => .error e
  | .ok z => g z.1 z.2
theorem andT_fl (c q : Nat) (g : Nat → List CI → PR) : andT (pfl c q) g = pfl c q := rfl
theorem andT_ok (t : Nat) (cs : List CI) (g : Nat → List CI → PR) : andT (okr t cs) g = g t cs := rfl
theorem pr_cases (r : PR) : (∃ c q, r = pfl c q) ∨ (∃ t cs, r = okr t cs) := by
  cases r with
  | error e => exact Or.inl ⟨e.1, e.2, rfl⟩
  | ok z => exact Or.inr ⟨z.1, z.2, rfl⟩
section PP
variable (K : Nat → Nat) (V : Nat → Int)
/-- a part of the grammar between others: rs reads a sum in brackets, rm: is there room for one -/
def unitR (rm : Bool) (rs : Nat → PR) (t : Nat) : PR :=
  if K t = 3 then (if t < 400 then okr (t + 1) [cNum (V t)] else pfl 2 t)
  else if 30 ≤ K t ∧ K t ≤ 38 then (if t < 400 then okr (t + 1) [cVar (K t - 30)] else pfl 2 t)
  else if K t = 17 then (if rm = true ∧ t < 400 then andT (rs (t + 1)) (fun t2 cs => if K t2 = 18 then (if t2 < 400 then okr (t2 + 1) cs else pfl 2 t2) else pfl 1 t2) else pfl 2 t)
  else pfl 1 t
def loopR (isop : Nat → Bool) (next : Nat → PR) : Nat → Nat → List CI → PR
  | 0, t, cs => okr t cs
  | f + 1, t, cs => if isop (K t) then (if t < 400 then andT (next (t + 1)) (fun t2 cs2 => loopR isop next f t2 (cs ++ cs2 ++ [cOp (K t)])) else pfl 2 t) else okr t cs
def isMul (k : Nat) : Bool := k == 14 || k == 15
def isAdd (k : Nat) : Bool := k == 12 || k == 13
def partR (rm : Bool) (rs : Nat → PR) (t : Nat) : PR := andT (unitR K V rm rs t) (fun t2 cs => loopR K isMul (unitR K V rm rs) 401 t2 cs)
def sumR (rm : Bool) (rs : Nat → PR) (t : Nat) : PR := andT (partR K V rm rs t) (fun t2 cs => loopR K isAdd (partR K V rm rs) 401 t2 cs)
/-- d more brackets have room -/
def sumD : Nat → Nat → PR
  | 0, t => sumR K V false (fun q => pfl 0 q) t
  | d + 1, t => sumR K V true (sumD d) t
/-- the other way: signs wait on a pile -/
def popO (strong : Bool) : List Nat → List CI → List Nat × List CI
  | [], C => ([], C)
  | s :: S, C => if s = 17 ∨ (strong = true ∧ isAdd s = true) then (s :: S, C) else popO strong S (C ++ [cOp s])
/-- true: a unit is due; false: a unit has been read -/
def mach : Nat → Bool → List Nat → Nat → List CI → Nat → PR
  | 0, _, _, _, _, _ => pfl 0 0
  | f + 1, true, S, o, C, t =>
    if K t = 17 then (if o = 6 then pfl 2 t else if t < 400 then mach f true (17 :: S) (o + 1) C (t + 1) else pfl 2 t)
    else if K t = 3 then (if t < 400 then mach f false S o (C ++ [cNum (V t)]) (t + 1) else pfl 2 t)
    else if 30 ≤ K t ∧ K t ≤ 38 then (if t < 400 then mach f false S o (C ++ [cVar (K t - 30)]) (t + 1) else pfl 2 t)
    else pfl 1 t
  | f + 1, false, S, o, C, t =>
    if K t = 18 ∧ 0 < o then (if t < 400 then mach f false (popO false S C).1.tail (o - 1) (popO false S C).2 (t + 1) else pfl 2 t)
    else if isAdd (K t) || isMul (K t) then (if t < 400 then mach f true (K t :: (popO (isMul (K t)) S C).1) o (popO (isMul (K t)) S C).2 (t + 1) else pfl 2 t)
    else if 0 < o then pfl 1 t else okr t (popO false S C).2
/-- from one state to another, or to a fault -/
def reach (S : List Nat) (o : Nat) (md : Bool) (t : Nat) (Q : List CI → Nat → PR → Prop) : Prop := ∃ m, ∀ f C, Q C f (mach K V (f + m) md S o C t)
theorem popO_flush {strong : Bool} : ∀ {pend S : List Nat} {C : List CI}, (∀ s, s ∈ pend → s ≠ 17 ∧ (strong = true → isAdd s = false)) → popO strong (pend ++ S) C = popO strong S (C ++ pend.map cOp)
  | [], S, C, _ => by simp
  | s :: pend, S, C, h => by
    have h1 := h s (by simp)
    rw [List.cons_append, popO, if_neg (by
      rintro (q | ⟨q1, q2⟩)
      · exact h1.1 q
      · rw [h1.2 q1] at q2; cases q2), popO_flush (fun x hx => h x (by simp [hx]))]
    simp
/-- a pile at which signs of the kind stop -/
def stop (strong : Bool) (S : List Nat) : Prop := ∀ C, popO strong S C = (S, C)
theorem stop_nil (b : Bool) : stop b [] := fun _ => rfl
theorem stop_17 (b : Bool) (S : List Nat) : stop b (17 :: S) := fun _ => by rw [popO, if_pos (Or.inl rfl)]
theorem stop_add {S : List Nat} {s : Nat} (h : isAdd s = true) : stop true (s :: S) := fun _ => by rw [popO, if_pos (Or.inr ⟨rfl, h⟩)]
theorem stop_tt {S : List Nat} (h : stop false S) : stop true S := by
  cases S with
  | nil => exact stop_nil true
  | cons s S =>
    intro C
    have h1 := h C
    rw [popO] at h1
    by_cases z : s = 17
    · subst z; exact stop_17 true S C
    · rw [if_neg (by rintro (q | ⟨q, _⟩); exact z q; cases q)] at h1
      exfalso
      have h2 : (popO false S (C ++ [cOp s])).1.length ≤ S.length := by
        clear h h1
        generalize C ++ [cOp s] = D
        induction S generalizing D with
        | nil => simp [popO]
        | cons a S ih =>
          rw [popO]
          split
          · simp
          · have := ih (D ++ [cOp a]); simp; omega
      rw [h1] at h2
      simp at h2
      omega
/-- what a reader of a unit and the machine have in common -/
def uSim (o : Nat) (next : Nat → PR) : Prop := ∀ t, (∀ c q, next t = pfl c q → ∀ S, ∃ m, ∀ f C, mach K V (f + m) true S o C t = pfl c q) ∧ (∀ t' cs, next t = okr t' cs → t < t' ∧ t' ≤ 400 ∧ ∀ S, ∃ m, ∀ f C, mach K V (f + m) true S o C t = mach K V f false S o (C ++ cs) t')
def pSim (o : Nat) (next : Nat → PR) : Prop := ∀ t, (∀ c q, next t = pfl c q → ∀ S, stop true S → ∃ m, ∀ f C, mach K V (f + m) true S o C t = pfl c q) ∧ (∀ t' cs, next t = okr t' cs → t < t' ∧ t' ≤ 400 ∧ isMul (K t') = false ∧ ∃ pend cs', (∀ s, s ∈ pend → isMul s = true) ∧ cs = cs' ++ pend.map cOp ∧ ∀ S, stop true S → ∃ m, ∀ f C, mach K V (f + m) true S o C t = mach K V f false (pend ++ S) o (C ++ cs') t')
def sSim (o : Nat) (next : Nat → PR) : Prop := ∀ t, (∀ c q, next t = pfl c q → ∀ S, stop false S → ∃ m, ∀ f C, mach K V (f + m) true S o C t = pfl c q) ∧ (∀ t' cs, next t = okr t' cs → t < t' ∧ t' ≤ 400 ∧ isMul (K t') = false ∧ isAdd (K t') = false ∧ ∃ pend cs', (∀ s, s ∈ pend → s ≠ 17) ∧ cs = cs' ++ pend.map cOp ∧ ∀ S, stop false S → ∃ m, ∀ f C, mach K V (f + m) true S o C t = mach K V f false (pend ++ S) o (C ++ cs') t')
variable {K V}
theorem mul_ne {s : Nat} (h : isMul s = true) : s ≠ 17 ∧ s ≠ 18 ∧ isAdd s = false := by
  simp [isMul] at h; rcases h with rfl | rfl <;> decide
theorem add_ne {s : Nat} (h : isAdd s = true) : s ≠ 17 ∧ s ≠ 18 ∧ isMul s = false := by
  simp [isAdd] at h; rcases h with rfl | rfl <;> decide
theorem loop_mul {o : Nat} {next : Nat → PR} (hu : uSim K V o next) : ∀ {f0 t : Nat} {cs : List CI}, t ≤ 400 → 401 ≤ f0 + t → ∀ (pend : List Nat) (cs1 : List CI), (∀ s, s ∈ pend → isMul s = true) → cs = cs1 ++ pend.map cOp → (∀ c q, loopR K isMul next f0 t cs = pfl c q → ∀ S, stop true S → ∃ m, ∀ f C, mach K V (f + m) false (pend ++ S) o (C ++ cs1) t = pfl c q) ∧ (∀ t' cs', loopR K isMul next f0 t cs = okr t' cs' → t ≤ t' ∧ t' ≤ 400 ∧ isMul (K t') = false ∧ ∃ pend' cs2, (∀ s, s ∈ pend' → isMul s = true) ∧ cs' = cs2 ++ pend'.map cOp ∧ ∀ S, stop true S → ∃ m, ∀ f C, mach K V (f + m) false (pend ++ S) o (C ++ cs1) t = mach K V f false (pend' ++ S) o (C ++ cs2) t')
  | 0, t, cs, h1, h2, pend, cs1, hp, he => by omega
  | f0 + 1, t, cs, h1, h2, pend, cs1, hp, he => by
    rw [loopR]
    by_cases z : isMul (K t) = true
    · rw [if_pos z]
      have hz := mul_ne z
      -- the machine's step
      have step : ∀ S, stop true S → ∀ f C, mach K V (f + 1) false (pend ++ S) o (C ++ cs1) t = if t < 400 then mach K V f true (K t :: S) o (C ++ cs) (t + 1) else pfl 2 t := by
        intro S hS f C
        have hpop : popO true (pend ++ S) (C ++ cs1) = (S, C ++ cs) := by
          rw [popO_flush (fun s hs => ⟨(mul_ne (hp s hs)).1, fun _ => (mul_ne (hp s hs)).2.2⟩), hS, he, List.append_assoc]
        rw [mach, if_neg (fun q => hz.2.1 q.1), if_pos (by rw [z]; simp), z, hpop]
      by_cases zt : t < 400
      · rw [if_pos zt]
        have hn := hu (t + 1)
        rcases pr_cases (next (t + 1)) with ⟨c, q, hr⟩ | ⟨t2, cs2, hr⟩
        · rw [hr, andT_fl]
          refine ⟨fun c' q' e S hS => ?_, fun t' cs' e => absurd e (fun z => fl_okr z)⟩
          obtain ⟨m, hm⟩ := hn.1 c q hr (K t :: S)
          refine ⟨m + 1, fun f C => ?_⟩
          rw [show f + (m + 1) = (f + m) + 1 by omega, step S hS, if_pos zt, hm]
          exact e
        · rw [hr, andT_ok]
          obtain ⟨g1, g2, g3⟩ := hn.2 t2 cs2 hr
          have ih := loop_mul hu (f0 := f0) (t := t2) (cs := cs ++ cs2 ++ [cOp (K t)]) g2 (by omega) [K t] (cs ++ cs2) (by simp [z]) (by simp)
          refine ⟨fun c q e S hS => ?_, fun t' cs' e => ?_⟩
          · obtain ⟨m1, hm1⟩ := g3 (K t :: S)
            obtain ⟨m2, hm2⟩ := ih.1 c q e S hS
            refine ⟨m2 + m1 + 1, fun f C => ?_⟩
            rw [show f + (m2 + m1 + 1) = (f + m2 + m1) + 1 by omega, step S hS, if_pos zt, hm1, List.append_assoc]
            exact hm2 f C
          · obtain ⟨i1, i2, i3, pend', cs3, i4, i5, i6⟩ := ih.2 t' cs' e
            refine ⟨by omega, i2, i3, pend', cs3, i4, i5, fun S hS => ?_⟩
            obtain ⟨m1, hm1⟩ := g3 (K t :: S)
            obtain ⟨m2, hm2⟩ := i6 S hS
            refine ⟨m2 + m1 + 1, fun f C => ?_⟩
            rw [show f + (m2 + m1 + 1) = (f + m2 + m1) + 1 by omega, step S hS, if_pos zt, hm1, List.append_assoc]
            exact hm2 f C
      · rw [if_neg zt]
        refine ⟨fun c q e S hS => ⟨1, fun f C => ?_⟩, fun t' cs' e => absurd e (fun z => fl_okr z)⟩
        rw [step S hS, if_neg zt]; exact e
    · rw [if_neg z]
      refine ⟨fun c q e => absurd e (fun z => okr_fl z), fun t' cs' e => ?_⟩
      obtain ⟨e1, e2⟩ := okr_inj e
      subst e1; subst e2
      exact ⟨Nat.le_refl t, h1, by simpa using z, pend, cs1, hp, he, fun S hS => ⟨0, fun f C => rfl⟩⟩
theorem part_sim {o : Nat} {rm : Bool} {rs : Nat → PR} (hu : uSim K V o (unitR K V rm rs)) : pSim K V o (partR K V rm rs) := by
  intro t
  have h0 := hu t
  unfold partR
  rcases pr_cases (unitR K V rm rs t) with ⟨c, q, hr⟩ | ⟨t2, cs, hr⟩
  · rw [hr, andT_fl]
    exact ⟨fun c' q' e S _ => by obtain ⟨e1, e2⟩ := fl_inj e; subst e1; subst e2; exact h0.1 c q hr S, fun t' cs' e => absurd e (fun z => fl_okr z)⟩
  · rw [hr, andT_ok]
    obtain ⟨g1, g2, g3⟩ := h0.2 t2 cs hr
    have L := loop_mul hu (f0 := 401) (t := t2) (cs := cs) g2 (by omega) [] cs (by simp) (by simp)
    refine ⟨fun c q e S hS => ?_, fun t' cs' e => ?_⟩
    · obtain ⟨m1, hm1⟩ := g3 S
      obtain ⟨m2, hm2⟩ := L.1 c q e S hS
      refine ⟨m2 + m1, fun f C => ?_⟩
      rw [← Nat.add_assoc, hm1]
      exact hm2 f C
    · obtain ⟨i1, i2, i3, pend', cs3, i4, i5, i6⟩ := L.2 t' cs' e
      refine ⟨by omega, i2, i3, pend', cs3, i4, i5, fun S hS => ?_⟩
      obtain ⟨m1, hm1⟩ := g3 S
      obtain ⟨m2, hm2⟩ := i6 S hS
      refine ⟨m2 + m1, fun f C => ?_⟩
      rw [← Nat.add_assoc, hm1]
      exact hm2 f C
theorem loop_add {o : Nat} {next : Nat → PR} (hu : pSim K V o next) : ∀ {f0 t : Nat} {cs : List CI}, t ≤ 400 → isMul (K t) = false → 401 ≤ f0 + t → ∀ (pend : List Nat) (cs1 : List CI), (∀ s, s ∈ pend → s ≠ 17) → cs = cs1 ++ pend.map cOp → (∀ c q, loopR K isAdd next f0 t cs = pfl c q → ∀ S, stop false S → ∃ m, ∀ f C, mach K V (f + m) false (pend ++ S) o (C ++ cs1) t = pfl c q) ∧ (∀ t' cs', loopR K isAdd next f0 t cs = okr t' cs' → t ≤ t' ∧ t' ≤ 400 ∧ isMul (K t') = false ∧ isAdd (K t') = false ∧ ∃ pend' cs2, (∀ s, s ∈ pend' → s ≠ 17) ∧ cs' = cs2 ++ pend'.map cOp ∧ ∀ S, stop false S → ∃ m, ∀ f C, mach K V (f + m) false (pend ++ S) o (C ++ cs1) t = mach K V f false (pend' ++ S) o (C ++ cs2) t')
  | 0, t, cs, h1, h0, h2, pend, cs1, hp, he => by omega
  | f0 + 1, t, cs, h1, h0, h2, pend, cs1, hp, he => by
    rw [loopR]
    by_cases z : isAdd (K t) = true
    · rw [if_pos z]
      have hz := add_ne z
      have step : ∀ S, stop false S → ∀ f C, mach K V (f + 1) false (pend ++ S) o (C ++ cs1) t = if t < 400 then mach K V f true (K t :: S) o (C ++ cs) (t + 1) else pfl 2 t := by
        intro S hS f C
        have hpop : popO false (pend ++ S) (C ++ cs1) = (S, C ++ cs) := by
          rw [popO_flush (fun s hs => ⟨hp s hs, fun q => by cases q⟩), hS, he, List.append_assoc]
        rw [mach, if_neg (fun q => hz.2.1 q.1), if_pos (by rw [z]; simp), hz.2.2, hpop]
      by_cases zt : t < 400
      · rw [if_pos zt]
        have hn := hu (t + 1)
        rcases pr_cases (next (t + 1)) with ⟨c, q, hr⟩ | ⟨t2, cs2, hr⟩
        · rw [hr, andT_fl]
          refine ⟨fun c' q' e S hS => ?_, fun t' cs' e => absurd e (fun z => fl_okr z)⟩
          obtain ⟨m, hm⟩ := hn.1 c q hr (K t :: S) (stop_add z)
          refine ⟨m + 1, fun f C => ?_⟩
          rw [show f + (m + 1) = (f + m) + 1 by omega, step S hS, if_pos zt, hm]
          exact e
        · rw [hr, andT_ok]
          obtain ⟨g1, g2, g0, pp, c2, p1, p2, g3⟩ := hn.2 t2 cs2 hr
          have ih := loop_add hu (f0 := f0) (t := t2) (cs := cs ++ cs2 ++ [cOp (K t)]) g2 g0 (by omega) (pp ++ [K t]) (cs ++ c2) (by
            intro s hs
            rw [List.mem_append, List.mem_singleton] at hs
            rcases hs with hs | rfl
            · exact (mul_ne (p1 s hs)).1
            · exact hz.1) (by rw [p2]; simp)
          refine ⟨fun c q e S hS => ?_, fun t' cs' e => ?_⟩
          · obtain ⟨m1, hm1⟩ := g3 (K t :: S) (stop_add z)
            obtain ⟨m2, hm2⟩ := ih.1 c q e S hS
            refine ⟨m2 + m1 + 1, fun f C => ?_⟩
            rw [show f + (m2 + m1 + 1) = (f + m2 + m1) + 1 by omega, step S hS, if_pos zt, hm1, List.append_assoc]
            have := hm2 f C
            rw [List.append_assoc, List.singleton_append] at this
            exact this
          · obtain ⟨i1, i2, i3, i3', pend', cs3, i4, i5, i6⟩ := ih.2 t' cs' e
            refine ⟨by omega, i2, i3, i3', pend', cs3, i4, i5, fun S hS => ?_⟩
            obtain ⟨m1, hm1⟩ := g3 (K t :: S) (stop_add z)
            obtain ⟨m2, hm2⟩ := i6 S hS
            refine ⟨m2 + m1 + 1, fun f C => ?_⟩
            rw [show f + (m2 + m1 + 1) = (f + m2 + m1) + 1 by omega, step S hS, if_pos zt, hm1, List.append_assoc]
            have := hm2 f C
            rw [List.append_assoc, List.singleton_append] at this
            exact this
      · rw [if_neg zt]
        refine ⟨fun c q e S hS => ⟨1, fun f C => ?_⟩, fun t' cs' e => absurd e (fun z => fl_okr z)⟩
        rw [step S hS, if_neg zt]; exact e
    · rw [if_neg z]
      refine ⟨fun c q e => absurd e (fun z => okr_fl z), fun t' cs' e => ?_⟩
      obtain ⟨e1, e2⟩ := okr_inj e
      subst e1; subst e2
      exact ⟨Nat.le_refl t, h1, h0, by simpa using z, pend, cs1, hp, he, fun S hS => ⟨0, fun f C => rfl⟩⟩
theorem sum_sim {o : Nat} {rm : Bool} {rs : Nat → PR} (hu : uSim K V o (unitR K V rm rs)) : sSim K V o (sumR K V rm rs) := by
  intro t
  have h0 := part_sim hu t
  unfold sumR
  rcases pr_cases (partR K V rm rs t) with ⟨c, q, hr⟩ | ⟨t2, cs, hr⟩
  · rw [hr, andT_fl]
    exact ⟨fun c' q' e S hS => by obtain ⟨e1, e2⟩ := fl_inj e; subst e1; subst e2; exact h0.1 c q hr S (stop_tt hS), fun t' cs' e => absurd e (fun z => fl_okr z)⟩
  · rw [hr, andT_ok]
    obtain ⟨g1, g2, g0, pp, c2, p1, p2, g3⟩ := h0.2 t2 cs hr
    have L := loop_add (part_sim hu) (f0 := 401) (t := t2) (cs := cs) g2 g0 (by omega) pp c2 (fun s hs => (mul_ne (p1 s hs)).1) p2
    refine ⟨fun c q e S hS => ?_, fun t' cs' e => ?_⟩
    · obtain ⟨m1, hm1⟩ := g3 S (stop_tt hS)
      obtain ⟨m2, hm2⟩ := L.1 c q e S hS
      refine ⟨m2 + m1, fun f C => ?_⟩
      rw [← Nat.add_assoc, hm1]
      exact hm2 f C
    · obtain ⟨i1, i2, i3, i3', pend', cs3, i4, i5, i6⟩ := L.2 t' cs' e
      refine ⟨by omega, i2, i3, i3', pend', cs3, i4, i5, fun S hS => ?_⟩
      obtain ⟨m1, hm1⟩ := g3 S (stop_tt hS)
      obtain ⟨m2, hm2⟩ := i6 S hS
      refine ⟨m2 + m1, fun f C => ?_⟩
      rw [← Nat.add_assoc, hm1]
      exact hm2 f C
theorem unit_sim {o : Nat} {rm : Bool} {rs : Nat → PR} (ho : rm = true → o < 6) (ho' : rm = false → o = 6) (hs : rm = true → sSim K V (o + 1) rs) : uSim K V o (unitR K V rm rs) := by
  intro t
  unfold unitR
  by_cases k3 : K t = 3
  · rw [if_pos k3]
    have st : ∀ S f C, mach K V (f + 1) true S o C t = if t < 400 then mach K V f false S o (C ++ [cNum (V t)]) (t + 1) else pfl 2 t := by
      intro S f C; rw [mach, if_neg (by omega), if_pos k3]
    by_cases zt : t < 400
    · rw [if_pos zt]
      refine ⟨fun c q e => absurd e (fun z => okr_fl z), fun t' cs e => ?_⟩
      obtain ⟨e1, e2⟩ := okr_inj e
      subst e1; subst e2
      exact ⟨by omega, by omega, fun S => ⟨1, fun f C => by rw [st, if_pos zt]⟩⟩
    · rw [if_neg zt]
      exact ⟨fun c q e S => ⟨1, fun f C => by rw [st, if_neg zt]; exact e⟩, fun t' cs e => absurd e (fun z => fl_okr z)⟩
  · rw [if_neg k3]
    by_cases kv : 30 ≤ K t ∧ K t ≤ 38
    · rw [if_pos kv]
      have st : ∀ S f C, mach K V (f + 1) true S o C t = if t < 400 then mach K V f false S o (C ++ [cVar (K t - 30)]) (t + 1) else pfl 2 t := by
        intro S f C; rw [mach, if_neg (by omega), if_neg k3, if_pos kv]
      by_cases zt : t < 400
      · rw [if_pos zt]
        refine ⟨fun c q e => absurd e (fun z => okr_fl z), fun t' cs e => ?_⟩
        obtain ⟨e1, e2⟩ := okr_inj e
        subst e1; subst e2
        exact ⟨by omega, by omega, fun S => ⟨1, fun f C => by rw [st, if_pos zt]⟩⟩
      · rw [if_neg zt]
        exact ⟨fun c q e S => ⟨1, fun f C => by rw [st, if_neg zt]; exact e⟩, fun t' cs e => absurd e (fun z => fl_okr z)⟩
    · rw [if_neg kv]
      by_cases kp : K t = 17
      · rw [if_pos kp]
        have st : ∀ S f C, mach K V (f + 1) true S o C t = if o = 6 then pfl 2 t else if t < 400 then mach K V f true (17 :: S) (o + 1) C (t + 1) else pfl 2 t := by
          intro S f C; rw [mach, if_pos kp]
        by_cases zr : rm = true ∧ t < 400
        · rw [if_pos zr]
          have ho6 : ¬ o = 6 := by have := ho zr.1; omega
          have H := hs zr.1 (t + 1)
          rcases pr_cases (rs (t + 1)) with ⟨c, q, hr⟩ | ⟨t2, cs, hr⟩
          · rw [hr, andT_fl]
            refine ⟨fun c' q' e S => ?_, fun t' cs e => absurd e (fun z => fl_okr z)⟩
            obtain ⟨e1, e2⟩ := fl_inj e
            subst e1; subst e2
            obtain ⟨m, hm⟩ := H.1 c q hr (17 :: S) (stop_17 _ _)
            exact ⟨m + 1, fun f C => by rw [← Nat.add_assoc, st, if_neg ho6, if_pos zr.2, hm]⟩
          · rw [hr, andT_ok]
            obtain ⟨g1, g2, g0, g0', pend, c2, p1, p2, g3⟩ := H.2 t2 cs hr
            have st2 : ∀ S f C, mach K V (f + 1) false (pend ++ 17 :: S) (o + 1) (C ++ c2) t2 = if K t2 = 18 then (if t2 < 400 then mach K V f false S o (C ++ cs) (t2 + 1) else pfl 2 t2) else pfl 1 t2 := by
              intro S f C
              have hpop : popO false (pend ++ 17 :: S) (C ++ c2) = (17 :: S, C ++ cs) := by
                rw [popO_flush (fun s hs => ⟨p1 s hs, fun q => by cases q⟩), stop_17, p2, List.append_assoc]
              rw [mach, hpop]
              by_cases k18 : K t2 = 18
              · rw [if_pos ⟨k18, by omega⟩, if_pos k18]; rfl
              · rw [if_neg (fun q => k18 q.1), if_neg (by rw [g0, g0']; decide), if_pos (by omega), if_neg k18]
            by_cases k18 : K t2 = 18
            · rw [if_pos k18]
              by_cases zt2 : t2 < 400
              · rw [if_pos zt2]
                refine ⟨fun c q e => absurd e (fun z => okr_fl z), fun t' cs' e => ?_⟩
                obtain ⟨e1, e2⟩ := okr_inj e
                subst e1; subst e2
                refine ⟨by omega, by omega, fun S => ?_⟩
                obtain ⟨m, hm⟩ := g3 (17 :: S) (stop_17 _ _)
                refine ⟨1 + m + 1, fun f C => ?_⟩
                rw [show f + (1 + m + 1) = (f + 1 + m) + 1 by omega, st, if_neg ho6, if_pos zr.2, hm, st2, if_pos k18, if_pos zt2]
              · rw [if_neg zt2]
                refine ⟨fun c q e S => ?_, fun t' cs' e => absurd e (fun z => fl_okr z)⟩
                obtain ⟨m, hm⟩ := g3 (17 :: S) (stop_17 _ _)
                refine ⟨1 + m + 1, fun f C => ?_⟩
                rw [show f + (1 + m + 1) = (f + 1 + m) + 1 by omega, st, if_neg ho6, if_pos zr.2, hm, st2, if_pos k18, if_neg zt2]; exact e
            · rw [if_neg k18]
              refine ⟨fun c q e S => ?_, fun t' cs' e => absurd e (fun z => fl_okr z)⟩
              obtain ⟨m, hm⟩ := g3 (17 :: S) (stop_17 _ _)
              refine ⟨1 + m + 1, fun f C => ?_⟩
              rw [show f + (1 + m + 1) = (f + 1 + m) + 1 by omega, st, if_neg ho6, if_pos zr.2, hm, st2, if_neg k18]; exact e
        · rw [if_neg zr]
          refine ⟨fun c q e S => ⟨1, fun f C => ?_⟩, fun t' cs e => absurd e (fun z => fl_okr z)⟩
          rw [st]
          by_cases o6 : o = 6
          · rw [if_pos o6]; exact e
          · have : ¬ t < 400 := by
              intro zt
              cases rm with
              | true => exact zr ⟨rfl, zt⟩
              | false => exact o6 (ho' rfl)
            rw [if_neg o6, if_neg this]; exact e
      · rw [if_neg kp]
        refine ⟨fun c q e S => ⟨1, fun f C => ?_⟩, fun t' cs e => absurd e (fun z => fl_okr z)⟩
        rw [mach, if_neg kp, if_neg k3, if_neg kv]; exact e
theorem sumD_sim : ∀ (d : Nat), d ≤ 6 → sSim K V (6 - d) (sumD K V d)
  | 0, _ => by
    intro t
    exact sum_sim (unit_sim (by simp) (by simp) (by simp)) t
  | d + 1, h => by
    intro t
    exact sum_sim (unit_sim (by intro _; omega) (by simp) (fun _ => by
      have := sumD_sim d (by omega)
      rw [show 6 - (d + 1) + 1 = 6 - d by omega]
      exact this)) t
/-- both ways read alike -/
theorem mach_sum (t : Nat) : ∃ m, ∀ f, mach K V (f + m) true [] 0 [] t = sumD K V 6 t := by
  have H := sumD_sim (K := K) (V := V) 6 (Nat.le_refl 6) t
  rcases pr_cases (sumD K V 6 t) with ⟨c, q, hr⟩ | ⟨t', cs, hr⟩
  · rw [hr]
    obtain ⟨m, hm⟩ := H.1 c q hr [] (stop_nil _)
    exact ⟨m, fun f => hm f []⟩
  · rw [hr]
    obtain ⟨g1, g2, g0, g0', pend, c2, p1, p2, g3⟩ := H.2 t' cs hr
    obtain ⟨m, hm⟩ := g3 [] (stop_nil _)
    refine ⟨1 + m, fun f => ?_⟩
    rw [← Nat.add_assoc]
    have := hm (f + 1) []
    rw [show (6 : Nat) - 6 = 0 from rfl] at this
    rw [this, mach, if_neg (fun q => Nat.lt_irrefl 0 q.2), if_neg (by rw [g0, g0']; decide), if_neg (Nat.lt_irrefl 0), popO_flush (fun s hs => ⟨p1 s hs, fun q => by cases q⟩)]
    rw [stop_nil, p2]
    simp
end PP
