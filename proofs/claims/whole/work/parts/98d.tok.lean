/-! ===== the tokens of a text ===== -/
def isBl (c : Nat) : Bool := c == 9 || c == 10 || c == 13 || c == 32
def isLe (c : Nat) : Bool := decide (97 ≤ c) && decide (c ≤ 122)
def isDi (c : Nat) : Bool := decide (48 ≤ c) && decide (c ≤ 57)
def rnN (B : Nat → Nat) (P : Nat → Bool) : Nat → Nat → Nat
  | 0, i => i
  | f + 1, i => if P (B i) then rnN B P f (i + 1) else i
/-- the end of a run -/
def rn (B : Nat → Nat) (P : Nat → Bool) (i : Nat) : Nat := rnN B P 2001 i
def bOK (B : Nat → Nat) (tl : Nat) : Prop := tl ≤ 2000 ∧ (∀ i, tl ≤ i → B i = 0) ∧ ∀ i, B i < 256
section RN
variable {B : Nat → Nat} {P : Nat → Bool} {tl : Nat}
theorem rnN_spec : ∀ (f i : Nat), i ≤ rnN B P f i ∧ (∀ j, i ≤ j → j < rnN B P f i → P (B j) = true) ∧ (P (B (rnN B P f i)) = false ∨ rnN B P f i = i + f)
  | 0, i => ⟨Nat.le_refl _, fun j h1 h2 => by rw [rnN] at h2; omega, Or.inr rfl⟩
  | f + 1, i => by
    rw [rnN]
    by_cases c : P (B i) = true
    · rw [if_pos c]
      obtain ⟨h1, h2, h3⟩ := rnN_spec f (i + 1)
      refine ⟨by omega, fun j j1 j2 => ?_, ?_⟩
      · by_cases e : j = i
        · rw [e]; exact c
        · exact h2 j (by omega) j2
      · rcases h3 with h3 | h3
        · exact Or.inl h3
        · exact Or.inr (by omega)
    · rw [if_neg c]
      refine ⟨Nat.le_refl _, fun j j1 j2 => by omega, Or.inl ?_⟩
      cases h : P (B i)
      · rfl
      · exact absurd h c
theorem rn_spec (hB : bOK B tl) (h0 : P 0 = false) (i : Nat) : i ≤ rn B P i ∧ (∀ j, i ≤ j → j < rn B P i → P (B j) = true) ∧ P (B (rn B P i)) = false ∧ (i ≤ tl → rn B P i ≤ tl) := by
  unfold rn
  obtain ⟨h1, h2, h3⟩ := rnN_spec (B := B) (P := P) 2001 i
  have ht := hB.1
  refine ⟨h1, h2, ?_, fun hi => ?_⟩
  · rcases h3 with h3 | h3
    · exact h3
    · exfalso
      have e := h2 (i + 2000) (by omega) (by omega)
      rw [hB.2.1 _ (by omega), h0] at e
      exact absurd e (by decide)
  · rcases Nat.lt_or_ge tl (rnN B P 2001 i) with c | c
    · exfalso
      have e := h2 tl hi c
      rw [hB.2.1 _ (Nat.le_refl _), h0] at e
      exact absurd e (by decide)
    · exact c
theorem rn_uniq (hB : bOK B tl) (h0 : P 0 = false) {i r : Nat} (h1 : i ≤ r) (h2 : ∀ j, i ≤ j → j < r → P (B j) = true) (h3 : P (B r) = false) : rn B P i = r := by
  obtain ⟨a1, a2, a3, _⟩ := rn_spec hB h0 i
  rcases Nat.lt_trichotomy (rn B P i) r with c | c | c
  · have e := h2 _ a1 c
    rw [a3] at e; exact absurd e (by decide)
  · exact c
  · have e := a2 r h1 c
    rw [h3] at e; exact absurd e (by decide)
end RN
/-- the letters of a run -/
def sl (B : Nat → Nat) (q n : Nat) : List Nat := (List.range n).map (fun k => B (q + k))
theorem sl_len (B : Nat → Nat) (q n : Nat) : (sl B q n).length = n := by unfold sl; rw [List.length_map, List.length_range]
theorem sl_getD (B : Nat → Nat) (q n j : Nat) : (sl B q n).getD j 32 = if j < n then B (q + j) else 32 := by
  unfold sl
  rw [List.getD_eq_getElem?_getD, List.getElem?_map]
  by_cases c : j < n
  · rw [if_pos c, List.getElem?_range c]; rfl
  · rw [if_neg c, List.getElem?_eq_none (by rw [List.length_range]; omega)]; rfl
theorem sl_mem {B : Nat → Nat} {q n x : Nat} (h : x ∈ sl B q n) : ∃ k, k < n ∧ x = B (q + k) := by
  unfold sl at h
  rw [List.mem_map] at h
  obtain ⟨k, h1, h2⟩ := h
  exact ⟨k, List.mem_range.mp h1, h2.symm⟩
theorem sl_succ (B : Nat → Nat) (q n : Nat) : sl B q (n + 1) = sl B q n ++ [B (q + n)] := by
  unfold sl
  rw [List.range_succ, List.map_append]; rfl
theorem ls_eq {a b : List Nat} (ha : a.length ≤ 8) (hb : b.length ≤ 8) (na : ∀ x, x ∈ a → x ≠ 32) (nb : ∀ x, x ∈ b → x ≠ 32) (h : ∀ j, j < 8 → a.getD j 32 = b.getD j 32) : a = b := by
  apply List.ext_getElem?
  intro j
  by_cases c : j < 8
  · have e := h j c
    rw [List.getD_eq_getElem?_getD, List.getD_eq_getElem?_getD] at e
    cases x : a[j]? with
    | none =>
      cases y : b[j]? with
      | none => rfl
      | some v =>
        rw [x, y] at e
        exact absurd e.symm (nb v (List.mem_of_getElem? y))
    | some u =>
      cases y : b[j]? with
      | none =>
        rw [x, y] at e
        exact absurd e (na u (List.mem_of_getElem? x))
      | some v =>
        rw [x, y] at e
        exact congrArg some e
  · rw [List.getElem?_eq_none (by omega), List.getElem?_eq_none (by omega)]
theorem key_inj : ∀ k, k < 19 → ∀ k', k' < 19 → keyL.getD k [] = keyL.getD k' [] → k = k' := by decide +kernel
theorem key_len : ∀ k, k < 19 → (keyL.getD k []).length ≤ 7 ∧ (keyL.getD k []).all (fun x => decide (97 ≤ x) && decide (x ≤ 122)) = true := by decide +kernel
theorem key_mem {k x : Nat} (hk : k < 19) (h : x ∈ keyL.getD k []) : 97 ≤ x ∧ x ≤ 122 := by
  have e := List.all_eq_true.mp (key_len k hk).2 x h
  simp only [Bool.and_eq_true, decide_eq_true_eq] at e
  exact e
theorem sb_eq : ∀ k : Nat, k < 19 → ∀ j : Nat, j < 8 → jm_sb 0 (((8 * k : Nat) : Int) + (j : Int)) = some (((keyL.getD k []).getD j 32 : Nat) : Int) := by decide +kernel
/-- the kind of a word -/
def wKd (s : List Nat) : Nat := match (List.range 19).find? (fun k => keyL.getD k [] == s) with
  | some k => 20 + k
  | none => 2
theorem wKd_some {s : List Nat} {k : Nat} (hk : k < 19) (h : keyL.getD k [] = s) : wKd s = 20 + k := by
  unfold wKd
  cases e : (List.range 19).find? (fun k => keyL.getD k [] == s) with
  | none =>
    exfalso
    have := List.find?_eq_none.mp e k (List.mem_range.mpr hk)
    exact this (by rw [h]; exact beq_self_eq_true s)
  | some k' =>
    have e1 := List.find?_some e
    have e2 := List.mem_range.mp (List.mem_of_find?_eq_some e)
    have e3 : keyL.getD k' [] = s := eq_of_beq e1
    rw [key_inj k hk k' e2 (h.trans e3.symm)]
theorem wKd_none {s : List Nat} (h : ∀ k, k < 19 → keyL.getD k [] ≠ s) : wKd s = 2 := by
  unfold wKd
  rw [List.find?_eq_none.mpr (fun k hk q => h k (List.mem_range.mp hk) (eq_of_beq q))]
/-- the kind of a sign -/
def sgK (c : Nat) : Nat := if c = 59 then 10 else if c = 61 then 11 else if c = 43 then 12 else if c = 45 then 13 else if c = 42 then 14 else if c = 47 then 15 else if c = 60 then 16 else if c = 40 then 17 else if c = 41 then 18 else 1
theorem six_eq : ∀ c : Nat, c < 256 → (jd_wr (jm_six 1 (jd_c (c : Int))) < 0 ∧ sgK c = 1) ∨ (¬ jd_wr (jm_six 1 (jd_c (c : Int))) < 0 ∧ 10 + jm_six 1 (jd_c (c : Int)) = (sgK c : Int)) := by decide +kernel
/-- the number of a run of digits -/
def dgV (B : Nat → Nat) (q : Nat) : Nat → Int
  | 0 => 0
  | n + 1 => dgV B q n * 10 + (B (q + n) : Int) - 48
theorem dgV_rng {B : Nat → Nat} {q : Nat} : ∀ {n : Nat}, n ≤ 4 → (∀ j, j < n → isDi (B (q + j)) = true) → 0 ≤ dgV B q n ∧ dgV B q n < 10 ^ n
  | 0, _, _ => ⟨Int.le_refl 0, by show (0 : Int) < 10 ^ 0; decide⟩
  | n + 1, h, hd => by
    obtain ⟨h1, h2⟩ := dgV_rng (n := n) (by omega) (fun j hj => hd j (by omega))
    have h3 := hd n (by omega)
    unfold isDi at h3
    simp only [Bool.and_eq_true, decide_eq_true_eq] at h3
    rw [dgV]
    have e : (10 : Int) ^ (n + 1) = 10 ^ n * 10 := Int.pow_succ 10 n
    rw [e]
    omega
section TK
variable (B : Nat → Nat) (tl : Nat)
def tkK (q : Nat) : Nat := if tl ≤ q then 0 else if isLe (B q) then (if 8 < rn B isLe q - q then 1 else wKd (sl B q (rn B isLe q - q))) else if isDi (B q) then (if 4 < rn B isDi q - q then 1 else 3) else sgK (B q)
def tkE (q : Nat) : Nat := if tl ≤ q then q else if isLe (B q) then rn B isLe q else if isDi (B q) then rn B isDi q else q + 1
def tkV (q : Nat) : Int := dgV B q (rn B isDi q - q)
/-- where token i begins -/
def tps : Nat → Nat
  | 0 => rn B isBl 0
  | i + 1 => rn B isBl (tkE B tl (tps i))
def tK (i : Nat) : Nat := tkK B tl (tps B tl i)
def tV (i : Nat) : Int := tkV B (tps B tl i)
variable {B tl}
theorem tps_le (hB : bOK B tl) : ∀ i, tps B tl i ≤ tl
  | 0 => (rn_spec hB (P := isBl) rfl 0).2.2.2 (Nat.zero_le _)
  | i + 1 => by
    have ih := tps_le hB i
    rw [tps]
    refine (rn_spec hB (P := isBl) rfl _).2.2.2 ?_
    unfold tkE
    by_cases c : tl ≤ tps B tl i
    · rw [if_pos c]; exact ih
    · rw [if_neg c]
      by_cases c2 : isLe (B (tps B tl i)) = true
      · rw [if_pos c2]; exact (rn_spec hB (P := isLe) rfl _).2.2.2 ih
      · rw [if_neg c2]
        by_cases c3 : isDi (B (tps B tl i)) = true
        · rw [if_pos c3]; exact (rn_spec hB (P := isDi) rfl _).2.2.2 ih
        · rw [if_neg c3]; omega
theorem tps_mono (hB : bOK B tl) (i : Nat) : tps B tl i ≤ tps B tl (i + 1) := by
  rw [tps]
  have h1 := (rn_spec hB (P := isBl) rfl (tkE B tl (tps B tl i))).1
  have h2 : tps B tl i ≤ tkE B tl (tps B tl i) := by
    unfold tkE
    by_cases c : tl ≤ tps B tl i
    · rw [if_pos c]; exact Nat.le_refl _
    · rw [if_neg c]
      by_cases c2 : isLe (B (tps B tl i)) = true
      · rw [if_pos c2]; exact (rn_spec hB (P := isLe) rfl _).1
      · rw [if_neg c2]
        by_cases c3 : isDi (B (tps B tl i)) = true
        · rw [if_pos c3]; exact (rn_spec hB (P := isDi) rfl _).1
        · rw [if_neg c3]; omega
  omega
theorem tps_mono2 (hB : bOK B tl) {i j : Nat} (h : i ≤ j) : tps B tl i ≤ tps B tl j := by
  induction h with
  | refl => exact Nat.le_refl _
  | step _ ih => exact Nat.le_trans ih (tps_mono hB _)
theorem wKd_ge (s : List Nat) : wKd s = 2 ∨ (20 ≤ wKd s ∧ wKd s < 39) := by
  unfold wKd
  cases e : (List.range 19).find? (fun k => keyL.getD k [] == s) with
  | none => exact Or.inl rfl
  | some k =>
    have := List.mem_range.mp (List.mem_of_find?_eq_some e)
    exact Or.inr ⟨by show 20 ≤ 20 + k; omega, by show 20 + k < 39; omega⟩
theorem sgK_ge (c : Nat) : sgK c = 1 ∨ (10 ≤ sgK c ∧ sgK c < 19) := by
  unfold sgK
  repeat' split
  all_goals omega
theorem tkK_END {q : Nat} : tkK B tl q = 0 ↔ tl ≤ q := by
  unfold tkK
  by_cases c : tl ≤ q
  · rw [if_pos c]; exact ⟨fun _ => c, fun _ => rfl⟩
  · rw [if_neg c]
    refine ⟨fun h => ?_, fun h => absurd h c⟩
    exfalso
    have h1 := wKd_ge (sl B q (rn B isLe q - q))
    have h2 := sgK_ge (B q)
    repeat' split at h
    all_goals omega
theorem tkK_INT (hB : bOK B tl) {q : Nat} (h : tkK B tl q = 3) : 0 ≤ tkV B q ∧ tkV B q ≤ 9999 := by
  unfold tkK at h
  have h1 := wKd_ge (sl B q (rn B isLe q - q))
  have h2 := sgK_ge (B q)
  by_cases c : tl ≤ q
  · rw [if_pos c] at h; omega
  · rw [if_neg c] at h
    by_cases c2 : isLe (B q) = true
    · rw [if_pos c2] at h
      split at h
      all_goals omega
    · rw [if_neg c2] at h
      by_cases c3 : isDi (B q) = true
      · rw [if_pos c3] at h
        obtain ⟨a1, a2, a3, a4⟩ := rn_spec hB (P := isDi) rfl q
        by_cases c4 : 4 < rn B isDi q - q
        · rw [if_pos c4] at h; omega
        · unfold tkV
          obtain ⟨b1, b2⟩ := dgV_rng (B := B) (q := q) (n := rn B isDi q - q) (by omega) (fun j hj => a2 _ (by omega) (by omega))
          refine ⟨b1, ?_⟩
          have b3 : ∀ n, n ≤ 4 → (10 : Int) ^ n ≤ 10000 := by decide
          have b4 := b3 (rn B isDi q - q) (by omega)
          omega
      · rw [if_neg c3] at h; omega
end TK
