/-! ===== what lies covers; calls: lay ===== -/
def cvB (w : Nat) (ρ : Nat → Int) : Nat → Nat → Bool
  | 0, _ => false
  | m + 1, c => cvB w ρ m c || rAt w ρ (c : Int) m
theorem cvB_s (w : Nat) (ρ : Nat → Int) (m c : Nat) : cvB w ρ (m + 1) c = (cvB w ρ m c || rAt w ρ (c : Int) m) := rfl
theorem cvB_iff {w : Nat} {ρ : Nat → Int} {c : Nat} : ∀ {m : Nat}, cvB w ρ m c = true ↔ ∃ k, k < m ∧ rAt w ρ (c : Int) k = true
  | 0 => ⟨fun h => (by cases h), fun h => (by obtain ⟨k, hk, _⟩ := h; omega)⟩
  | m + 1 => by
    rw [cvB_s, Bool.or_eq_true, cvB_iff]
    constructor
    · rintro (⟨k, h1, h2⟩ | h)
      · exact ⟨k, by omega, h2⟩
      · exact ⟨m, by omega, h⟩
    · rintro ⟨k, h1, h2⟩
      by_cases e : k = m
      · subst e; exact Or.inr h2
      · exact Or.inl ⟨k, by omega, h2⟩
theorem cntB_le2 {p : Nat → Bool} {m n : Nat} (h : m ≤ n) : cntB p m ≤ cntB p n := by
  induction n with
  | zero => rw [show m = 0 by omega]; exact Nat.le_refl _
  | succ n ih =>
    by_cases e : m = n + 1
    · rw [e]; exact Nat.le_refl _
    · have := ih (by omega)
      rw [cntB]
      omega
theorem cntB_cut {p : Nat → Bool} {m n : Nat} (h : m ≤ n) (h0 : ∀ c, m ≤ c → c < n → p c = false) : cntB p n = cntB p m := by
  induction n with
  | zero => rw [show m = 0 by omega]
  | succ n ih =>
    by_cases e : m = n + 1
    · rw [e]
    · rw [cntB, h0 n (by omega) (by omega), ih (by omega) (fun c a b => h0 c a (by omega))]
      simp
theorem cntB_full {p : Nat → Bool} : ∀ {n : Nat}, cntB p n = n → ∀ c, c < n → p c = true
  | 0, _ => fun c hc => by omega
  | n + 1, h => fun c hc => by
    have hl := cntB_le p n
    rw [cntB] at h
    by_cases e : p n = true
    · rw [if_pos e] at h
      by_cases q : c = n
      · rw [q]; exact e
      · exact cntB_full (show cntB p n = n by omega) c (by omega)
    · rw [if_neg e] at h; omega
section CV
variable {w n h' : Nat} {ρ : Nat → Int} {hl : Nat → Bool}
theorem cv_36 (hw : 2 ≤ w ∧ w ≤ 6) (hn : n ≤ 36) (hnw : n = w * h') (hr : rOK w n hl ρ) : ∀ m, m ≤ 18 → cntB (cvB w ρ m) 36 = 2 * cntB (rLies ρ) m
  | 0, _ => by
    rw [cntB_0 (p := cvB w ρ 0) (fun j _ => rfl)]
    rfl
  | m + 1, hm => by
    have ih := cv_36 hw hn hnw hr m (by omega)
    rw [show cntB (rLies ρ) (m + 1) = cntB (rLies ρ) m + (if rLies ρ m then 1 else 0) from rfl]
    by_cases z : 0 ≤ ρ m
    · rw [if_pos (by unfold rLies; exact decide_eq_true z)]
      obtain ⟨_, b2, b3, _⟩ := (rOK_b hr hw hn hnw (show m < 18 by omega)).resolve_left (by omega)
      obtain ⟨a, ea⟩ : ∃ a : Nat, ρ m = (a : Int) := ⟨(ρ m).toNat, by omega⟩
      obtain ⟨b, eb⟩ : ∃ b : Nat, rOth w ρ m = (b : Int) := ⟨(rOth w ρ m).toNat, by omega⟩
      have out : ∀ c : Nat, rAt w ρ (c : Int) m = true → cvB w ρ m c = false := fun c hc => by
        rw [Bool.eq_false_iff]
        intro q
        obtain ⟨k, k1, k2⟩ := cvB_iff.mp q
        have := rOK_one hr (show k < 18 by omega) (show m < 18 by omega) k2 hc
        omega
      have ra : rAt w ρ (a : Int) m = true := rAt_iff.mpr ⟨z, Or.inl ea⟩
      have rb : rAt w ρ (b : Int) m = true := rAt_iff.mpr ⟨z, Or.inr eb⟩
      have s1 := cntB_up (p := cvB w ρ m) (q := fun c => cvB w ρ m c || decide (c = a)) (k := a) (out a ra) (by simp) (m := 36) (by omega) (fun j hj e => by simp [e])
      have s2 := cntB_up (p := fun c => cvB w ρ m c || decide (c = a)) (q := cvB w ρ (m + 1)) (k := b) (by rw [out b rb]; simp; omega) (by rw [cvB_s, rb, Bool.or_true]) (m := 36) (by omega) (fun j hj e => by
        rw [cvB_s]
        congr 1
        rw [Bool.eq_iff_iff, rAt_iff, decide_eq_true_eq, ea, eb]
        omega)
      omega
    · rw [if_neg (by unfold rLies; rw [decide_eq_false z]; decide)]
      have : cntB (cvB w ρ (m + 1)) 36 = cntB (cvB w ρ m) 36 := cntB_ext (fun j hj => by
        rw [cvB_s, show rAt w ρ (j : Int) m = false by
          rw [Bool.eq_false_iff]
          intro q
          exact z (rAt_iff.mp q).1, Bool.or_false])
      omega
theorem cv_n (hw : 2 ≤ w ∧ w ≤ 6) (hn : n ≤ 36) (hnw : n = w * h') (hr : rOK w n hl ρ) : cntB (cvB w ρ 18) n = 2 * rMany ρ := by
  have h1 := cv_36 hw hn hnw hr 18 (Nat.le_refl _)
  rw [cntB_cut hn (fun c c1 c2 => ?_)] at h1
  · exact h1
  · rw [Bool.eq_false_iff]
    intro q
    obtain ⟨k, k1, k2⟩ := cvB_iff.mp q
    rw [rAt_iff] at k2
    have b := rOK_b hr hw hn hnw k1
    omega
theorem cv_cpl {c : Nat} : cvB w ρ 18 c = (rCpl w ρ (c : Int)).isSome := by
  cases e : rCpl w ρ (c : Int) with
  | none =>
    show _ = false
    rw [Bool.eq_false_iff]
    intro q
    obtain ⟨k, k1, k2⟩ := cvB_iff.mp q
    rw [rCpl_not e k k1] at k2
    cases k2
  | some k =>
    exact cvB_iff.mpr ⟨k, (rCpl_sat e).1, (rCpl_sat e).2⟩
/-- where a cell is free a couple is left -/
theorem left_one (hw : 2 ≤ w ∧ w ≤ 6) (hn : n ≤ 36) (hnw : n = w * h') (hr : rOK w n hl ρ) {c : Nat} (hc : c < n) (h0 : rCpl w ρ (c : Int) = none) : ∃ k, fnd (fun k => !decide (0 ≤ ρ k)) 18 0 = some k ∧ k < 18 ∧ ρ k = -2 ∧ ∀ j, j < k → 0 ≤ ρ j := by
  cases e : fnd (fun k => !decide (0 ≤ ρ k)) 18 0 with
  | none =>
    exfalso
    have all := fnd_not e
    have h1 := cv_n hw hn hnw hr
    have h2 : rMany ρ = 18 := by
      unfold rMany
      have : ∀ m, m ≤ 18 → cntB (rLies ρ) m = m := by
        intro m
        induction m with
        | zero => intro _; rfl
        | succ m ih =>
          intro hm
          have q := all m (by omega) (by omega)
          have q2 : rLies ρ m = true := by unfold rLies; simpa using q
          rw [cntB, if_pos q2, ih (by omega)]
      exact this 18 (Nat.le_refl _)
    have h3 := cntB_le (cvB w ρ 18) n
    have h4 := cntB_full (p := cvB w ρ 18) (n := n) (by omega) c hc
    rw [cv_cpl, h0] at h4
    cases h4
  | some k =>
    obtain ⟨h1, h2, h3⟩ := fnd_sat e
    have hk : ¬ 0 ≤ ρ k := by simpa using h3
    refine ⟨k, rfl, by omega, ?_, ?_⟩
    · rcases hr.1 k (by omega) with q | q <;> omega
    · intro j hj
      have key : ∀ (p : Nat → Bool) (m i k : Nat), fnd p m i = some k → ∀ j, i ≤ j → j < k → p j = false := by
        intro p m
        induction m with
        | zero => intro i k hh; cases hh
        | succ m ih =>
          intro i k hh j a b
          unfold fnd at hh
          by_cases z : p i = true
          · rw [if_pos z] at hh; injection hh with hh; omega
          · rw [if_neg z] at hh
            by_cases q : j = i
            · rw [q]; simpa using z
            · exact ih (i + 1) k hh j (by omega) b
      have := key _ 18 0 k e j (by omega) hj
      simpa using this
/-- a stone on two free cells -/
theorem rOK_put (hw : 2 ≤ w ∧ w ≤ 6) (hn : n ≤ 36) (hnw : n = w * h') (hr : rOK w n hl ρ) {k c c2 : Nat} {way : Int} (hk : k < 18) (hc : c < n) (hc2 : c2 < n) (hway : (way = 0 ∧ c2 = c + 1 ∧ c % w + 1 < w) ∨ (way = 1 ∧ c2 = c + w)) (h1 : hl c = false) (h2 : hl c2 = false) (h3 : rCpl w ρ (c : Int) = none) (h4 : rCpl w ρ (c2 : Int) = none) : rOK w n hl (rPut ρ k (c : Int) way) := by
  have oth : ∀ j, j < 18 → j ≠ k → rOth w (rPut ρ k (c : Int) way) j = rOth w ρ j := fun j hj e => by
    unfold rOth
    rw [rPut_n (by omega), rPut_n (by omega)]
  have othk : rOth w (rPut ρ k (c : Int) way) k = (c2 : Int) := by
    unfold rOth
    rw [rPut_18, rPut_k]
    rcases hway with ⟨e1, e2, _⟩ | ⟨e1, e2⟩
    · rw [if_neg (by omega)]; omega
    · rw [if_pos e1]; omega
  have n1 := fun j (hj : j < 18) (h0 : 0 ≤ ρ j) => by
    have := rCpl_not h3 j hj
    rw [Bool.eq_false_iff] at this
    exact fun q => this (rAt_iff.mpr ⟨h0, q⟩)
  have n2 := fun j (hj : j < 18) (h0 : 0 ≤ ρ j) => by
    have := rCpl_not h4 j hj
    rw [Bool.eq_false_iff] at this
    exact fun q => this (rAt_iff.mpr ⟨h0, q⟩)
  refine ⟨fun j hj => ?_, fun i j hi hj e g1 g2 => ?_⟩
  · by_cases e : j = k
    · subst e
      rw [rPut_k, rPut_18, othk]
      refine Or.inr ⟨by omega, by omega, ?_, by rw [Int.toNat_natCast]; exact h1, by rw [Int.toNat_natCast]; exact h2⟩
      rw [Int.toNat_natCast]
      rcases hway with ⟨e1, e2, e3⟩ | ⟨e1, e2⟩
      · exact Or.inl ⟨e1, e3⟩
      · exact Or.inr ⟨e1, by omega⟩
    · rw [rPut_n (by omega), rPut_n (by omega), rPut_n (by omega), rPut_n (by omega), oth j hj e]
      exact hr.1 j hj
  · by_cases ei : i = k
    · subst ei
      rw [rPut_n (by omega)] at g2
      have p1 := n1 j hj g2
      have p2 := n2 j hj g2
      rw [rPut_k, rPut_n (by omega), othk, oth j hj (by omega)]
      refine ⟨fun q => p1 (Or.inl q.symm), fun q => p1 (Or.inr q.symm), fun q => p2 (Or.inl q.symm), fun q => p2 (Or.inr q.symm)⟩
    · by_cases ej : j = k
      · subst ej
        rw [rPut_n (by omega)] at g1
        have p1 := n1 i hi g1
        have p2 := n2 i hi g1
        rw [rPut_k, rPut_n (by omega), othk, oth i hi ei]
        refine ⟨fun q => p1 (Or.inl q), fun q => p2 (Or.inl q), fun q => p1 (Or.inr q), fun q => p2 (Or.inr q)⟩
      · rw [rPut_n (by omega)] at g1 g2
        rw [rPut_n (by omega), rPut_n (by omega), oth i hi ei, oth j hj ej]
        exact hr.2 i j hi hj e g1 g2
theorem wr_add (a b : Int) : jd_wr (a + b) = jd_wr (jd_wr a + jd_wr b) := by
  unfold jd_wr
  rw [Int32.ofInt_add, Int32.ofInt_add, Int32.ofInt_toInt, Int32.ofInt_toInt]
end CV
