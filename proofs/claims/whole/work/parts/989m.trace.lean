/-! ===== the paving that lies ===== -/
def rwy (ρ : Nat → Int) : Nat → Nat → Int
  | 0, _ => -1
  | m + 1, c => if 0 ≤ ρ m ∧ ρ m = (c : Int) then ρ (18 + m) else rwy ρ m c
theorem rwy_s (ρ : Nat → Int) (m c : Nat) : rwy ρ (m + 1) c = if 0 ≤ ρ m ∧ ρ m = (c : Int) then ρ (18 + m) else rwy ρ m c := rfl
def dwn (ρ : Nat → Int) : Nat → Nat → Bool
  | 0, _ => false
  | m + 1, c => dwn ρ m c || (decide (0 ≤ ρ m) && decide (ρ (18 + m) = 1) && decide (ρ m = (c : Int)))
theorem dwn_s (ρ : Nat → Int) (m c : Nat) : dwn ρ (m + 1) c = (dwn ρ m c || (decide (0 ≤ ρ m) && decide (ρ (18 + m) = 1) && decide (ρ m = (c : Int)))) := rfl
def pvR (ρ : Nat → Int) (n : Nat) : List Int := (List.range n).map (rwy ρ 18)
theorem rwy_none {ρ : Nat → Int} {c : Nat} : ∀ {m : Nat}, (∀ k, k < m → 0 ≤ ρ k → ρ k ≠ (c : Int)) → rwy ρ m c = -1
  | 0, _ => rfl
  | m + 1, h => by
    rw [rwy_s, if_neg (fun q => h m (by omega) q.1 q.2)]
    exact rwy_none (fun k hk => h k (by omega))
theorem rwy_some {ρ : Nat → Int} {c k : Nat} : ∀ {m : Nat}, k < m → 0 ≤ ρ k → ρ k = (c : Int) → (∀ j, j < m → j ≠ k → 0 ≤ ρ j → ρ j ≠ (c : Int)) → rwy ρ m c = ρ (18 + k)
  | 0, h, _, _, _ => by omega
  | m + 1, h, h0, h1, h2 => by
    rw [rwy_s]
    by_cases e : k = m
    · subst e; rw [if_pos ⟨h0, h1⟩]
    · rw [if_neg (fun q => h2 m (by omega) (fun x => e x.symm) q.1 q.2)]
      exact rwy_some (by omega) h0 h1 (fun j hj => h2 j (by omega))
theorem rwy_cases {ρ : Nat → Int} {c : Nat} : ∀ {m : Nat}, (rwy ρ m c = -1) ∨ ∃ k, k < m ∧ 0 ≤ ρ k ∧ ρ k = (c : Int) ∧ rwy ρ m c = ρ (18 + k)
  | 0 => Or.inl rfl
  | m + 1 => by
    rw [rwy_s]
    by_cases z : 0 ≤ ρ m ∧ ρ m = (c : Int)
    · exact Or.inr ⟨m, by omega, z.1, z.2, if_pos z⟩
    · rw [if_neg z]
      rcases rwy_cases (ρ := ρ) (c := c) (m := m) with q | ⟨k, h1, h2, h3, h4⟩
      · exact Or.inl q
      · exact Or.inr ⟨k, by omega, h2, h3, h4⟩
theorem dwn_iff {ρ : Nat → Int} {c : Nat} : ∀ {m : Nat}, dwn ρ m c = true ↔ ∃ k, k < m ∧ 0 ≤ ρ k ∧ ρ (18 + k) = 1 ∧ ρ k = (c : Int)
  | 0 => ⟨fun h => (by cases h), fun h => (by obtain ⟨k, hk, _⟩ := h; omega)⟩
  | m + 1 => by
    rw [dwn_s, Bool.or_eq_true, dwn_iff, Bool.and_eq_true, Bool.and_eq_true, decide_eq_true_eq, decide_eq_true_eq, decide_eq_true_eq]
    constructor
    · rintro (⟨k, h1, h2⟩ | h)
      · exact ⟨k, by omega, h2⟩
      · exact ⟨m, by omega, h.1.1, h.1.2, h.2⟩
    · rintro ⟨k, h1, h2, h3, h4⟩
      by_cases e : k = m
      · subst e; exact Or.inr ⟨⟨h2, h3⟩, h4⟩
      · exact Or.inl ⟨k, by omega, h2, h3, h4⟩
theorem cntB_or {p q : Nat → Bool} : ∀ {n : Nat}, (∀ c, c < n → p c = true → q c = false) → cntB (fun c => p c || q c) n = cntB p n + cntB q n
  | 0, _ => rfl
  | n + 1, h => by
    rw [cntB, cntB, cntB, cntB_or (fun c hc => h c (by omega))]
    have := h n (by omega)
    cases e1 : p n <;> cases e2 : q n
    · simp
    · simp; omega
    · simp; omega
    · rw [this e1] at e2; cases e2
section TR
variable {w h n nh : Nat} {hl : Nat → Bool} {ρ : Nat → Int}
theorem pv_len : (pvR ρ n).length = n := by unfold pvR; rw [List.length_map, List.length_range]
theorem pv_get {x : Nat} (hx : x < n) : (pvR ρ n).getD x (-1) = rwy ρ 18 x := by
  unfold pvR
  rw [List.getD_eq_getElem?_getD, List.getElem?_map, List.getElem?_range hx]
  rfl
theorem pv_wy (x : Nat) : wyP 0 (pvR ρ n) x = if x < n then rwy ρ 18 x else -1 := by
  unfold wyP
  rw [if_pos (by omega), Nat.sub_zero]
  by_cases z : x < n
  · rw [if_pos z, pv_get z]
  · rw [if_neg z, List.getD_eq_getElem?_getD, List.getElem?_eq_none (by rw [pv_len]; omega)]
    rfl
theorem rw_k (hr : rOK w n hl ρ) {c k : Nat} (hk : k < 18) (h0 : 0 ≤ ρ k) (h1 : ρ k = (c : Int)) : rwy ρ 18 c = ρ (18 + k) :=
  rwy_some hk h0 h1 (fun j hj e g0 => fun q => (hr.2 j k hj hk e g0 h0).1 (q.trans h1.symm))
theorem rw_01 (hr : rOK w n hl ρ) (c : Nat) : rwy ρ 18 c = -1 ∨ rwy ρ 18 c = 0 ∨ rwy ρ 18 c = 1 := by
  rcases rwy_cases (ρ := ρ) (c := c) (m := 18) with q | ⟨k, h1, h2, h3, h4⟩
  · exact Or.inl q
  · rcases hr.1 k h1 with q | q
    · omega
    · rcases q.2.2.1 with z | z <;> omega
/-- where couple k lies -/
theorem rw_a (hr : rOK w n hl ρ) (sq : sqOK w h n nh hl) {c : Nat} (h' : rwy ρ 18 c = 0 ∨ rwy ρ 18 c = 1) : ∃ k, k < 18 ∧ 0 ≤ ρ k ∧ ρ k = (c : Int) ∧ rwy ρ 18 c = ρ (18 + k) ∧ (ρ (18 + k) = 0 → rOth w ρ k = (c : Int) + 1 ∧ c % w + 1 < w) ∧ (ρ (18 + k) = 1 → rOth w ρ k = (c : Int) + w ∧ c + w < n) ∧ c < n := by
  rcases rwy_cases (ρ := ρ) (c := c) (m := 18) with q | ⟨k, h1, h2, h3, h4⟩
  · omega
  · refine ⟨k, h1, h2, h3, h4, ?_⟩
    rcases hr.1 k h1 with q | ⟨q1, q2, q3, q4, q5⟩
    · omega
    · have hc : (ρ k).toNat = c := by omega
      rw [hc] at q3
      refine ⟨fun z => ⟨?_, ?_⟩, fun z => ⟨?_, ?_⟩, by omega⟩
      · unfold rOth; rw [if_neg (by omega)]; omega
      · rcases q3 with q | q <;> omega
      · unfold rOth; rw [if_pos z]; omega
      · rcases q3 with q | q <;> omega
theorem pv_cv (hr : rOK w n hl ρ) (sq : sqOK w h n nh hl) {x : Nat} (hx : x < n) : cvN w 0 (pvR ρ n) x = if (rCpl w ρ (x : Int)).isSome then 1 else 0 := by
  have hw := sq.1
  rw [cvN_wy (by omega), pv_wy, pv_wy, pv_wy, if_pos hx]
  have un := fun (j k : Nat) (hj : j < 18) (hk : k < 18) (a : rAt w ρ (x : Int) j = true) (b : rAt w ρ (x : Int) k = true) => rOK_one hr hj hk a b
  have lf : ∀ k, k < 18 → ρ k = (x : Int) → 0 ≤ ρ k → rAt w ρ (x : Int) k = true := fun k _ e h0 => rAt_iff.mpr ⟨h0, Or.inl e⟩
  cases e : rCpl w ρ (x : Int) with
  | none =>
    have no := rCpl_not e
    have n1 : ¬ (rwy ρ 18 x = 0 ∨ rwy ρ 18 x = 1) := fun q => by
      obtain ⟨k, k1, k2, k3, _⟩ := rw_a hr sq q
      have := lf k k1 k3 k2
      rw [no k k1] at this; cases this
    have n2 : ¬ (0 < x ∧ (if x - 1 < n then rwy ρ 18 (x - 1) else -1) = 0) := fun q => by
      rw [if_pos (by omega)] at q
      obtain ⟨k, k1, k2, k3, k4, k5, _⟩ := rw_a hr sq (Or.inl q.2)
      have o := (k5 (by omega)).1
      have : rAt w ρ (x : Int) k = true := rAt_iff.mpr ⟨k2, Or.inr (by omega)⟩
      rw [no k k1] at this; cases this
    have n3 : ¬ (w ≤ x ∧ (if x - w < n then rwy ρ 18 (x - w) else -1) = 1) := fun q => by
      rw [if_pos (by omega)] at q
      obtain ⟨k, k1, k2, k3, k4, _, k5, _⟩ := rw_a hr sq (Or.inr q.2)
      have o := (k5 (by omega)).1
      have : rAt w ρ (x : Int) k = true := rAt_iff.mpr ⟨k2, Or.inr (by omega)⟩
      rw [no k k1] at this; cases this
    rw [if_neg (fun q => n1 (Or.inl q)), if_neg (fun q => n1 (Or.inr q)), if_neg n2, if_neg n3]
    rfl
  | some k =>
    obtain ⟨k0, ka⟩ := rCpl_sat e
    obtain ⟨h0, hor⟩ := rAt_iff.mp ka
    show _ = 1
    by_cases z : ρ k = (x : Int)
    · have hwy := rw_k hr k0 h0 z
      have w01 : ρ (18 + k) = 0 ∨ ρ (18 + k) = 1 := by
        rcases hr.1 k k0 with q | q
        · omega
        · rcases q.2.2.1 with q | q <;> omega
      have n2 : ¬ (0 < x ∧ (if x - 1 < n then rwy ρ 18 (x - 1) else -1) = 0) := fun q => by
        rw [if_pos (by omega)] at q
        obtain ⟨j, k1, k2, k3, k4, k5, _⟩ := rw_a hr sq (Or.inl q.2)
        have o := (k5 (by omega)).1
        have := un j k k1 k0 (rAt_iff.mpr ⟨k2, Or.inr (by omega)⟩) ka
        subst this
        omega
      have n3 : ¬ (w ≤ x ∧ (if x - w < n then rwy ρ 18 (x - w) else -1) = 1) := fun q => by
        rw [if_pos (by omega)] at q
        obtain ⟨j, k1, k2, k3, k4, _, k5, _⟩ := rw_a hr sq (Or.inr q.2)
        have o := (k5 (by omega)).1
        have := un j k k1 k0 (rAt_iff.mpr ⟨k2, Or.inr (by omega)⟩) ka
        subst this
        omega
      rw [if_neg n2, if_neg n3, hwy]
      rcases w01 with q | q <;> rw [q] <;> decide
    · have ho : rOth w ρ k = (x : Int) := hor.resolve_left z
      have n1 : ¬ (rwy ρ 18 x = 0 ∨ rwy ρ 18 x = 1) := fun q => by
        obtain ⟨j, k1, k2, k3, _⟩ := rw_a hr sq q
        have := un j k k1 k0 (lf j k1 k3 k2) ka
        subst this
        exact z k3
      rw [if_neg (fun q => n1 (Or.inl q)), if_neg (fun q => n1 (Or.inr q))]
      have b := (rOK_b hr ⟨sq.1, sq.2.1⟩ sq.2.2.2.2.2.2.1 sq.2.2.2.2.1 k0).resolve_left (by omega)
      rcases b.2.2.2 with ⟨q1, q2⟩ | ⟨q1, q2⟩
      · have hwy := rw_k (c := x - 1) hr k0 h0 (by omega)
        have n3 : ¬ (w ≤ x ∧ (if x - w < n then rwy ρ 18 (x - w) else -1) = 1) := fun q => by
          rw [if_pos (by omega)] at q
          obtain ⟨j, k1, k2, k3, k4, _, k5, _⟩ := rw_a hr sq (Or.inr q.2)
          have o := (k5 (by omega)).1
          have := un j k k1 k0 (rAt_iff.mpr ⟨k2, Or.inr (by omega)⟩) ka
          subst this
          omega
        rw [if_neg n3, if_pos ⟨by omega, by rw [if_pos (by omega), hwy, q1]⟩]
      · have hwy := rw_k (c := x - w) hr k0 h0 (by omega)
        have n2 : ¬ (0 < x ∧ (if x - 1 < n then rwy ρ 18 (x - 1) else -1) = 0) := fun q => by
          rw [if_pos (by omega)] at q
          obtain ⟨j, k1, k2, k3, k4, k5, _⟩ := rw_a hr sq (Or.inl q.2)
          have o := (k5 (by omega)).1
          have := un j k k1 k0 (rAt_iff.mpr ⟨k2, Or.inr (by omega)⟩) ka
          subst this
          omega
        rw [if_neg n2, if_pos ⟨by omega, by rw [if_pos (by omega), hwy, q1]⟩]
theorem hole_no (hr : rOK w n hl ρ) {c : Nat} (h' : hl c = true) : cvB w ρ 18 c = false := by
  rw [Bool.eq_false_iff]
  intro q
  obtain ⟨k, k1, k2⟩ := cvB_iff.mp q
  obtain ⟨h0, ho⟩ := rAt_iff.mp k2
  rcases hr.1 k k1 with z | ⟨q1, q2, q3, q4, q5⟩
  · omega
  · rcases ho with e | e
    · rw [e, Int.toNat_natCast, h'] at q4; cases q4
    · rw [e, Int.toNat_natCast, h'] at q5; cases q5
theorem free_nn (hr : rOK w n hl ρ) (sq : sqOK w h n nh hl) : nh + 2 * rMany ρ ≤ n ∧ (nh + 2 * rMany ρ = n → ∀ c, c < n → (rCpl w ρ (c : Int)).isSome = !hl c) := by
  have h1 := cv_n ⟨sq.1, sq.2.1⟩ sq.2.2.2.2.2.2.1 sq.2.2.2.2.1 hr
  have h2 := cntB_or (p := hl) (q := cvB w ρ 18) (n := n) (fun c _ h => hole_no hr h)
  have h3 := cntB_le (fun c => hl c || cvB w ρ 18 c) n
  have h4 := sq.2.2.2.2.2.2.2.1
  refine ⟨by omega, fun e c hc => ?_⟩
  have := cntB_full (p := fun c => hl c || cvB w ρ 18 c) (n := n) (by omega) c hc
  rw [← cv_cpl]
  cases q : hl c with
  | true => rw [hole_no hr q]; rfl
  | false =>
    simp only [q, Bool.false_or] at this
    rw [this]; rfl
theorem pv_mem (hr : rOK w n hl ρ) (sq : sqOK w h n nh hl) (hf : nh + 2 * rMany ρ = n) : pvR ρ n ∈ Lp w n noB noB n 0 hl := by
  have hw := sq.1
  have hcov := (free_nn hr sq).2 hf
  have hh := hr_of (w := w) (h := h) (by omega) sq.2.2.2.2.1
  have := Lp_mem (n := n) (w := w) (na := noB) (nd := noB) (by omega) (p := pvR ρ n) (c := 0) (U := hl) (by rw [pv_len]; omega) (fun x _ hx => ?_) hh (fun x _ hx => ?_)
  · rw [pv_len] at this; exact this
  · rw [pv_wy, if_pos hx]
    rcases rw_01 hr x with q | q | q
    · exact Or.inl q
    · obtain ⟨k, k1, k2, k3, k4, k5, k6, k7⟩ := rw_a hr sq (Or.inl q)
      exact Or.inr (Or.inl ⟨q, (k5 (by omega)).2, rfl, rfl⟩)
    · obtain ⟨k, k1, k2, k3, k4, k5, k6, k7⟩ := rw_a hr sq (Or.inr q)
      exact Or.inr (Or.inr ⟨q, (k6 (by omega)).2, rfl, rfl⟩)
  · rw [pv_cv hr sq hx, hcov x hx]
    cases hl x <;> rfl
theorem dw_rw (hr : rOK w n hl ρ) (c : Nat) : dwn ρ 18 c = (rwy ρ 18 c == 1) := by
  rw [Bool.eq_iff_iff, dwn_iff, beq_iff_eq]
  constructor
  · rintro ⟨k, h1, h2, h3, h4⟩
    rw [rw_k hr h1 h2 h4]; exact h3
  · intro q
    rcases rwy_cases (ρ := ρ) (c := c) (m := 18) with e | ⟨k, h1, h2, h3, h4⟩
    · omega
    · exact ⟨k, h1, h2, by omega, h3⟩
theorem lnP_get : ∀ {k y : Nat} {p : List Int}, y < k → (lnP w k p).getD y 0 = row1 w (p.drop (y * w))
  | 0, y, p, h => by omega
  | k + 1, 0, p, _ => by rw [lnP, Nat.zero_mul]; rfl
  | k + 1, y + 1, p, h => by
    rw [lnP]
    have : (row1 w p :: lnP w k (p.drop w)).getD (y + 1) 0 = (lnP w k (p.drop w)).getD y 0 := by simp
    rw [this, lnP_get (by omega), List.drop_drop, Nat.add_mul, Nat.one_mul, Nat.add_comm w]
theorem tl_row (hr : rOK w n hl ρ) (hnw : n = w * h) {y : Nat} (hy : y < h) : tlM w h (dwn ρ 18) y = row1 w ((pvR ρ n).drop (y * w)) := by
  unfold tlM rwM row1
  rw [if_pos hy]
  have hyw : y * w + w ≤ n := by
    have := Nat.mul_le_mul_right w (show y + 1 ≤ h from hy)
    rw [Nat.add_mul, Nat.one_mul] at this
    rw [hnw, Nat.mul_comm w h]; exact this
  refine mkM_eq (mkM_lt _ _) (fun i hi => ?_)
  rw [mkM_tb, decide_eq_true hi, Bool.true_and, dw_rw hr, List.getD_eq_getElem?_getD, List.getElem?_drop, ← List.getD_eq_getElem?_getD, pv_get (by omega)]
  rfl
end TR
