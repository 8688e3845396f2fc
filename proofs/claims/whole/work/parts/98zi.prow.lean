/-! ===== the row that a text begins with ===== -/
theorem mkP_some {w h x y : Nat} {U U' : Nat → Bool} (e : mkP w h U x y = some U') : x < w ∧ y < h ∧ U (w * y + x) = false ∧ ∀ c, U' c = if c = w * y + x then true else U c := by
  unfold mkP at e
  by_cases q : x < w ∧ y < h ∧ U (w * y + x) = false
  · rw [if_pos q] at e
    injection e with e
    exact ⟨q.1, q.2.1, q.2.2, fun c => by rw [← e]⟩
  · rw [if_neg q] at e; cases e
theorem mkH_ok {w h : Nat} {hx hy : Nat → Int} (hw : w ≤ 6) (hh : h ≤ 6) : ∀ (m : Nat) (U : Nat → Bool), mkH w h hx hy m = some U → (∀ c, U c = true → c < w * h) ∧ cntB U (w * h) = m
  | 0, U, e => by
    rw [mkH] at e
    injection e with e
    subst e
    exact ⟨fun c hc => (by cases hc), cntB_0 (fun _ _ => rfl)⟩
  | m + 1, U, e => by
    cases e0 : mkH w h hx hy m with
    | none => rw [mkH, e0] at e; cases e
    | some U0 =>
      rw [mkH, e0] at e
      have e : mkP w h U0 (hx m).toNat (hy m).toNat = some U := e
      obtain ⟨p1, p2, p3, p4⟩ := mkP_some e
      obtain ⟨i1, i2⟩ := mkH_ok hw hh m U0 e0
      have cl := cell_lt hw hh p1 p2
      refine ⟨fun c hc => ?_, ?_⟩
      · rw [p4] at hc
        by_cases q : c = w * (hy m).toNat + (hx m).toNat
        · rw [q]; exact cl.1
        · rw [if_neg q] at hc; exact i1 c hc
      · rw [cntB_up (p := U0) (q := U) (k := w * (hy m).toNat + (hx m).toNat) p3 (by rw [p4, if_pos rfl]) cl.1 (fun j _ q => by rw [p4, if_neg q]), i2]
/-- the first n stones lie -/
def rwS (w : Nat) (sx sy sw : Nat → Int) (n : Nat) : Nat → Int := fun j => if j < 18 then (if j < n then (w : Int) * sy j + sx j else -2) else if j < 36 then (if j - 18 < n then sw (j - 18) else 0) else 0
theorem rwS_0 (w : Nat) (sx sy sw : Nat → Int) : rwS w sx sy sw 0 = rNil := by
  funext j
  unfold rwS rNil
  by_cases h : j < 18
  · rw [if_pos h, if_pos h, if_neg (Nat.not_lt_zero _)]
  · rw [if_neg h, if_neg h]
    by_cases h2 : j < 36
    · rw [if_pos h2, if_neg (Nat.not_lt_zero _)]
    · rw [if_neg h2]
theorem rwS_s {w : Nat} {sx sy sw : Nat → Int} {m : Nat} (hm : m < 18) {c : Int} (hc : (w : Int) * sy m + sx m = c) : rPut (rwS w sx sy sw m) m c (sw m) = rwS w sx sy sw (m + 1) := by
  funext j
  by_cases a1 : j = m
  · subst a1
    rw [rPut_k]
    unfold rwS
    rw [if_pos hm, if_pos (by omega), hc]
  · by_cases a2 : j = 18 + m
    · subst a2
      rw [rPut_18]
      unfold rwS
      rw [if_neg (by omega), if_pos (by omega), if_pos (by omega), show 18 + m - 18 = m by omega]
    · by_cases a3 : j = 36 + m
      · subst a3
        rw [rPut_36]
        unfold rwS
        rw [if_neg (by omega), if_neg (by omega)]
      · by_cases a4 : j = 54 + m
        · subst a4
          rw [rPut_54]
          unfold rwS
          rw [if_neg (by omega), if_neg (by omega)]
        · rw [rPut_n ⟨a1, a2, a3, a4⟩]
          unfold rwS
          by_cases b1 : j < 18
          · rw [if_pos b1, if_pos b1]
            by_cases b2 : j < m
            · rw [if_pos b2, if_pos (by omega)]
            · rw [if_neg b2, if_neg (by omega)]
          · rw [if_neg b1, if_neg b1]
            by_cases b3 : j < 36
            · rw [if_pos b3, if_pos b3]
              by_cases b2 : j - 18 < m
              · rw [if_pos b2, if_pos (by omega)]
              · rw [if_neg b2, if_neg (by omega)]
            · rw [if_neg b3, if_neg b3]
theorem rwS_out {w : Nat} {sx sy sw : Nat → Int} {m : Nat} : ∀ j, 75 ≤ j → rwS w sx sy sw m j = 0 := fun j hj => by unfold rwS; rw [if_neg (by omega), if_neg (by omega)]
theorem rwS_k {w : Nat} {sx sy sw : Nat → Int} {m : Nat} (hm : m < 18) : rwS w sx sy sw m m = -2 := by unfold rwS; rw [if_pos hm, if_neg (by omega)]
theorem rCpl_nil {w : Nat} {c : Int} : rCpl w rNil c = none := rCpl_none (fun k hk => by
  have e : rNil k = -2 := by unfold rNil; rw [if_pos hk]
  unfold rAt rLies
  rw [e]; rfl)
theorem rCpl_put {w k : Nat} {ρ : Nat → Int} {c c2 : Int} {way x : Int} (hk : k < 18) (h2 : c2 = c + (if way = 1 then (w : Int) else 1)) (h1 : x ≠ c) (h3 : x ≠ c2) (h : rCpl w ρ x = none) : rCpl w (rPut ρ k c way) x = none := by
  refine rCpl_none (fun j hj => ?_)
  by_cases e : j = k
  · subst e
    unfold rAt rOth
    rw [rPut_18, rPut_k, ← h2, decide_eq_false (fun q => h1 q.symm), decide_eq_false (fun q => h3 q.symm)]
    simp
  · have := rCpl_not h j hj
    unfold rAt rOth rLies at this ⊢
    rw [rPut_n (by omega), rPut_n (by omega)]
    exact this
theorem mkS_ok {w h n : Nat} {hl : Nat → Bool} {sx sy sw : Nat → Int} (hw : 2 ≤ w ∧ w ≤ 6) (hh : h ≤ 6) (hn : n = w * h) : ∀ (m : Nat) (U : Nat → Bool), m ≤ 18 → (∀ i, i < m → 0 ≤ sx i ∧ 0 ≤ sy i ∧ 0 ≤ sw i ∧ sw i ≤ 1) → mkS w h sx sy sw hl m = some U → rOK w n hl (rwS w sx sy sw m) ∧ (∀ c : Nat, U c = false → hl c = false ∧ rCpl w (rwS w sx sy sw m) (c : Int) = none) ∧ ∀ i, i < m → ∃ c : Nat, (w : Int) * sy i + sx i = (c : Int) ∧ c < 36
  | 0, U, _, _, e => by
    rw [mkS] at e
    injection e with e
    subst e
    rw [rwS_0]
    exact ⟨rOK_nil, fun c hc => ⟨hc, rCpl_nil⟩, fun i hi => absurd hi (Nat.not_lt_zero _)⟩
  | m + 1, U, hm, hr, e => by
    cases e0 : mkS w h sx sy sw hl m with
    | none => rw [mkS, e0] at e; cases e
    | some U0 =>
      rw [mkS, e0] at e
      have e : ((mkP w h U0 (sx m).toNat (sy m).toNat).bind fun U' => mkP w h U' (sx m + 1 - sw m).toNat (sy m + sw m).toNat) = some U := e
      obtain ⟨i1, i2, i3⟩ := mkS_ok hw hh hn m U0 (by omega) (fun i hi => hr i (by omega)) e0
      cases e1 : mkP w h U0 (sx m).toNat (sy m).toNat with
      | none => rw [e1] at e; cases e
      | some U1 =>
        rw [e1] at e
        have e : mkP w h U1 (sx m + 1 - sw m).toNat (sy m + sw m).toNat = some U := e
        obtain ⟨p1, p2, p3, p4⟩ := mkP_some e1
        obtain ⟨q1, q2, q3, q4⟩ := mkP_some e
        obtain ⟨r1, r2, r3, r4⟩ := hr m (by omega)
        generalize ex : (sx m).toNat = x at *
        generalize ey : (sy m).toNat = y at *
        have hsx : sx m = (x : Int) := by omega
        have hsy : sy m = (y : Int) := by omega
        have cl := cell_lt hw.2 hh p1 p2
        obtain ⟨c1, hc1⟩ : ∃ c1, c1 = w * y + x := ⟨_, rfl⟩
        have eN : (w : Int) * sy m + sx m = (c1 : Int) := by rw [hsx, hsy, hc1]; simp
        have mx : c1 % w = x := by rw [hc1, Nat.mul_add_mod, Nat.mod_eq_of_lt p1]
        obtain ⟨c2, hc2, hway⟩ : ∃ c2, c2 = w * (sy m + sw m).toNat + (sx m + 1 - sw m).toNat ∧ ((sw m = 0 ∧ c2 = c1 + 1 ∧ c1 % w + 1 < w) ∨ (sw m = 1 ∧ c2 = c1 + w)) := by
          refine ⟨_, rfl, ?_⟩
          by_cases z : sw m = 0
          · rw [z, hsx] at q1
            refine Or.inl ⟨z, ?_, by omega⟩
            rw [z, hsx, hsy, hc1, show ((y : Int) + 0).toNat = y by omega, show ((x : Int) + 1 - 0).toNat = x + 1 by omega]
            omega
          · have z1 : sw m = 1 := by omega
            refine Or.inr ⟨z1, ?_⟩
            rw [z1, hsx, hsy, hc1, show ((y : Int) + 1).toNat = y + 1 by omega, show ((x : Int) + 1 - 1).toNat = x by omega, Nat.mul_add]
            omega
        rw [← hc2] at q3 q4
        rw [← hc1] at p3 p4 cl
        have cl2 := cell_lt hw.2 hh q1 q2
        rw [← hc2] at cl2
        rw [p4] at q3
        have hne : ¬ c2 = c1 := fun z => by rw [if_pos z] at q3; cases q3
        rw [if_neg hne] at q3
        obtain ⟨s1, s2⟩ := i2 c1 p3
        obtain ⟨s3, s4⟩ := i2 c2 q3
        rw [← rwS_s (by omega) eN]
        refine ⟨rOK_put (h' := h) hw (by omega) hn i1 (by omega) (by omega) (by omega) hway s1 s3 s2 s4, fun c hc => ?_, fun i hi => ?_⟩
        · rw [q4] at hc
          have n2 : ¬ c = c2 := fun z => by rw [if_pos z] at hc; cases hc
          rw [if_neg n2, p4] at hc
          have n1 : ¬ c = c1 := fun z => by rw [if_pos z] at hc; cases hc
          rw [if_neg n1] at hc
          obtain ⟨u1, u2⟩ := i2 c hc
          refine ⟨u1, rCpl_put (c2 := (c2 : Int)) (by omega) ?_ (by omega) (by omega) u2⟩
          rcases hway with ⟨z1, z2, _⟩ | ⟨z1, z2⟩
          · rw [if_neg (by omega)]; omega
          · rw [if_pos z1]; omega
        · by_cases z : i = m
          · rw [z]; exact ⟨c1, eN, by omega⟩
          · exact i3 i (by omega)
theorem mkS_pre {w h : Nat} {sx sy sw : Nat → Int} {U : Nat → Bool} {n : Nat} {V : Nat → Bool} (e : mkS w h sx sy sw U n = some V) {k : Nat} (hk : k ≤ n) : ∃ W, mkS w h sx sy sw U k = some W := by
  cases e0 : mkS w h sx sy sw U k with
  | none => rw [mkS_none hk e0] at e; cases e
  | some W => exact ⟨W, rfl⟩
