/-! ===== the model's walks ===== -/
def mA (mask : Nat) : Nat := (mask ||| 2) >>> 1
def mD (w mask : Nat) : Nat := mask >>> 1 ||| 1 <<< (w - 1)
def accI (w n : Nat) (cl na nd : Nat → Bool) (k c mask : Nat) : Int := if aM w cl na c mask then Fr w n cl na nd k (c + 1) (mA mask) else 0
def dnI (w n : Nat) (cl na nd : Nat → Bool) (k c mask : Nat) : Int := if dM w n cl nd c then Fr w n cl na nd k (c + 1) (mD w mask) else 0
/-- fillsWays -/
def fwM (w n : Nat) (cl na nd : Nat → Bool) : Nat → Nat → Nat → Int → List Int
  | 0, _, _, _ => []
  | k + 1, c, mask, left => if mask.testBit 0 || cl c then -1 :: fwM w n cl na nd k (c + 1) (mask >>> 1) left else if left < accI w n cl na nd k c mask then 0 :: fwM w n cl na nd k (c + 1) (mA mask) left else 1 :: fwM w n cl na nd k (c + 1) (mD w mask) (left - accI w n cl na nd k c mask)
/-- rank -/
def rkM (w n : Nat) (cl na nd : Nat → Bool) : Nat → Nat → Nat → List Int → Int
  | 0, _, _, _ => 0
  | _ + 1, _, _, [] => 0
  | k + 1, c, mask, a :: r => (if a = 1 then accI w n cl na nd k c mask else 0) + rkM w n cl na nd k (c + 1) (if a < 0 then mask >>> 1 else if a = 0 then mA mask else mD w mask) r
/-- numberTold: what it goes through, and its number -/
def ntL (w n : Nat) (cl na nd : Nat → Bool) (last : Bool) : Nat → Nat → Nat → List Int
  | 0, _, _ => []
  | k + 1, c, mask => if mask.testBit 0 || cl c then -1 :: ntL w n cl na nd last k (c + 1) (mask >>> 1) else if (if last then decide (0 < dnI w n cl na nd k c mask) else decide (accI w n cl na nd k c mask = 0)) then 1 :: ntL w n cl na nd last k (c + 1) (mD w mask) else 0 :: ntL w n cl na nd last k (c + 1) (mA mask)
section PO
variable {w n : Nat} {cl na nd : Nat → Bool}
theorem Um_0 {c mask : Nat} : Um cl c mask c = (mask.testBit 0 || cl c) := by simp [Um, Bool.or_comm]
theorem accI_eq (h0 : 1 < w) (hr : ∀ x, x % w + 1 < w → x < n → x + 1 < n) {k c mask : Nat} (hc : c + (k + 1) = n) (g : gM w n c mask) : accI w n cl na nd k c mask = ((if aOK w na (Um cl c mask) c then Np w n na nd k (c + 1) (cov (Um cl c mask) (c + 1)) else 0 : Nat) : Int) := by
  unfold accI
  rw [← aM_eq]
  by_cases ha : aM w cl na c mask = true
  · rw [if_pos ha, if_pos ha]
    have a := ha
    simp only [aM, Bool.and_eq_true, decide_eq_true_eq] at a
    rw [mA, Fr_eq h0 hr (by omega) (gM_a g a.1.1.1.1 (hr c a.1.1.1.1 (by omega)))]
    unfold Np; rw [Lp_congr (fun x hx => Um_a hx)]
  · rw [if_neg ha, if_neg ha]; rfl
theorem dnI_eq (h0 : 1 < w) (hr : ∀ x, x % w + 1 < w → x < n → x + 1 < n) {k c mask : Nat} (hc : c + (k + 1) = n) (g : gM w n c mask) : dnI w n cl na nd k c mask = ((if dOK w n nd (Um cl c mask) c then Np w n na nd k (c + 1) (cov (Um cl c mask) (c + w)) else 0 : Nat) : Int) := by
  unfold dnI
  rw [← dM_eq g.1]
  by_cases ha : dM w n cl nd c = true
  · rw [if_pos ha, if_pos ha]
    have a := ha
    simp only [dM, Bool.and_eq_true, decide_eq_true_eq] at a
    rw [mD, Fr_eq h0 hr (by omega) (gM_d g (by omega) a.1.1.1)]
    unfold Np; rw [Lp_congr (fun x hx => Um_d (by omega) hx)]
  · rw [if_neg ha, if_neg ha]; rfl
theorem nthP_congr {k : Nat} : ∀ {c : Nat} {U V : Nat → Bool} {i : Nat}, (∀ x, c ≤ x → U x = V x) → nthP w n na nd k c U i = nthP w n na nd k c V i := by
  induction k with
  | zero => intros; rfl
  | succ k ih =>
    intro c U V i h
    have hc : ∀ o x, c + 1 ≤ x → cov U o x = cov V o x := by
      intro o x hx; unfold cov; rw [h x (by omega)]
    have e : Np w n na nd k (c + 1) (cov U (c + 1)) = Np w n na nd k (c + 1) (cov V (c + 1)) := by unfold Np; rw [Lp_congr (hc _)]
    unfold nthP
    rw [h c (Nat.le_refl c), aOK_congr h, e, ih (U := U) (V := V) (fun x hx => h x (by omega)), ih (hc (c + 1)), ih (hc (c + w))]
theorem rkP_congr {k : Nat} : ∀ {c : Nat} {U V : Nat → Bool} {p : List Int}, (∀ x, c ≤ x → U x = V x) → rkP w n na nd k c U p = rkP w n na nd k c V p := by
  induction k with
  | zero => intros; rfl
  | succ k ih =>
    intro c U V p h
    cases p with
    | nil => rfl
    | cons a r =>
      have hc : ∀ o x, c + 1 ≤ x → cov U o x = cov V o x := by
        intro o x hx; unfold cov; rw [h x (by omega)]
      have e : Np w n na nd k (c + 1) (cov U (c + 1)) = Np w n na nd k (c + 1) (cov V (c + 1)) := by unfold Np; rw [Lp_congr (hc _)]
      unfold rkP
      rw [h c (Nat.le_refl c), aOK_congr h, e, ih (U := U) (V := V) (fun x hx => h x (by omega)), ih (hc (c + 1)), ih (hc (c + w))]
theorem fwM_eq (h0 : 1 < w) (hr : ∀ x, x % w + 1 < w → x < n → x + 1 < n) {k : Nat} : ∀ {c mask i : Nat}, c + k = n → gM w n c mask → i < Np w n na nd k c (Um cl c mask) → fwM w n cl na nd k c mask (i : Int) = nthP w n na nd k c (Um cl c mask) i := by
  induction k with
  | zero => intros; rfl
  | succ k ih =>
    intro c mask i hc g hi
    unfold fwM nthP
    rw [Um_0]
    by_cases hU : (mask.testBit 0 || cl c) = true
    · rw [if_pos hU, if_pos hU]
      rw [Np_c (by rw [Um_0]; exact hU)] at hi
      have e : Np w n na nd k (c + 1) (Um cl (c + 1) (mask >>> 1)) = Np w n na nd k (c + 1) (Um cl c mask) := by unfold Np; rw [Lp_congr (fun x hx => Um_s hx)]
      rw [ih (by omega) (gM_s g) (by rw [e]; exact hi), nthP_congr (fun x hx => Um_s hx)]
    · have hU' : (mask.testBit 0 || cl c) = false := by simpa using hU
      rw [if_neg hU, if_neg hU, accI_eq h0 hr hc g]
      rw [Np_f (by rw [Um_0]; exact hU')] at hi
      by_cases hl : i < (if aOK w na (Um cl c mask) c then Np w n na nd k (c + 1) (cov (Um cl c mask) (c + 1)) else 0)
      · rw [if_pos (by exact_mod_cast hl), if_pos hl]
        have ha : aOK w na (Um cl c mask) c = true := by
          cases z : aOK w na (Um cl c mask) c with
          | true => rfl
          | false => rw [z] at hl; simp at hl
        rw [if_pos ha] at hl
        have a := ha
        rw [← aM_eq] at a
        simp only [aM, Bool.and_eq_true, decide_eq_true_eq] at a
        have e : Np w n na nd k (c + 1) (Um cl (c + 1) (mA mask)) = Np w n na nd k (c + 1) (cov (Um cl c mask) (c + 1)) := by unfold Np mA; rw [Lp_congr (fun x hx => Um_a hx)]
        rw [ih (by omega) (by unfold mA; exact gM_a g a.1.1.1.1 (hr c a.1.1.1.1 (by omega))) (by rw [e]; exact hl)]
        unfold mA
        rw [nthP_congr (fun x hx => Um_a hx)]
      · rw [if_neg (by exact_mod_cast hl), if_neg hl]
        have hd : dOK w n nd (Um cl c mask) c = true := by
          cases z : dOK w n nd (Um cl c mask) c with
          | true => rfl
          | false => rw [z] at hi; simp at hi hl; omega
        rw [if_pos hd] at hi
        have a := hd
        rw [← dM_eq g.1] at a
        simp only [dM, Bool.and_eq_true, decide_eq_true_eq] at a
        have e : Np w n na nd k (c + 1) (Um cl (c + 1) (mD w mask)) = Np w n na nd k (c + 1) (cov (Um cl c mask) (c + w)) := by unfold Np mD; rw [Lp_congr (fun x hx => Um_d (by omega) hx)]
        have ec : (i : Int) - ((if aOK w na (Um cl c mask) c then Np w n na nd k (c + 1) (cov (Um cl c mask) (c + 1)) else 0 : Nat) : Int) = ((i - (if aOK w na (Um cl c mask) c then Np w n na nd k (c + 1) (cov (Um cl c mask) (c + 1)) else 0) : Nat) : Int) := by omega
        rw [ec, ih (by omega) (by unfold mD; exact gM_d g (by omega) a.1.1.1) (by rw [e]; omega)]
        unfold mD
        rw [nthP_congr (fun x hx => Um_d (by omega) hx)]
theorem rkM_eq (h0 : 1 < w) (hr : ∀ x, x % w + 1 < w → x < n → x + 1 < n) {k : Nat} : ∀ {c mask : Nat} {p : List Int} {na' nd' : Nat → Bool}, c + k = n → gM w n c mask → p ∈ Lp w n na' nd' k c (Um cl c mask) → rkM w n cl na nd k c mask p = (rkP w n na nd k c (Um cl c mask) p : Int) := by
  induction k with
  | zero => intros; rfl
  | succ k ih =>
    intro c mask p na' nd' hc g hp
    rcases Lp_cases hp with ⟨hU, q, rfl, hq⟩ | ⟨hU, ha, q, rfl, hq⟩ | ⟨hU, ha, q, rfl, hq⟩
    · unfold rkM rkP
      rw [if_pos hU, if_neg (by decide), if_pos (by decide), Int.zero_add]
      have hq' : q ∈ Lp w n na' nd' k (c + 1) (Um cl (c + 1) (mask >>> 1)) := by rw [Lp_congr (fun x hx => Um_s hx)]; exact hq
      rw [ih (by omega) (gM_s g) hq', rkP_congr (fun x hx => Um_s hx)]
    · unfold rkM rkP
      simp only [hU, Bool.false_eq_true, if_false, show ¬ ((0 : Int) = 1) by decide, show ¬ ((0 : Int) < 0) by decide, if_true, Int.zero_add]
      have hq' : q ∈ Lp w n na' nd' k (c + 1) (Um cl (c + 1) (mA mask)) := by unfold mA; rw [Lp_congr (fun x hx => Um_a hx)]; exact hq
      simp only [aOK, Bool.and_eq_true, decide_eq_true_eq] at ha
      rw [ih (by omega) (by unfold mA; exact gM_a g ha.1.1.1 (hr c ha.1.1.1 (by omega))) hq']
      unfold mA
      rw [rkP_congr (fun x hx => Um_a hx)]
    · unfold rkM rkP
      simp only [hU, Bool.false_eq_true, if_false, show ¬ ((1 : Int) < 0) by decide, show ¬ ((1 : Int) = 0) by decide, if_true]
      rw [accI_eq h0 hr hc g]
      have hq' : q ∈ Lp w n na' nd' k (c + 1) (Um cl (c + 1) (mD w mask)) := by unfold mD; rw [Lp_congr (fun x hx => Um_d (by omega) hx)]; exact hq
      simp only [dOK, Bool.and_eq_true, decide_eq_true_eq] at ha
      rw [ih (by omega) (by unfold mD; exact gM_d g (by omega) ha.1.1.1) hq', Int.natCast_add]
      unfold mD
      rw [rkP_congr (fun x hx => Um_d (by omega) hx)]
theorem ntL_eq (h0 : 1 < w) (hr : ∀ x, x % w + 1 < w → x < n → x + 1 < n) {last : Bool} {k : Nat} : ∀ {c mask : Nat}, c + k = n → gM w n c mask → 0 < Np w n na nd k c (Um cl c mask) → ntL w n cl na nd last k c mask = nthP w n na nd k c (Um cl c mask) (if last then Np w n na nd k c (Um cl c mask) - 1 else 0) := by
  induction k with
  | zero => intros; rfl
  | succ k ih =>
    intro c mask hc g hp
    unfold ntL nthP
    rw [Um_0]
    by_cases hU : (mask.testBit 0 || cl c) = true
    · rw [if_pos hU, if_pos hU]
      rw [Np_c (by rw [Um_0]; exact hU)] at hp ⊢
      have e : Np w n na nd k (c + 1) (Um cl (c + 1) (mask >>> 1)) = Np w n na nd k (c + 1) (Um cl c mask) := by unfold Np; rw [Lp_congr (fun x hx => Um_s hx)]
      rw [ih (by omega) (gM_s g) (by rw [e]; exact hp), nthP_congr (fun x hx => Um_s hx), e]
    · have hU' : (mask.testBit 0 || cl c) = false := by simpa using hU
      rw [if_neg hU, if_neg hU, accI_eq h0 hr hc g, dnI_eq h0 hr hc g]
      rw [Np_f (by rw [Um_0]; exact hU')] at hp ⊢
      have goA : ∀ j, j < (if aOK w na (Um cl c mask) c then Np w n na nd k (c + 1) (cov (Um cl c mask) (c + 1)) else 0) → (j = if last then (if aOK w na (Um cl c mask) c then Np w n na nd k (c + 1) (cov (Um cl c mask) (c + 1)) else 0) - 1 else 0) → ntL w n cl na nd last k (c + 1) (mA mask) = nthP w n na nd k (c + 1) (cov (Um cl c mask) (c + 1)) j := by
        intro j hj ej
        have ha : aOK w na (Um cl c mask) c = true := by
          cases z : aOK w na (Um cl c mask) c with
          | true => rfl
          | false => rw [z] at hj; simp at hj
        rw [if_pos ha] at hj ej
        have a := ha
        rw [← aM_eq] at a
        simp only [aM, Bool.and_eq_true, decide_eq_true_eq] at a
        have e : Np w n na nd k (c + 1) (Um cl (c + 1) (mA mask)) = Np w n na nd k (c + 1) (cov (Um cl c mask) (c + 1)) := by unfold Np mA; rw [Lp_congr (fun x hx => Um_a hx)]
        rw [ih (by omega) (by unfold mA; exact gM_a g a.1.1.1.1 (hr c a.1.1.1.1 (by omega))) (by rw [e]; omega), e, ej]
        unfold mA
        rw [nthP_congr (fun x hx => Um_a hx)]
      have goD : ∀ j, j < (if dOK w n nd (Um cl c mask) c then Np w n na nd k (c + 1) (cov (Um cl c mask) (c + w)) else 0) → (j = if last then (if dOK w n nd (Um cl c mask) c then Np w n na nd k (c + 1) (cov (Um cl c mask) (c + w)) else 0) - 1 else 0) → ntL w n cl na nd last k (c + 1) (mD w mask) = nthP w n na nd k (c + 1) (cov (Um cl c mask) (c + w)) j := by
        intro j hj ej
        have hd : dOK w n nd (Um cl c mask) c = true := by
          cases z : dOK w n nd (Um cl c mask) c with
          | true => rfl
          | false => rw [z] at hj; simp at hj
        rw [if_pos hd] at hj ej
        have a := hd
        rw [← dM_eq g.1] at a
        simp only [dM, Bool.and_eq_true, decide_eq_true_eq] at a
        have e : Np w n na nd k (c + 1) (Um cl (c + 1) (mD w mask)) = Np w n na nd k (c + 1) (cov (Um cl c mask) (c + w)) := by unfold Np mD; rw [Lp_congr (fun x hx => Um_d (by omega) hx)]
        rw [ih (by omega) (by unfold mD; exact gM_d g (by omega) a.1.1.1) (by rw [e]; omega), e, ej]
        unfold mD
        rw [nthP_congr (fun x hx => Um_d (by omega) hx)]
      generalize hA : (if aOK w na (Um cl c mask) c then Np w n na nd k (c + 1) (cov (Um cl c mask) (c + 1)) else 0) = A at *
      generalize hD : (if dOK w n nd (Um cl c mask) c then Np w n na nd k (c + 1) (cov (Um cl c mask) (c + w)) else 0) = D at *
      cases last with
      | true =>
        simp only [if_true] at goA goD ⊢
        by_cases z : 0 < D
        · rw [if_pos (by simp; exact_mod_cast z), if_neg (by omega), goD (A + D - 1 - A) (by omega) (by omega)]
        · rw [if_neg (by simp; omega), if_pos (by omega), goA (A + D - 1) (by omega) (by omega)]
      | false =>
        simp only [Bool.false_eq_true, if_false] at goA goD ⊢
        by_cases z : A = 0
        · rw [if_pos (by simp [z]), if_neg (by omega), goD (0 - A) (by omega) (by omega)]
        · rw [if_neg (by simp; omega), if_pos (by omega), goA 0 (by omega) rfl]
/-- the model's table of the most stones -/
def Mr (w n : Nat) (cl : Nat → Bool) : Nat → Nat → Nat → Nat
  | 0, _, _ => 0
  | k + 1, c, mask => if mask.testBit 0 || cl c then Mr w n cl k (c + 1) (mask >>> 1) else max (max (Mr w n cl k (c + 1) (mask >>> 1)) (if aM w cl noB c mask then 1 + Mr w n cl k (c + 1) (mA mask) else 0)) (if dM w n cl noB c then 1 + Mr w n cl k (c + 1) (mD w mask) else 0)
theorem Mr_eq (h0 : 1 < w) (hr : ∀ x, x % w + 1 < w → x < n → x + 1 < n) {k : Nat} : ∀ {c mask : Nat}, c + k = n → gM w n c mask → Mr w n cl k c mask = Mx w n k c (Um cl c mask) := by
  induction k with
  | zero => intros; rfl
  | succ k ih =>
    intro c mask hc g
    unfold Mr Mx
    rw [Um_0, ih (by omega) (gM_s g), Mx_congr (fun x hx => Um_s hx), ← aM_eq, ← dM_eq g.1]
    have eA : (if aM w cl noB c mask then 1 + Mr w n cl k (c + 1) (mA mask) else 0) = (if aM w cl noB c mask then 1 + Mx w n k (c + 1) (cov (Um cl c mask) (c + 1)) else 0) := by
      by_cases ha : aM w cl noB c mask = true
      · have a := ha
        simp only [aM, Bool.and_eq_true, decide_eq_true_eq] at a
        rw [if_pos ha, if_pos ha, ih (by omega) (by unfold mA; exact gM_a g a.1.1.1.1 (hr c a.1.1.1.1 (by omega)))]
        unfold mA
        rw [Mx_congr (fun x hx => Um_a hx)]
      · rw [if_neg ha, if_neg ha]
    have eD : (if dM w n cl noB c then 1 + Mr w n cl k (c + 1) (mD w mask) else 0) = (if dM w n cl noB c then 1 + Mx w n k (c + 1) (cov (Um cl c mask) (c + w)) else 0) := by
      by_cases ha : dM w n cl noB c = true
      · have a := ha
        simp only [dM, Bool.and_eq_true, decide_eq_true_eq] at a
        rw [if_pos ha, if_pos ha, ih (by omega) (by unfold mD; exact gM_d g (by omega) a.1.1.1)]
        unfold mD
        rw [Mx_congr (fun x hx => Um_d (by omega) hx)]
      · rw [if_neg ha, if_neg ha]
    rw [eA, eD]
end PO
