/-! ===== the class's rows ===== -/
theorem ndm_eq : ∀ w : Nat, w < 7 → ∀ b : Nat, b < 64 → (2 ^ w - 1) &&& (63 ^^^ b) = ndM w b := by decide +kernel
/-- what a Rows holds of a square w by h -/
def rCfg (I : Nat → Nat → Int) (r w h : Nat) (cl na nd : Nat → Bool) : Prop := I r 5 = (w : Int) ∧ I r 6 = (h : Int) ∧ I r 7 = ((2 ^ w - 1 : Nat) : Int) ∧ 2 ≤ w ∧ w ≤ 6 ∧ 2 ≤ h ∧ h ≤ 6 ∧ (∀ y, y < 7 → I (r + 1) y = (clM w h cl y : Int)) ∧ (∀ y, y < 7 → I (r + 2) y = (tlM w h nd y : Int)) ∧ (∀ y, y < 7 → I (r + 3) y = (tlM w h na y : Int)) ∧ ∀ m, m < 64 → I (r + 12) m = (oddR m : Int)
theorem clM_lt {w h : Nat} {cl : Nat → Bool} (y : Nat) (hw : w ≤ 6) : clM w h cl y < 64 := by
  have h1 : 2 ^ w ≤ 2 ^ 6 := Nat.pow_le_pow_right (by decide) hw
  unfold clM
  split
  · exact Nat.lt_of_lt_of_le (mkM_lt _ _) h1
  · have := Nat.two_pow_pos w
    omega
theorem tlM_lt {w h : Nat} {f : Nat → Bool} (y : Nat) (hw : w ≤ 6) : tlM w h f y < 64 := by
  have h1 : 2 ^ w ≤ 2 ^ 6 := Nat.pow_le_pow_right (by decide) hw
  unfold tlM
  split
  · exact Nat.lt_of_lt_of_le (mkM_lt _ _) h1
  · omega
theorem or64 {a b : Nat} (ha : a < 64) (hb : b < 64) : a ||| b < 64 := Nat.or_lt_two_pow (n := 6) ha hb
