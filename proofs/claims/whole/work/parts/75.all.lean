/-! ===== all, rest: the model's numbers ===== -/
theorem Fr_congr {w n : Nat} {cl cl' na nd : Nat → Bool} (hr : ∀ x, x % w + 1 < w → x < n → x + 1 < n) (he : ∀ x, x < n → cl x = cl' x) {k : Nat} : ∀ {c m : Nat}, c + k = n → Fr w n cl na nd k c m = Fr w n cl' na nd k c m := by
  induction k with
  | zero => intro c m _; rw [Fr_0, Fr_0]
  | succ k ih =>
    intro c m hc
    have e1 : aM w cl na c m = aM w cl' na c m := by
      unfold aM
      by_cases z : c % w + 1 < w
      · rw [he (c + 1) (hr c z (by omega))]
      · simp [z]
    have e2 : dM w n cl nd c = dM w n cl' nd c := by
      unfold dM
      by_cases z : c + w < n
      · rw [he (c + w) z]
      · simp [z]
    rw [Fr_s, Fr_s, he c (by omega), e1, e2, ih (by omega), ih (by omega), ih (by omega)]
theorem hr_of {w h n : Nat} (hw : 0 < w) (hn : n = w * h) : ∀ x, x % w + 1 < w → x < n → x + 1 < n := by
  intro x h1 h2
  subst hn
  have h3 : x / w < h := Nat.div_lt_of_lt_mul h2
  have h4 := Nat.div_add_mod x w
  have h5 : w * (x / w + 1) ≤ w * h := Nat.mul_le_mul_left w h3
  rw [Nat.mul_add, Nat.mul_one] at h5
  omega
section MA
variable {t d rt : Nat} {I : Nat → Nat → Int} {lv w h n : Nat}
theorem b01_fl {a b m j : Nat} {g : Nat → Int} (hne : b ≠ a) (k : b01 I b m) : b01 (fl I a j g) b m := fun x hx => by rw [fl_ne hne]; exact k x hx
theorem b01_flin {a m : Nat} {g : Nat → Int} (hg : ∀ x, x < m → g x = 0 ∨ g x = 1) : b01 (fl I a m g) a m := fun x hx => by rw [fl_in hx]; exact hg x hx
theorem s_countsAll (c : mCfg I lv w h n) (k2 : b01 I 402 36) (k9 : b01 I 409 36) (k0 : b01 I 410 36) : f_X12_countsAll 369 (mm t d rt I) = some (Fr w n (blI I 402) noB noB n 0 0, mm t d rt (flB (fl I 408 36 (I 402)) 406 (fun y => decide (y < 64 * (n + 1))) (FrT w n (blI (fl I 408 36 (I 402)) 408) noB noB))) := by
  have hr := hr_of (by have := c.2.2.2.2.1; omega) c.2.2.2.2.2.2.2.2.1
  have h1 := s_closesHoles (t := t) (d := d) (rt := rt) k2
  have h2 := s_counts (t := t) (d := d) (rt := rt) (mCfg_fl (a := 408) (m := 36) (g := I 402) (by decide) c) (b := 0) (tb := 406) (na := noB) (nd := noB) (Or.inl ⟨rfl, rfl, rfl, rfl⟩) (b01_flin k2) (b01_fl (by decide) k9) (b01_fl (by decide) k0) hr
  have e := Fr_congr (na := noB) (nd := noB) (cl := blI (fl I 408 36 (I 402)) 408) (cl' := blI I 402) hr (fun x hx => by
    have := c.2.2.2.2.2.2.2.2.2.2
    unfold blI
    rw [fl_in (by omega)]) (k := n) (c := 0) (m := 0) (by omega)
  unfold f_X12_countsAll
  simp only [FM]
  rw [h1, jbd_s]
  simp only [FM]
  rw [h2, jbd_s, e]
theorem tk01 (x : Nat) : tkF w I x = 0 ∨ tkF w I x = 1 := by
  unfold tkF
  split
  · split
    · exact Or.inr rfl
    · exact Or.inl rfl
  · exact Or.inr rfl
/-- a hole, or a stone lies there -/
def tkB (w : Nat) (I : Nat → Nat → Int) : Nat → Bool := fun x => !decide (tkF w I x = 0)
theorem s_countsRest (c : mCfg I lv w h n) (hv : vRow (I 401)) (k2 : b01 I 402 36) (k9 : b01 I 409 36) (k0 : b01 I 410 36) : f_X12_countsRest 369 (mm t d rt I) = some (Fr w n (tkB w I) noB noB n 0 0, mm t d rt (flB (fl I 408 36 (tkF w I)) 406 (fun y => decide (y < 64 * (n + 1))) (FrT w n (blI (fl I 408 36 (tkF w I)) 408) noB noB))) := by
  have hr := hr_of (by have := c.2.2.2.2.1; omega) c.2.2.2.2.2.2.2.2.1
  have h1 := s_closesTaken (t := t) (d := d) (rt := rt) c hv k2
  have h2 := s_counts (t := t) (d := d) (rt := rt) (mCfg_fl (a := 408) (m := 36) (g := tkF w I) (by decide) c) (b := 0) (tb := 406) (na := noB) (nd := noB) (Or.inl ⟨rfl, rfl, rfl, rfl⟩) (b01_flin (fun x _ => tk01 x)) (b01_fl (by decide) k9) (b01_fl (by decide) k0) hr
  have e := Fr_congr (na := noB) (nd := noB) (cl := blI (fl I 408 36 (tkF w I)) 408) (cl' := tkB w I) hr (fun x hx => by
    have := c.2.2.2.2.2.2.2.2.2.2
    unfold blI tkB
    rw [fl_in (by omega)]) (k := n) (c := 0) (m := 0) (by omega)
  unfold f_X12_countsRest
  simp only [FM]
  rw [h1, jbd_s]
  simp only [FM]
  rw [h2, jbd_s, e]
end MA
