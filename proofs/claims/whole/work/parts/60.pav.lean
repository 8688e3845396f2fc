/-! ===== pavings, cell by cell: across first ===== -/
def aOK (w : Nat) (na U : Nat → Bool) (c : Nat) : Bool := decide (c % w + 1 < w) && !U (c + 1) && !na c && !na (c + 1)
def dOK (w n : Nat) (nd U : Nat → Bool) (c : Nat) : Bool := decide (c + w < n) && !U (c + w) && !nd c && !nd (c + w)
def cov (U : Nat → Bool) (o : Nat) : Nat → Bool := fun x => U x || x == o
/-- all pavings of the k cells from c on; U: closed or covered; -1 nothing begins, 0 across, 1 down -/
def Lp (w n : Nat) (na nd : Nat → Bool) : Nat → Nat → (Nat → Bool) → List (List Int)
  | 0, _, _ => [[]]
  | k + 1, c, U => if U c then (Lp w n na nd k (c + 1) U).map (-1 :: ·) else (if aOK w na U c then (Lp w n na nd k (c + 1) (cov U (c + 1))).map (0 :: ·) else []) ++ (if dOK w n nd U c then (Lp w n na nd k (c + 1) (cov U (c + w))).map (1 :: ·) else [])
def Np (w n : Nat) (na nd : Nat → Bool) (k c : Nat) (U : Nat → Bool) : Nat := (Lp w n na nd k c U).length
/-- cells to be covered among the k from c on -/
def frN (U : Nat → Bool) : Nat → Nat → Nat
  | 0, _ => 0
  | k + 1, c => (if U c then 0 else 1) + frN U k (c + 1)
section PV
variable {w n : Nat} {na nd : Nat → Bool}
theorem Np_0 (c : Nat) (U : Nat → Bool) : Np w n na nd 0 c U = 1 := rfl
theorem Np_c {k c : Nat} {U : Nat → Bool} (h : U c = true) : Np w n na nd (k + 1) c U = Np w n na nd k (c + 1) U := by
  simp [Np, Lp, h]
theorem Np_f {k c : Nat} {U : Nat → Bool} (h : U c = false) : Np w n na nd (k + 1) c U = (if aOK w na U c then Np w n na nd k (c + 1) (cov U (c + 1)) else 0) + (if dOK w n nd U c then Np w n na nd k (c + 1) (cov U (c + w)) else 0) := by
  simp only [Np, Lp, h]
  rw [if_neg (by simp), List.length_append]
  split <;> split <;> simp
theorem aOK_congr {U V : Nat → Bool} {c : Nat} (h : ∀ x, c ≤ x → U x = V x) : aOK w na U c = aOK w na V c := by
  unfold aOK; rw [h (c + 1) (by omega)]
theorem dOK_congr {U V : Nat → Bool} {c : Nat} (h : ∀ x, c ≤ x → U x = V x) : dOK w n nd U c = dOK w n nd V c := by
  unfold dOK; rw [h (c + w) (by omega)]
theorem Lp_congr {k : Nat} : ∀ {c : Nat} {U V : Nat → Bool}, (∀ x, c ≤ x → U x = V x) → Lp w n na nd k c U = Lp w n na nd k c V := by
  induction k with
  | zero => intros; rfl
  | succ k ih =>
    intro c U V h
    have hc : ∀ o x, c + 1 ≤ x → cov U o x = cov V o x := by
      intro o x hx; unfold cov; rw [h x (by omega)]
    unfold Lp
    rw [h c (Nat.le_refl c), aOK_congr h, dOK_congr h, ih (U := U) (V := V) (fun x hx => h x (by omega)), ih (hc (c + 1)), ih (hc (c + w))]
theorem Lp_len {k : Nat} : ∀ {c : Nat} {U : Nat → Bool} {p : List Int}, p ∈ Lp w n na nd k c U → p.length = k := by
  induction k with
  | zero => intro c U p h; simp [Lp] at h; simp [h]
  | succ k ih =>
    intro c U p h
    unfold Lp at h
    split at h
    · simp only [List.mem_map] at h
      obtain ⟨q, hq, rfl⟩ := h
      simp [ih hq]
    · simp only [List.mem_append] at h
      rcases h with h | h <;> split at h <;> simp only [List.mem_map, List.not_mem_nil] at h
      all_goals (obtain ⟨q, hq, rfl⟩ := h; simp [ih hq])
theorem frN_congr {U V : Nat → Bool} {k : Nat} : ∀ {c : Nat}, (∀ x, c ≤ x → x < c + k → U x = V x) → frN U k c = frN V k c := by
  induction k with
  | zero => intros; rfl
  | succ k ih =>
    intro c h
    unfold frN
    rw [h c (by omega) (by omega), ih (fun x h1 h2 => h x (by omega) (by omega))]
theorem frN_cov {U : Nat → Bool} {o : Nat} (ho : U o = false) {k : Nat} : ∀ {c : Nat}, c ≤ o → o < c + k → frN U k c = frN (cov U o) k c + 1 := by
  induction k with
  | zero => intro c h1 h2; omega
  | succ k ih =>
    intro c h1 h2
    unfold frN
    by_cases e : c = o
    · subst e
      have h3 : frN U k (c + 1) = frN (cov U c) k (c + 1) := frN_congr (fun x h1 h2 => by
        have : (x == c) = false := by simp; omega
        simp [cov, this])
      rw [h3]
      simp [cov, ho]
      omega
    · have : (c == o) = false := by simp [e]
      have h3 : cov U o c = U c := by simp [cov, this]
      rw [h3, ih (by omega) (by omega)]
      omega
/-- two cells a stone: no more than 2 ^ (free / 2) -/
theorem Np_le {k : Nat} : ∀ {c : Nat} {U : Nat → Bool}, 0 < w → c + k = n → (∀ x, x % w + 1 < w → x < n → x + 1 < n) → Np w n na nd k c U ≤ 2 ^ (frN U k c / 2) := by
  induction k with
  | zero => intro c U hw hn hr; simp [Np, Lp, frN]
  | succ k ih =>
    intro c U hw hn hr
    by_cases hU : U c = true
    · rw [Np_c hU]
      have := ih (c := c + 1) (U := U) hw (by omega) hr
      simpa [frN, hU] using this
    · have hU' : U c = false := by simpa using hU
      rw [Np_f hU']
      have key : ∀ o, c < o → o < n → U o = false → Np w n na nd k (c + 1) (cov U o) ≤ 2 ^ (frN U (k + 1) c / 2 - 1) ∧ 2 ≤ frN U (k + 1) c := by
        intro o h1 h2 h3
        have h4 := ih (c := c + 1) (U := cov U o) hw (by omega) hr
        have h5 := frN_cov (U := U) h3 (k := k) (c := c + 1) (by omega) (by omega)
        have h6 : frN U (k + 1) c = 2 + frN (cov U o) k (c + 1) := by
          rw [frN, h5, hU']; simp; omega
        rw [h6]
        refine ⟨?_, by omega⟩
        have : (2 + frN (cov U o) k (c + 1)) / 2 - 1 = frN (cov U o) k (c + 1) / 2 := by omega
        rw [this]; exact h4
      have e : ∀ f, 2 ≤ f → 2 ^ (f / 2) = 2 ^ (f / 2 - 1) + 2 ^ (f / 2 - 1) := by
        intro f hf
        obtain ⟨g, hg⟩ : ∃ g, f / 2 = g + 1 := ⟨f / 2 - 1, by omega⟩
        rw [hg, Nat.pow_succ]; simp; omega
      by_cases ha : aOK w na U c = true
      · have a := ha
        simp only [aOK, Bool.and_eq_true, decide_eq_true_eq, Bool.not_eq_true'] at a
        have ka := key (c + 1) (by omega) (hr c a.1.1.1 (by omega)) a.1.1.2
        rw [if_pos ha, e _ ka.2]
        by_cases hd : dOK w n nd U c = true
        · have d := hd
          simp only [dOK, Bool.and_eq_true, decide_eq_true_eq, Bool.not_eq_true'] at d
          have kd := key (c + w) (by omega) d.1.1.1 d.1.1.2
          rw [if_pos hd]
          omega
        · rw [if_neg hd]; omega
      · rw [if_neg ha]
        by_cases hd : dOK w n nd U c = true
        · have d := hd
          simp only [dOK, Bool.and_eq_true, decide_eq_true_eq, Bool.not_eq_true'] at d
          have kd := key (c + w) (by omega) d.1.1.1 d.1.1.2
          rw [if_pos hd, e _ kd.2]
          omega
        · rw [if_neg hd]; simp
end PV
/-! ===== which stones a paving has ===== -/
/-- what begins on cell x, of a paving of the cells from c on -/
def wyP (c : Nat) (p : List Int) (x : Nat) : Int := if c ≤ x then p.getD (x - c) (-1) else -1
/-- does it keep what was told -/
def fitsP (w : Nat) (na nd : Nat → Bool) : Nat → List Int → Bool
  | _, [] => true
  | c, a :: r => (a != 0 || (!na c && !na (c + 1))) && (a != 1 || (!nd c && !nd (c + w))) && fitsP w na nd (c + 1) r
section PW
variable {w n : Nat} {na nd : Nat → Bool}
theorem wyP_nil (c x : Nat) : wyP c [] x = -1 := by unfold wyP; split <;> simp
theorem wyP_hd (c : Nat) (a : Int) (r : List Int) : wyP c (a :: r) c = a := by simp [wyP]
theorem wyP_tl {c x : Nat} {a : Int} {r : List Int} (h : x ≠ c) : wyP c (a :: r) x = wyP (c + 1) r x := by
  unfold wyP
  by_cases h1 : c ≤ x
  · rw [if_pos h1, if_pos (by omega)]
    obtain ⟨j, hj⟩ : ∃ j, x - c = j + 1 := ⟨x - c - 1, by omega⟩
    rw [hj, List.getD_cons_succ]
    congr 1
    omega
  · rw [if_neg h1, if_neg (by omega)]
theorem wyP_lt {c x : Nat} {p : List Int} (h : x < c) : wyP c p x = -1 := by unfold wyP; rw [if_neg (by omega)]
/-- the three roads of a member -/
theorem Lp_cases {k c : Nat} {U : Nat → Bool} {p : List Int} (h : p ∈ Lp w n na nd (k + 1) c U) : (U c = true ∧ ∃ q, p = -1 :: q ∧ q ∈ Lp w n na nd k (c + 1) U) ∨ (U c = false ∧ aOK w na U c = true ∧ ∃ q, p = 0 :: q ∧ q ∈ Lp w n na nd k (c + 1) (cov U (c + 1))) ∨ (U c = false ∧ dOK w n nd U c = true ∧ ∃ q, p = 1 :: q ∧ q ∈ Lp w n na nd k (c + 1) (cov U (c + w))) := by
  unfold Lp at h
  by_cases hU : U c = true
  · rw [if_pos hU, List.mem_map] at h
    obtain ⟨q, h1, rfl⟩ := h
    exact Or.inl ⟨hU, q, rfl, h1⟩
  · rw [if_neg hU, List.mem_append] at h
    have hU' : U c = false := by simpa using hU
    rcases h with h | h
    · by_cases ha : aOK w na U c = true
      · rw [if_pos ha, List.mem_map] at h
        obtain ⟨q, h1, rfl⟩ := h
        exact Or.inr (Or.inl ⟨hU', ha, q, rfl, h1⟩)
      · rw [if_neg ha] at h; simp at h
    · by_cases ha : dOK w n nd U c = true
      · rw [if_pos ha, List.mem_map] at h
        obtain ⟨q, h1, rfl⟩ := h
        exact Or.inr (Or.inr ⟨hU', ha, q, rfl, h1⟩)
      · rw [if_neg ha] at h; simp at h
theorem Lp_wy {k : Nat} : ∀ {c : Nat} {U : Nat → Bool} {p : List Int}, p ∈ Lp w n na nd k c U → ∀ x, (U x = true → wyP c p x = -1) ∧ (wyP c p x = 0 → U x = false ∧ U (x + 1) = false ∧ x % w + 1 < w) ∧ (wyP c p x = 1 → U x = false ∧ U (x + w) = false ∧ x + w < n) ∧ (wyP c p x = -1 ∨ wyP c p x = 0 ∨ wyP c p x = 1) := by
  induction k with
  | zero =>
    intro c U p h x
    simp [Lp] at h
    subst h
    simp [wyP_nil]
  | succ k ih =>
    intro c U p h x
    have mono : ∀ o y, cov U o y = false → U y = false := by intro o y h; simp [cov] at h; exact h.1
    have monot : ∀ o y, U y = true → cov U o y = true := by intro o y h; simp [cov, h]
    rcases Lp_cases h with ⟨hU, q, rfl, hq⟩ | ⟨hU, ha, q, rfl, hq⟩ | ⟨hU, ha, q, rfl, hq⟩
    · by_cases e : x = c
      · subst e; simp [wyP_hd]
      · rw [wyP_tl e]; exact ih hq x
    · by_cases e : x = c
      · subst e
        simp only [aOK, Bool.and_eq_true, decide_eq_true_eq, Bool.not_eq_true'] at ha
        simp [wyP_hd, hU, ha]
      · rw [wyP_tl e]
        obtain ⟨i1, i2, i3, i4⟩ := ih hq x
        exact ⟨fun z => i1 (monot _ _ z), fun z => ⟨mono _ _ (i2 z).1, mono _ _ (i2 z).2.1, (i2 z).2.2⟩, fun z => ⟨mono _ _ (i3 z).1, mono _ _ (i3 z).2.1, (i3 z).2.2⟩, i4⟩
    · by_cases e : x = c
      · subst e
        simp only [dOK, Bool.and_eq_true, decide_eq_true_eq, Bool.not_eq_true'] at ha
        simp [wyP_hd, hU, ha]
      · rw [wyP_tl e]
        obtain ⟨i1, i2, i3, i4⟩ := ih hq x
        exact ⟨fun z => i1 (monot _ _ z), fun z => ⟨mono _ _ (i2 z).1, mono _ _ (i2 z).2.1, (i2 z).2.2⟩, fun z => ⟨mono _ _ (i3 z).1, mono _ _ (i3 z).2.1, (i3 z).2.2⟩, i4⟩
/-- what was told only leaves out -/
theorem Lp_told {na' nd' : Nat → Bool} (h1 : ∀ x, na x = true → na' x = true) (h2 : ∀ x, nd x = true → nd' x = true) {k : Nat} : ∀ {c : Nat} {U : Nat → Bool}, Lp w n na' nd' k c U = (Lp w n na nd k c U).filter (fitsP w na' nd' c) := by
  induction k with
  | zero => intro c U; rfl
  | succ k ih =>
    intro c U
    have e1 : (fitsP w na' nd' c ∘ fun x => -1 :: x) = fitsP w na' nd' (c + 1) := by funext p; simp [fitsP]
    have e2 : (fitsP w na' nd' c ∘ fun x => 0 :: x) = fun p => ((!na' c && !na' (c + 1)) && fitsP w na' nd' (c + 1) p) := by funext p; simp [fitsP]
    have e3 : (fitsP w na' nd' c ∘ fun x => 1 :: x) = fun p => ((!nd' c && !nd' (c + w)) && fitsP w na' nd' (c + 1) p) := by funext p; simp [fitsP]
    unfold Lp
    by_cases hU : U c = true
    · rw [if_pos hU, if_pos hU, List.filter_map, e1, ih]
    · rw [if_neg hU, if_neg hU, List.filter_append]
      congr 1
      · by_cases hx : (!na' c && !na' (c + 1)) = true
        · have hy : aOK w na' U c = aOK w na U c := by
            simp only [Bool.and_eq_true, Bool.not_eq_true'] at hx
            have a1 : na c = false := by cases q : na c with | false => rfl | true => simp [h1 c q] at hx
            have a2 : na (c + 1) = false := by cases q : na (c + 1) with | false => rfl | true => simp [h1 _ q] at hx
            unfold aOK; rw [hx.1, hx.2, a1, a2]
          rw [hy]
          split
          · rw [List.filter_map, e2, ih]; simp only [hx, Bool.true_and]
          · rfl
        · have hy : aOK w na' U c = false := by
            unfold aOK
            cases q1 : na' c <;> cases q2 : na' (c + 1) <;> simp [q1, q2] at hx ⊢
          rw [hy, if_neg (by simp)]
          split
          · rw [List.filter_map, e2]; simp [hx]
          · rfl
      · by_cases hx : (!nd' c && !nd' (c + w)) = true
        · have hy : dOK w n nd' U c = dOK w n nd U c := by
            simp only [Bool.and_eq_true, Bool.not_eq_true'] at hx
            have a1 : nd c = false := by cases q : nd c with | false => rfl | true => simp [h2 c q] at hx
            have a2 : nd (c + w) = false := by cases q : nd (c + w) with | false => rfl | true => simp [h2 _ q] at hx
            unfold dOK; rw [hx.1, hx.2, a1, a2]
          rw [hy]
          split
          · rw [List.filter_map, e3, ih]; simp only [hx, Bool.true_and]
          · rfl
        · have hy : dOK w n nd' U c = false := by
            unfold dOK
            cases q1 : nd' c <;> cases q2 : nd' (c + w) <;> simp [q1, q2] at hx ⊢
          rw [hy, if_neg (by simp)]
          split
          · rw [List.filter_map, e3]; simp [hx]
          · rfl
end PW
/-! ===== counting by one stone; numbers of pavings ===== -/
/-- the number of the paving p: how many are ahead of it -/
def rkP (w n : Nat) (na nd : Nat → Bool) : Nat → Nat → (Nat → Bool) → List Int → Nat
  | 0, _, _, _ => 0
  | _ + 1, _, _, [] => 0
  | k + 1, c, U, a :: r => if U c then rkP w n na nd k (c + 1) U r else if a = 1 then (if aOK w na U c then Np w n na nd k (c + 1) (cov U (c + 1)) else 0) + rkP w n na nd k (c + 1) (cov U (c + w)) r else rkP w n na nd k (c + 1) (cov U (c + 1)) r
/-- the i-th paving -/
def nthP (w n : Nat) (na nd : Nat → Bool) : Nat → Nat → (Nat → Bool) → Nat → List Int
  | 0, _, _, _ => []
  | k + 1, c, U, i => if U c then -1 :: nthP w n na nd k (c + 1) U i else if i < (if aOK w na U c then Np w n na nd k (c + 1) (cov U (c + 1)) else 0) then 0 :: nthP w n na nd k (c + 1) (cov U (c + 1)) i else 1 :: nthP w n na nd k (c + 1) (cov U (c + w)) (i - (if aOK w na U c then Np w n na nd k (c + 1) (cov U (c + 1)) else 0))
section PX
variable {w n : Nat} {na nd : Nat → Bool}
theorem cov_cov (U : Nat → Bool) (a b : Nat) : cov (cov U a) b = cov (cov U b) a := by
  funext x; unfold cov; cases U x <;> cases x == a <;> cases x == b <;> rfl
theorem cov_ne {U : Nat → Bool} {a x : Nat} (h : x ≠ a) : cov U a x = U x := by
  unfold cov; have : (x == a) = false := by simp [h]
  rw [this, Bool.or_false]
theorem cov_eq (U : Nat → Bool) (a : Nat) : cov U a a = true := by simp [cov]
theorem nthP_get {k : Nat} : ∀ {c : Nat} {U : Nat → Bool} {i : Nat}, i < Np w n na nd k c U → (Lp w n na nd k c U)[i]? = some (nthP w n na nd k c U i) := by
  induction k with
  | zero => intro c U i h; simp [Np, Lp] at h; subst h; simp [Lp, nthP]
  | succ k ih =>
    intro c U i h
    by_cases hU : U c = true
    · rw [Np_c hU] at h
      unfold Lp nthP
      rw [if_pos hU, if_pos hU, List.getElem?_map, ih h]; rfl
    · have hU' : U c = false := by simpa using hU
      rw [Np_f hU'] at h
      unfold Lp nthP
      rw [if_neg hU, if_neg hU]
      by_cases ha : aOK w na U c = true
      · simp only [if_pos ha] at h ⊢
        have hl : ((Lp w n na nd k (c + 1) (cov U (c + 1))).map (0 :: ·)).length = Np w n na nd k (c + 1) (cov U (c + 1)) := by simp [Np]
        by_cases hi : i < Np w n na nd k (c + 1) (cov U (c + 1))
        · rw [if_pos hi, List.getElem?_append_left (by rw [hl]; exact hi), List.getElem?_map, ih hi]; rfl
        · rw [if_neg hi, List.getElem?_append_right (by rw [hl]; omega), hl]
          by_cases hd : dOK w n nd U c = true
          · rw [if_pos hd] at h ⊢
            rw [List.getElem?_map, ih (by omega)]; rfl
          · rw [if_neg hd] at h; omega
      · rw [if_neg ha] at h ⊢
        rw [if_neg ha, if_neg (Nat.not_lt_zero i), List.nil_append, Nat.sub_zero]
        by_cases hd : dOK w n nd U c = true
        · rw [if_pos hd] at h ⊢
          rw [List.getElem?_map, ih (by omega)]; rfl
        · rw [if_neg hd] at h; omega
theorem rkP_nth {k : Nat} : ∀ {c : Nat} {U : Nat → Bool} {i : Nat}, i < Np w n na nd k c U → rkP w n na nd k c U (nthP w n na nd k c U i) = i := by
  induction k with
  | zero => intro c U i h; simp [Np, Lp] at h; subst h; rfl
  | succ k ih =>
    intro c U i h
    by_cases hU : U c = true
    · rw [Np_c hU] at h
      unfold nthP
      rw [if_pos hU]
      unfold rkP
      rw [if_pos hU, ih h]
    · have hU' : U c = false := by simpa using hU
      rw [Np_f hU'] at h
      unfold nthP
      rw [if_neg hU]
      by_cases hi : i < (if aOK w na U c then Np w n na nd k (c + 1) (cov U (c + 1)) else 0)
      · rw [if_pos hi]
        unfold rkP
        rw [if_neg hU, if_neg (by decide)]
        by_cases ha : aOK w na U c = true
        · rw [if_pos ha] at hi; exact ih hi
        · rw [if_neg ha] at hi; omega
      · rw [if_neg hi]
        unfold rkP
        rw [if_neg hU, if_pos rfl]
        by_cases hd : dOK w n nd U c = true
        · rw [if_pos hd] at h
          rw [ih (by omega)]; omega
        · rw [if_neg hd] at h; omega
theorem rkP_mem {k : Nat} {c : Nat} {U : Nat → Bool} {p : List Int} (h : p ∈ Lp w n na nd k c U) : rkP w n na nd k c U p < Np w n na nd k c U ∧ nthP w n na nd k c U (rkP w n na nd k c U p) = p := by
  obtain ⟨i, hi, e⟩ := List.getElem_of_mem h
  have h1 := nthP_get (w := w) (n := n) (na := na) (nd := nd) (k := k) (c := c) (U := U) (i := i) hi
  rw [List.getElem?_eq_getElem hi, e] at h1
  have h2 : p = nthP w n na nd k c U i := Option.some.inj h1
  have h3 := rkP_nth (w := w) (n := n) (na := na) (nd := nd) (k := k) (c := c) (U := U) (i := i) hi
  rw [← h2] at h3
  rw [h3]
  exact ⟨hi, h2.symm⟩
/-- pavings with a stone on c0, o0 are the pavings of the rest -/
theorem Lp_stone {c0 o0 : Nat} {a : Int} (ho : (a = 0 ∧ o0 = c0 + 1) ∨ (a = 1 ∧ o0 = c0 + w)) (hw : 1 < w) (hna : ∀ x, na x = false) (hnd : ∀ x, nd x = false) (hr : a = 0 → c0 % w + 1 < w) (hd : a = 1 → c0 + w < n) {k : Nat} : ∀ {c : Nat} {U : Nat → Bool}, c ≤ c0 → c0 < c + k → U c0 = false → U o0 = false → Np w n na nd k c (cov (cov U c0) o0) = (Lp w n na nd k c U).countP (fun p => wyP c p c0 == a) := by
  have hco : c0 < o0 := by rcases ho with h | h <;> omega
  induction k with
  | zero => intro c U h1 h2; omega
  | succ k ih =>
    intro c U h1 h2 h3 h4
    by_cases e : c = c0
    · subst e
      rw [Np_c (by rw [cov_ne (by omega), cov_eq])]
      unfold Lp
      rw [if_neg (by simp [h3]), List.countP_append]
      have hc : Np w n na nd k (c + 1) (cov (cov U c) o0) = Np w n na nd k (c + 1) (cov U o0) := by
        unfold Np
        have : Lp w n na nd k (c + 1) (cov (cov U c) o0) = Lp w n na nd k (c + 1) (cov U o0) := Lp_congr (fun x hx => by rw [cov_cov]; exact cov_ne (by omega))
        rw [this]
      rw [hc]
      have q0 : ∀ (b : Int) (l : List (List Int)), (l.map (b :: ·)).countP (fun p => wyP c p c == a) = if b = a then l.length else 0 := by
        intro b l
        rw [List.countP_map]
        have : ((fun p => wyP c p c == a) ∘ fun x => b :: x) = fun _ => b == a := by funext p; simp [wyP_hd]
        rw [this]
        by_cases hb : b = a
        · simp [hb]
        · simp [hb]
      rcases ho with ⟨rfl, rfl⟩ | ⟨rfl, rfl⟩
      · have ha : aOK w na U c = true := by simp [aOK, hna, h4, hr rfl]
        rw [if_pos ha, q0, if_pos rfl]
        have : List.countP (fun p => wyP c p c == 0) (if dOK w n nd U c = true then (Lp w n na nd k (c + 1) (cov U (c + w))).map (1 :: ·) else []) = 0 := by
          split
          · rw [q0]; rfl
          · rfl
        rw [this]; rfl
      · have ha : dOK w n nd U c = true := by simp [dOK, hnd, h4, hd rfl]
        rw [if_pos ha, q0, if_pos rfl]
        have : List.countP (fun p => wyP c p c == 1) (if aOK w na U c = true then (Lp w n na nd k (c + 1) (cov U (c + 1))).map (0 :: ·) else []) = 0 := by
          split
          · rw [q0]; rfl
          · rfl
        rw [this, Nat.zero_add]; rfl
    · have q0 : ∀ (b : Int) (l : List (List Int)), (l.map (b :: ·)).countP (fun p => wyP c p c0 == a) = l.countP (fun p => wyP (c + 1) p c0 == a) := by
        intro b l
        rw [List.countP_map]
        congr 1
        funext p
        simp [wyP_tl (Ne.symm e)]
      have hUc : cov (cov U c0) o0 c = U c := by rw [cov_ne (by omega), cov_ne (by omega)]
      by_cases hU : U c = true
      · rw [Np_c (by rw [hUc]; exact hU), ih (by omega) (by omega) h3 h4]
        rw [show Lp w n na nd (k + 1) c U = (Lp w n na nd k (c + 1) U).map (-1 :: ·) by rw [Lp, if_pos hU], q0]
      · have hU' : U c = false := by simpa using hU
        rw [Np_f (by rw [hUc]; exact hU')]
        unfold Lp
        rw [if_neg hU, List.countP_append]
        -- one road
        have road : ∀ (o : Nat), c < o → U o = false → (if cov (cov U c0) o0 o = true then 0 else Np w n na nd k (c + 1) (cov (cov (cov U c0) o0) o)) = (Lp w n na nd k (c + 1) (cov U o)).countP (fun p => wyP (c + 1) p c0 == a) := by
          intro o g1 g2
          by_cases e1 : o = c0
          · subst e1
            rw [if_pos (by rw [cov_ne (by omega), cov_eq])]
            symm
            rw [List.countP_eq_zero]
            intro p hp
            have := (Lp_wy hp o).1 (cov_eq U o)
            rw [this]
            rcases ho with ⟨rfl, _⟩ | ⟨rfl, _⟩ <;> decide
          · by_cases e2 : o = o0
            · subst e2
              rw [if_pos (cov_eq _ _)]
              symm
              rw [List.countP_eq_zero]
              intro p hp
              obtain ⟨_, i2, i3, _⟩ := Lp_wy hp c0
              rcases ho with ⟨rfl, rfl⟩ | ⟨rfl, rfl⟩
              · simp only [beq_iff_eq]
                intro z
                have := (i2 z).2.1
                rw [cov_eq] at this; cases this
              · simp only [beq_iff_eq]
                intro z
                have := (i3 z).2.1
                rw [cov_eq] at this; cases this
            · rw [if_neg (by rw [cov_ne e2, cov_ne e1, g2]; decide)]
              rw [cov_cov, cov_cov U, ih (by omega) (by omega) (by rw [cov_ne (Ne.symm e1)]; exact h3) (by rw [cov_ne (Ne.symm e2)]; exact h4)]
        congr 1
        · by_cases hx : (decide (c % w + 1 < w) && !U (c + 1)) = true
          · have hx' := hx
            simp only [Bool.and_eq_true, decide_eq_true_eq, Bool.not_eq_true'] at hx'
            rw [if_pos (show aOK w na U c = true by simp [aOK, hna, hx']), q0, ← road (c + 1) (by omega) hx'.2]
            cases z : cov (cov U c0) o0 (c + 1) <;> simp [aOK, hna, z, hx'.1]
          · have z1 : aOK w na U c = false := by simp only [aOK]; simp at hx; simp; intro a1 a2; rw [hx a1] at a2; cases a2
            have z2 : aOK w na (cov (cov U c0) o0) c = false := by
              simp only [aOK]; simp at hx; simp; intro a1 a2
              have := hx a1
              simp [cov, this] at a2
            rw [z1, z2]; rfl
        · by_cases hx : (decide (c + w < n) && !U (c + w)) = true
          · have hx' := hx
            simp only [Bool.and_eq_true, decide_eq_true_eq, Bool.not_eq_true'] at hx'
            rw [if_pos (show dOK w n nd U c = true by simp [dOK, hnd, hx']), q0, ← road (c + w) (by omega) hx'.2]
            cases z : cov (cov U c0) o0 (c + w) <;> simp [dOK, hnd, z, hx'.1]
          · have z1 : dOK w n nd U c = false := by simp only [dOK]; simp at hx; simp; intro a1 a2; rw [hx a1] at a2; cases a2
            have z2 : dOK w n nd (cov (cov U c0) o0) c = false := by
              simp only [dOK]; simp at hx; simp; intro a1 a2
              have := hx a1
              simp [cov, this] at a2
            rw [z1, z2]; rfl
theorem wyP_cons (c : Nat) (a : Int) (r : List Int) (x : Nat) : wyP c (a :: r) x = if x = c then a else wyP (c + 1) r x := by
  by_cases e : x = c
  · rw [if_pos e, e, wyP_hd]
  · rw [if_neg e, wyP_tl e]
/-- how often cell x is covered -/
def cvN (w : Nat) : Nat → List Int → Nat → Nat
  | _, [], _ => 0
  | c, a :: r, x => (if (a = 0 ∨ a = 1) ∧ x = c then 1 else 0) + (if a = 0 ∧ x = c + 1 then 1 else 0) + (if a = 1 ∧ x = c + w then 1 else 0) + cvN w (c + 1) r x
theorem cvN_lt {p : List Int} : ∀ {c x : Nat}, x < c → cvN w c p x = 0 := by
  induction p with
  | nil => intros; rfl
  | cons a r ih =>
    intro c x h
    unfold cvN
    rw [ih (by omega), if_neg (by omega), if_neg (by omega), if_neg (by omega)]
theorem cvN_wy (hw : 1 < w) {p : List Int} : ∀ {c : Nat} (x : Nat), cvN w c p x = (if wyP c p x = 0 then 1 else 0) + (if wyP c p x = 1 then 1 else 0) + (if 0 < x ∧ wyP c p (x - 1) = 0 then 1 else 0) + (if w ≤ x ∧ wyP c p (x - w) = 1 then 1 else 0) := by
  induction p with
  | nil => intro c x; simp [cvN, wyP_nil]
  | cons a r ih =>
    intro c x
    unfold cvN
    simp only [wyP_cons]
    by_cases e : x = c
    · subst e
      rw [cvN_lt (by omega)]
      have e1 : ∀ y, y < x + 1 → wyP (x + 1) r y = -1 := fun y hy => wyP_lt hy
      rw [e1 (x - 1) (by omega), e1 (x - w) (by omega)]
      have t1 : ¬ (0 < x ∧ (if x - 1 = x then a else -1) = 0) := by
        rintro ⟨z1, z2⟩; rw [if_neg (by omega)] at z2; omega
      have t2 : ¬ (w ≤ x ∧ (if x - w = x then a else -1) = 1) := by
        rintro ⟨z1, z2⟩; rw [if_neg (by omega)] at z2; omega
      rw [if_neg t1, if_neg t2]
      simp only [if_true]
      rw [if_neg (c := a = 0 ∧ x = x + 1) (by omega), if_neg (c := a = 1 ∧ x = x + w) (by omega)]
      by_cases a0 : a = 0
      · simp [a0]
      · by_cases a1 : a = 1 <;> simp [a0, a1]
    · rw [ih x, if_neg e, if_neg (c := (a = 0 ∨ a = 1) ∧ x = c) (by omega)]
      by_cases e1 : x = c + 1
      · subst e1
        have u2 : (w ≤ c + 1 ∧ (if c + 1 - w = c then a else wyP (c + 1) r (c + 1 - w)) = 1) ↔ (w ≤ c + 1 ∧ wyP (c + 1) r (c + 1 - w) = 1) := by
          by_cases z : w ≤ c + 1
          · rw [if_neg (by omega)]
          · simp only [z, false_and]
        simp only [u2]
        rw [if_pos (show c + 1 - 1 = c by omega), wyP_lt (x := c + 1 - 1) (by omega)]
        rw [if_neg (c := a = 1 ∧ c + 1 = c + w) (by omega)]
        have t3 : ¬ (0 < c + 1 ∧ (-1 : Int) = 0) := by omega
        rw [if_neg t3]
        by_cases a0 : a = 0 <;> simp [a0] <;> omega
      · rw [if_neg (c := a = 0 ∧ x = c + 1) (by omega)]
        by_cases e2 : x = c + w
        · subst e2
          rw [if_neg (c := c + w - 1 = c) (by omega), if_pos (show c + w - w = c by omega), wyP_lt (x := c + w - w) (by omega)]
          by_cases a0 : a = 1 <;> simp [a0]
          omega
        · rw [if_neg (c := a = 1 ∧ x = c + w) (by omega)]
          have u1 : (0 < x ∧ (if x - 1 = c then a else wyP (c + 1) r (x - 1)) = 0) ↔ (0 < x ∧ wyP (c + 1) r (x - 1) = 0) := by
            by_cases z : x - 1 = c
            · rw [if_pos z, z, wyP_lt (by omega)]; omega
            · rw [if_neg z]
          have u2 : (w ≤ x ∧ (if x - w = c then a else wyP (c + 1) r (x - w)) = 1) ↔ (w ≤ x ∧ wyP (c + 1) r (x - w) = 1) := by
            by_cases z : x - w = c
            · rw [if_pos z, z, wyP_lt (by omega)]; omega
            · rw [if_neg z]
          simp only [u1, u2]
          omega
/-- each cell to be covered is covered once -/
theorem Lp_once (hw : 0 < w) {k : Nat} : ∀ {c : Nat} {U : Nat → Bool} {p : List Int}, p ∈ Lp w n na nd k c U → ∀ x, c ≤ x → x < c + k → cvN w c p x = if U x then 0 else 1 := by
  induction k with
  | zero => intro c U p h x h1 h2; omega
  | succ k ih =>
    intro c U p h x h1 h2
    have tl : ∀ (V : Nat → Bool) (q : List Int), q ∈ Lp w n na nd k (c + 1) V → cvN w (c + 1) q x = if x = c then 0 else if V x then 0 else 1 := by
      intro V q hq
      by_cases e : x = c
      · rw [if_pos e, cvN_lt (by omega)]
      · rw [if_neg e, ih hq x (by omega) (by omega)]
    rcases Lp_cases h with ⟨hU, q, rfl, hq⟩ | ⟨hU, ha, q, rfl, hq⟩ | ⟨hU, ha, q, rfl, hq⟩
    · unfold cvN
      rw [tl _ _ hq]
      by_cases e : x = c
      · simp [e, hU]
      · simp [e]
    · simp only [aOK, Bool.and_eq_true, decide_eq_true_eq, Bool.not_eq_true'] at ha
      unfold cvN
      rw [tl _ _ hq]
      by_cases e : x = c
      · simp [e, hU]
      · by_cases e1 : x = c + 1
        · simp [e1, ha, cov_eq]
        · simp [e, e1, cov_ne e1]
    · simp only [dOK, Bool.and_eq_true, decide_eq_true_eq, Bool.not_eq_true'] at ha
      unfold cvN
      rw [tl _ _ hq]
      by_cases e : x = c
      · have w0 : w ≠ 0 := by omega
        simp [e, hU, w0]
      · by_cases e1 : x = c + w
        · have w0 : w ≠ 0 := by omega
          simp [e1, ha, cov_eq, w0]
        · simp [e, e1, cov_ne e1]
end PX
/-! ===== the model's table; rows ===== -/
def Um (cl : Nat → Bool) (c mask : Nat) : Nat → Bool := fun x => cl x || (decide (c ≤ x) && mask.testBit (x - c))
def aM (w : Nat) (cl na : Nat → Bool) (c mask : Nat) : Bool := decide (c % w + 1 < w) && !mask.testBit 1 && !cl (c + 1) && !na c && !na (c + 1)
def dM (w n : Nat) (cl nd : Nat → Bool) (c : Nat) : Bool := decide (c + w < n) && !cl (c + w) && !nd c && !nd (c + w)
/-- the model's numbers, cell by cell from behind -/
def Fr (w n : Nat) (cl na nd : Nat → Bool) : Nat → Nat → Nat → Int
  | 0, _, mask => if mask = 0 then 1 else 0
  | k + 1, c, mask => if mask.testBit 0 || cl c then Fr w n cl na nd k (c + 1) (mask >>> 1) else (if aM w cl na c mask then Fr w n cl na nd k (c + 1) ((mask ||| 2) >>> 1) else 0) + (if dM w n cl nd c then Fr w n cl na nd k (c + 1) (mask >>> 1 ||| 1 <<< (w - 1)) else 0)
/-- masks that can come about -/
def gM (w n c mask : Nat) : Prop := mask < 2 ^ w ∧ ∀ i, mask.testBit i = true → c + i < n
theorem tb_2 (i : Nat) : (2 : Nat).testBit i = decide (i = 1) := by
  rw [show (2 : Nat) = 2 ^ 1 from rfl, Nat.testBit_two_pow]; simp [eq_comm]
theorem tb_1s (j i : Nat) : (1 <<< j : Nat).testBit i = decide (i = j) := by
  rw [Nat.one_shiftLeft, Nat.testBit_two_pow]; simp [eq_comm]
theorem tb_hi {m w i : Nat} (h : m < 2 ^ w) (hi : w ≤ i) : m.testBit i = false := Nat.testBit_lt_two_pow (Nat.lt_of_lt_of_le h (Nat.pow_le_pow_right (by decide) hi))
theorem lt_tb {m w : Nat} (h : ∀ i, w ≤ i → m.testBit i = false) : m < 2 ^ w := Nat.lt_pow_two_of_testBit m h
section PR
variable {w n : Nat} {cl na nd : Nat → Bool}
theorem gM_s {c mask : Nat} (h : gM w n c mask) : gM w n (c + 1) (mask >>> 1) := by
  refine ⟨lt_tb (fun i hi => ?_), fun i hi => ?_⟩
  · rw [Nat.testBit_shiftRight]; exact tb_hi h.1 (by omega)
  · rw [Nat.testBit_shiftRight] at hi; have := h.2 _ hi; omega
theorem gM_a {c mask : Nat} (h : gM w n c mask) (h1 : c % w + 1 < w) (h2 : c + 1 < n) : gM w n (c + 1) ((mask ||| 2) >>> 1) := by
  refine ⟨lt_tb (fun i hi => ?_), fun i hi => ?_⟩
  · rw [Nat.testBit_shiftRight, Nat.testBit_or, tb_hi h.1 (by omega), tb_2]; simp; omega
  · rw [Nat.testBit_shiftRight, Nat.testBit_or, tb_2, Bool.or_eq_true] at hi
    rcases hi with hi | hi
    · have := h.2 _ hi; omega
    · simp at hi; omega
theorem gM_d {c mask : Nat} (h : gM w n c mask) (h0 : 0 < w) (h1 : c + w < n) : gM w n (c + 1) (mask >>> 1 ||| 1 <<< (w - 1)) := by
  refine ⟨lt_tb (fun i hi => ?_), fun i hi => ?_⟩
  · rw [Nat.testBit_or, Nat.testBit_shiftRight, tb_hi h.1 (by omega), tb_1s]; simp; omega
  · rw [Nat.testBit_or, Nat.testBit_shiftRight, tb_1s, Bool.or_eq_true] at hi
    rcases hi with hi | hi
    · have := h.2 _ hi; omega
    · simp at hi; omega
theorem Um_s {c mask x : Nat} (hx : c + 1 ≤ x) : Um cl (c + 1) (mask >>> 1) x = Um cl c mask x := by
  unfold Um
  rw [Nat.testBit_shiftRight, show 1 + (x - (c + 1)) = x - c by omega]
  simp [show c ≤ x by omega, hx]
theorem Um_a {c mask x : Nat} (hx : c + 1 ≤ x) : Um cl (c + 1) ((mask ||| 2) >>> 1) x = cov (Um cl c mask) (c + 1) x := by
  unfold Um cov
  rw [Nat.testBit_shiftRight, show 1 + (x - (c + 1)) = x - c by omega, Nat.testBit_or, tb_2]
  have e : decide (x - c = 1) = (x == c + 1) := by
    by_cases z : x = c + 1
    · subst z; simp
    · have : ¬ (x - c = 1) := by omega
      simp [z, this]
  rw [e]
  simp [show c ≤ x by omega, hx, Bool.or_assoc]
theorem Um_d {c mask x : Nat} (h0 : 0 < w) (hx : c + 1 ≤ x) : Um cl (c + 1) (mask >>> 1 ||| 1 <<< (w - 1)) x = cov (Um cl c mask) (c + w) x := by
  unfold Um cov
  rw [Nat.testBit_or, Nat.testBit_shiftRight, show 1 + (x - (c + 1)) = x - c by omega, tb_1s]
  have e : decide (x - (c + 1) = w - 1) = (x == c + w) := by
    by_cases z : x = c + w
    · subst z; simp; omega
    · have : ¬ (x - (c + 1) = w - 1) := by omega
      simp [z, this]
  rw [e]
  simp [show c ≤ x by omega, hx, Bool.or_assoc]
theorem aM_eq {c mask : Nat} : aM w cl na c mask = aOK w na (Um cl c mask) c := by
  unfold aM aOK Um
  simp [Bool.and_assoc]
  intros
  cases cl (c + 1) <;> cases mask.testBit 1 <;> simp
theorem dM_eq {c mask : Nat} (h : mask < 2 ^ w) : dM w n cl nd c = dOK w n nd (Um cl c mask) c := by
  unfold dM dOK Um
  simp [tb_hi h (show w ≤ w from Nat.le_refl w)]
theorem Fr_eq (h0 : 1 < w) (hr : ∀ x, x % w + 1 < w → x < n → x + 1 < n) {k : Nat} : ∀ {c mask : Nat}, c + k = n → gM w n c mask → Fr w n cl na nd k c mask = (Np w n na nd k c (Um cl c mask) : Int) := by
  induction k with
  | zero =>
    intro c mask h g
    have : mask = 0 := by
      apply Nat.eq_of_testBit_eq
      intro i
      rw [Nat.zero_testBit]
      cases z : mask.testBit i with
      | false => rfl
      | true => have := g.2 i z; omega
    rw [this]; rfl
  | succ k ih =>
    intro c mask h g
    have e0 : Um cl c mask c = (mask.testBit 0 || cl c) := by simp [Um, Bool.or_comm]
    unfold Fr
    by_cases hU : (mask.testBit 0 || cl c) = true
    · rw [if_pos hU, Np_c (by rw [e0]; exact hU), ih (by omega) (gM_s g)]
      unfold Np; rw [Lp_congr (fun x hx => Um_s hx)]
    · have hU' : (mask.testBit 0 || cl c) = false := by simpa using hU
      rw [if_neg hU, Np_f (by rw [e0]; exact hU'), ← aM_eq, ← dM_eq g.1, Int.natCast_add]
      congr 1
      · by_cases ha : aM w cl na c mask = true
        · rw [if_pos ha, if_pos ha]
          have a := ha
          simp only [aM, Bool.and_eq_true, decide_eq_true_eq] at a
          rw [ih (by omega) (gM_a g a.1.1.1.1 (hr c a.1.1.1.1 (by omega)))]
          unfold Np; rw [Lp_congr (fun x hx => Um_a hx)]
        · rw [if_neg ha, if_neg ha]; rfl
      · by_cases ha : dM w n cl nd c = true
        · rw [if_pos ha, if_pos ha]
          have a := ha
          simp only [dM, Bool.and_eq_true, decide_eq_true_eq] at a
          rw [ih (by omega) (gM_d g (by omega) a.1.1.1)]
          unfold Np; rw [Lp_congr (fun x hx => Um_d (by omega) hx)]
        · rw [if_neg ha, if_neg ha]; rfl
end PR
/-! ===== row by row: a row's masks of what goes down, the left cell highest ===== -/
def okB (w n : Nat) (na nd : Nat → Bool) : Nat → Nat → (Nat → Bool) → Nat → Bool
  | 0, _, _, _ => true
  | j + 1, c, U, o => if U c then !o.testBit j && okB w n na nd j (c + 1) U o else if o.testBit j then dOK w n nd U c && okB w n na nd j (c + 1) (cov U (c + w)) o else aOK w na U c && okB w n na nd j (c + 1) (cov U (c + 1)) o
/-- what is covered behind the row -/
def aftR (w : Nat) : Nat → Nat → (Nat → Bool) → Nat → (Nat → Bool)
  | 0, _, U, _ => U
  | j + 1, c, U, o => if U c then aftR w j (c + 1) U o else if o.testBit j then aftR w j (c + 1) (cov U (c + w)) o else aftR w j (c + 1) (cov U (c + 1)) o
/-- the row's ways -/
def wysR (w : Nat) : Nat → Nat → (Nat → Bool) → Nat → List Int
  | 0, _, _, _ => []
  | j + 1, c, U, o => if U c then -1 :: wysR w j (c + 1) U o else if o.testBit j then 1 :: wysR w j (c + 1) (cov U (c + w)) o else 0 :: wysR w j (c + 1) (cov U (c + 1)) o
def Eo (w n : Nat) (na nd : Nat → Bool) (j c : Nat) (U : Nat → Bool) : List Nat := (List.range (2 ^ j)).filter (okB w n na nd j c U)
section PS
variable {w n : Nat} {na nd : Nat → Bool}
theorem tb_add {j o i : Nat} (h : i < j) : (2 ^ j + o).testBit i = o.testBit i := Nat.testBit_two_pow_add_gt h o
theorem tb_top {j o : Nat} (h : o < 2 ^ j) : (2 ^ j + o).testBit j = true := by
  rw [Nat.testBit_two_pow_add_eq, tb_hi h (Nat.le_refl j)]; rfl
theorem okB_low {j : Nat} : ∀ {c : Nat} {U : Nat → Bool} {o o' : Nat}, (∀ i, i < j → o.testBit i = o'.testBit i) → okB w n na nd j c U o = okB w n na nd j c U o' := by
  induction j with
  | zero => intros; rfl
  | succ j ih =>
    intro c U o o' h
    unfold okB
    have h' : ∀ i, i < j → o.testBit i = o'.testBit i := fun i hi => h i (by omega)
    rw [h j (by omega), ih h', ih h', ih h']
theorem aftR_low {j : Nat} : ∀ {c : Nat} {U : Nat → Bool} {o o' : Nat}, (∀ i, i < j → o.testBit i = o'.testBit i) → aftR w j c U o = aftR w j c U o' := by
  induction j with
  | zero => intros; rfl
  | succ j ih =>
    intro c U o o' h
    unfold aftR
    have h' : ∀ i, i < j → o.testBit i = o'.testBit i := fun i hi => h i (by omega)
    rw [h j (by omega), ih h', ih h', ih h']
theorem wysR_low {j : Nat} : ∀ {c : Nat} {U : Nat → Bool} {o o' : Nat}, (∀ i, i < j → o.testBit i = o'.testBit i) → wysR w j c U o = wysR w j c U o' := by
  induction j with
  | zero => intros; rfl
  | succ j ih =>
    intro c U o o' h
    unfold wysR
    have h' : ∀ i, i < j → o.testBit i = o'.testBit i := fun i hi => h i (by omega)
    rw [h j (by omega), ih h', ih h', ih h']
theorem Eo_s (j c : Nat) (U : Nat → Bool) : Eo w n na nd (j + 1) c U = if U c then Eo w n na nd j (c + 1) U else (if aOK w na U c then Eo w n na nd j (c + 1) (cov U (c + 1)) else []) ++ (if dOK w n nd U c then (Eo w n na nd j (c + 1) (cov U (c + w))).map (2 ^ j + ·) else []) := by
  have hlow : ∀ (V : Nat → Bool) (x : Nat), okB w n na nd j (c + 1) V (2 ^ j + x) = okB w n na nd j (c + 1) V x := fun V x => okB_low (fun i hi => tb_add hi)
  have e : List.range (2 ^ (j + 1)) = List.range (2 ^ j) ++ (List.range (2 ^ j)).map (2 ^ j + ·) := by
    rw [Nat.pow_succ, Nat.mul_two, List.range_add]
  unfold Eo
  rw [e, List.filter_append, List.filter_map]
  have f1 : (List.range (2 ^ j)).filter (okB w n na nd (j + 1) c U) = (List.range (2 ^ j)).filter (fun o => if U c then okB w n na nd j (c + 1) U o else aOK w na U c && okB w n na nd j (c + 1) (cov U (c + 1)) o) := by
    apply List.filter_congr
    intro o ho
    have h1 : o.testBit j = false := tb_hi (List.mem_range.mp ho) (Nat.le_refl j)
    rw [okB, h1]; simp
  have f2 : (List.range (2 ^ j)).filter (okB w n na nd (j + 1) c U ∘ (2 ^ j + ·)) = (List.range (2 ^ j)).filter (fun o => if U c then false else dOK w n nd U c && okB w n na nd j (c + 1) (cov U (c + w)) o) := by
    apply List.filter_congr
    intro o ho
    have h1 : (2 ^ j + o).testBit j = true := tb_top (List.mem_range.mp ho)
    simp only [Function.comp]
    rw [okB, h1, hlow, hlow]; simp
  rw [f1, f2]
  by_cases hU : U c = true
  · simp [hU]
  · rw [if_neg hU]
    simp only [hU]
    congr 1
    · by_cases ha : aOK w na U c = true <;> simp [ha]
    · by_cases ha : dOK w n nd U c = true <;> simp [ha]
theorem Eo_0 (c : Nat) (U : Nat → Bool) : Eo w n na nd 0 c U = [0] := by simp [Eo, okB, List.range_succ]
theorem Eo_lt {j c : Nat} {U : Nat → Bool} {o : Nat} (h : o ∈ Eo w n na nd j c U) : o < 2 ^ j := by
  unfold Eo at h; exact List.mem_range.mp (List.mem_filter.mp h).1
theorem Lp_s (k c : Nat) (U : Nat → Bool) : Lp w n na nd (k + 1) c U = if U c then (Lp w n na nd k (c + 1) U).map (-1 :: ·) else (if aOK w na U c then (Lp w n na nd k (c + 1) (cov U (c + 1))).map (0 :: ·) else []) ++ (if dOK w n nd U c then (Lp w n na nd k (c + 1) (cov U (c + w))).map (1 :: ·) else []) := rfl
theorem Lp_row {k j : Nat} : ∀ {c : Nat} {U : Nat → Bool}, Lp w n na nd (j + k) c U = (Eo w n na nd j c U).flatMap (fun o => (Lp w n na nd k (c + j) (aftR w j c U o)).map (wysR w j c U o ++ ·)) := by
  induction j with
  | zero => intro c U; simp [Eo_0, aftR, wysR]
  | succ j ih =>
    intro c U
    rw [Eo_s, show j + 1 + k = (j + k) + 1 by omega, Lp_s]
    by_cases hU : U c = true
    · rw [if_pos hU, if_pos hU, ih, List.map_flatMap]
      congr 1
      funext o
      rw [aftR, if_pos hU, wysR, if_pos hU, List.map_map, show c + 1 + j = c + (j + 1) by omega]
      rfl
    · rw [if_neg hU, if_neg hU, List.flatMap_append]
      congr 1
      · by_cases ha : aOK w na U c = true
        · rw [if_pos ha, if_pos ha, ih, List.map_flatMap]
          unfold List.flatMap
          congr 1
          apply List.map_congr_left
          intro o ho
          have h1 : o.testBit j = false := tb_hi (Eo_lt ho) (Nat.le_refl j)
          rw [aftR, if_neg hU, h1, wysR, if_neg hU, h1, List.map_map, show c + 1 + j = c + (j + 1) by omega]
          rfl
        · rw [if_neg ha, if_neg ha]; rfl
      · by_cases ha : dOK w n nd U c = true
        · rw [if_pos ha, if_pos ha, ih, List.map_flatMap, List.flatMap_map]
          unfold List.flatMap
          congr 1
          apply List.map_congr_left
          intro o ho
          have h1 : (2 ^ j + o).testBit j = true := tb_top (Eo_lt ho)
          rw [aftR, if_neg hU, h1, wysR, if_neg hU, h1, List.map_map, show c + 1 + j = c + (j + 1) by omega]
          rw [if_pos rfl, if_pos rfl, aftR_low (o := 2 ^ j + o) (o' := o) (fun i hi => tb_add hi), wysR_low (o := 2 ^ j + o) (o' := o) (fun i hi => tb_add hi)]
          rfl
        · rw [if_neg ha, if_neg ha]; rfl
theorem Np_row {k j c : Nat} {U : Nat → Bool} : Np w n na nd (j + k) c U = ((Eo w n na nd j c U).map (fun o => Np w n na nd k (c + j) (aftR w j c U o))).sum := by
  unfold Np
  rw [Lp_row, List.length_flatMap]
  simp only [List.length_map]
/-- what is covered behind a whole row -/
theorem aftR_at {j : Nat} : ∀ {c : Nat} {U : Nat → Bool} {o x : Nat}, 0 < w → j ≤ w → (c + j) % w = 0 → o ∈ Eo w n na nd j c U → c + j ≤ x → aftR w j c U o x = (U x || (decide (c + w ≤ x) && decide (x < c + w + j) && o.testBit (j - 1 - (x - c - w)))) := by
  induction j with
  | zero => intro c U o x hw hj hc ho hx; simp [aftR]; omega
  | succ j ih =>
    intro c U o x hw hj hc ho hx
    rw [Eo_s] at ho
    have hb : x ≠ c + w → (decide (c + 1 + w ≤ x) && decide (x < c + 1 + w + j) && o.testBit (j - 1 - (x - (c + 1) - w))) = (decide (c + w ≤ x) && decide (x < c + w + (j + 1)) && o.testBit (j + 1 - 1 - (x - c - w))) := by
      intro hne
      by_cases z : c + 1 + w ≤ x
      · rw [show j - 1 - (x - (c + 1) - w) = j + 1 - 1 - (x - c - w) by omega]
        have z2 : (x < c + 1 + w + j) = (x < c + w + (j + 1)) := by apply propext; omega
        simp [z, z2, show c + w ≤ x by omega]
      · have : ¬ c + w ≤ x := by omega
        simp [z, this]
    unfold aftR
    by_cases hU : U c = true
    · rw [if_pos hU] at ho ⊢
      rw [ih hw (by omega) (by rw [← hc]; congr 1; omega) ho (by omega)]
      by_cases e : x = c + w
      · subst e
        have h1 : o.testBit j = false := tb_hi (Eo_lt ho) (Nat.le_refl j)
        have : ¬ c + 1 + w ≤ c + w := by omega
        simp [this, h1]
      · rw [hb e]
    · rw [if_neg hU] at ho ⊢
      rw [List.mem_append] at ho
      rcases ho with ho | ho
      · by_cases ha : aOK w na U c = true
        · rw [if_pos ha] at ho
          have h1 : o.testBit j = false := tb_hi (Eo_lt ho) (Nat.le_refl j)
          rw [h1, if_neg (by decide), ih hw (by omega) (by rw [← hc]; congr 1; omega) ho (by omega)]
          simp only [aOK, Bool.and_eq_true, decide_eq_true_eq] at ha
          have hj0 : 0 < j := by
            rcases Nat.eq_zero_or_pos j with z | z
            · subst z
              exfalso
              have z1 := ha.1.1.1
              have := Nat.add_mod c 1 w
              have z2 : c % w < w := Nat.mod_lt _ hw
              rw [Nat.mod_eq_of_lt (a := 1) (by omega), Nat.mod_eq_of_lt (a := c % w + 1) z1] at this
              simp at hc
              omega
            · exact z
          rw [cov_ne (show x ≠ c + 1 by omega)]
          by_cases e : x = c + w
          · subst e
            have : ¬ c + 1 + w ≤ c + w := by omega
            simp [this, h1]
          · rw [hb e]
        · rw [if_neg ha] at ho; simp at ho
      · by_cases ha : dOK w n nd U c = true
        · rw [if_pos ha, List.mem_map] at ho
          obtain ⟨o', ho', rfl⟩ := ho
          have h1 : (2 ^ j + o').testBit j = true := tb_top (Eo_lt ho')
          rw [h1, if_pos rfl, aftR_low (o := 2 ^ j + o') (o' := o') (fun i hi => tb_add hi), ih hw (by omega) (by rw [← hc]; congr 1; omega) ho' (by omega)]
          by_cases e : x = c + w
          · subst e
            have : ¬ c + 1 + w ≤ c + w := by omega
            simp [this, cov_eq, h1]
          · rw [cov_ne e, ← hb e]
            by_cases z : c + 1 + w ≤ x ∧ x < c + 1 + w + j
            · rw [tb_add (by omega)]
            · by_cases z1 : c + 1 + w ≤ x
              · have : ¬ x < c + 1 + w + j := fun q => z ⟨z1, q⟩
                simp [this]
              · simp [z1]
        · rw [if_neg ha] at ho; simp at ho
end PS
/-! ===== which masks a row takes ===== -/
/-- runs of f among the j lowest bits, from the highest on, pair off; bl: the highest is the second of a pair -/
def evR : Nat → (Nat → Bool) → Bool → Bool
  | 0, _, bl => !bl
  | j + 1, f, bl => if bl then f j && evR j f false else if f j then evR j f true else evR j f false
section PT
variable {w n : Nat} {na nd : Nat → Bool}
theorem evR_congr {j : Nat} : ∀ {f g : Nat → Bool} {bl : Bool}, (∀ i, i < j → f i = g i) → evR j f bl = evR j g bl := by
  induction j with
  | zero => intros; rfl
  | succ j ih =>
    intro f g bl h
    have h' : ∀ i, i < j → f i = g i := fun i hi => h i (by omega)
    unfold evR
    rw [h j (by omega), ih h', ih h']
theorem okB_congr {j : Nat} : ∀ {c : Nat} {U V : Nat → Bool} {o : Nat}, 0 < w → j ≤ w → (c + j) % w = 0 → (∀ x, c ≤ x → x < c + j → U x = V x) → (∀ x, c + w ≤ x → x < c + w + j → U x = V x) → okB w n na nd j c U o = okB w n na nd j c V o := by
  induction j with
  | zero => intros; rfl
  | succ j ih =>
    intro c U V o hw hj hc h1 h2
    have hc' : (c + 1 + j) % w = 0 := by rw [← hc]; congr 1; omega
    unfold okB
    have e1 : dOK w n nd U c = dOK w n nd V c := by unfold dOK; rw [h2 (c + w) (by omega) (by omega)]
    have e2 : aOK w na U c = aOK w na V c := by
      unfold aOK
      by_cases z : c % w + 1 < w
      · have hj0 : 0 < j := by
          rcases Nat.eq_zero_or_pos j with q | q
          · subst q
            exfalso
            have := Nat.add_mod c 1 w
            rw [Nat.mod_eq_of_lt (a := 1) (by omega), Nat.mod_eq_of_lt (a := c % w + 1) z] at this
            simp at hc
            omega
          · exact q
        rw [h1 (c + 1) (by omega) (by omega)]
      · simp [z]
    have k1 : okB w n na nd j (c + 1) U o = okB w n na nd j (c + 1) V o := ih hw (by omega) hc' (fun x a b => h1 x (by omega) (by omega)) (fun x a b => h2 x (by omega) (by omega))
    have k2 : ∀ q, okB w n na nd j (c + 1) (cov U q) o = okB w n na nd j (c + 1) (cov V q) o := fun q => ih hw (by omega) hc' (fun x a b => by unfold cov; rw [h1 x (by omega) (by omega)]) (fun x a b => by unfold cov; rw [h2 x (by omega) (by omega)])
    rw [h1 c (by omega) (by omega), e1, e2, k1, k2, k2]
/-- in words: what goes down may, what is left pairs off, and may -/
theorem okB_iff {j : Nat} : ∀ {c : Nat} {U : Nat → Bool} {o : Nat} {bl : Bool}, 0 < w → j ≤ w → (c + j) % w = 0 → (bl = true → 0 < j ∧ U c = false ∧ na c = false) → (okB w n na nd j c (if bl then cov U c else U) o = true ↔ (∀ i, i < j → o.testBit i = true → U (c + (j - 1 - i)) = false ∧ dOK w n nd U (c + (j - 1 - i)) = true) ∧ evR j (fun i => !U (c + (j - 1 - i)) && !o.testBit i) bl = true ∧ (∀ i, i < j → U (c + (j - 1 - i)) = false → o.testBit i = false → na (c + (j - 1 - i)) = false)) := by
  induction j with
  | zero =>
    intro c U o bl hw hj hc hb
    cases bl with
    | true => exact absurd (hb rfl).1 (Nat.lt_irrefl 0)
    | false => simp [okB, evR]
  | succ j ih =>
    intro c U o bl hw hj hc hb
    have hc' : (c + 1 + j) % w = 0 := by rw [← hc]; congr 1; omega
    -- the cells behind
    have ix : ∀ i, i < j → c + (j + 1 - 1 - i) = c + 1 + (j - 1 - i) := by intro i hi; omega
    have i0 : c + (j + 1 - 1 - j) = c := by omega
    have split : ∀ (P : Nat → Prop), (∀ i, i < j + 1 → P i) ↔ P j ∧ ∀ i, i < j → P i := by
      intro P
      constructor
      · exact fun h => ⟨h j (by omega), fun i hi => h i (by omega)⟩
      · intro h i hi
        rcases Nat.lt_or_ge i j with q | q
        · exact h.2 i q
        · rw [show i = j by omega]; exact h.1
    have ev' : ∀ b, evR j (fun i => !U (c + (j + 1 - 1 - i)) && !o.testBit i) b = evR j (fun i => !U (c + 1 + (j - 1 - i)) && !o.testBit i) b := fun b => evR_congr (fun i hi => by rw [ix i hi])
    have pA : (∀ i, i < j → o.testBit i = true → U (c + (j + 1 - 1 - i)) = false ∧ dOK w n nd U (c + (j + 1 - 1 - i)) = true) ↔ (∀ i, i < j → o.testBit i = true → U (c + 1 + (j - 1 - i)) = false ∧ dOK w n nd U (c + 1 + (j - 1 - i)) = true) := by
      constructor <;> intro h i hi <;> have := h i hi <;> rw [ix i hi] at * <;> exact this
    have pC : (∀ i, i < j → U (c + (j + 1 - 1 - i)) = false → o.testBit i = false → na (c + (j + 1 - 1 - i)) = false) ↔ (∀ i, i < j → U (c + 1 + (j - 1 - i)) = false → o.testBit i = false → na (c + 1 + (j - 1 - i)) = false) := by
      constructor <;> intro h i hi <;> have := h i hi <;> rw [ix i hi] at * <;> exact this
    rw [split, split, i0, pA, pC]
    unfold evR
    rw [ev', ev']
    simp only [i0]
    have I0 := ih (c := c + 1) (U := U) (o := o) (bl := false) hw (by omega) hc' (by simp)
    simp only [Bool.false_eq_true, if_false] at I0
    cases bl with
    | true =>
      obtain ⟨_, b2, b3⟩ := hb rfl
      have e1 : okB w n na nd j (c + 1) (cov U c) o = okB w n na nd j (c + 1) U o := okB_congr hw (by omega) hc' (fun x a b => cov_ne (by omega)) (fun x a b => cov_ne (by omega))
      simp only [if_true]
      rw [okB, if_pos (cov_eq U c), Bool.and_eq_true, e1, I0]
      cases q : o.testBit j <;> simp [b2, b3]
    | false =>
      simp only [Bool.false_eq_true, if_false]
      rw [okB]
      by_cases hU : U c = true
      · rw [if_pos hU, Bool.and_eq_true, I0]
        cases q : o.testBit j <;> simp [hU]
      · have hU' : U c = false := by simpa using hU
        rw [if_neg hU]
        cases q : o.testBit j with
        | true =>
          have e1 : okB w n na nd j (c + 1) (cov U (c + w)) o = okB w n na nd j (c + 1) U o := okB_congr hw (by omega) hc' (fun x a b => cov_ne (by omega)) (fun x a b => cov_ne (by omega))
          rw [if_pos rfl, Bool.and_eq_true, e1, I0]
          simp [hU', and_assoc]
        | false =>
          rw [if_neg (by decide), Bool.and_eq_true]
          by_cases z : c % w + 1 < w ∧ U (c + 1) = false ∧ na (c + 1) = false
          · have hj0 : 0 < j := by
              rcases Nat.eq_zero_or_pos j with q | q
              · subst q
                exfalso
                have := Nat.add_mod c 1 w
                rw [Nat.mod_eq_of_lt (a := 1) (by omega), Nat.mod_eq_of_lt (a := c % w + 1) z.1] at this
                simp at hc
                omega
              · exact q
            have I1 := ih (c := c + 1) (U := U) (o := o) (bl := true) hw (by omega) hc' (fun _ => ⟨hj0, z.2.1, z.2.2⟩)
            simp only [if_true] at I1
            rw [I1]
            simp [aOK, z.1, z.2.1, z.2.2, hU']
            constructor
            · rintro ⟨a, b, d, e⟩; exact ⟨b, d, a, e⟩
            · rintro ⟨a, b, d, e⟩; exact ⟨d, a, b, e⟩
          · have na1 : aOK w na U c = false := by
              simp only [aOK]
              by_cases z1 : c % w + 1 < w
              · by_cases z2 : U (c + 1) = false
                · have z3 : na (c + 1) = true := by
                    cases q : na (c + 1) with
                    | true => rfl
                    | false => exact absurd ⟨z1, z2, q⟩ z
                  simp [z3]
                · simp at z2; simp [z2]
              · simp [z1]
            rw [na1]
            simp [hU']
            -- the second of the pair can't be
            intro hA hE hna
            refine Classical.byContradiction (fun hN => ?_)
            have hC : ∀ i, i < j → U (c + 1 + (j - 1 - i)) = false → o.testBit i = false → na (c + 1 + (j - 1 - i)) = false := by
              intro i h1 h2 h3
              cases h4 : na (c + 1 + (j - 1 - i)) with
              | false => rfl
              | true => exact absurd ⟨i, h1, h2, h3, h4⟩ hN
            cases j with
            | zero => simp [evR] at hE
            | succ j =>
              simp only [evR, if_true, Bool.and_eq_true, Bool.not_eq_true'] at hE
              have hE1 := hE.1
              rw [show c + 1 + (j + 1 - 1 - j) = c + 1 by omega] at hE1
              have hC1 := hC j (by omega)
              rw [show c + 1 + (j + 1 - 1 - j) = c + 1 by omega] at hC1
              have hm : c % w + 1 < w := by
                rcases Nat.lt_or_ge (c % w + 1) w with q | q
                · exact q
                · exfalso
                  have z2 : c % w < w := Nat.mod_lt _ hw
                  have z3 : (c + 1) % w = 0 := by
                    rw [Nat.add_mod, show c % w = w - 1 by omega]
                    by_cases w1 : w = 1
                    · subst w1; simp
                    · rw [Nat.mod_eq_of_lt (a := 1) (by omega), show w - 1 + 1 = w by omega, Nat.mod_self]
                  have z4 : (c + 1 + (j + 1)) % w = (j + 1) % w := by rw [Nat.add_mod, z3, Nat.zero_add, Nat.mod_mod]
                  rw [z4, Nat.mod_eq_of_lt (by omega)] at hc'
                  omega
              exact z ⟨hm, hE1.1, hC1 hE1.1 hE1.2⟩
end PT
/-! ===== the class's rows: masks ===== -/
def mkM : Nat → (Nat → Bool) → Nat
  | 0, _ => 0
  | j + 1, g => mkM j g + (if g j then 2 ^ j else 0)
theorem mkM_lt : ∀ (j : Nat) (g : Nat → Bool), mkM j g < 2 ^ j
  | 0, _ => by simp [mkM]
  | j + 1, g => by
    have := mkM_lt j g
    unfold mkM
    rw [Nat.pow_succ]
    split <;> omega
theorem mkM_tb : ∀ (j : Nat) (g : Nat → Bool) (i : Nat), (mkM j g).testBit i = (decide (i < j) && g i)
  | 0, g, i => by simp [mkM]
  | j + 1, g, i => by
    have ih := mkM_tb j g
    have hl := mkM_lt j g
    unfold mkM
    by_cases hg : g j = true
    · rw [if_pos hg, Nat.add_comm]
      rcases Nat.lt_trichotomy i j with h | h | h
      · rw [tb_add h, ih]; simp [h, show i < j + 1 by omega]
      · subst h; rw [tb_top hl]; simp [hg]
      · rw [tb_hi (w := j + 1) (by rw [Nat.pow_succ]; omega) (by omega)]; simp; omega
    · rw [if_neg hg, Nat.add_zero, ih]
      rcases Nat.lt_trichotomy i j with h | h | h
      · simp [h, show i < j + 1 by omega]
      · subst h; simp [hg]
      · simp [show ¬ i < j by omega, show ¬ i < j + 1 by omega]
theorem mkM_eq {j m : Nat} {g : Nat → Bool} (h : m < 2 ^ j) (h2 : ∀ i, i < j → m.testBit i = g i) : m = mkM j g := by
  apply Nat.eq_of_testBit_eq
  intro i
  rw [mkM_tb]
  by_cases z : i < j
  · simp [z, h2 i z]
  · simp [z, tb_hi h (show j ≤ i by omega)]
def oddG (m : Nat) : Nat → Nat → Nat → Nat → Nat
  | 0, _, odd, _ => odd
  | f + 1, i, odd, run => if m.testBit i then oddG m f (i + 1) odd (run + 1) else oddG m f (i + 1) (odd + run % 2) 0
def oddR (m : Nat) : Nat := oddG m 7 0 0 0
theorem oddR_ev : ∀ m, m < 64 → (oddR m == 0) = evR 6 m.testBit false := by decide +kernel
/-- the cell behind bit i of row y -/
def clB (w y i : Nat) : Nat := y * w + (w - 1 - i)
/-- a row's mask of a property of cells -/
def rwM (w : Nat) (f : Nat → Bool) (y : Nat) : Nat := mkM w (fun i => f (clB w y i))
def clM (w h : Nat) (cl : Nat → Bool) (y : Nat) : Nat := if y < h then rwM w cl y else 2 ^ w - 1
def tlM (w h : Nat) (f : Nat → Bool) (y : Nat) : Nat := if y < h then rwM w f y else 0
/-- a without b, in the w lowest bits -/
def ndM (w b : Nat) : Nat := mkM w (fun i => !b.testBit i)
def room (w h : Nat) (cl nd : Nat → Bool) (y into : Nat) : Nat := ndM w (clM w h cl y ||| clM w h cl (y + 1) ||| tlM w h nd y ||| tlM w h nd (y + 1) ||| into)
def canR (w h : Nat) (cl nd : Nat → Bool) (y into : Nat) : Bool := if y = 0 then into == 0 else into &&& room w h cl nd (y - 1) 0 == into
def lone (w h : Nat) (cl : Nat → Bool) (y into o : Nat) : Nat := oddR (ndM w (clM w h cl y ||| into ||| o))
def fill (w h : Nat) (cl na : Nat → Bool) (y into o : Nat) : Bool := (tlM w h na y &&& (into ||| o) == tlM w h na y) && lone w h cl y into o == 0
def subs (r : Nat) : List Nat := (List.range 64).filter (fun p => p &&& r == p)
/-- the class's numbers, row by row from behind -/
def Wr (w h : Nat) (cl na nd : Nat → Bool) : Nat → Nat → Nat → Nat
  | 0, _, into => if into = 0 then 1 else 0
  | k + 1, y, into => if canR w h cl nd y into then ((subs (room w h cl nd y into)).map (fun o => if fill w h cl na y into o then Wr w h cl na nd k (y + 1) o else 0)).sum else 0
def Uc (w : Nat) (cl : Nat → Bool) (y into : Nat) : Nat → Bool := fun x => cl x || (decide (y * w ≤ x) && decide (x < y * w + w) && into.testBit (w - 1 - (x - y * w)))
theorem and_sub {p r : Nat} : (p &&& r == p) = true ↔ ∀ i, p.testBit i = true → r.testBit i = true := by
  rw [beq_iff_eq]
  constructor
  · intro h i hi
    have : (p &&& r).testBit i = p.testBit i := by rw [h]
    rw [Nat.testBit_and, hi] at this
    simpa using this
  · intro h
    apply Nat.eq_of_testBit_eq
    intro i
    rw [Nat.testBit_and]
    cases z : p.testBit i with
    | false => rfl
    | true => simp [h i z]
section PU
variable {w h : Nat} {cl na nd : Nat → Bool}
theorem clM_tb {y i : Nat} : (clM w h cl y).testBit i = (decide (i < w) && (decide (h ≤ y) || cl (clB w y i))) := by
  unfold clM
  by_cases z : y < h
  · rw [if_pos z, rwM, mkM_tb]; simp [show ¬ h ≤ y by omega]
  · rw [if_neg z, Nat.testBit_two_pow_sub_one]; simp [show h ≤ y by omega]
theorem tlM_tb {f : Nat → Bool} {y i : Nat} : (tlM w h f y).testBit i = (decide (i < w) && (decide (y < h) && f (clB w y i))) := by
  unfold tlM
  by_cases z : y < h
  · rw [if_pos z, rwM, mkM_tb]; simp [z]
  · rw [if_neg z]; simp [z]
theorem room_tb {y into i : Nat} : (room w h cl nd y into).testBit i = (decide (i < w) && !(clM w h cl y).testBit i && !(clM w h cl (y + 1)).testBit i && !(tlM w h nd y).testBit i && !(tlM w h nd (y + 1)).testBit i && !into.testBit i) := by
  unfold room ndM
  rw [mkM_tb]
  simp only [Nat.testBit_or, Bool.not_or, Bool.and_assoc]
theorem room_lt {y into : Nat} : room w h cl nd y into < 2 ^ w := mkM_lt _ _
theorem Uc_row {y into i : Nat} (hi : i < w) : Uc w cl y into (clB w y i) = (cl (clB w y i) || into.testBit i) := by
  unfold Uc clB
  rw [show w - 1 - (y * w + (w - 1 - i) - y * w) = i by omega]
  simp [show y * w + (w - 1 - i) < y * w + w by omega]
theorem Uc_next {y into x : Nat} (hx : y * w + w ≤ x) : Uc w cl y into x = cl x := by
  unfold Uc
  simp [show ¬ x < y * w + w by omega]
theorem clB_next (y i : Nat) : clB w y i + w = clB w (y + 1) i := by unfold clB; rw [Nat.succ_mul]; omega
theorem evR_up {f : Nat → Bool} : ∀ {d j : Nat}, (∀ i, j ≤ i → f i = false) → evR (j + d) f false = evR j f false
  | 0, _, _ => rfl
  | d + 1, j, hf => by
    rw [show j + (d + 1) = (j + d) + 1 by omega, evR, hf (j + d) (by omega)]
    simp only [Bool.false_eq_true, if_false]
    exact evR_up hf
theorem clB_lt {y i : Nat} (hi : i < w) (hy : y < h) : clB w y i < w * h := by
  unfold clB
  have : (y + 1) * w ≤ h * w := Nat.mul_le_mul_right w hy
  rw [Nat.succ_mul] at this
  rw [Nat.mul_comm w h]
  omega
/-- which masks a row takes, in the class's words -/
theorem okB_row (hw : 1 < w) (hw6 : w ≤ 6) {y into o : Nat} (hy : y < h) (ho : o < 2 ^ w) (hn : ∀ x, na x = true → cl x = false) : okB w (w * h) na nd w (y * w) (Uc w cl y into) o = ((o &&& room w h cl nd y into == o) && fill w h cl na y into o) := by
  rw [Bool.eq_iff_iff]
  have I := okB_iff (w := w) (n := w * h) (na := na) (nd := nd) (j := w) (c := y * w) (U := Uc w cl y into) (o := o) (bl := false) (by omega) (Nat.le_refl w) (by rw [Nat.add_mod_right, Nat.mul_mod_left]) (by simp)
  simp only [Bool.false_eq_true, if_false] at I
  rw [I, Bool.and_eq_true, fill, Bool.and_eq_true, and_sub, and_sub]
  have cB : ∀ i, y * w + (w - 1 - i) = clB w y i := fun i => rfl
  have e1 : (∀ i, i < w → o.testBit i = true → Uc w cl y into (y * w + (w - 1 - i)) = false ∧ dOK w (w * h) nd (Uc w cl y into) (y * w + (w - 1 - i)) = true) ↔ (∀ i, o.testBit i = true → (room w h cl nd y into).testBit i = true) := by
    constructor
    · intro a i hi
      have hiw : i < w := by
        rcases Nat.lt_or_ge i w with q | q
        · exact q
        · rw [tb_hi ho q] at hi; cases hi
      obtain ⟨b1, b2⟩ := a i hiw hi
      rw [cB, Uc_row hiw, Bool.or_eq_false_iff] at b1
      rw [cB] at b2
      simp only [dOK, Bool.and_eq_true, decide_eq_true_eq, Bool.not_eq_true'] at b2
      obtain ⟨⟨⟨d1, d2⟩, d3⟩, d4⟩ := b2
      have hyn : y + 1 < h := by
        rcases Nat.lt_or_ge (y + 1) h with q | q
        · exact q
        · exfalso
          rw [clB_next, clB, show h = y + 1 by omega, Nat.mul_comm w] at d1
          omega
      rw [Uc_next (by unfold clB; omega), clB_next] at d2
      rw [clB_next] at d4
      rw [room_tb, clM_tb, clM_tb, tlM_tb, tlM_tb]
      simp [hiw, b1, d2, d3, d4, show ¬ h ≤ y by omega, show ¬ h ≤ y + 1 by omega]
    · intro a i hiw hi
      have b := a i hi
      rw [room_tb, clM_tb, clM_tb, tlM_tb, tlM_tb] at b
      simp [hiw, hy] at b
      obtain ⟨⟨⟨⟨b1, b2, b3⟩, b4⟩, b5⟩, b6⟩ := b
      rw [cB, Uc_row hiw]
      refine ⟨by simp [b1, b6], ?_⟩
      simp only [dOK, Bool.and_eq_true, decide_eq_true_eq, Bool.not_eq_true']
      rw [Uc_next (by unfold clB; omega), clB_next]
      exact ⟨⟨⟨clB_lt hiw (by omega), b3⟩, b4⟩, b5.resolve_left (by omega)⟩
  have e2 : evR w (fun i => !Uc w cl y into (y * w + (w - 1 - i)) && !o.testBit i) false = (lone w h cl y into o == 0) := by
    have hm : ndM w (clM w h cl y ||| into ||| o) < 64 := Nat.lt_of_lt_of_le (mkM_lt _ _) (show 2 ^ w ≤ 2 ^ 6 from Nat.pow_le_pow_right (by decide) hw6)
    rw [lone, oddR_ev _ hm]
    have := evR_up (f := (ndM w (clM w h cl y ||| into ||| o)).testBit) (d := 6 - w) (j := w) (fun i hi => by rw [ndM, mkM_tb]; simp; omega)
    rw [show w + (6 - w) = 6 by omega] at this
    rw [this]
    apply evR_congr
    intro i hi
    rw [cB, Uc_row hi, ndM, mkM_tb, Nat.testBit_or, Nat.testBit_or, clM_tb]
    simp [hi, show ¬ h ≤ y by omega, Bool.and_assoc]
  have e3 : (∀ i, i < w → Uc w cl y into (y * w + (w - 1 - i)) = false → o.testBit i = false → na (y * w + (w - 1 - i)) = false) ↔ (∀ i, (tlM w h na y).testBit i = true → (into ||| o).testBit i = true) := by
    constructor
    · intro a i hi
      rw [tlM_tb] at hi
      simp only [Bool.and_eq_true, decide_eq_true_eq] at hi
      obtain ⟨hiw, _, hna⟩ := hi
      have b := a i hiw
      rw [cB, Uc_row hiw, hn _ hna, Bool.false_or, hna] at b
      rw [Nat.testBit_or]
      cases q1 : into.testBit i with
      | true => rfl
      | false =>
        cases q2 : o.testBit i with
        | true => rfl
        | false => exact absurd (b q1 q2) (by decide)
    · intro a i hiw h1 h2
      rw [cB, Uc_row hiw, Bool.or_eq_false_iff] at h1
      rw [cB]
      cases q : na (clB w y i) with
      | false => rfl
      | true =>
        have := a i (by rw [tlM_tb]; simp [hiw, hy, q])
        rw [Nat.testBit_or, h1.2, h2] at this
        cases this
  rw [e1, e2, e3]
  constructor
  · rintro ⟨a, b, c⟩; exact ⟨a, c, b⟩
  · rintro ⟨a, c, b⟩; exact ⟨a, b, c⟩
end PU
/-! ===== rows tell all pavings ===== -/
/-- the masks that row y takes -/
def outs (w h : Nat) (cl na nd : Nat → Bool) (y into : Nat) : List Nat := (subs (room w h cl nd y into)).filter (fill w h cl na y into)
/-- in a row of blocks, the block of the i-th and its place there -/
def pick (g : Nat → Nat) : List Nat → Nat → Option (Nat × Nat)
  | [], _ => none
  | o :: l, i => if i < g o then some (o, i) else pick g l (i - g o)
def row1 (w : Nat) (p : List Int) : Nat := mkM w (fun i => p.getD (w - 1 - i) (-1) == 1)
/-- a paving's masks, k rows of them -/
def lnP (w : Nat) : Nat → List Int → List Nat
  | 0, _ => []
  | k + 1, p => row1 w p :: lnP w k (p.drop w)
section PY
variable {w h : Nat} {cl na nd : Nat → Bool}
theorem sub_lt {o r : Nat} (h1 : (o &&& r == o) = true) (h2 : r < 2 ^ w) : o < 2 ^ w :=
  lt_tb (fun i hi => by
    cases z : o.testBit i with
    | false => rfl
    | true => have := and_sub.mp h1 i z; rw [tb_hi h2 hi] at this; cases this)
theorem subs_w (hw6 : w ≤ 6) {r : Nat} (h2 : r < 2 ^ w) : subs r = (List.range (2 ^ w)).filter (fun p => p &&& r == p) := by
  have hp : 2 ^ w ≤ 64 := show 2 ^ w ≤ 2 ^ 6 from Nat.pow_le_pow_right (by decide) hw6
  have e : List.range 64 = List.range (2 ^ w) ++ (List.range (64 - 2 ^ w)).map (2 ^ w + ·) := by
    rw [← List.range_add]; congr 1; omega
  unfold subs
  rw [e, List.filter_append, List.filter_map]
  have : (List.range (64 - 2 ^ w)).filter ((fun p => p &&& r == p) ∘ (2 ^ w + ·)) = [] := by
    rw [List.filter_eq_nil_iff]
    intro a _ ha
    have : 2 ^ w + a < 2 ^ w := sub_lt (w := w) ha h2
    omega
  rw [this]; simp
theorem Eo_row (hw : 1 < w) (hw6 : w ≤ 6) {y into : Nat} (hy : y < h) (hn : ∀ x, na x = true → cl x = false) : Eo w (w * h) na nd w (y * w) (Uc w cl y into) = outs w h cl na nd y into := by
  unfold Eo outs
  rw [subs_w hw6 room_lt, List.filter_filter]
  apply List.filter_congr
  intro o ho
  rw [okB_row hw hw6 hy (List.mem_range.mp ho) hn, Bool.and_comm]
theorem outs_sub {y into o : Nat} (ho : o ∈ outs w h cl na nd y into) : (o &&& room w h cl nd y into == o) = true ∧ o < 2 ^ w := by
  unfold outs subs at ho
  have := (List.mem_filter.mp (List.mem_filter.mp ho).1).2
  exact ⟨this, sub_lt this room_lt⟩
theorem outs_can {y into o : Nat} (ho : o ∈ outs w h cl na nd y into) : canR w h cl nd (y + 1) o = true := by
  unfold canR
  rw [if_neg (by omega), Nat.add_sub_cancel, and_sub]
  intro i hi
  have := and_sub.mp (outs_sub ho).1 i hi
  rw [room_tb] at this ⊢
  simp only [Bool.and_eq_true] at this ⊢
  exact ⟨this.1, by simp⟩
theorem aft_row (hw : 1 < w) (hw6 : w ≤ 6) {y into o : Nat} (hy : y < h) (hn : ∀ x, na x = true → cl x = false) (ho : o ∈ outs w h cl na nd y into) {x : Nat} (hx : (y + 1) * w ≤ x) : aftR w w (y * w) (Uc w cl y into) o x = Uc w cl (y + 1) o x := by
  rw [Nat.succ_mul] at hx
  rw [aftR_at (n := w * h) (na := na) (nd := nd) (by omega) (Nat.le_refl w) (by rw [Nat.add_mod_right, Nat.mul_mod_left]) (by rw [Eo_row hw hw6 hy hn]; exact ho) hx, Uc_next hx]
  unfold Uc
  rw [Nat.succ_mul, show x - y * w - w = x - (y * w + w) by omega]
theorem Lp_rw (hw : 1 < w) (hw6 : w ≤ 6) {y into k : Nat} (hy : y < h) (hn : ∀ x, na x = true → cl x = false) : Lp w (w * h) na nd (w + k) (y * w) (Uc w cl y into) = (outs w h cl na nd y into).flatMap (fun o => (Lp w (w * h) na nd k ((y + 1) * w) (Uc w cl (y + 1) o)).map (wysR w w (y * w) (Uc w cl y into) o ++ ·)) := by
  rw [Lp_row, Eo_row hw hw6 hy hn]
  unfold List.flatMap
  congr 1
  apply List.map_congr_left
  intro o ho
  congr 1
  rw [← Nat.succ_mul]
  exact Lp_congr (fun x hx => aft_row hw hw6 hy hn ho hx)
theorem Np_rw (hw : 1 < w) (hw6 : w ≤ 6) {y into k : Nat} (hy : y < h) (hn : ∀ x, na x = true → cl x = false) : Np w (w * h) na nd (w + k) (y * w) (Uc w cl y into) = ((outs w h cl na nd y into).map (fun o => Np w (w * h) na nd k ((y + 1) * w) (Uc w cl (y + 1) o))).sum := by
  unfold Np
  rw [Lp_rw hw hw6 hy hn, List.length_flatMap]
  simp only [List.length_map]
theorem sum_filter (p : Nat → Bool) (g : Nat → Nat) (l : List Nat) : (l.map (fun o => if p o then g o else 0)).sum = ((l.filter p).map g).sum := by
  induction l with
  | nil => rfl
  | cons a l ih =>
    rw [List.map_cons, List.sum_cons, ih, List.filter_cons]
    by_cases z : p a = true
    · rw [if_pos z, if_pos z]; simp
    · rw [if_neg z, if_neg z]; simp
theorem can_last (hh : 0 < h) {into : Nat} (hc : canR w h cl nd h into = true) : into = 0 := by
  unfold canR at hc
  rw [if_neg (by omega), and_sub] at hc
  apply Nat.eq_of_testBit_eq
  intro i
  rw [Nat.zero_testBit]
  cases z : into.testBit i with
  | false => rfl
  | true =>
    have := hc i z
    rw [room_tb, show h - 1 + 1 = h by omega, clM_tb (y := h)] at this
    by_cases hi : i < w <;> simp [hi] at this
theorem Wr_eq (hw : 1 < w) (hw6 : w ≤ 6) (hh : 0 < h) (hn : ∀ x, na x = true → cl x = false) {k : Nat} : ∀ {y into : Nat}, y + k = h → canR w h cl nd y into = true → Wr w h cl na nd k y into = Np w (w * h) na nd (k * w) (y * w) (Uc w cl y into) := by
  induction k with
  | zero =>
    intro y into hy hc
    rw [show y = h by omega] at hc
    rw [can_last hh hc, Nat.zero_mul]; rfl
  | succ k ih =>
    intro y into hy hc
    rw [Wr, if_pos hc, sum_filter, Nat.succ_mul, Nat.add_comm (k * w) w, Np_rw hw hw6 (by omega) hn]
    congr 1
    apply List.map_congr_left
    intro o ho
    exact ih (by omega) (outs_can ho)
theorem pick_get {α : Type} {F : Nat → List α} : ∀ {l : List Nat} {i : Nat}, (l.flatMap F)[i]? = (pick (fun o => (F o).length) l i).bind (fun q => (F q.1)[q.2]?)
  | [], i => by simp [pick]
  | o :: l, i => by
    rw [List.flatMap_cons, pick]
    by_cases z : i < (F o).length
    · rw [if_pos z, List.getElem?_append_left z]; rfl
    · rw [if_neg z, List.getElem?_append_right (by omega), pick_get]
theorem pick_some {g : Nat → Nat} : ∀ {l : List Nat} {i : Nat}, i < (l.map g).sum → ∃ o r, pick g l i = some (o, r) ∧ o ∈ l ∧ r < g o
  | [], i, h => by simp at h
  | o :: l, i, h => by
    rw [pick]
    by_cases z : i < g o
    · exact ⟨o, i, by rw [if_pos z], by simp, z⟩
    · rw [List.map_cons, List.sum_cons] at h
      obtain ⟨o', r, h1, h2, h3⟩ := pick_some (g := g) (l := l) (i := i - g o) (by omega)
      exact ⟨o', r, by rw [if_neg z, h1], by simp [h2], h3⟩
theorem wysR_len (w j : Nat) : ∀ (c : Nat) (U : Nat → Bool) (o : Nat), (wysR w j c U o).length = j := by
  induction j with
  | zero => intros; rfl
  | succ j ih => intro c U o; unfold wysR; split <;> (try split) <;> simp [ih]
theorem wysR_row1 {n : Nat} {j : Nat} : ∀ {c : Nat} {U : Nat → Bool} {o : Nat}, okB w n na nd j c U o = true → ∀ i, i < j → ((wysR w j c U o).getD (j - 1 - i) (-1) == 1) = o.testBit i := by
  induction j with
  | zero => intro c U o _ i hi; omega
  | succ j ih =>
    intro c U o ho i hi
    unfold okB at ho
    unfold wysR
    have tl : ∀ (a : Int) (r : List Int), i < j → (a :: r).getD (j + 1 - 1 - i) (-1) = r.getD (j - 1 - i) (-1) := by
      intro a r h
      rw [show j + 1 - 1 - i = (j - 1 - i) + 1 by omega, List.getD_cons_succ]
    have hd : ∀ (a : Int) (r : List Int), ¬ i < j → (a :: r).getD (j + 1 - 1 - i) (-1) = a := by
      intro a r h
      rw [show j + 1 - 1 - i = 0 by omega, List.getD_cons_zero]
    have hij : ¬ i < j → i = j := by omega
    by_cases hU : U c = true
    · rw [if_pos hU, Bool.and_eq_true] at ho
      rw [if_pos hU]
      by_cases z : i < j
      · rw [tl _ _ z]; exact ih ho.2 i z
      · rw [hd _ _ z, hij z]
        have := ho.1
        cases q : o.testBit j with
        | false => rfl
        | true => rw [q] at this; cases this
    · rw [if_neg hU] at ho ⊢
      cases q : o.testBit j with
      | true =>
        rw [q, if_pos rfl, Bool.and_eq_true] at ho
        rw [if_pos rfl]
        by_cases z : i < j
        · rw [tl _ _ z]; exact ih ho.2 i z
        · rw [hd _ _ z, hij z, q]; rfl
      | false =>
        rw [q, if_neg (by decide), Bool.and_eq_true] at ho
        rw [if_neg (by decide)]
        by_cases z : i < j
        · rw [tl _ _ z]; exact ih ho.2 i z
        · rw [hd _ _ z, hij z, q]; rfl
theorem row1_app (hw : 1 < w) (hw6 : w ≤ 6) {y into o : Nat} (hy : y < h) (hn : ∀ x, na x = true → cl x = false) (ho : o ∈ outs w h cl na nd y into) (q : List Int) : row1 w (wysR w w (y * w) (Uc w cl y into) o ++ q) = o := by
  symm
  apply mkM_eq (outs_sub ho).2
  intro i hi
  rw [← Eo_row hw hw6 hy hn] at ho
  have h1 := wysR_row1 (List.mem_filter.mp ho).2 i hi
  rw [← h1]
  congr 1
  rw [List.getD_eq_getElem?_getD, List.getD_eq_getElem?_getD, List.getElem?_append_left (by rw [wysR_len]; omega)]
/-- the masks of the i-th paving: block by block -/
theorem lnP_nth (hw : 1 < w) (hw6 : w ≤ 6) {y into k i : Nat} (hy : y < h) (hn : ∀ x, na x = true → cl x = false) (hi : i < Np w (w * h) na nd ((k + 1) * w) (y * w) (Uc w cl y into)) : ∃ o r, pick (fun o => Np w (w * h) na nd (k * w) ((y + 1) * w) (Uc w cl (y + 1) o)) (outs w h cl na nd y into) i = some (o, r) ∧ o ∈ outs w h cl na nd y into ∧ r < Np w (w * h) na nd (k * w) ((y + 1) * w) (Uc w cl (y + 1) o) ∧ nthP w (w * h) na nd ((k + 1) * w) (y * w) (Uc w cl y into) i = wysR w w (y * w) (Uc w cl y into) o ++ nthP w (w * h) na nd (k * w) ((y + 1) * w) (Uc w cl (y + 1) o) r := by
  have g := nthP_get hi
  rw [Nat.succ_mul, Nat.add_comm] at hi g
  rw [Np_rw hw hw6 hy hn] at hi
  obtain ⟨o, r, h1, h2, h3⟩ := pick_some hi
  refine ⟨o, r, h1, h2, h3, ?_⟩
  rw [Lp_rw hw hw6 hy hn, pick_get] at g
  simp only [List.length_map] at g
  have h1' : pick (fun o => (Lp w (w * h) na nd (k * w) ((y + 1) * w) (Uc w cl (y + 1) o)).length) (outs w h cl na nd y into) i = some (o, r) := h1
  rw [h1'] at g
  simp only [Option.bind_some] at g
  rw [List.getElem?_map, nthP_get h3] at g
  have := Option.some.inj g
  rw [Nat.succ_mul, Nat.add_comm (k * w) w]
  exact this.symm
end PY
/-! ===== the class's way from number to masks and back ===== -/
def lnA (w h : Nat) (cl na nd : Nat → Bool) : Nat → Nat → Nat → Nat → List Nat
  | 0, _, _, _ => []
  | k + 1, y, into, i => match pick (fun o => if fill w h cl na y into o then Wr w h cl na nd k (y + 1) o else 0) (subs (room w h cl nd y into)) i with
    | some (o, r) => o :: lnA w h cl na nd k (y + 1) o r
    | none => 0 :: lnA w h cl na nd k (y + 1) 0 i
def nbL (w h : Nat) (cl na nd : Nat → Bool) : Nat → Nat → Nat → List Nat → Nat
  | 0, _, _, _ => 0
  | _ + 1, _, _, [] => 0
  | k + 1, y, into, o :: l => (((subs (room w h cl nd y into)).takeWhile (fun p => decide (p < o))).map (fun p => if fill w h cl na y into p then Wr w h cl na nd k (y + 1) p else 0)).sum + nbL w h cl na nd k (y + 1) o l
theorem pick_filter (p : Nat → Bool) (g : Nat → Nat) : ∀ (l : List Nat) (i : Nat), pick (fun o => if p o then g o else 0) l i = pick g (l.filter p) i
  | [], _ => rfl
  | o :: l, i => by
    rw [pick, List.filter_cons]
    by_cases z : p o = true
    · rw [if_pos z, if_pos z, pick, pick_filter p g l]
    · rw [if_neg z, if_neg z, if_neg (Nat.not_lt_zero i), Nat.sub_zero, pick_filter p g l]
theorem pick_congr {g g' : Nat → Nat} : ∀ {l : List Nat} {i : Nat}, (∀ o, o ∈ l → g o = g' o) → pick g l i = pick g' l i
  | [], _, _ => rfl
  | o :: l, i, h => by
    rw [pick, pick, h o (by simp), pick_congr (fun x hx => h x (by simp [hx]))]
theorem subs_sorted (r : Nat) : (subs r).Pairwise (· < ·) := List.Pairwise.filter _ List.pairwise_lt_range
theorem tw_filter {o : Nat} : ∀ {l : List Nat}, l.Pairwise (· < ·) → l.takeWhile (fun p => decide (p < o)) = l.filter (fun p => decide (p < o))
  | [], _ => rfl
  | a :: l, h => by
    rw [List.pairwise_cons] at h
    rw [List.takeWhile_cons, List.filter_cons]
    by_cases z : a < o
    · simp [z, tw_filter h.2]
    · simp [z]
      intro b hb
      have := h.1 b hb
      omega
theorem pick_sum {g : Nat → Nat} : ∀ {l : List Nat} {i o r : Nat}, l.Pairwise (· < ·) → pick g l i = some (o, r) → i = ((l.filter (fun p => decide (p < o))).map g).sum + r
  | [], i, o, r, _, h => by simp [pick] at h
  | a :: l, i, o, r, hs, h => by
    rw [pick] at h
    rw [List.pairwise_cons] at hs
    by_cases z : i < g a
    · rw [if_pos z] at h
      injection h with h
      injection h with h1 h2
      subst h1; subst h2
      have : (a :: l).filter (fun p => decide (p < a)) = [] := by
        rw [List.filter_eq_nil_iff]
        intro b hb
        rw [List.mem_cons] at hb
        rcases hb with rfl | hb
        · simp
        · have := hs.1 b hb; simp; omega
      rw [this]; simp
    · rw [if_neg z] at h
      have ih := pick_sum hs.2 h
      have hm : o ∈ l := by
        clear ih z
        revert h
        generalize i - g a = m
        intro h
        induction l generalizing m with
        | nil => simp [pick] at h
        | cons b l ihl =>
          rw [pick] at h
          by_cases z : m < g b
          · rw [if_pos z] at h; injection h with h; injection h with h1 h2; simp [h1]
          · rw [if_neg z] at h
            rw [List.pairwise_cons] at hs
            have := ihl ⟨fun x hx => hs.1 x (by simp [hx]), hs.2.2⟩ _ h
            simp [this]
      have := hs.1 o hm
      rw [List.filter_cons]
      simp only [this, decide_true, if_true, List.map_cons, List.sum_cons]
      omega
section PZ
variable {w h : Nat} {cl na nd : Nat → Bool}
theorem drop_app (w : Nat) (a b : List Int) (ha : a.length = w) : (a ++ b).drop w = b := by
  rw [← ha, List.drop_left]
theorem lnA_eq (hw : 1 < w) (hw6 : w ≤ 6) (hh : 0 < h) (hn : ∀ x, na x = true → cl x = false) {k : Nat} : ∀ {y into i : Nat}, y + k = h → i < Np w (w * h) na nd (k * w) (y * w) (Uc w cl y into) → lnA w h cl na nd k y into i = lnP w k (nthP w (w * h) na nd (k * w) (y * w) (Uc w cl y into) i) := by
  induction k with
  | zero => intros; rfl
  | succ k ih =>
    intro y into i hy hi
    obtain ⟨o, r, h1, h2, h3, h4⟩ := lnP_nth hw hw6 (by omega) hn hi
    rw [lnA, pick_filter, pick_congr (l := (subs (room w h cl nd y into)).filter (fill w h cl na y into)) (fun q hq => Wr_eq hw hw6 hh hn (show y + 1 + k = h by omega) (outs_can hq))]
    have h1' : pick (fun o => Np w (w * h) na nd (k * w) ((y + 1) * w) (Uc w cl (y + 1) o)) ((subs (room w h cl nd y into)).filter (fill w h cl na y into)) i = some (o, r) := h1
    rw [h1']
    simp only []
    rw [ih (by omega) h3, lnP, h4, row1_app hw hw6 (by omega) hn h2, drop_app _ _ _ (wysR_len _ _ _ _ _)]
theorem nbL_eq (hw : 1 < w) (hw6 : w ≤ 6) (hh : 0 < h) (hn : ∀ x, na x = true → cl x = false) {k : Nat} : ∀ {y into i : Nat}, y + k = h → i < Np w (w * h) na nd (k * w) (y * w) (Uc w cl y into) → nbL w h cl na nd k y into (lnP w k (nthP w (w * h) na nd (k * w) (y * w) (Uc w cl y into) i)) = i := by
  induction k with
  | zero => intro y into i hy hi; simp [Np, Lp] at hi; rw [hi]; rfl
  | succ k ih =>
    intro y into i hy hi
    obtain ⟨o, r, h1, h2, h3, h4⟩ := lnP_nth hw hw6 (by omega) hn hi
    rw [lnP, h4, row1_app hw hw6 (by omega) hn h2, drop_app _ _ _ (wysR_len _ _ _ _ _), nbL, ih (by omega) h3]
    have hs : (outs w h cl na nd y into).Pairwise (· < ·) := List.Pairwise.filter _ (subs_sorted _)
    have e := pick_sum hs h1
    rw [tw_filter (subs_sorted _), sum_filter, List.filter_filter]
    have : (subs (room w h cl nd y into)).filter (fun a => fill w h cl na y into a && decide (a < o)) = (outs w h cl na nd y into).filter (fun p => decide (p < o)) := by
      unfold outs
      rw [List.filter_filter]
      apply List.filter_congr
      intro x _
      rw [Bool.and_comm]
    rw [this]
    have e2 : ((outs w h cl na nd y into).filter (fun p => decide (p < o))).map (fun p => Wr w h cl na nd k (y + 1) p) = ((outs w h cl na nd y into).filter (fun p => decide (p < o))).map (fun o => Np w (w * h) na nd (k * w) ((y + 1) * w) (Uc w cl (y + 1) o)) := by
      apply List.map_congr_left
      intro q hq
      exact Wr_eq hw hw6 hh hn (show y + 1 + k = h by omega) (outs_can (List.mem_filter.mp hq).1)
    rw [e2]
    exact e.symm
/-- what lies soundly and covers all is a paving -/
theorem Lp_mem {n : Nat} (hw : 0 < w) {p : List Int} : ∀ {c : Nat} {U : Nat → Bool}, c + p.length = n → (∀ x, c ≤ x → x < n → wyP c p x = -1 ∨ (wyP c p x = 0 ∧ x % w + 1 < w ∧ na x = false ∧ na (x + 1) = false) ∨ (wyP c p x = 1 ∧ x + w < n ∧ nd x = false ∧ nd (x + w) = false)) → (∀ x, x % w + 1 < w → x < n → x + 1 < n) → (∀ x, c ≤ x → x < n → cvN w c p x = if U x then 0 else 1) → p ∈ Lp w n na nd p.length c U := by
  induction p with
  | nil => intro c U _ _ _ _; simp [Lp]
  | cons a r ih =>
    intro c U hl hv hr hc
    simp only [List.length_cons] at hl ⊢
    have hv' : ∀ x, c + 1 ≤ x → x < n → wyP (c + 1) r x = -1 ∨ (wyP (c + 1) r x = 0 ∧ x % w + 1 < w ∧ na x = false ∧ na (x + 1) = false) ∨ (wyP (c + 1) r x = 1 ∧ x + w < n ∧ nd x = false ∧ nd (x + w) = false) := by
      intro x h1 h2
      have := hv x (by omega) h2
      rw [wyP_tl (by omega)] at this
      exact this
    have h0 := hv c (Nat.le_refl c) (by omega)
    rw [wyP_hd] at h0
    have c0 := hc c (Nat.le_refl c) (by omega)
    unfold cvN at c0
    rw [cvN_lt (Nat.lt_succ_self c)] at c0
    rw [Lp_s]
    rcases h0 with rfl | ⟨rfl, h1, h2, h3⟩ | ⟨rfl, h1, h2, h3⟩
    · have hU : U c = true := by
        cases z : U c with
        | true => rfl
        | false => simp [z] at c0
      rw [if_pos hU, List.mem_map]
      refine ⟨r, ih (by omega) hv' hr (fun x g1 g2 => ?_), rfl⟩
      have := hc x (by omega) g2
      unfold cvN at this
      simpa using this
    · have hU : U c = false := by
        cases z : U c with
        | false => rfl
        | true => simp [z] at c0
      have hx := hc (c + 1) (by omega) (hr c h1 (by omega))
      unfold cvN at hx
      have hU1 : U (c + 1) = false := by
        cases z : U (c + 1) with
        | false => rfl
        | true => simp [z] at hx
      have ha : aOK w na U c = true := by simp [aOK, h1, h2, h3, hU1]
      rw [if_neg (by simp [hU]), if_pos ha, List.mem_append, List.mem_map]
      refine Or.inl ⟨r, ih (by omega) hv' hr (fun x g1 g2 => ?_), rfl⟩
      have := hc x (by omega) g2
      unfold cvN at this
      by_cases e : x = c + 1
      · subst e
        rw [cov_eq]
        rw [hU1] at this
        simp at this ⊢
        omega
      · rw [cov_ne e]
        simp [e, show x ≠ c by omega] at this
        exact this
    · have hU : U c = false := by
        cases z : U c with
        | false => rfl
        | true => simp [z] at c0
      have hx := hc (c + w) (by omega) h1
      unfold cvN at hx
      have hU1 : U (c + w) = false := by
        cases z : U (c + w) with
        | false => rfl
        | true => simp [z] at hx
      have ha : dOK w n nd U c = true := by simp [dOK, h1, h2, h3, hU1]
      rw [if_neg (by simp [hU]), if_pos ha, List.mem_append, List.mem_map]
      refine Or.inr ⟨r, ih (by omega) hv' hr (fun x g1 g2 => ?_), rfl⟩
      have := hc x (by omega) g2
      unfold cvN at this
      by_cases e : x = c + w
      · subst e
        rw [cov_eq]
        rw [hU1] at this
        have w0 : w ≠ 0 := by omega
        simp [w0] at this ⊢
        omega
      · rw [cov_ne e]
        simp [e, show x ≠ c by omega] at this
        exact this
end PZ
