/-! ===== loops of plain kinds; the model's row ===== -/
/-- the first of m from i on of which p holds -/
def fnd (p : Nat → Bool) : Nat → Nat → Option Nat
  | 0, _ => none
  | m + 1, i => if p i then some i else fnd p m (i + 1)
/-- how many of the first m -/
def cntB (p : Nat → Bool) : Nat → Nat
  | 0 => 0
  | m + 1 => cntB p m + (if p m then 1 else 0)
theorem cntB_le (p : Nat → Bool) : ∀ m, cntB p m ≤ m
  | 0 => Nat.le_refl 0
  | m + 1 => by
    have := cntB_le p m
    unfold cntB
    split <;> omega
/-- the first n of array a are g, all else is as it was -/
def fl (I : Nat → Nat → Int) (a n : Nat) (g : Nat → Int) : Nat → Nat → Int := fun x y => if x = a ∧ y < n then g y else I x y
theorem fl_0 (I : Nat → Nat → Int) (a : Nat) (g : Nat → Int) : fl I a 0 g = I := by
  funext x y
  unfold fl
  rw [if_neg (fun z => Nat.not_lt_zero _ z.2)]
theorem fl_s (I : Nat → Nat → Int) (a n : Nat) (g : Nat → Int) : up (fl I a n g) a n (g n) = fl I a (n + 1) g := by
  funext x y
  unfold up fl
  by_cases h : x = a ∧ y = n
  · rw [if_pos h, if_pos ⟨h.1, by omega⟩, h.2]
  · rw [if_neg h]
    by_cases h2 : x = a ∧ y < n
    · rw [if_pos h2, if_pos ⟨h2.1, by omega⟩]
    · rw [if_neg h2, if_neg (fun z => by
        rcases Nat.lt_or_ge y n with q | q
        · exact h2 ⟨z.1, q⟩
        · exact h ⟨z.1, by omega⟩)]
theorem fl_ne {I : Nat → Nat → Int} {a n x y : Nat} {g : Nat → Int} (h : x ≠ a) : fl I a n g x y = I x y := if_neg (fun z => h z.1)
theorem fl_in {I : Nat → Nat → Int} {a n y : Nat} {g : Nat → Int} (h : y < n) : fl I a n g a y = g y := if_pos ⟨rfl, h⟩
theorem fl_out {I : Nat → Nat → Int} {a n y : Nat} {g : Nat → Int} (h : n ≤ y) : fl I a n g a y = I a y := if_neg (fun z => by omega)
/-- a loop that looks for the first -/
theorem jlp2_find {ρ : Type} {body : (Int → jMem → Option ρ) → Int → jMem → Option ρ} (p : Nat → Bool) (N : Nat) (M : jMem) (yes : Nat → Option ρ) (no : Option ρ) (h1 : ∀ i, i < N → p i = true → ∀ rec, body rec (i : Int) M = yes i) (h2 : ∀ i, i < N → p i = false → ∀ rec, body rec (i : Int) M = rec ((i : Int) + 1) M) (h3 : ∀ rec, body rec (N : Int) M = no) : ∀ fuel, N < fuel → jlp2 body fuel 0 M = match fnd p N 0 with | some i => yes i | none => no := by
  have key : ∀ k i fuel, i + k = N → k < fuel → jlp2 body fuel (i : Int) M = match fnd p k i with | some i => yes i | none => no := by
    intro k
    induction k with
    | zero =>
      intro i fuel hi hf
      obtain ⟨f, rfl⟩ : ∃ f, fuel = f + 1 := ⟨fuel - 1, by omega⟩
      obtain rfl : i = N := by omega
      rw [jlp2_s, h3]; rfl
    | succ k ih =>
      intro i fuel hi hf
      obtain ⟨f, rfl⟩ : ∃ f, fuel = f + 1 := ⟨fuel - 1, by omega⟩
      unfold fnd
      by_cases hp : p i = true
      · rw [jlp2_s, h1 i (by omega) hp, if_pos hp]
      · rw [jlp2_s, h2 i (by omega) (by simpa using hp), if_neg hp]
        exact ih (i + 1) f (by omega) (by omega)
  exact fun fuel hf => key N 0 fuel (by omega) hf
/-- what the model's row may hold -/
def vRow (ρ : Nat → Int) : Prop := ∀ k, k < 18 → (ρ k = -2 ∨ (0 ≤ ρ k ∧ ρ k < 36)) ∧ (ρ (18 + k) = 0 ∨ ρ (18 + k) = 1)
def rLies (ρ : Nat → Int) (k : Nat) : Bool := decide (0 ≤ ρ k)
/-- the other cell of couple k -/
def rOth (w : Nat) (ρ : Nat → Int) (k : Nat) : Int := ρ k + (if ρ (18 + k) = 1 then (w : Int) else 1)
def rAt (w : Nat) (ρ : Nat → Int) (c : Int) (k : Nat) : Bool := rLies ρ k && (decide (ρ k = c) || decide (rOth w ρ k = c))
def oI (o : Option Nat) : Int := match o with
  | some k => (k : Int)
  | none => -2
def rCpl (w : Nat) (ρ : Nat → Int) (c : Int) : Option Nat := fnd (rAt w ρ c) 18 0
def rMany (ρ : Nat → Int) : Nat := cntB (rLies ρ) 18
theorem jfuel_n {n : Nat} (h : n < 1000000) : n < jfuel := h
section MR
variable {t d rt : Nat} {I : Nat → Nat → Int} {lv w h n : Nat}
theorem s_lies (hv : vRow (I 401)) {k : Nat} (hk : k < 18) : f_X12_lies 369 (k : Int) (mm t d rt I) = some (if rLies (I 401) k then 1 else 0, mm t d rt I) := by
  have hb := (hv k hk).1
  unfold rLies
  by_cases c : 0 ≤ I 401 k
  · rw [decide_eq_true c, if_pos rfl]
    simp (disch := omega) only [Option.bind_some, jbd_s, jjq, jz0, jz1, wr_id, Int.toNat_natCast, Int.reduceToNat, tn_lk, tn_kl, if_true, if_false, Bool.false_eq_true, reduceCtorEq, ↓reduceIte, if_pos, if_neg, f_X12_lies, FM]
  · rw [decide_eq_false c, if_neg (by decide)]
    simp (disch := omega) only [Option.bind_some, jbd_s, jjq, jz0, jz1, wr_id, Int.toNat_natCast, Int.reduceToNat, tn_lk, tn_kl, if_true, if_false, Bool.false_eq_true, reduceCtorEq, ↓reduceIte, if_pos, if_neg, f_X12_lies, FM]
theorem s_otherCell (cf : mCfg I lv w h n) (hv : vRow (I 401)) {k : Nat} (hk : k < 18) : f_X12_otherCell 369 (k : Int) (mm t d rt I) = some (rOth w (I 401) k, mm t d rt I) := by
  have hb := hv k hk
  have e : (jd_wr (18 + (k : Int))).toNat = 18 + k := by rw [wr_id (by omega) (by omega)]; omega
  unfold rOth
  by_cases c : I 401 (18 + k) = 1
  · rw [if_pos c]
    simp (disch := omega) only [Option.bind_some, jbd_s, jjq, jz0, jz1, wr_id, Int.toNat_natCast, Int.reduceToNat, tn_lk, tn_kl, if_true, if_false, Bool.false_eq_true, reduceCtorEq, ↓reduceIte, if_pos, if_neg, f_X12_otherCell, FM, e, s_w cf, c]
  · rw [if_neg c]
    simp (disch := omega) only [Option.bind_some, jbd_s, jjq, jz0, jz1, wr_id, Int.toNat_natCast, Int.reduceToNat, tn_lk, tn_kl, if_true, if_false, Bool.false_eq_true, reduceCtorEq, ↓reduceIte, if_pos, if_neg, f_X12_otherCell, FM, e, s_w cf]
theorem s_coupleAt (cf : mCfg I lv w h n) (hv : vRow (I 401)) {c : Int} (hc : -2147483648 ≤ c ∧ c < 2147483648) : f_X12_coupleAt 369 c (mm t d rt I) = some (oI (rCpl w (I 401) c), mm t d rt I) := by
  unfold f_X12_coupleAt
  have hw : w ≤ 6 := cf.2.2.2.2.2.1
  rw [jlp2_find (rAt w (I 401) c) 18 (mm t d rt I) (fun i => some ((i : Int), mm t d rt I)) (some (-2, mm t d rt I)) ?_ ?_ ?_ jfuel (jfuel_n (by decide))]
  · unfold rCpl
    cases fnd (rAt w (I 401) c) 18 0 <;> rfl
  · intro i hi hp rec
    have hb := hv i hi
    simp only [rAt, Bool.and_eq_true, Bool.or_eq_true, decide_eq_true_eq] at hp
    obtain ⟨p1, p2⟩ := hp
    have p1' : 0 ≤ I 401 i := by simpa [rLies] using p1
    have hr : -100 ≤ rOth w (I 401) i ∧ rOth w (I 401) i < 100 := by unfold rOth; split <;> omega
    by_cases q : I 401 i = c
    · simp (disch := omega) only [Option.bind_some, jbd_s, jjq, jz0, jz1, wr_id, Int.toNat_natCast, Int.reduceToNat, tn_lk, tn_kl, if_true, if_false, Bool.false_eq_true, reduceCtorEq, ↓reduceIte, if_pos, if_neg, FM, s_lies hv hi, p1, q]
    · have p3 := p2.resolve_left q
      simp (disch := omega) only [Option.bind_some, jbd_s, jjq, jz0, jz1, wr_id, Int.toNat_natCast, Int.reduceToNat, tn_lk, tn_kl, if_true, if_false, Bool.false_eq_true, reduceCtorEq, ↓reduceIte, if_pos, if_neg, FM, s_lies hv hi, p1, s_otherCell cf hv hi]
  · intro i hi hp rec
    have hb := hv i hi
    have hr : -100 ≤ rOth w (I 401) i ∧ rOth w (I 401) i < 100 := by unfold rOth; split <;> omega
    by_cases p1 : rLies (I 401) i = true
    · have p1' : 0 ≤ I 401 i := by simpa [rLies] using p1
      simp only [rAt, p1, Bool.true_and, Bool.or_eq_false_iff, decide_eq_false_iff_not] at hp
      obtain ⟨q1, q2⟩ := hp
      simp (disch := omega) only [Option.bind_some, jbd_s, jjq, jz0, jz1, wr_id, Int.toNat_natCast, Int.reduceToNat, tn_lk, tn_kl, if_true, if_false, Bool.false_eq_true, reduceCtorEq, ↓reduceIte, if_pos, if_neg, FM, s_lies hv hi, p1, s_otherCell cf hv hi]
    · simp (disch := omega) only [Option.bind_some, jbd_s, jjq, jz0, jz1, wr_id, Int.toNat_natCast, Int.reduceToNat, tn_lk, tn_kl, if_true, if_false, Bool.false_eq_true, reduceCtorEq, ↓reduceIte, if_pos, if_neg, FM, s_lies hv hi, p1]
  · intro rec
    simp (disch := omega) only [Option.bind_some, jbd_s, jjq, jz0, jz1, wr_id, Int.toNat_natCast, Int.reduceToNat, tn_lk, tn_kl, if_true, if_false, Bool.false_eq_true, reduceCtorEq, ↓reduceIte, if_pos, if_neg]
theorem s_stoneMany (hv : vRow (I 401)) : f_X12_stoneMany 369 (mm t d rt I) = some ((rMany (I 401) : Int), mm t d rt I) := by
  unfold f_X12_stoneMany
  refine jlp3_seq (fun i => (cntB (rLies (I 401)) i : Int)) (fun i => (i : Int)) (fun _ => mm t d rt I) 18 _ (fun i hi rec => ?_) (fun rec => ?_) jfuel (jfuel_n (by decide))
  · by_cases p1 : rLies (I 401) i = true
    · have e : ((cntB (rLies (I 401)) (i + 1) : Nat) : Int) = (cntB (rLies (I 401)) i : Int) + 1 := by rw [cntB, if_pos p1]; omega
      rw [e]
      simp (disch := omega) only [Option.bind_some, jbd_s, jjq, jz0, jz1, wr_id, Int.toNat_natCast, Int.reduceToNat, tn_lk, tn_kl, if_true, if_false, Bool.false_eq_true, reduceCtorEq, ↓reduceIte, if_pos, if_neg, FM, s_lies hv hi, p1]
      rfl
    · have e : ((cntB (rLies (I 401)) (i + 1) : Nat) : Int) = (cntB (rLies (I 401)) i : Int) := by rw [cntB, if_neg p1]; omega
      rw [e]
      simp (disch := omega) only [Option.bind_some, jbd_s, jjq, jz0, jz1, wr_id, Int.toNat_natCast, Int.reduceToNat, tn_lk, tn_kl, if_true, if_false, Bool.false_eq_true, reduceCtorEq, ↓reduceIte, if_pos, if_neg, FM, s_lies hv hi, p1]
      rfl
  · simp (disch := omega) only [Option.bind_some, jbd_s, jjq, jz0, jz1, wr_id, Int.toNat_natCast, Int.reduceToNat, tn_lk, tn_kl, if_true, if_false, Bool.false_eq_true, reduceCtorEq, ↓reduceIte, if_pos, if_neg]
    rfl
theorem s_keepsRow : f_X12_keepsRow 369 (mm t d rt I) = some (0, mm t d rt (fl I 400 75 (I 401))) := by
  unfold f_X12_keepsRow
  have e0 : mm t d rt I = mm t d rt (fl I 400 0 (I 401)) := by rw [fl_0]
  rw [e0]
  refine jlp2_seq (fun i => (i : Int)) (fun i => mm t d rt (fl I 400 i (I 401))) 75 _ (fun i hi rec => ?_) (fun rec => ?_) jfuel (jfuel_n (by decide))
  · simp (disch := omega) only [Option.bind_some, jbd_s, jjq, jz0, jz1, wr_id, Int.toNat_natCast, Int.reduceToNat, tn_lk, tn_kl, if_true, if_false, Bool.false_eq_true, reduceCtorEq, ↓reduceIte, if_pos, if_neg, FM]
    rw [fl_ne (by decide), fl_s]
    rfl
  · simp (disch := omega) only [Option.bind_some, jbd_s, jjq, jz0, jz1, wr_id, Int.toNat_natCast, Int.reduceToNat, tn_lk, tn_kl, if_true, if_false, Bool.false_eq_true, reduceCtorEq, ↓reduceIte, if_pos, if_neg]
end MR
