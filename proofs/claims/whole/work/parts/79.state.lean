/-! ===== a State of the class, as a row of the model's kind ===== -/
/-- a row that can be: stones within the square, on open cells, no two on one cell; what doesn't lie is plain -/
def rOK (w n : Nat) (hl : Nat → Bool) (ρ : Nat → Int) : Prop :=
  (∀ k, k < 18 → (ρ k = -2 ∧ ρ (18 + k) = 0 ∧ ρ (36 + k) = 0 ∧ ρ (54 + k) = 0) ∨ (0 ≤ ρ k ∧ ρ k < n ∧ ((ρ (18 + k) = 0 ∧ (ρ k).toNat % w + 1 < w) ∨ (ρ (18 + k) = 1 ∧ ρ k + w < n)) ∧ hl (ρ k).toNat = false ∧ hl (rOth w ρ k).toNat = false)) ∧
  (∀ j k, j < 18 → k < 18 → j ≠ k → 0 ≤ ρ j → 0 ≤ ρ k → ρ j ≠ ρ k ∧ ρ j ≠ rOth w ρ k ∧ rOth w ρ j ≠ ρ k ∧ rOth w ρ j ≠ rOth w ρ k)
def onI (w : Nat) (ρ : Nat → Int) (c : Nat) : Int := match rCpl w ρ (c : Int) with
  | some k => (k : Int)
  | none => -1
/-- the State at s holds row ρ -/
def stR (I : Nat → Nat → Int) (s w : Nat) (ρ : Nat → Int) : Prop :=
  (∀ k, k < 18 → I (s + 1) k = if 0 ≤ ρ k then ρ k else -1) ∧ (∀ k, k < 18 → 0 ≤ ρ k → I (s + 2) k = 1 - ρ (18 + k) ∧ I (s + 3) k = ρ (36 + k) ∧ I (s + 4) k = ρ (54 + k)) ∧ (∀ k, k < 18 → I (s + 2) k = 0 ∨ I (s + 2) k = 1) ∧
  (∀ c, c < 36 → I (s + 5) c = onI w ρ c) ∧ I s 5 = (w : Int) ∧ I s 6 = (rMany ρ : Int) ∧ I s 7 = ρ 72 ∧ jd_wr (I s 8) = jd_wr (ρ 73) ∧ I s 9 = ρ 74
def stF (s : Nat) : Nat → Prop := fun a => s ≤ a ∧ a ≤ s + 5
theorem fnd_none {p : Nat → Bool} : ∀ {m i : Nat}, (∀ k, i ≤ k → k < i + m → p k = false) → fnd p m i = none
  | 0, _, _ => rfl
  | m + 1, i, h => by
    unfold fnd
    rw [if_neg (by rw [h i (by omega) (by omega)]; decide)]
    exact fnd_none (fun k h1 h2 => h k (by omega) (by omega))
theorem fnd_one {p : Nat → Bool} {k : Nat} : ∀ {m i : Nat}, i ≤ k → k < i + m → p k = true → (∀ j, i ≤ j → j < i + m → p j = true → j = k) → fnd p m i = some k
  | 0, _, h1, h2, _, _ => by omega
  | m + 1, i, h1, h2, h3, h4 => by
    unfold fnd
    by_cases e : p i = true
    · rw [if_pos e, h4 i (by omega) (by omega) e]
    · rw [if_neg e]
      have : i ≠ k := fun q => e (q ▸ h3)
      exact fnd_one (by omega) (by omega) h3 (fun j a b c => h4 j (by omega) (by omega) c)
theorem fnd_sat {p : Nat → Bool} {k : Nat} : ∀ {m i : Nat}, fnd p m i = some k → i ≤ k ∧ k < i + m ∧ p k = true
  | 0, _, h => by cases h
  | m + 1, i, h => by
    unfold fnd at h
    by_cases e : p i = true
    · rw [if_pos e] at h
      injection h with h
      subst h
      exact ⟨by omega, by omega, e⟩
    · rw [if_neg e] at h
      have := fnd_sat h
      exact ⟨by omega, by omega, this.2.2⟩
theorem fnd_not {p : Nat → Bool} : ∀ {m i : Nat}, fnd p m i = none → ∀ k, i ≤ k → k < i + m → p k = false
  | 0, _, _ => fun k h1 h2 => by omega
  | m + 1, i, h => fun k h1 h2 => by
    unfold fnd at h
    by_cases e : p i = true
    · rw [if_pos e] at h; cases h
    · rw [if_neg e] at h
      by_cases q : k = i
      · rw [q]; simpa using e
      · exact fnd_not h k (by omega) (by omega)
theorem rAt_iff {w : Nat} {ρ : Nat → Int} {c : Int} {k : Nat} : rAt w ρ c k = true ↔ 0 ≤ ρ k ∧ (ρ k = c ∨ rOth w ρ k = c) := by
  simp [rAt, rLies]
theorem rOK_one {w n : Nat} {hl : Nat → Bool} {ρ : Nat → Int} (h : rOK w n hl ρ) {c : Int} {j k : Nat} (hj : j < 18) (hk : k < 18) (h1 : rAt w ρ c j = true) (h2 : rAt w ρ c k = true) : j = k := by
  rw [rAt_iff] at h1 h2
  by_cases e : j = k
  · exact e
  · obtain ⟨q1, q2, q3, q4⟩ := h.2 j k hj hk e h1.1 h2.1
    rcases h1.2 with a | a <;> rcases h2.2 with b | b <;> omega
theorem rCpl_some {w n : Nat} {hl : Nat → Bool} {ρ : Nat → Int} (h : rOK w n hl ρ) {c : Int} {k : Nat} (hk : k < 18) (h1 : rAt w ρ c k = true) : rCpl w ρ c = some k :=
  fnd_one (by omega) (by omega) h1 (fun j _ b e => rOK_one h (by omega) hk e h1)
theorem rCpl_none {w : Nat} {ρ : Nat → Int} {c : Int} (h1 : ∀ k, k < 18 → rAt w ρ c k = false) : rCpl w ρ c = none :=
  fnd_none (fun k _ b => h1 k (by omega))
theorem rCpl_sat {w : Nat} {ρ : Nat → Int} {c : Int} {k : Nat} (h : rCpl w ρ c = some k) : k < 18 ∧ rAt w ρ c k = true := by
  have := fnd_sat h
  exact ⟨by omega, this.2.2⟩
theorem rCpl_not {w : Nat} {ρ : Nat → Int} {c : Int} (h : rCpl w ρ c = none) : ∀ k, k < 18 → rAt w ρ c k = false := fun k hk => fnd_not h k (by omega) (by omega)
theorem onI_cases (w : Nat) (ρ : Nat → Int) (c : Nat) : (onI w ρ c = -1 ∧ rCpl w ρ (c : Int) = none) ∨ ∃ k : Nat, k < 18 ∧ onI w ρ c = (k : Int) ∧ rCpl w ρ (c : Int) = some k ∧ rAt w ρ (c : Int) k = true := by
  unfold onI
  cases h : rCpl w ρ (c : Int) with
  | none => exact Or.inl ⟨rfl, rfl⟩
  | some k => exact Or.inr ⟨k, (rCpl_sat h).1, rfl, rfl, (rCpl_sat h).2⟩
theorem onI_some {w n : Nat} {hl : Nat → Bool} {ρ : Nat → Int} (h : rOK w n hl ρ) {c k : Nat} (hk : k < 18) (h1 : rAt w ρ (c : Int) k = true) : onI w ρ c = (k : Int) := by
  unfold onI
  rw [rCpl_some h hk h1]
theorem onI_none {w : Nat} {ρ : Nat → Int} {c : Nat} (h1 : ∀ k, k < 18 → rAt w ρ (c : Int) k = false) : onI w ρ c = -1 := by
  unfold onI
  rw [rCpl_none h1]
theorem cntB_ext {p q : Nat → Bool} : ∀ {m : Nat}, (∀ j, j < m → p j = q j) → cntB p m = cntB q m
  | 0, _ => rfl
  | m + 1, h => by unfold cntB; rw [cntB_ext (fun j hj => h j (by omega)), h m (by omega)]
theorem cntB_up {p q : Nat → Bool} {k : Nat} (h1 : p k = false) (h2 : q k = true) : ∀ {m : Nat}, k < m → (∀ j, j < m → j ≠ k → p j = q j) → cntB q m = cntB p m + 1
  | 0, hk, _ => by omega
  | m + 1, hk, h => by
    unfold cntB
    by_cases e : m = k
    · subst e
      rw [h1, h2, cntB_ext (fun j hj => h j (by omega) (by omega))]
      simp
    · rw [cntB_up h1 h2 (by omega) (fun j hj => h j (by omega)), h m (by omega) e]
      omega
/-- couple k laid on cell c -/
def rPut (ρ : Nat → Int) (k : Nat) (c way : Int) : Nat → Int := fun j => if j = 54 + k then 0 else if j = 36 + k then 0 else if j = 18 + k then way else if j = k then c else ρ j
theorem rPut_k {ρ : Nat → Int} {k : Nat} {c way : Int} : rPut ρ k c way k = c := by simp (disch := omega) only [rPut, if_neg, ↓reduceIte]
theorem rPut_n {ρ : Nat → Int} {j k : Nat} {c way : Int} (h : j ≠ k ∧ j ≠ 18 + k ∧ j ≠ 36 + k ∧ j ≠ 54 + k) : rPut ρ k c way j = ρ j := by simp (disch := omega) only [rPut, if_neg, ↓reduceIte]
theorem rPut_18 {ρ : Nat → Int} {k : Nat} {c way : Int} : rPut ρ k c way (18 + k) = way := by simp (disch := omega) only [rPut, if_neg, ↓reduceIte]
theorem rPut_36 {ρ : Nat → Int} {k : Nat} {c way : Int} : rPut ρ k c way (36 + k) = 0 := by simp (disch := omega) only [rPut, if_neg, ↓reduceIte]
theorem rPut_54 {ρ : Nat → Int} {k : Nat} {c way : Int} : rPut ρ k c way (54 + k) = 0 := by simp (disch := omega) only [rPut, if_neg, ↓reduceIte]
section ST
variable {t d rt : Nat} {I : Nat → Nat → Int} {s w n : Nat} {ρ : Nat → Int} {hl : Nat → Bool}
theorem rOK_b (h : rOK w n hl ρ) (hw : 2 ≤ w ∧ w ≤ 6) (hn : n ≤ 36) {h' : Nat} (hnw : n = w * h') {k : Nat} (hk : k < 18) : (ρ k = -2 ∧ ρ (18 + k) = 0 ∧ ρ (36 + k) = 0 ∧ ρ (54 + k) = 0) ∨ (0 ≤ ρ k ∧ rOth w ρ k < n ∧ ρ k < rOth w ρ k ∧ (ρ (18 + k) = 0 ∧ rOth w ρ k = ρ k + 1 ∨ ρ (18 + k) = 1 ∧ rOth w ρ k = ρ k + w)) := by
  rcases h.1 k hk with q | ⟨q1, q2, q3, _, _⟩
  · exact Or.inl q
  · refine Or.inr ⟨q1, ?_⟩
    rcases q3 with ⟨a, b⟩ | ⟨a, b⟩
    · have e : rOth w ρ k = ρ k + 1 := by unfold rOth; rw [if_neg (by omega)]
      have := hr_of (by omega) hnw (ρ k).toNat b (by omega)
      exact ⟨by omega, by omega, Or.inl ⟨a, e⟩⟩
    · have e : rOth w ρ k = ρ k + w := by unfold rOth; rw [if_pos a]
      exact ⟨by omega, by omega, Or.inr ⟨a, e⟩⟩
theorem q_lies (hs : s ∈ stL) {k : Nat} (hk : k < 18) (h1 : -1 ≤ I (s + 1) k ∧ I (s + 1) k < 36) : f_X6_lies s (k : Int) (mm t d rt I) = some (if 0 ≤ I (s + 1) k then 1 else 0, mm t d rt I) := by
  by_cases z : 0 ≤ I (s + 1) k
  · rw [if_pos z]
    simp (disch := omega) only [Option.bind_some, jbd_s, jjq, jz0, jz1, wr_id, Int.toNat_natCast, Int.reduceToNat, tn_lk, tn_kl, if_true, if_false, Bool.false_eq_true, reduceCtorEq, ↓reduceIte, if_pos, if_neg, f_X6_lies, FState hs]
  · rw [if_neg z]
    simp (disch := omega) only [Option.bind_some, jbd_s, jjq, jz0, jz1, wr_id, Int.toNat_natCast, Int.reduceToNat, tn_lk, tn_kl, if_true, if_false, Bool.false_eq_true, reduceCtorEq, ↓reduceIte, if_pos, if_neg, f_X6_lies, FState hs]
theorem w_lies (hs : s ∈ stL) (hr : rOK w n hl ρ) (hn : n ≤ 36) (h : stR I s w ρ) {k : Nat} (hk : k < 18) : f_X6_lies s (k : Int) (mm t d rt I) = some (if 0 ≤ ρ k then 1 else 0, mm t d rt I) := by
  have e := h.1 k hk
  have b : -2 ≤ ρ k ∧ ρ k < 36 := by rcases hr.1 k hk with q | q <;> omega
  have b2 : -1 ≤ I (s + 1) k ∧ I (s + 1) k < 36 := by rw [e]; split <;> omega
  rw [q_lies hs hk b2, e]
  by_cases z : 0 ≤ ρ k
  · rw [if_pos z, if_pos z]
  · rw [if_neg z, if_neg z, if_neg (by omega)]
theorem q_second (hs : s ∈ stL) {k : Nat} (hk : k < 18) (h1 : I (s + 2) k = 0 ∨ I (s + 2) k = 1) : f_X6_second s (k : Int) (mm t d rt I) = some (I (s + 1) k + (if I (s + 2) k = 0 then I s 5 else 1), mm t d rt I) := by
  rcases h1 with z | z
  · rw [if_pos z]
    simp (disch := omega) only [Option.bind_some, jbd_s, jjq, jz0, jz1, wr_id, Int.toNat_natCast, Int.reduceToNat, tn_lk, tn_kl, if_true, if_false, Bool.false_eq_true, reduceCtorEq, ↓reduceIte, if_pos, if_neg, f_X6_second, FState hs]
  · rw [if_neg (by omega)]
    simp (disch := omega) only [Option.bind_some, jbd_s, jjq, jz0, jz1, wr_id, Int.toNat_natCast, Int.reduceToNat, tn_lk, tn_kl, if_true, if_false, Bool.false_eq_true, reduceCtorEq, ↓reduceIte, if_pos, if_neg, f_X6_second, FState hs]
theorem w_second (hs : s ∈ stL) (hr : rOK w n hl ρ) (h : stR I s w ρ) {k : Nat} (hk : k < 18) (hl : 0 ≤ ρ k) : f_X6_second s (k : Int) (mm t d rt I) = some (rOth w ρ k, mm t d rt I) := by
  obtain ⟨h1, h2, h3, h4, h5, h6⟩ := h
  have e := (h2 k hk hl).1
  rw [q_second hs hk (h3 k hk), h1 k hk, if_pos hl, h5, e]
  unfold rOth
  rcases hr.1 k hk with q | ⟨_, _, q, _⟩
  · omega
  · rcases q with q | q
    · rw [if_neg (by omega), if_neg (by omega)]
    · rw [if_pos (by omega), if_pos q.1]
theorem w_otherCell (hs : s ∈ stL) (hr : rOK w n hl ρ) (hn : n ≤ 36) (h : stR I s w ρ) {k c : Nat} (hk : k < 18) (hc : c < 36) (hl : 0 ≤ ρ k) : f_X6_otherCell s (k : Int) (c : Int) (mm t d rt I) = some (if ρ k = (c : Int) then rOth w ρ k else ρ k, mm t d rt I) := by
  have e := h.1 k hk
  rw [if_pos hl] at e
  have b : ρ k < 36 := by rcases hr.1 k hk with q | q <;> omega
  by_cases z : ρ k = (c : Int)
  · rw [if_pos z]
    simp (disch := omega) only [Option.bind_some, jbd_s, jjq, jz0, jz1, wr_id, Int.toNat_natCast, Int.reduceToNat, tn_lk, tn_kl, if_true, if_false, Bool.false_eq_true, reduceCtorEq, ↓reduceIte, if_pos, if_neg, f_X6_otherCell, FState hs, e, w_second hs hr h hk hl]
  · rw [if_neg z]
    simp (disch := omega) only [Option.bind_some, jbd_s, jjq, jz0, jz1, wr_id, Int.toNat_natCast, Int.reduceToNat, tn_lk, tn_kl, if_true, if_false, Bool.false_eq_true, reduceCtorEq, ↓reduceIte, if_pos, if_neg, f_X6_otherCell, FState hs, e]
theorem w_leastCouple (hs : s ∈ stL) (hr : rOK w n hl ρ) (hn : n ≤ 36) (h : stR I s w ρ) : f_X6_leastCouple s (mm t d rt I) = some ((match fnd (fun k => !decide (0 ≤ ρ k)) 18 0 with | some k => (k : Int) | none => -1), mm t d rt I) := by
  unfold f_X6_leastCouple
  rw [jlp2_find (fun k => !decide (0 ≤ ρ k)) 18 (mm t d rt I) (fun i => some ((i : Int), mm t d rt I)) (some (-1, mm t d rt I)) ?_ ?_ ?_ jfuel (jfuel_n (by decide))]
  · cases fnd (fun k => !decide (0 ≤ ρ k)) 18 0 <;> rfl
  · intro i hi hp rec
    have z : ¬ 0 ≤ ρ i := by simpa using hp
    simp (disch := omega) only [Option.bind_some, jbd_s, jjq, jz0, jz1, wr_id, Int.toNat_natCast, Int.reduceToNat, tn_lk, tn_kl, if_true, if_false, Bool.false_eq_true, reduceCtorEq, ↓reduceIte, if_pos, if_neg, FState hs, w_lies hs hr hn h hi, z]
  · intro i hi hp rec
    have z : 0 ≤ ρ i := by simpa using hp
    simp (disch := omega) only [Option.bind_some, jbd_s, jjq, jz0, jz1, wr_id, Int.toNat_natCast, Int.reduceToNat, tn_lk, tn_kl, if_true, if_false, Bool.false_eq_true, reduceCtorEq, ↓reduceIte, if_pos, if_neg, FState hs, w_lies hs hr hn h hi, z]
  · intro rec
    simp (disch := omega) only [Option.bind_some, jbd_s, jjq, jz0, jz1, wr_id, Int.toNat_natCast, Int.reduceToNat, tn_lk, tn_kl, if_true, if_false, Bool.false_eq_true, reduceCtorEq, ↓reduceIte, if_pos, if_neg]
/-- what putting couple k on cell c does -/
theorem w_put (hs : s ∈ stL) (hw : 2 ≤ w ∧ w ≤ 6) (hn : n ≤ 36) {h' : Nat} (hnw : n = w * h') (hr : rOK w n hl ρ) (h : stR I s w ρ) {k c : Nat} {way f : Int} (hk : k < 18) (h0 : ρ k = -2) (hf : (f = 1 ∧ way = 0) ∨ (f = 0 ∧ way = 1)) (hok : rOK w n hl (rPut ρ k (c : Int) way)) : wm t d rt (f_X6_put s (k : Int) (c : Int) f (mm t d rt I)) (fun _ J => frm (stF s) I J ∧ stR J s w (rPut ρ k (c : Int) way)) := by
  obtain ⟨h1, h2, h3, h4, h5, h6, h7, h8, h9⟩ := h
  have hs3 : s < 302 := by
    have : ∀ x ∈ stL, x < 302 := by decide +kernel
    exact this s hs
  have hb := rOK_b hok hw hn hnw hk
  rw [rPut_k, rPut_18] at hb
  have hc2 : 0 ≤ (c : Int) := by omega
  obtain ⟨_, b2, b3, b4⟩ := hb.resolve_left (by omega)
  have hcn : c < 36 := by omega
  -- the row's other cell
  have ho : ∃ c2 : Nat, rOth w (rPut ρ k (c : Int) way) k = (c2 : Int) ∧ c2 < 36 ∧ c < c2 ∧ (f = 1 → (c2 : Int) = c + 1) ∧ (f = 0 → (c2 : Int) = c + w) := ⟨(rOth w (rPut ρ k (c : Int) way) k).toNat, by omega, by omega, by omega, by omega, by omega⟩
  obtain ⟨c2, o1, o2, o3, o4, o5⟩ := ho
  -- what the machine does
  have run : f_X6_put s (k : Int) (c : Int) f (mm t d rt I) = some (0, mm t d rt (up (up (up (up (up (up (up I (s + 1) k (c : Int)) (s + 2) k f) (s + 5) c (k : Int)) (s + 5) c2 (k : Int)) (s + 3) k 0) (s + 4) k 0) s 6 (I s 6 + 1))) := by
    rcases hf with ⟨rfl, rfl⟩ | ⟨rfl, rfl⟩
    · have e := o4 rfl
      simp (disch := omega) only [Option.bind_some, jbd_s, jjq, jz0, jz1, wr_id, Int.toNat_natCast, Int.reduceToNat, tn_lk, tn_kl, if_true, if_false, Bool.false_eq_true, reduceCtorEq, ↓reduceIte, if_pos, if_neg, f_X6_put, f_X6_occupy, f_X6_second, FState hs, up_g, up_ne, jdz1, ← e]
    · have e := o5 rfl
      simp (disch := omega) only [Option.bind_some, jbd_s, jjq, jz0, jz1, wr_id, Int.toNat_natCast, Int.reduceToNat, tn_lk, tn_kl, if_true, if_false, Bool.false_eq_true, reduceCtorEq, ↓reduceIte, if_pos, if_neg, f_X6_put, f_X6_occupy, f_X6_second, FState hs, up_g, up_ne, jdz0, h5, ← e]
  refine wm_e run ⟨?_, ?_⟩
  · intro a ha
    have ha' : a ≠ s ∧ a ≠ s + 1 ∧ a ≠ s + 2 ∧ a ≠ s + 3 ∧ a ≠ s + 4 ∧ a ≠ s + 5 := by unfold stF at ha; omega
    obtain ⟨a1, a2, a3, a4, a5, a6⟩ := ha'
    rw [up_ne a1, up_ne a5, up_ne a4, up_ne a6, up_ne a6, up_ne a3, up_ne a2]
  · refine ⟨?_, ?_, ?_, ?_, ?_, ?_, ?_, ?_, ?_⟩
    · intro j hj
      simp (disch := omega) only [up_g, up_ne]
      by_cases e : j = k
      · rw [e, if_pos rfl, rPut_k, if_pos hc2]
      · rw [if_neg e, rPut_n (by omega), h1 j hj]
    · intro j hj hj0
      simp (disch := omega) only [up_g, up_ne]
      by_cases e : j = k
      · subst e
        rw [if_pos rfl, if_pos rfl, if_pos rfl, rPut_18, rPut_36, rPut_54]
        exact ⟨by omega, rfl, rfl⟩
      · rw [if_neg e, if_neg e, if_neg e, rPut_n (by omega), rPut_n (by omega), rPut_n (by omega)]
        exact h2 j hj (by rw [rPut_n (by omega)] at hj0; exact hj0)
    · intro j hj
      simp (disch := omega) only [up_g, up_ne]
      by_cases e : j = k
      · rw [if_pos e]; omega
      · rw [if_neg e]; exact h3 j hj
    · intro x hx
      simp (disch := omega) only [up_g, up_ne]
      by_cases e2 : x = c2
      · rw [if_pos e2]
        exact (onI_some hok hk (rAt_iff.mpr ⟨by rw [rPut_k]; exact hc2, Or.inr (by rw [o1, e2])⟩)).symm
      · rw [if_neg e2]
        by_cases e1 : x = c
        · rw [if_pos e1]
          exact (onI_some hok hk (rAt_iff.mpr ⟨by rw [rPut_k]; exact hc2, Or.inl (by rw [rPut_k, e1])⟩)).symm
        · rw [if_neg e1, h4 x hx]
          have rat : ∀ j, j < 18 → rAt w (rPut ρ k (c : Int) way) (x : Int) j = rAt w ρ (x : Int) j := by
            intro j hj
            by_cases e : j = k
            · subst e
              have q1 : ¬ rAt w (rPut ρ j (c : Int) way) (x : Int) j = true := by
                rw [rAt_iff, rPut_k, o1]; omega
              have q2 : ¬ rAt w ρ (x : Int) j = true := by rw [rAt_iff]; omega
              rw [Bool.eq_iff_iff]; exact ⟨fun z => absurd z q1, fun z => absurd z q2⟩
            · unfold rAt rLies rOth
              rw [rPut_n (by omega), rPut_n (by omega)]
          rcases onI_cases w ρ x with ⟨q, q2⟩ | ⟨j, q1, q2, q3, q4⟩
          · rw [q, onI_none (fun j hj => by rw [rat j hj]; exact rCpl_not q2 j hj)]
          · rw [q2, onI_some hok q1 (by rw [rat j q1]; exact q4)]
    · simp (disch := omega) only [up_g, up_ne, ↓reduceIte, if_neg]; exact h5
    · simp (disch := omega) only [up_g, up_ne, ↓reduceIte, if_neg]
      rw [h6]
      unfold rMany
      rw [cntB_up (p := rLies ρ) (q := rLies (rPut ρ k (c : Int) way)) (k := k) (by unfold rLies; rw [h0]; rfl) (by unfold rLies; rw [rPut_k]; exact decide_eq_true hc2) hk (fun j hj e => by unfold rLies; rw [rPut_n (by omega)])]
      rfl
    · simp (disch := omega) only [up_g, up_ne, ↓reduceIte, if_neg]; rw [h7, rPut_n (by omega)]
    · simp (disch := omega) only [up_g, up_ne, ↓reduceIte, if_neg]; rw [h8, rPut_n (by omega)]
    · simp (disch := omega) only [up_g, up_ne, ↓reduceIte, if_neg]; rw [h9, rPut_n (by omega)]
end ST
