/-! ===== the best of all pavings, the first of alike ones ===== -/
def bpS (g : Nat → Int) (ok : Nat → Bool) : List Nat → Option Nat → Int → Option Nat × Int
  | [], ch, m => (ch, m)
  | o :: l, ch, m => if m < g o ∧ ok o = true then bpS g ok l (some o) (g o) else bpS g ok l ch m
theorem bpS_spec (g : Nat → Int) (ok : Nat → Bool) : ∀ (l : List Nat) (ch : Option Nat) (m : Int), (bpS g ok l ch m = (ch, m) ∧ ∀ o, o ∈ l → ok o = true → g o ≤ m) ∨ (∃ l1 o l2, l = l1 ++ o :: l2 ∧ ok o = true ∧ m < g o ∧ bpS g ok l ch m = (some o, g o) ∧ (∀ x, x ∈ l1 → ok x = true → g x < g o) ∧ (∀ x, x ∈ l2 → ok x = true → g x ≤ g o))
  | [], ch, m => Or.inl ⟨rfl, by simp⟩
  | a :: l, ch, m => by
    unfold bpS
    by_cases z : m < g a ∧ ok a = true
    · rw [if_pos z]
      rcases bpS_spec g ok l (some a) (g a) with ⟨h1, h2⟩ | ⟨l1, o, l2, h1, h2, h3, h4, h5, h6⟩
      · exact Or.inr ⟨[], a, l, rfl, z.2, z.1, h1, by simp, h2⟩
      · refine Or.inr ⟨a :: l1, o, l2, by rw [h1]; rfl, h2, by omega, h4, fun x hx hk => ?_, h6⟩
        rw [List.mem_cons] at hx
        rcases hx with rfl | hx
        · exact h3
        · exact h5 x hx hk
    · rw [if_neg z]
      rcases bpS_spec g ok l ch m with ⟨h1, h2⟩ | ⟨l1, o, l2, h1, h2, h3, h4, h5, h6⟩
      · refine Or.inl ⟨h1, fun x hx hk => ?_⟩
        rw [List.mem_cons] at hx
        rcases hx with rfl | hx
        · have : ¬ m < g x := fun q => z ⟨q, hk⟩
          omega
        · exact h2 x hx hk
      · refine Or.inr ⟨a :: l1, o, l2, by rw [h1]; rfl, h2, h3, h4, fun x hx hk => ?_, h6⟩
        rw [List.mem_cons] at hx
        rcases hx with rfl | hx
        · have : ¬ m < g x := fun q => z ⟨q, hk⟩
          omega
        · exact h5 x hx hk
/-- what a row of masks is worth -/
def vL (wt : Nat → Nat → Int) : Nat → Nat → List Nat → Int
  | y, into, [] => wt y into
  | y, into, o :: l => wt y into + vL wt (y + 1) o l
def Gn (wt : Nat → Nat → Int) (w h : Nat) (cl na nd : Nat → Bool) : Nat → Nat → Nat → Int
  | 0, y, into => if into = 0 then wt y 0 else -1000000
  | k + 1, y, into => if Wr w h cl na nd (k + 1) y into = 0 then -1000000 else match (bpS (Gn wt w h cl na nd k (y + 1)) (fill w h cl na y into) (subs (room w h cl nd y into)) none (-1000000)).1 with
    | none => -1000000
    | some o => wt y into + Gn wt w h cl na nd k (y + 1) o
def lnB (wt : Nat → Nat → Int) (w h : Nat) (cl na nd : Nat → Bool) : Nat → Nat → Nat → List Nat
  | 0, _, _ => []
  | k + 1, y, into => ((bpS (Gn wt w h cl na nd k (y + 1)) (fill w h cl na y into) (subs (room w h cl nd y into)) none (-1000000)).1.getD 0) :: lnB wt w h cl na nd k (y + 1) ((bpS (Gn wt w h cl na nd k (y + 1)) (fill w h cl na y into) (subs (room w h cl nd y into)) none (-1000000)).1.getD 0)
theorem pick_at {g : Nat → Nat} : ∀ {l : List Nat} {o r : Nat}, l.Pairwise (· < ·) → o ∈ l → r < g o → pick g l (((l.filter (fun p => decide (p < o))).map g).sum + r) = some (o, r)
  | [], o, r, _, h, _ => by simp at h
  | a :: l, o, r, hs, h, hr => by
    rw [List.pairwise_cons] at hs
    rw [List.mem_cons] at h
    rw [pick]
    rcases h with rfl | h
    · have : (o :: l).filter (fun p => decide (p < o)) = [] := by
        rw [List.filter_eq_nil_iff]
        intro b hb
        rw [List.mem_cons] at hb
        rcases hb with rfl | hb
        · simp
        · have := hs.1 b hb; simp; omega
      rw [this]; simp [hr]
    · have := hs.1 o h
      rw [List.filter_cons]
      simp only [this, decide_true, if_true, List.map_cons, List.sum_cons]
      rw [if_neg (by omega), show g a + ((l.filter (fun p => decide (p < o))).map g).sum + r - g a = ((l.filter (fun p => decide (p < o))).map g).sum + r by omega]
      exact pick_at hs.2 h hr
theorem sum_lt_mono (g : Nat → Nat) {o o' : Nat} (h : o ≤ o') : ∀ (l : List Nat), ((l.filter (fun p => decide (p < o))).map g).sum ≤ ((l.filter (fun p => decide (p < o'))).map g).sum
  | [] => by simp
  | a :: l => by
    have := sum_lt_mono g h l
    rw [List.filter_cons, List.filter_cons]
    by_cases z : a < o
    · simp [z, show a < o' by omega]; exact this
    · by_cases z' : a < o'
      · simp [z, z']; omega
      · simp [z, z']; exact this
theorem sum_lt_add (g : Nat → Nat) {o o' : Nat} (h : o < o') : ∀ (l : List Nat), o ∈ l → ((l.filter (fun p => decide (p < o))).map g).sum + g o ≤ ((l.filter (fun p => decide (p < o'))).map g).sum
  | [], hm => by simp at hm
  | a :: l, hm => by
    rw [List.mem_cons] at hm
    rw [List.filter_cons, List.filter_cons]
    rcases hm with rfl | hm
    · have := sum_lt_mono g (Nat.le_of_lt h) l
      simp [h]; omega
    · have := sum_lt_add g h l hm
      by_cases z : a < o
      · simp [z, show a < o' by omega]; omega
      · by_cases z' : a < o'
        · simp [z, z']; omega
        · simp [z, z']; exact this
section PB
variable {w h : Nat} {cl na nd : Nat → Bool} {wt : Nat → Nat → Int}
theorem Gn_none (hw : 1 < w) (hw6 : w ≤ 6) (hh : 0 < h) (hn : ∀ x, na x = true → cl x = false) {k y into : Nat} (hy : y + k = h) (hc : canR w h cl nd y into = true) (h0 : Np w (w * h) na nd (k * w) (y * w) (Uc w cl y into) = 0) : Gn wt w h cl na nd k y into = -1000000 := by
  cases k with
  | zero => rw [Nat.zero_mul] at h0; simp [Np, Lp] at h0
  | succ k => rw [Gn, if_pos (by rw [Wr_eq hw hw6 hh hn hy hc]; exact h0)]
theorem best_spec (hw : 1 < w) (hw6 : w ≤ 6) (hh : 0 < h) (hh6 : h ≤ 6) (hn : ∀ x, na x = true → cl x = false) (hwt : ∀ y m, -10000 ≤ wt y m) {k : Nat} : ∀ {y into : Nat}, y + k = h → canR w h cl nd y into = true → 0 < Np w (w * h) na nd (k * w) (y * w) (Uc w cl y into) → ∃ b, b < Np w (w * h) na nd (k * w) (y * w) (Uc w cl y into) ∧ lnB wt w h cl na nd k y into = lnP w k (nthP w (w * h) na nd (k * w) (y * w) (Uc w cl y into) b) ∧ Gn wt w h cl na nd k y into = vL wt y into (lnP w k (nthP w (w * h) na nd (k * w) (y * w) (Uc w cl y into) b)) ∧ (∀ i, i < Np w (w * h) na nd (k * w) (y * w) (Uc w cl y into) → vL wt y into (lnP w k (nthP w (w * h) na nd (k * w) (y * w) (Uc w cl y into) i)) ≤ vL wt y into (lnP w k (nthP w (w * h) na nd (k * w) (y * w) (Uc w cl y into) b)) ∧ (i < b → vL wt y into (lnP w k (nthP w (w * h) na nd (k * w) (y * w) (Uc w cl y into) i)) < vL wt y into (lnP w k (nthP w (w * h) na nd (k * w) (y * w) (Uc w cl y into) b)))) ∧ -10000 * ((k : Int) + 1) ≤ Gn wt w h cl na nd k y into := by
  induction k with
  | zero =>
    intro y into hy hc hp
    have e : into = 0 := by
      rw [show y = h by omega] at hc
      exact can_last hh hc
    subst e
    refine ⟨0, by simp [Np, Lp], rfl, by simp [Gn, lnP, vL], fun i hi => ?_, ?_⟩
    · have : i < 1 := by simpa [Np, Lp] using hi
      rw [show i = 0 by omega]
      exact ⟨Int.le_refl _, fun q => absurd q (Nat.lt_irrefl 0)⟩
    · have := hwt y 0
      simp [Gn]; omega
  | succ k ih =>
    intro y into hy hc hp
    have hy' : y + 1 + k = h := by omega
    -- the blocks
    have hsum : Np w (w * h) na nd ((k + 1) * w) (y * w) (Uc w cl y into) = ((outs w h cl na nd y into).map (fun o => Np w (w * h) na nd (k * w) ((y + 1) * w) (Uc w cl (y + 1) o))).sum := by
      rw [Nat.succ_mul, Nat.add_comm (k * w) w, Np_rw hw hw6 (by omega) hn]
    have hs : (outs w h cl na nd y into).Pairwise (· < ·) := List.Pairwise.filter _ (subs_sorted _)
    have hmem : ∀ o, o ∈ outs w h cl na nd y into ↔ o ∈ subs (room w h cl nd y into) ∧ fill w h cl na y into o = true := fun o => List.mem_filter
    have hW : Wr w h cl na nd (k + 1) y into ≠ 0 := by rw [Wr_eq hw hw6 hh hn hy hc]; omega
    -- one block is not empty
    obtain ⟨o1, ho1, hne⟩ := sum_pos_mem (show ((outs w h cl na nd y into).map (fun o => Np w (w * h) na nd (k * w) ((y + 1) * w) (Uc w cl (y + 1) o))).sum ≠ 0 by rw [← hsum]; omega)
    obtain ⟨b1, _, _, _, _, hb1⟩ := ih hy' (outs_can ho1) (by omega)
    rcases bpS_spec (Gn wt w h cl na nd k (y + 1)) (fill w h cl na y into) (subs (room w h cl nd y into)) none (-1000000) with ⟨_, q2⟩ | ⟨l1, o, l2, q1, q2, q3, q4, q5, q6⟩
    · exfalso
      have := q2 o1 ((hmem o1).mp ho1).1 ((hmem o1).mp ho1).2
      omega
    · have ho : o ∈ outs w h cl na nd y into := (hmem o).mpr ⟨by rw [q1]; simp, q2⟩
      have hpo : 0 < Np w (w * h) na nd (k * w) ((y + 1) * w) (Uc w cl (y + 1) o) := by
        rcases Nat.eq_zero_or_pos (Np w (w * h) na nd (k * w) ((y + 1) * w) (Uc w cl (y + 1) o)) with z | z
        · have := Gn_none (wt := wt) hw hw6 hh hn hy' (outs_can ho) z
          omega
        · exact z
      obtain ⟨b', r1, r2, r3, r4, r5⟩ := ih hy' (outs_can ho) hpo
      -- each number's block
      have blk : ∀ i, i < Np w (w * h) na nd ((k + 1) * w) (y * w) (Uc w cl y into) → ∃ oi ri, pick (fun o => Np w (w * h) na nd (k * w) ((y + 1) * w) (Uc w cl (y + 1) o)) (outs w h cl na nd y into) i = some (oi, ri) ∧ oi ∈ outs w h cl na nd y into ∧ ri < Np w (w * h) na nd (k * w) ((y + 1) * w) (Uc w cl (y + 1) oi) ∧ lnP w (k + 1) (nthP w (w * h) na nd ((k + 1) * w) (y * w) (Uc w cl y into) i) = oi :: lnP w k (nthP w (w * h) na nd (k * w) ((y + 1) * w) (Uc w cl (y + 1) oi) ri) := by
        intro i hi
        obtain ⟨oi, ri, p1, p2, p3, p4⟩ := lnP_nth hw hw6 (by omega) hn hi
        exact ⟨oi, ri, p1, p2, p3, by rw [lnP, p4, row1_app hw hw6 (by omega) hn p2, drop_app _ _ _ (wysR_len _ _ _ _ _)]⟩
      have hpk := pick_at (g := fun o => Np w (w * h) na nd (k * w) ((y + 1) * w) (Uc w cl (y + 1) o)) hs ho r1
      have hbl : (((outs w h cl na nd y into).filter (fun p => decide (p < o))).map (fun o => Np w (w * h) na nd (k * w) ((y + 1) * w) (Uc w cl (y + 1) o))).sum + b' < Np w (w * h) na nd ((k + 1) * w) (y * w) (Uc w cl y into) := by
        rw [hsum]
        have h1 := sum_lt_add (fun o => Np w (w * h) na nd (k * w) ((y + 1) * w) (Uc w cl (y + 1) o)) (o' := 64) (o := o) (by
          have := ((hmem o).mp ho).1
          unfold subs at this
          exact List.mem_range.mp (List.mem_filter.mp this).1) (outs w h cl na nd y into) ho
        have h2 : (outs w h cl na nd y into).filter (fun p => decide (p < 64)) = outs w h cl na nd y into := by
          rw [List.filter_eq_self]
          intro x hx
          have := ((hmem x).mp hx).1
          unfold subs at this
          simpa using List.mem_range.mp (List.mem_filter.mp this).1
        rw [h2] at h1
        omega
      obtain ⟨ob, rb, p1, p2, p3, p4⟩ := blk _ hbl
      rw [hpk] at p1
      injection p1 with p1
      injection p1 with p1 p1'
      subst p1; subst p1'
      refine ⟨_, hbl, ?_, ?_, fun i hi => ?_, ?_⟩
      · rw [p4, lnB, q4]
        simp only [Option.getD_some]
        rw [r2]
      · rw [p4, Gn, if_neg hW, q4]
        simp only []
        rw [r3, vL]
      · obtain ⟨oi, ri, s1, s2, s3, s4⟩ := blk i hi
        rw [p4, s4, vL, vL]
        have hi' := pick_sum hs s1
        obtain ⟨bi, _, _, t3, t4, _⟩ := ih hy' (outs_can s2) (by omega)
        have hle := (t4 ri s3).1
        rw [← t3] at hle
        have hin := ((hmem oi).mp s2).1
        rw [q1, List.mem_append, List.mem_cons] at hin
        have hfi := ((hmem oi).mp s2).2
        rw [← r3]
        rcases hin with hin | hin | hin
        · have := q5 oi hin hfi
          exact ⟨by omega, fun _ => by omega⟩
        · subst hin
          have := r4 ri s3
          rw [← r3] at this
          refine ⟨by omega, fun hlt => ?_⟩
          have := this.2 (by omega)
          omega
        · have h6 := q6 oi hin hfi
          refine ⟨by omega, fun hlt => ?_⟩
          exfalso
          have hso := subs_sorted (room w h cl nd y into)
          rw [q1, List.pairwise_append, List.pairwise_cons] at hso
          have hoo := hso.2.1.1 oi hin
          have := sum_lt_add (fun o => Np w (w * h) na nd (k * w) ((y + 1) * w) (Uc w cl (y + 1) o)) hoo (outs w h cl na nd y into) ho
          omega
      · rw [Gn, if_neg hW, q4]
        simp only []
        have := hwt y into
        omega
end PB
