/-! ===== State: lifting, seasons, copies ===== -/
def rSet (ρ : Nat → Int) (j : Nat) (v : Int) : Nat → Int := fun x => if x = j then v else ρ x
theorem rSet_s {ρ : Nat → Int} {j : Nat} {v : Int} : rSet ρ j v j = v := if_pos rfl
theorem rSet_n {ρ : Nat → Int} {j x : Nat} {v : Int} (h : x ≠ j) : rSet ρ j v x = ρ x := if_neg h
theorem rAt_congr {w : Nat} {ρ σ : Nat → Int} (h : ∀ j, j < 36 → ρ j = σ j) {c : Int} {k : Nat} (hk : k < 18) : rAt w ρ c k = rAt w σ c k := by
  unfold rAt rLies rOth
  rw [h k (by omega), h (18 + k) (by omega)]
theorem rOth_congr {w : Nat} {ρ σ : Nat → Int} (h : ∀ j, j < 36 → ρ j = σ j) {k : Nat} (hk : k < 18) : rOth w ρ k = rOth w σ k := by
  unfold rOth
  rw [h k (by omega), h (18 + k) (by omega)]
theorem fnd_congr {p q : Nat → Bool} : ∀ {m i : Nat}, (∀ k, i ≤ k → k < i + m → p k = q k) → fnd p m i = fnd q m i
  | 0, _, _ => rfl
  | m + 1, i, h => by
    unfold fnd
    rw [h i (by omega) (by omega), fnd_congr (fun k a b => h k (by omega) (by omega))]
theorem rCpl_congr {w : Nat} {ρ σ : Nat → Int} (h : ∀ j, j < 36 → ρ j = σ j) (c : Int) : rCpl w ρ c = rCpl w σ c :=
  fnd_congr (fun k _ b => rAt_congr h (by omega))
theorem onI_congr {w : Nat} {ρ σ : Nat → Int} (h : ∀ j, j < 36 → ρ j = σ j) (c : Nat) : onI w ρ c = onI w σ c := by
  unfold onI
  rw [rCpl_congr h]
theorem rMany_congr {ρ σ : Nat → Int} (h : ∀ j, j < 36 → ρ j = σ j) : rMany ρ = rMany σ :=
  cntB_ext (fun j hj => by unfold rLies; rw [h j (by omega)])
theorem rOK_congr {w n : Nat} {hl : Nat → Bool} {ρ σ : Nat → Int} (hr : rOK w n hl ρ) (h : ∀ j, j < 36 → σ j = ρ j) (h2 : ∀ k, k < 18 → ρ k = -2 → σ (36 + k) = 0 ∧ σ (54 + k) = 0) : rOK w n hl σ := by
  refine ⟨fun k hk => ?_, fun j k hj hk e h1 h3 => ?_⟩
  · have e1 := h k (by omega)
    have e2 := h (18 + k) (by omega)
    rw [e1, e2, rOth_congr h hk]
    rcases hr.1 k hk with ⟨a, b, c⟩ | q
    · exact Or.inl ⟨a, b, h2 k hk a⟩
    · exact Or.inr q
  · rw [h j (by omega)] at h1
    rw [h k (by omega)] at h3
    rw [h j (by omega), h k (by omega), rOth_congr h hj, rOth_congr h hk]
    exact hr.2 j k hj hk e h1 h3
theorem rOK_set72 {w n : Nat} {hl : Nat → Bool} {ρ : Nat → Int} (hr : rOK w n hl ρ) {j : Nat} (hj : 72 ≤ j) (v : Int) : rOK w n hl (rSet ρ j v) :=
  rOK_congr hr (fun x hx => rSet_n (by omega)) (fun k hk q => by
    rw [rSet_n (by omega), rSet_n (by omega)]
    rcases hr.1 k hk with z | z
    · exact z.2.2
    · omega)
theorem rOK_setk {w n : Nat} {hl : Nat → Bool} {ρ : Nat → Int} (hr : rOK w n hl ρ) {k b : Nat} (hk : k < 18) (hb : b = 36 ∨ b = 54) (h0 : 0 ≤ ρ k) (v : Int) : rOK w n hl (rSet ρ (b + k) v) :=
  rOK_congr hr (fun x hx => rSet_n (by omega)) (fun j hj q => by
    have : j ≠ k := fun e => by rw [e] at q; omega
    rw [rSet_n (by omega), rSet_n (by omega)]
    rcases hr.1 j hj with z | z
    · exact z.2.2
    · omega)
/-- couple k lifted -/
theorem rOK_take {w n : Nat} {hl : Nat → Bool} {ρ : Nat → Int} (hr : rOK w n hl ρ) {k : Nat} (hk : k < 18) : rOK w n hl (rPut ρ k (-2) 0) := by
  have oth : ∀ j, j < 18 → j ≠ k → rOth w (rPut ρ k (-2) 0) j = rOth w ρ j := fun j hj e => by
    unfold rOth
    rw [rPut_n (by omega), rPut_n (by omega)]
  refine ⟨fun j hj => ?_, fun i j hi hj e h1 h3 => ?_⟩
  · by_cases e : j = k
    · subst e
      exact Or.inl ⟨rPut_k, rPut_18, rPut_36, rPut_54⟩
    · rw [rPut_n (by omega), rPut_n (by omega), rPut_n (by omega), rPut_n (by omega), oth j hj e]
      exact hr.1 j hj
  · by_cases ei : i = k
    · rw [ei, rPut_k] at h1; omega
    by_cases ej : j = k
    · rw [ej, rPut_k] at h3; omega
    rw [rPut_n (by omega)] at h1 h3
    rw [rPut_n (by omega), rPut_n (by omega), oth i hi ei, oth j hj ej]
    exact hr.2 i j hi hj e h1 h3
section SU
variable {t d rt : Nat} {I : Nat → Nat → Int} {s w n : Nat} {ρ : Nat → Int} {hl : Nat → Bool}
theorem stR_frm {J : Nat → Nat → Int} {S : Nat → Prop} (hf : frm S I J) (hs : ∀ a, s ≤ a → a ≤ s + 5 → ¬ S a) (h : stR I s w ρ) : stR J s w ρ := by
  have e0 := hf s (hs s (by omega) (by omega))
  have e1 := hf (s + 1) (hs _ (by omega) (by omega))
  have e2 := hf (s + 2) (hs _ (by omega) (by omega))
  have e3 := hf (s + 3) (hs _ (by omega) (by omega))
  have e4 := hf (s + 4) (hs _ (by omega) (by omega))
  have e5 := hf (s + 5) (hs _ (by omega) (by omega))
  unfold stR
  rw [e0, e1, e2, e3, e4, e5]
  exact h
theorem stR_fld {j r : Nat} {v : Int} (hj : (j = 7 ∧ r = 72) ∨ (j = 8 ∧ r = 73) ∨ (j = 9 ∧ r = 74)) (h : stR I s w ρ) : stR (up I s j v) s w (rSet ρ r v) := by
  obtain ⟨h1, h2, h3, h4, h5, h6, h7, h8, h9⟩ := h
  have hc : ∀ x, x < 36 → rSet ρ r v x = ρ x := fun x hx => rSet_n (by omega)
  refine ⟨fun k hk => ?_, fun k hk q => ?_, fun k hk => ?_, fun c hc' => ?_, ?_, ?_, ?_, ?_, ?_⟩
  · rw [up_ne (by omega), rSet_n (by omega)]; exact h1 k hk
  · rw [rSet_n (by omega)] at q
    rw [up_ne (by omega), up_ne (by omega), up_ne (by omega), rSet_n (by omega), rSet_n (by omega), rSet_n (by omega)]; exact h2 k hk q
  · rw [up_ne (by omega)]; exact h3 k hk
  · rw [up_ne (by omega), onI_congr hc]; exact h4 c hc'
  · rw [up_g, if_neg (by omega)]; exact h5
  · rw [up_g, if_neg (by omega), rMany_congr hc]; exact h6
  all_goals
    rcases hj with ⟨rfl, rfl⟩ | ⟨rfl, rfl⟩ | ⟨rfl, rfl⟩ <;> simp (disch := omega) only [up_g, ↓reduceIte, rSet_s, rSet_n, if_neg, h7, h8, h9, Nat.reduceEqDiff]
theorem stR_age {k : Nat} {v : Int} (hk : k < 18) (h : stR I s w ρ) : stR (up I (s + 4) k v) s w (rSet ρ (54 + k) v) := by
  obtain ⟨h1, h2, h3, h4, h5, h6, h7, h8, h9⟩ := h
  have hc : ∀ x, x < 36 → rSet ρ (54 + k) v x = ρ x := fun x hx => rSet_n (by omega)
  refine ⟨fun j hj => ?_, fun j hj q => ?_, fun j hj => ?_, fun c hc' => ?_, ?_, ?_, ?_, ?_, ?_⟩
  · rw [up_ne (by omega), rSet_n (by omega)]; exact h1 j hj
  · rw [rSet_n (by omega)] at q
    rw [up_ne (by omega), up_ne (by omega), up_g, rSet_n (by omega), rSet_n (by omega)]
    obtain ⟨a, b, c⟩ := h2 j hj q
    refine ⟨a, b, ?_⟩
    by_cases e : j = k
    · rw [if_pos e, e, rSet_s]
    · rw [if_neg e, rSet_n (by omega)]; exact c
  · rw [up_ne (by omega)]; exact h3 j hj
  · rw [up_ne (by omega), onI_congr hc]; exact h4 c hc'
  · rw [up_ne (by omega)]; exact h5
  · rw [up_ne (by omega), rMany_congr hc]; exact h6
  · rw [up_ne (by omega), rSet_n (by omega)]; exact h7
  · rw [up_ne (by omega), rSet_n (by omega)]; exact h8
  · rw [up_ne (by omega), rSet_n (by omega)]; exact h9
theorem stL_lt (hs : s ∈ stL) : s < 302 := by
  have : ∀ x ∈ stL, x < 302 := by decide +kernel
  exact this s hs
/-- what lifting couple k does -/
theorem w_take (hs : s ∈ stL) (hw : 2 ≤ w ∧ w ≤ 6) (hn : n ≤ 36) {h' : Nat} (hnw : n = w * h') (hr : rOK w n hl ρ) (h : stR I s w ρ) {k : Nat} (hk : k < 18) (h0 : 0 ≤ ρ k) : wm t d rt (f_X6_take s (k : Int) (mm t d rt I)) (fun _ J => frm (stF s) I J ∧ stR J s w (rPut ρ k (-2) 0)) := by
  have hsec := fun (J : Nat → Nat → Int) (hJ : stR J s w ρ) => w_second (t := t) (d := d) (rt := rt) hs hr hJ hk h0
  have hst := h
  obtain ⟨h1, h2, h3, h4, h5, h6, h7, h8, h9⟩ := h
  have hs3 := stL_lt hs
  have hok := rOK_take hr hk
  have hb := rOK_b hr hw hn hnw hk
  obtain ⟨_, b2, b3, b4⟩ := hb.resolve_left (by omega)
  have e1 : I (s + 1) k = ρ k := by rw [h1 k hk, if_pos h0]
  obtain ⟨f1, f2, f3⟩ := h2 k hk h0
  obtain ⟨c, ec⟩ : ∃ c : Nat, ρ k = (c : Int) := ⟨(ρ k).toNat, by omega⟩
  obtain ⟨c2, ec2⟩ : ∃ c2 : Nat, rOth w ρ k = (c2 : Int) := ⟨(rOth w ρ k).toNat, by omega⟩
  have run : f_X6_take s (k : Int) (mm t d rt I) = some (0, mm t d rt (up (up (up (up I (s + 5) c (-1)) (s + 5) c2 (-1)) (s + 1) k (-1)) s 6 (I s 6 - 1))) := by
    rcases b4 with ⟨g1, g2⟩ | ⟨g1, g2⟩
    · have g3 : I (s + 2) k = 1 := by omega
      have g4 : ((c : Int) + 1) = (c2 : Int) := by omega
      simp (disch := omega) only [Option.bind_some, jbd_s, jjq, jz0, jz1, wr_id, Int.toNat_natCast, Int.reduceToNat, tn_lk, tn_kl, if_true, if_false, Bool.false_eq_true, reduceCtorEq, ↓reduceIte, if_pos, if_neg, f_X6_take, f_X6_second, FState hs, up_g, up_ne, e1, ec, g3, g4]
    · have g3 : I (s + 2) k = 0 := by omega
      have g4 : ((c : Int) + (w : Int)) = (c2 : Int) := by omega
      simp (disch := omega) only [Option.bind_some, jbd_s, jjq, jz0, jz1, wr_id, Int.toNat_natCast, Int.reduceToNat, tn_lk, tn_kl, if_true, if_false, Bool.false_eq_true, reduceCtorEq, ↓reduceIte, if_pos, if_neg, f_X6_take, f_X6_second, FState hs, up_g, up_ne, e1, ec, g3, h5, g4]
  refine wm_e run ⟨?_, ?_⟩
  · intro a ha
    have ha' : a ≠ s ∧ a ≠ s + 1 ∧ a ≠ s + 2 ∧ a ≠ s + 3 ∧ a ≠ s + 4 ∧ a ≠ s + 5 := by unfold stF at ha; omega
    obtain ⟨a1, a2, a3, a4, a5, a6⟩ := ha'
    rw [up_ne a1, up_ne a2, up_ne a6, up_ne a6]
  · refine ⟨?_, ?_, ?_, ?_, ?_, ?_, ?_, ?_, ?_⟩
    · intro j hj
      simp (disch := omega) only [up_g, up_ne]
      by_cases e : j = k
      · rw [e, if_pos rfl, rPut_k, if_neg (by omega)]
      · rw [if_neg e, rPut_n (by omega), h1 j hj]
    · intro j hj hj0
      simp (disch := omega) only [up_g, up_ne]
      by_cases e : j = k
      · subst e
        rw [rPut_k] at hj0; omega
      · rw [rPut_n (by omega), rPut_n (by omega), rPut_n (by omega)]
        exact h2 j hj (by rw [rPut_n (by omega)] at hj0; exact hj0)
    · intro j hj
      simp (disch := omega) only [up_g, up_ne]
      exact h3 j hj
    · intro x hx
      simp (disch := omega) only [up_g, up_ne]
      have rat : ∀ j, j < 18 → j ≠ k → rAt w (rPut ρ k (-2) 0) (x : Int) j = rAt w ρ (x : Int) j := by
        intro j hj e
        unfold rAt rLies rOth
        rw [rPut_n (by omega), rPut_n (by omega)]
      have ratk : rAt w (rPut ρ k (-2) 0) (x : Int) k = false := by
        rw [Bool.eq_false_iff]
        intro q
        rw [rAt_iff, rPut_k] at q
        omega
      have gone : rAt w ρ (x : Int) k = true → onI w (rPut ρ k (-2) 0) x = -1 := fun q => onI_none (fun j hj => by
        by_cases e : j = k
        · rw [e]; exact ratk
        · rw [rat j hj e, Bool.eq_false_iff]
          exact fun z => e (rOK_one hr hj hk z q))
      by_cases e2 : x = c2
      · rw [if_pos e2]
        exact (gone (rAt_iff.mpr ⟨h0, Or.inr (by rw [ec2, e2])⟩)).symm
      · rw [if_neg e2]
        by_cases e1 : x = c
        · rw [if_pos e1]
          exact (gone (rAt_iff.mpr ⟨h0, Or.inl (by rw [ec, e1])⟩)).symm
        · rw [if_neg e1, h4 x hx]
          rcases onI_cases w ρ x with ⟨q, q2⟩ | ⟨j, q1, q2, q3, q4⟩
          · rw [q, onI_none (fun j hj => by
              by_cases e : j = k
              · rw [e]; exact ratk
              · rw [rat j hj e]; exact rCpl_not q2 j hj)]
          · have e : j ≠ k := fun e => by
              rw [e, rAt_iff] at q4
              omega
            rw [q2, onI_some hok q1 (by rw [rat j q1 e]; exact q4)]
    · simp (disch := omega) only [up_g, up_ne, ↓reduceIte, if_neg]; exact h5
    · simp (disch := omega) only [up_g, up_ne, ↓reduceIte, if_neg]
      rw [h6]
      unfold rMany
      rw [cntB_up (p := rLies (rPut ρ k (-2) 0)) (q := rLies ρ) (k := k) (by unfold rLies; rw [rPut_k]; rfl) (by unfold rLies; exact decide_eq_true h0) hk (fun j hj e => by unfold rLies; rw [rPut_n (by omega)])]
      omega
    · simp (disch := omega) only [up_g, up_ne, ↓reduceIte, if_neg]; rw [h7, rPut_n (by omega)]
    · simp (disch := omega) only [up_g, up_ne, ↓reduceIte, if_neg]; rw [h8, rPut_n (by omega)]
    · simp (disch := omega) only [up_g, up_ne, ↓reduceIte, if_neg]; rw [h9, rPut_n (by omega)]
end SU
