/-! ===== what a run comes to: an answer and ints of which Q holds ===== -/
def wm (t d rt : Nat) (x : Option (Int × jMem)) (Q : Int → (Nat → Nat → Int) → Prop) : Prop := ∃ r I, x = some (r, mm t d rt I) ∧ Q r I
section WM
variable {t d rt : Nat} {Q : Int → (Nat → Nat → Int) → Prop}
theorem wm_r {r : Int} {I : Nat → Nat → Int} (h : Q r I) : wm t d rt (some (r, mm t d rt I)) Q := ⟨r, I, rfl, h⟩
theorem wm_e {x : Option (Int × jMem)} {r : Int} {I : Nat → Nat → Int} (hx : x = some (r, mm t d rt I)) (h : Q r I) : wm t d rt x Q := ⟨r, I, hx, h⟩
theorem wm_if {c : Prop} {hd : Decidable c} {a b : Option (Int × jMem)} (ha : c → wm t d rt a Q) (hb : ¬ c → wm t d rt b Q) : wm t d rt (if c then a else b) Q := by
  by_cases h : c
  · rw [if_pos h]; exact ha h
  · rw [if_neg h]; exact hb h
theorem wm_b {x : Option (Int × jMem)} {f : Int → jMem → Option (Int × jMem)} {P : Int → (Nat → Nat → Int) → Prop} (h : wm t d rt x P) (hf : ∀ v J, P v J → wm t d rt (f v (mm t d rt J)) Q) : wm t d rt (jbd x f) Q := by
  obtain ⟨v, J, e, hp⟩ := h
  rw [e]
  exact hf v J hp
theorem wm_w {x : Option (Int × jMem)} {P : Int → (Nat → Nat → Int) → Prop} (h : wm t d rt x P) (hf : ∀ v J, P v J → Q v J) : wm t d rt x Q := by
  obtain ⟨v, J, e, hp⟩ := h
  exact ⟨v, J, e, hf v J hp⟩
theorem wm_eq {x : Option (Int × jMem)} {r : Int} {I : Nat → Nat → Int} (h : wm t d rt x (fun v J => v = r ∧ J = I)) : x = some (r, mm t d rt I) := by
  obtain ⟨v, J, e, h1, h2⟩ := h
  rw [e, h1, h2]
theorem wm_to {x : Option (Int × jMem)} (h : wm t d rt x Q) : ∃ r I, x = some (r, mm t d rt I) ∧ Q r I := h
/-- a loop: Inv at its i-th turn, n turns at most -/
theorem wm_lp1 {body : (jMem → Option (Int × jMem)) → jMem → Option (Int × jMem)} (n : Nat) (Inv : Nat → (Nat → Nat → Int) → Prop) (hs : ∀ i, i ≤ n → ∀ (I : Nat → Nat → Int), Inv i I → ∀ rec : jMem → Option (Int × jMem), (∀ j (J : Nat → Nat → Int), i < j → j ≤ n → Inv j J → wm t d rt (rec (mm t d rt J)) Q) → wm t d rt (body rec (mm t d rt I)) Q) {fuel : Nat} {I : Nat → Nat → Int} (hf : n < fuel) (h0 : Inv 0 I) : wm t d rt (jlp1 body fuel (mm t d rt I)) Q := by
  have key : ∀ f i (I : Nat → Nat → Int), n < i + f → i ≤ n → Inv i I → wm t d rt (jlp1 body f (mm t d rt I)) Q := by
    intro f
    induction f with
    | zero => intro i I h1 h2; omega
    | succ f ih =>
      intro i I h1 h2 h3
      rw [jlp1_s]
      exact hs i h2 I h3 _ (fun j J h4 h5 h6 => ih j J (by omega) h5 h6)
  exact key fuel 0 I (by omega) (by omega) h0
/-- a loop: Inv at its i-th turn, n turns at most -/
theorem wm_lp2 {A0 : Type} {body : (A0 → jMem → Option (Int × jMem)) → A0 → jMem → Option (Int × jMem)} (n : Nat) (Inv : Nat → A0 → (Nat → Nat → Int) → Prop) (hs : ∀ i, i ≤ n → ∀ (a0 : A0) (I : Nat → Nat → Int), Inv i a0 I → ∀ rec : A0 → jMem → Option (Int × jMem), (∀ j (b0 : A0) (J : Nat → Nat → Int), i < j → j ≤ n → Inv j b0 J → wm t d rt (rec b0 (mm t d rt J)) Q) → wm t d rt (body rec a0 (mm t d rt I)) Q) {fuel : Nat} {a0 : A0} {I : Nat → Nat → Int} (hf : n < fuel) (h0 : Inv 0 a0 I) : wm t d rt (jlp2 body fuel a0 (mm t d rt I)) Q := by
  have key : ∀ f i (a0 : A0) (I : Nat → Nat → Int), n < i + f → i ≤ n → Inv i a0 I → wm t d rt (jlp2 body f a0 (mm t d rt I)) Q := by
    intro f
    induction f with
    | zero => intro i a0 I h1 h2; omega
    | succ f ih =>
      intro i a0 I h1 h2 h3
      rw [jlp2_s]
      exact hs i h2 a0 I h3 _ (fun j b0 J h4 h5 h6 => ih j b0 J (by omega) h5 h6)
  exact key fuel 0 a0 I (by omega) (by omega) h0
/-- a loop: Inv at its i-th turn, n turns at most -/
theorem wm_lp3 {A0 A1 : Type} {body : (A0 → A1 → jMem → Option (Int × jMem)) → A0 → A1 → jMem → Option (Int × jMem)} (n : Nat) (Inv : Nat → A0 → A1 → (Nat → Nat → Int) → Prop) (hs : ∀ i, i ≤ n → ∀ (a0 : A0) (a1 : A1) (I : Nat → Nat → Int), Inv i a0 a1 I → ∀ rec : A0 → A1 → jMem → Option (Int × jMem), (∀ j (b0 : A0) (b1 : A1) (J : Nat → Nat → Int), i < j → j ≤ n → Inv j b0 b1 J → wm t d rt (rec b0 b1 (mm t d rt J)) Q) → wm t d rt (body rec a0 a1 (mm t d rt I)) Q) {fuel : Nat} {a0 : A0} {a1 : A1} {I : Nat → Nat → Int} (hf : n < fuel) (h0 : Inv 0 a0 a1 I) : wm t d rt (jlp3 body fuel a0 a1 (mm t d rt I)) Q := by
  have key : ∀ f i (a0 : A0) (a1 : A1) (I : Nat → Nat → Int), n < i + f → i ≤ n → Inv i a0 a1 I → wm t d rt (jlp3 body f a0 a1 (mm t d rt I)) Q := by
    intro f
    induction f with
    | zero => intro i a0 a1 I h1 h2; omega
    | succ f ih =>
      intro i a0 a1 I h1 h2 h3
      rw [jlp3_s]
      exact hs i h2 a0 a1 I h3 _ (fun j b0 b1 J h4 h5 h6 => ih j b0 b1 J (by omega) h5 h6)
  exact key fuel 0 a0 a1 I (by omega) (by omega) h0
/-- a loop: Inv at its i-th turn, n turns at most -/
theorem wm_lp4 {A0 A1 A2 : Type} {body : (A0 → A1 → A2 → jMem → Option (Int × jMem)) → A0 → A1 → A2 → jMem → Option (Int × jMem)} (n : Nat) (Inv : Nat → A0 → A1 → A2 → (Nat → Nat → Int) → Prop) (hs : ∀ i, i ≤ n → ∀ (a0 : A0) (a1 : A1) (a2 : A2) (I : Nat → Nat → Int), Inv i a0 a1 a2 I → ∀ rec : A0 → A1 → A2 → jMem → Option (Int × jMem), (∀ j (b0 : A0) (b1 : A1) (b2 : A2) (J : Nat → Nat → Int), i < j → j ≤ n → Inv j b0 b1 b2 J → wm t d rt (rec b0 b1 b2 (mm t d rt J)) Q) → wm t d rt (body rec a0 a1 a2 (mm t d rt I)) Q) {fuel : Nat} {a0 : A0} {a1 : A1} {a2 : A2} {I : Nat → Nat → Int} (hf : n < fuel) (h0 : Inv 0 a0 a1 a2 I) : wm t d rt (jlp4 body fuel a0 a1 a2 (mm t d rt I)) Q := by
  have key : ∀ f i (a0 : A0) (a1 : A1) (a2 : A2) (I : Nat → Nat → Int), n < i + f → i ≤ n → Inv i a0 a1 a2 I → wm t d rt (jlp4 body f a0 a1 a2 (mm t d rt I)) Q := by
    intro f
    induction f with
    | zero => intro i a0 a1 a2 I h1 h2; omega
    | succ f ih =>
      intro i a0 a1 a2 I h1 h2 h3
      rw [jlp4_s]
      exact hs i h2 a0 a1 a2 I h3 _ (fun j b0 b1 b2 J h4 h5 h6 => ih j b0 b1 b2 J (by omega) h5 h6)
  exact key fuel 0 a0 a1 a2 I (by omega) (by omega) h0
/-- a loop: Inv at its i-th turn, n turns at most -/
theorem wm_lp5 {A0 A1 A2 A3 : Type} {body : (A0 → A1 → A2 → A3 → jMem → Option (Int × jMem)) → A0 → A1 → A2 → A3 → jMem → Option (Int × jMem)} (n : Nat) (Inv : Nat → A0 → A1 → A2 → A3 → (Nat → Nat → Int) → Prop) (hs : ∀ i, i ≤ n → ∀ (a0 : A0) (a1 : A1) (a2 : A2) (a3 : A3) (I : Nat → Nat → Int), Inv i a0 a1 a2 a3 I → ∀ rec : A0 → A1 → A2 → A3 → jMem → Option (Int × jMem), (∀ j (b0 : A0) (b1 : A1) (b2 : A2) (b3 : A3) (J : Nat → Nat → Int), i < j → j ≤ n → Inv j b0 b1 b2 b3 J → wm t d rt (rec b0 b1 b2 b3 (mm t d rt J)) Q) → wm t d rt (body rec a0 a1 a2 a3 (mm t d rt I)) Q) {fuel : Nat} {a0 : A0} {a1 : A1} {a2 : A2} {a3 : A3} {I : Nat → Nat → Int} (hf : n < fuel) (h0 : Inv 0 a0 a1 a2 a3 I) : wm t d rt (jlp5 body fuel a0 a1 a2 a3 (mm t d rt I)) Q := by
  have key : ∀ f i (a0 : A0) (a1 : A1) (a2 : A2) (a3 : A3) (I : Nat → Nat → Int), n < i + f → i ≤ n → Inv i a0 a1 a2 a3 I → wm t d rt (jlp5 body f a0 a1 a2 a3 (mm t d rt I)) Q := by
    intro f
    induction f with
    | zero => intro i a0 a1 a2 a3 I h1 h2; omega
    | succ f ih =>
      intro i a0 a1 a2 a3 I h1 h2 h3
      rw [jlp5_s]
      exact hs i h2 a0 a1 a2 a3 I h3 _ (fun j b0 b1 b2 b3 J h4 h5 h6 => ih j b0 b1 b2 b3 J (by omega) h5 h6)
  exact key fuel 0 a0 a1 a2 a3 I (by omega) (by omega) h0
/-- a loop that takes no memory along -/
theorem wm_lq1 {A0 : Type} {body : (A0 → Option (Int × jMem)) → A0 → Option (Int × jMem)} (n : Nat) (Inv : Nat → A0 → Prop) (hs : ∀ i, i ≤ n → ∀ (a0 : A0), Inv i a0 → ∀ rec : A0 → Option (Int × jMem), (∀ j (b0 : A0), i < j → j ≤ n → Inv j b0 → wm t d rt (rec b0) Q) → wm t d rt (body rec a0) Q) {fuel : Nat} {a0 : A0} (hf : n < fuel) (h0 : Inv 0 a0) : wm t d rt (jlp1 body fuel a0) Q := by
  have key : ∀ f i (a0 : A0), n < i + f → i ≤ n → Inv i a0 → wm t d rt (jlp1 body f a0) Q := by
    intro f
    induction f with
    | zero => intro i a0 h1 h2; omega
    | succ f ih =>
      intro i a0 h1 h2 h3
      rw [jlp1_s]
      exact hs i h2 a0 h3 _ (fun j b0 h4 h5 h6 => ih j b0 (by omega) h5 h6)
  exact key fuel 0 a0 (by omega) (by omega) h0
/-- a loop that takes no memory along -/
theorem wm_lq2 {A0 A1 : Type} {body : (A0 → A1 → Option (Int × jMem)) → A0 → A1 → Option (Int × jMem)} (n : Nat) (Inv : Nat → A0 → A1 → Prop) (hs : ∀ i, i ≤ n → ∀ (a0 : A0) (a1 : A1), Inv i a0 a1 → ∀ rec : A0 → A1 → Option (Int × jMem), (∀ j (b0 : A0) (b1 : A1), i < j → j ≤ n → Inv j b0 b1 → wm t d rt (rec b0 b1) Q) → wm t d rt (body rec a0 a1) Q) {fuel : Nat} {a0 : A0} {a1 : A1} (hf : n < fuel) (h0 : Inv 0 a0 a1) : wm t d rt (jlp2 body fuel a0 a1) Q := by
  have key : ∀ f i (a0 : A0) (a1 : A1), n < i + f → i ≤ n → Inv i a0 a1 → wm t d rt (jlp2 body f a0 a1) Q := by
    intro f
    induction f with
    | zero => intro i a0 a1 h1 h2; omega
    | succ f ih =>
      intro i a0 a1 h1 h2 h3
      rw [jlp2_s]
      exact hs i h2 a0 a1 h3 _ (fun j b0 b1 h4 h5 h6 => ih j b0 b1 (by omega) h5 h6)
  exact key fuel 0 a0 a1 (by omega) (by omega) h0
/-- a loop that takes no memory along -/
theorem wm_lq3 {A0 A1 A2 : Type} {body : (A0 → A1 → A2 → Option (Int × jMem)) → A0 → A1 → A2 → Option (Int × jMem)} (n : Nat) (Inv : Nat → A0 → A1 → A2 → Prop) (hs : ∀ i, i ≤ n → ∀ (a0 : A0) (a1 : A1) (a2 : A2), Inv i a0 a1 a2 → ∀ rec : A0 → A1 → A2 → Option (Int × jMem), (∀ j (b0 : A0) (b1 : A1) (b2 : A2), i < j → j ≤ n → Inv j b0 b1 b2 → wm t d rt (rec b0 b1 b2) Q) → wm t d rt (body rec a0 a1 a2) Q) {fuel : Nat} {a0 : A0} {a1 : A1} {a2 : A2} (hf : n < fuel) (h0 : Inv 0 a0 a1 a2) : wm t d rt (jlp3 body fuel a0 a1 a2) Q := by
  have key : ∀ f i (a0 : A0) (a1 : A1) (a2 : A2), n < i + f → i ≤ n → Inv i a0 a1 a2 → wm t d rt (jlp3 body f a0 a1 a2) Q := by
    intro f
    induction f with
    | zero => intro i a0 a1 a2 h1 h2; omega
    | succ f ih =>
      intro i a0 a1 a2 h1 h2 h3
      rw [jlp3_s]
      exact hs i h2 a0 a1 a2 h3 _ (fun j b0 b1 b2 h4 h5 h6 => ih j b0 b1 b2 (by omega) h5 h6)
  exact key fuel 0 a0 a1 a2 (by omega) (by omega) h0
end WM
/-- all places but these are as they were -/
def frm (S : Nat → Prop) (I J : Nat → Nat → Int) : Prop := ∀ a, ¬ S a → J a = I a
theorem frm_refl (S : Nat → Prop) (I : Nat → Nat → Int) : frm S I I := fun _ _ => rfl
theorem frm_trans {S : Nat → Prop} {I J K : Nat → Nat → Int} (h1 : frm S I J) (h2 : frm S J K) : frm S I K := fun a ha => (h2 a ha).trans (h1 a ha)
theorem frm_sub {S T : Nat → Prop} {I J : Nat → Nat → Int} (h : frm S I J) (hs : ∀ a, S a → T a) : frm T I J := fun a ha => h a (fun q => ha (hs a q))
theorem frm_up {S : Nat → Prop} {I J : Nat → Nat → Int} {a j : Nat} {v : Int} (h : frm S I J) (ha : S a) : frm S I (up J a j v) := fun x hx => by
  rw [← h x hx]
  funext y
  exact up_n (Or.inl (fun e => hx (e ▸ ha)))
theorem up_ne {I : Nat → Nat → Int} {a j x : Nat} {v : Int} (h : x ≠ a) : up I a j v x = I x := by
  funext y
  exact up_n (Or.inl h)
theorem up_g {I : Nat → Nat → Int} {a j y : Nat} {v : Int} : up I a j v a y = if y = j then v else I a y := by
  unfold up
  by_cases h : y = j
  · rw [if_pos ⟨rfl, h⟩, if_pos h]
  · rw [if_neg (fun q => h q.2), if_neg h]
