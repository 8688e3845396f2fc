/-! ===== runs step by step, from the head ===== -/
section WS
variable {t d rt : Nat} {Q : Int → (Nat → Nat → Int) → Prop}
theorem wm_o {α : Type} {x : Option α} {f : α → Option (Int × jMem)} {a : α} (hx : x = some a) (h : wm t d rt (f a) Q) : wm t d rt (x.bind f) Q := by
  rw [hx]; exact h
theorem wm_t {c : Prop} {hd : Decidable c} {a b : Option (Int × jMem)} (hc : c) (h : wm t d rt a Q) : wm t d rt (if c then a else b) Q := by
  rw [if_pos hc]; exact h
theorem wm_f {c : Prop} {hd : Decidable c} {a b : Option (Int × jMem)} (hc : ¬ c) (h : wm t d rt b Q) : wm t d rt (if c then a else b) Q := by
  rw [if_neg hc]; exact h
theorem wm_q {α : Type} {k : α} {b : α → Option (Int × jMem)} (h : wm t d rt (b k) Q) : wm t d rt (jjq k b) Q := h
theorem wm_c {ci a : Nat} {I : Nat → Nat → Int} {x : Option (Int × jMem)} {f : Int → jMem → Option (Int × jMem)} (hk : (K0 a).1 = ci ∧ a < 418) (h : wm t d rt (jbd x f) Q) : wm t d rt (jcall ci (mm t d rt I) a x f) Q := by
  rw [mm_call hk]; exact h
theorem wm_d {x : Option (Int × jMem)} {f : Int → jMem → Option (Int × jMem)} {r : Int} {I : Nat → Nat → Int} (hx : x = some (r, mm t d rt I)) (h : wm t d rt (f r (mm t d rt I)) Q) : wm t d rt (jbd x f) Q := by
  rw [hx]; exact h
theorem wm_z0 {I : Nat → Nat → Int} (h : Q 0 I) : wm t d rt (jm_z 0 (mm t d rt I)) Q := by
  rw [jz0]; exact wm_r h
theorem wm_z1 {I : Nat → Nat → Int} (h : Q 1 I) : wm t d rt (jm_z 1 (mm t d rt I)) Q := by
  rw [jz1]; exact wm_r h
theorem wm_z {v : Int} {I : Nat → Nat → Int} (hv : v = 0 ∨ v = 1) (h : Q v I) : wm t d rt (jm_z v (mm t d rt I)) Q := by
  rcases hv with rfl | rfl
  · exact wm_z0 h
  · exact wm_z1 h
end WS
