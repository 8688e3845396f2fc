/-! ===== in how many pavings a stone lies ===== -/
def inO (w h : Nat) (cl na nd : Nat → Bool) (y into o : Nat) : Bool := (o &&& room w h cl nd y into == o) && fill w h cl na y into o
/-- the class's reach -/
def Rc (w h : Nat) (cl na nd : Nat → Bool) : Nat → Nat → Nat
  | 0, m => if m = 0 then 1 else 0
  | y + 1, o => if Wr w h cl na nd (h - (y + 1)) (y + 1) o = 0 then 0 else ((List.range (2 ^ w)).map (fun into => if inO w h cl na nd y into o then Rc w h cl na nd y into else 0)).sum
theorem sum_map_add (l : List Nat) (f g : Nat → Nat) : (l.map (fun a => f a + g a)).sum = (l.map f).sum + (l.map g).sum := by
  induction l with
  | nil => rfl
  | cons a l ih => simp only [List.map_cons, List.sum_cons, ih]; omega
theorem sum_map_mul (l : List Nat) (c : Nat) (f : Nat → Nat) : (l.map (fun a => c * f a)).sum = c * (l.map f).sum := by
  induction l with
  | nil => simp
  | cons a l ih => simp only [List.map_cons, List.sum_cons, ih, Nat.mul_add]
theorem sum_map_0 (l : List Nat) (f : Nat → Nat) (h : ∀ a, a ∈ l → f a = 0) : (l.map f).sum = 0 := by
  induction l with
  | nil => rfl
  | cons a l ih => simp only [List.map_cons, List.sum_cons, h a (by simp), ih (fun x hx => h x (by simp [hx]))]
theorem sum_swap (P : Nat → Nat → Bool) (A G : Nat → Nat) (l2 : List Nat) : ∀ (l1 : List Nat), (l1.map (fun a => A a * (l2.map (fun b => if P a b then G b else 0)).sum)).sum = (l2.map (fun b => (l1.map (fun a => if P a b then A a else 0)).sum * G b)).sum
  | [] => by simp; symm; exact sum_map_0 _ _ (fun _ _ => by simp)
  | a :: l1 => by
    rw [List.map_cons, List.sum_cons, sum_swap P A G l2 l1, ← sum_map_mul, ← sum_map_add]
    congr 1
    apply List.map_congr_left
    intro b _
    rw [List.map_cons, List.sum_cons, Nat.add_mul]
    congr 1
    cases P a b <;> simp
theorem sum_pos_mem {l : List Nat} {f : Nat → Nat} (h : (l.map f).sum ≠ 0) : ∃ a, a ∈ l ∧ f a ≠ 0 := by
  refine Classical.byContradiction (fun hn => h (sum_map_0 l f (fun a ha => ?_)))
  refine Classical.byContradiction (fun hz => hn ⟨a, ha, hz⟩)
theorem sum_ge_mem {l : List Nat} {f : Nat → Nat} {a : Nat} (h : a ∈ l) : f a ≤ (l.map f).sum := by
  induction l with
  | nil => simp at h
  | cons b l ih =>
    rw [List.map_cons, List.sum_cons]
    rw [List.mem_cons] at h
    rcases h with rfl | h
    · omega
    · have := ih h; omega
section PSh
variable {w h : Nat} {cl na nd : Nat → Bool}
theorem outs_eq (hw6 : w ≤ 6) (y into : Nat) : outs w h cl na nd y into = (List.range (2 ^ w)).filter (inO w h cl na nd y into) := by
  unfold outs inO
  rw [subs_w hw6 room_lt, List.filter_filter]
  apply List.filter_congr
  intro x _
  rw [Bool.and_comm]
theorem outs_sum (hw6 : w ≤ 6) (y into : Nat) (G : Nat → Nat) : ((outs w h cl na nd y into).map G).sum = ((List.range (2 ^ w)).map (fun o => if inO w h cl na nd y into o then G o else 0)).sum := by
  rw [outs_eq hw6, sum_filter]
/-- one row on -/
theorem Rc_step (hw6 : w ≤ 6) {y : Nat} {G : Nat → Nat} (hG : ∀ o, Wr w h cl na nd (h - (y + 1)) (y + 1) o = 0 → canR w h cl nd (y + 1) o = true → G o = 0) : ((List.range (2 ^ w)).map (fun into => Rc w h cl na nd y into * ((outs w h cl na nd y into).map G).sum)).sum = ((List.range (2 ^ w)).map (fun o => Rc w h cl na nd (y + 1) o * G o)).sum := by
  have e : ∀ into, ((outs w h cl na nd y into).map G).sum = ((List.range (2 ^ w)).map (fun o => if inO w h cl na nd y into o then G o else 0)).sum := fun into => outs_sum hw6 y into G
  simp only [e]
  rw [sum_swap (inO w h cl na nd y)]
  congr 1
  apply List.map_congr_left
  intro o ho
  rw [Rc]
  by_cases z : Wr w h cl na nd (h - (y + 1)) (y + 1) o = 0
  · rw [if_pos z, Nat.zero_mul]
    by_cases z2 : canR w h cl nd (y + 1) o = true
    · rw [hG o z z2, Nat.mul_zero]
    · have : ((List.range (2 ^ w)).map (fun into => if inO w h cl na nd y into o then Rc w h cl na nd y into else 0)).sum = 0 := by
        apply sum_map_0
        intro into _
        by_cases q : inO w h cl na nd y into o = true
        · exfalso
          apply z2
          exact outs_can (na := na) (into := into) (by rw [outs_eq hw6, List.mem_filter]; exact ⟨ho, q⟩)
        · rw [if_neg q]
      rw [this, Nat.zero_mul]
  · rw [if_neg z]
theorem Rc_can (hw6 : w ≤ 6) {y o : Nat} (ho : o < 2 ^ w) (hr : Rc w h cl na nd y o ≠ 0) : canR w h cl nd y o = true := by
  cases y with
  | zero =>
    rw [Rc] at hr
    by_cases z : o = 0
    · subst z; simp [canR]
    · rw [if_neg z] at hr; exact absurd rfl hr
  | succ y =>
    rw [Rc] at hr
    by_cases z : Wr w h cl na nd (h - (y + 1)) (y + 1) o = 0
    · rw [if_pos z] at hr; exact absurd rfl hr
    · rw [if_neg z] at hr
      obtain ⟨into, _, hq⟩ := sum_pos_mem hr
      by_cases q : inO w h cl na nd y into o = true
      · exact outs_can (na := na) (into := into) (by rw [outs_eq hw6, List.mem_filter]; exact ⟨List.mem_range.mpr ho, q⟩)
      · rw [if_neg q] at hq; exact absurd rfl hq
theorem Rc_0 (G : Nat → Nat) : ((List.range (2 ^ w)).map (fun m => Rc w h cl na nd 0 m * G m)).sum = G 0 := by
  obtain ⟨m, hm⟩ : ∃ m, 2 ^ w = m + 1 := ⟨2 ^ w - 1, by have := Nat.two_pow_pos w; omega⟩
  rw [hm, List.range_succ_eq_map, List.map_cons, List.sum_cons, List.map_map, sum_map_0]
  · simp [Rc]
  · intro a _; simp [Rc, Function.comp]
/-- all pavings by what passes below row y -/
theorem Rc_all (hw6 : w ≤ 6) (G : Nat → Nat → Nat) {Y : Nat} (hG : ∀ y o, y < Y → Wr w h cl na nd (h - (y + 1)) (y + 1) o = 0 → canR w h cl nd (y + 1) o = true → G (y + 1) o = 0) (hs : ∀ y into, y < Y → G y into = ((outs w h cl na nd y into).map (G (y + 1))).sum) : ((List.range (2 ^ w)).map (fun o => Rc w h cl na nd Y o * G Y o)).sum = G 0 0 := by
  have key : ∀ y, y ≤ Y → ((List.range (2 ^ w)).map (fun o => Rc w h cl na nd y o * G y o)).sum = G 0 0 := by
    intro y
    induction y with
    | zero => intro _; exact Rc_0 (G 0)
    | succ y ih =>
      intro hy
      rw [← Rc_step hw6 (hG y · (by omega)), ← ih (by omega)]
      congr 1
      apply List.map_congr_left
      intro into _
      rw [← hs y into (by omega)]
  exact key Y (Nat.le_refl Y)
/-- pavings from row y on with a stone DOWN from cell c0 -/
def dnN (w h : Nat) (cl na nd : Nat → Bool) (c0 y into : Nat) : Nat := (Lp w (w * h) na nd ((h - y) * w) (y * w) (Uc w cl y into)).countP (fun p => wyP (y * w) p c0 == 1)
theorem wyP_app {c : Nat} {a b : List Int} {x : Nat} (hx : c + a.length ≤ x) : wyP c (a ++ b) x = wyP (c + a.length) b x := by
  unfold wyP
  rw [if_pos (by omega), if_pos hx, List.getD_eq_getElem?_getD, List.getD_eq_getElem?_getD, List.getElem?_append_right (by omega)]
  congr 2
  omega
theorem wyP_app_l {c : Nat} {a b : List Int} {x : Nat} (h0 : c ≤ x) (hx : x < c + a.length) : wyP c (a ++ b) x = a.getD (x - c) (-1) := by
  unfold wyP
  rw [if_pos h0, List.getD_eq_getElem?_getD, List.getD_eq_getElem?_getD, List.getElem?_append_left (by omega)]
theorem countP_flatMap' {α : Type} (p : α → Bool) (F : Nat → List α) (l : List Nat) : (l.flatMap F).countP p = (l.map (fun o => (F o).countP p)).sum := by
  induction l with
  | nil => rfl
  | cons a l ih => rw [List.flatMap_cons, List.countP_append, ih, List.map_cons, List.sum_cons]
theorem hsub {y : Nat} (hy : y < h) : (h - y) * w = w + (h - (y + 1)) * w := by
  rw [show h - y = (h - (y + 1)) + 1 by omega, Nat.succ_mul, Nat.add_comm]
theorem dnN_on (hw : 1 < w) (hw6 : w ≤ 6) (hn : ∀ x, na x = true → cl x = false) {c0 y into : Nat} (hy : y < h) (hc : (y + 1) * w ≤ c0) : dnN w h cl na nd c0 y into = ((outs w h cl na nd y into).map (dnN w h cl na nd c0 (y + 1))).sum := by
  unfold dnN
  rw [hsub hy, Lp_rw hw hw6 hy hn, countP_flatMap']
  congr 1
  apply List.map_congr_left
  intro o ho
  rw [List.countP_map]
  congr 1
  funext p
  simp only [Function.comp]
  rw [wyP_app (by rw [wysR_len, ← Nat.succ_mul]; exact hc), wysR_len, ← Nat.succ_mul]
theorem dnN_at (hw : 1 < w) (hw6 : w ≤ 6) (hn : ∀ x, na x = true → cl x = false) {y into b : Nat} (hy : y < h) (hb : b < w) : dnN w h cl na nd (clB w y b) y into = ((outs w h cl na nd y into).map (fun o => if o.testBit b then Np w (w * h) na nd ((h - (y + 1)) * w) ((y + 1) * w) (Uc w cl (y + 1) o) else 0)).sum := by
  unfold dnN
  rw [hsub hy, Lp_rw hw hw6 hy hn, countP_flatMap']
  congr 1
  apply List.map_congr_left
  intro o ho
  rw [List.countP_map]
  have hk : okB w (w * h) na nd w (y * w) (Uc w cl y into) o = true := by
    rw [← Eo_row hw hw6 hy hn] at ho
    exact (List.mem_filter.mp ho).2
  have e : ((fun p => wyP (y * w) p (clB w y b) == 1) ∘ fun x => wysR w w (y * w) (Uc w cl y into) o ++ x) = fun _ => o.testBit b := by
    funext p
    simp only [Function.comp]
    rw [wyP_app_l (by unfold clB; omega) (by rw [wysR_len]; unfold clB; omega), ← wysR_row1 hk b hb]
    congr 2
    unfold clB; omega
  rw [e]
  cases o.testBit b <;> simp [Np]
/-- what the class sums up: reach times ways, where the mask has the bit -/
theorem dn_share (hw : 1 < w) (hw6 : w ≤ 6) (hh : 0 < h) (hn : ∀ x, na x = true → cl x = false) {y b : Nat} (hy : y < h) (hb : b < w) : ((List.range (2 ^ w)).map (fun o => if o.testBit b then Rc w h cl na nd (y + 1) o * Wr w h cl na nd (h - (y + 1)) (y + 1) o else 0)).sum = dnN w h cl na nd (clB w y b) 0 0 := by
  have hz : ∀ z o, z < h → Wr w h cl na nd (h - (z + 1)) (z + 1) o = 0 → canR w h cl nd (z + 1) o = true → Np w (w * h) na nd ((h - (z + 1)) * w) ((z + 1) * w) (Uc w cl (z + 1) o) = 0 := by
    intro z o h1 h2 h3
    rw [← Wr_eq hw hw6 hh hn (by omega) h3]; exact h2
  have hrow : ∀ z, z < y → (z + 1) * w ≤ clB w y b := by
    intro z h1
    have : (z + 1) * w ≤ y * w := Nat.mul_le_mul_right w h1
    unfold clB; omega
  have h1 := Rc_all hw6 (dnN w h cl na nd (clB w y b)) (Y := y) (fun z o a1 a2 a3 => by
    have := hz z o (by omega) a2 a3
    unfold dnN
    unfold Np at this
    rw [List.eq_nil_of_length_eq_zero this]; rfl) (fun z into a1 => dnN_on hw hw6 hn (by omega) (hrow z a1))
  rw [← h1]
  have h2 : ∀ into, dnN w h cl na nd (clB w y b) y into = ((outs w h cl na nd y into).map (fun o => if o.testBit b then Np w (w * h) na nd ((h - (y + 1)) * w) ((y + 1) * w) (Uc w cl (y + 1) o) else 0)).sum := fun into => dnN_at hw hw6 hn hy hb
  simp only [h2]
  rw [Rc_step hw6 (fun o a2 a3 => by rw [hz y o hy a2 a3]; simp)]
  congr 1
  apply List.map_congr_left
  intro o ho
  by_cases q : o.testBit b = true
  · rw [if_pos q, if_pos q]
    by_cases r : Rc w h cl na nd (y + 1) o = 0
    · rw [r, Nat.zero_mul, Nat.zero_mul]
    · rw [Wr_eq hw hw6 hh hn (by omega) (Rc_can hw6 (List.mem_range.mp ho) r)]
  · rw [if_neg q, if_neg q, Nat.mul_zero]
/-- reach times ways is never more than all -/
theorem Rc_le (hw : 1 < w) (hw6 : w ≤ 6) (hh : 0 < h) (hn : ∀ x, na x = true → cl x = false) {y o : Nat} (hy : y ≤ h) (ho : o < 2 ^ w) : Rc w h cl na nd y o * Wr w h cl na nd (h - y) y o ≤ Np w (w * h) na nd (h * w) 0 (Uc w cl 0 0) := by
  have h1 := Rc_all hw6 (fun y o => Np w (w * h) na nd ((h - y) * w) (y * w) (Uc w cl y o)) (Y := y) (fun z o a1 a2 a3 => by
    rw [← Wr_eq hw hw6 hh hn (by omega) a3]; exact a2) (fun z into a1 => by rw [hsub (show z < h by omega), Np_rw hw hw6 (by omega) hn])
  simp only [Nat.sub_zero, Nat.zero_mul] at h1
  rw [← h1]
  by_cases r : Rc w h cl na nd y o = 0
  · rw [r, Nat.zero_mul]; exact Nat.zero_le _
  · rw [Wr_eq hw hw6 hh hn (by omega) (Rc_can hw6 ho r)]
    exact sum_ge_mem (f := fun o => Rc w h cl na nd y o * Np w (w * h) na nd ((h - y) * w) (y * w) (Uc w cl y o)) (List.mem_range.mpr ho)
end PSh
/-! ===== each open cell's four ways ===== -/
theorem part4 {α : Type} (A B C D : α → Bool) : ∀ (l : List α), (∀ p, p ∈ l → (if A p then 1 else 0) + (if B p then 1 else 0) + (if C p then 1 else 0) + (if D p then 1 else 0) = 1) → l.countP A + l.countP B + l.countP C + l.countP D = l.length
  | [], _ => rfl
  | a :: l, h => by
    have h1 := h a (by simp)
    have h2 := part4 A B C D l (fun p hp => h p (by simp [hp]))
    simp only [List.countP_cons, List.length_cons]
    omega
section PF
variable {w n : Nat} {na nd : Nat → Bool}
theorem four_ways (hw : 1 < w) {k : Nat} {U : Nat → Bool} {x : Nat} (hx : x < k) (hU : U x = false) : (Lp w n na nd k 0 U).countP (fun p => wyP 0 p x == 0) + (Lp w n na nd k 0 U).countP (fun p => wyP 0 p x == 1) + (if x % w = 0 then 0 else (Lp w n na nd k 0 U).countP (fun p => wyP 0 p (x - 1) == 0)) + (if x < w then 0 else (Lp w n na nd k 0 U).countP (fun p => wyP 0 p (x - w) == 1)) = Np w n na nd k 0 U := by
  have h := part4 (fun p => wyP 0 p x == 0) (fun p => wyP 0 p x == 1) (fun p => decide (0 < x ∧ wyP 0 p (x - 1) = 0)) (fun p => decide (w ≤ x ∧ wyP 0 p (x - w) = 1)) (Lp w n na nd k 0 U) (fun p hp => by
    have h1 := Lp_once (by omega) hp x (by omega) (by omega)
    rw [cvN_wy hw, hU] at h1
    simp only [beq_iff_eq, decide_eq_true_eq]
    exact h1)
  unfold Np
  rw [← h]
  congr 1
  · congr 1
    by_cases z : x % w = 0
    · rw [if_pos z]
      symm
      rw [List.countP_eq_zero]
      intro p hp
      simp only [decide_eq_true_eq, not_and]
      intro h0 h1
      have := ((Lp_wy hp (x - 1)).2.1 h1).2.2
      have q : (x - 1) % w + 1 = ((x - 1) + 1) % w := by
        rw [Nat.add_mod, Nat.mod_eq_of_lt (a := 1) hw, Nat.mod_eq_of_lt this]
      rw [show x - 1 + 1 = x by omega, z] at q
      omega
    · rw [if_neg z]
      have x0 : 0 < x := by
        rcases Nat.eq_zero_or_pos x with q | q
        · subst q; simp at z
        · exact q
      congr 1
      funext p
      rw [Bool.eq_iff_iff]
      simp [x0]
  · by_cases z : x < w
    · rw [if_pos z]
      symm
      rw [List.countP_eq_zero]
      intro p hp
      simp only [decide_eq_true_eq, not_and]
      omega
    · rw [if_neg z]
      congr 1
      funext p
      rw [Bool.eq_iff_iff]
      simp [show w ≤ x by omega]
/-- the told: where c0 doesn't lie DOWN -/
theorem not_down {k : Nat} {U : Nat → Bool} {x : Nat} (hU : U x = false) (hx : x < k) (hw : 1 < w) : Np w n na (fun y => nd y || y == x) k 0 U + (Lp w n na nd k 0 U).countP (fun p => wyP 0 p x == 1) + (if x < w then 0 else (Lp w n na nd k 0 U).countP (fun p => wyP 0 p (x - w) == 1)) = Np w n na nd k 0 U := by
  have h4 := four_ways (n := n) (na := na) (nd := nd) hw hx hU
  have key : ∀ {j c : Nat} {V : Nat → Bool} {p : List Int}, p ∈ Lp w n na nd j c V → (fitsP w na (fun y => nd y || y == x) c p = true ↔ wyP c p x ≠ 1 ∧ (w ≤ x → wyP c p (x - w) ≠ 1)) := by
    intro j
    induction j with
    | zero => intro c V p hp; simp [Lp] at hp; subst hp; simp [fitsP, wyP_nil]
    | succ j ih =>
      intro c V p hp
      rcases Lp_cases hp with ⟨h1, q, rfl, hq⟩ | ⟨h1, ha, q, rfl, hq⟩ | ⟨h1, ha, q, rfl, hq⟩
      · have := ih hq
        simp only [fitsP, wyP_cons]
        simp only [show ((-1 : Int) != 0) = true by decide, show ((-1 : Int) != 1) = true by decide, Bool.true_or, Bool.true_and, this]
        by_cases e : x = c
        · subst e; simp [wyP_lt (Nat.lt_succ_self x)]
          by_cases hwx : w ≤ x
          · rw [if_neg (by omega)]
          · simp [hwx]
        · by_cases e2 : x - w = c
          · simp [e, e2, wyP_lt (Nat.lt_succ_self c)]
          · simp [e, e2]
      · have := ih hq
        simp only [aOK, Bool.and_eq_true, Bool.not_eq_true'] at ha
        simp only [fitsP, wyP_cons]
        simp only [ha.1.2, ha.2, show ((0 : Int) != 1) = true by decide, Bool.not_false, Bool.and_self, Bool.or_true, Bool.true_or, Bool.true_and, this]
        by_cases e : x = c
        · subst e; simp [wyP_lt (Nat.lt_succ_self x)]
          by_cases hwx : w ≤ x
          · rw [if_neg (by omega)]
          · simp [hwx]
        · by_cases e2 : x - w = c
          · simp [e, e2, wyP_lt (Nat.lt_succ_self c)]
          · simp [e, e2]
      · have := ih hq
        simp only [dOK, Bool.and_eq_true, Bool.not_eq_true'] at ha
        simp only [fitsP, wyP_cons]
        simp only [ha.1.2, ha.2, show ((1 : Int) != 0) = true by decide, show ((1 : Int) != 1) = false by decide, Bool.true_or, Bool.true_and, Bool.false_or, this, Bool.and_eq_true, Bool.not_eq_true']
        by_cases e : x = c
        · subst e; simp
        · by_cases e2 : w ≤ x ∧ x - w = c
          · have : c + w = x := by omega
            simp [e, e2, this]
          · have t1 : ¬ (c + w = x) := by omega
            have t2 : ¬ (c = x) := fun q => e q.symm
            by_cases e3 : w ≤ x
            · have : ¬ x - w = c := fun q => e2 ⟨e3, q⟩
              simp [e, t1, t2, this]
            · simp [e, t1, t2, e3]
  unfold Np at h4 ⊢
  rw [Lp_told (na := na) (nd := nd) (fun _ z => z) (fun y z => by simp [z]), ← List.countP_eq_length_filter]
  have q : (Lp w n na nd k 0 U).countP (fitsP w na (fun y => nd y || y == x) 0) = (Lp w n na nd k 0 U).countP (fun p => wyP 0 p x == 0) + (if x % w = 0 then 0 else (Lp w n na nd k 0 U).countP (fun p => wyP 0 p (x - 1) == 0)) := by
    have h5 := part4 (fitsP w na (fun y => nd y || y == x) 0) (fun p => wyP 0 p x == 1) (fun p => decide (w ≤ x ∧ wyP 0 p (x - w) = 1)) (fun _ => false) (Lp w n na nd k 0 U) (fun p hp => by
      have h1 := Lp_once (by omega) hp x (by omega) (by omega)
      rw [cvN_wy hw, hU] at h1
      have h2 := key hp
      by_cases z1 : wyP 0 p x = 1
      · have : ¬ fitsP w na (fun y => nd y || y == x) 0 p = true := fun q => (h2.mp q).1 z1
        simp only [z1] at h1 ⊢
        simp [this]
        intro a b
        simp [a, b] at h1
      · by_cases z2 : w ≤ x ∧ wyP 0 p (x - w) = 1
        · have : ¬ fitsP w na (fun y => nd y || y == x) 0 p = true := fun q => (h2.mp q).2 z2.1 z2.2
          simp [this, z1, z2]
        · have : fitsP w na (fun y => nd y || y == x) 0 p = true := h2.mpr ⟨z1, fun a b => z2 ⟨a, b⟩⟩
          simp only [this, if_true, decide_eq_true_eq, if_neg z2, Bool.false_eq_true, if_false, beq_iff_eq, if_neg z1])
    have e0 : (Lp w n na nd k 0 U).countP (fun _ => false) = 0 := by rw [List.countP_eq_zero]; intro _ _; decide
    have e1 : (Lp w n na nd k 0 U).countP (fun p => decide (w ≤ x ∧ wyP 0 p (x - w) = 1)) = (if x < w then 0 else (Lp w n na nd k 0 U).countP (fun p => wyP 0 p (x - w) == 1)) := by
      by_cases z : x < w
      · rw [if_pos z, List.countP_eq_zero]; intro p _; simp only [decide_eq_true_eq, not_and]; omega
      · rw [if_neg z]; congr 1; funext p; rw [Bool.eq_iff_iff]; simp [show w ≤ x by omega]
    rw [e0, e1] at h5
    omega
  rw [q]
  omega
end PF
