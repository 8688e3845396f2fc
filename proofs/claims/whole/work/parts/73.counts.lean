/-! ===== the model's table ===== -/
def flB (I : Nat → Nat → Int) (a : Nat) (P : Nat → Bool) (g : Nat → Int) : Nat → Nat → Int := fun x y => if x = a ∧ P y = true then g y else I x y
theorem flB_ne {I : Nat → Nat → Int} {a x y : Nat} {P : Nat → Bool} {g : Nat → Int} (h : x ≠ a) : flB I a P g x y = I x y := if_neg (fun z => h z.1)
theorem flB_in {I : Nat → Nat → Int} {a y : Nat} {P : Nat → Bool} {g : Nat → Int} (h : P y = true) : flB I a P g a y = g y := if_pos ⟨rfl, h⟩
theorem flB_congr {I : Nat → Nat → Int} {a : Nat} {P Q : Nat → Bool} {g : Nat → Int} (h : ∀ y, P y = Q y) : flB I a P g = flB I a Q g := by
  rw [show P = Q from funext h]
theorem flB_up {I : Nat → Nat → Int} {a i : Nat} {P Q : Nat → Bool} {g : Nat → Int} (h : ∀ y, Q y = (P y || y == i)) : up (flB I a P g) a i (g i) = flB I a Q g := by
  funext x y
  unfold up flB
  rw [h y]
  by_cases e : x = a ∧ y = i
  · rw [if_pos e, if_pos ⟨e.1, by simp [e.2]⟩, e.2]
  · rw [if_neg e]
    by_cases e1 : x = a
    · have : (y == i) = false := by
        simp only [beq_eq_false_iff_ne]
        exact fun q => e ⟨e1, q⟩
      rw [this, Bool.or_false]
    · rw [if_neg (fun q => e1 q.1), if_neg (fun q => e1 q.1)]
theorem flB_0 {I : Nat → Nat → Int} {a : Nat} {P : Nat → Bool} {g : Nat → Int} (h : ∀ y, P y = false) : flB I a P g = I := by
  funext x y
  unfold flB
  rw [if_neg (fun q => by rw [h y] at q; cases q.2)]
/-- the table's numbers by their place -/
def FrT (w n : Nat) (cl na nd : Nat → Bool) (y : Nat) : Int := Fr w n cl na nd (n - y / 64) (y / 64) (y % 64)
theorem jlp2_seq0 {A0 A1 ρ : Type} {body : (A0 → A1 → Option ρ) → A0 → A1 → Option ρ} (a0 : Nat → A0) (a1 : Nat → A1) (n : Nat) (out : Option ρ) {x0 : A0} {m0 : A1} (hx : x0 = a0 0) (hm : m0 = a1 0) (hs : ∀ i, i < n → ∀ rec, body rec (a0 i) (a1 i) = rec (a0 (i + 1)) (a1 (i + 1))) (he : ∀ rec, body rec (a0 n) (a1 n) = out) {fuel : Nat} (hf : n < fuel) : jlp2 body fuel x0 m0 = out := by
  rw [hx, hm]
  exact jlp2_seq a0 a1 n out hs he fuel hf
section MT
variable {t d rt : Nat} {I : Nat → Nat → Int} {lv w h n : Nat}
theorem mCfg_flB {a : Nat} {P : Nat → Bool} {g : Nat → Int} (ha : a ≠ 369 ∧ a ≠ 377 ∧ a ≠ 378) (c : mCfg I lv w h n) : mCfg (flB I a P g) lv w h n := by
  obtain ⟨c1, c2, c3, c4, c⟩ := c
  exact ⟨by rw [flB_ne (Ne.symm ha.1)]; exact c1, c2, by rw [flB_ne (Ne.symm ha.2.1)]; exact c3, by rw [flB_ne (Ne.symm ha.2.2)]; exact c4, c⟩
theorem blI_flB {a b : Nat} {P : Nat → Bool} {g : Nat → Int} (h : b ≠ a) : blI (flB I a P g) b = blI I b := by
  funext x; unfold blI; rw [flB_ne h]
theorem b01_flB {a b m : Nat} {P : Nat → Bool} {g : Nat → Int} (h : b ≠ a) (k : b01 I b m) : b01 (flB I a P g) b m := fun x hx => by rw [flB_ne h]; exact k x hx
theorem tdF_tb {b : Int} {tb : Nat} {na nd : Nat → Bool} (hb : tdF I b tb na nd) : tb = 406 ∨ tb = 407 := by
  rcases hb with ⟨_, h, _⟩ | ⟨_, h, _⟩
  · exact Or.inl h
  · exact Or.inr h
theorem tdF_flB {b : Int} {tb : Nat} {na nd : Nat → Bool} {P : Nat → Bool} {g : Nat → Int} (hb : tdF I b tb na nd) : tdF (flB I tb P g) b tb na nd := by
  have ht := tdF_tb hb
  unfold tdF
  rw [blI_flB (by omega), blI_flB (by omega)]
  exact hb
theorem s_countAt (c : mCfg I lv w h n) {b : Int} {tb : Nat} {na nd : Nat → Bool} (hb : tdF I b tb na nd) (k8 : b01 I 408 36) (k9 : b01 I 409 36) (k0 : b01 I 410 36) {x m : Nat} (hx : x < n) (hm : m < 64) (hr : x % w + 1 < w → x + 1 < n) : f_X12_countAt 369 b (x : Int) (m : Int) (mm t d rt I) = some (if m.testBit 0 || blI I 408 x then I tb (64 * (x + 1) + (m >>> 1)) else (if aM w (blI I 408) na x m then I tb (64 * (x + 1) + mA m) else 0) + (if dM w n (blI I 408) nd x then I tb (64 * (x + 1) + mD w m) else 0), mm t d rt I) := by
  have c' := c
  obtain ⟨c1, c2, c3, c4, c5, c6, c7, c8, c9, c10, c11⟩ := c
  have e1 : jd_and (m : Int) 1 = ((m &&& 1 : Nat) : Int) := and_n (b := 1) (by omega) (by omega)
  have l1 : m &&& 1 ≤ 1 := Nat.and_le_right
  have e2 : jd_shr (m : Int) 1 = ((m >>> 1 : Nat) : Int) := shr_1 m (by omega)
  have l2 : m >>> 1 < 64 := by rw [Nat.shiftRight_eq_div_pow]; omega
  have e3 : ((64 : Int) * (x : Int)) + (64 : Int) + (((m >>> 1 : Nat)) : Int) = ((64 * (x + 1) + (m >>> 1) : Nat) : Int) := by omega
  by_cases z : m &&& 1 = 1
  · have q := (tb_and1 m).mp z
    rw [if_pos (by rw [q]; rfl)]
    simp (disch := omega) only [Option.bind_some, jbd_s, jjq, jz0, jz1, wr_id, Int.toNat_natCast, Int.reduceToNat, tn_lk, tn_kl, if_true, if_false, Bool.false_eq_true, reduceCtorEq, ↓reduceIte, if_pos, if_neg, f_X12_countAt, FM, e1, z, e2, e3, s_waysIn hb]
  · have q : m.testBit 0 = false := by
      cases q : m.testBit 0 with
      | false => rfl
      | true => exact absurd ((tb_and1 m).mpr q) z
    rcases k8 x (by omega) with q8 | q8
    · rw [if_neg (by rw [q]; simp [blI, q8])]
      simp (disch := omega) only [Option.bind_some, jbd_s, jjq, jz0, jz1, wr_id, Int.toNat_natCast, Int.reduceToNat, tn_lk, tn_kl, if_true, if_false, Bool.false_eq_true, reduceCtorEq, ↓reduceIte, if_pos, if_neg, f_X12_countAt, FM, e1, q8, s_acrossIn c' hb k8 k9 hx hm hr, s_downIn c' hb k8 k0 hx hm]
    · rw [if_pos (by rw [q]; simp [blI, q8])]
      simp (disch := omega) only [Option.bind_some, jbd_s, jjq, jz0, jz1, wr_id, Int.toNat_natCast, Int.reduceToNat, tn_lk, tn_kl, if_true, if_false, Bool.false_eq_true, reduceCtorEq, ↓reduceIte, if_pos, if_neg, f_X12_countAt, FM, e1, q8, e2, e3, s_waysIn hb]
theorem Fr_s (cl na nd : Nat → Bool) (k c m : Nat) : Fr w n cl na nd (k + 1) c m = if m.testBit 0 || cl c then Fr w n cl na nd k (c + 1) (m >>> 1) else (if aM w cl na c m then Fr w n cl na nd k (c + 1) (mA m) else 0) + (if dM w n cl nd c then Fr w n cl na nd k (c + 1) (mD w m) else 0) := by
  unfold mA mD
  rw [Fr]
theorem Fr_0 (cl na nd : Nat → Bool) (c m : Nat) : Fr w n cl na nd 0 c m = if m = 0 then 1 else 0 := by rw [Fr]
theorem FrT_in {cl na nd : Nat → Bool} {c m : Nat} (hm : m < 64) : FrT w n cl na nd (64 * c + m) = Fr w n cl na nd (n - c) c m := by
  unfold FrT
  rw [show (64 * c + m) / 64 = c by omega, show (64 * c + m) % 64 = m by omega]
theorem s_counts (c : mCfg I lv w h n) {b : Int} {tb : Nat} {na nd : Nat → Bool} (hb : tdF I b tb na nd) (k8 : b01 I 408 36) (k9 : b01 I 409 36) (k0 : b01 I 410 36) (hr : ∀ x, x % w + 1 < w → x < n → x + 1 < n) : f_X12_counts 369 b (mm t d rt I) = some (Fr w n (blI I 408) na nd n 0 0, mm t d rt (flB I tb (fun y => decide (y < 64 * (n + 1))) (FrT w n (blI I 408) na nd))) := by
  have c' := c
  obtain ⟨c1, c2, c3, c4, c5, c6, c7, c8, c9, c10, c11⟩ := c
  have ht := tdF_tb hb
  have htb : tb ≠ 369 ∧ tb ≠ 377 ∧ tb ≠ 378 := by omega
  generalize hG : FrT w n (blI I 408) na nd = G
  unfold f_X12_counts
  simp (disch := omega) only [FM]
  rw [s_cells c', jbd_s]
  have hx0 : (n : Int) = (n : Int) - ((0 : Nat) : Int) := by omega
  have hI0 : I = flB I tb (fun y => decide (64 * (n + 1 - 0) ≤ y ∧ y < 64 * (n + 1))) G := (flB_0 (fun y => by
    have : ¬ (64 * (n + 1 - 0) ≤ y ∧ y < 64 * (n + 1)) := by omega
    exact decide_eq_false this)).symm
  have hf0 : n + 1 < jfuel := Nat.lt_of_le_of_lt (show n + 1 ≤ 37 by omega) (jfuel_n (by decide))
  refine jlp2_seq0 (fun i => (n : Int) - (i : Int)) (fun i => mm t d rt (flB I tb (fun y => decide (64 * (n + 1 - i) ≤ y ∧ y < 64 * (n + 1))) G)) (n + 1) _ (hx0 : (n : Int) = (n : Int) - ((0 : Nat) : Int)) (congrArg (mm t d rt) hI0) (fun i hi rec => ?_) (fun rec => ?_) hf0
  · have hwr : jd_wr ((n : Int) - (i : Int)) = (n : Int) - (i : Int) := wr_id (by omega) (by omega)
    rw [hwr, if_neg (by omega)]
    -- the masks of cell n - i
    refine jlp2_seq0 (fun m => (m : Int)) (fun m => mm t d rt (flB I tb (fun y => decide (64 * (n + 1 - i) ≤ y ∧ y < 64 * (n + 1)) || decide (64 * (n - i) ≤ y ∧ y < 64 * (n - i) + m)) G)) 64 _ rfl (by
      rw [flB_congr (P := fun y => decide (64 * (n + 1 - i) ≤ y ∧ y < 64 * (n + 1)) || decide (64 * (n - i) ≤ y ∧ y < 64 * (n - i) + 0)) (Q := fun y => decide (64 * (n + 1 - i) ≤ y ∧ y < 64 * (n + 1))) (fun y => by
        have : ¬ (64 * (n - i) ≤ y ∧ y < 64 * (n - i) + 0) := by omega
        rw [decide_eq_false this, Bool.or_false])]) (fun m hm rec2 => ?_) (fun rec2 => ?_) (jfuel_n (by omega))
    · have hwm : jd_wr (m : Int) = m := wr_n m (by omega)
      have cf : mCfg (flB I tb (fun y => decide (64 * (n + 1 - i) ≤ y ∧ y < 64 * (n + 1)) || decide (64 * (n - i) ≤ y ∧ y < 64 * (n - i) + m)) G) lv w h n := mCfg_flB htb c'
      have hup : ∀ v, v = G (64 * (n - i) + m) → up (flB I tb (fun y => decide (64 * (n + 1 - i) ≤ y ∧ y < 64 * (n + 1)) || decide (64 * (n - i) ≤ y ∧ y < 64 * (n - i) + m)) G) tb (64 * (n - i) + m) v = flB I tb (fun y => decide (64 * (n + 1 - i) ≤ y ∧ y < 64 * (n + 1)) || decide (64 * (n - i) ≤ y ∧ y < 64 * (n - i) + (m + 1))) G := by
        intro v hv
        rw [hv]
        apply flB_up
        intro y
        rw [Bool.eq_iff_iff]
        simp only [Bool.or_eq_true, decide_eq_true_eq, beq_iff_eq]
        omega
      have l1 : m >>> 1 < 64 := by rw [Nat.shiftRight_eq_div_pow]; omega
      have ex : ((64 : Int) * ((n : Int) - (i : Int))) + (m : Int) = ((64 * (n - i) + m : Nat) : Int) := by omega
      have hca : i ≠ 0 → f_X12_countAt 369 b ((n : Int) - (i : Int)) (m : Int) (mm t d rt (flB I tb (fun y => decide (64 * (n + 1 - i) ≤ y ∧ y < 64 * (n + 1)) || decide (64 * (n - i) ≤ y ∧ y < 64 * (n - i) + m)) G)) = some (G (64 * (n - i) + m), mm t d rt (flB I tb (fun y => decide (64 * (n + 1 - i) ≤ y ∧ y < 64 * (n + 1)) || decide (64 * (n - i) ≤ y ∧ y < 64 * (n - i) + m)) G)) := by
        intro zi
        have q := s_countAt (t := t) (d := d) (rt := rt) cf (tdF_flB hb) (b01_flB (by omega) k8) (b01_flB (by omega) k9) (b01_flB (by omega) k0) (x := n - i) (m := m) (by omega) hm (fun q => hr _ q (by omega))
        rw [show (n : Int) - (i : Int) = ((n - i : Nat) : Int) by omega, q]
        congr 2
        rw [blI_flB (by omega)]
        have rd : ∀ m', m' < 64 → flB I tb (fun y => decide (64 * (n + 1 - i) ≤ y ∧ y < 64 * (n + 1)) || decide (64 * (n - i) ≤ y ∧ y < 64 * (n - i) + m)) G tb (64 * (n - i + 1) + m') = Fr w n (blI I 408) na nd (n - (n - i + 1)) (n - i + 1) m' := by
          intro m' hm'
          rw [flB_in (by simp; omega), ← hG, FrT_in hm']
        rw [rd _ l1, rd _ (mA_lt hm), rd _ (mD_lt hm c6 c5), ← hG, FrT_in hm]
        rw [show n - (n - i) = (n - (n - i + 1)) + 1 by omega, Fr_s]
      have v0 : i = 0 → (if m = 0 then (1 : Int) else 0) = G (64 * (n - i) + m) := by
        intro zi
        rw [← hG, FrT_in hm, zi, Nat.sub_zero, Nat.sub_self, Fr_0]
      show _ = rec2 ((m + 1 : Nat) : Int) (mm t d rt (flB I tb (fun y => decide (64 * (n + 1 - i) ≤ y ∧ y < 64 * (n + 1)) || decide (64 * (n - i) ≤ y ∧ y < 64 * (n - i) + (m + 1))) G))
      rw [← hup _ rfl, show ((m + 1 : Nat) : Int) = (m : Int) + 1 by omega]
      clear hup
      generalize flB I tb (fun y => decide (64 * (n + 1 - i) ≤ y ∧ y < 64 * (n + 1)) || decide (64 * (n - i) ≤ y ∧ y < 64 * (n - i) + m)) G = J at cf hca ⊢
      by_cases zi : i = 0
      · have v0' := v0 zi
        by_cases zm : m = 0
        · rw [if_pos zm] at v0'
          rw [← v0']
          rcases hb with ⟨rfl, rfl, _, _⟩ | ⟨rfl, rfl, _, _⟩
          · simp (disch := omega) only [Option.bind_some, jbd_s, jjq, jz0, jz1, wr_id, Int.toNat_natCast, Int.reduceToNat, tn_lk, tn_kl, if_true, if_false, Bool.false_eq_true, reduceCtorEq, ↓reduceIte, if_pos, if_neg, FM, s_cells cf, ex]
          · simp (disch := omega) only [Option.bind_some, jbd_s, jjq, jz0, jz1, wr_id, Int.toNat_natCast, Int.reduceToNat, tn_lk, tn_kl, if_true, if_false, Bool.false_eq_true, reduceCtorEq, ↓reduceIte, if_pos, if_neg, FM, s_cells cf, ex]
        · rw [if_neg zm] at v0'
          rw [← v0']
          rcases hb with ⟨rfl, rfl, _, _⟩ | ⟨rfl, rfl, _, _⟩
          · simp (disch := omega) only [Option.bind_some, jbd_s, jjq, jz0, jz1, wr_id, Int.toNat_natCast, Int.reduceToNat, tn_lk, tn_kl, if_true, if_false, Bool.false_eq_true, reduceCtorEq, ↓reduceIte, if_pos, if_neg, FM, s_cells cf, ex]
          · simp (disch := omega) only [Option.bind_some, jbd_s, jjq, jz0, jz1, wr_id, Int.toNat_natCast, Int.reduceToNat, tn_lk, tn_kl, if_true, if_false, Bool.false_eq_true, reduceCtorEq, ↓reduceIte, if_pos, if_neg, FM, s_cells cf, ex]
      · have hca' := hca zi
        rcases hb with ⟨rfl, rfl, _, _⟩ | ⟨rfl, rfl, _, _⟩
        · simp (disch := omega) only [Option.bind_some, jbd_s, jjq, jz0, jz1, wr_id, Int.toNat_natCast, Int.reduceToNat, tn_lk, tn_kl, if_true, if_false, Bool.false_eq_true, reduceCtorEq, ↓reduceIte, if_pos, if_neg, FM, s_cells cf, ex, hca']
        · simp (disch := omega) only [Option.bind_some, jbd_s, jjq, jz0, jz1, wr_id, Int.toNat_natCast, Int.reduceToNat, tn_lk, tn_kl, if_true, if_false, Bool.false_eq_true, reduceCtorEq, ↓reduceIte, if_pos, if_neg, FM, s_cells cf, ex, hca']
    · simp (disch := omega) only [wr_id, if_neg]
      rw [show (n : Int) - ((i + 1 : Nat) : Int) = (n : Int) - (i : Int) + (-1) by omega]
      have ee : flB I tb (fun y => decide (64 * (n + 1 - i) ≤ y ∧ y < 64 * (n + 1)) || decide (64 * (n - i) ≤ y ∧ y < 64 * (n - i) + 64)) G = flB I tb (fun y => decide (64 * (n + 1 - (i + 1)) ≤ y ∧ y < 64 * (n + 1))) G := flB_congr (fun y => by
        rw [Bool.eq_iff_iff]
        simp only [Bool.or_eq_true, decide_eq_true_eq]
        omega)
      rw [ee]
  · have hwr : jd_wr ((n : Int) - ((n + 1 : Nat) : Int)) < 0 := by rw [wr_id (by omega) (by omega)]; omega
    rw [if_pos hwr]
    have hw0 := s_waysIn (t := t) (d := d) (rt := rt) (tdF_flB (P := fun y => decide (64 * (n + 1 - (n + 1)) ≤ y ∧ y < 64 * (n + 1))) (g := G) hb) (x := 0) (by omega)
    simp only [FM]
    rw [show ((0 : Nat) : Int) = 0 from rfl] at hw0
    rw [hw0, jbd_s]
    have ee : flB I tb (fun y => decide (64 * (n + 1 - (n + 1)) ≤ y ∧ y < 64 * (n + 1))) G = flB I tb (fun y => decide (y < 64 * (n + 1))) G := flB_congr (fun y => by
      rw [Bool.eq_iff_iff]
      simp only [decide_eq_true_eq]
      omega)
    have ev : G 0 = Fr w n (blI I 408) na nd n 0 0 := by
      rw [← hG]
      exact FrT_in (c := 0) (m := 0) (by omega)
    rw [flB_in (by simp), ee, ev]
end MT
