/-! ===== a copy of what starting over rests on, for the memory of 369 cells that the class begins with (written by gen/copy9.py) ===== -/
def K0_9 (a : Nat) : Nat × Nat := (kT.take 369).getD a (0, 0)
def rF_9 (a j : Nat) : Option Nat := ((rT.take 369).getD a []).getD j none
def R0_9 (t d rt : Nat) (a j : Nat) : Option Nat := if a = 0 ∧ j = 2 then some t else if a = 0 ∧ j = 3 then some d else if a = 29 ∧ j = 2 then some rt else rF_9 a j
def mm_9 (t d rt : Nat) (I : Nat → Nat → Int) : jMem := ((369, K0_9), I, R0_9 t d rt)
section MM
variable {t d rt : Nat} {I : Nat → Nat → Int}
theorem mm_N_9 : jN (mm_9 t d rt I) = 369 := rfl
theorem mm_K_9 (a : Nat) : jK (mm_9 t d rt I) a = K0_9 a := rfl
theorem R0_f_9 {a j : Nat} (h0 : a ≠ 0 ∨ (j ≠ 2 ∧ j ≠ 3)) (h1 : a ≠ 29 ∨ j ≠ 2) : R0_9 t d rt a j = rF_9 a j := by
  unfold R0_9
  rw [if_neg (by omega), if_neg (by omega), if_neg (by omega)]
theorem mm_gI_9 {ci k a : Nat} (h : (K0_9 a).1 = ci ∧ a < 369) : jm_gI ci k (mm_9 t d rt I) a = some (I a k) := by unfold jm_gI; rw [mm_K_9, mm_N_9, if_pos h]; rfl
theorem mm_gR_9 {ci k a v : Nat} (h : (K0_9 a).1 = ci ∧ a < 369) (hr : R0_9 t d rt a k = some v) : jm_gR ci k (mm_9 t d rt I) a = some v := by unfold jm_gR; rw [mm_K_9, mm_N_9, if_pos h]; exact hr
theorem mm_pI_9 {ci k a : Nat} {v : Int} (h : (K0_9 a).1 = ci ∧ a < 369) : jm_pI ci k (mm_9 t d rt I) a v = some (mm_9 t d rt (up I a k v)) := by unfold jm_pI; rw [mm_K_9, mm_N_9, if_pos h]; rfl
theorem mm_call_9 {β : Type} {ci a : Nat} {x : Option (Int × jMem)} {f : Int → jMem → Option β} (h : (K0_9 a).1 = ci ∧ a < 369) : jcall ci (mm_9 t d rt I) a x f = jbd x f := by unfold jcall; rw [mm_K_9, mm_N_9, if_pos h]
theorem mm_ld_9 {ty n a : Nat} {i : Int} {m : Int} (h : K0_9 a = (ty, n)) (ha : a < 369) (hm : (n : Int) = m) : jm_ld ty (mm_9 t d rt I) a i = if 0 ≤ jd_wr i ∧ jd_wr i < m then some (I a (jd_wr i).toNat) else none := by
  unfold jm_ld
  rw [mm_K_9, mm_N_9, h, hm]
  by_cases c : 0 ≤ jd_wr i ∧ jd_wr i < m
  · rw [if_pos c, if_pos ⟨⟨rfl, ha⟩, c⟩]; rfl
  · rw [if_neg c, if_neg (fun z => c z.2)]
theorem mm_ldR_9 {ty n a : Nat} {i : Int} {m : Int} (h : K0_9 a = (ty, n)) (ha : a < 369) (hm : (n : Int) = m) : jm_ldR ty (mm_9 t d rt I) a i = if 0 ≤ jd_wr i ∧ jd_wr i < m then R0_9 t d rt a (jd_wr i).toNat else none := by
  unfold jm_ldR
  rw [mm_K_9, mm_N_9, h, hm]
  by_cases c : 0 ≤ jd_wr i ∧ jd_wr i < m
  · rw [if_pos c, if_pos ⟨⟨rfl, ha⟩, c⟩]; rfl
  · rw [if_neg c, if_neg (fun z => c z.2)]
theorem mm_st_9 {ty n a : Nat} {i v : Int} {m : Int} (h : K0_9 a = (ty, n)) (ha : a < 369) (hm : (n : Int) = m) : jm_st ty (mm_9 t d rt I) a i v = if 0 ≤ jd_wr i ∧ jd_wr i < m then some (mm_9 t d rt (up I a (jd_wr i).toNat v)) else none := by
  unfold jm_st
  rw [mm_K_9, mm_N_9, h, hm]
  by_cases c : 0 ≤ jd_wr i ∧ jd_wr i < m
  · rw [if_pos c, if_pos ⟨⟨rfl, ha⟩, c⟩]; rfl
  · rw [if_neg c, if_neg (fun z => c z.2)]
end MM
theorem FX_9 {t d rt : Nat} {I : Nat → Nat → Int} : jm_gR 11 0 (mm_9 t d rt I) 0 = some 1 ∧
  jm_gR 11 1 (mm_9 t d rt I) 0 = some 29 ∧
  jm_gR 11 2 (mm_9 t d rt I) 0 = some t ∧
  jm_gR 11 3 (mm_9 t d rt I) 0 = some d ∧
  jm_gR 11 4 (mm_9 t d rt I) 0 = some 34 ∧
  jm_gR 11 5 (mm_9 t d rt I) 0 = some 40 ∧
  jm_gR 11 6 (mm_9 t d rt I) 0 = some 46 ∧
  jm_gR 11 7 (mm_9 t d rt I) 0 = some 308 ∧
  jm_gR 11 8 (mm_9 t d rt I) 0 = some 311 ∧
  jm_gR 11 9 (mm_9 t d rt I) 0 = some 324 ∧
  jm_gR 11 10 (mm_9 t d rt I) 0 = some 337 ∧
  jm_gR 11 11 (mm_9 t d rt I) 0 = some 348 ∧
  jm_gR 11 12 (mm_9 t d rt I) 0 = some 367 ∧
  (∀ i, jm_ld 20 (mm_9 t d rt I) 367 i = if 0 ≤ jd_wr i ∧ jd_wr i < 7 then some (I 367 (jd_wr i).toNat) else none) ∧
  (∀ i v, jm_st 20 (mm_9 t d rt I) 367 i v = if 0 ≤ jd_wr i ∧ jd_wr i < 7 then some (mm_9 t d rt (up I 367 (jd_wr i).toNat v)) else none) ∧
  jm_gR 11 13 (mm_9 t d rt I) 0 = some 368 ∧
  (∀ i, jm_ld 20 (mm_9 t d rt I) 368 i = if 0 ≤ jd_wr i ∧ jd_wr i < 7 then some (I 368 (jd_wr i).toNat) else none) ∧
  (∀ i v, jm_st 20 (mm_9 t d rt I) 368 i v = if 0 ≤ jd_wr i ∧ jd_wr i < 7 then some (mm_9 t d rt (up I 368 (jd_wr i).toNat v)) else none) ∧
  (∀ (y0 : Option (Int × jMem)) (g0 : Int → jMem → Option (Int × jMem)), jcall 11 (mm_9 t d rt I) 0 y0 g0 = jbd y0 g0) :=
  ⟨mm_gR_9 (by decide +kernel) ((R0_f_9 (by omega) (by omega)).trans (by decide +kernel)),
  mm_gR_9 (by decide +kernel) ((R0_f_9 (by omega) (by omega)).trans (by decide +kernel)),
  mm_gR_9 (by decide +kernel) rfl,
  mm_gR_9 (by decide +kernel) rfl,
  mm_gR_9 (by decide +kernel) ((R0_f_9 (by omega) (by omega)).trans (by decide +kernel)),
  mm_gR_9 (by decide +kernel) ((R0_f_9 (by omega) (by omega)).trans (by decide +kernel)),
  mm_gR_9 (by decide +kernel) ((R0_f_9 (by omega) (by omega)).trans (by decide +kernel)),
  mm_gR_9 (by decide +kernel) ((R0_f_9 (by omega) (by omega)).trans (by decide +kernel)),
  mm_gR_9 (by decide +kernel) ((R0_f_9 (by omega) (by omega)).trans (by decide +kernel)),
  mm_gR_9 (by decide +kernel) ((R0_f_9 (by omega) (by omega)).trans (by decide +kernel)),
  mm_gR_9 (by decide +kernel) ((R0_f_9 (by omega) (by omega)).trans (by decide +kernel)),
  mm_gR_9 (by decide +kernel) ((R0_f_9 (by omega) (by omega)).trans (by decide +kernel)),
  mm_gR_9 (by decide +kernel) ((R0_f_9 (by omega) (by omega)).trans (by decide +kernel)),
  fun i => mm_ld_9 (n := 7) (by decide +kernel) (by decide) rfl,
  fun i v => mm_st_9 (n := 7) (by decide +kernel) (by decide) rfl,
  mm_gR_9 (by decide +kernel) ((R0_f_9 (by omega) (by omega)).trans (by decide +kernel)),
  fun i => mm_ld_9 (n := 7) (by decide +kernel) (by decide) rfl,
  fun i v => mm_st_9 (n := 7) (by decide +kernel) (by decide) rfl,
  fun x f => mm_call_9 (by decide +kernel)⟩
theorem FKept_9 {t d rt : Nat} {I : Nat → Nat → Int} : jm_gR 1 0 (mm_9 t d rt I) 46 = some 47 ∧
  jm_gR 1 1 (mm_9 t d rt I) 46 = some 288 ∧
  jm_gR 1 2 (mm_9 t d rt I) 46 = some 307 ∧
  (∀ i, jm_ld 22 (mm_9 t d rt I) 307 i = if 0 ≤ jd_wr i ∧ jd_wr i < 3 then some (I 307 (jd_wr i).toNat) else none) ∧
  (∀ i v, jm_st 22 (mm_9 t d rt I) 307 i v = if 0 ≤ jd_wr i ∧ jd_wr i < 3 then some (mm_9 t d rt (up I 307 (jd_wr i).toNat v)) else none) ∧
  jm_gI 1 3 (mm_9 t d rt I) 46 = some (I 46 3) ∧
  (∀ v, jm_pI 1 3 (mm_9 t d rt I) 46 v = some (mm_9 t d rt (up I 46 3 v))) ∧
  jm_gI 1 4 (mm_9 t d rt I) 46 = some (I 46 4) ∧
  (∀ v, jm_pI 1 4 (mm_9 t d rt I) 46 v = some (mm_9 t d rt (up I 46 4 v))) ∧
  (∀ (y0 : Option (Int × jMem)) (g0 : Int → jMem → Option (Int × jMem)), jcall 1 (mm_9 t d rt I) 46 y0 g0 = jbd y0 g0) :=
  ⟨mm_gR_9 (by decide +kernel) ((R0_f_9 (by omega) (by omega)).trans (by decide +kernel)),
  mm_gR_9 (by decide +kernel) ((R0_f_9 (by omega) (by omega)).trans (by decide +kernel)),
  mm_gR_9 (by decide +kernel) ((R0_f_9 (by omega) (by omega)).trans (by decide +kernel)),
  fun i => mm_ld_9 (n := 3) (by decide +kernel) (by decide) rfl,
  fun i v => mm_st_9 (n := 3) (by decide +kernel) (by decide) rfl,
  mm_gI_9 (by decide +kernel),
  fun v => mm_pI_9 (by decide +kernel),
  mm_gI_9 (by decide +kernel),
  fun v => mm_pI_9 (by decide +kernel),
  fun x f => mm_call_9 (by decide +kernel)⟩
theorem FTold_9 {t d rt : Nat} {I : Nat → Nat → Int} : jm_gR 10 0 (mm_9 t d rt I) 308 = some 309 ∧
  (∀ i, jm_ld 20 (mm_9 t d rt I) 309 i = if 0 ≤ jd_wr i ∧ jd_wr i < 20 then some (I 309 (jd_wr i).toNat) else none) ∧
  (∀ i v, jm_st 20 (mm_9 t d rt I) 309 i v = if 0 ≤ jd_wr i ∧ jd_wr i < 20 then some (mm_9 t d rt (up I 309 (jd_wr i).toNat v)) else none) ∧
  jm_gR 10 1 (mm_9 t d rt I) 308 = some 310 ∧
  (∀ i, jm_ld 22 (mm_9 t d rt I) 310 i = if 0 ≤ jd_wr i ∧ jd_wr i < 20 then some (I 310 (jd_wr i).toNat) else none) ∧
  (∀ i v, jm_st 22 (mm_9 t d rt I) 310 i v = if 0 ≤ jd_wr i ∧ jd_wr i < 20 then some (mm_9 t d rt (up I 310 (jd_wr i).toNat v)) else none) ∧
  jm_gI 10 2 (mm_9 t d rt I) 308 = some (I 308 2) ∧
  (∀ v, jm_pI 10 2 (mm_9 t d rt I) 308 v = some (mm_9 t d rt (up I 308 2 v))) ∧
  (∀ (y0 : Option (Int × jMem)) (g0 : Int → jMem → Option (Int × jMem)), jcall 10 (mm_9 t d rt I) 308 y0 g0 = jbd y0 g0) :=
  ⟨mm_gR_9 (by decide +kernel) ((R0_f_9 (by omega) (by omega)).trans (by decide +kernel)),
  fun i => mm_ld_9 (n := 20) (by decide +kernel) (by decide) rfl,
  fun i v => mm_st_9 (n := 20) (by decide +kernel) (by decide) rfl,
  mm_gR_9 (by decide +kernel) ((R0_f_9 (by omega) (by omega)).trans (by decide +kernel)),
  fun i => mm_ld_9 (n := 20) (by decide +kernel) (by decide) rfl,
  fun i v => mm_st_9 (n := 20) (by decide +kernel) (by decide) rfl,
  mm_gI_9 (by decide +kernel),
  fun v => mm_pI_9 (by decide +kernel),
  fun x f => mm_call_9 (by decide +kernel)⟩
theorem FState_k_9 : ∀ s ∈ stL, (K0_9 s).1 = 6 ∧ s < 369 ∧ s ≠ 0 ∧ s ≠ 29 ∧ rF_9 s 0 = some (s + 1) ∧ (K0_9 (s + 1) = (20, 18) ∧ s + 1 < 369) ∧ rF_9 s 1 = some (s + 2) ∧ (K0_9 (s + 2) = (22, 18) ∧ s + 2 < 369) ∧ rF_9 s 2 = some (s + 3) ∧ (K0_9 (s + 3) = (20, 18) ∧ s + 3 < 369) ∧ rF_9 s 3 = some (s + 4) ∧ (K0_9 (s + 4) = (20, 18) ∧ s + 4 < 369) ∧ rF_9 s 4 = some (s + 5) ∧ (K0_9 (s + 5) = (20, 36) ∧ s + 5 < 369) := by decide +kernel
theorem FState_9 {t d rt : Nat} {I : Nat → Nat → Int} {s : Nat} (h : s ∈ stL) : jm_gR 6 0 (mm_9 t d rt I) s = some (s + 1) ∧
  (∀ i, jm_ld 20 (mm_9 t d rt I) (s + 1) i = if 0 ≤ jd_wr i ∧ jd_wr i < 18 then some (I (s + 1) (jd_wr i).toNat) else none) ∧
  (∀ i v, jm_st 20 (mm_9 t d rt I) (s + 1) i v = if 0 ≤ jd_wr i ∧ jd_wr i < 18 then some (mm_9 t d rt (up I (s + 1) (jd_wr i).toNat v)) else none) ∧
  jm_gR 6 1 (mm_9 t d rt I) s = some (s + 2) ∧
  (∀ i, jm_ld 22 (mm_9 t d rt I) (s + 2) i = if 0 ≤ jd_wr i ∧ jd_wr i < 18 then some (I (s + 2) (jd_wr i).toNat) else none) ∧
  (∀ i v, jm_st 22 (mm_9 t d rt I) (s + 2) i v = if 0 ≤ jd_wr i ∧ jd_wr i < 18 then some (mm_9 t d rt (up I (s + 2) (jd_wr i).toNat v)) else none) ∧
  jm_gR 6 2 (mm_9 t d rt I) s = some (s + 3) ∧
  (∀ i, jm_ld 20 (mm_9 t d rt I) (s + 3) i = if 0 ≤ jd_wr i ∧ jd_wr i < 18 then some (I (s + 3) (jd_wr i).toNat) else none) ∧
  (∀ i v, jm_st 20 (mm_9 t d rt I) (s + 3) i v = if 0 ≤ jd_wr i ∧ jd_wr i < 18 then some (mm_9 t d rt (up I (s + 3) (jd_wr i).toNat v)) else none) ∧
  jm_gR 6 3 (mm_9 t d rt I) s = some (s + 4) ∧
  (∀ i, jm_ld 20 (mm_9 t d rt I) (s + 4) i = if 0 ≤ jd_wr i ∧ jd_wr i < 18 then some (I (s + 4) (jd_wr i).toNat) else none) ∧
  (∀ i v, jm_st 20 (mm_9 t d rt I) (s + 4) i v = if 0 ≤ jd_wr i ∧ jd_wr i < 18 then some (mm_9 t d rt (up I (s + 4) (jd_wr i).toNat v)) else none) ∧
  jm_gR 6 4 (mm_9 t d rt I) s = some (s + 5) ∧
  (∀ i, jm_ld 20 (mm_9 t d rt I) (s + 5) i = if 0 ≤ jd_wr i ∧ jd_wr i < 36 then some (I (s + 5) (jd_wr i).toNat) else none) ∧
  (∀ i v, jm_st 20 (mm_9 t d rt I) (s + 5) i v = if 0 ≤ jd_wr i ∧ jd_wr i < 36 then some (mm_9 t d rt (up I (s + 5) (jd_wr i).toNat v)) else none) ∧
  jm_gI 6 5 (mm_9 t d rt I) s = some (I s 5) ∧
  (∀ v, jm_pI 6 5 (mm_9 t d rt I) s v = some (mm_9 t d rt (up I s 5 v))) ∧
  jm_gI 6 6 (mm_9 t d rt I) s = some (I s 6) ∧
  (∀ v, jm_pI 6 6 (mm_9 t d rt I) s v = some (mm_9 t d rt (up I s 6 v))) ∧
  jm_gI 6 7 (mm_9 t d rt I) s = some (I s 7) ∧
  (∀ v, jm_pI 6 7 (mm_9 t d rt I) s v = some (mm_9 t d rt (up I s 7 v))) ∧
  jm_gI 6 8 (mm_9 t d rt I) s = some (I s 8) ∧
  (∀ v, jm_pI 6 8 (mm_9 t d rt I) s v = some (mm_9 t d rt (up I s 8 v))) ∧
  jm_gI 6 9 (mm_9 t d rt I) s = some (I s 9) ∧
  (∀ v, jm_pI 6 9 (mm_9 t d rt I) s v = some (mm_9 t d rt (up I s 9 v))) ∧
  (∀ (y0 : Option (Int × jMem)) (g0 : Int → jMem → Option (Int × jMem)), jcall 6 (mm_9 t d rt I) s y0 g0 = jbd y0 g0) :=
  have hk := FState_k_9 s h
  ⟨mm_gR_9 ⟨hk.1, hk.2.1⟩ ((R0_f_9 (Or.inl hk.2.2.1) (Or.inl hk.2.2.2.1)).trans hk.2.2.2.2.1),
  fun i => mm_ld_9 (n := 18) hk.2.2.2.2.2.1.1 hk.2.2.2.2.2.1.2 rfl,
  fun i v => mm_st_9 (n := 18) hk.2.2.2.2.2.1.1 hk.2.2.2.2.2.1.2 rfl,
  mm_gR_9 ⟨hk.1, hk.2.1⟩ ((R0_f_9 (Or.inl hk.2.2.1) (Or.inl hk.2.2.2.1)).trans hk.2.2.2.2.2.2.1),
  fun i => mm_ld_9 (n := 18) hk.2.2.2.2.2.2.2.1.1 hk.2.2.2.2.2.2.2.1.2 rfl,
  fun i v => mm_st_9 (n := 18) hk.2.2.2.2.2.2.2.1.1 hk.2.2.2.2.2.2.2.1.2 rfl,
  mm_gR_9 ⟨hk.1, hk.2.1⟩ ((R0_f_9 (Or.inl hk.2.2.1) (Or.inl hk.2.2.2.1)).trans hk.2.2.2.2.2.2.2.2.1),
  fun i => mm_ld_9 (n := 18) hk.2.2.2.2.2.2.2.2.2.1.1 hk.2.2.2.2.2.2.2.2.2.1.2 rfl,
  fun i v => mm_st_9 (n := 18) hk.2.2.2.2.2.2.2.2.2.1.1 hk.2.2.2.2.2.2.2.2.2.1.2 rfl,
  mm_gR_9 ⟨hk.1, hk.2.1⟩ ((R0_f_9 (Or.inl hk.2.2.1) (Or.inl hk.2.2.2.1)).trans hk.2.2.2.2.2.2.2.2.2.2.1),
  fun i => mm_ld_9 (n := 18) hk.2.2.2.2.2.2.2.2.2.2.2.1.1 hk.2.2.2.2.2.2.2.2.2.2.2.1.2 rfl,
  fun i v => mm_st_9 (n := 18) hk.2.2.2.2.2.2.2.2.2.2.2.1.1 hk.2.2.2.2.2.2.2.2.2.2.2.1.2 rfl,
  mm_gR_9 ⟨hk.1, hk.2.1⟩ ((R0_f_9 (Or.inl hk.2.2.1) (Or.inl hk.2.2.2.1)).trans hk.2.2.2.2.2.2.2.2.2.2.2.2.1),
  fun i => mm_ld_9 (n := 36) hk.2.2.2.2.2.2.2.2.2.2.2.2.2.1 hk.2.2.2.2.2.2.2.2.2.2.2.2.2.2 rfl,
  fun i v => mm_st_9 (n := 36) hk.2.2.2.2.2.2.2.2.2.2.2.2.2.1 hk.2.2.2.2.2.2.2.2.2.2.2.2.2.2 rfl,
  mm_gI_9 ⟨hk.1, hk.2.1⟩,
  fun v => mm_pI_9 ⟨hk.1, hk.2.1⟩,
  mm_gI_9 ⟨hk.1, hk.2.1⟩,
  fun v => mm_pI_9 ⟨hk.1, hk.2.1⟩,
  mm_gI_9 ⟨hk.1, hk.2.1⟩,
  fun v => mm_pI_9 ⟨hk.1, hk.2.1⟩,
  mm_gI_9 ⟨hk.1, hk.2.1⟩,
  fun v => mm_pI_9 ⟨hk.1, hk.2.1⟩,
  mm_gI_9 ⟨hk.1, hk.2.1⟩,
  fun v => mm_pI_9 ⟨hk.1, hk.2.1⟩,
  fun x f => mm_call_9 ⟨hk.1, hk.2.1⟩⟩
theorem FRows_k_9 : ∀ r ∈ [311, 324], (K0_9 r).1 = 4 ∧ r < 369 ∧ r ≠ 0 ∧ r ≠ 29 ∧ rF_9 r 0 = some (r + 1) ∧ (K0_9 (r + 1) = (20, 7) ∧ r + 1 < 369) ∧ rF_9 r 1 = some (r + 2) ∧ (K0_9 (r + 2) = (20, 7) ∧ r + 2 < 369) ∧ rF_9 r 2 = some (r + 3) ∧ (K0_9 (r + 3) = (20, 7) ∧ r + 3 < 369) ∧ rF_9 r 3 = some (r + 12) ∧ (K0_9 (r + 12) = (20, 64) ∧ r + 12 < 369) ∧ rF_9 r 4 = some (r + 4) := by decide +kernel
theorem FRows_9 {t d rt : Nat} {I : Nat → Nat → Int} {r : Nat} (h : r ∈ [311, 324]) : jm_gR 4 0 (mm_9 t d rt I) r = some (r + 1) ∧
  (∀ i, jm_ld 20 (mm_9 t d rt I) (r + 1) i = if 0 ≤ jd_wr i ∧ jd_wr i < 7 then some (I (r + 1) (jd_wr i).toNat) else none) ∧
  (∀ i v, jm_st 20 (mm_9 t d rt I) (r + 1) i v = if 0 ≤ jd_wr i ∧ jd_wr i < 7 then some (mm_9 t d rt (up I (r + 1) (jd_wr i).toNat v)) else none) ∧
  jm_gR 4 1 (mm_9 t d rt I) r = some (r + 2) ∧
  (∀ i, jm_ld 20 (mm_9 t d rt I) (r + 2) i = if 0 ≤ jd_wr i ∧ jd_wr i < 7 then some (I (r + 2) (jd_wr i).toNat) else none) ∧
  (∀ i v, jm_st 20 (mm_9 t d rt I) (r + 2) i v = if 0 ≤ jd_wr i ∧ jd_wr i < 7 then some (mm_9 t d rt (up I (r + 2) (jd_wr i).toNat v)) else none) ∧
  jm_gR 4 2 (mm_9 t d rt I) r = some (r + 3) ∧
  (∀ i, jm_ld 20 (mm_9 t d rt I) (r + 3) i = if 0 ≤ jd_wr i ∧ jd_wr i < 7 then some (I (r + 3) (jd_wr i).toNat) else none) ∧
  (∀ i v, jm_st 20 (mm_9 t d rt I) (r + 3) i v = if 0 ≤ jd_wr i ∧ jd_wr i < 7 then some (mm_9 t d rt (up I (r + 3) (jd_wr i).toNat v)) else none) ∧
  jm_gR 4 3 (mm_9 t d rt I) r = some (r + 12) ∧
  (∀ i, jm_ld 20 (mm_9 t d rt I) (r + 12) i = if 0 ≤ jd_wr i ∧ jd_wr i < 64 then some (I (r + 12) (jd_wr i).toNat) else none) ∧
  (∀ i v, jm_st 20 (mm_9 t d rt I) (r + 12) i v = if 0 ≤ jd_wr i ∧ jd_wr i < 64 then some (mm_9 t d rt (up I (r + 12) (jd_wr i).toNat v)) else none) ∧
  jm_gR 4 4 (mm_9 t d rt I) r = some (r + 4) ∧
  jm_gI 4 5 (mm_9 t d rt I) r = some (I r 5) ∧
  (∀ v, jm_pI 4 5 (mm_9 t d rt I) r v = some (mm_9 t d rt (up I r 5 v))) ∧
  jm_gI 4 6 (mm_9 t d rt I) r = some (I r 6) ∧
  (∀ v, jm_pI 4 6 (mm_9 t d rt I) r v = some (mm_9 t d rt (up I r 6 v))) ∧
  jm_gI 4 7 (mm_9 t d rt I) r = some (I r 7) ∧
  (∀ v, jm_pI 4 7 (mm_9 t d rt I) r v = some (mm_9 t d rt (up I r 7 v))) ∧
  (∀ (y0 : Option (Int × jMem)) (g0 : Int → jMem → Option (Int × jMem)), jcall 4 (mm_9 t d rt I) r y0 g0 = jbd y0 g0) :=
  have hk := FRows_k_9 r h
  ⟨mm_gR_9 ⟨hk.1, hk.2.1⟩ ((R0_f_9 (Or.inl hk.2.2.1) (Or.inl hk.2.2.2.1)).trans hk.2.2.2.2.1),
  fun i => mm_ld_9 (n := 7) hk.2.2.2.2.2.1.1 hk.2.2.2.2.2.1.2 rfl,
  fun i v => mm_st_9 (n := 7) hk.2.2.2.2.2.1.1 hk.2.2.2.2.2.1.2 rfl,
  mm_gR_9 ⟨hk.1, hk.2.1⟩ ((R0_f_9 (Or.inl hk.2.2.1) (Or.inl hk.2.2.2.1)).trans hk.2.2.2.2.2.2.1),
  fun i => mm_ld_9 (n := 7) hk.2.2.2.2.2.2.2.1.1 hk.2.2.2.2.2.2.2.1.2 rfl,
  fun i v => mm_st_9 (n := 7) hk.2.2.2.2.2.2.2.1.1 hk.2.2.2.2.2.2.2.1.2 rfl,
  mm_gR_9 ⟨hk.1, hk.2.1⟩ ((R0_f_9 (Or.inl hk.2.2.1) (Or.inl hk.2.2.2.1)).trans hk.2.2.2.2.2.2.2.2.1),
  fun i => mm_ld_9 (n := 7) hk.2.2.2.2.2.2.2.2.2.1.1 hk.2.2.2.2.2.2.2.2.2.1.2 rfl,
  fun i v => mm_st_9 (n := 7) hk.2.2.2.2.2.2.2.2.2.1.1 hk.2.2.2.2.2.2.2.2.2.1.2 rfl,
  mm_gR_9 ⟨hk.1, hk.2.1⟩ ((R0_f_9 (Or.inl hk.2.2.1) (Or.inl hk.2.2.2.1)).trans hk.2.2.2.2.2.2.2.2.2.2.1),
  fun i => mm_ld_9 (n := 64) hk.2.2.2.2.2.2.2.2.2.2.2.1.1 hk.2.2.2.2.2.2.2.2.2.2.2.1.2 rfl,
  fun i v => mm_st_9 (n := 64) hk.2.2.2.2.2.2.2.2.2.2.2.1.1 hk.2.2.2.2.2.2.2.2.2.2.2.1.2 rfl,
  mm_gR_9 ⟨hk.1, hk.2.1⟩ ((R0_f_9 (Or.inl hk.2.2.1) (Or.inl hk.2.2.2.1)).trans hk.2.2.2.2.2.2.2.2.2.2.2.2),
  mm_gI_9 ⟨hk.1, hk.2.1⟩,
  fun v => mm_pI_9 ⟨hk.1, hk.2.1⟩,
  mm_gI_9 ⟨hk.1, hk.2.1⟩,
  fun v => mm_pI_9 ⟨hk.1, hk.2.1⟩,
  mm_gI_9 ⟨hk.1, hk.2.1⟩,
  fun v => mm_pI_9 ⟨hk.1, hk.2.1⟩,
  fun x f => mm_call_9 ⟨hk.1, hk.2.1⟩⟩
theorem FText_k_9 : ∀ x ∈ [3, 16], (K0_9 x).1 = 8 ∧ x < 369 ∧ x ≠ 0 ∧ x ≠ 29 ∧ rF_9 x 5 = some (x + 1) ∧ (K0_9 (x + 1) = (20, 12) ∧ x + 1 < 369) ∧ rF_9 x 6 = some (x + 2) ∧ (K0_9 (x + 2) = (20, 12) ∧ x + 2 < 369) ∧ rF_9 x 7 = some (x + 3) ∧ (K0_9 (x + 3) = (20, 18) ∧ x + 3 < 369) ∧ rF_9 x 8 = some (x + 4) ∧ (K0_9 (x + 4) = (20, 18) ∧ x + 4 < 369) ∧ rF_9 x 9 = some (x + 5) ∧ (K0_9 (x + 5) = (20, 18) ∧ x + 5 < 369) ∧ rF_9 x 10 = some (x + 6) ∧ (K0_9 (x + 6) = (22, 36) ∧ x + 6 < 369) ∧ rF_9 x 11 = some (x + 7) ∧ (K0_9 (x + 7) = (22, 36) ∧ x + 7 < 369) ∧ rF_9 x 12 = some (x + 8) := by decide +kernel
theorem FText_9 {t d rt : Nat} {I : Nat → Nat → Int} {x : Nat} (h : x ∈ [3, 16]) : jm_gI 8 0 (mm_9 t d rt I) x = some (I x 0) ∧
  (∀ v, jm_pI 8 0 (mm_9 t d rt I) x v = some (mm_9 t d rt (up I x 0 v))) ∧
  jm_gI 8 1 (mm_9 t d rt I) x = some (I x 1) ∧
  (∀ v, jm_pI 8 1 (mm_9 t d rt I) x v = some (mm_9 t d rt (up I x 1 v))) ∧
  jm_gI 8 2 (mm_9 t d rt I) x = some (I x 2) ∧
  (∀ v, jm_pI 8 2 (mm_9 t d rt I) x v = some (mm_9 t d rt (up I x 2 v))) ∧
  jm_gI 8 3 (mm_9 t d rt I) x = some (I x 3) ∧
  (∀ v, jm_pI 8 3 (mm_9 t d rt I) x v = some (mm_9 t d rt (up I x 3 v))) ∧
  jm_gI 8 4 (mm_9 t d rt I) x = some (I x 4) ∧
  (∀ v, jm_pI 8 4 (mm_9 t d rt I) x v = some (mm_9 t d rt (up I x 4 v))) ∧
  jm_gR 8 5 (mm_9 t d rt I) x = some (x + 1) ∧
  (∀ i, jm_ld 20 (mm_9 t d rt I) (x + 1) i = if 0 ≤ jd_wr i ∧ jd_wr i < 12 then some (I (x + 1) (jd_wr i).toNat) else none) ∧
  (∀ i v, jm_st 20 (mm_9 t d rt I) (x + 1) i v = if 0 ≤ jd_wr i ∧ jd_wr i < 12 then some (mm_9 t d rt (up I (x + 1) (jd_wr i).toNat v)) else none) ∧
  jm_gR 8 6 (mm_9 t d rt I) x = some (x + 2) ∧
  (∀ i, jm_ld 20 (mm_9 t d rt I) (x + 2) i = if 0 ≤ jd_wr i ∧ jd_wr i < 12 then some (I (x + 2) (jd_wr i).toNat) else none) ∧
  (∀ i v, jm_st 20 (mm_9 t d rt I) (x + 2) i v = if 0 ≤ jd_wr i ∧ jd_wr i < 12 then some (mm_9 t d rt (up I (x + 2) (jd_wr i).toNat v)) else none) ∧
  jm_gR 8 7 (mm_9 t d rt I) x = some (x + 3) ∧
  (∀ i, jm_ld 20 (mm_9 t d rt I) (x + 3) i = if 0 ≤ jd_wr i ∧ jd_wr i < 18 then some (I (x + 3) (jd_wr i).toNat) else none) ∧
  (∀ i v, jm_st 20 (mm_9 t d rt I) (x + 3) i v = if 0 ≤ jd_wr i ∧ jd_wr i < 18 then some (mm_9 t d rt (up I (x + 3) (jd_wr i).toNat v)) else none) ∧
  jm_gR 8 8 (mm_9 t d rt I) x = some (x + 4) ∧
  (∀ i, jm_ld 20 (mm_9 t d rt I) (x + 4) i = if 0 ≤ jd_wr i ∧ jd_wr i < 18 then some (I (x + 4) (jd_wr i).toNat) else none) ∧
  (∀ i v, jm_st 20 (mm_9 t d rt I) (x + 4) i v = if 0 ≤ jd_wr i ∧ jd_wr i < 18 then some (mm_9 t d rt (up I (x + 4) (jd_wr i).toNat v)) else none) ∧
  jm_gR 8 9 (mm_9 t d rt I) x = some (x + 5) ∧
  (∀ i, jm_ld 20 (mm_9 t d rt I) (x + 5) i = if 0 ≤ jd_wr i ∧ jd_wr i < 18 then some (I (x + 5) (jd_wr i).toNat) else none) ∧
  (∀ i v, jm_st 20 (mm_9 t d rt I) (x + 5) i v = if 0 ≤ jd_wr i ∧ jd_wr i < 18 then some (mm_9 t d rt (up I (x + 5) (jd_wr i).toNat v)) else none) ∧
  jm_gR 8 10 (mm_9 t d rt I) x = some (x + 6) ∧
  (∀ i, jm_ld 22 (mm_9 t d rt I) (x + 6) i = if 0 ≤ jd_wr i ∧ jd_wr i < 36 then some (I (x + 6) (jd_wr i).toNat) else none) ∧
  (∀ i v, jm_st 22 (mm_9 t d rt I) (x + 6) i v = if 0 ≤ jd_wr i ∧ jd_wr i < 36 then some (mm_9 t d rt (up I (x + 6) (jd_wr i).toNat v)) else none) ∧
  jm_gR 8 11 (mm_9 t d rt I) x = some (x + 7) ∧
  (∀ i, jm_ld 22 (mm_9 t d rt I) (x + 7) i = if 0 ≤ jd_wr i ∧ jd_wr i < 36 then some (I (x + 7) (jd_wr i).toNat) else none) ∧
  (∀ i v, jm_st 22 (mm_9 t d rt I) (x + 7) i v = if 0 ≤ jd_wr i ∧ jd_wr i < 36 then some (mm_9 t d rt (up I (x + 7) (jd_wr i).toNat v)) else none) ∧
  jm_gR 8 12 (mm_9 t d rt I) x = some (x + 8) ∧
  (∀ (y0 : Option (Int × jMem)) (g0 : Int → jMem → Option (Int × jMem)), jcall 8 (mm_9 t d rt I) x y0 g0 = jbd y0 g0) :=
  have hk := FText_k_9 x h
  ⟨mm_gI_9 ⟨hk.1, hk.2.1⟩,
  fun v => mm_pI_9 ⟨hk.1, hk.2.1⟩,
  mm_gI_9 ⟨hk.1, hk.2.1⟩,
  fun v => mm_pI_9 ⟨hk.1, hk.2.1⟩,
  mm_gI_9 ⟨hk.1, hk.2.1⟩,
  fun v => mm_pI_9 ⟨hk.1, hk.2.1⟩,
  mm_gI_9 ⟨hk.1, hk.2.1⟩,
  fun v => mm_pI_9 ⟨hk.1, hk.2.1⟩,
  mm_gI_9 ⟨hk.1, hk.2.1⟩,
  fun v => mm_pI_9 ⟨hk.1, hk.2.1⟩,
  mm_gR_9 ⟨hk.1, hk.2.1⟩ ((R0_f_9 (Or.inl hk.2.2.1) (Or.inl hk.2.2.2.1)).trans hk.2.2.2.2.1),
  fun i => mm_ld_9 (n := 12) hk.2.2.2.2.2.1.1 hk.2.2.2.2.2.1.2 rfl,
  fun i v => mm_st_9 (n := 12) hk.2.2.2.2.2.1.1 hk.2.2.2.2.2.1.2 rfl,
  mm_gR_9 ⟨hk.1, hk.2.1⟩ ((R0_f_9 (Or.inl hk.2.2.1) (Or.inl hk.2.2.2.1)).trans hk.2.2.2.2.2.2.1),
  fun i => mm_ld_9 (n := 12) hk.2.2.2.2.2.2.2.1.1 hk.2.2.2.2.2.2.2.1.2 rfl,
  fun i v => mm_st_9 (n := 12) hk.2.2.2.2.2.2.2.1.1 hk.2.2.2.2.2.2.2.1.2 rfl,
  mm_gR_9 ⟨hk.1, hk.2.1⟩ ((R0_f_9 (Or.inl hk.2.2.1) (Or.inl hk.2.2.2.1)).trans hk.2.2.2.2.2.2.2.2.1),
  fun i => mm_ld_9 (n := 18) hk.2.2.2.2.2.2.2.2.2.1.1 hk.2.2.2.2.2.2.2.2.2.1.2 rfl,
  fun i v => mm_st_9 (n := 18) hk.2.2.2.2.2.2.2.2.2.1.1 hk.2.2.2.2.2.2.2.2.2.1.2 rfl,
  mm_gR_9 ⟨hk.1, hk.2.1⟩ ((R0_f_9 (Or.inl hk.2.2.1) (Or.inl hk.2.2.2.1)).trans hk.2.2.2.2.2.2.2.2.2.2.1),
  fun i => mm_ld_9 (n := 18) hk.2.2.2.2.2.2.2.2.2.2.2.1.1 hk.2.2.2.2.2.2.2.2.2.2.2.1.2 rfl,
  fun i v => mm_st_9 (n := 18) hk.2.2.2.2.2.2.2.2.2.2.2.1.1 hk.2.2.2.2.2.2.2.2.2.2.2.1.2 rfl,
  mm_gR_9 ⟨hk.1, hk.2.1⟩ ((R0_f_9 (Or.inl hk.2.2.1) (Or.inl hk.2.2.2.1)).trans hk.2.2.2.2.2.2.2.2.2.2.2.2.1),
  fun i => mm_ld_9 (n := 18) hk.2.2.2.2.2.2.2.2.2.2.2.2.2.1.1 hk.2.2.2.2.2.2.2.2.2.2.2.2.2.1.2 rfl,
  fun i v => mm_st_9 (n := 18) hk.2.2.2.2.2.2.2.2.2.2.2.2.2.1.1 hk.2.2.2.2.2.2.2.2.2.2.2.2.2.1.2 rfl,
  mm_gR_9 ⟨hk.1, hk.2.1⟩ ((R0_f_9 (Or.inl hk.2.2.1) (Or.inl hk.2.2.2.1)).trans hk.2.2.2.2.2.2.2.2.2.2.2.2.2.2.1),
  fun i => mm_ld_9 (n := 36) hk.2.2.2.2.2.2.2.2.2.2.2.2.2.2.2.1.1 hk.2.2.2.2.2.2.2.2.2.2.2.2.2.2.2.1.2 rfl,
  fun i v => mm_st_9 (n := 36) hk.2.2.2.2.2.2.2.2.2.2.2.2.2.2.2.1.1 hk.2.2.2.2.2.2.2.2.2.2.2.2.2.2.2.1.2 rfl,
  mm_gR_9 ⟨hk.1, hk.2.1⟩ ((R0_f_9 (Or.inl hk.2.2.1) (Or.inl hk.2.2.2.1)).trans hk.2.2.2.2.2.2.2.2.2.2.2.2.2.2.2.2.1),
  fun i => mm_ld_9 (n := 36) hk.2.2.2.2.2.2.2.2.2.2.2.2.2.2.2.2.2.1.1 hk.2.2.2.2.2.2.2.2.2.2.2.2.2.2.2.2.2.1.2 rfl,
  fun i v => mm_st_9 (n := 36) hk.2.2.2.2.2.2.2.2.2.2.2.2.2.2.2.2.2.1.1 hk.2.2.2.2.2.2.2.2.2.2.2.2.2.2.2.2.2.1.2 rfl,
  mm_gR_9 ⟨hk.1, hk.2.1⟩ ((R0_f_9 (Or.inl hk.2.2.1) (Or.inl hk.2.2.2.1)).trans hk.2.2.2.2.2.2.2.2.2.2.2.2.2.2.2.2.2.2),
  fun x f => mm_call_9 ⟨hk.1, hk.2.1⟩⟩
section CR
variable {t d rt : Nat} {I : Nat → Nat → Int} {r w h : Nat} {cl na nd : Nat → Bool}
theorem s_roomBelow_9 (hrm : r ∈ [311, 324]) (c : rCfg I r w h cl na nd) {y into : Nat} (hy : y < 6) (hi : into < 64) : f_X4_roomBelow r (y : Int) (into : Int) (mm_9 t d rt I) = some ((room w h cl nd y into : Int), mm_9 t d rt I) := by
  obtain ⟨c1, c2, c3, c4, c5, c6, c7, c8, c9, c10, c11⟩ := c
  have hp : 2 ^ w ≤ 2 ^ 6 := Nat.pow_le_pow_right (by decide) c5
  have hp0 := Nat.two_pow_pos w
  have o1 := or64 (clM_lt (h := h) (cl := cl) y c5) (clM_lt (h := h) (cl := cl) (y + 1) c5)
  have o2 := or64 o1 (tlM_lt (h := h) (f := nd) y c5)
  have o3 := or64 o2 (tlM_lt (h := h) (f := nd) (y + 1) c5)
  have o4 := or64 o3 hi
  have l1 := clM_lt (h := h) (cl := cl) y c5
  have l2 := clM_lt (h := h) (cl := cl) (y + 1) c5
  have l3 := tlM_lt (h := h) (f := nd) y c5
  have l4 := tlM_lt (h := h) (f := nd) (y + 1) c5
  have e : jd_and (I r 7) (jd_xor (jd_or (jd_or (jd_or (jd_or (I (r + 1) y) (I (r + 1) (y + 1))) (I (r + 2) y)) (I (r + 2) (y + 1))) (into : Int)) (-1)) = (room w h cl nd y into : Int) := by
    rw [c3, c8 y (by omega), c8 (y + 1) (by omega), c9 y (by omega), c9 (y + 1) (by omega), or_n (by omega) (by omega), or_n (by omega) (by omega), or_n (by omega) (by omega), or_n (by omega) (by omega), ndw_n _ (by omega) _ o4, ndm_eq w (by omega) _ o4]
    rfl
  simp (disch := omega) only [Option.bind_some, jbd_s, jjq, jz0, jz1, wr_id, Int.toNat_natCast, Int.reduceToNat, tn_lk, tn_kl, if_true, if_false, Bool.false_eq_true, reduceCtorEq, ↓reduceIte, if_pos, if_neg, f_X4_roomBelow, FRows_9 hrm, e]
theorem s_lonely_9 (hrm : r ∈ [311, 324]) (c : rCfg I r w h cl na nd) {y into o : Nat} (hy : y < 7) (hi : into < 64) (ho : o < 64) : f_X4_lonelyCells r (y : Int) (into : Int) (o : Int) (mm_9 t d rt I) = some ((lone w h cl y into o : Int), mm_9 t d rt I) := by
  obtain ⟨c1, c2, c3, c4, c5, c6, c7, c8, c9, c10, c11⟩ := c
  have hp : 2 ^ w ≤ 2 ^ 6 := Nat.pow_le_pow_right (by decide) c5
  have hp0 := Nat.two_pow_pos w
  have l1 := clM_lt (h := h) (cl := cl) y c5
  have o1 := or64 l1 hi
  have o2 := or64 o1 ho
  have e : jd_and (I r 7) (jd_xor (jd_or (jd_or (I (r + 1) y) (into : Int)) (o : Int)) (-1)) = (ndM w (clM w h cl y ||| into ||| o) : Int) := by
    rw [c3, c8 y (by omega), or_n (by omega) (by omega), or_n (by omega) (by omega), ndw_n _ (by omega) _ o2, ndm_eq w (by omega) _ o2]
  have l5 : ndM w (clM w h cl y ||| into ||| o) < 64 := Nat.lt_of_lt_of_le (mkM_lt _ _) hp
  have ev := c11 _ l5
  have ev' : I (r + 12) (ndM w (clM w h cl y ||| into ||| o)) = (lone w h cl y into o : Int) := ev
  simp (disch := omega) only [Option.bind_some, jbd_s, jjq, jz0, jz1, wr_id, Int.toNat_natCast, Int.reduceToNat, tn_lk, tn_kl, if_true, if_false, Bool.false_eq_true, reduceCtorEq, ↓reduceIte, if_pos, if_neg, f_X4_lonelyCells, FRows_9 hrm, e, ev']
end CR
section CF
variable {t d rt : Nat} {I : Nat → Nat → Int} {r w h : Nat} {cl na nd : Nat → Bool}
theorem s_fills_9 (hrm : r ∈ [311, 324]) (c : rCfg I r w h cl na nd) {y into o : Nat} (hy : y < 7) (hi : into < 64) (ho : o < 64) : f_X4_fills r (y : Int) (into : Int) (o : Int) (mm_9 t d rt I) = some (if fill w h cl na y into o then 1 else 0, mm_9 t d rt I) := by
  have hl := s_lonely_9 (t := t) (d := d) (rt := rt) hrm c hy hi ho
  obtain ⟨c1, c2, c3, c4, c5, c6, c7, c8, c9, c10, c11⟩ := c
  have l1 := tlM_lt (h := h) (f := na) y c5
  have o1 := or64 hi ho
  have e : jd_and (I (r + 3) y) (jd_xor (jd_or (into : Int) (o : Int)) (-1)) = ((tlM w h na y &&& (63 ^^^ (into ||| o)) : Nat) : Int) := by
    rw [c10 y hy, or_n (by omega) (by omega), ndw_n _ l1 _ o1]
  have lx := nd_le (tlM w h na y) (63 ^^^ (into ||| o))
  have lz : lone w h cl y into o < 64 := by
    have : ∀ m, m < 64 → oddR m < 64 := by decide +kernel
    exact this _ (Nat.lt_of_lt_of_le (mkM_lt _ _) (Nat.pow_le_pow_right (by decide) c5 : 2 ^ w ≤ 2 ^ 6))
  by_cases z : tlM w h na y &&& (63 ^^^ (into ||| o)) = 0
  · have z1 := (nd0 _ l1 _ o1).mp z
    by_cases z2 : lone w h cl y into o = 0
    · rw [if_pos (by unfold fill; rw [z1, z2]; rfl)]
      simp (disch := omega) only [Option.bind_some, jbd_s, jjq, jz0, jz1, wr_id, Int.toNat_natCast, Int.reduceToNat, tn_lk, tn_kl, if_true, if_false, Bool.false_eq_true, reduceCtorEq, ↓reduceIte, if_pos, if_neg, f_X4_fills, FRows_9 hrm, e, z, hl, z2]
    · rw [if_neg (by unfold fill; rw [z1]; simp [z2])]
      simp (disch := omega) only [Option.bind_some, jbd_s, jjq, jz0, jz1, wr_id, Int.toNat_natCast, Int.reduceToNat, tn_lk, tn_kl, if_true, if_false, Bool.false_eq_true, reduceCtorEq, ↓reduceIte, if_pos, if_neg, f_X4_fills, FRows_9 hrm, e, z, hl]
  · have z1 : ¬ (tlM w h na y &&& (into ||| o) == tlM w h na y) = true := fun q => z ((nd0 _ l1 _ o1).mpr q)
    rw [if_neg (by unfold fill; simp only [Bool.and_eq_true]; exact fun q => z1 q.1)]
    simp (disch := omega) only [Option.bind_some, jbd_s, jjq, jz0, jz1, wr_id, Int.toNat_natCast, Int.reduceToNat, tn_lk, tn_kl, if_true, if_false, Bool.false_eq_true, reduceCtorEq, ↓reduceIte, if_pos, if_neg, f_X4_fills, FRows_9 hrm, e]
theorem s_canReach_9 (hrm : r ∈ [311, 324]) (c : rCfg I r w h cl na nd) {y into : Nat} (hy : y < 7) (hi : into < 64) : f_X4_canReach r (y : Int) (into : Int) (mm_9 t d rt I) = some (if canR w h cl nd y into then 1 else 0, mm_9 t d rt I) := by
  have c' := c
  obtain ⟨c1, c2, c3, c4, c5, c6, c7, c8, c9, c10, c11⟩ := c
  by_cases y0 : y = 0
  · have e : jd_and (into : Int) (jd_xor 0 (-1)) = ((into &&& (63 ^^^ 0) : Nat) : Int) := ndw_n _ hi 0 (by omega)
    have lx := nd_le into (63 ^^^ 0)
    have q := nd0 into hi 0 (by omega)
    rw [Nat.and_zero] at q
    by_cases z : into &&& (63 ^^^ 0) = 0
    · have z1 := q.mp z
      have z2 : into = 0 := (beq_iff_eq.mp z1).symm
      rw [if_pos (by unfold canR; rw [if_pos y0, z2]; rfl)]
      simp (disch := omega) only [Option.bind_some, jbd_s, jjq, jz0, jz1, wr_id, Int.toNat_natCast, Int.reduceToNat, tn_lk, tn_kl, if_true, if_false, Bool.false_eq_true, reduceCtorEq, ↓reduceIte, if_pos, if_neg, f_X4_canReach, FRows_9 hrm, e, z]
    · have z2 : ¬ into = 0 := fun k => z (by rw [k]; rfl)
      rw [if_neg (by unfold canR; rw [if_pos y0]; simp [z2])]
      simp (disch := omega) only [Option.bind_some, jbd_s, jjq, jz0, jz1, wr_id, Int.toNat_natCast, Int.reduceToNat, tn_lk, tn_kl, if_true, if_false, Bool.false_eq_true, reduceCtorEq, ↓reduceIte, if_pos, if_neg, f_X4_canReach, FRows_9 hrm, e]
  · have hb := s_roomBelow_9 (t := t) (d := d) (rt := rt) hrm c' (y := y - 1) (into := 0) (by omega) (by omega)
    rw [show ((y - 1 : Nat) : Int) = (y : Int) - 1 by omega, show ((0 : Nat) : Int) = 0 from rfl] at hb
    have lr : room w h cl nd (y - 1) 0 < 64 := Nat.lt_of_lt_of_le room_lt (Nat.pow_le_pow_right (by decide) c5 : 2 ^ w ≤ 2 ^ 6)
    have e : jd_and (into : Int) (jd_xor (room w h cl nd (y - 1) 0 : Int) (-1)) = ((into &&& (63 ^^^ room w h cl nd (y - 1) 0) : Nat) : Int) := ndw_n _ hi _ lr
    have lx := nd_le into (63 ^^^ room w h cl nd (y - 1) 0)
    have q := nd0 into hi _ lr
    by_cases z : into &&& (63 ^^^ room w h cl nd (y - 1) 0) = 0
    · rw [if_pos (by unfold canR; rw [if_neg y0]; exact q.mp z)]
      simp (disch := omega) only [Option.bind_some, jbd_s, jjq, jz0, jz1, wr_id, Int.toNat_natCast, Int.reduceToNat, tn_lk, tn_kl, if_true, if_false, Bool.false_eq_true, reduceCtorEq, ↓reduceIte, if_pos, if_neg, f_X4_canReach, FRows_9 hrm, hb, e, z]
    · rw [if_neg (by unfold canR; rw [if_neg y0]; exact fun k => z (q.mpr k))]
      simp (disch := omega) only [Option.bind_some, jbd_s, jjq, jz0, jz1, wr_id, Int.toNat_natCast, Int.reduceToNat, tn_lk, tn_kl, if_true, if_false, Bool.false_eq_true, reduceCtorEq, ↓reduceIte, if_pos, if_neg, f_X4_canReach, FRows_9 hrm, hb, e]
end CF
def wm_9 (t d rt : Nat) (x : Option (Int × jMem)) (Q : Int → (Nat → Nat → Int) → Prop) : Prop := ∃ r I, x = some (r, mm_9 t d rt I) ∧ Q r I
section WM
variable {t d rt : Nat} {Q : Int → (Nat → Nat → Int) → Prop}
theorem wm_r_9 {r : Int} {I : Nat → Nat → Int} (h : Q r I) : wm_9 t d rt (some (r, mm_9 t d rt I)) Q := ⟨r, I, rfl, h⟩
theorem wm_e_9 {x : Option (Int × jMem)} {r : Int} {I : Nat → Nat → Int} (hx : x = some (r, mm_9 t d rt I)) (h : Q r I) : wm_9 t d rt x Q := ⟨r, I, hx, h⟩
theorem wm_if_9 {c : Prop} {hd : Decidable c} {a b : Option (Int × jMem)} (ha : c → wm_9 t d rt a Q) (hb : ¬ c → wm_9 t d rt b Q) : wm_9 t d rt (if c then a else b) Q := by
  by_cases h : c
  · rw [if_pos h]; exact ha h
  · rw [if_neg h]; exact hb h
theorem wm_b_9 {x : Option (Int × jMem)} {f : Int → jMem → Option (Int × jMem)} {P : Int → (Nat → Nat → Int) → Prop} (h : wm_9 t d rt x P) (hf : ∀ v J, P v J → wm_9 t d rt (f v (mm_9 t d rt J)) Q) : wm_9 t d rt (jbd x f) Q := by
  obtain ⟨v, J, e, hp⟩ := h
  rw [e]
  exact hf v J hp
theorem wm_eq_9 {x : Option (Int × jMem)} {r : Int} {I : Nat → Nat → Int} (h : wm_9 t d rt x (fun v J => v = r ∧ J = I)) : x = some (r, mm_9 t d rt I) := by
  obtain ⟨v, J, e, h1, h2⟩ := h
  rw [e, h1, h2]
theorem wm_lp2_9 {A0 : Type} {body : (A0 → jMem → Option (Int × jMem)) → A0 → jMem → Option (Int × jMem)} (n : Nat) (Inv : Nat → A0 → (Nat → Nat → Int) → Prop) (hs : ∀ i, i ≤ n → ∀ (a0 : A0) (I : Nat → Nat → Int), Inv i a0 I → ∀ rec : A0 → jMem → Option (Int × jMem), (∀ j (b0 : A0) (J : Nat → Nat → Int), i < j → j ≤ n → Inv j b0 J → wm_9 t d rt (rec b0 (mm_9 t d rt J)) Q) → wm_9 t d rt (body rec a0 (mm_9 t d rt I)) Q) {fuel : Nat} {a0 : A0} {I : Nat → Nat → Int} (hf : n < fuel) (h0 : Inv 0 a0 I) : wm_9 t d rt (jlp2 body fuel a0 (mm_9 t d rt I)) Q := by
  have key : ∀ f i (a0 : A0) (I : Nat → Nat → Int), n < i + f → i ≤ n → Inv i a0 I → wm_9 t d rt (jlp2 body f a0 (mm_9 t d rt I)) Q := by
    intro f
    induction f with
    | zero => intro i a0 I h1 h2; omega
    | succ f ih =>
      intro i a0 I h1 h2 h3
      rw [jlp2_s]
      exact hs i h2 a0 I h3 _ (fun j b0 J h4 h5 h6 => ih j b0 J (by omega) h5 h6)
  exact key fuel 0 a0 I (by omega) (by omega) h0
theorem wm_lp4_9 {A0 A1 A2 : Type} {body : (A0 → A1 → A2 → jMem → Option (Int × jMem)) → A0 → A1 → A2 → jMem → Option (Int × jMem)} (n : Nat) (Inv : Nat → A0 → A1 → A2 → (Nat → Nat → Int) → Prop) (hs : ∀ i, i ≤ n → ∀ (a0 : A0) (a1 : A1) (a2 : A2) (I : Nat → Nat → Int), Inv i a0 a1 a2 I → ∀ rec : A0 → A1 → A2 → jMem → Option (Int × jMem), (∀ j (b0 : A0) (b1 : A1) (b2 : A2) (J : Nat → Nat → Int), i < j → j ≤ n → Inv j b0 b1 b2 J → wm_9 t d rt (rec b0 b1 b2 (mm_9 t d rt J)) Q) → wm_9 t d rt (body rec a0 a1 a2 (mm_9 t d rt I)) Q) {fuel : Nat} {a0 : A0} {a1 : A1} {a2 : A2} {I : Nat → Nat → Int} (hf : n < fuel) (h0 : Inv 0 a0 a1 a2 I) : wm_9 t d rt (jlp4 body fuel a0 a1 a2 (mm_9 t d rt I)) Q := by
  have key : ∀ f i (a0 : A0) (a1 : A1) (a2 : A2) (I : Nat → Nat → Int), n < i + f → i ≤ n → Inv i a0 a1 a2 I → wm_9 t d rt (jlp4 body f a0 a1 a2 (mm_9 t d rt I)) Q := by
    intro f
    induction f with
    | zero => intro i a0 a1 a2 I h1 h2; omega
    | succ f ih =>
      intro i a0 a1 a2 I h1 h2 h3
      rw [jlp4_s]
      exact hs i h2 a0 a1 a2 I h3 _ (fun j b0 b1 b2 J h4 h5 h6 => ih j b0 b1 b2 J (by omega) h5 h6)
  exact key fuel 0 a0 a1 a2 I (by omega) (by omega) h0
end WM
section ST
variable {t d rt : Nat} {I : Nat → Nat → Int} {s w n : Nat} {ρ : Nat → Int} {hl : Nat → Bool}
theorem w_put_9 (hs : s ∈ stL) (hw : 2 ≤ w ∧ w ≤ 6) (hn : n ≤ 36) {h' : Nat} (hnw : n = w * h') (hr : rOK w n hl ρ) (h : stR I s w ρ) {k c : Nat} {way f : Int} (hk : k < 18) (h0 : ρ k = -2) (hf : (f = 1 ∧ way = 0) ∨ (f = 0 ∧ way = 1)) (hok : rOK w n hl (rPut ρ k (c : Int) way)) : wm_9 t d rt (f_X6_put s (k : Int) (c : Int) f (mm_9 t d rt I)) (fun _ J => frm (stF s) I J ∧ stR J s w (rPut ρ k (c : Int) way)) := by
  obtain ⟨h1, h2, h3, h4, h5, h6, h7, h8, h9⟩ := h
  have hs3 : s < 302 := by
    have : ∀ x ∈ stL, x < 302 := by decide +kernel
    exact this s hs
  have hb := rOK_b hok hw hn hnw hk
  rw [rPut_k, rPut_18] at hb
  have hc2 : 0 ≤ (c : Int) := by omega
  obtain ⟨_, b2, b3, b4⟩ := hb.resolve_left (by omega)
  have hcn : c < 36 := by omega
  -- the row's other cell
  have ho : ∃ c2 : Nat, rOth w (rPut ρ k (c : Int) way) k = (c2 : Int) ∧ c2 < 36 ∧ c < c2 ∧ (f = 1 → (c2 : Int) = c + 1) ∧ (f = 0 → (c2 : Int) = c + w) := ⟨(rOth w (rPut ρ k (c : Int) way) k).toNat, by omega, by omega, by omega, by omega, by omega⟩
  obtain ⟨c2, o1, o2, o3, o4, o5⟩ := ho
  -- what the machine does
  have run : f_X6_put s (k : Int) (c : Int) f (mm_9 t d rt I) = some (0, mm_9 t d rt (up (up (up (up (up (up (up I (s + 1) k (c : Int)) (s + 2) k f) (s + 5) c (k : Int)) (s + 5) c2 (k : Int)) (s + 3) k 0) (s + 4) k 0) s 6 (I s 6 + 1))) := by
    rcases hf with ⟨rfl, rfl⟩ | ⟨rfl, rfl⟩
    · have e := o4 rfl
      simp (disch := omega) only [Option.bind_some, jbd_s, jjq, jz0, jz1, wr_id, Int.toNat_natCast, Int.reduceToNat, tn_lk, tn_kl, if_true, if_false, Bool.false_eq_true, reduceCtorEq, ↓reduceIte, if_pos, if_neg, f_X6_put, f_X6_occupy, f_X6_second, FState_9 hs, up_g, up_ne, jdz1, ← e]
    · have e := o5 rfl
      simp (disch := omega) only [Option.bind_some, jbd_s, jjq, jz0, jz1, wr_id, Int.toNat_natCast, Int.reduceToNat, tn_lk, tn_kl, if_true, if_false, Bool.false_eq_true, reduceCtorEq, ↓reduceIte, if_pos, if_neg, f_X6_put, f_X6_occupy, f_X6_second, FState_9 hs, up_g, up_ne, jdz0, h5, ← e]
  refine wm_e_9 run ⟨?_, ?_⟩
  · intro a ha
    have ha' : a ≠ s ∧ a ≠ s + 1 ∧ a ≠ s + 2 ∧ a ≠ s + 3 ∧ a ≠ s + 4 ∧ a ≠ s + 5 := by unfold stF at ha; omega
    obtain ⟨a1, a2, a3, a4, a5, a6⟩ := ha'
    rw [up_ne a1, up_ne a5, up_ne a4, up_ne a6, up_ne a6, up_ne a3, up_ne a2]
  · refine ⟨?_, ?_, ?_, ?_, ?_, ?_, ?_, ?_, ?_⟩
    · intro j hj
      simp (disch := omega) only [up_g, up_ne]
      by_cases e : j = k
      · rw [e, if_pos rfl, rPut_k, if_pos hc2]
      · rw [if_neg e, rPut_n (by omega), h1 j hj]
    · intro j hj hj0
      simp (disch := omega) only [up_g, up_ne]
      by_cases e : j = k
      · subst e
        rw [if_pos rfl, if_pos rfl, if_pos rfl, rPut_18, rPut_36, rPut_54]
        exact ⟨by omega, rfl, rfl⟩
      · rw [if_neg e, if_neg e, if_neg e, rPut_n (by omega), rPut_n (by omega), rPut_n (by omega)]
        exact h2 j hj (by rw [rPut_n (by omega)] at hj0; exact hj0)
    · intro j hj
      simp (disch := omega) only [up_g, up_ne]
      by_cases e : j = k
      · rw [if_pos e]; omega
      · rw [if_neg e]; exact h3 j hj
    · intro x hx
      simp (disch := omega) only [up_g, up_ne]
      by_cases e2 : x = c2
      · rw [if_pos e2]
        exact (onI_some hok hk (rAt_iff.mpr ⟨by rw [rPut_k]; exact hc2, Or.inr (by rw [o1, e2])⟩)).symm
      · rw [if_neg e2]
        by_cases e1 : x = c
        · rw [if_pos e1]
          exact (onI_some hok hk (rAt_iff.mpr ⟨by rw [rPut_k]; exact hc2, Or.inl (by rw [rPut_k, e1])⟩)).symm
        · rw [if_neg e1, h4 x hx]
          have rat : ∀ j, j < 18 → rAt w (rPut ρ k (c : Int) way) (x : Int) j = rAt w ρ (x : Int) j := by
            intro j hj
            by_cases e : j = k
            · subst e
              have q1 : ¬ rAt w (rPut ρ j (c : Int) way) (x : Int) j = true := by
                rw [rAt_iff, rPut_k, o1]; omega
              have q2 : ¬ rAt w ρ (x : Int) j = true := by rw [rAt_iff]; omega
              rw [Bool.eq_iff_iff]; exact ⟨fun z => absurd z q1, fun z => absurd z q2⟩
            · unfold rAt rLies rOth
              rw [rPut_n (by omega), rPut_n (by omega)]
          rcases onI_cases w ρ x with ⟨q, q2⟩ | ⟨j, q1, q2, q3, q4⟩
          · rw [q, onI_none (fun j hj => by rw [rat j hj]; exact rCpl_not q2 j hj)]
          · rw [q2, onI_some hok q1 (by rw [rat j q1]; exact q4)]
    · simp (disch := omega) only [up_g, up_ne, ↓reduceIte, if_neg]; exact h5
    · simp (disch := omega) only [up_g, up_ne, ↓reduceIte, if_neg]
      rw [h6]
      unfold rMany
      rw [cntB_up (p := rLies ρ) (q := rLies (rPut ρ k (c : Int) way)) (k := k) (by unfold rLies; rw [h0]; rfl) (by unfold rLies; rw [rPut_k]; exact decide_eq_true hc2) hk (fun j hj e => by unfold rLies; rw [rPut_n (by omega)])]
      rfl
    · simp (disch := omega) only [up_g, up_ne, ↓reduceIte, if_neg]; rw [h7, rPut_n (by omega)]
    · simp (disch := omega) only [up_g, up_ne, ↓reduceIte, if_neg]; rw [h8, rPut_n (by omega)]
    · simp (disch := omega) only [up_g, up_ne, ↓reduceIte, if_neg]; rw [h9, rPut_n (by omega)]
end ST
section SW
variable {t d rt : Nat} {I : Nat → Nat → Int} {s w n : Nat} {ρ : Nat → Int} {hl : Nat → Bool}
theorem w_fill_9 {a m : Nat} (h : K0_9 a = (20, m)) (ha : a < 369) (hm : m ≤ 1000) (v : Int) : f_J7_fill_53178 a v (mm_9 t d rt I) = some (0, mm_9 t d rt (fl I a m (fun _ => v))) := by
  have e : jm_ln 20 (mm_9 t d rt I) a = some (m : Int) := by
    unfold jm_ln
    rw [mm_K_9, mm_N_9, h, if_pos ⟨rfl, ha⟩]
  have st := fun (J : Nat → Nat → Int) (i v : Int) => mm_st_9 (t := t) (d := d) (rt := rt) (I := J) (i := i) (v := v) (n := m) h ha rfl
  refine wm_eq_9 ?_
  unfold f_J7_fill_53178
  rw [e, Option.bind_some]
  refine wm_lp2_9 m (fun i y J => y = (i : Int) ∧ J = fl I a i (fun _ => v)) ?_ (Nat.lt_of_le_of_lt hm (jfuel_n (by decide))) ⟨rfl, by rw [fl_0]⟩
  rintro i hi y J ⟨rfl, rfl⟩ rec hrec
  refine wm_if_9 (fun c => ?_) (fun c => ?_)
  · simp (disch := omega) only [wr_id] at c
    simp (disch := omega) only [Option.bind_some, jbd_s, jjq, jz0, jz1, wr_id, Int.toNat_natCast, Int.reduceToNat, tn_lk, tn_kl, if_true, if_false, Bool.false_eq_true, reduceCtorEq, ↓reduceIte, if_pos, if_neg, st]
    exact hrec (i + 1) _ _ (by omega) (by omega) ⟨by omega, fl_s I a i (fun _ => v)⟩
  · simp (disch := omega) only [wr_id] at c
    have : i = m := by omega
    subst this
    exact wm_r_9 ⟨rfl, rfl⟩
theorem q_takeAll_9 (hs : s ∈ stL) : f_X6_takeAll s (mm_9 t d rt I) = some (0, mm_9 t d rt (up (fl (fl I (s + 1) 18 (fun _ => -1)) (s + 5) 36 (fun _ => -1)) s 6 0)) := by
  have ks := FState_k_9 s hs
  have f1 := fun (J : Nat → Nat → Int) => w_fill_9 (t := t) (d := d) (rt := rt) (I := J) ks.2.2.2.2.2.1.1 ks.2.2.2.2.2.1.2 (by decide) (-1)
  have f2 := fun (J : Nat → Nat → Int) => w_fill_9 (t := t) (d := d) (rt := rt) (I := J) ks.2.2.2.2.2.2.2.2.2.2.2.2.2.1 ks.2.2.2.2.2.2.2.2.2.2.2.2.2.2 (by decide) (-1)
  simp only [f_X6_takeAll, FState_9 hs, f1, f2, Option.bind_some, jbd_s]
theorem w_clear_9 (hs : s ∈ stL) (h3 : ∀ k, k < 18 → I (s + 2) k = 0 ∨ I (s + 2) k = 1) : wm_9 t d rt (f_X6_clear s (w : Int) (mm_9 t d rt I)) (fun _ J => frm (stF s) I J ∧ stR J s w rNil) := by
  have run : f_X6_clear s (w : Int) (mm_9 t d rt I) = some (0, mm_9 t d rt (up (up (up (up (up (fl (fl I (s + 1) 18 (fun _ => -1)) (s + 5) 36 (fun _ => -1)) s 6 0) s 5 (w : Int)) s 7 0) s 8 0) s 9 0)) := by
    simp only [f_X6_clear, FState_9 hs, q_takeAll_9 hs, jbd_s, Option.bind_some]
  refine wm_e_9 run ⟨?_, fun k hk => ?_, fun k hk q => ?_, fun k hk => ?_, fun c hc => ?_, ?_, ?_, ?_, ?_, ?_⟩
  · intro a ha
    have ha' : a ≠ s ∧ a ≠ s + 1 ∧ a ≠ s + 2 ∧ a ≠ s + 3 ∧ a ≠ s + 4 ∧ a ≠ s + 5 := by unfold stF at ha; omega
    obtain ⟨a1, a2, a3, a4, a5, a6⟩ := ha'
    rw [up_ne a1, up_ne a1, up_ne a1, up_ne a1, up_ne a1, flne a6, flne a2]
  · simp (disch := omega) only [up_ne, flne]
    rw [fl_in hk, rNil_clr, clr_lies _ hk]; rfl
  · rw [rNil_clr, clr_lies _ hk] at q; omega
  · simp (disch := omega) only [up_ne, flne]
    exact h3 k hk
  · simp (disch := omega) only [up_ne, flne]
    rw [fl_in hc, rNil_clr, clr_on]
  · simp (disch := omega) only [up_g, ↓reduceIte, if_neg, Nat.reduceEqDiff]
  · simp (disch := omega) only [up_g, ↓reduceIte, if_neg, Nat.reduceEqDiff]
    rw [rNil_clr, clr_many]; rfl
  · simp (disch := omega) only [up_g, ↓reduceIte, if_neg, Nat.reduceEqDiff]
    rfl
  · simp (disch := omega) only [up_g, ↓reduceIte, if_neg, Nat.reduceEqDiff]
    rfl
  · simp (disch := omega) only [up_g, ↓reduceIte, if_neg, Nat.reduceEqDiff]
    rfl
end SW
section KP
variable {t d rt : Nat} {I : Nat → Nat → Int} {w u nw : Nat} {ρ : Nat → Int} {H G : Nat → Nat → Int}
theorem w_kclear_9 : wm_9 t d rt (f_X1_clear 46 (mm_9 t d rt I)) (fun _ J => frm (fun a => a = 46 ∨ a = 307) I J ∧ J 46 4 = 0 ∧ J 46 3 = I 46 3 ∧ ∀ i, i < 3 → J 307 i = 0) := by
  unfold f_X1_clear
  simp only [FKept_9, Option.bind_some]
  refine wm_lp2_9 3 (fun i y J => y = (i : Int) ∧ J = fl (up I 46 4 0) 307 i (fun _ => 0)) ?_ (jfuel_n (by decide)) ⟨rfl, by rw [fl_0]⟩
  rintro i hi y J ⟨rfl, rfl⟩ rec hrec
  refine wm_if_9 (fun c => ?_) (fun c => ?_)
  · simp (disch := omega) only [wr_id] at c
    simp (disch := omega) only [Option.bind_some, jbd_s, jjq, jz0, jz1, wr_id, Int.toNat_natCast, Int.reduceToNat, tn_lk, tn_kl, if_true, if_false, Bool.false_eq_true, reduceCtorEq, ↓reduceIte, if_pos, if_neg, FKept_9, jdz0]
    exact hrec (i + 1) _ _ (by omega) (by omega) ⟨by omega, fl_s _ _ _ (fun _ => 0)⟩
  · simp (disch := omega) only [wr_id] at c
    obtain rfl : i = 3 := by omega
    refine wm_r_9 ⟨fun a ha => ?_, ?_, ?_, fun i hi => fl_in hi⟩
    · rw [flne (by omega), up_ne (by omega)]
    · rw [fl_ne (by decide), up_g, if_pos rfl]
    · rw [fl_ne (by decide), up_g, if_neg (by decide)]
end KP
section WS
variable {t d rt : Nat} {Q : Int → (Nat → Nat → Int) → Prop}
theorem wm_o_9 {α : Type} {x : Option α} {f : α → Option (Int × jMem)} {a : α} (hx : x = some a) (h : wm_9 t d rt (f a) Q) : wm_9 t d rt (x.bind f) Q := by
  rw [hx]; exact h
theorem wm_t_9 {c : Prop} {hd : Decidable c} {a b : Option (Int × jMem)} (hc : c) (h : wm_9 t d rt a Q) : wm_9 t d rt (if c then a else b) Q := by
  rw [if_pos hc]; exact h
theorem wm_f_9 {c : Prop} {hd : Decidable c} {a b : Option (Int × jMem)} (hc : ¬ c) (h : wm_9 t d rt b Q) : wm_9 t d rt (if c then a else b) Q := by
  rw [if_neg hc]; exact h
theorem wm_q_9 {α : Type} {k : α} {b : α → Option (Int × jMem)} (h : wm_9 t d rt (b k) Q) : wm_9 t d rt (jjq k b) Q := h
theorem wm_c_9 {ci a : Nat} {I : Nat → Nat → Int} {x : Option (Int × jMem)} {f : Int → jMem → Option (Int × jMem)} (hk : (K0_9 a).1 = ci ∧ a < 369) (h : wm_9 t d rt (jbd x f) Q) : wm_9 t d rt (jcall ci (mm_9 t d rt I) a x f) Q := by
  rw [mm_call_9 hk]; exact h
theorem wm_d_9 {x : Option (Int × jMem)} {f : Int → jMem → Option (Int × jMem)} {r : Int} {I : Nat → Nat → Int} (hx : x = some (r, mm_9 t d rt I)) (h : wm_9 t d rt (f r (mm_9 t d rt I)) Q) : wm_9 t d rt (jbd x f) Q := by
  rw [hx]; exact h
end WS
section CT
variable {t d rt : Nat} {I : Nat → Nat → Int} {lv w h n nh : Nat} {hl : Nat → Bool} {sd : Int} {ifs : Nat → List LwI} {xs : Nat → List CI} {ρ : Nat → Int}
theorem tx_k_9 (ht : t ∈ [3, 16]) : ((K0_9 t).1 = 8 ∧ t < 369) ∧ ((K0_9 (t + 8)).1 = 2 ∧ t + 8 < 369) ∧ t + 8 ∈ [11, 24] ∧ 3 ≤ t ∧ t + 12 < 29 := by
  have : ∀ t ∈ [3, 16], ((K0_9 t).1 = 8 ∧ t < 369) ∧ ((K0_9 (t + 8)).1 = 2 ∧ t + 8 < 369) ∧ t + 8 ∈ [11, 24] ∧ 3 ≤ t ∧ t + 12 < 29 := by decide +kernel
  exact this t ht
theorem q_cells_9 (sq : sqOK w h n nh hl) (c : cfC I t w h n nh hl sd ifs xs) : f_X8_cells t (mm_9 t d rt I) = some ((n : Int), mm_9 t d rt I) := by
  obtain ⟨c1, c2, c3, _⟩ := c
  obtain ⟨s1, s2, s3, s4, s5, s6, s7, _⟩ := sq
  refine wm_eq_9 ?_
  unfold f_X8_cells
  (repeat (first | (with_reducible apply wm_o_9; focus (simp (disch := omega) only [wr_id, Int.toNat_natCast, Int.reduceToNat, tn_lk, tn_kl, if_pos, if_neg, ↓reduceIte, and_self, and_true, true_and, FText_9 c1, c2, c3]; with_reducible rfl)) | (with_reducible apply wm_q_9) | (with_reducible apply wm_c_9; focus (first | assumption | decide +kernel)) | (with_reducible apply wm_d_9; focus (simp (disch := omega) only [wr_id, Int.toNat_natCast, Int.reduceToNat, tn_lk, tn_kl, if_pos, if_neg, ↓reduceIte, and_self, and_true, true_and, FText_9 c1, c2, c3]; with_reducible rfl)) | (with_reducible apply wm_t_9; focus (first | omega | (simp (disch := omega) only [wr_id, FText_9 c1, c2, c3]; omega) | (simp (disch := omega) only [wr_id, FText_9 c1, c2, c3]; done))) | (with_reducible apply wm_f_9; focus (first | omega | (simp (disch := omega) only [wr_id, FText_9 c1, c2, c3]; omega) | (simp (disch := omega) only [wr_id, FText_9 c1, c2, c3]; done)))))
  exact wm_r_9 ⟨nd_mul s5, rfl⟩
end CT
section CL
variable {t d rt : Nat} {I : Nat → Nat → Int} {r w h : Nat} {cl na nd : Nat → Bool}
theorem q_bit_9 (hrm : r ∈ [311, 324]) (h5 : I r 5 = (w : Int)) (hw : w ≤ 6) {x : Nat} (hx : x < w) : f_X4_bit r (x : Int) (mm_9 t d rt I) = some (((2 ^ (w - 1 - x) : Nat) : Int), mm_9 t d rt I) := by
  have e : jd_shl 1 ((w : Int) - 1 - (x : Int)) = ((2 ^ (w - 1 - x) : Nat) : Int) := by
    rw [show (w : Int) - 1 - (x : Int) = ((w - 1 - x : Nat) : Int) by omega, shl_1 _ (by omega), Nat.one_shiftLeft]
  refine wm_eq_9 ?_
  unfold f_X4_bit
  (repeat (first | (with_reducible apply wm_o_9; focus (simp (disch := omega) only [wr_id, Int.toNat_natCast, Int.reduceToNat, tn_lk, tn_kl, if_pos, if_neg, ↓reduceIte, and_self, and_true, true_and, FRows_9 hrm, h5]; with_reducible rfl)) | (with_reducible apply wm_q_9) | (with_reducible apply wm_c_9; focus (first | assumption | decide +kernel)) | (with_reducible apply wm_d_9; focus (simp (disch := omega) only [wr_id, Int.toNat_natCast, Int.reduceToNat, tn_lk, tn_kl, if_pos, if_neg, ↓reduceIte, and_self, and_true, true_and, FRows_9 hrm, h5]; with_reducible rfl)) | (with_reducible apply wm_t_9; focus (first | omega | (simp (disch := omega) only [wr_id, FRows_9 hrm, h5]; omega) | (simp (disch := omega) only [wr_id, FRows_9 hrm, h5]; done))) | (with_reducible apply wm_f_9; focus (first | omega | (simp (disch := omega) only [wr_id, FRows_9 hrm, h5]; omega) | (simp (disch := omega) only [wr_id, FRows_9 hrm, h5]; done)))))
  exact wm_r_9 ⟨e, rfl⟩
theorem w_close_9 (hrm : r ∈ [311, 324]) (c' : rCfg I r w h cl na nd) {c : Nat} (hc : c < w * h) : wm_9 t d rt (f_X4_close r (c : Int) (mm_9 t d rt I)) (fun _ J => frm (fun a => a = r + 1) I J ∧ rCfg J r w h (clAdd cl c) na nd) := by
  obtain ⟨c1, c2, c3, c4, c5, c6, c7, c8, c9, c10, c11⟩ := c'
  have kr : (K0_9 r).1 = 4 ∧ r < 369 := ⟨(FRows_k_9 r hrm).1, (FRows_k_9 r hrm).2.1⟩
  have hm := Nat.mod_lt c (show w > 0 by omega)
  have hdy : c / w < h := Nat.div_lt_of_lt_mul hc
  have h36 : c < 36 := Nat.lt_of_lt_of_le hc (Nat.mul_le_mul c5 c7)
  have hd1 : ∀ M : jMem, f_X4_rowOf (c : Int) (w : Int) M = some (((c / w : Nat) : Int), M) := fun M => row_n (by omega) (by omega) (by omega) M
  have hr1 : ∀ M : jMem, f_X4_columnOf (c : Int) (w : Int) M = some (((c % w : Nat) : Int), M) := fun M => col_n (by omega) (by omega) (by omega) M
  have hb := q_bit_9 (t := t) (d := d) (rt := rt) hrm c1 c5 hm
  have e8 := c8 (c / w) (by omega)
  have l1 := clM_lt (h := h) (cl := cl) (c / w) c5
  have l2 : 2 ^ (w - 1 - c % w) < 64 := Nat.lt_of_le_of_lt (Nat.pow_le_pow_right (by decide) (show w - 1 - c % w ≤ 5 by omega)) (by decide)
  have eo : jd_or (clM w h cl (c / w) : Int) ((2 ^ (w - 1 - c % w) : Nat) : Int) = ((clM w h cl (c / w) ||| 2 ^ (w - 1 - c % w) : Nat) : Int) := or_n (by omega) (by omega)
  generalize hq : c / w = q at *
  unfold f_X4_close
  (repeat (first | (with_reducible apply wm_o_9; focus (simp (disch := omega) only [wr_id, Int.toNat_natCast, Int.reduceToNat, tn_lk, tn_kl, if_pos, if_neg, ↓reduceIte, and_self, and_true, true_and, FRows_9 hrm, c1, hd1, hr1, hb, e8, eo]; with_reducible rfl)) | (with_reducible apply wm_q_9) | (with_reducible apply wm_c_9; focus (first | assumption | decide +kernel)) | (with_reducible apply wm_d_9; focus (simp (disch := omega) only [wr_id, Int.toNat_natCast, Int.reduceToNat, tn_lk, tn_kl, if_pos, if_neg, ↓reduceIte, and_self, and_true, true_and, FRows_9 hrm, c1, hd1, hr1, hb, e8, eo]; with_reducible rfl)) | (with_reducible apply wm_t_9; focus (first | omega | (simp (disch := omega) only [wr_id, FRows_9 hrm, c1, hd1, hr1, hb, e8, eo]; omega) | (simp (disch := omega) only [wr_id, FRows_9 hrm, c1, hd1, hr1, hb, e8, eo]; done))) | (with_reducible apply wm_f_9; focus (first | omega | (simp (disch := omega) only [wr_id, FRows_9 hrm, c1, hd1, hr1, hb, e8, eo]; omega) | (simp (disch := omega) only [wr_id, FRows_9 hrm, c1, hd1, hr1, hb, e8, eo]; done)))))
  refine wm_r_9 ⟨frm_up (frm_refl _ _) rfl, ?_⟩
  refine ⟨by rw [up_ne (by omega)]; exact c1, by rw [up_ne (by omega)]; exact c2, by rw [up_ne (by omega)]; exact c3, c4, c5, c6, c7, fun y hy => ?_, by rw [up_ne (by omega)]; exact c9, by rw [up_ne (by omega)]; exact c10, by rw [up_ne (by omega)]; exact c11⟩
  rw [up_g, clM_add (by omega) hc, hq]
  by_cases e : y = q
  · rw [if_pos e, if_pos e, e]
  · rw [if_neg e, if_neg e]; exact c8 y hy
end CL
section BG
variable {t d rt : Nat} {I : Nat → Nat → Int} {r w h n nh : Nat} {cl na nd hl : Nat → Bool} {sd : Int} {ifs : Nat → List LwI} {xs : Nat → List CI}
theorem w_begin_9 (hrm : r ∈ [311, 324]) (sq : sqOK w h n nh hl) (c : cfC I t w h n nh hl sd ifs xs) (h12 : ∀ m, m < 64 → I (r + 12) m = (oddR m : Int)) : wm_9 t d rt (f_X4_begin r t (mm_9 t d rt I)) (fun _ J => frm (fun a => r ≤ a ∧ a ≤ r + 3) I J ∧ rCfg J r w h hl noB noB) := by
  have htx := c.1
  have kt := (tx_k_9 htx).1
  have kb := (tx_k_9 htx).2.2.2
  have kr : (K0_9 r).1 = 4 ∧ r < 369 := ⟨(FRows_k_9 r hrm).1, (FRows_k_9 r hrm).2.1⟩
  have hr0 := rm_ge hrm
  have sq' := sq
  obtain ⟨s1, s2, s3, s4, s5, s6, s7, s8, s9⟩ := sq
  have c2 := c.2.1
  have c3 := c.2.2.1
  have hp := Nat.two_pow_pos w
  have hp6 : 2 ^ w ≤ 2 ^ 6 := Nat.pow_le_pow_right (by decide) s2
  have esh : jd_shl 1 (w : Int) - 1 = ((2 ^ w - 1 : Nat) : Int) := by rw [shl_1 w (by omega), Nat.one_shiftLeft]; omega
  unfold f_X4_begin
  (repeat (first | (with_reducible apply wm_o_9; focus (simp (disch := omega) only [wr_id, Int.toNat_natCast, Int.reduceToNat, tn_lk, tn_kl, if_pos, if_neg, ↓reduceIte, and_self, and_true, true_and, FText_9 htx, FRows_9 hrm, up_ne, up_g, c2, c3, esh]; with_reducible rfl)) | (with_reducible apply wm_q_9) | (with_reducible apply wm_c_9; focus (first | assumption | decide +kernel)) | (with_reducible apply wm_d_9; focus (simp (disch := omega) only [wr_id, Int.toNat_natCast, Int.reduceToNat, tn_lk, tn_kl, if_pos, if_neg, ↓reduceIte, and_self, and_true, true_and, FText_9 htx, FRows_9 hrm, up_ne, up_g, c2, c3, esh]; with_reducible rfl)) | (with_reducible apply wm_t_9; focus (first | omega | (simp (disch := omega) only [wr_id, FText_9 htx, FRows_9 hrm, up_ne, up_g, c2, c3, esh]; omega) | (simp (disch := omega) only [wr_id, FText_9 htx, FRows_9 hrm, up_ne, up_g, c2, c3, esh]; done))) | (with_reducible apply wm_f_9; focus (first | omega | (simp (disch := omega) only [wr_id, FText_9 htx, FRows_9 hrm, up_ne, up_g, c2, c3, esh]; omega) | (simp (disch := omega) only [wr_id, FText_9 htx, FRows_9 hrm, up_ne, up_g, c2, c3, esh]; done)))))
  refine wm_lp2_9 7 (fun i y J => y = (i : Int) ∧ frm (fun a => r ≤ a ∧ a ≤ r + 3) I J ∧ J r 5 = (w : Int) ∧ J r 6 = (h : Int) ∧ J r 7 = ((2 ^ w - 1 : Nat) : Int) ∧ ∀ y, y < i → J (r + 1) y = (clM w h noB y : Int) ∧ J (r + 2) y = 0 ∧ J (r + 3) y = 0) ?_ (jfuel_n (by decide)) ⟨rfl, ?_, ?_, ?_, ?_, fun y hy => by omega⟩
  · rintro i hi y J ⟨rfl, hJ, j5, j6, j7, jA⟩ rec hrec
    refine wm_if_9 (fun cc => ?_) (fun cc => ?_)
    · simp (disch := omega) only [wr_id] at cc
      by_cases z : i < h
      · (repeat (first | (with_reducible apply wm_o_9; focus (simp (disch := omega) only [wr_id, Int.toNat_natCast, Int.reduceToNat, tn_lk, tn_kl, if_pos, if_neg, ↓reduceIte, and_self, and_true, true_and, FRows_9 hrm, j6]; with_reducible rfl)) | (with_reducible apply wm_q_9) | (with_reducible apply wm_c_9; focus (first | assumption | decide +kernel)) | (with_reducible apply wm_d_9; focus (simp (disch := omega) only [wr_id, Int.toNat_natCast, Int.reduceToNat, tn_lk, tn_kl, if_pos, if_neg, ↓reduceIte, and_self, and_true, true_and, FRows_9 hrm, j6]; with_reducible rfl)) | (with_reducible apply wm_t_9; focus (first | omega | (simp (disch := omega) only [wr_id, FRows_9 hrm, j6]; omega) | (simp (disch := omega) only [wr_id, FRows_9 hrm, j6]; done))) | (with_reducible apply wm_f_9; focus (first | omega | (simp (disch := omega) only [wr_id, FRows_9 hrm, j6]; omega) | (simp (disch := omega) only [wr_id, FRows_9 hrm, j6]; done)))))
        refine hrec (i + 1) _ _ (by omega) (by omega) ⟨by omega, frm_up (frm_up (frm_up hJ ⟨by omega, by omega⟩) ⟨by omega, by omega⟩) ⟨by omega, by omega⟩, ?_, ?_, ?_, fun y hy => ?_⟩
        · simp (disch := omega) only [up_ne]; exact j5
        · simp (disch := omega) only [up_ne]; exact j6
        · simp (disch := omega) only [up_ne]; exact j7
        · simp (disch := omega) only [up_ne, up_g]
          by_cases e : y = i
          · subst e
            rw [if_pos rfl, if_pos rfl, if_pos rfl, clM_no, if_pos z]
            exact ⟨rfl, rfl, rfl⟩
          · rw [if_neg e, if_neg e, if_neg e]
            exact jA y (by omega)
      · (repeat (first | (with_reducible apply wm_o_9; focus (simp (disch := omega) only [wr_id, Int.toNat_natCast, Int.reduceToNat, tn_lk, tn_kl, if_pos, if_neg, ↓reduceIte, and_self, and_true, true_and, FRows_9 hrm, j6, j7]; with_reducible rfl)) | (with_reducible apply wm_q_9) | (with_reducible apply wm_c_9; focus (first | assumption | decide +kernel)) | (with_reducible apply wm_d_9; focus (simp (disch := omega) only [wr_id, Int.toNat_natCast, Int.reduceToNat, tn_lk, tn_kl, if_pos, if_neg, ↓reduceIte, and_self, and_true, true_and, FRows_9 hrm, j6, j7]; with_reducible rfl)) | (with_reducible apply wm_t_9; focus (first | omega | (simp (disch := omega) only [wr_id, FRows_9 hrm, j6, j7]; omega) | (simp (disch := omega) only [wr_id, FRows_9 hrm, j6, j7]; done))) | (with_reducible apply wm_f_9; focus (first | omega | (simp (disch := omega) only [wr_id, FRows_9 hrm, j6, j7]; omega) | (simp (disch := omega) only [wr_id, FRows_9 hrm, j6, j7]; done)))))
        refine hrec (i + 1) _ _ (by omega) (by omega) ⟨by omega, frm_up (frm_up (frm_up hJ ⟨by omega, by omega⟩) ⟨by omega, by omega⟩) ⟨by omega, by omega⟩, ?_, ?_, ?_, fun y hy => ?_⟩
        · simp (disch := omega) only [up_ne]; exact j5
        · simp (disch := omega) only [up_ne]; exact j6
        · simp (disch := omega) only [up_ne]; exact j7
        · simp (disch := omega) only [up_ne, up_g]
          by_cases e : y = i
          · subst e
            rw [if_pos rfl, if_pos rfl, if_pos rfl, clM_no, if_neg z]
            exact ⟨rfl, rfl, rfl⟩
          · rw [if_neg e, if_neg e, if_neg e]
            exact jA y (by omega)
    · simp (disch := omega) only [wr_id] at cc
      obtain rfl : i = 7 := by omega
      clear hrec rec
      have c0 : rCfg J r w h noB noB noB := ⟨j5, j6, j7, s1, s2, s3, s4, fun y hy => (jA y hy).1, fun y hy => by rw [(jA y hy).2.1, tlM_no]; rfl, fun y hy => by rw [(jA y hy).2.2, tlM_no]; rfl, fun m hm => by rw [hJ _ (by omega)]; exact h12 m hm⟩
      refine wm_lp2_9 n (fun i y K => y = (i : Int) ∧ frm (fun a => r ≤ a ∧ a ≤ r + 3) I K ∧ rCfg K r w h (fun x => decide (x < i) && hl x) noB noB) ?_ (Nat.lt_of_le_of_lt s7 (jfuel_n (by decide))) ⟨rfl, hJ, ?_⟩
      · rintro i hi y K ⟨rfl, hK, cK⟩ rec hrec
        have cf := cfC_frm hK (fun a a1 a2 => by omega) c
        have hce := q_cells_9 (d := d) (rt := rt) sq' cf
        by_cases e : i = n
        · subst e
          (repeat (first | (with_reducible apply wm_o_9; focus (simp (disch := omega) only [wr_id, Int.toNat_natCast, Int.reduceToNat, tn_lk, tn_kl, if_pos, if_neg, ↓reduceIte, and_self, and_true, true_and, hce]; with_reducible rfl)) | (with_reducible apply wm_q_9) | (with_reducible apply wm_c_9; focus (first | assumption | decide +kernel)) | (with_reducible apply wm_d_9; focus (simp (disch := omega) only [wr_id, Int.toNat_natCast, Int.reduceToNat, tn_lk, tn_kl, if_pos, if_neg, ↓reduceIte, and_self, and_true, true_and, hce]; with_reducible rfl)) | (with_reducible apply wm_t_9; focus (first | omega | (simp (disch := omega) only [wr_id, hce]; omega) | (simp (disch := omega) only [wr_id, hce]; done))) | (with_reducible apply wm_f_9; focus (first | omega | (simp (disch := omega) only [wr_id, hce]; omega) | (simp (disch := omega) only [wr_id, hce]; done)))))
          refine wm_r_9 ⟨hK, ?_⟩
          have ef : (fun x => decide (x < i) && hl x) = hl := by
            funext x
            cases q : hl x with
            | false => simp
            | true => simp [s9 x q]
          rw [ef] at cK
          exact cK
        · have hi2 : i < n := by omega
          have h6 := cf.2.2.2.2.2.1 i (by omega)
          by_cases z : hl i = true
          · rw [if_pos z] at h6
            (repeat (first | (with_reducible apply wm_o_9; focus (simp (disch := omega) only [wr_id, Int.toNat_natCast, Int.reduceToNat, tn_lk, tn_kl, if_pos, if_neg, ↓reduceIte, and_self, and_true, true_and, hce, FText_9 htx, h6]; with_reducible rfl)) | (with_reducible apply wm_q_9) | (with_reducible apply wm_c_9; focus (first | assumption | decide +kernel)) | (with_reducible apply wm_d_9; focus (simp (disch := omega) only [wr_id, Int.toNat_natCast, Int.reduceToNat, tn_lk, tn_kl, if_pos, if_neg, ↓reduceIte, and_self, and_true, true_and, hce, FText_9 htx, h6]; with_reducible rfl)) | (with_reducible apply wm_t_9; focus (first | omega | (simp (disch := omega) only [wr_id, hce, FText_9 htx, h6]; omega) | (simp (disch := omega) only [wr_id, hce, FText_9 htx, h6]; done))) | (with_reducible apply wm_f_9; focus (first | omega | (simp (disch := omega) only [wr_id, hce, FText_9 htx, h6]; omega) | (simp (disch := omega) only [wr_id, hce, FText_9 htx, h6]; done)))))
            refine wm_b_9 (w_close_9 hrm cK (c := i) (by omega)) (fun v L hL => ?_)
            refine hrec (i + 1) _ _ (by omega) (by omega) ⟨by omega, frm_trans hK (frm_sub hL.1 (fun a ha => by omega)), ?_⟩
            have ef : clAdd (fun x => decide (x < i) && hl x) i = fun x => decide (x < i + 1) && hl x := by
              funext x
              unfold clAdd
              by_cases q : x = i
              · subst q; simp [z]
              · have : decide (x < i) = decide (x < i + 1) := by rw [Bool.eq_iff_iff]; simp; omega
                simp [q, this]
            rw [← ef]
            exact hL.2
          · rw [if_neg z] at h6
            (repeat (first | (with_reducible apply wm_o_9; focus (simp (disch := omega) only [wr_id, Int.toNat_natCast, Int.reduceToNat, tn_lk, tn_kl, if_pos, if_neg, ↓reduceIte, and_self, and_true, true_and, hce, FText_9 htx, h6]; with_reducible rfl)) | (with_reducible apply wm_q_9) | (with_reducible apply wm_c_9; focus (first | assumption | decide +kernel)) | (with_reducible apply wm_d_9; focus (simp (disch := omega) only [wr_id, Int.toNat_natCast, Int.reduceToNat, tn_lk, tn_kl, if_pos, if_neg, ↓reduceIte, and_self, and_true, true_and, hce, FText_9 htx, h6]; with_reducible rfl)) | (with_reducible apply wm_t_9; focus (first | omega | (simp (disch := omega) only [wr_id, hce, FText_9 htx, h6]; omega) | (simp (disch := omega) only [wr_id, hce, FText_9 htx, h6]; done))) | (with_reducible apply wm_f_9; focus (first | omega | (simp (disch := omega) only [wr_id, hce, FText_9 htx, h6]; omega) | (simp (disch := omega) only [wr_id, hce, FText_9 htx, h6]; done)))))
            refine hrec (i + 1) _ _ (by omega) (by omega) ⟨by omega, hK, ?_⟩
            have ef : (fun x => decide (x < i) && hl x) = fun x => decide (x < i + 1) && hl x := by
              funext x
              by_cases q : x = i
              · subst q; simp [z]
              · have : decide (x < i) = decide (x < i + 1) := by rw [Bool.eq_iff_iff]; simp; omega
                rw [this]
            rw [← ef]
            exact cK
      · have ef : (fun x => decide (x < 0) && hl x) = noB := by funext x; simp [noB]
        rw [ef]
        exact c0
  · exact frm_up (frm_up (frm_up (frm_refl _ _) ⟨by omega, by omega⟩) ⟨by omega, by omega⟩) ⟨by omega, by omega⟩
  · simp (disch := omega) only [up_g, if_neg, if_pos, ↓reduceIte]
  · simp (disch := omega) only [up_g, if_neg, if_pos, ↓reduceIte]
  · simp (disch := omega) only [up_g, if_neg, if_pos, ↓reduceIte]
end BG
theorem gd_k_9 : ∀ a ∈ gdL, K0_9 a = (24, 7) ∧ a < 361 ∧ a ≠ 0 ∧ a ≠ 29 ∧ ∀ y : Nat, y < 7 → rF_9 a y = some (a + 1 + y) ∧ K0_9 (a + 1 + y) = (20, 64) := by decide +kernel
section GD
variable {t d rt : Nat} {I : Nat → Nat → Int}
theorem g_row_9 {a y b : Nat} {i : Int} (ha : a ∈ gdL) (hy : y < 7) (hi : i = (y : Int)) (hb : b = a + 1 + y) : jm_ldR 24 (mm_9 t d rt I) a i = some b := by
  obtain ⟨k1, k2, k3, k4, k5⟩ := gd_k_9 a ha
  rw [mm_ldR_9 (n := 7) (m := 7) k1 (by omega) rfl, hi, wr_id (by omega) (by omega), if_pos (by omega), R0_f_9 (Or.inl k3) (Or.inl k4), Int.toNat_natCast, (k5 y hy).1, hb]
theorem g_ld_9 {a y b : Nat} (ha : a ∈ gdL) (hy : y < 7) (hb : b = a + 1 + y) (i : Int) : jm_ld 20 (mm_9 t d rt I) b i = if 0 ≤ jd_wr i ∧ jd_wr i < 64 then some (I b (jd_wr i).toNat) else none := by
  obtain ⟨k1, k2, k3, k4, k5⟩ := gd_k_9 a ha
  subst hb
  exact mm_ld_9 (n := 64) (m := 64) (k5 y hy).2 (by omega) rfl
theorem g_st_9 {a y b : Nat} (ha : a ∈ gdL) (hy : y < 7) (hb : b = a + 1 + y) (i v : Int) : jm_st 20 (mm_9 t d rt I) b i v = if 0 ≤ jd_wr i ∧ jd_wr i < 64 then some (mm_9 t d rt (up I b (jd_wr i).toNat v)) else none := by
  obtain ⟨k1, k2, k3, k4, k5⟩ := gd_k_9 a ha
  subst hb
  exact mm_st_9 (n := 64) (m := 64) (k5 y hy).2 (by omega) rfl
end GD
section CW
variable {t d rt : Nat} {I : Nat → Nat → Int} {r w h : Nat} {cl na nd : Nat → Bool}
theorem s_waysOn_9 (hrm : r ∈ [311, 324]) (c : rCfg I r w h cl na nd) (hn : ∀ x, na x = true → cl x = false) {y into : Nat} (hy : y < h) (hi : into < 2 ^ w) (hT : ∀ m, m < 2 ^ w → I (r + 5 + (y + 1)) m = (Wr w h cl na nd (h - (y + 1)) (y + 1) m : Int)) : f_X4_waysOn r (y : Int) (into : Int) (mm_9 t d rt I) = some (((((subs (room w h cl nd y into)).map (fun o => if fill w h cl na y into o then Wr w h cl na nd (h - (y + 1)) (y + 1) o else 0)).sum : Nat) : Int), mm_9 t d rt I) := by
  have c4 := c.2.2.2.1
  have c5 := c.2.2.2.2.1
  have c6 := c.2.2.2.2.2.1
  have c7 := c.2.2.2.2.2.2.1
  have hp6 : 2 ^ w ≤ 2 ^ 6 := Nat.pow_le_pow_right (by decide) c5
  have kr : (K0_9 r).1 = 4 ∧ r < 369 := ⟨(FRows_k_9 r hrm).1, (FRows_k_9 r hrm).2.1⟩
  have hroom := s_roomBelow_9 (t := t) (d := d) (rt := rt) hrm c (y := y) (into := into) (by omega) (by omega)
  have rl : room w h cl nd y into < 2 ^ w := room_lt
  have hg := gd_w hrm
  have g1 := fun (J : Nat → Nat → Int) => g_row_9 (t := t) (d := d) (rt := rt) (I := J) (a := r + 4) (y := y + 1) (i := (y : Int) + 1) (b := r + 5 + (y + 1)) hg (by omega) (by omega) (by omega)
  have g2 := fun (J : Nat → Nat → Int) (i : Int) => g_ld_9 (t := t) (d := d) (rt := rt) (I := J) (a := r + 4) (y := y + 1) (b := r + 5 + (y + 1)) hg (by omega) (by omega) i
  generalize hR : room w h cl nd y into = R at *
  generalize hF : (fun o => if fill w h cl na y into o then Wr w h cl na nd (h - (y + 1)) (y + 1) o else 0) = F at *
  refine wm_eq_9 ?_
  unfold f_X4_waysOn
  (repeat (first | (with_reducible apply wm_o_9; focus (simp (disch := omega) only [wr_id, Int.toNat_natCast, Int.reduceToNat, tn_lk, tn_kl, if_pos, if_neg, ↓reduceIte, and_self, and_true, true_and, FRows_9 hrm, hroom]; with_reducible rfl)) | (with_reducible apply wm_q_9) | (with_reducible apply wm_c_9; focus (first | assumption | decide +kernel)) | (with_reducible apply wm_d_9; focus (simp (disch := omega) only [wr_id, Int.toNat_natCast, Int.reduceToNat, tn_lk, tn_kl, if_pos, if_neg, ↓reduceIte, and_self, and_true, true_and, FRows_9 hrm, hroom]; with_reducible rfl)) | (with_reducible apply wm_t_9; focus (first | omega | (simp (disch := omega) only [wr_id, FRows_9 hrm, hroom]; omega) | (simp (disch := omega) only [wr_id, FRows_9 hrm, hroom]; done))) | (with_reducible apply wm_f_9; focus (first | omega | (simp (disch := omega) only [wr_id, FRows_9 hrm, hroom]; omega) | (simp (disch := omega) only [wr_id, FRows_9 hrm, hroom]; done)))))
  refine wm_lp4_9 64 (fun i a p cnt J => J = I ∧ cnt = (i : Int) ∧ ∃ l1 l, subs R = l1 ++ l ∧ l1.length = i ∧ p = hdI l ∧ a = (((l1.map F).sum : Nat) : Int)) ?_ (jfuel_n (by decide)) ⟨rfl, rfl, [], subs R, rfl, rfl, (hd_subs R (by omega)).symm, rfl⟩
  rintro i hi' a p cnt J ⟨rfl, rfl, l1, l, e, el, rfl, rfl⟩ rec hrec
  cases l with
  | nil =>
    rw [List.append_nil] at e
    (repeat (first | (with_reducible apply wm_o_9; focus (simp (disch := omega) only [wr_id, Int.toNat_natCast, Int.reduceToNat, tn_lk, tn_kl, if_pos, if_neg, ↓reduceIte, and_self, and_true, true_and, hdI_n]; with_reducible rfl)) | (with_reducible apply wm_q_9) | (with_reducible apply wm_c_9; focus (first | assumption | decide +kernel)) | (with_reducible apply wm_d_9; focus (simp (disch := omega) only [wr_id, Int.toNat_natCast, Int.reduceToNat, tn_lk, tn_kl, if_pos, if_neg, ↓reduceIte, and_self, and_true, true_and, hdI_n]; with_reducible rfl)) | (with_reducible apply wm_t_9; focus (first | omega | (simp (disch := omega) only [wr_id, hdI_n]; omega) | (simp (disch := omega) only [wr_id, hdI_n]; done))) | (with_reducible apply wm_f_9; focus (first | omega | (simp (disch := omega) only [wr_id, hdI_n]; omega) | (simp (disch := omega) only [wr_id, hdI_n]; done)))))
    exact wm_r_9 ⟨by rw [e], rfl⟩
  | cons p l =>
    have hp := mem_subs (r := R) (p := p) (by rw [e]; simp)
    have hpw : p < 2 ^ w := sub_lt hp.1 rl
    have hlen : l1.length + 1 ≤ 64 := by
      have := subs_len R
      rw [e] at this
      simp at this
      omega
    have hv := hT p hpw
    have hWl := Wr_le (w := w) (h := h) (cl := cl) (na := na) (nd := nd) (k := h - (y + 1)) (y := y + 1) (into := p) (by omega) c5 (by omega) c7 hn (by omega)
    have hpa := fun (M : jMem) => pa (r := R) (by omega) e M
    have hfi := s_fills_9 (t := t) (d := d) (rt := rt) hrm c (y := y) (into := into) (o := p) (by omega) (by omega) hp.2
    have e' : subs R = (l1 ++ [p]) ++ l := by rw [e]; simp
    have es : ((l1 ++ [p]).map F).sum = (l1.map F).sum + F p := by simp
    have hFp : F p = if fill w h cl na y into p then Wr w h cl na nd (h - (y + 1)) (y + 1) p else 0 := by rw [← hF]
    generalize hW : Wr w h cl na nd (h - (y + 1)) (y + 1) p = W at *
    by_cases z : W = 0
    · have hF0 : F p = 0 := by rw [hFp, z]; split <;> rfl
      (repeat (first | (with_reducible apply wm_o_9; focus (simp (disch := omega) only [wr_id, Int.toNat_natCast, Int.reduceToNat, tn_lk, tn_kl, if_pos, if_neg, ↓reduceIte, and_self, and_true, true_and, hdI_c, FRows_9 hrm, g1, g2, hv, hpa]; with_reducible rfl)) | (with_reducible apply wm_q_9) | (with_reducible apply wm_c_9; focus (first | assumption | decide +kernel)) | (with_reducible apply wm_d_9; focus (simp (disch := omega) only [wr_id, Int.toNat_natCast, Int.reduceToNat, tn_lk, tn_kl, if_pos, if_neg, ↓reduceIte, and_self, and_true, true_and, hdI_c, FRows_9 hrm, g1, g2, hv, hpa]; with_reducible rfl)) | (with_reducible apply wm_t_9; focus (first | omega | (simp (disch := omega) only [wr_id, hdI_c, FRows_9 hrm, g1, g2, hv, hpa]; omega) | (simp (disch := omega) only [wr_id, hdI_c, FRows_9 hrm, g1, g2, hv, hpa]; done))) | (with_reducible apply wm_f_9; focus (first | omega | (simp (disch := omega) only [wr_id, hdI_c, FRows_9 hrm, g1, g2, hv, hpa]; omega) | (simp (disch := omega) only [wr_id, hdI_c, FRows_9 hrm, g1, g2, hv, hpa]; done)))))
      exact hrec (i + 1) _ _ _ _ (by omega) (by omega) ⟨rfl, by omega, l1 ++ [p], l, e', by rw [List.length_append, el]; rfl, rfl, by rw [es, hF0]; omega⟩
    · by_cases zf : fill w h cl na y into p = true
      · rw [if_pos zf] at hfi hFp
        (repeat (first | (with_reducible apply wm_o_9; focus (simp (disch := omega) only [wr_id, Int.toNat_natCast, Int.reduceToNat, tn_lk, tn_kl, if_pos, if_neg, ↓reduceIte, and_self, and_true, true_and, hdI_c, FRows_9 hrm, g1, g2, hv, hfi, hpa]; with_reducible rfl)) | (with_reducible apply wm_q_9) | (with_reducible apply wm_c_9; focus (first | assumption | decide +kernel)) | (with_reducible apply wm_d_9; focus (simp (disch := omega) only [wr_id, Int.toNat_natCast, Int.reduceToNat, tn_lk, tn_kl, if_pos, if_neg, ↓reduceIte, and_self, and_true, true_and, hdI_c, FRows_9 hrm, g1, g2, hv, hfi, hpa]; with_reducible rfl)) | (with_reducible apply wm_t_9; focus (first | omega | (simp (disch := omega) only [wr_id, hdI_c, FRows_9 hrm, g1, g2, hv, hfi, hpa]; omega) | (simp (disch := omega) only [wr_id, hdI_c, FRows_9 hrm, g1, g2, hv, hfi, hpa]; done))) | (with_reducible apply wm_f_9; focus (first | omega | (simp (disch := omega) only [wr_id, hdI_c, FRows_9 hrm, g1, g2, hv, hfi, hpa]; omega) | (simp (disch := omega) only [wr_id, hdI_c, FRows_9 hrm, g1, g2, hv, hfi, hpa]; done)))))
        exact hrec (i + 1) _ _ _ _ (by omega) (by omega) ⟨rfl, by omega, l1 ++ [p], l, e', by rw [List.length_append, el]; rfl, rfl, by rw [es, hFp]; omega⟩
      · rw [if_neg zf] at hfi hFp
        (repeat (first | (with_reducible apply wm_o_9; focus (simp (disch := omega) only [wr_id, Int.toNat_natCast, Int.reduceToNat, tn_lk, tn_kl, if_pos, if_neg, ↓reduceIte, and_self, and_true, true_and, hdI_c, FRows_9 hrm, g1, g2, hv, hfi, hpa]; with_reducible rfl)) | (with_reducible apply wm_q_9) | (with_reducible apply wm_c_9; focus (first | assumption | decide +kernel)) | (with_reducible apply wm_d_9; focus (simp (disch := omega) only [wr_id, Int.toNat_natCast, Int.reduceToNat, tn_lk, tn_kl, if_pos, if_neg, ↓reduceIte, and_self, and_true, true_and, hdI_c, FRows_9 hrm, g1, g2, hv, hfi, hpa]; with_reducible rfl)) | (with_reducible apply wm_t_9; focus (first | omega | (simp (disch := omega) only [wr_id, hdI_c, FRows_9 hrm, g1, g2, hv, hfi, hpa]; omega) | (simp (disch := omega) only [wr_id, hdI_c, FRows_9 hrm, g1, g2, hv, hfi, hpa]; done))) | (with_reducible apply wm_f_9; focus (first | omega | (simp (disch := omega) only [wr_id, hdI_c, FRows_9 hrm, g1, g2, hv, hfi, hpa]; omega) | (simp (disch := omega) only [wr_id, hdI_c, FRows_9 hrm, g1, g2, hv, hfi, hpa]; done)))))
        exact hrec (i + 1) _ _ _ _ (by omega) (by omega) ⟨rfl, by omega, l1 ++ [p], l, e', by rw [List.length_append, el]; rfl, rfl, by rw [es, hFp]; omega⟩
theorem w_countWays_9 (hrm : r ∈ [311, 324]) (c : rCfg I r w h cl na nd) (hn : ∀ x, na x = true → cl x = false) : wm_9 t d rt (f_X4_countWays r (mm_9 t d rt I)) (fun _ J => frm (fun a => r + 5 ≤ a ∧ a ≤ r + 11) I J ∧ rCfg J r w h cl na nd ∧ wyR J r w h cl na nd) := by
  have c0 := c
  obtain ⟨c1, c2, c3, c4, c5, c6, c7, c8, c9, c10, c11⟩ := c
  have hp6 : 2 ^ w ≤ 2 ^ 6 := Nat.pow_le_pow_right (by decide) c5
  have hp := Nat.two_pow_pos w
  have kr : (K0_9 r).1 = 4 ∧ r < 369 := ⟨(FRows_k_9 r hrm).1, (FRows_k_9 r hrm).2.1⟩
  have hg := gd_w hrm
  have w0 := wr_0
  generalize hP : 2 ^ w = P at *
  have g1 := fun (J : Nat → Nat → Int) => g_row_9 (t := t) (d := d) (rt := rt) (I := J) (a := r + 4) (y := h) (i := (h : Int)) (b := r + 5 + h) hg (by omega) rfl (by omega)
  have g2 := fun (J : Nat → Nat → Int) (i v : Int) => g_st_9 (t := t) (d := d) (rt := rt) (I := J) (a := r + 4) (y := h) (b := r + 5 + h) hg (by omega) (by omega) i v
  unfold f_X4_countWays
  refine wm_lp2_9 P (fun i y J => y = (i : Int) ∧ frm (fun a => r + 5 ≤ a ∧ a ≤ r + 11) I J ∧ ∀ m, m < i → J (r + 5 + h) m = (if m = 0 then 1 else 0 : Nat)) ?_ (Nat.lt_of_le_of_lt hp6 (jfuel_n (by decide))) ⟨rfl, frm_refl _ _, fun m hm => by omega⟩
  rintro i hi y J ⟨rfl, hJ, jA⟩ rec hrec
  have cJ := rCfg_w hJ c0
  have j6 := cJ.2.1
  have j7 := cJ.2.2.1
  rw [hP] at j7
  by_cases e : i = P
  · subst e
    (repeat (first | (with_reducible apply wm_o_9; focus (simp (disch := omega) only [wr_id, Int.toNat_natCast, Int.reduceToNat, tn_lk, tn_kl, if_pos, if_neg, ↓reduceIte, and_self, and_true, true_and, FRows_9 hrm, j7, j6]; with_reducible rfl)) | (with_reducible apply wm_q_9) | (with_reducible apply wm_c_9; focus (first | assumption | decide +kernel)) | (with_reducible apply wm_d_9; focus (simp (disch := omega) only [wr_id, Int.toNat_natCast, Int.reduceToNat, tn_lk, tn_kl, if_pos, if_neg, ↓reduceIte, and_self, and_true, true_and, FRows_9 hrm, j7, j6]; with_reducible rfl)) | (with_reducible apply wm_t_9; focus (first | omega | (simp (disch := omega) only [wr_id, FRows_9 hrm, j7, j6]; omega) | (simp (disch := omega) only [wr_id, FRows_9 hrm, j7, j6]; done))) | (with_reducible apply wm_f_9; focus (first | omega | (simp (disch := omega) only [wr_id, FRows_9 hrm, j7, j6]; omega) | (simp (disch := omega) only [wr_id, FRows_9 hrm, j7, j6]; done)))))
    clear hrec rec
    refine wm_lp2_9 h (fun i y K => y = (h : Int) - 1 - (i : Int) ∧ frm (fun a => r + 5 ≤ a ∧ a ≤ r + 11) I K ∧ ∀ y, h - i ≤ y → y ≤ h → ∀ m, m < 2 ^ w → K (r + 5 + y) m = (Wr w h cl na nd (h - y) y m : Int)) ?_ (Nat.lt_of_le_of_lt c7 (jfuel_n (by decide))) ⟨by omega, hJ, fun y y1 y2 m hm => ?_⟩
    · rintro i' hi' y K ⟨rfl, hK, kA⟩ rec hrec
      have cK := rCfg_w hK c0
      by_cases e : i' = h
      · subst e
        (repeat (first | (with_reducible apply wm_o_9; focus (simp (disch := omega) only [wr_id, Int.toNat_natCast, Int.reduceToNat, tn_lk, tn_kl, if_pos, if_neg, ↓reduceIte, and_self, and_true, true_and]; with_reducible rfl)) | (with_reducible apply wm_q_9) | (with_reducible apply wm_c_9; focus (first | assumption | decide +kernel)) | (with_reducible apply wm_d_9; focus (simp (disch := omega) only [wr_id, Int.toNat_natCast, Int.reduceToNat, tn_lk, tn_kl, if_pos, if_neg, ↓reduceIte, and_self, and_true, true_and]; with_reducible rfl)) | (with_reducible apply wm_t_9; focus (first | omega | (simp (disch := omega) only [wr_id]; omega) | (simp (disch := omega) only [wr_id]; done))) | (with_reducible apply wm_f_9; focus (first | omega | (simp (disch := omega) only [wr_id]; omega) | (simp (disch := omega) only [wr_id]; done)))))
        refine wm_r_9 ⟨hK, cK, fun y hy m hm => kA y (by omega) hy m hm⟩
      · obtain ⟨y, hy⟩ : ∃ y : Nat, y = h - 1 - i' := ⟨_, rfl⟩
        have ey : (h : Int) - 1 - (i' : Int) = (y : Int) := by omega
        rw [ey]
        have hyh : y < h := by omega
        (repeat (first | (with_reducible apply wm_o_9; focus (simp (disch := omega) only [wr_id, Int.toNat_natCast, Int.reduceToNat, tn_lk, tn_kl, if_pos, if_neg, ↓reduceIte, and_self, and_true, true_and]; with_reducible rfl)) | (with_reducible apply wm_q_9) | (with_reducible apply wm_c_9; focus (first | assumption | decide +kernel)) | (with_reducible apply wm_d_9; focus (simp (disch := omega) only [wr_id, Int.toNat_natCast, Int.reduceToNat, tn_lk, tn_kl, if_pos, if_neg, ↓reduceIte, and_self, and_true, true_and]; with_reducible rfl)) | (with_reducible apply wm_t_9; focus (first | omega | (simp (disch := omega) only [wr_id]; omega) | (simp (disch := omega) only [wr_id]; done))) | (with_reducible apply wm_f_9; focus (first | omega | (simp (disch := omega) only [wr_id]; omega) | (simp (disch := omega) only [wr_id]; done)))))
        have q1 := fun (J : Nat → Nat → Int) => g_row_9 (t := t) (d := d) (rt := rt) (I := J) (a := r + 4) (y := y) (i := (y : Int)) (b := r + 5 + y) hg (by omega) rfl (by omega)
        have q2 := fun (J : Nat → Nat → Int) (i v : Int) => g_st_9 (t := t) (d := d) (rt := rt) (I := J) (a := r + 4) (y := y) (b := r + 5 + y) hg (by omega) (by omega) i v
        refine wm_lp2_9 i (fun k x L => x = (k : Int) ∧ frm (fun a => a = r + 5 + y) K L ∧ ∀ m, m < k → L (r + 5 + y) m = (Wr w h cl na nd (h - y) y m : Int)) ?_ (Nat.lt_of_le_of_lt hp6 (jfuel_n (by decide))) ⟨rfl, frm_refl _ _, fun m hm => by omega⟩
        rintro k hk x L ⟨rfl, hL, lA⟩ rec2 hrec2
        have fL : frm (fun a => r + 5 ≤ a ∧ a ≤ r + 11) I L := frm_trans hK (frm_sub hL (fun a ha => by omega))
        have cL := rCfg_w fL c0
        have l7 := cL.2.2.1
        rw [hP] at l7
        by_cases ek : k = i
        · subst ek
          (repeat (first | (with_reducible apply wm_o_9; focus (simp (disch := omega) only [wr_id, Int.toNat_natCast, Int.reduceToNat, tn_lk, tn_kl, if_pos, if_neg, ↓reduceIte, and_self, and_true, true_and, FRows_9 hrm, l7]; with_reducible rfl)) | (with_reducible apply wm_q_9) | (with_reducible apply wm_c_9; focus (first | assumption | decide +kernel)) | (with_reducible apply wm_d_9; focus (simp (disch := omega) only [wr_id, Int.toNat_natCast, Int.reduceToNat, tn_lk, tn_kl, if_pos, if_neg, ↓reduceIte, and_self, and_true, true_and, FRows_9 hrm, l7]; with_reducible rfl)) | (with_reducible apply wm_t_9; focus (first | omega | (simp (disch := omega) only [wr_id, FRows_9 hrm, l7]; omega) | (simp (disch := omega) only [wr_id, FRows_9 hrm, l7]; done))) | (with_reducible apply wm_f_9; focus (first | omega | (simp (disch := omega) only [wr_id, FRows_9 hrm, l7]; omega) | (simp (disch := omega) only [wr_id, FRows_9 hrm, l7]; done)))))
          refine hrec (i' + 1) _ _ (by omega) (by omega) ⟨by omega, fL, fun z z1 z2 m hm => ?_⟩
          by_cases ez : z = y
          · subst ez; exact lA m (by omega)
          · rw [hL _ (by omega)]; exact kA z (by omega) z2 m hm
        · have hcr := s_canReach_9 (t := t) (d := d) (rt := rt) hrm cL (y := y) (into := k) (by omega) (by omega)
          have hws := Wr_s (w := w) (h := h) (cl := cl) (na := na) (nd := nd) (y := y) (into := k) hyh
          by_cases z : canR w h cl nd y k = true
          · rw [if_pos z] at hcr hws
            have hwo := s_waysOn_9 (t := t) (d := d) (rt := rt) hrm cL hn (y := y) (into := k) hyh (by omega) (fun m hm => by rw [hL _ (by omega)]; exact kA (y + 1) (by omega) (by omega) m hm)
            rw [← hws] at hwo
            (repeat (first | (with_reducible apply wm_o_9; focus (simp (disch := omega) only [wr_id, Int.toNat_natCast, Int.reduceToNat, tn_lk, tn_kl, if_pos, if_neg, ↓reduceIte, and_self, and_true, true_and, FRows_9 hrm, l7, q1, q2, hcr, hwo]; with_reducible rfl)) | (with_reducible apply wm_q_9) | (with_reducible apply wm_c_9; focus (first | assumption | decide +kernel)) | (with_reducible apply wm_d_9; focus (simp (disch := omega) only [wr_id, Int.toNat_natCast, Int.reduceToNat, tn_lk, tn_kl, if_pos, if_neg, ↓reduceIte, and_self, and_true, true_and, FRows_9 hrm, l7, q1, q2, hcr, hwo]; with_reducible rfl)) | (with_reducible apply wm_t_9; focus (first | omega | (simp (disch := omega) only [wr_id, FRows_9 hrm, l7, q1, q2, hcr, hwo]; omega) | (simp (disch := omega) only [wr_id, FRows_9 hrm, l7, q1, q2, hcr, hwo]; done))) | (with_reducible apply wm_f_9; focus (first | omega | (simp (disch := omega) only [wr_id, FRows_9 hrm, l7, q1, q2, hcr, hwo]; omega) | (simp (disch := omega) only [wr_id, FRows_9 hrm, l7, q1, q2, hcr, hwo]; done)))))
            refine hrec2 (k + 1) _ _ (by omega) (by omega) ⟨by omega, frm_up hL rfl, fun m hm => ?_⟩
            rw [up_g]
            by_cases em : m = k
            · rw [if_pos em, em]
            · rw [if_neg em]; exact lA m (by omega)
          · rw [if_neg z] at hcr hws
            (repeat (first | (with_reducible apply wm_o_9; focus (simp (disch := omega) only [wr_id, Int.toNat_natCast, Int.reduceToNat, tn_lk, tn_kl, if_pos, if_neg, ↓reduceIte, and_self, and_true, true_and, FRows_9 hrm, l7, q1, q2, hcr, w0]; with_reducible rfl)) | (with_reducible apply wm_q_9) | (with_reducible apply wm_c_9; focus (first | assumption | decide +kernel)) | (with_reducible apply wm_d_9; focus (simp (disch := omega) only [wr_id, Int.toNat_natCast, Int.reduceToNat, tn_lk, tn_kl, if_pos, if_neg, ↓reduceIte, and_self, and_true, true_and, FRows_9 hrm, l7, q1, q2, hcr, w0]; with_reducible rfl)) | (with_reducible apply wm_t_9; focus (first | omega | (simp (disch := omega) only [wr_id, FRows_9 hrm, l7, q1, q2, hcr, w0]; omega) | (simp (disch := omega) only [wr_id, FRows_9 hrm, l7, q1, q2, hcr, w0]; done))) | (with_reducible apply wm_f_9; focus (first | omega | (simp (disch := omega) only [wr_id, FRows_9 hrm, l7, q1, q2, hcr, w0]; omega) | (simp (disch := omega) only [wr_id, FRows_9 hrm, l7, q1, q2, hcr, w0]; done)))))
            refine hrec2 (k + 1) _ _ (by omega) (by omega) ⟨by omega, frm_up hL rfl, fun m hm => ?_⟩
            rw [up_g]
            by_cases em : m = k
            · rw [if_pos em, em, hws]; rfl
            · rw [if_neg em]; exact lA m (by omega)
    · obtain rfl : y = h := by omega
      rw [jA m (by omega), Nat.sub_self, Wr]
  · by_cases z : i = 0
    · subst z
      (repeat (first | (with_reducible apply wm_o_9; focus (simp (disch := omega) only [wr_id, Int.toNat_natCast, Int.reduceToNat, tn_lk, tn_kl, if_pos, if_neg, ↓reduceIte, and_self, and_true, true_and, FRows_9 hrm, j7, j6, g1, g2]; with_reducible rfl)) | (with_reducible apply wm_q_9) | (with_reducible apply wm_c_9; focus (first | assumption | decide +kernel)) | (with_reducible apply wm_d_9; focus (simp (disch := omega) only [wr_id, Int.toNat_natCast, Int.reduceToNat, tn_lk, tn_kl, if_pos, if_neg, ↓reduceIte, and_self, and_true, true_and, FRows_9 hrm, j7, j6, g1, g2]; with_reducible rfl)) | (with_reducible apply wm_t_9; focus (first | omega | (simp (disch := omega) only [wr_id, FRows_9 hrm, j7, j6, g1, g2]; omega) | (simp (disch := omega) only [wr_id, FRows_9 hrm, j7, j6, g1, g2]; done))) | (with_reducible apply wm_f_9; focus (first | omega | (simp (disch := omega) only [wr_id, FRows_9 hrm, j7, j6, g1, g2]; omega) | (simp (disch := omega) only [wr_id, FRows_9 hrm, j7, j6, g1, g2]; done)))))
      refine hrec (0 + 1) _ _ (by omega) (by omega) ⟨by omega, frm_up hJ ⟨by omega, by omega⟩, fun m hm => ?_⟩
      obtain rfl : m = 0 := by omega
      rw [up_g, if_pos rfl, if_pos rfl]
      rfl
    · (repeat (first | (with_reducible apply wm_o_9; focus (simp (disch := omega) only [wr_id, Int.toNat_natCast, Int.reduceToNat, tn_lk, tn_kl, if_pos, if_neg, ↓reduceIte, and_self, and_true, true_and, FRows_9 hrm, j7, j6, g1, g2]; with_reducible rfl)) | (with_reducible apply wm_q_9) | (with_reducible apply wm_c_9; focus (first | assumption | decide +kernel)) | (with_reducible apply wm_d_9; focus (simp (disch := omega) only [wr_id, Int.toNat_natCast, Int.reduceToNat, tn_lk, tn_kl, if_pos, if_neg, ↓reduceIte, and_self, and_true, true_and, FRows_9 hrm, j7, j6, g1, g2]; with_reducible rfl)) | (with_reducible apply wm_t_9; focus (first | omega | (simp (disch := omega) only [wr_id, FRows_9 hrm, j7, j6, g1, g2]; omega) | (simp (disch := omega) only [wr_id, FRows_9 hrm, j7, j6, g1, g2]; done))) | (with_reducible apply wm_f_9; focus (first | omega | (simp (disch := omega) only [wr_id, FRows_9 hrm, j7, j6, g1, g2]; omega) | (simp (disch := omega) only [wr_id, FRows_9 hrm, j7, j6, g1, g2]; done)))))
      refine hrec (i + 1) _ _ (by omega) (by omega) ⟨by omega, frm_up hJ ⟨by omega, by omega⟩, fun m hm => ?_⟩
      rw [up_g]
      by_cases em : m = i
      · rw [if_pos em, if_neg (by omega)]; rfl
      · rw [if_neg em]; exact jA m (by omega)
end CW
section SO
variable {t d rt : Nat} {I J : Nat → Nat → Int} {w h n nh : Nat} {hl : Nat → Bool} {sd : Int} {ifs : Nat → List LwI} {xs : Nat → List CI}
theorem w_startOver_9 (sq : sqOK w h n nh hl) (c : cfC I t w h n nh hl sd ifs xs) {m : Nat} {sx sy sw : Nat → Int} {W : Nat → Bool} (h4 : I t 4 = (m : Int)) (hS : ∀ i, i < m → I (t + 3) i = sx i ∧ I (t + 4) i = sy i ∧ I (t + 5) i = sw i) (hrg : ∀ i, i < m → 0 ≤ sx i ∧ 0 ≤ sy i ∧ 0 ≤ sw i ∧ sw i ≤ 1) (hm : mkS w h sx sy sw hl m = some W) (hm18 : m ≤ 18) (h3 : ∀ k, k < 18 → I 36 k = 0 ∨ I 36 k = 1) (h12 : ∀ x, x < 64 → I 323 x = (oddR x : Int)) : wm_9 t d rt (f_X11_startOver 0 (mm_9 t d rt I)) (fun _ J => frm soS I J ∧ stR J 34 w (rwS w sx sy sw m) ∧ J 46 4 = 0 ∧ J 46 3 = I 46 3 ∧ (∀ i, i < 3 → J 307 i = 0) ∧ J 308 2 = 0 ∧ rCfg J 311 w h hl noB noB ∧ wyR J 311 w h hl noB noB) := by
  have c' := c
  have sq' := sq
  obtain ⟨c1, c2, c3, c4, c5, c6, c7⟩ := c'
  obtain ⟨s1, s2, s3, s4, s5, s6, s7, s8, s9⟩ := sq'
  have kt := (tx_k_9 c1).1
  have kt2 := tx_k_9 c1
  have ht : t = 3 ∨ t = 16 := by simpa using c1
  unfold f_X11_startOver
  (repeat (first | (with_reducible apply wm_o_9; focus (simp (disch := omega) only [wr_id, Int.toNat_natCast, Int.reduceToNat, tn_lk, tn_kl, if_pos, if_neg, ↓reduceIte, and_self, and_true, true_and, FX_9, FText_9 c1, c2]; with_reducible rfl)) | (with_reducible apply wm_q_9) | (with_reducible apply wm_c_9; focus (first | assumption | decide +kernel)) | (with_reducible apply wm_d_9; focus (simp (disch := omega) only [wr_id, Int.toNat_natCast, Int.reduceToNat, tn_lk, tn_kl, if_pos, if_neg, ↓reduceIte, and_self, and_true, true_and, FX_9, FText_9 c1, c2]; with_reducible rfl)) | (with_reducible apply wm_t_9; focus (first | omega | (simp (disch := omega) only [wr_id, FX_9, FText_9 c1, c2]; omega) | (simp (disch := omega) only [wr_id, FX_9, FText_9 c1, c2]; done))) | (with_reducible apply wm_f_9; focus (first | omega | (simp (disch := omega) only [wr_id, FX_9, FText_9 c1, c2]; omega) | (simp (disch := omega) only [wr_id, FX_9, FText_9 c1, c2]; done)))))
  refine wm_b_9 (w_clear_9 (w := w) now_in h3) (fun r J1 hJ1 => ?_)
  obtain ⟨f1, g1⟩ := hJ1
  refine wm_lp2_9 18 (fun i y J => y = (i : Int) ∧ i ≤ m ∧ frm (stF 34) I J ∧ stR J 34 w (rwS w sx sy sw i)) ?_ (jfuel_n (by decide)) ⟨rfl, Nat.zero_le _, f1, by rw [rwS_0]; exact g1⟩
  clear f1 g1 J1
  rintro i hi y J ⟨rfl, him, f1, g1⟩ rec hrec
  have e : ∀ a, a < 34 → J a = I a := fun a ha => f1 a (by unfold stF; omega)
  have j0 : J t 0 = (w : Int) := by rw [e t (by omega)]; exact c2
  have j4 : J t 4 = (m : Int) := by rw [e t (by omega)]; exact h4
  by_cases ci : i < m
  · obtain ⟨u1, u2, u3⟩ := hS i ci
    obtain ⟨v1, v2, v3, v4⟩ := hrg i ci
    rw [← e (t + 3) (by omega)] at u1
    rw [← e (t + 4) (by omega)] at u2
    rw [← e (t + 5) (by omega)] at u3
    obtain ⟨W1, e1⟩ := mkS_pre hm (show i + 1 ≤ m by omega)
    obtain ⟨W0, e0⟩ := mkS_pre hm (show i ≤ m by omega)
    have ok1 := mkS_ok (n := n) ⟨s1, s2⟩ s4 s5 (i + 1) W1 (by omega) (fun j hj => hrg j (by omega)) e1
    have ok0 := mkS_ok (n := n) ⟨s1, s2⟩ s4 s5 i W0 (by omega) (fun j hj => hrg j (by omega)) e0
    obtain ⟨cc, hc, hc36⟩ := ok1.2.2 i (by omega)
    have rs := rwS_s (w := w) (sx := sx) (sy := sy) (sw := sw) (m := i) (by omega) hc
    have k0 := rwS_k (w := w) (sx := sx) (sy := sy) (sw := sw) (m := i) (by omega)
    have put : ∀ f : Int, (f = 1 ∧ sw i = 0) ∨ (f = 0 ∧ sw i = 1) → wm_9 t d rt (jbd (f_X6_put 34 (i : Int) ((w : Int) * sy i + sx i) f (mm_9 t d rt J)) fun _ M21 => rec ((i : Int) + 1) M21) (fun _ J => frm soS I J ∧ stR J 34 w (rwS w sx sy sw m) ∧ J 46 4 = 0 ∧ J 46 3 = I 46 3 ∧ (∀ i, i < 3 → J 307 i = 0) ∧ J 308 2 = 0 ∧ rCfg J 311 w h hl noB noB ∧ wyR J 311 w h hl noB noB) := by
      intro f hf
      rw [hc]
      refine wm_b_9 (w_put_9 (h' := h) now_in ⟨s1, s2⟩ s7 s5 ok0.1 g1 (show i < 18 by omega) k0 hf (by rw [rs]; exact ok1.1)) (fun r J2 hJ2 => ?_)
      obtain ⟨f2, g2⟩ := hJ2
      rw [rs] at g2
      exact hrec (i + 1) _ _ (by omega) (by omega) ⟨by omega, by omega, frm_trans f1 f2, g2⟩
    by_cases z : sw i = 0
    · rw [z] at u3
      (repeat (first | (with_reducible apply wm_o_9; focus (simp (disch := omega) only [wr_id, Int.toNat_natCast, Int.reduceToNat, tn_lk, tn_kl, if_pos, if_neg, ↓reduceIte, and_self, and_true, true_and, FX_9, FText_9 c1, j0, j4, u1, u2, u3]; with_reducible rfl)) | (with_reducible apply wm_q_9) | (with_reducible apply wm_c_9; focus (first | assumption | decide +kernel)) | (with_reducible apply wm_d_9; focus (simp (disch := omega) only [wr_id, Int.toNat_natCast, Int.reduceToNat, tn_lk, tn_kl, if_pos, if_neg, ↓reduceIte, and_self, and_true, true_and, FX_9, FText_9 c1, j0, j4, u1, u2, u3]; with_reducible rfl)) | (with_reducible apply wm_t_9; focus (first | omega | (simp (disch := omega) only [wr_id, FX_9, FText_9 c1, j0, j4, u1, u2, u3]; omega) | (simp (disch := omega) only [wr_id, FX_9, FText_9 c1, j0, j4, u1, u2, u3]; done))) | (with_reducible apply wm_f_9; focus (first | omega | (simp (disch := omega) only [wr_id, FX_9, FText_9 c1, j0, j4, u1, u2, u3]; omega) | (simp (disch := omega) only [wr_id, FX_9, FText_9 c1, j0, j4, u1, u2, u3]; done)))))
      exact put 1 (Or.inl ⟨rfl, z⟩)
    · have z1 : sw i = 1 := by omega
      rw [z1] at u3
      (repeat (first | (with_reducible apply wm_o_9; focus (simp (disch := omega) only [wr_id, Int.toNat_natCast, Int.reduceToNat, tn_lk, tn_kl, if_pos, if_neg, ↓reduceIte, and_self, and_true, true_and, FX_9, FText_9 c1, j0, j4, u1, u2, u3]; with_reducible rfl)) | (with_reducible apply wm_q_9) | (with_reducible apply wm_c_9; focus (first | assumption | decide +kernel)) | (with_reducible apply wm_d_9; focus (simp (disch := omega) only [wr_id, Int.toNat_natCast, Int.reduceToNat, tn_lk, tn_kl, if_pos, if_neg, ↓reduceIte, and_self, and_true, true_and, FX_9, FText_9 c1, j0, j4, u1, u2, u3]; with_reducible rfl)) | (with_reducible apply wm_t_9; focus (first | omega | (simp (disch := omega) only [wr_id, FX_9, FText_9 c1, j0, j4, u1, u2, u3]; omega) | (simp (disch := omega) only [wr_id, FX_9, FText_9 c1, j0, j4, u1, u2, u3]; done))) | (with_reducible apply wm_f_9; focus (first | omega | (simp (disch := omega) only [wr_id, FX_9, FText_9 c1, j0, j4, u1, u2, u3]; omega) | (simp (disch := omega) only [wr_id, FX_9, FText_9 c1, j0, j4, u1, u2, u3]; done)))))
      exact put 0 (Or.inr ⟨rfl, z1⟩)
  have ei : i = m := by omega
  subst ei
  (repeat (first | (with_reducible apply wm_o_9; focus (simp (disch := omega) only [wr_id, Int.toNat_natCast, Int.reduceToNat, tn_lk, tn_kl, if_pos, if_neg, ↓reduceIte, and_self, and_true, true_and, FX_9, FText_9 c1, j4]; with_reducible rfl)) | (with_reducible apply wm_q_9) | (with_reducible apply wm_c_9; focus (first | assumption | decide +kernel)) | (with_reducible apply wm_d_9; focus (simp (disch := omega) only [wr_id, Int.toNat_natCast, Int.reduceToNat, tn_lk, tn_kl, if_pos, if_neg, ↓reduceIte, and_self, and_true, true_and, FX_9, FText_9 c1, j4]; with_reducible rfl)) | (with_reducible apply wm_t_9; focus (first | omega | (simp (disch := omega) only [wr_id, FX_9, FText_9 c1, j4]; omega) | (simp (disch := omega) only [wr_id, FX_9, FText_9 c1, j4]; done))) | (with_reducible apply wm_f_9; focus (first | omega | (simp (disch := omega) only [wr_id, FX_9, FText_9 c1, j4]; omega) | (simp (disch := omega) only [wr_id, FX_9, FText_9 c1, j4]; done)))))
  refine wm_b_9 w_kclear_9 (fun r J2 hJ2 => ?_)
  obtain ⟨f2, a1, a2, a3⟩ := hJ2
  (repeat (first | (with_reducible apply wm_o_9; focus (simp (disch := omega) only [wr_id, Int.toNat_natCast, Int.reduceToNat, tn_lk, tn_kl, if_pos, if_neg, ↓reduceIte, and_self, and_true, true_and, FX_9, FTold_9]; with_reducible rfl)) | (with_reducible apply wm_q_9) | (with_reducible apply wm_c_9; focus (first | assumption | decide +kernel)) | (with_reducible apply wm_d_9; focus (simp (disch := omega) only [wr_id, Int.toNat_natCast, Int.reduceToNat, tn_lk, tn_kl, if_pos, if_neg, ↓reduceIte, and_self, and_true, true_and, FX_9, FTold_9]; with_reducible rfl)) | (with_reducible apply wm_t_9; focus (first | omega | (simp (disch := omega) only [wr_id, FX_9, FTold_9]; omega) | (simp (disch := omega) only [wr_id, FX_9, FTold_9]; done))) | (with_reducible apply wm_f_9; focus (first | omega | (simp (disch := omega) only [wr_id, FX_9, FTold_9]; omega) | (simp (disch := omega) only [wr_id, FX_9, FTold_9]; done)))))
  generalize eJ3 : up J2 308 2 0 = J3
  have r3 : ∀ a, a ≠ 308 → J3 a = J2 a := fun a ha => by rw [← eJ3, up_ne ha]
  have b308 : J3 308 2 = 0 := by rw [← eJ3, up_s]
  clear eJ3
  have e3 : ∀ a, a ≠ 308 → a ≠ 46 → a ≠ 307 → ¬ (34 ≤ a ∧ a ≤ 39) → J3 a = I a := fun a n1 n2 n3 n4 => by rw [r3 a n1, f2 a (by omega), f1 a (by unfold stF; omega)]
  have cJ : cfC J3 t w h n nh hl sd ifs xs := cfC_frm (S := fun a => 34 ≤ a) (fun a ha => e3 a (by omega) (by omega) (by omega) (by omega)) (fun a a1 a2 => by omega) c
  refine wm_b_9 (w_begin_9 (r := 311) (by decide) sq cJ (fun x hx => by rw [e3 323 (by decide) (by decide) (by decide) (by decide)]; exact h12 x hx)) (fun r J4 hJ4 => ?_)
  obtain ⟨f4, g4⟩ := hJ4
  (repeat (first | (with_reducible apply wm_o_9; focus (simp (disch := omega) only [wr_id, Int.toNat_natCast, Int.reduceToNat, tn_lk, tn_kl, if_pos, if_neg, ↓reduceIte, and_self, and_true, true_and, FX_9]; with_reducible rfl)) | (with_reducible apply wm_q_9) | (with_reducible apply wm_c_9; focus (first | assumption | decide +kernel)) | (with_reducible apply wm_d_9; focus (simp (disch := omega) only [wr_id, Int.toNat_natCast, Int.reduceToNat, tn_lk, tn_kl, if_pos, if_neg, ↓reduceIte, and_self, and_true, true_and, FX_9]; with_reducible rfl)) | (with_reducible apply wm_t_9; focus (first | omega | (simp (disch := omega) only [wr_id, FX_9]; omega) | (simp (disch := omega) only [wr_id, FX_9]; done))) | (with_reducible apply wm_f_9; focus (first | omega | (simp (disch := omega) only [wr_id, FX_9]; omega) | (simp (disch := omega) only [wr_id, FX_9]; done)))))
  refine wm_b_9 (w_countWays_9 (r := 311) (by decide) g4 (fun x hx => by cases hx)) (fun r J5 hJ5 => ?_)
  obtain ⟨f5, g5, g6⟩ := hJ5
  have e5 : ∀ a, ¬ (311 ≤ a ∧ a ≤ 314) → ¬ (316 ≤ a ∧ a ≤ 322) → J5 a = J3 a := fun a n1 n2 => by rw [f5 a (by omega), f4 a (by omega)]
  refine wm_r_9 ⟨fun a ha => ?_, ?_, ?_, ?_, fun i hi => ?_, ?_, g5, g6⟩
  · unfold soS at ha
    rw [e5 a (by omega) (by omega), e3 a (by omega) (by omega) (by omega) (by omega)]
  · refine stR_frm (S := fun a => ¬ (34 ≤ a ∧ a ≤ 39)) (fun a ha => ?_) (fun a a1 a2 => by omega) g1
    have ha' : 34 ≤ a ∧ a ≤ 39 := by omega
    rw [e5 a (by omega) (by omega), r3 a (by omega), f2 a (by omega)]
  · rw [e5 46 (by decide) (by decide), r3 46 (by decide)]; exact a1
  · rw [e5 46 (by decide) (by decide), r3 46 (by decide), a2, f1 46 (by unfold stF; omega)]
  · rw [e5 307 (by decide) (by decide), r3 307 (by decide)]; exact a3 i hi
  · rw [e5 308 (by decide) (by decide)]; exact b308
end SO
