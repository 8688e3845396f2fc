/-! ===== STAGE 2: the memory behind the constructors: kinds and refs are fixed, ints go on ===== -/
def kT : List (Nat × Nat) := [(11, 0), (7, 0), (21, 2000), (8, 0), (20, 12), (20, 12), (20, 18), (20, 18), (20, 18), (22, 36), (22, 36), (2, 0), (20, 404), (20, 404), (20, 3), (20, 32), (8, 0), (20, 12), (20, 12), (20, 18), (20, 18), (20, 18), (22, 36), (22, 36), (2, 0), (20, 404), (20, 404), (20, 3), (20, 32), (3, 0), (9, 0), (20, 401), (20, 401), (20, 401), (6, 0), (20, 18), (22, 18), (20, 18), (20, 18), (20, 36), (6, 0), (20, 18), (22, 18), (20, 18), (20, 18), (20, 36), (1, 0), (25, 40), (6, 0), (20, 18), (22, 18), (20, 18), (20, 18), (20, 36), (6, 0), (20, 18), (22, 18), (20, 18), (20, 18), (20, 36), (6, 0), (20, 18), (22, 18), (20, 18), (20, 18), (20, 36), (6, 0), (20, 18), (22, 18), (20, 18), (20, 18), (20, 36), (6, 0), (20, 18), (22, 18), (20, 18), (20, 18), (20, 36), (6, 0), (20, 18), (22, 18), (20, 18), (20, 18), (20, 36), (6, 0), (20, 18), (22, 18), (20, 18), (20, 18), (20, 36), (6, 0), (20, 18), (22, 18), (20, 18), (20, 18), (20, 36), (6, 0), (20, 18), (22, 18), (20, 18), (20, 18), (20, 36), (6, 0), (20, 18), (22, 18), (20, 18), (20, 18), (20, 36), (6, 0), (20, 18), (22, 18), (20, 18), (20, 18), (20, 36), (6, 0), (20, 18), (22, 18), (20, 18), (20, 18), (20, 36), (6, 0), (20, 18), (22, 18), (20, 18), (20, 18), (20, 36), (6, 0), (20, 18), (22, 18), (20, 18), (20, 18), (20, 36), (6, 0), (20, 18), (22, 18), (20, 18), (20, 18), (20, 36), (6, 0), (20, 18), (22, 18), (20, 18), (20, 18), (20, 36), (6, 0), (20, 18), (22, 18), (20, 18), (20, 18), (20, 36), (6, 0), (20, 18), (22, 18), (20, 18), (20, 18), (20, 36), (6, 0), (20, 18), (22, 18), (20, 18), (20, 18), (20, 36), (6, 0), (20, 18), (22, 18), (20, 18), (20, 18), (20, 36), (6, 0), (20, 18), (22, 18), (20, 18), (20, 18), (20, 36), (6, 0), (20, 18), (22, 18), (20, 18), (20, 18), (20, 36), (6, 0), (20, 18), (22, 18), (20, 18), (20, 18), (20, 36), (6, 0), (20, 18), (22, 18), (20, 18), (20, 18), (20, 36), (6, 0), (20, 18), (22, 18), (20, 18), (20, 18), (20, 36), (6, 0), (20, 18), (22, 18), (20, 18), (20, 18), (20, 36), (6, 0), (20, 18), (22, 18), (20, 18), (20, 18), (20, 36), (6, 0), (20, 18), (22, 18), (20, 18), (20, 18), (20, 36), (6, 0), (20, 18), (22, 18), (20, 18), (20, 18), (20, 36), (6, 0), (20, 18), (22, 18), (20, 18), (20, 18), (20, 36), (6, 0), (20, 18), (22, 18), (20, 18), (20, 18), (20, 36), (6, 0), (20, 18), (22, 18), (20, 18), (20, 18), (20, 36), (6, 0), (20, 18), (22, 18), (20, 18), (20, 18), (20, 36), (6, 0), (20, 18), (22, 18), (20, 18), (20, 18), (20, 36), (6, 0), (20, 18), (22, 18), (20, 18), (20, 18), (20, 36), (6, 0), (20, 18), (22, 18), (20, 18), (20, 18), (20, 36), (6, 0), (20, 18), (22, 18), (20, 18), (20, 18), (20, 36), (6, 0), (20, 18), (22, 18), (20, 18), (20, 18), (20, 36), (6, 0), (20, 18), (22, 18), (20, 18), (20, 18), (20, 36), (6, 0), (20, 18), (22, 18), (20, 18), (20, 18), (20, 36), (25, 3), (6, 0), (20, 18), (22, 18), (20, 18), (20, 18), (20, 36), (6, 0), (20, 18), (22, 18), (20, 18), (20, 18), (20, 36), (6, 0), (20, 18), (22, 18), (20, 18), (20, 18), (20, 36), (22, 3), (10, 0), (20, 20), (22, 20), (4, 0), (20, 7), (20, 7), (20, 7), (24, 7), (20, 64), (20, 64), (20, 64), (20, 64), (20, 64), (20, 64), (20, 64), (20, 64), (4, 0), (20, 7), (20, 7), (20, 7), (24, 7), (20, 64), (20, 64), (20, 64), (20, 64), (20, 64), (20, 64), (20, 64), (20, 64), (5, 0), (24, 7), (20, 64), (20, 64), (20, 64), (20, 64), (20, 64), (20, 64), (20, 64), (20, 36), (20, 36), (0, 0), (24, 7), (20, 64), (20, 64), (20, 64), (20, 64), (20, 64), (20, 64), (20, 64), (24, 7), (20, 64), (20, 64), (20, 64), (20, 64), (20, 64), (20, 64), (20, 64), (20, 7), (20, 7), (20, 7), (20, 7), (12, 0), (21, 2000), (21, 2000), (20, 403), (20, 403), (20, 403), (23, 403), (23, 19), (20, 2), (20, 2), (20, 2), (20, 24), (20, 24), (20, 2), (20, 36), (20, 36), (20, 36), (20, 2), (20, 6), (20, 6), (22, 260), (20, 260), (20, 260), (20, 260), (20, 260), (20, 840), (20, 840), (22, 36), (20, 64), (20, 9), (20, 400), (20, 75), (20, 75), (22, 36), (20, 2), (22, 18), (20, 3000), (20, 2368), (20, 2368), (22, 36), (22, 36), (22, 36), (20, 36), (20, 49), (20, 49), (20, 20), (22, 20), (22, 3), (20, 225)]
def rT : List (List (Option Nat)) := [[some 1, some 29, some 3, some 16, some 34, some 40, some 46, some 308, some 311, some 324, some 337, some 348, some 367, some 368], [some 2, none], [], [none, none, none, none, none, some 4, some 5, some 6, some 7, some 8, some 9, some 10, some 11], [], [], [], [], [], [], [], [some 12, some 13, some 14, some 15, none], [], [], [], [], [none, none, none, none, none, some 17, some 18, some 19, some 20, some 21, some 22, some 23, some 24], [], [], [], [], [], [], [], [some 25, some 26, some 27, some 28, none], [], [], [], [], [some 1, some 30, some 16, none, none, none, none, none, none], [some 1, some 31, some 32, some 33, none], [], [], [], [some 35, some 36, some 37, some 38, some 39, none, none, none, none, none], [], [], [], [], [], [some 41, some 42, some 43, some 44, some 45, none, none, none, none, none], [], [], [], [], [], [some 47, some 288, some 307, none, none], [some 48, some 54, some 60, some 66, some 72, some 78, some 84, some 90, some 96, some 102, some 108, some 114, some 120, some 126, some 132, some 138, some 144, some 150, some 156, some 162, some 168, some 174, some 180, some 186, some 192, some 198, some 204, some 210, some 216, some 222, some 228, some 234, some 240, some 246, some 252, some 258, some 264, some 270, some 276, some 282], [some 49, some 50, some 51, some 52, some 53, none, none, none, none, none], [], [], [], [], [], [some 55, some 56, some 57, some 58, some 59, none, none, none, none, none], [], [], [], [], [], [some 61, some 62, some 63, some 64, some 65, none, none, none, none, none], [], [], [], [], [], [some 67, some 68, some 69, some 70, some 71, none, none, none, none, none], [], [], [], [], [], [some 73, some 74, some 75, some 76, some 77, none, none, none, none, none], [], [], [], [], [], [some 79, some 80, some 81, some 82, some 83, none, none, none, none, none], [], [], [], [], [], [some 85, some 86, some 87, some 88, some 89, none, none, none, none, none], [], [], [], [], [], [some 91, some 92, some 93, some 94, some 95, none, none, none, none, none], [], [], [], [], [], [some 97, some 98, some 99, some 100, some 101, none, none, none, none, none], [], [], [], [], [], [some 103, some 104, some 105, some 106, some 107, none, none, none, none, none], [], [], [], [], [], [some 109, some 110, some 111, some 112, some 113, none, none, none, none, none], [], [], [], [], [], [some 115, some 116, some 117, some 118, some 119, none, none, none, none, none], [], [], [], [], [], [some 121, some 122, some 123, some 124, some 125, none, none, none, none, none], [], [], [], [], [], [some 127, some 128, some 129, some 130, some 131, none, none, none, none, none], [], [], [], [], [], [some 133, some 134, some 135, some 136, some 137, none, none, none, none, none], [], [], [], [], [], [some 139, some 140, some 141, some 142, some 143, none, none, none, none, none], [], [], [], [], [], [some 145, some 146, some 147, some 148, some 149, none, none, none, none, none], [], [], [], [], [], [some 151, some 152, some 153, some 154, some 155, none, none, none, none, none], [], [], [], [], [], [some 157, some 158, some 159, some 160, some 161, none, none, none, none, none], [], [], [], [], [], [some 163, some 164, some 165, some 166, some 167, none, none, none, none, none], [], [], [], [], [], [some 169, some 170, some 171, some 172, some 173, none, none, none, none, none], [], [], [], [], [], [some 175, some 176, some 177, some 178, some 179, none, none, none, none, none], [], [], [], [], [], [some 181, some 182, some 183, some 184, some 185, none, none, none, none, none], [], [], [], [], [], [some 187, some 188, some 189, some 190, some 191, none, none, none, none, none], [], [], [], [], [], [some 193, some 194, some 195, some 196, some 197, none, none, none, none, none], [], [], [], [], [], [some 199, some 200, some 201, some 202, some 203, none, none, none, none, none], [], [], [], [], [], [some 205, some 206, some 207, some 208, some 209, none, none, none, none, none], [], [], [], [], [], [some 211, some 212, some 213, some 214, some 215, none, none, none, none, none], [], [], [], [], [], [some 217, some 218, some 219, some 220, some 221, none, none, none, none, none], [], [], [], [], [], [some 223, some 224, some 225, some 226, some 227, none, none, none, none, none], [], [], [], [], [], [some 229, some 230, some 231, some 232, some 233, none, none, none, none, none], [], [], [], [], [], [some 235, some 236, some 237, some 238, some 239, none, none, none, none, none], [], [], [], [], [], [some 241, some 242, some 243, some 244, some 245, none, none, none, none, none], [], [], [], [], [], [some 247, some 248, some 249, some 250, some 251, none, none, none, none, none], [], [], [], [], [], [some 253, some 254, some 255, some 256, some 257, none, none, none, none, none], [], [], [], [], [], [some 259, some 260, some 261, some 262, some 263, none, none, none, none, none], [], [], [], [], [], [some 265, some 266, some 267, some 268, some 269, none, none, none, none, none], [], [], [], [], [], [some 271, some 272, some 273, some 274, some 275, none, none, none, none, none], [], [], [], [], [], [some 277, some 278, some 279, some 280, some 281, none, none, none, none, none], [], [], [], [], [], [some 283, some 284, some 285, some 286, some 287, none, none, none, none, none], [], [], [], [], [], [some 289, some 295, some 301], [some 290, some 291, some 292, some 293, some 294, none, none, none, none, none], [], [], [], [], [], [some 296, some 297, some 298, some 299, some 300, none, none, none, none, none], [], [], [], [], [], [some 302, some 303, some 304, some 305, some 306, none, none, none, none, none], [], [], [], [], [], [], [some 309, some 310, none], [], [], [some 312, some 313, some 314, some 323, some 315, none, none, none], [], [], [], [some 316, some 317, some 318, some 319, some 320, some 321, some 322], [], [], [], [], [], [], [], [], [some 325, some 326, some 327, some 336, some 328, none, none, none], [], [], [], [some 329, some 330, some 331, some 332, some 333, some 334, some 335], [], [], [], [], [], [], [], [], [some 338, some 346, some 347, none], [some 339, some 340, some 341, some 342, some 343, some 344, some 345], [], [], [], [], [], [], [], [], [], [some 349, some 357, some 365, some 366], [some 350, some 351, some 352, some 353, some 354, some 355, some 356], [], [], [], [], [], [], [], [some 358, some 359, some 360, some 361, some 362, some 363, some 364], [], [], [], [], [], [], [], [], [], [], [], [none, some 370, none, some 371, none, some 372, some 373, some 374, some 375, some 376, none, none, none, none, none, none, none, none, none, none, some 377, some 378, some 379, some 380, some 381, some 382, some 383, some 384, some 385, some 386, some 387, some 388, none, some 389, some 390, some 391, some 392, some 393, none, some 394, some 395, some 396, some 397, none, some 398, some 399, none, some 400, some 401, none, some 402, some 403, some 404, none, some 405, some 406, some 407, some 408, some 409, some 410, some 411, some 412, some 413, none, some 414, some 415, some 416, some 417], [], [], [], [], [], [], [], [], [], [], [], [], [], [], [], [], [], [], [], [], [], [], [], [], [], [], [], [], [], [], [], [], [], [], [], [], [], [], [], [], [], [], [], [], [], [], [], []]
def K0 (a : Nat) : Nat × Nat := kT.getD a (0, 0)
def rF (a j : Nat) : Option Nat := (rT.getD a []).getD j none
/-- t the text that is in place, d the draft, rt the reader's -/
def R0 (t d rt : Nat) (a j : Nat) : Option Nat := if a = 0 ∧ j = 2 then some t else if a = 0 ∧ j = 3 then some d else if a = 29 ∧ j = 2 then some rt else rF a j
def mm (t d rt : Nat) (I : Nat → Nat → Int) : jMem := ((418, K0), I, R0 t d rt)
def up (I : Nat → Nat → Int) (a j : Nat) (v : Int) : Nat → Nat → Int := fun x y => if x = a ∧ y = j then v else I x y
def stL : List Nat := [34, 40, 48, 54, 60, 66, 72, 78, 84, 90, 96, 102, 108, 114, 120, 126, 132, 138, 144, 150, 156, 162, 168, 174, 180, 186, 192, 198, 204, 210, 216, 222, 228, 234, 240, 246, 252, 258, 264, 270, 276, 282, 289, 295, 301]
theorem up_s (I : Nat → Nat → Int) (a j : Nat) (v : Int) : up I a j v a j = v := by simp [up]
theorem up_n {I : Nat → Nat → Int} {a j x y : Nat} {v : Int} (h : x ≠ a ∨ y ≠ j) : up I a j v x y = I x y := by
  unfold up
  rw [if_neg]
  rintro ⟨rfl, rfl⟩
  rcases h with h | h <;> exact h rfl
section MM
variable {t d rt : Nat} {I : Nat → Nat → Int}
theorem mm_N : jN (mm t d rt I) = 418 := rfl
theorem mm_K (a : Nat) : jK (mm t d rt I) a = K0 a := rfl
theorem mm_I (a j : Nat) : jI (mm t d rt I) a j = I a j := rfl
theorem mm_R (a j : Nat) : jR (mm t d rt I) a j = R0 t d rt a j := rfl
theorem mm_sI (a j : Nat) (v : Int) : jsI (mm t d rt I) a j v = mm t d rt (up I a j v) := rfl
theorem R0_f {a j : Nat} (h0 : a ≠ 0 ∨ (j ≠ 2 ∧ j ≠ 3)) (h1 : a ≠ 29 ∨ j ≠ 2) : R0 t d rt a j = rF a j := by
  unfold R0
  rw [if_neg (by omega), if_neg (by omega), if_neg (by omega)]
theorem mm_gI {ci k a : Nat} (h : (K0 a).1 = ci ∧ a < 418) : jm_gI ci k (mm t d rt I) a = some (I a k) := by unfold jm_gI; rw [mm_K, mm_N, if_pos h]; rfl
theorem mm_gR {ci k a v : Nat} (h : (K0 a).1 = ci ∧ a < 418) (hr : R0 t d rt a k = some v) : jm_gR ci k (mm t d rt I) a = some v := by unfold jm_gR; rw [mm_K, mm_N, if_pos h]; exact hr
theorem mm_pI {ci k a : Nat} {v : Int} (h : (K0 a).1 = ci ∧ a < 418) : jm_pI ci k (mm t d rt I) a v = some (mm t d rt (up I a k v)) := by unfold jm_pI; rw [mm_K, mm_N, if_pos h]; rfl
theorem mm_pZ {ci k a : Nat} {v : Int} (h : (K0 a).1 = ci ∧ a < 418) (hv : jd_wr v = 0 ∨ jd_wr v = 1) : jm_pZ ci k (mm t d rt I) a v = some (mm t d rt (up I a k v)) := by unfold jm_pZ; rw [mm_K, mm_N, if_pos ⟨h, hv⟩]; rfl
theorem mm_call {β : Type} {ci a : Nat} {x : Option (Int × jMem)} {f : Int → jMem → Option β} (h : (K0 a).1 = ci ∧ a < 418) : jcall ci (mm t d rt I) a x f = jbd x f := by unfold jcall; rw [mm_K, mm_N, if_pos h]
theorem mm_ld {ty n a : Nat} {i : Int} {m : Int} (h : K0 a = (ty, n)) (ha : a < 418) (hm : (n : Int) = m) : jm_ld ty (mm t d rt I) a i = if 0 ≤ jd_wr i ∧ jd_wr i < m then some (I a (jd_wr i).toNat) else none := by
  unfold jm_ld
  rw [mm_K, mm_N, h, hm]
  by_cases c : 0 ≤ jd_wr i ∧ jd_wr i < m
  · rw [if_pos c, if_pos ⟨⟨rfl, ha⟩, c⟩]; rfl
  · rw [if_neg c, if_neg (fun z => c z.2)]
theorem mm_ldR {ty n a : Nat} {i : Int} {m : Int} (h : K0 a = (ty, n)) (ha : a < 418) (hm : (n : Int) = m) : jm_ldR ty (mm t d rt I) a i = if 0 ≤ jd_wr i ∧ jd_wr i < m then R0 t d rt a (jd_wr i).toNat else none := by
  unfold jm_ldR
  rw [mm_K, mm_N, h, hm]
  by_cases c : 0 ≤ jd_wr i ∧ jd_wr i < m
  · rw [if_pos c, if_pos ⟨⟨rfl, ha⟩, c⟩]; rfl
  · rw [if_neg c, if_neg (fun z => c z.2)]
theorem mm_st {ty n a : Nat} {i v : Int} {m : Int} (h : K0 a = (ty, n)) (ha : a < 418) (hm : (n : Int) = m) : jm_st ty (mm t d rt I) a i v = if 0 ≤ jd_wr i ∧ jd_wr i < m then some (mm t d rt (up I a (jd_wr i).toNat v)) else none := by
  unfold jm_st
  rw [mm_K, mm_N, h, hm]
  by_cases c : 0 ≤ jd_wr i ∧ jd_wr i < m
  · rw [if_pos c, if_pos ⟨⟨rfl, ha⟩, c⟩]; rfl
  · rw [if_neg c, if_neg (fun z => c z.2)]
end MM
/-! numbers that 32 bits hold -/
theorem wr_id {x : Int} (h1 : -2147483648 ≤ x) (h2 : x < 2147483648) : jd_wr x = x := by
  unfold jd_wr
  rw [Int32.toInt_ofInt, show (Int32.size : Nat) = 4294967296 from rfl, Int.bmod_eq_of_le] <;> omega
theorem wr_lo (x : Int) : -2147483648 ≤ jd_wr x := Int32.le_toInt _
theorem wr_hi (x : Int) : jd_wr x < 2147483648 := Int32.toInt_lt _
theorem wr_wr (x : Int) : jd_wr (jd_wr x) = jd_wr x := wr_id (wr_lo x) (wr_hi x)
theorem wr_n (n : Nat) (h : n < 2147483648) : jd_wr (n : Int) = n := wr_id (by omega) (by omega)
/-- a loop whose states are known one by one -/
theorem jlp1_seq {A0 ρ : Type} {body : (A0 → Option ρ) → A0 → Option ρ} (a0 : Nat → A0) (n : Nat) (out : Option ρ) (hs : ∀ i, i < n → ∀ rec, body rec (a0 i) = rec (a0 (i + 1))) (he : ∀ rec, body rec (a0 n) = out) : ∀ fuel, n < fuel → jlp1 body fuel (a0 0) = out := by
  have key : ∀ k i fuel, i + k = n → k < fuel → jlp1 body fuel (a0 i) = out := by
    intro k
    induction k with
    | zero =>
      intro i fuel hi hf
      obtain ⟨f, rfl⟩ : ∃ f, fuel = f + 1 := ⟨fuel - 1, by omega⟩
      obtain rfl : i = n := by omega
      rw [jlp1_s]; exact he _
    | succ k ih =>
      intro i fuel hi hf
      obtain ⟨f, rfl⟩ : ∃ f, fuel = f + 1 := ⟨fuel - 1, by omega⟩
      rw [jlp1_s, hs i (by omega)]
      exact ih (i + 1) f (by omega) (by omega)
  exact fun fuel hf => key n 0 fuel (by omega) hf
/-- a loop that ends by a measure, with what it answers from each state on -/
theorem jlp1_run {A0 ρ : Type} {body : (A0 → Option ρ) → A0 → Option ρ} (P : A0 → Prop) (μ : A0 → Nat) (out : A0 → Option ρ) (hs : ∀ (a0 : A0), P a0 → (∀ rec, body rec a0 = out a0) ∨ ∃ (a0' : A0), P a0' ∧ μ a0' < μ a0 ∧ out a0 = out a0' ∧ ∀ rec, body rec a0 = rec a0') : ∀ fuel (a0 : A0), P a0 → μ a0 < fuel → jlp1 body fuel a0 = out a0 := by
  intro fuel
  induction fuel with
  | zero => intro a0 hP hm; omega
  | succ f ih =>
    intro a0 hP hm
    rw [jlp1_s]
    rcases hs a0 hP with h | ⟨a0', h1, h2, h3, h4⟩
    · exact h _
    · rw [h4, h3]
      exact ih a0' h1 (by omega)
/-- a loop by an invariant, n times around -/
theorem jlp1_inv {A0 ρ : Type} {body : (A0 → Option ρ) → A0 → Option ρ} (Inv : Nat → A0 → Prop) (Post : ρ → Prop) (n : Nat) (hs : ∀ i, i < n → ∀ (a0 : A0), Inv i a0 → ∃ (a0' : A0), Inv (i + 1) a0' ∧ ∀ rec, body rec a0 = rec a0') (he : ∀ (a0 : A0), Inv n a0 → ∃ r, Post r ∧ ∀ rec, body rec a0 = some r) : ∀ fuel (a0 : A0), n < fuel → Inv 0 a0 → ∃ r, jlp1 body fuel a0 = some r ∧ Post r := by
  have key : ∀ k i fuel (a0 : A0), i + k = n → k < fuel → Inv i a0 → ∃ r, jlp1 body fuel a0 = some r ∧ Post r := by
    intro k
    induction k with
    | zero =>
      intro i fuel a0 hi hf hI
      obtain ⟨f, rfl⟩ : ∃ f, fuel = f + 1 := ⟨fuel - 1, by omega⟩
      obtain rfl : i = n := by omega
      obtain ⟨r, h1, h2⟩ := he a0 hI
      exact ⟨r, by rw [jlp1_s]; exact h2 _, h1⟩
    | succ k ih =>
      intro i fuel a0 hi hf hI
      obtain ⟨f, rfl⟩ : ∃ f, fuel = f + 1 := ⟨fuel - 1, by omega⟩
      obtain ⟨a0', h1, h2⟩ := hs i (by omega) a0 hI
      rw [jlp1_s, h2]
      exact ih (i + 1) f a0' (by omega) (by omega) h1
  exact fun fuel a0 hf hI => key n 0 fuel a0 (by omega) hf hI
/-- a loop whose states are known one by one -/
theorem jlp2_seq {A0 A1 ρ : Type} {body : (A0 → A1 → Option ρ) → A0 → A1 → Option ρ} (a0 : Nat → A0) (a1 : Nat → A1) (n : Nat) (out : Option ρ) (hs : ∀ i, i < n → ∀ rec, body rec (a0 i) (a1 i) = rec (a0 (i + 1)) (a1 (i + 1))) (he : ∀ rec, body rec (a0 n) (a1 n) = out) : ∀ fuel, n < fuel → jlp2 body fuel (a0 0) (a1 0) = out := by
  have key : ∀ k i fuel, i + k = n → k < fuel → jlp2 body fuel (a0 i) (a1 i) = out := by
    intro k
    induction k with
    | zero =>
      intro i fuel hi hf
      obtain ⟨f, rfl⟩ : ∃ f, fuel = f + 1 := ⟨fuel - 1, by omega⟩
      obtain rfl : i = n := by omega
      rw [jlp2_s]; exact he _
    | succ k ih =>
      intro i fuel hi hf
      obtain ⟨f, rfl⟩ : ∃ f, fuel = f + 1 := ⟨fuel - 1, by omega⟩
      rw [jlp2_s, hs i (by omega)]
      exact ih (i + 1) f (by omega) (by omega)
  exact fun fuel hf => key n 0 fuel (by omega) hf
/-- a loop that ends by a measure, with what it answers from each state on -/
theorem jlp2_run {A0 A1 ρ : Type} {body : (A0 → A1 → Option ρ) → A0 → A1 → Option ρ} (P : A0 → A1 → Prop) (μ : A0 → A1 → Nat) (out : A0 → A1 → Option ρ) (hs : ∀ (a0 : A0) (a1 : A1), P a0 a1 → (∀ rec, body rec a0 a1 = out a0 a1) ∨ ∃ (a0' : A0) (a1' : A1), P a0' a1' ∧ μ a0' a1' < μ a0 a1 ∧ out a0 a1 = out a0' a1' ∧ ∀ rec, body rec a0 a1 = rec a0' a1') : ∀ fuel (a0 : A0) (a1 : A1), P a0 a1 → μ a0 a1 < fuel → jlp2 body fuel a0 a1 = out a0 a1 := by
  intro fuel
  induction fuel with
  | zero => intro a0 a1 hP hm; omega
  | succ f ih =>
    intro a0 a1 hP hm
    rw [jlp2_s]
    rcases hs a0 a1 hP with h | ⟨a0', a1', h1, h2, h3, h4⟩
    · exact h _
    · rw [h4, h3]
      exact ih a0' a1' h1 (by omega)
/-- a loop by an invariant, n times around -/
theorem jlp2_inv {A0 A1 ρ : Type} {body : (A0 → A1 → Option ρ) → A0 → A1 → Option ρ} (Inv : Nat → A0 → A1 → Prop) (Post : ρ → Prop) (n : Nat) (hs : ∀ i, i < n → ∀ (a0 : A0) (a1 : A1), Inv i a0 a1 → ∃ (a0' : A0) (a1' : A1), Inv (i + 1) a0' a1' ∧ ∀ rec, body rec a0 a1 = rec a0' a1') (he : ∀ (a0 : A0) (a1 : A1), Inv n a0 a1 → ∃ r, Post r ∧ ∀ rec, body rec a0 a1 = some r) : ∀ fuel (a0 : A0) (a1 : A1), n < fuel → Inv 0 a0 a1 → ∃ r, jlp2 body fuel a0 a1 = some r ∧ Post r := by
  have key : ∀ k i fuel (a0 : A0) (a1 : A1), i + k = n → k < fuel → Inv i a0 a1 → ∃ r, jlp2 body fuel a0 a1 = some r ∧ Post r := by
    intro k
    induction k with
    | zero =>
      intro i fuel a0 a1 hi hf hI
      obtain ⟨f, rfl⟩ : ∃ f, fuel = f + 1 := ⟨fuel - 1, by omega⟩
      obtain rfl : i = n := by omega
      obtain ⟨r, h1, h2⟩ := he a0 a1 hI
      exact ⟨r, by rw [jlp2_s]; exact h2 _, h1⟩
    | succ k ih =>
      intro i fuel a0 a1 hi hf hI
      obtain ⟨f, rfl⟩ : ∃ f, fuel = f + 1 := ⟨fuel - 1, by omega⟩
      obtain ⟨a0', a1', h1, h2⟩ := hs i (by omega) a0 a1 hI
      rw [jlp2_s, h2]
      exact ih (i + 1) f a0' a1' (by omega) (by omega) h1
  exact fun fuel a0 a1 hf hI => key n 0 fuel a0 a1 (by omega) hf hI
/-- a loop whose states are known one by one -/
theorem jlp3_seq {A0 A1 A2 ρ : Type} {body : (A0 → A1 → A2 → Option ρ) → A0 → A1 → A2 → Option ρ} (a0 : Nat → A0) (a1 : Nat → A1) (a2 : Nat → A2) (n : Nat) (out : Option ρ) (hs : ∀ i, i < n → ∀ rec, body rec (a0 i) (a1 i) (a2 i) = rec (a0 (i + 1)) (a1 (i + 1)) (a2 (i + 1))) (he : ∀ rec, body rec (a0 n) (a1 n) (a2 n) = out) : ∀ fuel, n < fuel → jlp3 body fuel (a0 0) (a1 0) (a2 0) = out := by
  have key : ∀ k i fuel, i + k = n → k < fuel → jlp3 body fuel (a0 i) (a1 i) (a2 i) = out := by
    intro k
    induction k with
    | zero =>
      intro i fuel hi hf
      obtain ⟨f, rfl⟩ : ∃ f, fuel = f + 1 := ⟨fuel - 1, by omega⟩
      obtain rfl : i = n := by omega
      rw [jlp3_s]; exact he _
    | succ k ih =>
      intro i fuel hi hf
      obtain ⟨f, rfl⟩ : ∃ f, fuel = f + 1 := ⟨fuel - 1, by omega⟩
      rw [jlp3_s, hs i (by omega)]
      exact ih (i + 1) f (by omega) (by omega)
  exact fun fuel hf => key n 0 fuel (by omega) hf
/-- a loop that ends by a measure, with what it answers from each state on -/
theorem jlp3_run {A0 A1 A2 ρ : Type} {body : (A0 → A1 → A2 → Option ρ) → A0 → A1 → A2 → Option ρ} (P : A0 → A1 → A2 → Prop) (μ : A0 → A1 → A2 → Nat) (out : A0 → A1 → A2 → Option ρ) (hs : ∀ (a0 : A0) (a1 : A1) (a2 : A2), P a0 a1 a2 → (∀ rec, body rec a0 a1 a2 = out a0 a1 a2) ∨ ∃ (a0' : A0) (a1' : A1) (a2' : A2), P a0' a1' a2' ∧ μ a0' a1' a2' < μ a0 a1 a2 ∧ out a0 a1 a2 = out a0' a1' a2' ∧ ∀ rec, body rec a0 a1 a2 = rec a0' a1' a2') : ∀ fuel (a0 : A0) (a1 : A1) (a2 : A2), P a0 a1 a2 → μ a0 a1 a2 < fuel → jlp3 body fuel a0 a1 a2 = out a0 a1 a2 := by
  intro fuel
  induction fuel with
  | zero => intro a0 a1 a2 hP hm; omega
  | succ f ih =>
    intro a0 a1 a2 hP hm
    rw [jlp3_s]
    rcases hs a0 a1 a2 hP with h | ⟨a0', a1', a2', h1, h2, h3, h4⟩
    · exact h _
    · rw [h4, h3]
      exact ih a0' a1' a2' h1 (by omega)
/-- a loop by an invariant, n times around -/
theorem jlp3_inv {A0 A1 A2 ρ : Type} {body : (A0 → A1 → A2 → Option ρ) → A0 → A1 → A2 → Option ρ} (Inv : Nat → A0 → A1 → A2 → Prop) (Post : ρ → Prop) (n : Nat) (hs : ∀ i, i < n → ∀ (a0 : A0) (a1 : A1) (a2 : A2), Inv i a0 a1 a2 → ∃ (a0' : A0) (a1' : A1) (a2' : A2), Inv (i + 1) a0' a1' a2' ∧ ∀ rec, body rec a0 a1 a2 = rec a0' a1' a2') (he : ∀ (a0 : A0) (a1 : A1) (a2 : A2), Inv n a0 a1 a2 → ∃ r, Post r ∧ ∀ rec, body rec a0 a1 a2 = some r) : ∀ fuel (a0 : A0) (a1 : A1) (a2 : A2), n < fuel → Inv 0 a0 a1 a2 → ∃ r, jlp3 body fuel a0 a1 a2 = some r ∧ Post r := by
  have key : ∀ k i fuel (a0 : A0) (a1 : A1) (a2 : A2), i + k = n → k < fuel → Inv i a0 a1 a2 → ∃ r, jlp3 body fuel a0 a1 a2 = some r ∧ Post r := by
    intro k
    induction k with
    | zero =>
      intro i fuel a0 a1 a2 hi hf hI
      obtain ⟨f, rfl⟩ : ∃ f, fuel = f + 1 := ⟨fuel - 1, by omega⟩
      obtain rfl : i = n := by omega
      obtain ⟨r, h1, h2⟩ := he a0 a1 a2 hI
      exact ⟨r, by rw [jlp3_s]; exact h2 _, h1⟩
    | succ k ih =>
      intro i fuel a0 a1 a2 hi hf hI
      obtain ⟨f, rfl⟩ : ∃ f, fuel = f + 1 := ⟨fuel - 1, by omega⟩
      obtain ⟨a0', a1', a2', h1, h2⟩ := hs i (by omega) a0 a1 a2 hI
      rw [jlp3_s, h2]
      exact ih (i + 1) f a0' a1' a2' (by omega) (by omega) h1
  exact fun fuel a0 a1 a2 hf hI => key n 0 fuel a0 a1 a2 (by omega) hf hI
/-- a loop whose states are known one by one -/
theorem jlp4_seq {A0 A1 A2 A3 ρ : Type} {body : (A0 → A1 → A2 → A3 → Option ρ) → A0 → A1 → A2 → A3 → Option ρ} (a0 : Nat → A0) (a1 : Nat → A1) (a2 : Nat → A2) (a3 : Nat → A3) (n : Nat) (out : Option ρ) (hs : ∀ i, i < n → ∀ rec, body rec (a0 i) (a1 i) (a2 i) (a3 i) = rec (a0 (i + 1)) (a1 (i + 1)) (a2 (i + 1)) (a3 (i + 1))) (he : ∀ rec, body rec (a0 n) (a1 n) (a2 n) (a3 n) = out) : ∀ fuel, n < fuel → jlp4 body fuel (a0 0) (a1 0) (a2 0) (a3 0) = out := by
  have key : ∀ k i fuel, i + k = n → k < fuel → jlp4 body fuel (a0 i) (a1 i) (a2 i) (a3 i) = out := by
    intro k
    induction k with
    | zero =>
      intro i fuel hi hf
      obtain ⟨f, rfl⟩ : ∃ f, fuel = f + 1 := ⟨fuel - 1, by omega⟩
      obtain rfl : i = n := by omega
      rw [jlp4_s]; exact he _
    | succ k ih =>
      intro i fuel hi hf
      obtain ⟨f, rfl⟩ : ∃ f, fuel = f + 1 := ⟨fuel - 1, by omega⟩
      rw [jlp4_s, hs i (by omega)]
      exact ih (i + 1) f (by omega) (by omega)
  exact fun fuel hf => key n 0 fuel (by omega) hf
/-- a loop that ends by a measure, with what it answers from each state on -/
theorem jlp4_run {A0 A1 A2 A3 ρ : Type} {body : (A0 → A1 → A2 → A3 → Option ρ) → A0 → A1 → A2 → A3 → Option ρ} (P : A0 → A1 → A2 → A3 → Prop) (μ : A0 → A1 → A2 → A3 → Nat) (out : A0 → A1 → A2 → A3 → Option ρ) (hs : ∀ (a0 : A0) (a1 : A1) (a2 : A2) (a3 : A3), P a0 a1 a2 a3 → (∀ rec, body rec a0 a1 a2 a3 = out a0 a1 a2 a3) ∨ ∃ (a0' : A0) (a1' : A1) (a2' : A2) (a3' : A3), P a0' a1' a2' a3' ∧ μ a0' a1' a2' a3' < μ a0 a1 a2 a3 ∧ out a0 a1 a2 a3 = out a0' a1' a2' a3' ∧ ∀ rec, body rec a0 a1 a2 a3 = rec a0' a1' a2' a3') : ∀ fuel (a0 : A0) (a1 : A1) (a2 : A2) (a3 : A3), P a0 a1 a2 a3 → μ a0 a1 a2 a3 < fuel → jlp4 body fuel a0 a1 a2 a3 = out a0 a1 a2 a3 := by
  intro fuel
  induction fuel with
  | zero => intro a0 a1 a2 a3 hP hm; omega
  | succ f ih =>
    intro a0 a1 a2 a3 hP hm
    rw [jlp4_s]
    rcases hs a0 a1 a2 a3 hP with h | ⟨a0', a1', a2', a3', h1, h2, h3, h4⟩
    · exact h _
    · rw [h4, h3]
      exact ih a0' a1' a2' a3' h1 (by omega)
/-- a loop by an invariant, n times around -/
theorem jlp4_inv {A0 A1 A2 A3 ρ : Type} {body : (A0 → A1 → A2 → A3 → Option ρ) → A0 → A1 → A2 → A3 → Option ρ} (Inv : Nat → A0 → A1 → A2 → A3 → Prop) (Post : ρ → Prop) (n : Nat) (hs : ∀ i, i < n → ∀ (a0 : A0) (a1 : A1) (a2 : A2) (a3 : A3), Inv i a0 a1 a2 a3 → ∃ (a0' : A0) (a1' : A1) (a2' : A2) (a3' : A3), Inv (i + 1) a0' a1' a2' a3' ∧ ∀ rec, body rec a0 a1 a2 a3 = rec a0' a1' a2' a3') (he : ∀ (a0 : A0) (a1 : A1) (a2 : A2) (a3 : A3), Inv n a0 a1 a2 a3 → ∃ r, Post r ∧ ∀ rec, body rec a0 a1 a2 a3 = some r) : ∀ fuel (a0 : A0) (a1 : A1) (a2 : A2) (a3 : A3), n < fuel → Inv 0 a0 a1 a2 a3 → ∃ r, jlp4 body fuel a0 a1 a2 a3 = some r ∧ Post r := by
  have key : ∀ k i fuel (a0 : A0) (a1 : A1) (a2 : A2) (a3 : A3), i + k = n → k < fuel → Inv i a0 a1 a2 a3 → ∃ r, jlp4 body fuel a0 a1 a2 a3 = some r ∧ Post r := by
    intro k
    induction k with
    | zero =>
      intro i fuel a0 a1 a2 a3 hi hf hI
      obtain ⟨f, rfl⟩ : ∃ f, fuel = f + 1 := ⟨fuel - 1, by omega⟩
      obtain rfl : i = n := by omega
      obtain ⟨r, h1, h2⟩ := he a0 a1 a2 a3 hI
      exact ⟨r, by rw [jlp4_s]; exact h2 _, h1⟩
    | succ k ih =>
      intro i fuel a0 a1 a2 a3 hi hf hI
      obtain ⟨f, rfl⟩ : ∃ f, fuel = f + 1 := ⟨fuel - 1, by omega⟩
      obtain ⟨a0', a1', a2', a3', h1, h2⟩ := hs i (by omega) a0 a1 a2 a3 hI
      rw [jlp4_s, h2]
      exact ih (i + 1) f a0' a1' a2' a3' (by omega) (by omega) h1
  exact fun fuel a0 a1 a2 a3 hf hI => key n 0 fuel a0 a1 a2 a3 (by omega) hf hI
/-- a loop whose states are known one by one -/
theorem jlp5_seq {A0 A1 A2 A3 A4 ρ : Type} {body : (A0 → A1 → A2 → A3 → A4 → Option ρ) → A0 → A1 → A2 → A3 → A4 → Option ρ} (a0 : Nat → A0) (a1 : Nat → A1) (a2 : Nat → A2) (a3 : Nat → A3) (a4 : Nat → A4) (n : Nat) (out : Option ρ) (hs : ∀ i, i < n → ∀ rec, body rec (a0 i) (a1 i) (a2 i) (a3 i) (a4 i) = rec (a0 (i + 1)) (a1 (i + 1)) (a2 (i + 1)) (a3 (i + 1)) (a4 (i + 1))) (he : ∀ rec, body rec (a0 n) (a1 n) (a2 n) (a3 n) (a4 n) = out) : ∀ fuel, n < fuel → jlp5 body fuel (a0 0) (a1 0) (a2 0) (a3 0) (a4 0) = out := by
  have key : ∀ k i fuel, i + k = n → k < fuel → jlp5 body fuel (a0 i) (a1 i) (a2 i) (a3 i) (a4 i) = out := by
    intro k
    induction k with
    | zero =>
      intro i fuel hi hf
      obtain ⟨f, rfl⟩ : ∃ f, fuel = f + 1 := ⟨fuel - 1, by omega⟩
      obtain rfl : i = n := by omega
      rw [jlp5_s]; exact he _
    | succ k ih =>
      intro i fuel hi hf
      obtain ⟨f, rfl⟩ : ∃ f, fuel = f + 1 := ⟨fuel - 1, by omega⟩
      rw [jlp5_s, hs i (by omega)]
      exact ih (i + 1) f (by omega) (by omega)
  exact fun fuel hf => key n 0 fuel (by omega) hf
/-- a loop that ends by a measure, with what it answers from each state on -/
theorem jlp5_run {A0 A1 A2 A3 A4 ρ : Type} {body : (A0 → A1 → A2 → A3 → A4 → Option ρ) → A0 → A1 → A2 → A3 → A4 → Option ρ} (P : A0 → A1 → A2 → A3 → A4 → Prop) (μ : A0 → A1 → A2 → A3 → A4 → Nat) (out : A0 → A1 → A2 → A3 → A4 → Option ρ) (hs : ∀ (a0 : A0) (a1 : A1) (a2 : A2) (a3 : A3) (a4 : A4), P a0 a1 a2 a3 a4 → (∀ rec, body rec a0 a1 a2 a3 a4 = out a0 a1 a2 a3 a4) ∨ ∃ (a0' : A0) (a1' : A1) (a2' : A2) (a3' : A3) (a4' : A4), P a0' a1' a2' a3' a4' ∧ μ a0' a1' a2' a3' a4' < μ a0 a1 a2 a3 a4 ∧ out a0 a1 a2 a3 a4 = out a0' a1' a2' a3' a4' ∧ ∀ rec, body rec a0 a1 a2 a3 a4 = rec a0' a1' a2' a3' a4') : ∀ fuel (a0 : A0) (a1 : A1) (a2 : A2) (a3 : A3) (a4 : A4), P a0 a1 a2 a3 a4 → μ a0 a1 a2 a3 a4 < fuel → jlp5 body fuel a0 a1 a2 a3 a4 = out a0 a1 a2 a3 a4 := by
  intro fuel
  induction fuel with
  | zero => intro a0 a1 a2 a3 a4 hP hm; omega
  | succ f ih =>
    intro a0 a1 a2 a3 a4 hP hm
    rw [jlp5_s]
    rcases hs a0 a1 a2 a3 a4 hP with h | ⟨a0', a1', a2', a3', a4', h1, h2, h3, h4⟩
    · exact h _
    · rw [h4, h3]
      exact ih a0' a1' a2' a3' a4' h1 (by omega)
/-- a loop by an invariant, n times around -/
theorem jlp5_inv {A0 A1 A2 A3 A4 ρ : Type} {body : (A0 → A1 → A2 → A3 → A4 → Option ρ) → A0 → A1 → A2 → A3 → A4 → Option ρ} (Inv : Nat → A0 → A1 → A2 → A3 → A4 → Prop) (Post : ρ → Prop) (n : Nat) (hs : ∀ i, i < n → ∀ (a0 : A0) (a1 : A1) (a2 : A2) (a3 : A3) (a4 : A4), Inv i a0 a1 a2 a3 a4 → ∃ (a0' : A0) (a1' : A1) (a2' : A2) (a3' : A3) (a4' : A4), Inv (i + 1) a0' a1' a2' a3' a4' ∧ ∀ rec, body rec a0 a1 a2 a3 a4 = rec a0' a1' a2' a3' a4') (he : ∀ (a0 : A0) (a1 : A1) (a2 : A2) (a3 : A3) (a4 : A4), Inv n a0 a1 a2 a3 a4 → ∃ r, Post r ∧ ∀ rec, body rec a0 a1 a2 a3 a4 = some r) : ∀ fuel (a0 : A0) (a1 : A1) (a2 : A2) (a3 : A3) (a4 : A4), n < fuel → Inv 0 a0 a1 a2 a3 a4 → ∃ r, jlp5 body fuel a0 a1 a2 a3 a4 = some r ∧ Post r := by
  have key : ∀ k i fuel (a0 : A0) (a1 : A1) (a2 : A2) (a3 : A3) (a4 : A4), i + k = n → k < fuel → Inv i a0 a1 a2 a3 a4 → ∃ r, jlp5 body fuel a0 a1 a2 a3 a4 = some r ∧ Post r := by
    intro k
    induction k with
    | zero =>
      intro i fuel a0 a1 a2 a3 a4 hi hf hI
      obtain ⟨f, rfl⟩ : ∃ f, fuel = f + 1 := ⟨fuel - 1, by omega⟩
      obtain rfl : i = n := by omega
      obtain ⟨r, h1, h2⟩ := he a0 a1 a2 a3 a4 hI
      exact ⟨r, by rw [jlp5_s]; exact h2 _, h1⟩
    | succ k ih =>
      intro i fuel a0 a1 a2 a3 a4 hi hf hI
      obtain ⟨f, rfl⟩ : ∃ f, fuel = f + 1 := ⟨fuel - 1, by omega⟩
      obtain ⟨a0', a1', a2', a3', a4', h1, h2⟩ := hs i (by omega) a0 a1 a2 a3 a4 hI
      rw [jlp5_s, h2]
      exact ih (i + 1) f a0' a1' a2' a3' a4' (by omega) (by omega) h1
  exact fun fuel a0 a1 a2 a3 a4 hf hI => key n 0 fuel a0 a1 a2 a3 a4 (by omega) hf hI
/-- a loop whose states are known one by one -/
theorem jlp6_seq {A0 A1 A2 A3 A4 A5 ρ : Type} {body : (A0 → A1 → A2 → A3 → A4 → A5 → Option ρ) → A0 → A1 → A2 → A3 → A4 → A5 → Option ρ} (a0 : Nat → A0) (a1 : Nat → A1) (a2 : Nat → A2) (a3 : Nat → A3) (a4 : Nat → A4) (a5 : Nat → A5) (n : Nat) (out : Option ρ) (hs : ∀ i, i < n → ∀ rec, body rec (a0 i) (a1 i) (a2 i) (a3 i) (a4 i) (a5 i) = rec (a0 (i + 1)) (a1 (i + 1)) (a2 (i + 1)) (a3 (i + 1)) (a4 (i + 1)) (a5 (i + 1))) (he : ∀ rec, body rec (a0 n) (a1 n) (a2 n) (a3 n) (a4 n) (a5 n) = out) : ∀ fuel, n < fuel → jlp6 body fuel (a0 0) (a1 0) (a2 0) (a3 0) (a4 0) (a5 0) = out := by
  have key : ∀ k i fuel, i + k = n → k < fuel → jlp6 body fuel (a0 i) (a1 i) (a2 i) (a3 i) (a4 i) (a5 i) = out := by
    intro k
    induction k with
    | zero =>
      intro i fuel hi hf
      obtain ⟨f, rfl⟩ : ∃ f, fuel = f + 1 := ⟨fuel - 1, by omega⟩
      obtain rfl : i = n := by omega
      rw [jlp6_s]; exact he _
    | succ k ih =>
      intro i fuel hi hf
      obtain ⟨f, rfl⟩ : ∃ f, fuel = f + 1 := ⟨fuel - 1, by omega⟩
      rw [jlp6_s, hs i (by omega)]
      exact ih (i + 1) f (by omega) (by omega)
  exact fun fuel hf => key n 0 fuel (by omega) hf
/-- a loop that ends by a measure, with what it answers from each state on -/
theorem jlp6_run {A0 A1 A2 A3 A4 A5 ρ : Type} {body : (A0 → A1 → A2 → A3 → A4 → A5 → Option ρ) → A0 → A1 → A2 → A3 → A4 → A5 → Option ρ} (P : A0 → A1 → A2 → A3 → A4 → A5 → Prop) (μ : A0 → A1 → A2 → A3 → A4 → A5 → Nat) (out : A0 → A1 → A2 → A3 → A4 → A5 → Option ρ) (hs : ∀ (a0 : A0) (a1 : A1) (a2 : A2) (a3 : A3) (a4 : A4) (a5 : A5), P a0 a1 a2 a3 a4 a5 → (∀ rec, body rec a0 a1 a2 a3 a4 a5 = out a0 a1 a2 a3 a4 a5) ∨ ∃ (a0' : A0) (a1' : A1) (a2' : A2) (a3' : A3) (a4' : A4) (a5' : A5), P a0' a1' a2' a3' a4' a5' ∧ μ a0' a1' a2' a3' a4' a5' < μ a0 a1 a2 a3 a4 a5 ∧ out a0 a1 a2 a3 a4 a5 = out a0' a1' a2' a3' a4' a5' ∧ ∀ rec, body rec a0 a1 a2 a3 a4 a5 = rec a0' a1' a2' a3' a4' a5') : ∀ fuel (a0 : A0) (a1 : A1) (a2 : A2) (a3 : A3) (a4 : A4) (a5 : A5), P a0 a1 a2 a3 a4 a5 → μ a0 a1 a2 a3 a4 a5 < fuel → jlp6 body fuel a0 a1 a2 a3 a4 a5 = out a0 a1 a2 a3 a4 a5 := by
  intro fuel
  induction fuel with
  | zero => intro a0 a1 a2 a3 a4 a5 hP hm; omega
  | succ f ih =>
    intro a0 a1 a2 a3 a4 a5 hP hm
    rw [jlp6_s]
    rcases hs a0 a1 a2 a3 a4 a5 hP with h | ⟨a0', a1', a2', a3', a4', a5', h1, h2, h3, h4⟩
    · exact h _
    · rw [h4, h3]
      exact ih a0' a1' a2' a3' a4' a5' h1 (by omega)
/-- a loop by an invariant, n times around -/
theorem jlp6_inv {A0 A1 A2 A3 A4 A5 ρ : Type} {body : (A0 → A1 → A2 → A3 → A4 → A5 → Option ρ) → A0 → A1 → A2 → A3 → A4 → A5 → Option ρ} (Inv : Nat → A0 → A1 → A2 → A3 → A4 → A5 → Prop) (Post : ρ → Prop) (n : Nat) (hs : ∀ i, i < n → ∀ (a0 : A0) (a1 : A1) (a2 : A2) (a3 : A3) (a4 : A4) (a5 : A5), Inv i a0 a1 a2 a3 a4 a5 → ∃ (a0' : A0) (a1' : A1) (a2' : A2) (a3' : A3) (a4' : A4) (a5' : A5), Inv (i + 1) a0' a1' a2' a3' a4' a5' ∧ ∀ rec, body rec a0 a1 a2 a3 a4 a5 = rec a0' a1' a2' a3' a4' a5') (he : ∀ (a0 : A0) (a1 : A1) (a2 : A2) (a3 : A3) (a4 : A4) (a5 : A5), Inv n a0 a1 a2 a3 a4 a5 → ∃ r, Post r ∧ ∀ rec, body rec a0 a1 a2 a3 a4 a5 = some r) : ∀ fuel (a0 : A0) (a1 : A1) (a2 : A2) (a3 : A3) (a4 : A4) (a5 : A5), n < fuel → Inv 0 a0 a1 a2 a3 a4 a5 → ∃ r, jlp6 body fuel a0 a1 a2 a3 a4 a5 = some r ∧ Post r := by
  have key : ∀ k i fuel (a0 : A0) (a1 : A1) (a2 : A2) (a3 : A3) (a4 : A4) (a5 : A5), i + k = n → k < fuel → Inv i a0 a1 a2 a3 a4 a5 → ∃ r, jlp6 body fuel a0 a1 a2 a3 a4 a5 = some r ∧ Post r := by
    intro k
    induction k with
    | zero =>
      intro i fuel a0 a1 a2 a3 a4 a5 hi hf hI
      obtain ⟨f, rfl⟩ : ∃ f, fuel = f + 1 := ⟨fuel - 1, by omega⟩
      obtain rfl : i = n := by omega
      obtain ⟨r, h1, h2⟩ := he a0 a1 a2 a3 a4 a5 hI
      exact ⟨r, by rw [jlp6_s]; exact h2 _, h1⟩
    | succ k ih =>
      intro i fuel a0 a1 a2 a3 a4 a5 hi hf hI
      obtain ⟨f, rfl⟩ : ∃ f, fuel = f + 1 := ⟨fuel - 1, by omega⟩
      obtain ⟨a0', a1', a2', a3', a4', a5', h1, h2⟩ := hs i (by omega) a0 a1 a2 a3 a4 a5 hI
      rw [jlp6_s, h2]
      exact ih (i + 1) f a0' a1' a2' a3' a4' a5' (by omega) (by omega) h1
  exact fun fuel a0 a1 a2 a3 a4 a5 hf hI => key n 0 fuel a0 a1 a2 a3 a4 a5 (by omega) hf hI
/-- a loop whose states are known one by one -/
theorem jlp7_seq {A0 A1 A2 A3 A4 A5 A6 ρ : Type} {body : (A0 → A1 → A2 → A3 → A4 → A5 → A6 → Option ρ) → A0 → A1 → A2 → A3 → A4 → A5 → A6 → Option ρ} (a0 : Nat → A0) (a1 : Nat → A1) (a2 : Nat → A2) (a3 : Nat → A3) (a4 : Nat → A4) (a5 : Nat → A5) (a6 : Nat → A6) (n : Nat) (out : Option ρ) (hs : ∀ i, i < n → ∀ rec, body rec (a0 i) (a1 i) (a2 i) (a3 i) (a4 i) (a5 i) (a6 i) = rec (a0 (i + 1)) (a1 (i + 1)) (a2 (i + 1)) (a3 (i + 1)) (a4 (i + 1)) (a5 (i + 1)) (a6 (i + 1))) (he : ∀ rec, body rec (a0 n) (a1 n) (a2 n) (a3 n) (a4 n) (a5 n) (a6 n) = out) : ∀ fuel, n < fuel → jlp7 body fuel (a0 0) (a1 0) (a2 0) (a3 0) (a4 0) (a5 0) (a6 0) = out := by
  have key : ∀ k i fuel, i + k = n → k < fuel → jlp7 body fuel (a0 i) (a1 i) (a2 i) (a3 i) (a4 i) (a5 i) (a6 i) = out := by
    intro k
    induction k with
    | zero =>
      intro i fuel hi hf
      obtain ⟨f, rfl⟩ : ∃ f, fuel = f + 1 := ⟨fuel - 1, by omega⟩
      obtain rfl : i = n := by omega
      rw [jlp7_s]; exact he _
    | succ k ih =>
      intro i fuel hi hf
      obtain ⟨f, rfl⟩ : ∃ f, fuel = f + 1 := ⟨fuel - 1, by omega⟩
      rw [jlp7_s, hs i (by omega)]
      exact ih (i + 1) f (by omega) (by omega)
  exact fun fuel hf => key n 0 fuel (by omega) hf
/-- a loop that ends by a measure, with what it answers from each state on -/
theorem jlp7_run {A0 A1 A2 A3 A4 A5 A6 ρ : Type} {body : (A0 → A1 → A2 → A3 → A4 → A5 → A6 → Option ρ) → A0 → A1 → A2 → A3 → A4 → A5 → A6 → Option ρ} (P : A0 → A1 → A2 → A3 → A4 → A5 → A6 → Prop) (μ : A0 → A1 → A2 → A3 → A4 → A5 → A6 → Nat) (out : A0 → A1 → A2 → A3 → A4 → A5 → A6 → Option ρ) (hs : ∀ (a0 : A0) (a1 : A1) (a2 : A2) (a3 : A3) (a4 : A4) (a5 : A5) (a6 : A6), P a0 a1 a2 a3 a4 a5 a6 → (∀ rec, body rec a0 a1 a2 a3 a4 a5 a6 = out a0 a1 a2 a3 a4 a5 a6) ∨ ∃ (a0' : A0) (a1' : A1) (a2' : A2) (a3' : A3) (a4' : A4) (a5' : A5) (a6' : A6), P a0' a1' a2' a3' a4' a5' a6' ∧ μ a0' a1' a2' a3' a4' a5' a6' < μ a0 a1 a2 a3 a4 a5 a6 ∧ out a0 a1 a2 a3 a4 a5 a6 = out a0' a1' a2' a3' a4' a5' a6' ∧ ∀ rec, body rec a0 a1 a2 a3 a4 a5 a6 = rec a0' a1' a2' a3' a4' a5' a6') : ∀ fuel (a0 : A0) (a1 : A1) (a2 : A2) (a3 : A3) (a4 : A4) (a5 : A5) (a6 : A6), P a0 a1 a2 a3 a4 a5 a6 → μ a0 a1 a2 a3 a4 a5 a6 < fuel → jlp7 body fuel a0 a1 a2 a3 a4 a5 a6 = out a0 a1 a2 a3 a4 a5 a6 := by
  intro fuel
  induction fuel with
  | zero => intro a0 a1 a2 a3 a4 a5 a6 hP hm; omega
  | succ f ih =>
    intro a0 a1 a2 a3 a4 a5 a6 hP hm
    rw [jlp7_s]
    rcases hs a0 a1 a2 a3 a4 a5 a6 hP with h | ⟨a0', a1', a2', a3', a4', a5', a6', h1, h2, h3, h4⟩
    · exact h _
    · rw [h4, h3]
      exact ih a0' a1' a2' a3' a4' a5' a6' h1 (by omega)
/-- a loop by an invariant, n times around -/
theorem jlp7_inv {A0 A1 A2 A3 A4 A5 A6 ρ : Type} {body : (A0 → A1 → A2 → A3 → A4 → A5 → A6 → Option ρ) → A0 → A1 → A2 → A3 → A4 → A5 → A6 → Option ρ} (Inv : Nat → A0 → A1 → A2 → A3 → A4 → A5 → A6 → Prop) (Post : ρ → Prop) (n : Nat) (hs : ∀ i, i < n → ∀ (a0 : A0) (a1 : A1) (a2 : A2) (a3 : A3) (a4 : A4) (a5 : A5) (a6 : A6), Inv i a0 a1 a2 a3 a4 a5 a6 → ∃ (a0' : A0) (a1' : A1) (a2' : A2) (a3' : A3) (a4' : A4) (a5' : A5) (a6' : A6), Inv (i + 1) a0' a1' a2' a3' a4' a5' a6' ∧ ∀ rec, body rec a0 a1 a2 a3 a4 a5 a6 = rec a0' a1' a2' a3' a4' a5' a6') (he : ∀ (a0 : A0) (a1 : A1) (a2 : A2) (a3 : A3) (a4 : A4) (a5 : A5) (a6 : A6), Inv n a0 a1 a2 a3 a4 a5 a6 → ∃ r, Post r ∧ ∀ rec, body rec a0 a1 a2 a3 a4 a5 a6 = some r) : ∀ fuel (a0 : A0) (a1 : A1) (a2 : A2) (a3 : A3) (a4 : A4) (a5 : A5) (a6 : A6), n < fuel → Inv 0 a0 a1 a2 a3 a4 a5 a6 → ∃ r, jlp7 body fuel a0 a1 a2 a3 a4 a5 a6 = some r ∧ Post r := by
  have key : ∀ k i fuel (a0 : A0) (a1 : A1) (a2 : A2) (a3 : A3) (a4 : A4) (a5 : A5) (a6 : A6), i + k = n → k < fuel → Inv i a0 a1 a2 a3 a4 a5 a6 → ∃ r, jlp7 body fuel a0 a1 a2 a3 a4 a5 a6 = some r ∧ Post r := by
    intro k
    induction k with
    | zero =>
      intro i fuel a0 a1 a2 a3 a4 a5 a6 hi hf hI
      obtain ⟨f, rfl⟩ : ∃ f, fuel = f + 1 := ⟨fuel - 1, by omega⟩
      obtain rfl : i = n := by omega
      obtain ⟨r, h1, h2⟩ := he a0 a1 a2 a3 a4 a5 a6 hI
      exact ⟨r, by rw [jlp7_s]; exact h2 _, h1⟩
    | succ k ih =>
      intro i fuel a0 a1 a2 a3 a4 a5 a6 hi hf hI
      obtain ⟨f, rfl⟩ : ∃ f, fuel = f + 1 := ⟨fuel - 1, by omega⟩
      obtain ⟨a0', a1', a2', a3', a4', a5', a6', h1, h2⟩ := hs i (by omega) a0 a1 a2 a3 a4 a5 a6 hI
      rw [jlp7_s, h2]
      exact ih (i + 1) f a0' a1' a2' a3' a4' a5' a6' (by omega) (by omega) h1
  exact fun fuel a0 a1 a2 a3 a4 a5 a6 hf hI => key n 0 fuel a0 a1 a2 a3 a4 a5 a6 (by omega) hf hI
theorem FX {t d rt : Nat} {I : Nat → Nat → Int} : jm_gR 11 0 (mm t d rt I) 0 = some 1 ∧
  jm_gR 11 1 (mm t d rt I) 0 = some 29 ∧
  jm_gR 11 2 (mm t d rt I) 0 = some t ∧
  jm_gR 11 3 (mm t d rt I) 0 = some d ∧
  jm_gR 11 4 (mm t d rt I) 0 = some 34 ∧
  jm_gR 11 5 (mm t d rt I) 0 = some 40 ∧
  jm_gR 11 6 (mm t d rt I) 0 = some 46 ∧
  jm_gR 11 7 (mm t d rt I) 0 = some 308 ∧
  jm_gR 11 8 (mm t d rt I) 0 = some 311 ∧
  jm_gR 11 9 (mm t d rt I) 0 = some 324 ∧
  jm_gR 11 10 (mm t d rt I) 0 = some 337 ∧
  jm_gR 11 11 (mm t d rt I) 0 = some 348 ∧
  jm_gR 11 12 (mm t d rt I) 0 = some 367 ∧
  (∀ i, jm_ld 20 (mm t d rt I) 367 i = if 0 ≤ jd_wr i ∧ jd_wr i < 7 then some (I 367 (jd_wr i).toNat) else none) ∧
  (∀ i v, jm_st 20 (mm t d rt I) 367 i v = if 0 ≤ jd_wr i ∧ jd_wr i < 7 then some (mm t d rt (up I 367 (jd_wr i).toNat v)) else none) ∧
  jm_gR 11 13 (mm t d rt I) 0 = some 368 ∧
  (∀ i, jm_ld 20 (mm t d rt I) 368 i = if 0 ≤ jd_wr i ∧ jd_wr i < 7 then some (I 368 (jd_wr i).toNat) else none) ∧
  (∀ i v, jm_st 20 (mm t d rt I) 368 i v = if 0 ≤ jd_wr i ∧ jd_wr i < 7 then some (mm t d rt (up I 368 (jd_wr i).toNat v)) else none) ∧
  (∀ (y0 : Option (Int × jMem)) (g0 : Int → jMem → Option (Int × jMem)), jcall 11 (mm t d rt I) 0 y0 g0 = jbd y0 g0) :=
  ⟨mm_gR (by decide +kernel) ((R0_f (by omega) (by omega)).trans (by decide +kernel)),
  mm_gR (by decide +kernel) ((R0_f (by omega) (by omega)).trans (by decide +kernel)),
  mm_gR (by decide +kernel) rfl,
  mm_gR (by decide +kernel) rfl,
  mm_gR (by decide +kernel) ((R0_f (by omega) (by omega)).trans (by decide +kernel)),
  mm_gR (by decide +kernel) ((R0_f (by omega) (by omega)).trans (by decide +kernel)),
  mm_gR (by decide +kernel) ((R0_f (by omega) (by omega)).trans (by decide +kernel)),
  mm_gR (by decide +kernel) ((R0_f (by omega) (by omega)).trans (by decide +kernel)),
  mm_gR (by decide +kernel) ((R0_f (by omega) (by omega)).trans (by decide +kernel)),
  mm_gR (by decide +kernel) ((R0_f (by omega) (by omega)).trans (by decide +kernel)),
  mm_gR (by decide +kernel) ((R0_f (by omega) (by omega)).trans (by decide +kernel)),
  mm_gR (by decide +kernel) ((R0_f (by omega) (by omega)).trans (by decide +kernel)),
  mm_gR (by decide +kernel) ((R0_f (by omega) (by omega)).trans (by decide +kernel)),
  fun i => mm_ld (n := 7) (by decide +kernel) (by decide) rfl,
  fun i v => mm_st (n := 7) (by decide +kernel) (by decide) rfl,
  mm_gR (by decide +kernel) ((R0_f (by omega) (by omega)).trans (by decide +kernel)),
  fun i => mm_ld (n := 7) (by decide +kernel) (by decide) rfl,
  fun i v => mm_st (n := 7) (by decide +kernel) (by decide) rfl,
  fun x f => mm_call (by decide +kernel)⟩
theorem FTape {t d rt : Nat} {I : Nat → Nat → Int} : jm_gR 7 0 (mm t d rt I) 1 = some 2 ∧
  (∀ i, jm_ld 21 (mm t d rt I) 2 i = if 0 ≤ jd_wr i ∧ jd_wr i < 2000 then some (I 2 (jd_wr i).toNat) else none) ∧
  (∀ i v, jm_st 21 (mm t d rt I) 2 i v = if 0 ≤ jd_wr i ∧ jd_wr i < 2000 then some (mm t d rt (up I 2 (jd_wr i).toNat v)) else none) ∧
  jm_gI 7 1 (mm t d rt I) 1 = some (I 1 1) ∧
  (∀ v, jm_pI 7 1 (mm t d rt I) 1 v = some (mm t d rt (up I 1 1 v))) ∧
  (∀ (y0 : Option (Int × jMem)) (g0 : Int → jMem → Option (Int × jMem)), jcall 7 (mm t d rt I) 1 y0 g0 = jbd y0 g0) :=
  ⟨mm_gR (by decide +kernel) ((R0_f (by omega) (by omega)).trans (by decide +kernel)),
  fun i => mm_ld (n := 2000) (by decide +kernel) (by decide) rfl,
  fun i v => mm_st (n := 2000) (by decide +kernel) (by decide) rfl,
  mm_gI (by decide +kernel),
  fun v => mm_pI (by decide +kernel),
  fun x f => mm_call (by decide +kernel)⟩
theorem FReader {t d rt : Nat} {I : Nat → Nat → Int} : jm_gR 3 0 (mm t d rt I) 29 = some 1 ∧
  jm_gR 3 1 (mm t d rt I) 29 = some 30 ∧
  jm_gR 3 2 (mm t d rt I) 29 = some rt ∧
  jm_gI 3 3 (mm t d rt I) 29 = some (I 29 3) ∧
  (∀ v, jm_pI 3 3 (mm t d rt I) 29 v = some (mm t d rt (up I 29 3 v))) ∧
  jm_gI 3 4 (mm t d rt I) 29 = some (I 29 4) ∧
  (∀ v, jm_pI 3 4 (mm t d rt I) 29 v = some (mm t d rt (up I 29 4 v))) ∧
  jm_gI 3 5 (mm t d rt I) 29 = some (I 29 5) ∧
  (∀ v, jm_pI 3 5 (mm t d rt I) 29 v = some (mm t d rt (up I 29 5 v))) ∧
  jm_gI 3 6 (mm t d rt I) 29 = some (I 29 6) ∧
  (∀ v, jm_pI 3 6 (mm t d rt I) 29 v = some (mm t d rt (up I 29 6 v))) ∧
  jm_gI 3 7 (mm t d rt I) 29 = some (I 29 7) ∧
  (∀ v, jm_pI 3 7 (mm t d rt I) 29 v = some (mm t d rt (up I 29 7 v))) ∧
  jm_gI 3 8 (mm t d rt I) 29 = some (I 29 8) ∧
  (∀ v, jm_pI 3 8 (mm t d rt I) 29 v = some (mm t d rt (up I 29 8 v))) ∧
  (∀ (y0 : Option (Int × jMem)) (g0 : Int → jMem → Option (Int × jMem)), jcall 3 (mm t d rt I) 29 y0 g0 = jbd y0 g0) :=
  ⟨mm_gR (by decide +kernel) ((R0_f (by omega) (by omega)).trans (by decide +kernel)),
  mm_gR (by decide +kernel) ((R0_f (by omega) (by omega)).trans (by decide +kernel)),
  mm_gR (by decide +kernel) rfl,
  mm_gI (by decide +kernel),
  fun v => mm_pI (by decide +kernel),
  mm_gI (by decide +kernel),
  fun v => mm_pI (by decide +kernel),
  mm_gI (by decide +kernel),
  fun v => mm_pI (by decide +kernel),
  mm_gI (by decide +kernel),
  fun v => mm_pI (by decide +kernel),
  mm_gI (by decide +kernel),
  fun v => mm_pI (by decide +kernel),
  mm_gI (by decide +kernel),
  fun v => mm_pI (by decide +kernel),
  fun x f => mm_call (by decide +kernel)⟩
theorem FTok {t d rt : Nat} {I : Nat → Nat → Int} : jm_gR 9 0 (mm t d rt I) 30 = some 1 ∧
  jm_gR 9 1 (mm t d rt I) 30 = some 31 ∧
  (∀ i, jm_ld 20 (mm t d rt I) 31 i = if 0 ≤ jd_wr i ∧ jd_wr i < 401 then some (I 31 (jd_wr i).toNat) else none) ∧
  (∀ i v, jm_st 20 (mm t d rt I) 31 i v = if 0 ≤ jd_wr i ∧ jd_wr i < 401 then some (mm t d rt (up I 31 (jd_wr i).toNat v)) else none) ∧
  jm_gR 9 2 (mm t d rt I) 30 = some 32 ∧
  (∀ i, jm_ld 20 (mm t d rt I) 32 i = if 0 ≤ jd_wr i ∧ jd_wr i < 401 then some (I 32 (jd_wr i).toNat) else none) ∧
  (∀ i v, jm_st 20 (mm t d rt I) 32 i v = if 0 ≤ jd_wr i ∧ jd_wr i < 401 then some (mm t d rt (up I 32 (jd_wr i).toNat v)) else none) ∧
  jm_gR 9 3 (mm t d rt I) 30 = some 33 ∧
  (∀ i, jm_ld 20 (mm t d rt I) 33 i = if 0 ≤ jd_wr i ∧ jd_wr i < 401 then some (I 33 (jd_wr i).toNat) else none) ∧
  (∀ i v, jm_st 20 (mm t d rt I) 33 i v = if 0 ≤ jd_wr i ∧ jd_wr i < 401 then some (mm t d rt (up I 33 (jd_wr i).toNat v)) else none) ∧
  jm_gI 9 4 (mm t d rt I) 30 = some (I 30 4) ∧
  (∀ v, jm_pI 9 4 (mm t d rt I) 30 v = some (mm t d rt (up I 30 4 v))) ∧
  (∀ (y0 : Option (Int × jMem)) (g0 : Int → jMem → Option (Int × jMem)), jcall 9 (mm t d rt I) 30 y0 g0 = jbd y0 g0) :=
  ⟨mm_gR (by decide +kernel) ((R0_f (by omega) (by omega)).trans (by decide +kernel)),
  mm_gR (by decide +kernel) ((R0_f (by omega) (by omega)).trans (by decide +kernel)),
  fun i => mm_ld (n := 401) (by decide +kernel) (by decide) rfl,
  fun i v => mm_st (n := 401) (by decide +kernel) (by decide) rfl,
  mm_gR (by decide +kernel) ((R0_f (by omega) (by omega)).trans (by decide +kernel)),
  fun i => mm_ld (n := 401) (by decide +kernel) (by decide) rfl,
  fun i v => mm_st (n := 401) (by decide +kernel) (by decide) rfl,
  mm_gR (by decide +kernel) ((R0_f (by omega) (by omega)).trans (by decide +kernel)),
  fun i => mm_ld (n := 401) (by decide +kernel) (by decide) rfl,
  fun i v => mm_st (n := 401) (by decide +kernel) (by decide) rfl,
  mm_gI (by decide +kernel),
  fun v => mm_pI (by decide +kernel),
  fun x f => mm_call (by decide +kernel)⟩
theorem FKept {t d rt : Nat} {I : Nat → Nat → Int} : jm_gR 1 0 (mm t d rt I) 46 = some 47 ∧
  jm_gR 1 1 (mm t d rt I) 46 = some 288 ∧
  jm_gR 1 2 (mm t d rt I) 46 = some 307 ∧
  (∀ i, jm_ld 22 (mm t d rt I) 307 i = if 0 ≤ jd_wr i ∧ jd_wr i < 3 then some (I 307 (jd_wr i).toNat) else none) ∧
  (∀ i v, jm_st 22 (mm t d rt I) 307 i v = if 0 ≤ jd_wr i ∧ jd_wr i < 3 then some (mm t d rt (up I 307 (jd_wr i).toNat v)) else none) ∧
  jm_gI 1 3 (mm t d rt I) 46 = some (I 46 3) ∧
  (∀ v, jm_pI 1 3 (mm t d rt I) 46 v = some (mm t d rt (up I 46 3 v))) ∧
  jm_gI 1 4 (mm t d rt I) 46 = some (I 46 4) ∧
  (∀ v, jm_pI 1 4 (mm t d rt I) 46 v = some (mm t d rt (up I 46 4 v))) ∧
  (∀ (y0 : Option (Int × jMem)) (g0 : Int → jMem → Option (Int × jMem)), jcall 1 (mm t d rt I) 46 y0 g0 = jbd y0 g0) :=
  ⟨mm_gR (by decide +kernel) ((R0_f (by omega) (by omega)).trans (by decide +kernel)),
  mm_gR (by decide +kernel) ((R0_f (by omega) (by omega)).trans (by decide +kernel)),
  mm_gR (by decide +kernel) ((R0_f (by omega) (by omega)).trans (by decide +kernel)),
  fun i => mm_ld (n := 3) (by decide +kernel) (by decide) rfl,
  fun i v => mm_st (n := 3) (by decide +kernel) (by decide) rfl,
  mm_gI (by decide +kernel),
  fun v => mm_pI (by decide +kernel),
  mm_gI (by decide +kernel),
  fun v => mm_pI (by decide +kernel),
  fun x f => mm_call (by decide +kernel)⟩
theorem FTold {t d rt : Nat} {I : Nat → Nat → Int} : jm_gR 10 0 (mm t d rt I) 308 = some 309 ∧
  (∀ i, jm_ld 20 (mm t d rt I) 309 i = if 0 ≤ jd_wr i ∧ jd_wr i < 20 then some (I 309 (jd_wr i).toNat) else none) ∧
  (∀ i v, jm_st 20 (mm t d rt I) 309 i v = if 0 ≤ jd_wr i ∧ jd_wr i < 20 then some (mm t d rt (up I 309 (jd_wr i).toNat v)) else none) ∧
  jm_gR 10 1 (mm t d rt I) 308 = some 310 ∧
  (∀ i, jm_ld 22 (mm t d rt I) 310 i = if 0 ≤ jd_wr i ∧ jd_wr i < 20 then some (I 310 (jd_wr i).toNat) else none) ∧
  (∀ i v, jm_st 22 (mm t d rt I) 310 i v = if 0 ≤ jd_wr i ∧ jd_wr i < 20 then some (mm t d rt (up I 310 (jd_wr i).toNat v)) else none) ∧
  jm_gI 10 2 (mm t d rt I) 308 = some (I 308 2) ∧
  (∀ v, jm_pI 10 2 (mm t d rt I) 308 v = some (mm t d rt (up I 308 2 v))) ∧
  (∀ (y0 : Option (Int × jMem)) (g0 : Int → jMem → Option (Int × jMem)), jcall 10 (mm t d rt I) 308 y0 g0 = jbd y0 g0) :=
  ⟨mm_gR (by decide +kernel) ((R0_f (by omega) (by omega)).trans (by decide +kernel)),
  fun i => mm_ld (n := 20) (by decide +kernel) (by decide) rfl,
  fun i v => mm_st (n := 20) (by decide +kernel) (by decide) rfl,
  mm_gR (by decide +kernel) ((R0_f (by omega) (by omega)).trans (by decide +kernel)),
  fun i => mm_ld (n := 20) (by decide +kernel) (by decide) rfl,
  fun i v => mm_st (n := 20) (by decide +kernel) (by decide) rfl,
  mm_gI (by decide +kernel),
  fun v => mm_pI (by decide +kernel),
  fun x f => mm_call (by decide +kernel)⟩
theorem FShares {t d rt : Nat} {I : Nat → Nat → Int} : jm_gR 5 0 (mm t d rt I) 337 = some 338 ∧
  jm_gR 5 1 (mm t d rt I) 337 = some 346 ∧
  (∀ i, jm_ld 20 (mm t d rt I) 346 i = if 0 ≤ jd_wr i ∧ jd_wr i < 36 then some (I 346 (jd_wr i).toNat) else none) ∧
  (∀ i v, jm_st 20 (mm t d rt I) 346 i v = if 0 ≤ jd_wr i ∧ jd_wr i < 36 then some (mm t d rt (up I 346 (jd_wr i).toNat v)) else none) ∧
  jm_gR 5 2 (mm t d rt I) 337 = some 347 ∧
  (∀ i, jm_ld 20 (mm t d rt I) 347 i = if 0 ≤ jd_wr i ∧ jd_wr i < 36 then some (I 347 (jd_wr i).toNat) else none) ∧
  (∀ i v, jm_st 20 (mm t d rt I) 347 i v = if 0 ≤ jd_wr i ∧ jd_wr i < 36 then some (mm t d rt (up I 347 (jd_wr i).toNat v)) else none) ∧
  jm_gI 5 3 (mm t d rt I) 337 = some (I 337 3) ∧
  (∀ v, jm_pI 5 3 (mm t d rt I) 337 v = some (mm t d rt (up I 337 3 v))) ∧
  (∀ (y0 : Option (Int × jMem)) (g0 : Int → jMem → Option (Int × jMem)), jcall 5 (mm t d rt I) 337 y0 g0 = jbd y0 g0) :=
  ⟨mm_gR (by decide +kernel) ((R0_f (by omega) (by omega)).trans (by decide +kernel)),
  mm_gR (by decide +kernel) ((R0_f (by omega) (by omega)).trans (by decide +kernel)),
  fun i => mm_ld (n := 36) (by decide +kernel) (by decide) rfl,
  fun i v => mm_st (n := 36) (by decide +kernel) (by decide) rfl,
  mm_gR (by decide +kernel) ((R0_f (by omega) (by omega)).trans (by decide +kernel)),
  fun i => mm_ld (n := 36) (by decide +kernel) (by decide) rfl,
  fun i v => mm_st (n := 36) (by decide +kernel) (by decide) rfl,
  mm_gI (by decide +kernel),
  fun v => mm_pI (by decide +kernel),
  fun x f => mm_call (by decide +kernel)⟩
theorem FBest {t d rt : Nat} {I : Nat → Nat → Int} : jm_gR 0 0 (mm t d rt I) 348 = some 349 ∧
  jm_gR 0 1 (mm t d rt I) 348 = some 357 ∧
  jm_gR 0 2 (mm t d rt I) 348 = some 365 ∧
  (∀ i, jm_ld 20 (mm t d rt I) 365 i = if 0 ≤ jd_wr i ∧ jd_wr i < 7 then some (I 365 (jd_wr i).toNat) else none) ∧
  (∀ i v, jm_st 20 (mm t d rt I) 365 i v = if 0 ≤ jd_wr i ∧ jd_wr i < 7 then some (mm t d rt (up I 365 (jd_wr i).toNat v)) else none) ∧
  jm_gR 0 3 (mm t d rt I) 348 = some 366 ∧
  (∀ i, jm_ld 20 (mm t d rt I) 366 i = if 0 ≤ jd_wr i ∧ jd_wr i < 7 then some (I 366 (jd_wr i).toNat) else none) ∧
  (∀ i v, jm_st 20 (mm t d rt I) 366 i v = if 0 ≤ jd_wr i ∧ jd_wr i < 7 then some (mm t d rt (up I 366 (jd_wr i).toNat v)) else none) ∧
  (∀ (y0 : Option (Int × jMem)) (g0 : Int → jMem → Option (Int × jMem)), jcall 0 (mm t d rt I) 348 y0 g0 = jbd y0 g0) :=
  ⟨mm_gR (by decide +kernel) ((R0_f (by omega) (by omega)).trans (by decide +kernel)),
  mm_gR (by decide +kernel) ((R0_f (by omega) (by omega)).trans (by decide +kernel)),
  mm_gR (by decide +kernel) ((R0_f (by omega) (by omega)).trans (by decide +kernel)),
  fun i => mm_ld (n := 7) (by decide +kernel) (by decide) rfl,
  fun i v => mm_st (n := 7) (by decide +kernel) (by decide) rfl,
  mm_gR (by decide +kernel) ((R0_f (by omega) (by omega)).trans (by decide +kernel)),
  fun i => mm_ld (n := 7) (by decide +kernel) (by decide) rfl,
  fun i v => mm_st (n := 7) (by decide +kernel) (by decide) rfl,
  fun x f => mm_call (by decide +kernel)⟩
theorem FM {t d rt : Nat} {I : Nat → Nat → Int} : jm_gI 12 0 (mm t d rt I) 369 = some (I 369 0) ∧
  (∀ v, jm_pI 12 0 (mm t d rt I) 369 v = some (mm t d rt (up I 369 0 v))) ∧
  jm_gR 12 1 (mm t d rt I) 369 = some 370 ∧
  (∀ i, jm_ld 21 (mm t d rt I) 370 i = if 0 ≤ jd_wr i ∧ jd_wr i < 2000 then some (I 370 (jd_wr i).toNat) else none) ∧
  (∀ i v, jm_st 21 (mm t d rt I) 370 i v = if 0 ≤ jd_wr i ∧ jd_wr i < 2000 then some (mm t d rt (up I 370 (jd_wr i).toNat v)) else none) ∧
  jm_gI 12 2 (mm t d rt I) 369 = some (I 369 2) ∧
  (∀ v, jm_pI 12 2 (mm t d rt I) 369 v = some (mm t d rt (up I 369 2 v))) ∧
  jm_gR 12 3 (mm t d rt I) 369 = some 371 ∧
  (∀ i, jm_ld 21 (mm t d rt I) 371 i = if 0 ≤ jd_wr i ∧ jd_wr i < 2000 then some (I 371 (jd_wr i).toNat) else none) ∧
  (∀ i v, jm_st 21 (mm t d rt I) 371 i v = if 0 ≤ jd_wr i ∧ jd_wr i < 2000 then some (mm t d rt (up I 371 (jd_wr i).toNat v)) else none) ∧
  jm_gI 12 4 (mm t d rt I) 369 = some (I 369 4) ∧
  (∀ v, jm_pI 12 4 (mm t d rt I) 369 v = some (mm t d rt (up I 369 4 v))) ∧
  jm_gR 12 5 (mm t d rt I) 369 = some 372 ∧
  (∀ i, jm_ld 20 (mm t d rt I) 372 i = if 0 ≤ jd_wr i ∧ jd_wr i < 403 then some (I 372 (jd_wr i).toNat) else none) ∧
  (∀ i v, jm_st 20 (mm t d rt I) 372 i v = if 0 ≤ jd_wr i ∧ jd_wr i < 403 then some (mm t d rt (up I 372 (jd_wr i).toNat v)) else none) ∧
  jm_gR 12 6 (mm t d rt I) 369 = some 373 ∧
  (∀ i, jm_ld 20 (mm t d rt I) 373 i = if 0 ≤ jd_wr i ∧ jd_wr i < 403 then some (I 373 (jd_wr i).toNat) else none) ∧
  (∀ i v, jm_st 20 (mm t d rt I) 373 i v = if 0 ≤ jd_wr i ∧ jd_wr i < 403 then some (mm t d rt (up I 373 (jd_wr i).toNat v)) else none) ∧
  jm_gR 12 7 (mm t d rt I) 369 = some 374 ∧
  (∀ i, jm_ld 20 (mm t d rt I) 374 i = if 0 ≤ jd_wr i ∧ jd_wr i < 403 then some (I 374 (jd_wr i).toNat) else none) ∧
  (∀ i v, jm_st 20 (mm t d rt I) 374 i v = if 0 ≤ jd_wr i ∧ jd_wr i < 403 then some (mm t d rt (up I 374 (jd_wr i).toNat v)) else none) ∧
  jm_gR 12 8 (mm t d rt I) 369 = some 375 ∧
  (∀ i, jm_ld 23 (mm t d rt I) 375 i = if 0 ≤ jd_wr i ∧ jd_wr i < 403 then some (I 375 (jd_wr i).toNat) else none) ∧
  (∀ i v, jm_st 23 (mm t d rt I) 375 i v = if 0 ≤ jd_wr i ∧ jd_wr i < 403 then some (mm t d rt (up I 375 (jd_wr i).toNat v)) else none) ∧
  jm_gR 12 9 (mm t d rt I) 369 = some 376 ∧
  (∀ i, jm_ld 23 (mm t d rt I) 376 i = if 0 ≤ jd_wr i ∧ jd_wr i < 19 then some (I 376 (jd_wr i).toNat) else none) ∧
  (∀ i v, jm_st 23 (mm t d rt I) 376 i v = if 0 ≤ jd_wr i ∧ jd_wr i < 19 then some (mm t d rt (up I 376 (jd_wr i).toNat v)) else none) ∧
  jm_gI 12 10 (mm t d rt I) 369 = some (I 369 10) ∧
  (∀ v, jm_pI 12 10 (mm t d rt I) 369 v = some (mm t d rt (up I 369 10 v))) ∧
  jm_gI 12 11 (mm t d rt I) 369 = some (I 369 11) ∧
  (∀ v, jm_pI 12 11 (mm t d rt I) 369 v = some (mm t d rt (up I 369 11 v))) ∧
  jm_gI 12 12 (mm t d rt I) 369 = some (I 369 12) ∧
  (∀ v, jm_pI 12 12 (mm t d rt I) 369 v = some (mm t d rt (up I 369 12 v))) ∧
  jm_gI 12 13 (mm t d rt I) 369 = some (I 369 13) ∧
  (∀ v, jm_pI 12 13 (mm t d rt I) 369 v = some (mm t d rt (up I 369 13 v))) ∧
  jm_gI 12 14 (mm t d rt I) 369 = some (I 369 14) ∧
  (∀ v, jm_pI 12 14 (mm t d rt I) 369 v = some (mm t d rt (up I 369 14 v))) ∧
  jm_gI 12 15 (mm t d rt I) 369 = some (I 369 15) ∧
  (∀ v, jm_pI 12 15 (mm t d rt I) 369 v = some (mm t d rt (up I 369 15 v))) ∧
  jm_gI 12 16 (mm t d rt I) 369 = some (I 369 16) ∧
  (∀ v, jm_pI 12 16 (mm t d rt I) 369 v = some (mm t d rt (up I 369 16 v))) ∧
  jm_gI 12 17 (mm t d rt I) 369 = some (I 369 17) ∧
  (∀ v, jm_pI 12 17 (mm t d rt I) 369 v = some (mm t d rt (up I 369 17 v))) ∧
  jm_gI 12 18 (mm t d rt I) 369 = some (I 369 18) ∧
  (∀ v, jm_pI 12 18 (mm t d rt I) 369 v = some (mm t d rt (up I 369 18 v))) ∧
  jm_gI 12 19 (mm t d rt I) 369 = some (I 369 19) ∧
  (∀ v, jm_pI 12 19 (mm t d rt I) 369 v = some (mm t d rt (up I 369 19 v))) ∧
  jm_gR 12 20 (mm t d rt I) 369 = some 377 ∧
  (∀ i, jm_ld 20 (mm t d rt I) 377 i = if 0 ≤ jd_wr i ∧ jd_wr i < 2 then some (I 377 (jd_wr i).toNat) else none) ∧
  (∀ i v, jm_st 20 (mm t d rt I) 377 i v = if 0 ≤ jd_wr i ∧ jd_wr i < 2 then some (mm t d rt (up I 377 (jd_wr i).toNat v)) else none) ∧
  jm_gR 12 21 (mm t d rt I) 369 = some 378 ∧
  (∀ i, jm_ld 20 (mm t d rt I) 378 i = if 0 ≤ jd_wr i ∧ jd_wr i < 2 then some (I 378 (jd_wr i).toNat) else none) ∧
  (∀ i v, jm_st 20 (mm t d rt I) 378 i v = if 0 ≤ jd_wr i ∧ jd_wr i < 2 then some (mm t d rt (up I 378 (jd_wr i).toNat v)) else none) ∧
  jm_gR 12 22 (mm t d rt I) 369 = some 379 ∧
  (∀ i, jm_ld 20 (mm t d rt I) 379 i = if 0 ≤ jd_wr i ∧ jd_wr i < 2 then some (I 379 (jd_wr i).toNat) else none) ∧
  (∀ i v, jm_st 20 (mm t d rt I) 379 i v = if 0 ≤ jd_wr i ∧ jd_wr i < 2 then some (mm t d rt (up I 379 (jd_wr i).toNat v)) else none) ∧
  jm_gR 12 23 (mm t d rt I) 369 = some 380 ∧
  (∀ i, jm_ld 20 (mm t d rt I) 380 i = if 0 ≤ jd_wr i ∧ jd_wr i < 24 then some (I 380 (jd_wr i).toNat) else none) ∧
  (∀ i v, jm_st 20 (mm t d rt I) 380 i v = if 0 ≤ jd_wr i ∧ jd_wr i < 24 then some (mm t d rt (up I 380 (jd_wr i).toNat v)) else none) ∧
  jm_gR 12 24 (mm t d rt I) 369 = some 381 ∧
  (∀ i, jm_ld 20 (mm t d rt I) 381 i = if 0 ≤ jd_wr i ∧ jd_wr i < 24 then some (I 381 (jd_wr i).toNat) else none) ∧
  (∀ i v, jm_st 20 (mm t d rt I) 381 i v = if 0 ≤ jd_wr i ∧ jd_wr i < 24 then some (mm t d rt (up I 381 (jd_wr i).toNat v)) else none) ∧
  jm_gR 12 25 (mm t d rt I) 369 = some 382 ∧
  (∀ i, jm_ld 20 (mm t d rt I) 382 i = if 0 ≤ jd_wr i ∧ jd_wr i < 2 then some (I 382 (jd_wr i).toNat) else none) ∧
  (∀ i v, jm_st 20 (mm t d rt I) 382 i v = if 0 ≤ jd_wr i ∧ jd_wr i < 2 then some (mm t d rt (up I 382 (jd_wr i).toNat v)) else none) ∧
  jm_gR 12 26 (mm t d rt I) 369 = some 383 ∧
  (∀ i, jm_ld 20 (mm t d rt I) 383 i = if 0 ≤ jd_wr i ∧ jd_wr i < 36 then some (I 383 (jd_wr i).toNat) else none) ∧
  (∀ i v, jm_st 20 (mm t d rt I) 383 i v = if 0 ≤ jd_wr i ∧ jd_wr i < 36 then some (mm t d rt (up I 383 (jd_wr i).toNat v)) else none) ∧
  jm_gR 12 27 (mm t d rt I) 369 = some 384 ∧
  (∀ i, jm_ld 20 (mm t d rt I) 384 i = if 0 ≤ jd_wr i ∧ jd_wr i < 36 then some (I 384 (jd_wr i).toNat) else none) ∧
  (∀ i v, jm_st 20 (mm t d rt I) 384 i v = if 0 ≤ jd_wr i ∧ jd_wr i < 36 then some (mm t d rt (up I 384 (jd_wr i).toNat v)) else none) ∧
  jm_gR 12 28 (mm t d rt I) 369 = some 385 ∧
  (∀ i, jm_ld 20 (mm t d rt I) 385 i = if 0 ≤ jd_wr i ∧ jd_wr i < 36 then some (I 385 (jd_wr i).toNat) else none) ∧
  (∀ i v, jm_st 20 (mm t d rt I) 385 i v = if 0 ≤ jd_wr i ∧ jd_wr i < 36 then some (mm t d rt (up I 385 (jd_wr i).toNat v)) else none) ∧
  jm_gR 12 29 (mm t d rt I) 369 = some 386 ∧
  (∀ i, jm_ld 20 (mm t d rt I) 386 i = if 0 ≤ jd_wr i ∧ jd_wr i < 2 then some (I 386 (jd_wr i).toNat) else none) ∧
  (∀ i v, jm_st 20 (mm t d rt I) 386 i v = if 0 ≤ jd_wr i ∧ jd_wr i < 2 then some (mm t d rt (up I 386 (jd_wr i).toNat v)) else none) ∧
  jm_gR 12 30 (mm t d rt I) 369 = some 387 ∧
  (∀ i, jm_ld 20 (mm t d rt I) 387 i = if 0 ≤ jd_wr i ∧ jd_wr i < 6 then some (I 387 (jd_wr i).toNat) else none) ∧
  (∀ i v, jm_st 20 (mm t d rt I) 387 i v = if 0 ≤ jd_wr i ∧ jd_wr i < 6 then some (mm t d rt (up I 387 (jd_wr i).toNat v)) else none) ∧
  jm_gR 12 31 (mm t d rt I) 369 = some 388 ∧
  (∀ i, jm_ld 20 (mm t d rt I) 388 i = if 0 ≤ jd_wr i ∧ jd_wr i < 6 then some (I 388 (jd_wr i).toNat) else none) ∧
  (∀ i v, jm_st 20 (mm t d rt I) 388 i v = if 0 ≤ jd_wr i ∧ jd_wr i < 6 then some (mm t d rt (up I 388 (jd_wr i).toNat v)) else none) ∧
  jm_gI 12 32 (mm t d rt I) 369 = some (I 369 32) ∧
  (∀ v, jm_pI 12 32 (mm t d rt I) 369 v = some (mm t d rt (up I 369 32 v))) ∧
  jm_gR 12 33 (mm t d rt I) 369 = some 389 ∧
  (∀ i, jm_ld 22 (mm t d rt I) 389 i = if 0 ≤ jd_wr i ∧ jd_wr i < 260 then some (I 389 (jd_wr i).toNat) else none) ∧
  (∀ i v, jm_st 22 (mm t d rt I) 389 i v = if 0 ≤ jd_wr i ∧ jd_wr i < 260 then some (mm t d rt (up I 389 (jd_wr i).toNat v)) else none) ∧
  jm_gR 12 34 (mm t d rt I) 369 = some 390 ∧
  (∀ i, jm_ld 20 (mm t d rt I) 390 i = if 0 ≤ jd_wr i ∧ jd_wr i < 260 then some (I 390 (jd_wr i).toNat) else none) ∧
  (∀ i v, jm_st 20 (mm t d rt I) 390 i v = if 0 ≤ jd_wr i ∧ jd_wr i < 260 then some (mm t d rt (up I 390 (jd_wr i).toNat v)) else none) ∧
  jm_gR 12 35 (mm t d rt I) 369 = some 391 ∧
  (∀ i, jm_ld 20 (mm t d rt I) 391 i = if 0 ≤ jd_wr i ∧ jd_wr i < 260 then some (I 391 (jd_wr i).toNat) else none) ∧
  (∀ i v, jm_st 20 (mm t d rt I) 391 i v = if 0 ≤ jd_wr i ∧ jd_wr i < 260 then some (mm t d rt (up I 391 (jd_wr i).toNat v)) else none) ∧
  jm_gR 12 36 (mm t d rt I) 369 = some 392 ∧
  (∀ i, jm_ld 20 (mm t d rt I) 392 i = if 0 ≤ jd_wr i ∧ jd_wr i < 260 then some (I 392 (jd_wr i).toNat) else none) ∧
  (∀ i v, jm_st 20 (mm t d rt I) 392 i v = if 0 ≤ jd_wr i ∧ jd_wr i < 260 then some (mm t d rt (up I 392 (jd_wr i).toNat v)) else none) ∧
  jm_gR 12 37 (mm t d rt I) 369 = some 393 ∧
  (∀ i, jm_ld 20 (mm t d rt I) 393 i = if 0 ≤ jd_wr i ∧ jd_wr i < 260 then some (I 393 (jd_wr i).toNat) else none) ∧
  (∀ i v, jm_st 20 (mm t d rt I) 393 i v = if 0 ≤ jd_wr i ∧ jd_wr i < 260 then some (mm t d rt (up I 393 (jd_wr i).toNat v)) else none) ∧
  jm_gI 12 38 (mm t d rt I) 369 = some (I 369 38) ∧
  (∀ v, jm_pI 12 38 (mm t d rt I) 369 v = some (mm t d rt (up I 369 38 v))) ∧
  jm_gR 12 39 (mm t d rt I) 369 = some 394 ∧
  (∀ i, jm_ld 20 (mm t d rt I) 394 i = if 0 ≤ jd_wr i ∧ jd_wr i < 840 then some (I 394 (jd_wr i).toNat) else none) ∧
  (∀ i v, jm_st 20 (mm t d rt I) 394 i v = if 0 ≤ jd_wr i ∧ jd_wr i < 840 then some (mm t d rt (up I 394 (jd_wr i).toNat v)) else none) ∧
  jm_gR 12 40 (mm t d rt I) 369 = some 395 ∧
  (∀ i, jm_ld 20 (mm t d rt I) 395 i = if 0 ≤ jd_wr i ∧ jd_wr i < 840 then some (I 395 (jd_wr i).toNat) else none) ∧
  (∀ i v, jm_st 20 (mm t d rt I) 395 i v = if 0 ≤ jd_wr i ∧ jd_wr i < 840 then some (mm t d rt (up I 395 (jd_wr i).toNat v)) else none) ∧
  jm_gR 12 41 (mm t d rt I) 369 = some 396 ∧
  (∀ i, jm_ld 22 (mm t d rt I) 396 i = if 0 ≤ jd_wr i ∧ jd_wr i < 36 then some (I 396 (jd_wr i).toNat) else none) ∧
  (∀ i v, jm_st 22 (mm t d rt I) 396 i v = if 0 ≤ jd_wr i ∧ jd_wr i < 36 then some (mm t d rt (up I 396 (jd_wr i).toNat v)) else none) ∧
  jm_gR 12 42 (mm t d rt I) 369 = some 397 ∧
  (∀ i, jm_ld 20 (mm t d rt I) 397 i = if 0 ≤ jd_wr i ∧ jd_wr i < 64 then some (I 397 (jd_wr i).toNat) else none) ∧
  (∀ i v, jm_st 20 (mm t d rt I) 397 i v = if 0 ≤ jd_wr i ∧ jd_wr i < 64 then some (mm t d rt (up I 397 (jd_wr i).toNat v)) else none) ∧
  jm_gI 12 43 (mm t d rt I) 369 = some (I 369 43) ∧
  (∀ v, jm_pI 12 43 (mm t d rt I) 369 v = some (mm t d rt (up I 369 43 v))) ∧
  jm_gR 12 44 (mm t d rt I) 369 = some 398 ∧
  (∀ i, jm_ld 20 (mm t d rt I) 398 i = if 0 ≤ jd_wr i ∧ jd_wr i < 9 then some (I 398 (jd_wr i).toNat) else none) ∧
  (∀ i v, jm_st 20 (mm t d rt I) 398 i v = if 0 ≤ jd_wr i ∧ jd_wr i < 9 then some (mm t d rt (up I 398 (jd_wr i).toNat v)) else none) ∧
  jm_gR 12 45 (mm t d rt I) 369 = some 399 ∧
  (∀ i, jm_ld 20 (mm t d rt I) 399 i = if 0 ≤ jd_wr i ∧ jd_wr i < 400 then some (I 399 (jd_wr i).toNat) else none) ∧
  (∀ i v, jm_st 20 (mm t d rt I) 399 i v = if 0 ≤ jd_wr i ∧ jd_wr i < 400 then some (mm t d rt (up I 399 (jd_wr i).toNat v)) else none) ∧
  jm_gI 12 46 (mm t d rt I) 369 = some (I 369 46) ∧
  jm_gR 12 47 (mm t d rt I) 369 = some 400 ∧
  (∀ i, jm_ld 20 (mm t d rt I) 400 i = if 0 ≤ jd_wr i ∧ jd_wr i < 75 then some (I 400 (jd_wr i).toNat) else none) ∧
  (∀ i v, jm_st 20 (mm t d rt I) 400 i v = if 0 ≤ jd_wr i ∧ jd_wr i < 75 then some (mm t d rt (up I 400 (jd_wr i).toNat v)) else none) ∧
  jm_gR 12 48 (mm t d rt I) 369 = some 401 ∧
  (∀ i, jm_ld 20 (mm t d rt I) 401 i = if 0 ≤ jd_wr i ∧ jd_wr i < 75 then some (I 401 (jd_wr i).toNat) else none) ∧
  (∀ i v, jm_st 20 (mm t d rt I) 401 i v = if 0 ≤ jd_wr i ∧ jd_wr i < 75 then some (mm t d rt (up I 401 (jd_wr i).toNat v)) else none) ∧
  jm_gI 12 49 (mm t d rt I) 369 = some (I 369 49) ∧
  (∀ v, jm_pI 12 49 (mm t d rt I) 369 v = some (mm t d rt (up I 369 49 v))) ∧
  jm_gR 12 50 (mm t d rt I) 369 = some 402 ∧
  (∀ i, jm_ld 22 (mm t d rt I) 402 i = if 0 ≤ jd_wr i ∧ jd_wr i < 36 then some (I 402 (jd_wr i).toNat) else none) ∧
  (∀ i v, jm_st 22 (mm t d rt I) 402 i v = if 0 ≤ jd_wr i ∧ jd_wr i < 36 then some (mm t d rt (up I 402 (jd_wr i).toNat v)) else none) ∧
  jm_gR 12 51 (mm t d rt I) 369 = some 403 ∧
  (∀ i, jm_ld 20 (mm t d rt I) 403 i = if 0 ≤ jd_wr i ∧ jd_wr i < 2 then some (I 403 (jd_wr i).toNat) else none) ∧
  (∀ i v, jm_st 20 (mm t d rt I) 403 i v = if 0 ≤ jd_wr i ∧ jd_wr i < 2 then some (mm t d rt (up I 403 (jd_wr i).toNat v)) else none) ∧
  jm_gR 12 52 (mm t d rt I) 369 = some 404 ∧
  (∀ i, jm_ld 22 (mm t d rt I) 404 i = if 0 ≤ jd_wr i ∧ jd_wr i < 18 then some (I 404 (jd_wr i).toNat) else none) ∧
  (∀ i v, jm_st 22 (mm t d rt I) 404 i v = if 0 ≤ jd_wr i ∧ jd_wr i < 18 then some (mm t d rt (up I 404 (jd_wr i).toNat v)) else none) ∧
  jm_gI 12 53 (mm t d rt I) 369 = some (I 369 53) ∧
  (∀ v, jm_pI 12 53 (mm t d rt I) 369 v = some (mm t d rt (up I 369 53 v))) ∧
  jm_gR 12 54 (mm t d rt I) 369 = some 405 ∧
  (∀ i, jm_ld 20 (mm t d rt I) 405 i = if 0 ≤ jd_wr i ∧ jd_wr i < 3000 then some (I 405 (jd_wr i).toNat) else none) ∧
  (∀ i v, jm_st 20 (mm t d rt I) 405 i v = if 0 ≤ jd_wr i ∧ jd_wr i < 3000 then some (mm t d rt (up I 405 (jd_wr i).toNat v)) else none) ∧
  jm_gR 12 55 (mm t d rt I) 369 = some 406 ∧
  (∀ i, jm_ld 20 (mm t d rt I) 406 i = if 0 ≤ jd_wr i ∧ jd_wr i < 2368 then some (I 406 (jd_wr i).toNat) else none) ∧
  (∀ i v, jm_st 20 (mm t d rt I) 406 i v = if 0 ≤ jd_wr i ∧ jd_wr i < 2368 then some (mm t d rt (up I 406 (jd_wr i).toNat v)) else none) ∧
  jm_gR 12 56 (mm t d rt I) 369 = some 407 ∧
  (∀ i, jm_ld 20 (mm t d rt I) 407 i = if 0 ≤ jd_wr i ∧ jd_wr i < 2368 then some (I 407 (jd_wr i).toNat) else none) ∧
  (∀ i v, jm_st 20 (mm t d rt I) 407 i v = if 0 ≤ jd_wr i ∧ jd_wr i < 2368 then some (mm t d rt (up I 407 (jd_wr i).toNat v)) else none) ∧
  jm_gR 12 57 (mm t d rt I) 369 = some 408 ∧
  (∀ i, jm_ld 22 (mm t d rt I) 408 i = if 0 ≤ jd_wr i ∧ jd_wr i < 36 then some (I 408 (jd_wr i).toNat) else none) ∧
  (∀ i v, jm_st 22 (mm t d rt I) 408 i v = if 0 ≤ jd_wr i ∧ jd_wr i < 36 then some (mm t d rt (up I 408 (jd_wr i).toNat v)) else none) ∧
  jm_gR 12 58 (mm t d rt I) 369 = some 409 ∧
  (∀ i, jm_ld 22 (mm t d rt I) 409 i = if 0 ≤ jd_wr i ∧ jd_wr i < 36 then some (I 409 (jd_wr i).toNat) else none) ∧
  (∀ i v, jm_st 22 (mm t d rt I) 409 i v = if 0 ≤ jd_wr i ∧ jd_wr i < 36 then some (mm t d rt (up I 409 (jd_wr i).toNat v)) else none) ∧
  jm_gR 12 59 (mm t d rt I) 369 = some 410 ∧
  (∀ i, jm_ld 22 (mm t d rt I) 410 i = if 0 ≤ jd_wr i ∧ jd_wr i < 36 then some (I 410 (jd_wr i).toNat) else none) ∧
  (∀ i v, jm_st 22 (mm t d rt I) 410 i v = if 0 ≤ jd_wr i ∧ jd_wr i < 36 then some (mm t d rt (up I 410 (jd_wr i).toNat v)) else none) ∧
  jm_gR 12 60 (mm t d rt I) 369 = some 411 ∧
  (∀ i, jm_ld 20 (mm t d rt I) 411 i = if 0 ≤ jd_wr i ∧ jd_wr i < 36 then some (I 411 (jd_wr i).toNat) else none) ∧
  (∀ i v, jm_st 20 (mm t d rt I) 411 i v = if 0 ≤ jd_wr i ∧ jd_wr i < 36 then some (mm t d rt (up I 411 (jd_wr i).toNat v)) else none) ∧
  jm_gR 12 61 (mm t d rt I) 369 = some 412 ∧
  (∀ i, jm_ld 20 (mm t d rt I) 412 i = if 0 ≤ jd_wr i ∧ jd_wr i < 49 then some (I 412 (jd_wr i).toNat) else none) ∧
  (∀ i v, jm_st 20 (mm t d rt I) 412 i v = if 0 ≤ jd_wr i ∧ jd_wr i < 49 then some (mm t d rt (up I 412 (jd_wr i).toNat v)) else none) ∧
  jm_gR 12 62 (mm t d rt I) 369 = some 413 ∧
  (∀ i, jm_ld 20 (mm t d rt I) 413 i = if 0 ≤ jd_wr i ∧ jd_wr i < 49 then some (I 413 (jd_wr i).toNat) else none) ∧
  (∀ i v, jm_st 20 (mm t d rt I) 413 i v = if 0 ≤ jd_wr i ∧ jd_wr i < 49 then some (mm t d rt (up I 413 (jd_wr i).toNat v)) else none) ∧
  jm_gI 12 63 (mm t d rt I) 369 = some (I 369 63) ∧
  (∀ v, jm_pI 12 63 (mm t d rt I) 369 v = some (mm t d rt (up I 369 63 v))) ∧
  jm_gR 12 64 (mm t d rt I) 369 = some 414 ∧
  (∀ i, jm_ld 20 (mm t d rt I) 414 i = if 0 ≤ jd_wr i ∧ jd_wr i < 20 then some (I 414 (jd_wr i).toNat) else none) ∧
  (∀ i v, jm_st 20 (mm t d rt I) 414 i v = if 0 ≤ jd_wr i ∧ jd_wr i < 20 then some (mm t d rt (up I 414 (jd_wr i).toNat v)) else none) ∧
  jm_gR 12 65 (mm t d rt I) 369 = some 415 ∧
  (∀ i, jm_ld 22 (mm t d rt I) 415 i = if 0 ≤ jd_wr i ∧ jd_wr i < 20 then some (I 415 (jd_wr i).toNat) else none) ∧
  (∀ i v, jm_st 22 (mm t d rt I) 415 i v = if 0 ≤ jd_wr i ∧ jd_wr i < 20 then some (mm t d rt (up I 415 (jd_wr i).toNat v)) else none) ∧
  jm_gR 12 66 (mm t d rt I) 369 = some 416 ∧
  (∀ i, jm_ld 22 (mm t d rt I) 416 i = if 0 ≤ jd_wr i ∧ jd_wr i < 3 then some (I 416 (jd_wr i).toNat) else none) ∧
  (∀ i v, jm_st 22 (mm t d rt I) 416 i v = if 0 ≤ jd_wr i ∧ jd_wr i < 3 then some (mm t d rt (up I 416 (jd_wr i).toNat v)) else none) ∧
  jm_gR 12 67 (mm t d rt I) 369 = some 417 ∧
  (∀ i, jm_ld 20 (mm t d rt I) 417 i = if 0 ≤ jd_wr i ∧ jd_wr i < 225 then some (I 417 (jd_wr i).toNat) else none) ∧
  (∀ i v, jm_st 20 (mm t d rt I) 417 i v = if 0 ≤ jd_wr i ∧ jd_wr i < 225 then some (mm t d rt (up I 417 (jd_wr i).toNat v)) else none) ∧
  (∀ (y0 : Option (Int × jMem)) (g0 : Int → jMem → Option (Int × jMem)), jcall 12 (mm t d rt I) 369 y0 g0 = jbd y0 g0) :=
  ⟨mm_gI (by decide +kernel),
  fun v => mm_pI (by decide +kernel),
  mm_gR (by decide +kernel) ((R0_f (by omega) (by omega)).trans (by decide +kernel)),
  fun i => mm_ld (n := 2000) (by decide +kernel) (by decide) rfl,
  fun i v => mm_st (n := 2000) (by decide +kernel) (by decide) rfl,
  mm_gI (by decide +kernel),
  fun v => mm_pI (by decide +kernel),
  mm_gR (by decide +kernel) ((R0_f (by omega) (by omega)).trans (by decide +kernel)),
  fun i => mm_ld (n := 2000) (by decide +kernel) (by decide) rfl,
  fun i v => mm_st (n := 2000) (by decide +kernel) (by decide) rfl,
  mm_gI (by decide +kernel),
  fun v => mm_pI (by decide +kernel),
  mm_gR (by decide +kernel) ((R0_f (by omega) (by omega)).trans (by decide +kernel)),
  fun i => mm_ld (n := 403) (by decide +kernel) (by decide) rfl,
  fun i v => mm_st (n := 403) (by decide +kernel) (by decide) rfl,
  mm_gR (by decide +kernel) ((R0_f (by omega) (by omega)).trans (by decide +kernel)),
  fun i => mm_ld (n := 403) (by decide +kernel) (by decide) rfl,
  fun i v => mm_st (n := 403) (by decide +kernel) (by decide) rfl,
  mm_gR (by decide +kernel) ((R0_f (by omega) (by omega)).trans (by decide +kernel)),
  fun i => mm_ld (n := 403) (by decide +kernel) (by decide) rfl,
  fun i v => mm_st (n := 403) (by decide +kernel) (by decide) rfl,
  mm_gR (by decide +kernel) ((R0_f (by omega) (by omega)).trans (by decide +kernel)),
  fun i => mm_ld (n := 403) (by decide +kernel) (by decide) rfl,
  fun i v => mm_st (n := 403) (by decide +kernel) (by decide) rfl,
  mm_gR (by decide +kernel) ((R0_f (by omega) (by omega)).trans (by decide +kernel)),
  fun i => mm_ld (n := 19) (by decide +kernel) (by decide) rfl,
  fun i v => mm_st (n := 19) (by decide +kernel) (by decide) rfl,
  mm_gI (by decide +kernel),
  fun v => mm_pI (by decide +kernel),
  mm_gI (by decide +kernel),
  fun v => mm_pI (by decide +kernel),
  mm_gI (by decide +kernel),
  fun v => mm_pI (by decide +kernel),
  mm_gI (by decide +kernel),
  fun v => mm_pI (by decide +kernel),
  mm_gI (by decide +kernel),
  fun v => mm_pI (by decide +kernel),
  mm_gI (by decide +kernel),
  fun v => mm_pI (by decide +kernel),
  mm_gI (by decide +kernel),
  fun v => mm_pI (by decide +kernel),
  mm_gI (by decide +kernel),
  fun v => mm_pI (by decide +kernel),
  mm_gI (by decide +kernel),
  fun v => mm_pI (by decide +kernel),
  mm_gI (by decide +kernel),
  fun v => mm_pI (by decide +kernel),
  mm_gR (by decide +kernel) ((R0_f (by omega) (by omega)).trans (by decide +kernel)),
  fun i => mm_ld (n := 2) (by decide +kernel) (by decide) rfl,
  fun i v => mm_st (n := 2) (by decide +kernel) (by decide) rfl,
  mm_gR (by decide +kernel) ((R0_f (by omega) (by omega)).trans (by decide +kernel)),
  fun i => mm_ld (n := 2) (by decide +kernel) (by decide) rfl,
  fun i v => mm_st (n := 2) (by decide +kernel) (by decide) rfl,
  mm_gR (by decide +kernel) ((R0_f (by omega) (by omega)).trans (by decide +kernel)),
  fun i => mm_ld (n := 2) (by decide +kernel) (by decide) rfl,
  fun i v => mm_st (n := 2) (by decide +kernel) (by decide) rfl,
  mm_gR (by decide +kernel) ((R0_f (by omega) (by omega)).trans (by decide +kernel)),
  fun i => mm_ld (n := 24) (by decide +kernel) (by decide) rfl,
  fun i v => mm_st (n := 24) (by decide +kernel) (by decide) rfl,
  mm_gR (by decide +kernel) ((R0_f (by omega) (by omega)).trans (by decide +kernel)),
  fun i => mm_ld (n := 24) (by decide +kernel) (by decide) rfl,
  fun i v => mm_st (n := 24) (by decide +kernel) (by decide) rfl,
  mm_gR (by decide +kernel) ((R0_f (by omega) (by omega)).trans (by decide +kernel)),
  fun i => mm_ld (n := 2) (by decide +kernel) (by decide) rfl,
  fun i v => mm_st (n := 2) (by decide +kernel) (by decide) rfl,
  mm_gR (by decide +kernel) ((R0_f (by omega) (by omega)).trans (by decide +kernel)),
  fun i => mm_ld (n := 36) (by decide +kernel) (by decide) rfl,
  fun i v => mm_st (n := 36) (by decide +kernel) (by decide) rfl,
  mm_gR (by decide +kernel) ((R0_f (by omega) (by omega)).trans (by decide +kernel)),
  fun i => mm_ld (n := 36) (by decide +kernel) (by decide) rfl,
  fun i v => mm_st (n := 36) (by decide +kernel) (by decide) rfl,
  mm_gR (by decide +kernel) ((R0_f (by omega) (by omega)).trans (by decide +kernel)),
  fun i => mm_ld (n := 36) (by decide +kernel) (by decide) rfl,
  fun i v => mm_st (n := 36) (by decide +kernel) (by decide) rfl,
  mm_gR (by decide +kernel) ((R0_f (by omega) (by omega)).trans (by decide +kernel)),
  fun i => mm_ld (n := 2) (by decide +kernel) (by decide) rfl,
  fun i v => mm_st (n := 2) (by decide +kernel) (by decide) rfl,
  mm_gR (by decide +kernel) ((R0_f (by omega) (by omega)).trans (by decide +kernel)),
  fun i => mm_ld (n := 6) (by decide +kernel) (by decide) rfl,
  fun i v => mm_st (n := 6) (by decide +kernel) (by decide) rfl,
  mm_gR (by decide +kernel) ((R0_f (by omega) (by omega)).trans (by decide +kernel)),
  fun i => mm_ld (n := 6) (by decide +kernel) (by decide) rfl,
  fun i v => mm_st (n := 6) (by decide +kernel) (by decide) rfl,
  mm_gI (by decide +kernel),
  fun v => mm_pI (by decide +kernel),
  mm_gR (by decide +kernel) ((R0_f (by omega) (by omega)).trans (by decide +kernel)),
  fun i => mm_ld (n := 260) (by decide +kernel) (by decide) rfl,
  fun i v => mm_st (n := 260) (by decide +kernel) (by decide) rfl,
  mm_gR (by decide +kernel) ((R0_f (by omega) (by omega)).trans (by decide +kernel)),
  fun i => mm_ld (n := 260) (by decide +kernel) (by decide) rfl,
  fun i v => mm_st (n := 260) (by decide +kernel) (by decide) rfl,
  mm_gR (by decide +kernel) ((R0_f (by omega) (by omega)).trans (by decide +kernel)),
  fun i => mm_ld (n := 260) (by decide +kernel) (by decide) rfl,
  fun i v => mm_st (n := 260) (by decide +kernel) (by decide) rfl,
  mm_gR (by decide +kernel) ((R0_f (by omega) (by omega)).trans (by decide +kernel)),
  fun i => mm_ld (n := 260) (by decide +kernel) (by decide) rfl,
  fun i v => mm_st (n := 260) (by decide +kernel) (by decide) rfl,
  mm_gR (by decide +kernel) ((R0_f (by omega) (by omega)).trans (by decide +kernel)),
  fun i => mm_ld (n := 260) (by decide +kernel) (by decide) rfl,
  fun i v => mm_st (n := 260) (by decide +kernel) (by decide) rfl,
  mm_gI (by decide +kernel),
  fun v => mm_pI (by decide +kernel),
  mm_gR (by decide +kernel) ((R0_f (by omega) (by omega)).trans (by decide +kernel)),
  fun i => mm_ld (n := 840) (by decide +kernel) (by decide) rfl,
  fun i v => mm_st (n := 840) (by decide +kernel) (by decide) rfl,
  mm_gR (by decide +kernel) ((R0_f (by omega) (by omega)).trans (by decide +kernel)),
  fun i => mm_ld (n := 840) (by decide +kernel) (by decide) rfl,
  fun i v => mm_st (n := 840) (by decide +kernel) (by decide) rfl,
  mm_gR (by decide +kernel) ((R0_f (by omega) (by omega)).trans (by decide +kernel)),
  fun i => mm_ld (n := 36) (by decide +kernel) (by decide) rfl,
  fun i v => mm_st (n := 36) (by decide +kernel) (by decide) rfl,
  mm_gR (by decide +kernel) ((R0_f (by omega) (by omega)).trans (by decide +kernel)),
  fun i => mm_ld (n := 64) (by decide +kernel) (by decide) rfl,
  fun i v => mm_st (n := 64) (by decide +kernel) (by decide) rfl,
  mm_gI (by decide +kernel),
  fun v => mm_pI (by decide +kernel),
  mm_gR (by decide +kernel) ((R0_f (by omega) (by omega)).trans (by decide +kernel)),
  fun i => mm_ld (n := 9) (by decide +kernel) (by decide) rfl,
  fun i v => mm_st (n := 9) (by decide +kernel) (by decide) rfl,
  mm_gR (by decide +kernel) ((R0_f (by omega) (by omega)).trans (by decide +kernel)),
  fun i => mm_ld (n := 400) (by decide +kernel) (by decide) rfl,
  fun i v => mm_st (n := 400) (by decide +kernel) (by decide) rfl,
  mm_gI (by decide +kernel),
  mm_gR (by decide +kernel) ((R0_f (by omega) (by omega)).trans (by decide +kernel)),
  fun i => mm_ld (n := 75) (by decide +kernel) (by decide) rfl,
  fun i v => mm_st (n := 75) (by decide +kernel) (by decide) rfl,
  mm_gR (by decide +kernel) ((R0_f (by omega) (by omega)).trans (by decide +kernel)),
  fun i => mm_ld (n := 75) (by decide +kernel) (by decide) rfl,
  fun i v => mm_st (n := 75) (by decide +kernel) (by decide) rfl,
  mm_gI (by decide +kernel),
  fun v => mm_pI (by decide +kernel),
  mm_gR (by decide +kernel) ((R0_f (by omega) (by omega)).trans (by decide +kernel)),
  fun i => mm_ld (n := 36) (by decide +kernel) (by decide) rfl,
  fun i v => mm_st (n := 36) (by decide +kernel) (by decide) rfl,
  mm_gR (by decide +kernel) ((R0_f (by omega) (by omega)).trans (by decide +kernel)),
  fun i => mm_ld (n := 2) (by decide +kernel) (by decide) rfl,
  fun i v => mm_st (n := 2) (by decide +kernel) (by decide) rfl,
  mm_gR (by decide +kernel) ((R0_f (by omega) (by omega)).trans (by decide +kernel)),
  fun i => mm_ld (n := 18) (by decide +kernel) (by decide) rfl,
  fun i v => mm_st (n := 18) (by decide +kernel) (by decide) rfl,
  mm_gI (by decide +kernel),
  fun v => mm_pI (by decide +kernel),
  mm_gR (by decide +kernel) ((R0_f (by omega) (by omega)).trans (by decide +kernel)),
  fun i => mm_ld (n := 3000) (by decide +kernel) (by decide) rfl,
  fun i v => mm_st (n := 3000) (by decide +kernel) (by decide) rfl,
  mm_gR (by decide +kernel) ((R0_f (by omega) (by omega)).trans (by decide +kernel)),
  fun i => mm_ld (n := 2368) (by decide +kernel) (by decide) rfl,
  fun i v => mm_st (n := 2368) (by decide +kernel) (by decide) rfl,
  mm_gR (by decide +kernel) ((R0_f (by omega) (by omega)).trans (by decide +kernel)),
  fun i => mm_ld (n := 2368) (by decide +kernel) (by decide) rfl,
  fun i v => mm_st (n := 2368) (by decide +kernel) (by decide) rfl,
  mm_gR (by decide +kernel) ((R0_f (by omega) (by omega)).trans (by decide +kernel)),
  fun i => mm_ld (n := 36) (by decide +kernel) (by decide) rfl,
  fun i v => mm_st (n := 36) (by decide +kernel) (by decide) rfl,
  mm_gR (by decide +kernel) ((R0_f (by omega) (by omega)).trans (by decide +kernel)),
  fun i => mm_ld (n := 36) (by decide +kernel) (by decide) rfl,
  fun i v => mm_st (n := 36) (by decide +kernel) (by decide) rfl,
  mm_gR (by decide +kernel) ((R0_f (by omega) (by omega)).trans (by decide +kernel)),
  fun i => mm_ld (n := 36) (by decide +kernel) (by decide) rfl,
  fun i v => mm_st (n := 36) (by decide +kernel) (by decide) rfl,
  mm_gR (by decide +kernel) ((R0_f (by omega) (by omega)).trans (by decide +kernel)),
  fun i => mm_ld (n := 36) (by decide +kernel) (by decide) rfl,
  fun i v => mm_st (n := 36) (by decide +kernel) (by decide) rfl,
  mm_gR (by decide +kernel) ((R0_f (by omega) (by omega)).trans (by decide +kernel)),
  fun i => mm_ld (n := 49) (by decide +kernel) (by decide) rfl,
  fun i v => mm_st (n := 49) (by decide +kernel) (by decide) rfl,
  mm_gR (by decide +kernel) ((R0_f (by omega) (by omega)).trans (by decide +kernel)),
  fun i => mm_ld (n := 49) (by decide +kernel) (by decide) rfl,
  fun i v => mm_st (n := 49) (by decide +kernel) (by decide) rfl,
  mm_gI (by decide +kernel),
  fun v => mm_pI (by decide +kernel),
  mm_gR (by decide +kernel) ((R0_f (by omega) (by omega)).trans (by decide +kernel)),
  fun i => mm_ld (n := 20) (by decide +kernel) (by decide) rfl,
  fun i v => mm_st (n := 20) (by decide +kernel) (by decide) rfl,
  mm_gR (by decide +kernel) ((R0_f (by omega) (by omega)).trans (by decide +kernel)),
  fun i => mm_ld (n := 20) (by decide +kernel) (by decide) rfl,
  fun i v => mm_st (n := 20) (by decide +kernel) (by decide) rfl,
  mm_gR (by decide +kernel) ((R0_f (by omega) (by omega)).trans (by decide +kernel)),
  fun i => mm_ld (n := 3) (by decide +kernel) (by decide) rfl,
  fun i v => mm_st (n := 3) (by decide +kernel) (by decide) rfl,
  mm_gR (by decide +kernel) ((R0_f (by omega) (by omega)).trans (by decide +kernel)),
  fun i => mm_ld (n := 225) (by decide +kernel) (by decide) rfl,
  fun i v => mm_st (n := 225) (by decide +kernel) (by decide) rfl,
  fun x f => mm_call (by decide +kernel)⟩
theorem FState_k : ∀ s ∈ stL, (K0 s).1 = 6 ∧ s < 418 ∧ s ≠ 0 ∧ s ≠ 29 ∧ rF s 0 = some (s + 1) ∧ (K0 (s + 1) = (20, 18) ∧ s + 1 < 418) ∧ rF s 1 = some (s + 2) ∧ (K0 (s + 2) = (22, 18) ∧ s + 2 < 418) ∧ rF s 2 = some (s + 3) ∧ (K0 (s + 3) = (20, 18) ∧ s + 3 < 418) ∧ rF s 3 = some (s + 4) ∧ (K0 (s + 4) = (20, 18) ∧ s + 4 < 418) ∧ rF s 4 = some (s + 5) ∧ (K0 (s + 5) = (20, 36) ∧ s + 5 < 418) := by decide +kernel
theorem FState {t d rt : Nat} {I : Nat → Nat → Int} {s : Nat} (h : s ∈ stL) : jm_gR 6 0 (mm t d rt I) s = some (s + 1) ∧
  (∀ i, jm_ld 20 (mm t d rt I) (s + 1) i = if 0 ≤ jd_wr i ∧ jd_wr i < 18 then some (I (s + 1) (jd_wr i).toNat) else none) ∧
  (∀ i v, jm_st 20 (mm t d rt I) (s + 1) i v = if 0 ≤ jd_wr i ∧ jd_wr i < 18 then some (mm t d rt (up I (s + 1) (jd_wr i).toNat v)) else none) ∧
  jm_gR 6 1 (mm t d rt I) s = some (s + 2) ∧
  (∀ i, jm_ld 22 (mm t d rt I) (s + 2) i = if 0 ≤ jd_wr i ∧ jd_wr i < 18 then some (I (s + 2) (jd_wr i).toNat) else none) ∧
  (∀ i v, jm_st 22 (mm t d rt I) (s + 2) i v = if 0 ≤ jd_wr i ∧ jd_wr i < 18 then some (mm t d rt (up I (s + 2) (jd_wr i).toNat v)) else none) ∧
  jm_gR 6 2 (mm t d rt I) s = some (s + 3) ∧
  (∀ i, jm_ld 20 (mm t d rt I) (s + 3) i = if 0 ≤ jd_wr i ∧ jd_wr i < 18 then some (I (s + 3) (jd_wr i).toNat) else none) ∧
  (∀ i v, jm_st 20 (mm t d rt I) (s + 3) i v = if 0 ≤ jd_wr i ∧ jd_wr i < 18 then some (mm t d rt (up I (s + 3) (jd_wr i).toNat v)) else none) ∧
  jm_gR 6 3 (mm t d rt I) s = some (s + 4) ∧
  (∀ i, jm_ld 20 (mm t d rt I) (s + 4) i = if 0 ≤ jd_wr i ∧ jd_wr i < 18 then some (I (s + 4) (jd_wr i).toNat) else none) ∧
  (∀ i v, jm_st 20 (mm t d rt I) (s + 4) i v = if 0 ≤ jd_wr i ∧ jd_wr i < 18 then some (mm t d rt (up I (s + 4) (jd_wr i).toNat v)) else none) ∧
  jm_gR 6 4 (mm t d rt I) s = some (s + 5) ∧
  (∀ i, jm_ld 20 (mm t d rt I) (s + 5) i = if 0 ≤ jd_wr i ∧ jd_wr i < 36 then some (I (s + 5) (jd_wr i).toNat) else none) ∧
  (∀ i v, jm_st 20 (mm t d rt I) (s + 5) i v = if 0 ≤ jd_wr i ∧ jd_wr i < 36 then some (mm t d rt (up I (s + 5) (jd_wr i).toNat v)) else none) ∧
  jm_gI 6 5 (mm t d rt I) s = some (I s 5) ∧
  (∀ v, jm_pI 6 5 (mm t d rt I) s v = some (mm t d rt (up I s 5 v))) ∧
  jm_gI 6 6 (mm t d rt I) s = some (I s 6) ∧
  (∀ v, jm_pI 6 6 (mm t d rt I) s v = some (mm t d rt (up I s 6 v))) ∧
  jm_gI 6 7 (mm t d rt I) s = some (I s 7) ∧
  (∀ v, jm_pI 6 7 (mm t d rt I) s v = some (mm t d rt (up I s 7 v))) ∧
  jm_gI 6 8 (mm t d rt I) s = some (I s 8) ∧
  (∀ v, jm_pI 6 8 (mm t d rt I) s v = some (mm t d rt (up I s 8 v))) ∧
  jm_gI 6 9 (mm t d rt I) s = some (I s 9) ∧
  (∀ v, jm_pI 6 9 (mm t d rt I) s v = some (mm t d rt (up I s 9 v))) ∧
  (∀ (y0 : Option (Int × jMem)) (g0 : Int → jMem → Option (Int × jMem)), jcall 6 (mm t d rt I) s y0 g0 = jbd y0 g0) :=
  have hk := FState_k s h
  ⟨mm_gR ⟨hk.1, hk.2.1⟩ ((R0_f (Or.inl hk.2.2.1) (Or.inl hk.2.2.2.1)).trans hk.2.2.2.2.1),
  fun i => mm_ld (n := 18) hk.2.2.2.2.2.1.1 hk.2.2.2.2.2.1.2 rfl,
  fun i v => mm_st (n := 18) hk.2.2.2.2.2.1.1 hk.2.2.2.2.2.1.2 rfl,
  mm_gR ⟨hk.1, hk.2.1⟩ ((R0_f (Or.inl hk.2.2.1) (Or.inl hk.2.2.2.1)).trans hk.2.2.2.2.2.2.1),
  fun i => mm_ld (n := 18) hk.2.2.2.2.2.2.2.1.1 hk.2.2.2.2.2.2.2.1.2 rfl,
  fun i v => mm_st (n := 18) hk.2.2.2.2.2.2.2.1.1 hk.2.2.2.2.2.2.2.1.2 rfl,
  mm_gR ⟨hk.1, hk.2.1⟩ ((R0_f (Or.inl hk.2.2.1) (Or.inl hk.2.2.2.1)).trans hk.2.2.2.2.2.2.2.2.1),
  fun i => mm_ld (n := 18) hk.2.2.2.2.2.2.2.2.2.1.1 hk.2.2.2.2.2.2.2.2.2.1.2 rfl,
  fun i v => mm_st (n := 18) hk.2.2.2.2.2.2.2.2.2.1.1 hk.2.2.2.2.2.2.2.2.2.1.2 rfl,
  mm_gR ⟨hk.1, hk.2.1⟩ ((R0_f (Or.inl hk.2.2.1) (Or.inl hk.2.2.2.1)).trans hk.2.2.2.2.2.2.2.2.2.2.1),
  fun i => mm_ld (n := 18) hk.2.2.2.2.2.2.2.2.2.2.2.1.1 hk.2.2.2.2.2.2.2.2.2.2.2.1.2 rfl,
  fun i v => mm_st (n := 18) hk.2.2.2.2.2.2.2.2.2.2.2.1.1 hk.2.2.2.2.2.2.2.2.2.2.2.1.2 rfl,
  mm_gR ⟨hk.1, hk.2.1⟩ ((R0_f (Or.inl hk.2.2.1) (Or.inl hk.2.2.2.1)).trans hk.2.2.2.2.2.2.2.2.2.2.2.2.1),
  fun i => mm_ld (n := 36) hk.2.2.2.2.2.2.2.2.2.2.2.2.2.1 hk.2.2.2.2.2.2.2.2.2.2.2.2.2.2 rfl,
  fun i v => mm_st (n := 36) hk.2.2.2.2.2.2.2.2.2.2.2.2.2.1 hk.2.2.2.2.2.2.2.2.2.2.2.2.2.2 rfl,
  mm_gI ⟨hk.1, hk.2.1⟩,
  fun v => mm_pI ⟨hk.1, hk.2.1⟩,
  mm_gI ⟨hk.1, hk.2.1⟩,
  fun v => mm_pI ⟨hk.1, hk.2.1⟩,
  mm_gI ⟨hk.1, hk.2.1⟩,
  fun v => mm_pI ⟨hk.1, hk.2.1⟩,
  mm_gI ⟨hk.1, hk.2.1⟩,
  fun v => mm_pI ⟨hk.1, hk.2.1⟩,
  mm_gI ⟨hk.1, hk.2.1⟩,
  fun v => mm_pI ⟨hk.1, hk.2.1⟩,
  fun x f => mm_call ⟨hk.1, hk.2.1⟩⟩
theorem FRows_k : ∀ r ∈ [311, 324], (K0 r).1 = 4 ∧ r < 418 ∧ r ≠ 0 ∧ r ≠ 29 ∧ rF r 0 = some (r + 1) ∧ (K0 (r + 1) = (20, 7) ∧ r + 1 < 418) ∧ rF r 1 = some (r + 2) ∧ (K0 (r + 2) = (20, 7) ∧ r + 2 < 418) ∧ rF r 2 = some (r + 3) ∧ (K0 (r + 3) = (20, 7) ∧ r + 3 < 418) ∧ rF r 3 = some (r + 12) ∧ (K0 (r + 12) = (20, 64) ∧ r + 12 < 418) ∧ rF r 4 = some (r + 4) := by decide +kernel
theorem FRows {t d rt : Nat} {I : Nat → Nat → Int} {r : Nat} (h : r ∈ [311, 324]) : jm_gR 4 0 (mm t d rt I) r = some (r + 1) ∧
  (∀ i, jm_ld 20 (mm t d rt I) (r + 1) i = if 0 ≤ jd_wr i ∧ jd_wr i < 7 then some (I (r + 1) (jd_wr i).toNat) else none) ∧
  (∀ i v, jm_st 20 (mm t d rt I) (r + 1) i v = if 0 ≤ jd_wr i ∧ jd_wr i < 7 then some (mm t d rt (up I (r + 1) (jd_wr i).toNat v)) else none) ∧
  jm_gR 4 1 (mm t d rt I) r = some (r + 2) ∧
  (∀ i, jm_ld 20 (mm t d rt I) (r + 2) i = if 0 ≤ jd_wr i ∧ jd_wr i < 7 then some (I (r + 2) (jd_wr i).toNat) else none) ∧
  (∀ i v, jm_st 20 (mm t d rt I) (r + 2) i v = if 0 ≤ jd_wr i ∧ jd_wr i < 7 then some (mm t d rt (up I (r + 2) (jd_wr i).toNat v)) else none) ∧
  jm_gR 4 2 (mm t d rt I) r = some (r + 3) ∧
  (∀ i, jm_ld 20 (mm t d rt I) (r + 3) i = if 0 ≤ jd_wr i ∧ jd_wr i < 7 then some (I (r + 3) (jd_wr i).toNat) else none) ∧
  (∀ i v, jm_st 20 (mm t d rt I) (r + 3) i v = if 0 ≤ jd_wr i ∧ jd_wr i < 7 then some (mm t d rt (up I (r + 3) (jd_wr i).toNat v)) else none) ∧
  jm_gR 4 3 (mm t d rt I) r = some (r + 12) ∧
  (∀ i, jm_ld 20 (mm t d rt I) (r + 12) i = if 0 ≤ jd_wr i ∧ jd_wr i < 64 then some (I (r + 12) (jd_wr i).toNat) else none) ∧
  (∀ i v, jm_st 20 (mm t d rt I) (r + 12) i v = if 0 ≤ jd_wr i ∧ jd_wr i < 64 then some (mm t d rt (up I (r + 12) (jd_wr i).toNat v)) else none) ∧
  jm_gR 4 4 (mm t d rt I) r = some (r + 4) ∧
  jm_gI 4 5 (mm t d rt I) r = some (I r 5) ∧
  (∀ v, jm_pI 4 5 (mm t d rt I) r v = some (mm t d rt (up I r 5 v))) ∧
  jm_gI 4 6 (mm t d rt I) r = some (I r 6) ∧
  (∀ v, jm_pI 4 6 (mm t d rt I) r v = some (mm t d rt (up I r 6 v))) ∧
  jm_gI 4 7 (mm t d rt I) r = some (I r 7) ∧
  (∀ v, jm_pI 4 7 (mm t d rt I) r v = some (mm t d rt (up I r 7 v))) ∧
  (∀ (y0 : Option (Int × jMem)) (g0 : Int → jMem → Option (Int × jMem)), jcall 4 (mm t d rt I) r y0 g0 = jbd y0 g0) :=
  have hk := FRows_k r h
  ⟨mm_gR ⟨hk.1, hk.2.1⟩ ((R0_f (Or.inl hk.2.2.1) (Or.inl hk.2.2.2.1)).trans hk.2.2.2.2.1),
  fun i => mm_ld (n := 7) hk.2.2.2.2.2.1.1 hk.2.2.2.2.2.1.2 rfl,
  fun i v => mm_st (n := 7) hk.2.2.2.2.2.1.1 hk.2.2.2.2.2.1.2 rfl,
  mm_gR ⟨hk.1, hk.2.1⟩ ((R0_f (Or.inl hk.2.2.1) (Or.inl hk.2.2.2.1)).trans hk.2.2.2.2.2.2.1),
  fun i => mm_ld (n := 7) hk.2.2.2.2.2.2.2.1.1 hk.2.2.2.2.2.2.2.1.2 rfl,
  fun i v => mm_st (n := 7) hk.2.2.2.2.2.2.2.1.1 hk.2.2.2.2.2.2.2.1.2 rfl,
  mm_gR ⟨hk.1, hk.2.1⟩ ((R0_f (Or.inl hk.2.2.1) (Or.inl hk.2.2.2.1)).trans hk.2.2.2.2.2.2.2.2.1),
  fun i => mm_ld (n := 7) hk.2.2.2.2.2.2.2.2.2.1.1 hk.2.2.2.2.2.2.2.2.2.1.2 rfl,
  fun i v => mm_st (n := 7) hk.2.2.2.2.2.2.2.2.2.1.1 hk.2.2.2.2.2.2.2.2.2.1.2 rfl,
  mm_gR ⟨hk.1, hk.2.1⟩ ((R0_f (Or.inl hk.2.2.1) (Or.inl hk.2.2.2.1)).trans hk.2.2.2.2.2.2.2.2.2.2.1),
  fun i => mm_ld (n := 64) hk.2.2.2.2.2.2.2.2.2.2.2.1.1 hk.2.2.2.2.2.2.2.2.2.2.2.1.2 rfl,
  fun i v => mm_st (n := 64) hk.2.2.2.2.2.2.2.2.2.2.2.1.1 hk.2.2.2.2.2.2.2.2.2.2.2.1.2 rfl,
  mm_gR ⟨hk.1, hk.2.1⟩ ((R0_f (Or.inl hk.2.2.1) (Or.inl hk.2.2.2.1)).trans hk.2.2.2.2.2.2.2.2.2.2.2.2),
  mm_gI ⟨hk.1, hk.2.1⟩,
  fun v => mm_pI ⟨hk.1, hk.2.1⟩,
  mm_gI ⟨hk.1, hk.2.1⟩,
  fun v => mm_pI ⟨hk.1, hk.2.1⟩,
  mm_gI ⟨hk.1, hk.2.1⟩,
  fun v => mm_pI ⟨hk.1, hk.2.1⟩,
  fun x f => mm_call ⟨hk.1, hk.2.1⟩⟩
theorem FText_k : ∀ x ∈ [3, 16], (K0 x).1 = 8 ∧ x < 418 ∧ x ≠ 0 ∧ x ≠ 29 ∧ rF x 5 = some (x + 1) ∧ (K0 (x + 1) = (20, 12) ∧ x + 1 < 418) ∧ rF x 6 = some (x + 2) ∧ (K0 (x + 2) = (20, 12) ∧ x + 2 < 418) ∧ rF x 7 = some (x + 3) ∧ (K0 (x + 3) = (20, 18) ∧ x + 3 < 418) ∧ rF x 8 = some (x + 4) ∧ (K0 (x + 4) = (20, 18) ∧ x + 4 < 418) ∧ rF x 9 = some (x + 5) ∧ (K0 (x + 5) = (20, 18) ∧ x + 5 < 418) ∧ rF x 10 = some (x + 6) ∧ (K0 (x + 6) = (22, 36) ∧ x + 6 < 418) ∧ rF x 11 = some (x + 7) ∧ (K0 (x + 7) = (22, 36) ∧ x + 7 < 418) ∧ rF x 12 = some (x + 8) := by decide +kernel
theorem FText {t d rt : Nat} {I : Nat → Nat → Int} {x : Nat} (h : x ∈ [3, 16]) : jm_gI 8 0 (mm t d rt I) x = some (I x 0) ∧
  (∀ v, jm_pI 8 0 (mm t d rt I) x v = some (mm t d rt (up I x 0 v))) ∧
  jm_gI 8 1 (mm t d rt I) x = some (I x 1) ∧
  (∀ v, jm_pI 8 1 (mm t d rt I) x v = some (mm t d rt (up I x 1 v))) ∧
  jm_gI 8 2 (mm t d rt I) x = some (I x 2) ∧
  (∀ v, jm_pI 8 2 (mm t d rt I) x v = some (mm t d rt (up I x 2 v))) ∧
  jm_gI 8 3 (mm t d rt I) x = some (I x 3) ∧
  (∀ v, jm_pI 8 3 (mm t d rt I) x v = some (mm t d rt (up I x 3 v))) ∧
  jm_gI 8 4 (mm t d rt I) x = some (I x 4) ∧
  (∀ v, jm_pI 8 4 (mm t d rt I) x v = some (mm t d rt (up I x 4 v))) ∧
  jm_gR 8 5 (mm t d rt I) x = some (x + 1) ∧
  (∀ i, jm_ld 20 (mm t d rt I) (x + 1) i = if 0 ≤ jd_wr i ∧ jd_wr i < 12 then some (I (x + 1) (jd_wr i).toNat) else none) ∧
  (∀ i v, jm_st 20 (mm t d rt I) (x + 1) i v = if 0 ≤ jd_wr i ∧ jd_wr i < 12 then some (mm t d rt (up I (x + 1) (jd_wr i).toNat v)) else none) ∧
  jm_gR 8 6 (mm t d rt I) x = some (x + 2) ∧
  (∀ i, jm_ld 20 (mm t d rt I) (x + 2) i = if 0 ≤ jd_wr i ∧ jd_wr i < 12 then some (I (x + 2) (jd_wr i).toNat) else none) ∧
  (∀ i v, jm_st 20 (mm t d rt I) (x + 2) i v = if 0 ≤ jd_wr i ∧ jd_wr i < 12 then some (mm t d rt (up I (x + 2) (jd_wr i).toNat v)) else none) ∧
  jm_gR 8 7 (mm t d rt I) x = some (x + 3) ∧
  (∀ i, jm_ld 20 (mm t d rt I) (x + 3) i = if 0 ≤ jd_wr i ∧ jd_wr i < 18 then some (I (x + 3) (jd_wr i).toNat) else none) ∧
  (∀ i v, jm_st 20 (mm t d rt I) (x + 3) i v = if 0 ≤ jd_wr i ∧ jd_wr i < 18 then some (mm t d rt (up I (x + 3) (jd_wr i).toNat v)) else none) ∧
  jm_gR 8 8 (mm t d rt I) x = some (x + 4) ∧
  (∀ i, jm_ld 20 (mm t d rt I) (x + 4) i = if 0 ≤ jd_wr i ∧ jd_wr i < 18 then some (I (x + 4) (jd_wr i).toNat) else none) ∧
  (∀ i v, jm_st 20 (mm t d rt I) (x + 4) i v = if 0 ≤ jd_wr i ∧ jd_wr i < 18 then some (mm t d rt (up I (x + 4) (jd_wr i).toNat v)) else none) ∧
  jm_gR 8 9 (mm t d rt I) x = some (x + 5) ∧
  (∀ i, jm_ld 20 (mm t d rt I) (x + 5) i = if 0 ≤ jd_wr i ∧ jd_wr i < 18 then some (I (x + 5) (jd_wr i).toNat) else none) ∧
  (∀ i v, jm_st 20 (mm t d rt I) (x + 5) i v = if 0 ≤ jd_wr i ∧ jd_wr i < 18 then some (mm t d rt (up I (x + 5) (jd_wr i).toNat v)) else none) ∧
  jm_gR 8 10 (mm t d rt I) x = some (x + 6) ∧
  (∀ i, jm_ld 22 (mm t d rt I) (x + 6) i = if 0 ≤ jd_wr i ∧ jd_wr i < 36 then some (I (x + 6) (jd_wr i).toNat) else none) ∧
  (∀ i v, jm_st 22 (mm t d rt I) (x + 6) i v = if 0 ≤ jd_wr i ∧ jd_wr i < 36 then some (mm t d rt (up I (x + 6) (jd_wr i).toNat v)) else none) ∧
  jm_gR 8 11 (mm t d rt I) x = some (x + 7) ∧
  (∀ i, jm_ld 22 (mm t d rt I) (x + 7) i = if 0 ≤ jd_wr i ∧ jd_wr i < 36 then some (I (x + 7) (jd_wr i).toNat) else none) ∧
  (∀ i v, jm_st 22 (mm t d rt I) (x + 7) i v = if 0 ≤ jd_wr i ∧ jd_wr i < 36 then some (mm t d rt (up I (x + 7) (jd_wr i).toNat v)) else none) ∧
  jm_gR 8 12 (mm t d rt I) x = some (x + 8) ∧
  (∀ (y0 : Option (Int × jMem)) (g0 : Int → jMem → Option (Int × jMem)), jcall 8 (mm t d rt I) x y0 g0 = jbd y0 g0) :=
  have hk := FText_k x h
  ⟨mm_gI ⟨hk.1, hk.2.1⟩,
  fun v => mm_pI ⟨hk.1, hk.2.1⟩,
  mm_gI ⟨hk.1, hk.2.1⟩,
  fun v => mm_pI ⟨hk.1, hk.2.1⟩,
  mm_gI ⟨hk.1, hk.2.1⟩,
  fun v => mm_pI ⟨hk.1, hk.2.1⟩,
  mm_gI ⟨hk.1, hk.2.1⟩,
  fun v => mm_pI ⟨hk.1, hk.2.1⟩,
  mm_gI ⟨hk.1, hk.2.1⟩,
  fun v => mm_pI ⟨hk.1, hk.2.1⟩,
  mm_gR ⟨hk.1, hk.2.1⟩ ((R0_f (Or.inl hk.2.2.1) (Or.inl hk.2.2.2.1)).trans hk.2.2.2.2.1),
  fun i => mm_ld (n := 12) hk.2.2.2.2.2.1.1 hk.2.2.2.2.2.1.2 rfl,
  fun i v => mm_st (n := 12) hk.2.2.2.2.2.1.1 hk.2.2.2.2.2.1.2 rfl,
  mm_gR ⟨hk.1, hk.2.1⟩ ((R0_f (Or.inl hk.2.2.1) (Or.inl hk.2.2.2.1)).trans hk.2.2.2.2.2.2.1),
  fun i => mm_ld (n := 12) hk.2.2.2.2.2.2.2.1.1 hk.2.2.2.2.2.2.2.1.2 rfl,
  fun i v => mm_st (n := 12) hk.2.2.2.2.2.2.2.1.1 hk.2.2.2.2.2.2.2.1.2 rfl,
  mm_gR ⟨hk.1, hk.2.1⟩ ((R0_f (Or.inl hk.2.2.1) (Or.inl hk.2.2.2.1)).trans hk.2.2.2.2.2.2.2.2.1),
  fun i => mm_ld (n := 18) hk.2.2.2.2.2.2.2.2.2.1.1 hk.2.2.2.2.2.2.2.2.2.1.2 rfl,
  fun i v => mm_st (n := 18) hk.2.2.2.2.2.2.2.2.2.1.1 hk.2.2.2.2.2.2.2.2.2.1.2 rfl,
  mm_gR ⟨hk.1, hk.2.1⟩ ((R0_f (Or.inl hk.2.2.1) (Or.inl hk.2.2.2.1)).trans hk.2.2.2.2.2.2.2.2.2.2.1),
  fun i => mm_ld (n := 18) hk.2.2.2.2.2.2.2.2.2.2.2.1.1 hk.2.2.2.2.2.2.2.2.2.2.2.1.2 rfl,
  fun i v => mm_st (n := 18) hk.2.2.2.2.2.2.2.2.2.2.2.1.1 hk.2.2.2.2.2.2.2.2.2.2.2.1.2 rfl,
  mm_gR ⟨hk.1, hk.2.1⟩ ((R0_f (Or.inl hk.2.2.1) (Or.inl hk.2.2.2.1)).trans hk.2.2.2.2.2.2.2.2.2.2.2.2.1),
  fun i => mm_ld (n := 18) hk.2.2.2.2.2.2.2.2.2.2.2.2.2.1.1 hk.2.2.2.2.2.2.2.2.2.2.2.2.2.1.2 rfl,
  fun i v => mm_st (n := 18) hk.2.2.2.2.2.2.2.2.2.2.2.2.2.1.1 hk.2.2.2.2.2.2.2.2.2.2.2.2.2.1.2 rfl,
  mm_gR ⟨hk.1, hk.2.1⟩ ((R0_f (Or.inl hk.2.2.1) (Or.inl hk.2.2.2.1)).trans hk.2.2.2.2.2.2.2.2.2.2.2.2.2.2.1),
  fun i => mm_ld (n := 36) hk.2.2.2.2.2.2.2.2.2.2.2.2.2.2.2.1.1 hk.2.2.2.2.2.2.2.2.2.2.2.2.2.2.2.1.2 rfl,
  fun i v => mm_st (n := 36) hk.2.2.2.2.2.2.2.2.2.2.2.2.2.2.2.1.1 hk.2.2.2.2.2.2.2.2.2.2.2.2.2.2.2.1.2 rfl,
  mm_gR ⟨hk.1, hk.2.1⟩ ((R0_f (Or.inl hk.2.2.1) (Or.inl hk.2.2.2.1)).trans hk.2.2.2.2.2.2.2.2.2.2.2.2.2.2.2.2.1),
  fun i => mm_ld (n := 36) hk.2.2.2.2.2.2.2.2.2.2.2.2.2.2.2.2.2.1.1 hk.2.2.2.2.2.2.2.2.2.2.2.2.2.2.2.2.2.1.2 rfl,
  fun i v => mm_st (n := 36) hk.2.2.2.2.2.2.2.2.2.2.2.2.2.2.2.2.2.1.1 hk.2.2.2.2.2.2.2.2.2.2.2.2.2.2.2.2.2.1.2 rfl,
  mm_gR ⟨hk.1, hk.2.1⟩ ((R0_f (Or.inl hk.2.2.1) (Or.inl hk.2.2.2.1)).trans hk.2.2.2.2.2.2.2.2.2.2.2.2.2.2.2.2.2.2),
  fun x f => mm_call ⟨hk.1, hk.2.1⟩⟩
theorem FLaws_k : ∀ l ∈ [11, 24], (K0 l).1 = 2 ∧ l < 418 ∧ l ≠ 0 ∧ l ≠ 29 ∧ rF l 0 = some (l + 1) ∧ (K0 (l + 1) = (20, 404) ∧ l + 1 < 418) ∧ rF l 1 = some (l + 2) ∧ (K0 (l + 2) = (20, 404) ∧ l + 2 < 418) ∧ rF l 2 = some (l + 3) ∧ (K0 (l + 3) = (20, 3) ∧ l + 3 < 418) ∧ rF l 3 = some (l + 4) ∧ (K0 (l + 4) = (20, 32) ∧ l + 4 < 418) := by decide +kernel
theorem FLaws {t d rt : Nat} {I : Nat → Nat → Int} {l : Nat} (h : l ∈ [11, 24]) : jm_gR 2 0 (mm t d rt I) l = some (l + 1) ∧
  (∀ i, jm_ld 20 (mm t d rt I) (l + 1) i = if 0 ≤ jd_wr i ∧ jd_wr i < 404 then some (I (l + 1) (jd_wr i).toNat) else none) ∧
  (∀ i v, jm_st 20 (mm t d rt I) (l + 1) i v = if 0 ≤ jd_wr i ∧ jd_wr i < 404 then some (mm t d rt (up I (l + 1) (jd_wr i).toNat v)) else none) ∧
  jm_gR 2 1 (mm t d rt I) l = some (l + 2) ∧
  (∀ i, jm_ld 20 (mm t d rt I) (l + 2) i = if 0 ≤ jd_wr i ∧ jd_wr i < 404 then some (I (l + 2) (jd_wr i).toNat) else none) ∧
  (∀ i v, jm_st 20 (mm t d rt I) (l + 2) i v = if 0 ≤ jd_wr i ∧ jd_wr i < 404 then some (mm t d rt (up I (l + 2) (jd_wr i).toNat v)) else none) ∧
  jm_gR 2 2 (mm t d rt I) l = some (l + 3) ∧
  (∀ i, jm_ld 20 (mm t d rt I) (l + 3) i = if 0 ≤ jd_wr i ∧ jd_wr i < 3 then some (I (l + 3) (jd_wr i).toNat) else none) ∧
  (∀ i v, jm_st 20 (mm t d rt I) (l + 3) i v = if 0 ≤ jd_wr i ∧ jd_wr i < 3 then some (mm t d rt (up I (l + 3) (jd_wr i).toNat v)) else none) ∧
  jm_gR 2 3 (mm t d rt I) l = some (l + 4) ∧
  (∀ i, jm_ld 20 (mm t d rt I) (l + 4) i = if 0 ≤ jd_wr i ∧ jd_wr i < 32 then some (I (l + 4) (jd_wr i).toNat) else none) ∧
  (∀ i v, jm_st 20 (mm t d rt I) (l + 4) i v = if 0 ≤ jd_wr i ∧ jd_wr i < 32 then some (mm t d rt (up I (l + 4) (jd_wr i).toNat v)) else none) ∧
  jm_gI 2 4 (mm t d rt I) l = some (I l 4) ∧
  (∀ v, jm_pI 2 4 (mm t d rt I) l v = some (mm t d rt (up I l 4 v))) ∧
  (∀ (y0 : Option (Int × jMem)) (g0 : Int → jMem → Option (Int × jMem)), jcall 2 (mm t d rt I) l y0 g0 = jbd y0 g0) :=
  have hk := FLaws_k l h
  ⟨mm_gR ⟨hk.1, hk.2.1⟩ ((R0_f (Or.inl hk.2.2.1) (Or.inl hk.2.2.2.1)).trans hk.2.2.2.2.1),
  fun i => mm_ld (n := 404) hk.2.2.2.2.2.1.1 hk.2.2.2.2.2.1.2 rfl,
  fun i v => mm_st (n := 404) hk.2.2.2.2.2.1.1 hk.2.2.2.2.2.1.2 rfl,
  mm_gR ⟨hk.1, hk.2.1⟩ ((R0_f (Or.inl hk.2.2.1) (Or.inl hk.2.2.2.1)).trans hk.2.2.2.2.2.2.1),
  fun i => mm_ld (n := 404) hk.2.2.2.2.2.2.2.1.1 hk.2.2.2.2.2.2.2.1.2 rfl,
  fun i v => mm_st (n := 404) hk.2.2.2.2.2.2.2.1.1 hk.2.2.2.2.2.2.2.1.2 rfl,
  mm_gR ⟨hk.1, hk.2.1⟩ ((R0_f (Or.inl hk.2.2.1) (Or.inl hk.2.2.2.1)).trans hk.2.2.2.2.2.2.2.2.1),
  fun i => mm_ld (n := 3) hk.2.2.2.2.2.2.2.2.2.1.1 hk.2.2.2.2.2.2.2.2.2.1.2 rfl,
  fun i v => mm_st (n := 3) hk.2.2.2.2.2.2.2.2.2.1.1 hk.2.2.2.2.2.2.2.2.2.1.2 rfl,
  mm_gR ⟨hk.1, hk.2.1⟩ ((R0_f (Or.inl hk.2.2.1) (Or.inl hk.2.2.2.1)).trans hk.2.2.2.2.2.2.2.2.2.2.1),
  fun i => mm_ld (n := 32) hk.2.2.2.2.2.2.2.2.2.2.2.1 hk.2.2.2.2.2.2.2.2.2.2.2.2 rfl,
  fun i v => mm_st (n := 32) hk.2.2.2.2.2.2.2.2.2.2.2.1 hk.2.2.2.2.2.2.2.2.2.2.2.2 rfl,
  mm_gI ⟨hk.1, hk.2.1⟩,
  fun v => mm_pI ⟨hk.1, hk.2.1⟩,
  fun x f => mm_call ⟨hk.1, hk.2.1⟩⟩
