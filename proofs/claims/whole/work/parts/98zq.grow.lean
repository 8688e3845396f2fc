/-! ===== memory that grows: kinds and refs as lists ===== -/
def kL (l : List (Nat × Nat)) : Nat → Nat × Nat := fun a => l.getD a (0, 0)
def rL (r : List (List (Option Nat))) : Nat → Nat → Option Nat := fun a j => (r.getD a []).getD j none
def mg (N : Nat) (kK : Nat → Nat × Nat) (rR : Nat → Nat → Option Nat) (I : Nat → Nat → Int) : jMem := ((N, kK), I, rR)
def ml (l : List (Nat × Nat)) (r : List (List (Option Nat))) (I : Nat → Nat → Int) : jMem := mg l.length (kL l) (rL r) I
def zI (I : Nat → Nat → Int) (n : Nat) : Prop := ∀ a, n ≤ a → ∀ j, I a j = 0
theorem gD_l {α : Type} {e : α} : ∀ {l m : List α} {a : Nat}, a < l.length → (l ++ m).getD a e = l.getD a e
  | [], _, _, h => absurd h (Nat.not_lt_zero _)
  | _ :: _, _, 0, _ => rfl
  | _ :: l, m, a + 1, h => by
    have h : a < l.length := Nat.lt_of_succ_lt_succ h
    exact gD_l (l := l) (m := m) h
theorem gD_r {α : Type} {e : α} : ∀ {l m : List α} {i : Nat}, (l ++ m).getD (l.length + i) e = m.getD i e
  | [], m, i => by rw [List.length_nil, Nat.zero_add]; rfl
  | x :: l, m, i => by
    rw [List.length_cons, Nat.add_right_comm]
    exact gD_r (l := l) (m := m) (i := i)
theorem gD_o {α : Type} {e : α} : ∀ {l : List α} {a : Nat}, l.length ≤ a → l.getD a e = e
  | [], _, _ => rfl
  | _ :: l, 0, h => absurd h (Nat.not_succ_le_zero _)
  | _ :: l, a + 1, h => by
    have h : l.length ≤ a := Nat.le_of_succ_le_succ h
    exact gD_o (l := l) h
def pset : List (Option Nat) → Nat → Option Nat → List (Option Nat)
  | [], 0, v => [v]
  | [], k + 1, v => none :: pset [] k v
  | _ :: xs, 0, v => v :: xs
  | x :: xs, k + 1, v => x :: pset xs k v
theorem pset_g : ∀ (l : List (Option Nat)) (k j : Nat) (v : Option Nat), (pset l k v).getD j none = if j = k then v else l.getD j none
  | [], 0, 0, v => rfl
  | [], 0, j + 1, v => rfl
  | [], k + 1, 0, v => rfl
  | [], k + 1, j + 1, v => by
    show (pset [] k v).getD j none = _
    rw [pset_g [] k j v]
    by_cases e : j = k
    · rw [if_pos e, if_pos (by omega)]
    · rw [if_neg e, if_neg (by omega)]; rfl
  | x :: xs, 0, 0, v => rfl
  | x :: xs, 0, j + 1, v => rfl
  | x :: xs, k + 1, 0, v => rfl
  | x :: xs, k + 1, j + 1, v => by
    show (pset xs k v).getD j none = _
    rw [pset_g xs k j v]
    by_cases e : j = k
    · rw [if_pos e, if_pos (by omega)]
    · rw [if_neg e, if_neg (by omega)]; rfl
def sset {α : Type} : List α → Nat → α → List α
  | [], _, _ => []
  | _ :: xs, 0, v => v :: xs
  | x :: xs, k + 1, v => x :: sset xs k v
theorem sset_n {α : Type} : ∀ (l : List α) (k : Nat) (v : α), (sset l k v).length = l.length
  | [], _, _ => rfl
  | _ :: xs, 0, v => rfl
  | x :: xs, k + 1, v => by
    show (sset xs k v).length + 1 = xs.length + 1
    rw [sset_n xs k v]
theorem sset_g {α : Type} {e : α} : ∀ (l : List α) (k j : Nat) (v : α), k < l.length → (sset l k v).getD j e = if j = k then v else l.getD j e
  | [], _, _, _, h => absurd h (Nat.not_lt_zero _)
  | _ :: xs, 0, 0, v, _ => rfl
  | _ :: xs, 0, j + 1, v, _ => rfl
  | x :: xs, k + 1, 0, v, _ => rfl
  | x :: xs, k + 1, j + 1, v, h => by
    have h : k < xs.length := Nat.lt_of_succ_lt_succ h
    show (sset xs k v).getD j e = _
    rw [sset_g xs k j v h]
    by_cases c : j = k
    · rw [if_pos c, if_pos (by omega)]
    · rw [if_neg c, if_neg (by omega)]; rfl
theorem sset_r {α : Type} : ∀ (l m : List α) (i : Nat) (v : α), sset (l ++ m) (l.length + i) v = l ++ sset m i v
  | [], m, i, v => by rw [List.length_nil, Nat.zero_add]; rfl
  | x :: l, m, i, v => by
    rw [List.length_cons, Nat.add_right_comm]
    show x :: sset (l ++ m) (l.length + i) v = x :: (l ++ sset m i v)
    rw [sset_r l m i v]
def rset (r : List (List (Option Nat))) (a k q : Nat) : List (List (Option Nat)) := sset r a (pset (r.getD a []) k (some q))
theorem rset_n (r : List (List (Option Nat))) (a k q : Nat) : (rset r a k q).length = r.length := sset_n _ _ _
theorem rset_g {r : List (List (Option Nat))} {a k q x y : Nat} (h : a < r.length) : rL (rset r a k q) x y = if x = a ∧ y = k then some q else rL r x y := by
  unfold rL rset
  rw [sset_g _ _ _ _ h]
  by_cases c : x = a
  · rw [if_pos c, pset_g]
    by_cases c2 : y = k
    · rw [if_pos c2, if_pos ⟨c, c2⟩]
    · rw [if_neg c2, if_neg (fun z => c2 z.2), c]
  · rw [if_neg c, if_neg (fun z => c z.1)]
theorem rset_r {r m : List (List (Option Nat))} {i k q : Nat} : rset (r ++ m) (r.length + i) k q = r ++ rset m i k q := by
  unfold rset
  rw [gD_r, sset_r]
section MG
variable {N : Nat} {kK : Nat → Nat × Nat} {rR : Nat → Nat → Option Nat} {I : Nat → Nat → Int} {l : List (Nat × Nat)} {r : List (List (Option Nat))}
theorem gg_I {ci k a : Nat} (h : (kK a).1 = ci ∧ a < N) : jm_gI ci k (mg N kK rR I) a = some (I a k) := if_pos h
theorem gg_R {ci k a v : Nat} (h : (kK a).1 = ci ∧ a < N) (hv : rR a k = some v) : jm_gR ci k (mg N kK rR I) a = some v := (if_pos h).trans hv
theorem gg_pI {ci k a : Nat} {v : Int} (h : (kK a).1 = ci ∧ a < N) : jm_pI ci k (mg N kK rR I) a v = some (mg N kK rR (up I a k v)) := if_pos h
theorem gg_call {β : Type} {ci a : Nat} {x : Option (Int × jMem)} {f : Int → jMem → Option β} (h : (kK a).1 = ci ∧ a < N) : jcall ci (mg N kK rR I) a x f = jbd x f := if_pos h
theorem gg_st {ty n a : Nat} {i v : Int} (h : kK a = (ty, n)) (ha : a < N) (hi : 0 ≤ jd_wr i ∧ jd_wr i < (n : Int)) : jm_st ty (mg N kK rR I) a i v = some (mg N kK rR (up I a (jd_wr i).toNat v)) := by
  refine if_pos ?_
  show (((kK a).1 = ty ∧ a < N) ∧ 0 ≤ jd_wr i ∧ jd_wr i < ((kK a).2 : Int))
  rw [h]
  exact ⟨⟨rfl, ha⟩, hi⟩
theorem gg_ln {ty n a : Nat} (h : kK a = (ty, n)) (ha : a < N) : jm_ln ty (mg N kK rR I) a = some (n : Int) := by
  refine (if_pos ?_).trans ?_
  · show (kK a).1 = ty ∧ a < N
    rw [h]; exact ⟨rfl, ha⟩
  · show some ((kK a).2 : Int) = some (n : Int)
    rw [h]
theorem gg_new (hr : r.length = l.length) (hz : ∀ j, I l.length j = 0) (k n : Nat) : jnew (ml l r I) k n = ml (l ++ [(k, n)]) (r ++ [[]]) I := by
  show ((l.length + 1, fun x => if x = l.length then (k, n) else kL l x), (fun x y => if x = l.length then 0 else I x y), (fun x y => if x = l.length then none else rL r x y)) = (((l ++ [(k, n)]).length, kL (l ++ [(k, n)])), I, rL (r ++ [[]]))
  have e1 : (l ++ [(k, n)]).length = l.length + 1 := by rw [List.length_append]; rfl
  have e2 : (fun x => if x = l.length then (k, n) else kL l x) = kL (l ++ [(k, n)]) := by
    funext x
    unfold kL
    by_cases c : x = l.length
    · rw [if_pos c, c, show l.length = l.length + 0 from rfl, gD_r]; rfl
    · rw [if_neg c]
      by_cases c2 : x < l.length
      · rw [gD_l c2]
      · rw [gD_o (l := l) (by omega), gD_o (by rw [e1]; omega)]
  have e3 : (fun x y => if x = l.length then 0 else I x y) = I := by
    funext x y
    by_cases c : x = l.length
    · rw [if_pos c, c, hz y]
    · rw [if_neg c]
  have e4 : (fun x y => if x = l.length then none else rL r x y) = rL (r ++ [[]]) := by
    funext x y
    unfold rL
    by_cases c : x = l.length
    · rw [if_pos c, c, ← hr, show r.length = r.length + 0 from rfl, gD_r]; rfl
    · rw [if_neg c]
      by_cases c2 : x < r.length
      · rw [gD_l c2]
      · rw [gD_o (l := r) (by omega), gD_o (l := r ++ [[]]) (by rw [List.length_append]; show r.length + 1 ≤ x; omega)]
  rw [e1, e2, e3, e4]
theorem gg_nw {β : Type} (hr : r.length = l.length) (hz : ∀ j, I l.length j = 0) {k n : Nat} {f : Nat → jMem → β} : jnw (ml l r I) k n f = f l.length (ml (l ++ [(k, n)]) (r ++ [[]]) I) := by
  unfold jnw
  rw [gg_new hr hz]; rfl
theorem gg_sR (hr : r.length = l.length) {a k q : Nat} (ha : a < l.length) : jsR (ml l r I) a k (some q) = ml l (rset r a k q) I := by
  show ((l.length, kL l), I, (fun x y => if x = a ∧ y = k then some q else rL r x y)) = ((l.length, kL l), I, rL (rset r a k q))
  have e : (fun x y => if x = a ∧ y = k then some q else rL r x y) = rL (rset r a k q) := by
    funext x y
    rw [rset_g (by omega)]
  rw [e]
theorem gg_pR (hr : r.length = l.length) {ci a k q : Nat} (h : (kL l a).1 = ci ∧ a < l.length) : jm_pR ci k (ml l r I) a q = some (ml l (rset r a k q) I) := by
  refine (if_pos h).trans ?_
  rw [gg_sR hr h.2]
def gdK : List (Nat × Nat) := [(24, 7), (20, 64), (20, 64), (20, 64), (20, 64), (20, 64), (20, 64), (20, 64)]
def gdR (s : Nat) : List (List (Option Nat)) := [[some (s + 1), some (s + 2), some (s + 3), some (s + 4), some (s + 5), some (s + 6), some (s + 7)], [], [], [], [], [], [], []]
theorem gg_gr {β : Type} (hr : r.length = l.length) (hz : zI I l.length) {f : Nat → jMem → β} : jnm (ml l r I) 7 64 f = f l.length (ml (l ++ gdK) (r ++ gdR l.length) I) := by
  show f l.length ((l.length + 1 + 7, fun x => if x = l.length then (24, 7) else if l.length < x ∧ x ≤ l.length + 7 then (20, 64) else kL l x), (fun x y => if l.length ≤ x ∧ x ≤ l.length + 7 then 0 else I x y), (fun x y => if x = l.length then (if y < 7 then some (l.length + 1 + y) else none) else if l.length < x ∧ x ≤ l.length + 7 then none else rL r x y)) = f l.length (((l ++ gdK).length, kL (l ++ gdK)), I, rL (r ++ gdR l.length))
  have e1 : (l ++ gdK).length = l.length + 1 + 7 := by rw [List.length_append]; rfl
  have e1' : (r ++ gdR l.length).length = l.length + 1 + 7 := by rw [List.length_append, hr]; rfl
  have e2 : (fun x => if x = l.length then (24, 7) else if l.length < x ∧ x ≤ l.length + 7 then (20, 64) else kL l x) = kL (l ++ gdK) := by
    funext x
    unfold kL
    by_cases c2 : x < l.length
    · rw [if_neg (by omega), if_neg (by omega), gD_l c2]
    · obtain ⟨i, rfl⟩ : ∃ i, x = l.length + i := ⟨x - l.length, by omega⟩
      by_cases c3 : i < 8
      · rw [gD_r]
        have h8 : ∀ i, i < 8 → (if i = 0 then ((24, 7) : Nat × Nat) else (20, 64)) = gdK.getD i (0, 0) := by decide
        rw [← h8 i c3]
        by_cases c4 : i = 0
        · rw [if_pos (by omega), if_pos c4]
        · rw [if_neg (by omega), if_pos (by omega), if_neg c4]
      · rw [if_neg (by omega), if_neg (by omega), gD_o (by omega), gD_o (by rw [e1]; omega)]
  have e3 : (fun x y => if l.length ≤ x ∧ x ≤ l.length + 7 then 0 else I x y) = I := by
    funext x y
    by_cases c : l.length ≤ x ∧ x ≤ l.length + 7
    · rw [if_pos c, hz x c.1 y]
    · rw [if_neg c]
  have e4 : (fun x y => if x = l.length then (if y < 7 then some (l.length + 1 + y) else none) else if l.length < x ∧ x ≤ l.length + 7 then none else rL r x y) = rL (r ++ gdR l.length) := by
    funext x y
    unfold rL
    by_cases c2 : x < l.length
    · rw [if_neg (by omega), if_neg (by omega), gD_l (by omega)]
    · obtain ⟨i, rfl⟩ : ∃ i, x = l.length + i := ⟨x - l.length, by omega⟩
      by_cases c3 : i < 8
      · have hi : (r ++ gdR l.length).getD (l.length + i) [] = (gdR l.length).getD i [] := by rw [← hr]; exact gD_r
        rw [hi]
        by_cases c4 : i = 0
        · subst c4
          rw [if_pos (Nat.add_zero _)]
          show _ = ([some (l.length + 1), some (l.length + 2), some (l.length + 3), some (l.length + 4), some (l.length + 5), some (l.length + 6), some (l.length + 7)] : List (Option Nat)).getD y none
          match y with
          | 0 => rfl
          | 1 => rfl
          | 2 => rfl
          | 3 => rfl
          | 4 => rfl
          | 5 => rfl
          | 6 => rfl
          | y + 7 => rw [if_neg (by omega)]; rfl
        · rw [if_neg (by omega), if_pos (by omega)]
          obtain ⟨k, rfl⟩ : ∃ k, i = k + 1 := ⟨i - 1, by omega⟩
          show none = (([[], [], [], [], [], [], []] : List (List (Option Nat))).getD k []).getD y none
          have h7 : ∀ k, k < 7 → ([[], [], [], [], [], [], []] : List (List (Option Nat))).getD k [] = [] := by decide
          rw [h7 k (by omega)]; rfl
      · rw [if_neg (by omega), if_neg (by omega), gD_o (l := r) (by omega), gD_o (l := r ++ gdR l.length) (by rw [e1']; omega)]
  rw [e1, e2, e3, e4]
end MG
/-- a loop, over any memory -/
theorem lp2_any {body : (Int → jMem → Option (Int × jMem)) → Int → jMem → Option (Int × jMem)} (n : Nat) (Inv : Nat → jMem → Prop) (Out : Option (Int × jMem) → Prop) (hs : ∀ i, i < n → ∀ M, Inv i M → ∀ rec, ∃ M', Inv (i + 1) M' ∧ body rec (i : Int) M = rec ((i : Int) + 1) M') (he : ∀ M, Inv n M → ∀ rec, Out (body rec (n : Int) M)) : ∀ (fuel : Nat) (M : jMem), n < fuel → Inv 0 M → Out (jlp2 body fuel 0 M) := by
  have key : ∀ k i fuel M, i + k = n → k < fuel → Inv i M → Out (jlp2 body fuel (i : Int) M) := by
    intro k
    induction k with
    | zero =>
      intro i fuel M hi hf hM
      obtain ⟨f, rfl⟩ : ∃ f, fuel = f + 1 := ⟨fuel - 1, by omega⟩
      obtain rfl : i = n := by omega
      rw [jlp2_s]
      exact he M hM _
    | succ k ih =>
      intro i fuel M hi hf hM
      obtain ⟨f, rfl⟩ : ∃ f, fuel = f + 1 := ⟨fuel - 1, by omega⟩
      obtain ⟨M', h1, h2⟩ := hs i (by omega) M hM (jlp2 body f)
      rw [jlp2_s, h2, show (i : Int) + 1 = ((i + 1 : Nat) : Int) by omega]
      exact ih (i + 1) f M' (by omega) (by omega) h1
  exact fun fuel M hf hM => key n 0 fuel M (by omega) hf hM
