/-! ===== what each part is made of ===== -/
def sg7 : List (Nat × Nat) := [(7, 0), (21, 2000)]
def rg7 (s : Nat) : List (List (Option Nat)) := [[some (s + 1)], []]
def sg2 : List (Nat × Nat) := [(2, 0), (20, 404), (20, 404), (20, 3), (20, 32)]
def rg2 (s : Nat) : List (List (Option Nat)) := [[some (s + 1), some (s + 2), some (s + 3), some (s + 4)], [], [], [], []]
def sg8 : List (Nat × Nat) := [(8, 0), (20, 12), (20, 12), (20, 18), (20, 18), (20, 18), (22, 36), (22, 36), (2, 0), (20, 404), (20, 404), (20, 3), (20, 32)]
def rg8 (s : Nat) : List (List (Option Nat)) := [[none, none, none, none, none, some (s + 1), some (s + 2), some (s + 3), some (s + 4), some (s + 5), some (s + 6), some (s + 7), some (s + 8)], [], [], [], [], [], [], [], [some (s + 8 + 1), some (s + 8 + 2), some (s + 8 + 3), some (s + 8 + 4)], [], [], [], []]
def sg3 : List (Nat × Nat) := [(3, 0), (9, 0), (20, 401), (20, 401), (20, 401)]
def rg3 (a1 a2 s : Nat) : List (List (Option Nat)) := [[some a1, some (s + 1), some a2], [some a1, some (s + 2), some (s + 3), some (s + 4)], [], [], []]
def sg6 : List (Nat × Nat) := [(6, 0), (20, 18), (22, 18), (20, 18), (20, 18), (20, 36)]
def rg6 (s : Nat) : List (List (Option Nat)) := [[some (s + 1), some (s + 2), some (s + 3), some (s + 4), some (s + 5)], [], [], [], [], []]
def sg10 : List (Nat × Nat) := [(10, 0), (20, 20), (22, 20)]
def rg10 (s : Nat) : List (List (Option Nat)) := [[some (s + 1), some (s + 2)], [], []]
def sg4 : List (Nat × Nat) := [(4, 0), (20, 7), (20, 7), (20, 7), (24, 7), (20, 64), (20, 64), (20, 64), (20, 64), (20, 64), (20, 64), (20, 64), (20, 64)]
def rg4 (s : Nat) : List (List (Option Nat)) := [[some (s + 1), some (s + 2), some (s + 3), some (s + 12), some (s + 4)], [], [], [], [some (s + 4 + 1), some (s + 4 + 2), some (s + 4 + 3), some (s + 4 + 4), some (s + 4 + 5), some (s + 4 + 6), some (s + 4 + 7)], [], [], [], [], [], [], [], []]
def sg5 : List (Nat × Nat) := [(5, 0), (24, 7), (20, 64), (20, 64), (20, 64), (20, 64), (20, 64), (20, 64), (20, 64), (20, 36), (20, 36)]
def rg5 (s : Nat) : List (List (Option Nat)) := [[some (s + 1), some (s + 9), some (s + 10)], [some (s + 1 + 1), some (s + 1 + 2), some (s + 1 + 3), some (s + 1 + 4), some (s + 1 + 5), some (s + 1 + 6), some (s + 1 + 7)], [], [], [], [], [], [], [], [], []]
def sg0 : List (Nat × Nat) := [(0, 0), (24, 7), (20, 64), (20, 64), (20, 64), (20, 64), (20, 64), (20, 64), (20, 64), (24, 7), (20, 64), (20, 64), (20, 64), (20, 64), (20, 64), (20, 64), (20, 64), (20, 7), (20, 7)]
def rg0 (s : Nat) : List (List (Option Nat)) := [[some (s + 1), some (s + 9), some (s + 17), some (s + 18)], [some (s + 1 + 1), some (s + 1 + 2), some (s + 1 + 3), some (s + 1 + 4), some (s + 1 + 5), some (s + 1 + 6), some (s + 1 + 7)], [], [], [], [], [], [], [], [some (s + 9 + 1), some (s + 9 + 2), some (s + 9 + 3), some (s + 9 + 4), some (s + 9 + 5), some (s + 9 + 6), some (s + 9 + 7)], [], [], [], [], [], [], [], [], []]
def oR (f : Nat → jMem → Option (Int × jMem)) (c : Nat) (sg : List (Nat × Nat)) (rg : Nat → List (List (Option Nat))) (P : Nat → (Nat → Nat → Int) → Prop) : Prop := ∀ (l : List (Nat × Nat)) (r : List (List (Option Nat))) (I : Nat → Nat → Int), r.length = l.length → zI I l.length → ∃ J, f l.length (ml (l ++ [(c, 0)]) (r ++ [[]]) I) = some (0, ml (l ++ sg) (r ++ rg l.length) J) ∧ (∀ a, a < l.length → J a = I a) ∧ zI J (l.length + sg.length) ∧ P l.length J
section OB
variable {I : Nat → Nat → Int} {l : List (Nat × Nat)} {r : List (List (Option Nat))}
theorem ml_pI {ci k a : Nat} {v : Int} (h : (kL l a).1 = ci ∧ a < l.length) : jm_pI ci k (ml l r I) a v = some (ml l r (up I a k v)) := gg_pI h
theorem o_X7 : oR f_X7_init 7 sg7 rg7 (fun s J => J s 1 = 0) := by
  intro l r I hr hz
  have run : f_X7_init l.length (ml (l ++ [(7, 0)]) (r ++ [[]]) I) = some (0, ml (l ++ sg7) (r ++ rg7 l.length) (up I l.length 1 0)) := by
    unfold f_X7_init
    rw [sg_nw (m := 1) hr (by rfl) (by rfl) (hz _ (by omega)), sg_p0 (m := 2) hr (by rfl) (by decide) (by rfl) (by rfl), Option.bind_some, ml_pI (sg_k0 (m := 2) (by rfl) (by decide) (by rfl)), Option.bind_some]
    rfl
  refine ⟨_, run, fun a ha => up_ne (by omega), fun a ha j => ?_, up_s _ _ _ _⟩
  have ha' : l.length + 2 ≤ a := ha
  rw [up_ne (by omega)]; exact hz a (by omega) j
theorem o_X10 : oR f_X10_init 10 sg10 rg10 (fun _ _ => True) := by
  intro l r I hr hz
  have run : f_X10_init l.length (ml (l ++ [(10, 0)]) (r ++ [[]]) I) = some (0, ml (l ++ sg10) (r ++ rg10 l.length) I) := by
    unfold f_X10_init
    rw [sg_nw (m := 1) hr (by rfl) (by rfl) (hz _ (by omega)), sg_p0 (m := 2) hr (by rfl) (by decide) (by rfl) (by rfl), Option.bind_some, sg_nw (m := 2) hr (by rfl) (by rfl) (hz _ (by omega)), sg_p0 (m := 3) hr (by rfl) (by decide) (by rfl) (by rfl), Option.bind_some]
    rfl
  refine ⟨_, run, fun a ha => rfl, fun a ha j => ?_, True.intro⟩
  have ha' : l.length + 3 ≤ a := ha
  exact hz a (by omega) j
theorem e_X2 (hr : r.length = l.length) (hz : zI I l.length) : f_X2_init l.length (ml (l ++ [(2, 0)]) (r ++ [[]]) I) = some (0, ml (l ++ sg2) (r ++ rg2 l.length) I) := by
  unfold f_X2_init
  rw [sg_nw (m := 1) hr (by rfl) (by rfl) (hz _ (by omega)), sg_p0 (m := 2) hr (by rfl) (by decide) (by rfl) (by rfl), Option.bind_some, sg_nw (m := 2) hr (by rfl) (by rfl) (hz _ (by omega)), sg_p0 (m := 3) hr (by rfl) (by decide) (by rfl) (by rfl), Option.bind_some, sg_nw (m := 3) hr (by rfl) (by rfl) (hz _ (by omega)), sg_p0 (m := 4) hr (by rfl) (by decide) (by rfl) (by rfl), Option.bind_some, sg_nw (m := 4) hr (by rfl) (by rfl) (hz _ (by omega)), sg_p0 (m := 5) hr (by rfl) (by decide) (by rfl) (by rfl), Option.bind_some]
  rfl
theorem e_X2s {a : List (Nat × Nat)} {b : List (List (Option Nat))} {m : Nat} (hr : r.length = l.length) (ha : a.length = m) (hb : b.length = m) (hz : zI I (l.length + m)) : f_X2_init (l.length + m) (ml (l ++ (a ++ [(2, 0)])) (r ++ (b ++ [[]])) I) = some (0, ml (l ++ (a ++ sg2)) (r ++ (b ++ rg2 (l.length + m))) I) := by
  have e : (l ++ a).length = l.length + m := by rw [List.length_append, ha]
  have e2 : (r ++ b).length = (l ++ a).length := by rw [List.length_append, hb, hr, e]
  have x := e_X2 (l := l ++ a) (r := r ++ b) (I := I) e2 (by rw [e]; exact hz)
  rw [e, List.append_assoc, List.append_assoc, List.append_assoc, List.append_assoc] at x
  exact x
theorem o_X8 : oR f_X8_init 8 sg8 rg8 txP := by
  intro l r I hr hz
  have run : f_X8_init l.length (ml (l ++ [(8, 0)]) (r ++ [[]]) I) = jcall 8 (ml (l ++ sg8) (r ++ rg8 l.length) I) l.length (f_X8_clear l.length (ml (l ++ sg8) (r ++ rg8 l.length) I)) (fun _ M => some (0, M)) := by
    unfold f_X8_init
    rw [sg_nw (m := 1) hr (by rfl) (by rfl) (hz _ (by omega)), sg_p0 (m := 2) hr (by rfl) (by decide) (by rfl) (by rfl), Option.bind_some, sg_nw (m := 2) hr (by rfl) (by rfl) (hz _ (by omega)), sg_p0 (m := 3) hr (by rfl) (by decide) (by rfl) (by rfl), Option.bind_some, sg_nw (m := 3) hr (by rfl) (by rfl) (hz _ (by omega)), sg_p0 (m := 4) hr (by rfl) (by decide) (by rfl) (by rfl), Option.bind_some, sg_nw (m := 4) hr (by rfl) (by rfl) (hz _ (by omega)), sg_p0 (m := 5) hr (by rfl) (by decide) (by rfl) (by rfl), Option.bind_some, sg_nw (m := 5) hr (by rfl) (by rfl) (hz _ (by omega)), sg_p0 (m := 6) hr (by rfl) (by decide) (by rfl) (by rfl), Option.bind_some, sg_nw (m := 6) hr (by rfl) (by rfl) (hz _ (by omega)), sg_p0 (m := 7) hr (by rfl) (by decide) (by rfl) (by rfl), Option.bind_some, sg_nw (m := 7) hr (by rfl) (by rfl) (hz _ (by omega)), sg_p0 (m := 8) hr (by rfl) (by decide) (by rfl) (by rfl), Option.bind_some, sg_nw (m := 8) hr (by rfl) (by rfl) (hz _ (by omega)), e_X2s (m := 8) hr (by rfl) (by rfl) (fun a ha => hz a (by omega)), jbd_s, sg_p0 (m := 13) hr (by rfl) (by decide) (by rfl) (by rfl), Option.bind_some]
    rfl
  have k := fun (i : Nat) (hi : i < 13) => (⟨kL_r (l := l) (a := sg8) i, by rw [List.length_append]; show l.length + i < l.length + 13; omega⟩ : kL (l ++ sg8) (l.length + i) = sg8.getD i (0, 0) ∧ l.length + i < (l ++ sg8).length)
  have hG : lwG (l ++ sg8).length (kL (l ++ sg8)) (rL (r ++ rg8 l.length)) (l.length + 8) := ⟨sg_k (m := 13) rfl (by decide) rfl, k 9 (by decide), k 10 (by decide), k 11 (by decide), rL_r hr 8 0, rL_r hr 8 1, rL_r hr 8 2⟩
  obtain ⟨J, x1, x2, x3⟩ := g_tclear (I := I) (N := (l ++ sg8).length) (kK := kL (l ++ sg8)) (rR := rL (r ++ rg8 l.length)) (s := l.length) (sg_k0 (m := 13) rfl (by decide) rfl) (k 6 (by decide)) (k 7 (by decide)) (rL_0 hr 10) (rL_0 hr 11) (rL_0 hr 12) hG
  have x1' : f_X8_clear l.length (ml (l ++ sg8) (r ++ rg8 l.length) I) = some (0, ml (l ++ sg8) (r ++ rg8 l.length) J) := x1
  refine ⟨J, ?_, fun a ha => x2 a (by omega), fun a ha j => ?_, x3⟩
  · rw [run, x1']
    exact gg_call (sg_k0 (m := 13) rfl (by decide) rfl)
  · have ha' : l.length + 13 ≤ a := ha
    rw [x2 a (by omega)]; exact hz a (by omega) j
theorem o_X6 : oR f_X6_init 6 sg6 rg6 (fun s J => ∀ k, J (s + 2) k = 0) := by
  intro l r I hr hz
  have run : f_X6_init l.length (ml (l ++ [(6, 0)]) (r ++ [[]]) I) = jcall 6 (ml (l ++ sg6) (r ++ rg6 l.length) I) l.length (f_X6_clear l.length 4 (ml (l ++ sg6) (r ++ rg6 l.length) I)) (fun _ M => some (0, M)) := by
    unfold f_X6_init
    rw [sg_nw (m := 1) hr (by rfl) (by rfl) (hz _ (by omega)), sg_p0 (m := 2) hr (by rfl) (by decide) (by rfl) (by rfl), Option.bind_some, sg_nw (m := 2) hr (by rfl) (by rfl) (hz _ (by omega)), sg_p0 (m := 3) hr (by rfl) (by decide) (by rfl) (by rfl), Option.bind_some, sg_nw (m := 3) hr (by rfl) (by rfl) (hz _ (by omega)), sg_p0 (m := 4) hr (by rfl) (by decide) (by rfl) (by rfl), Option.bind_some, sg_nw (m := 4) hr (by rfl) (by rfl) (hz _ (by omega)), sg_p0 (m := 5) hr (by rfl) (by decide) (by rfl) (by rfl), Option.bind_some, sg_nw (m := 5) hr (by rfl) (by rfl) (hz _ (by omega)), sg_p0 (m := 6) hr (by rfl) (by decide) (by rfl) (by rfl), Option.bind_some]
    rfl
  have hl : ∀ i, i < 6 → l.length + i < (l ++ sg6).length := fun i hi => by rw [List.length_append]; show l.length + i < l.length + 6; omega
  have x1 := g_clear6 (I := I) (N := (l ++ sg6).length) (kK := kL (l ++ sg6)) (rR := rL (r ++ rg6 l.length)) (s := l.length) (sg_k0 (m := 6) rfl (by decide) rfl) (kL_r 1) (hl 1 (by decide)) (kL_r 5) (hl 5 (by decide)) (rL_0 hr 0) (rL_0 hr 4)
  generalize eJ : (up (up (up (up (up (fl (fl I (l.length + 1) 18 (fun _ => -1)) (l.length + 5) 36 (fun _ => -1)) l.length 6 0) l.length 5 4) l.length 7 0) l.length 8 0) l.length 9 0) = J at x1
  have x1' : f_X6_clear l.length 4 (ml (l ++ sg6) (r ++ rg6 l.length) I) = some (0, ml (l ++ sg6) (r ++ rg6 l.length) J) := x1
  have fr : ∀ a, a ≠ l.length → a ≠ l.length + 1 → a ≠ l.length + 5 → J a = I a := fun a n0 n1 n5 => by
    rw [← eJ, up_ne n0, up_ne n0, up_ne n0, up_ne n0, up_ne n0, flne n5, flne n1]
  refine ⟨J, ?_, fun a ha => fr a (by omega) (by omega) (by omega), fun a ha j => ?_, fun k => ?_⟩
  · rw [run, x1']
    exact gg_call (sg_k0 (m := 6) rfl (by decide) rfl)
  · have ha' : l.length + 6 ≤ a := ha
    rw [fr a (by omega) (by omega) (by omega)]; exact hz a (by omega) j
  · rw [fr _ (by omega) (by omega) (by omega)]; exact hz _ (by omega) k
theorem o_X3 (a1 a2 : Nat) : oR (fun q M => f_X3_init q a1 a2 M) 3 sg3 (rg3 a1 a2) (fun s J => J s 8 = -1) := by
  intro l r I hr hz
  have e9 : ∀ {a : List (Nat × Nat)} {b : List (List (Option Nat))} (ha : a.length = 1) (hb : b.length = 1), f_X9_init (l.length + 1) a1 (ml (l ++ (a ++ [(9, 0)])) (r ++ (b ++ [[]])) I) = some (0, ml (l ++ (a ++ [(9, 0), (20, 401), (20, 401), (20, 401)])) (r ++ (b ++ [[some a1, some (l.length + 2), some (l.length + 3), some (l.length + 4)], [], [], []])) I) := by
    intro a b ha hb
    obtain ⟨x, rfl⟩ : ∃ x, a = [x] := by
      match a, ha with
      | [x], _ => exact ⟨x, rfl⟩
    obtain ⟨y, rfl⟩ : ∃ y, b = [y] := by
      match b, hb with
      | [y], _ => exact ⟨y, rfl⟩
    unfold f_X9_init
    rw [sg_pR (m := 2) (i := 1) hr (by rfl) (by decide) (by rfl) (by rfl), Option.bind_some, sg_nw (m := 2) hr (by rfl) (by rfl) (hz _ (by omega)), sg_pR (m := 3) (i := 1) hr (by rfl) (by decide) (by rfl) (by rfl), Option.bind_some, sg_nw (m := 3) hr (by rfl) (by rfl) (hz _ (by omega)), sg_pR (m := 4) (i := 1) hr (by rfl) (by decide) (by rfl) (by rfl), Option.bind_some, sg_nw (m := 4) hr (by rfl) (by rfl) (hz _ (by omega)), sg_pR (m := 5) (i := 1) hr (by rfl) (by decide) (by rfl) (by rfl), Option.bind_some]
    rfl
  have run : f_X3_init l.length a1 a2 (ml (l ++ [(3, 0)]) (r ++ [[]]) I) = some (0, ml (l ++ sg3) (r ++ rg3 a1 a2 l.length) (up I l.length 8 (-1))) := by
    unfold f_X3_init
    rw [sg_p0 (m := 1) hr (by rfl) (by decide) (by rfl) (by rfl), Option.bind_some, sg_p0 (m := 1) hr (by rfl) (by decide) (by rfl) (by rfl), Option.bind_some, sg_nw (m := 1) hr (by rfl) (by rfl) (hz _ (by omega)), e9 (by rfl) (by rfl), jbd_s, sg_p0 (m := 5) hr (by rfl) (by decide) (by rfl) (by rfl), Option.bind_some, ml_pI (sg_k0 (m := 5) (by rfl) (by decide) (by rfl)), Option.bind_some]
    rfl
  refine ⟨_, run, fun a ha => up_ne (by omega), fun a ha j => ?_, up_s _ _ _ _⟩
  have ha' : l.length + 5 ≤ a := ha
  rw [up_ne (by omega)]; exact hz a (by omega) j
theorem o_X5 : oR f_X5_init 5 sg5 rg5 (fun _ _ => True) := by
  intro l r I hr hz
  have run : f_X5_init l.length (ml (l ++ [(5, 0)]) (r ++ [[]]) I) = some (0, ml (l ++ sg5) (r ++ rg5 l.length) I) := by
    unfold f_X5_init
    rw [sg_gr (m := 1) hr (by rfl) (by rfl) (fun a ha => hz a (by omega)), sg_p0 (m := 9) hr (by rfl) (by decide) (by rfl) (by rfl), Option.bind_some, sg_nw (m := 9) hr (by rfl) (by rfl) (hz _ (by omega)), sg_p0 (m := 10) hr (by rfl) (by decide) (by rfl) (by rfl), Option.bind_some, sg_nw (m := 10) hr (by rfl) (by rfl) (hz _ (by omega)), sg_p0 (m := 11) hr (by rfl) (by decide) (by rfl) (by rfl), Option.bind_some]
    rfl
  refine ⟨_, run, fun a ha => rfl, fun a ha j => ?_, True.intro⟩
  have ha' : l.length + 11 ≤ a := ha
  exact hz a (by omega) j
theorem o_X0 : oR f_X0_init 0 sg0 rg0 (fun _ _ => True) := by
  intro l r I hr hz
  have run : f_X0_init l.length (ml (l ++ [(0, 0)]) (r ++ [[]]) I) = some (0, ml (l ++ sg0) (r ++ rg0 l.length) I) := by
    unfold f_X0_init
    rw [sg_gr (m := 1) hr (by rfl) (by rfl) (fun a ha => hz a (by omega)), sg_p0 (m := 9) hr (by rfl) (by decide) (by rfl) (by rfl), Option.bind_some, sg_gr (m := 9) hr (by rfl) (by rfl) (fun a ha => hz a (by omega)), sg_p0 (m := 17) hr (by rfl) (by decide) (by rfl) (by rfl), Option.bind_some, sg_nw (m := 17) hr (by rfl) (by rfl) (hz _ (by omega)), sg_p0 (m := 18) hr (by rfl) (by decide) (by rfl) (by rfl), Option.bind_some, sg_nw (m := 18) hr (by rfl) (by rfl) (hz _ (by omega)), sg_p0 (m := 19) hr (by rfl) (by decide) (by rfl) (by rfl), Option.bind_some]
    rfl
  refine ⟨_, run, fun a ha => rfl, fun a ha j => ?_, True.intro⟩
  have ha' : l.length + 19 ≤ a := ha
  exact hz a (by omega) j
end OB
