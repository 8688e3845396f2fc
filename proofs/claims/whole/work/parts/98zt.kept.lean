/-! ===== Rows and Kept, as they come to be ===== -/
def odB (x0 : Int) : (Int → Int → Int → Option Int) → Int → Int → Int → Option Int := fun rec y1 y2 y3 => if jd_wr y3 ≤ jd_wr 6 then (if jd_wr (jd_and (jd_shr x0 y3) 1) = 0 then rec (y1 + (jd_and y2 1)) 0 (y3 + 1) else rec y1 (y2 + 1) (y3 + 1)) else some y1
def odP (x0 : Int) (M : jMem) : (Int → Int → Int → Option (Int × jMem)) → Int → Int → Int → Option (Int × jMem) := fun rec_6 y1_6 y2_6 y3_6 =>
  if jd_wr y3_6 ≤ jd_wr 6 then (jjq (fun (y1_34 : Int) (y2_34 : Int) =>
  rec_6 y1_34 y2_34 (y3_6 + 1)) fun j_34 =>
  if jd_wr (jd_and (jd_shr x0 y3_6) 1) = 0 then (j_34 (y1_6 + (jd_and y2_6 1)) 0)
  else (j_34 y1_6 (y2_6 + 1)))
  else (some (y1_6, M))
theorem od_map (x0 : Int) (M : jMem) : f_X4_countOddRuns x0 M = (jlp3 (odB x0) jfuel 0 0 0).bind fun v => some (v, M) := by
  have key : ∀ (f : Nat) (a b c : Int), jlp3 (odP x0 M) f a b c = (jlp3 (odB x0) f a b c).bind fun v => some (v, M) := by
    intro f
    induction f with
    | zero => intro a b c; rfl
    | succ f ih =>
      intro a b c
      rw [jlp3_s, jlp3_s]
      show (if jd_wr c ≤ jd_wr 6 then (if jd_wr (jd_and (jd_shr x0 c) 1) = 0 then jlp3 (odP x0 M) f (a + (jd_and b 1)) 0 (c + 1) else jlp3 (odP x0 M) f a (b + 1) (c + 1)) else some (a, M)) = (if jd_wr c ≤ jd_wr 6 then (if jd_wr (jd_and (jd_shr x0 c) 1) = 0 then jlp3 (odB x0) f (a + (jd_and b 1)) 0 (c + 1) else jlp3 (odB x0) f a (b + 1) (c + 1)) else some a).bind fun v => some (v, M)
      by_cases h1 : jd_wr c ≤ jd_wr 6
      · rw [if_pos h1, if_pos h1]
        by_cases h2 : jd_wr (jd_and (jd_shr x0 c) 1) = 0
        · rw [if_pos h2, if_pos h2]; exact ih _ _ _
        · rw [if_neg h2, if_neg h2]; exact ih _ _ _
      · rw [if_neg h1, if_neg h1]; rfl
  exact key jfuel 0 0 0
theorem od_dec : ∀ m : Nat, m < 64 → jlp3 (odB (m : Int)) jfuel 0 0 0 = some (oddR m : Int) := by decide +kernel
theorem od_q {m : Nat} (hm : m < 64) (M : jMem) : f_X4_countOddRuns (m : Int) M = some ((oddR m : Int), M) := by
  rw [od_map, od_dec m hm]; rfl
theorem stR_ml {l : List (Nat × Nat)} {r : List (List (Option Nat))} {I : Nat → Nat → Int} (hr : r.length = l.length) {a k q len : Nat} (h1 : kL l a = (25, len)) (ha : a < l.length) (hk : k < len) (hlen : len ≤ 1000) (hq : (kL l q).1 = 6 ∧ q < l.length) : jm_stR (ml l r I) a (k : Int) q = some (ml l (rset r a k q) I) := by
  have w : jd_wr (k : Int) = (k : Int) := wr_n k (by omega)
  have c : (((kL l a).1 = 25 ∧ a < l.length) ∧ 0 ≤ jd_wr (k : Int) ∧ jd_wr (k : Int) < ((kL l a).2 : Int)) ∧ (kL l q).1 = 6 ∧ q < l.length := by
    rw [h1, w]
    refine ⟨⟨⟨rfl, ha⟩, by omega, ?_⟩, hq⟩
    show (k : Int) < (len : Int)
    omega
  refine (if_pos c).trans ?_
  rw [w, Int.toNat_natCast, gg_sR hr ha]
section OC
variable {I : Nat → Nat → Int} {l : List (Nat × Nat)} {r : List (List (Option Nat))}
theorem o_X4 : oR f_X4_init 4 sg4 rg4 (fun s J => ∀ m, m < 64 → J (s + 12) m = (oddR m : Int)) := by
  intro l r I hr hz
  have w64 : jd_wr 64 = 64 := by decide +kernel
  have k0 : (kL (l ++ sg4) l.length).1 = 4 ∧ l.length < (l ++ sg4).length := sg_k0 (m := 13) rfl (by decide) rfl
  have r3 : rL (r ++ rg4 l.length) l.length 3 = some (l.length + 12) := rL_0 hr 3
  have k12 : kL (l ++ sg4) (l.length + 12) = (20, 64) := kL_r 12
  have h12 : l.length + 12 < (l ++ sg4).length := by rw [List.length_append]; show l.length + 12 < l.length + 13; omega
  unfold f_X4_init
  rw [sg_nw (m := 1) hr (by rfl) (by rfl) (hz _ (by omega)), sg_p0 (m := 2) hr (by rfl) (by decide) (by rfl) (by rfl), Option.bind_some, sg_nw (m := 2) hr (by rfl) (by rfl) (hz _ (by omega)), sg_p0 (m := 3) hr (by rfl) (by decide) (by rfl) (by rfl), Option.bind_some, sg_nw (m := 3) hr (by rfl) (by rfl) (hz _ (by omega)), sg_p0 (m := 4) hr (by rfl) (by decide) (by rfl) (by rfl), Option.bind_some, sg_gr (m := 4) hr (by rfl) (by rfl) (fun a ha => hz a (by omega)), sg_p0 (m := 12) hr (by rfl) (by decide) (by rfl) (by rfl), Option.bind_some, sg_nw (m := 12) hr (by rfl) (by rfl) (hz _ (by omega)), sg_p0 (m := 13) hr (by rfl) (by decide) (by rfl) (by rfl), Option.bind_some]
  refine lp2_any 64 (fun n M => ∃ J, M = ml (l ++ sg4) (r ++ rg4 l.length) J ∧ frm (fun a => a = l.length + 12) I J ∧ ∀ m, m < n → J (l.length + 12) m = (oddR m : Int)) (fun x => ∃ J, x = some (0, ml (l ++ sg4) (r ++ rg4 l.length) J) ∧ (∀ a, a < l.length → J a = I a) ∧ zI J (l.length + sg4.length) ∧ ∀ m, m < 64 → J (l.length + 12) m = (oddR m : Int)) ?_ ?_ jfuel _ (jfuel_n (by decide)) ⟨I, rfl, frm_refl _ _, fun m hm => absurd hm (Nat.not_lt_zero _)⟩
  · rintro n hn M ⟨J, rfl, j1, j2⟩ rec
    have w : jd_wr (n : Int) = (n : Int) := wr_n n (by omega)
    refine ⟨ml (l ++ sg4) (r ++ rg4 l.length) (up J (l.length + 12) n (oddR n : Int)), ⟨_, rfl, frm_up j1 rfl, fun m hm => ?_⟩, ?_⟩
    · rw [up_g]
      by_cases e : m = n
      · rw [if_pos e, e]
      · rw [if_neg e]; exact j2 m (by omega)
    · show (if jd_wr (n : Int) < jd_wr 64 then (jm_gR 4 3 (mg (l ++ sg4).length (kL (l ++ sg4)) (rL (r ++ rg4 l.length)) J) l.length).bind (fun r16 => jbd (f_X4_countOddRuns (n : Int) (mg (l ++ sg4).length (kL (l ++ sg4)) (rL (r ++ rg4 l.length)) J)) fun v17 M18 => (jm_st 20 M18 r16 (n : Int) v17).bind fun M19 => rec ((n : Int) + 1) M19) else _) = rec ((n : Int) + 1) (mg (l ++ sg4).length (kL (l ++ sg4)) (rL (r ++ rg4 l.length)) (up J (l.length + 12) n (oddR n : Int)))
      rw [if_pos (by rw [w, w64]; omega), gg_R k0 r3, Option.bind_some, od_q (by omega), jbd_s, gg_st k12 h12 (by rw [w]; omega), Option.bind_some, w, Int.toNat_natCast]
  · rintro M ⟨J, rfl, j1, j2⟩ rec
    refine ⟨J, ?_, fun a ha => j1 a (by omega), fun a ha j => ?_, j2⟩
    · show (if jd_wr ((64 : Nat) : Int) < jd_wr 64 then _ else some (0, ml (l ++ sg4) (r ++ rg4 l.length) J)) = some (0, ml (l ++ sg4) (r ++ rg4 l.length) J)
      exact if_neg (by show ¬ jd_wr 64 < jd_wr 64; omega)
    · have ha' : l.length + 13 ≤ a := ha
      rw [j1 a (by omega)]; exact hz a (by omega) j
def kKp : Nat → List (Nat × Nat)
  | 0 => [(1, 0), (25, 40)]
  | i + 1 => kKp i ++ sg6
def rKp (s : Nat) : Nat → List (List (Option Nat))
  | 0 => [[some (s + 1)], []]
  | i + 1 => rset (rKp s i ++ rg6 (s + (2 + 6 * i))) 1 i (s + (2 + 6 * i))
theorem kKp_n : ∀ i, (kKp i).length = 2 + 6 * i
  | 0 => rfl
  | i + 1 => by
    rw [kKp, List.length_append, kKp_n i]
    show 2 + 6 * i + 6 = 2 + 6 * (i + 1)
    omega
theorem rKp_n (s : Nat) : ∀ i, (rKp s i).length = 2 + 6 * i
  | 0 => rfl
  | i + 1 => by
    rw [rKp, rset_n, List.length_append, rKp_n s i]
    show 2 + 6 * i + 6 = 2 + 6 * (i + 1)
    omega
theorem kKp_0 : ∀ i, (kKp i).getD 0 (0, 0) = (1, 0)
  | 0 => rfl
  | i + 1 => by rw [kKp, gD_l (by rw [kKp_n]; omega)]; exact kKp_0 i
theorem kKp_1 : ∀ i, (kKp i).getD 1 (0, 0) = (25, 40)
  | 0 => rfl
  | i + 1 => by rw [kKp, gD_l (by rw [kKp_n]; omega)]; exact kKp_1 i
theorem rL_app {r m : List (List (Option Nat))} {a j : Nat} (h : a < r.length) : rL (r ++ m) a j = rL r a j := by
  unfold rL
  rw [gD_l h]
theorem rKp_0 (s : Nat) : ∀ i, rL (rKp s i) 0 0 = some (s + 1)
  | 0 => rfl
  | i + 1 => by
    rw [rKp, rset_g (by rw [List.length_append, rKp_n]; omega), if_neg (fun z => absurd z.1 (by decide)), rL_app (by rw [rKp_n]; omega)]
    exact rKp_0 s i
def kKq : Nat → List (Nat × Nat)
  | 0 => kKp 40 ++ [(25, 3)]
  | i + 1 => kKq i ++ sg6
def rKq (s : Nat) : Nat → List (List (Option Nat))
  | 0 => rset (rKp s 40 ++ [[]]) 0 1 (s + 242)
  | i + 1 => rset (rKq s i ++ rg6 (s + (243 + 6 * i))) 242 i (s + (243 + 6 * i))
theorem kKq_n : ∀ i, (kKq i).length = 243 + 6 * i
  | 0 => by rw [kKq, List.length_append, kKp_n]; rfl
  | i + 1 => by
    rw [kKq, List.length_append, kKq_n i]
    show 243 + 6 * i + 6 = 243 + 6 * (i + 1)
    omega
theorem rKq_n (s : Nat) : ∀ i, (rKq s i).length = 243 + 6 * i
  | 0 => by rw [rKq, rset_n, List.length_append, rKp_n]; rfl
  | i + 1 => by
    rw [rKq, rset_n, List.length_append, rKq_n s i]
    show 243 + 6 * i + 6 = 243 + 6 * (i + 1)
    omega
theorem kKq_0 : ∀ i, (kKq i).getD 0 (0, 0) = (1, 0)
  | 0 => by rw [kKq, gD_l (by rw [kKp_n]; omega)]; exact kKp_0 40
  | i + 1 => by rw [kKq, gD_l (by rw [kKq_n]; omega)]; exact kKq_0 i
theorem kKq_1 : ∀ i, (kKq i).getD 242 (0, 0) = (25, 3)
  | 0 => by
    have := gD_r (e := ((0, 0) : Nat × Nat)) (l := kKp 40) (m := [(25, 3)]) (i := 0)
    rw [kKp_n] at this
    exact this
  | i + 1 => by rw [kKq, gD_l (by rw [kKq_n]; omega)]; exact kKq_1 i
theorem rKq_1 (s : Nat) : ∀ i, rL (rKq s i) 0 1 = some (s + 242)
  | 0 => by rw [rKq, rset_g (by rw [List.length_append, rKp_n]; omega), if_pos ⟨rfl, rfl⟩]
  | i + 1 => by
    rw [rKq, rset_g (by rw [List.length_append, rKq_n]; omega), if_neg (fun z => absurd z.1 (by decide)), rL_app (by rw [rKq_n]; omega)]
    exact rKq_1 s i
def sg1 : List (Nat × Nat) := kKq 3 ++ [(22, 3)]
def rg1 (s : Nat) : List (List (Option Nat)) := rset (rKq s 3 ++ [[]]) 0 2 (s + 261)
theorem kp_step {a : List (Nat × Nat)} {b : List (List (Option Nat))} {m : Nat} (hr : r.length = l.length) (ha : a.length = m) (hb : b.length = m) (hz : zI I (l.length + m)) {x k len : Nat} (hx : x < m) (kx : a.getD x (0, 0) = (25, len)) (hk : k < len) (hlen : len ≤ 1000) (F : jMem → Option (Int × jMem)) : ∃ J, (jnw (ml (l ++ a) (r ++ b) I) 6 0 fun q5 M6 => jbd (f_X6_init q5 M6) fun _ M8 => (jm_stR M8 (l.length + x) (k : Int) q5).bind F) = F (ml (l ++ (a ++ sg6)) (r ++ rset (b ++ rg6 (l.length + m)) x k (l.length + m)) J) ∧ (∀ y, y < l.length + m → J y = I y) ∧ zI J (l.length + (m + 6)) := by
  have e : (l ++ a).length = l.length + m := by rw [List.length_append, ha]
  have e2 : (r ++ b).length = (l ++ a).length := by rw [List.length_append, hb, hr, e]
  obtain ⟨J, x1, x2, x3, _⟩ := o_X6 (l ++ a) (r ++ b) I e2 (by rw [e]; exact hz)
  rw [List.append_assoc, List.append_assoc, List.append_assoc, List.append_assoc, e] at x1
  refine ⟨J, ?_, fun y hy => x2 y (by rw [e]; exact hy), fun y hy j => x3 y ?_ j⟩
  · rw [gg_nw e2 (by rw [e]; exact hz _ (Nat.le_refl _)), List.append_assoc, List.append_assoc, e, x1, jbd_s]
    have e4 : (l ++ (a ++ sg6)).length = l.length + (m + 6) := by rw [List.length_append, List.length_append, ha]; rfl
    have e5 : (r ++ (b ++ rg6 (l.length + m))).length = (l ++ (a ++ sg6)).length := by rw [e4, List.length_append, List.length_append, hb, hr]; rfl
    have k6 : kL (l ++ (a ++ sg6)) (l.length + m) = (6, 0) := by
      rw [kL_r, ← ha]
      exact gD_r (i := 0)
    have kx' : kL (l ++ (a ++ sg6)) (l.length + x) = (25, len) := by
      rw [kL_r, gD_l (by omega)]; exact kx
    have e6 : rset (r ++ (b ++ rg6 (l.length + m))) (l.length + x) k (l.length + m) = r ++ rset (b ++ rg6 (l.length + m)) x k (l.length + m) := by
      have := rset_r (r := r) (m := b ++ rg6 (l.length + m)) (i := x) (k := k) (q := l.length + m)
      rw [hr] at this
      exact this
    rw [stR_ml e5 kx' (by rw [e4]; omega) hk hlen ⟨by rw [k6], by rw [e4]; omega⟩, Option.bind_some, e6]
  · rw [e]
    show l.length + m + 6 ≤ y
    omega
theorem o_X1 : oR f_X1_init 1 sg1 rg1 (fun s J => J s 3 = 0) := by
  intro l r I hr hz
  have w40 : jd_wr 40 = 40 := by decide +kernel
  have w3 : jd_wr 3 = 3 := by decide +kernel
  unfold f_X1_init
  rw [sg_nw (m := 1) hr (by rfl) (by rfl) (hz _ (by omega)), sg_p0 (m := 2) hr (by rfl) (by decide) (by rfl) (by rfl), Option.bind_some]
  refine lp2_any 40 (fun n M => ∃ J, M = ml (l ++ kKp n) (r ++ rKp l.length n) J ∧ (∀ a, a ≤ l.length → J a = I a) ∧ zI J (l.length + (2 + 6 * n))) (fun x => ∃ J, x = some (0, ml (l ++ sg1) (r ++ rg1 l.length) J) ∧ (∀ a, a < l.length → J a = I a) ∧ zI J (l.length + sg1.length) ∧ J l.length 3 = 0) ?_ ?_ jfuel _ (jfuel_n (by decide)) ⟨I, rfl, fun a _ => rfl, fun a ha => hz a (by omega)⟩
  · rintro n hn M ⟨J, rfl, j1, j2⟩ rec
    have w : jd_wr (n : Int) = (n : Int) := wr_n n (by omega)
    obtain ⟨J2, x1, x2, x3⟩ := kp_step (l := l) (r := r) (I := J) (a := kKp n) (b := rKp l.length n) (m := 2 + 6 * n) hr (kKp_n n) (rKp_n _ n) j2 (x := 1) (k := n) (by omega) (kKp_1 n) hn (by decide) (fun M9 => rec ((n : Int) + 1) M9)
    refine ⟨_, ⟨J2, rfl, fun a ha => (x2 a (by omega)).trans (j1 a ha), fun a ha => x3 a (by omega)⟩, ?_⟩
    have g : jm_gR 1 0 (ml (l ++ kKp n) (r ++ rKp l.length n) J) l.length = some (l.length + 1) := gg_R (sg_k0 (m := 2 + 6 * n) (kKp_n n) (by omega) (by rw [kKp_0])) (by rw [rL_0 hr 0]; exact rKp_0 l.length n)
    show (if jd_wr (n : Int) < jd_wr 40 then (jm_gR 1 0 (ml (l ++ kKp n) (r ++ rKp l.length n) J) l.length).bind (fun r4 => jnw (ml (l ++ kKp n) (r ++ rKp l.length n) J) 6 0 fun q5 M6 => jbd (f_X6_init q5 M6) fun _ M8 => (jm_stR M8 r4 (n : Int) q5).bind fun M9 => rec ((n : Int) + 1) M9) else _) = _
    rw [if_pos (by rw [w, w40]; omega), g, Option.bind_some]
    exact x1
  · rintro M ⟨J, rfl, j1, j2⟩ rec
    show ∃ J', (if jd_wr ((40 : Nat) : Int) < jd_wr 40 then _ else (jnw (ml (l ++ kKp 40) (r ++ rKp l.length 40) J) 25 3 fun q10 M11 => (jm_pR 1 1 M11 l.length q10).bind fun M12 => _)) = some (0, ml (l ++ sg1) (r ++ rg1 l.length) J') ∧ _
    rw [if_neg (by show ¬ jd_wr 40 < jd_wr 40; omega), sg_nw (m := 242) hr (kKp_n 40) (rKp_n _ 40) (j2 _ (by omega)), sg_p0 (m := 243) hr (by rw [List.length_append, kKp_n]; rfl) (by decide) (by rw [List.length_append, rKp_n]; rfl) (by rw [gD_l (by rw [kKp_n]; omega), kKp_0]), Option.bind_some]
    refine lp2_any 3 (fun n M => ∃ J, M = ml (l ++ kKq n) (r ++ rKq l.length n) J ∧ (∀ a, a ≤ l.length → J a = I a) ∧ zI J (l.length + (243 + 6 * n))) (fun x => ∃ J, x = some (0, ml (l ++ sg1) (r ++ rg1 l.length) J) ∧ (∀ a, a < l.length → J a = I a) ∧ zI J (l.length + sg1.length) ∧ J l.length 3 = 0) ?_ ?_ jfuel _ (jfuel_n (by decide)) ⟨J, rfl, j1, fun a ha => j2 a (by omega)⟩
    · rintro n hn M ⟨J, rfl, j1, j2⟩ rec
      have w : jd_wr (n : Int) = (n : Int) := wr_n n (by omega)
      obtain ⟨J2, x1, x2, x3⟩ := kp_step (l := l) (r := r) (I := J) (a := kKq n) (b := rKq l.length n) (m := 243 + 6 * n) hr (kKq_n n) (rKq_n _ n) j2 (x := 242) (k := n) (by omega) (kKq_1 n) hn (by decide) (fun M9 => rec ((n : Int) + 1) M9)
      refine ⟨_, ⟨J2, rfl, fun a ha => (x2 a (by omega)).trans (j1 a ha), fun a ha => x3 a (by omega)⟩, ?_⟩
      have g : jm_gR 1 1 (ml (l ++ kKq n) (r ++ rKq l.length n) J) l.length = some (l.length + 242) := gg_R (sg_k0 (m := 243 + 6 * n) (kKq_n n) (by omega) (by rw [kKq_0])) (by rw [rL_0 hr 1]; exact rKq_1 l.length n)
      show (if jd_wr (n : Int) < jd_wr 3 then (jm_gR 1 1 (ml (l ++ kKq n) (r ++ rKq l.length n) J) l.length).bind (fun r4 => jnw (ml (l ++ kKq n) (r ++ rKq l.length n) J) 6 0 fun q5 M6 => jbd (f_X6_init q5 M6) fun _ M8 => (jm_stR M8 r4 (n : Int) q5).bind fun M9 => rec ((n : Int) + 1) M9) else _) = _
      rw [if_pos (by rw [w, w3]; omega), g, Option.bind_some]
      exact x1
    · rintro M ⟨J, rfl, j1, j2⟩ rec
      show ∃ J', (if jd_wr ((3 : Nat) : Int) < jd_wr 3 then _ else (jnw (ml (l ++ kKq 3) (r ++ rKq l.length 3) J) 22 3 fun q19 M20 => (jm_pR 1 2 M20 l.length q19).bind fun M21 => some (0, M21))) = some (0, ml (l ++ sg1) (r ++ rg1 l.length) J') ∧ _
      rw [if_neg (by show ¬ jd_wr 3 < jd_wr 3; omega), sg_nw (m := 261) hr (kKq_n 3) (rKq_n _ 3) (j2 _ (by omega)), sg_p0 (m := 262) hr (by rw [List.length_append, kKq_n]; rfl) (by decide) (by rw [List.length_append, rKq_n]; rfl) (by rw [gD_l (by rw [kKq_n]; omega), kKq_0]), Option.bind_some]
      refine ⟨J, rfl, fun a ha => j1 a (Nat.le_of_lt ha), fun a ha => j2 a ?_, ?_⟩
      · have e : sg1.length = 262 := by unfold sg1; rw [List.length_append, kKq_n]; rfl
        rw [e] at ha
        omega
      · rw [j1 _ (Nat.le_refl _)]; exact hz _ (Nat.le_refl _) 3
end OC
