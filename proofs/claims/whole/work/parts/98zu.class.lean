/-! ===== the class, as it comes to be ===== -/
theorem ob_step {f : Nat → jMem → Option (Int × jMem)} {c : Nat} {sg : List (Nat × Nat)} {rg : Nat → List (List (Option Nat))} {P : Nat → (Nat → Nat → Int) → Prop} (ho : oR f c sg rg P) {l l' : List (Nat × Nat)} {r r' : List (List (Option Nat))} {I : Nat → Nat → Int} {n n' : Nat} (hl : l.length = n) (hr : r.length = n) (hz : zI I n) (k : Nat) (hl' : l ++ sg = l') (hr' : rset (r ++ rg n) 0 k n = r') (hn' : l'.length = n') (hrn : r'.length = n') (hsg : n + sg.length = n') (h0 : (kL l' 0).1 = 11) (hp : 0 < n') (F : jMem → Option (Int × jMem)) : ∃ J, (jnw (ml l r I) c 0 fun q M => jbd (f q M) fun _ M4 => (jm_pR 11 k M4 0 q).bind F) = F (ml l' r' J) ∧ (∀ a, a < n → J a = I a) ∧ zI J n' ∧ P n J := by
  subst hl
  obtain ⟨J, x1, x2, x3, x4⟩ := ho l r I hr hz
  refine ⟨J, ?_, x2, by rw [← hsg]; exact x3, x4⟩
  have e2 : (r ++ rg l.length).length = (l ++ sg).length := by rw [← rset_n (r ++ rg l.length) 0 k l.length, hr', hrn, hl', hn']
  rw [gg_nw hr (hz _ (Nat.le_refl _)), x1, jbd_s, gg_pR e2 ⟨by rw [hl']; exact h0, by rw [hl', hn']; exact hp⟩, Option.bind_some, hr', hl']
def lc0 : List (Nat × Nat) := [(11, 0)]
def rc0 : List (List (Option Nat)) := [[]]
def lc1 : List (Nat × Nat) := lc0 ++ sg7
def rc1 : List (List (Option Nat)) := rset (rc0 ++ rg7 1) 0 0 1
def lc2 : List (Nat × Nat) := lc1 ++ sg8
def rc2 : List (List (Option Nat)) := rset (rc1 ++ rg8 3) 0 2 3
def lc3 : List (Nat × Nat) := lc2 ++ sg8
def rc3 : List (List (Option Nat)) := rset (rc2 ++ rg8 16) 0 3 16
def lc4 : List (Nat × Nat) := lc3 ++ sg3
def rc4 : List (List (Option Nat)) := rset (rc3 ++ rg3 1 16 29) 0 1 29
def lc5 : List (Nat × Nat) := lc4 ++ sg6
def rc5 : List (List (Option Nat)) := rset (rc4 ++ rg6 34) 0 4 34
def lc6 : List (Nat × Nat) := lc5 ++ sg6
def rc6 : List (List (Option Nat)) := rset (rc5 ++ rg6 40) 0 5 40
def lc7 : List (Nat × Nat) := lc6 ++ sg1
def rc7 : List (List (Option Nat)) := rset (rc6 ++ rg1 46) 0 6 46
def lc8 : List (Nat × Nat) := lc7 ++ sg10
def rc8 : List (List (Option Nat)) := rset (rc7 ++ rg10 308) 0 7 308
def lc9 : List (Nat × Nat) := lc8 ++ sg4
def rc9 : List (List (Option Nat)) := rset (rc8 ++ rg4 311) 0 8 311
def lc10 : List (Nat × Nat) := lc9 ++ sg4
def rc10 : List (List (Option Nat)) := rset (rc9 ++ rg4 324) 0 9 324
def lc11 : List (Nat × Nat) := lc10 ++ sg5
def rc11 : List (List (Option Nat)) := rset (rc10 ++ rg5 337) 0 10 337
def lc12 : List (Nat × Nat) := lc11 ++ sg0
def rc12 : List (List (Option Nat)) := rset (rc11 ++ rg0 348) 0 11 348
def lc13 : List (Nat × Nat) := lc12 ++ [(20, 7)]
def rc13 : List (List (Option Nat)) := rset (rc12 ++ [[]]) 0 12 367
def lc14 : List (Nat × Nat) := lc13 ++ [(20, 7)]
def rc14 : List (List (Option Nat)) := rset (rc13 ++ [[]]) 0 13 368
theorem ln_lc : (lc0.length = 1 ∧ lc1.length = 3 ∧ lc2.length = 16 ∧ lc3.length = 29 ∧ lc4.length = 34 ∧ lc5.length = 40 ∧ lc6.length = 46) ∧ (lc7.length = 308 ∧ lc8.length = 311 ∧ lc9.length = 324 ∧ lc10.length = 337 ∧ lc11.length = 348 ∧ lc12.length = 367 ∧ lc13.length = 368 ∧ lc14.length = 369) := by decide +kernel
theorem ln_rc : (rc0.length = 1 ∧ rc1.length = 3 ∧ rc2.length = 16 ∧ rc3.length = 29 ∧ rc4.length = 34 ∧ rc5.length = 40 ∧ rc6.length = 46) ∧ (rc7.length = 308 ∧ rc8.length = 311 ∧ rc9.length = 324 ∧ rc10.length = 337 ∧ rc11.length = 348 ∧ rc12.length = 367 ∧ rc13.length = 368 ∧ rc14.length = 369) := by decide +kernel
theorem x_pre : ∃ I9, f_X11_init 0 (ml lc0 rc0 (fun _ _ => 0)) = jcall 11 (ml lc14 rc14 I9) 0 (f_X11_startOver 0 (ml lc14 rc14 I9)) (fun _ M70 => some (0, M70)) ∧ zI I9 369 ∧ I9 1 1 = 0 ∧ txP 3 I9 ∧ I9 29 8 = -1 ∧ (∀ k, I9 36 k = 0) ∧ I9 46 3 = 0 ∧ (∀ m, m < 64 → I9 323 m = (oddR m : Int)) ∧ ∀ m, m < 64 → I9 336 m = (oddR m : Int) := by
  obtain ⟨⟨a0, a1, a2, a3, a4, a5, a6⟩, a7, a8, a9, a10, a11, a12, a13, a14⟩ := ln_lc
  obtain ⟨⟨b0, b1, b2, b3, b4, b5, b6⟩, b7, b8, b9, b10, b11, b12, b13, b14⟩ := ln_rc
  unfold f_X11_init
  obtain ⟨J1, e1, f1, z1, p1⟩ := ob_step o_X7 (l := lc0) (r := rc0) (I := fun _ _ => 0) a0 b0 (fun _ _ _ => rfl) 0 (l' := lc1) (r' := rc1) rfl rfl a1 b1 rfl (by decide +kernel) (by decide) _
  rw [e1]
  clear e1
  obtain ⟨J2, e2, f2, z2, p2⟩ := ob_step o_X8 (l := lc1) (r := rc1) (I := J1) a1 b1 z1 2 (l' := lc2) (r' := rc2) rfl rfl a2 b2 rfl (by decide +kernel) (by decide) _
  rw [e2]
  clear e2
  obtain ⟨J3, e3, f3, z3, p3⟩ := ob_step o_X8 (l := lc2) (r := rc2) (I := J2) a2 b2 z2 3 (l' := lc3) (r' := rc3) rfl rfl a3 b3 rfl (by decide +kernel) (by decide) _
  rw [e3]
  clear e3
  have k3 : (kL (lc3 ++ [(3, 0)]) 0).1 = 11 ∧ 0 < (lc3 ++ [(3, 0)]).length := by decide +kernel
  have v0 : rL (rc3 ++ [[]]) 0 0 = some 1 := by decide +kernel
  have v3 : rL (rc3 ++ [[]]) 0 3 = some 16 := by decide +kernel
  have q0 : jm_gR 11 0 (ml (lc3 ++ [(3, 0)]) (rc3 ++ [[]]) J3) 0 = some 1 := gg_R k3 v0
  have q3 : jm_gR 11 3 (ml (lc3 ++ [(3, 0)]) (rc3 ++ [[]]) J3) 0 = some 16 := gg_R k3 v3
  have hc3 : ∀ F : jMem → Option (Int × jMem), (jnw (ml lc3 rc3 J3) 3 0 fun q16 M17 => (jm_gR 11 0 M17 0).bind fun r18 => (jm_gR 11 3 M17 0).bind fun r19 => jbd (f_X3_init q16 r18 r19 M17) fun _ M21 => (jm_pR 11 1 M21 0 q16).bind F) = (jnw (ml lc3 rc3 J3) 3 0 fun q M => jbd (f_X3_init q 1 16 M) fun _ M4 => (jm_pR 11 1 M4 0 q).bind F) := by
    intro F
    rw [gg_nw (by rw [a3, b3]) (by rw [a3]; exact z3 _ (Nat.le_refl _)), gg_nw (by rw [a3, b3]) (by rw [a3]; exact z3 _ (Nat.le_refl _)), q0, Option.bind_some, q3, Option.bind_some]
  obtain ⟨J4, e4, f4, z4, p4⟩ := ob_step (o_X3 1 16) (l := lc3) (r := rc3) (I := J3) a3 b3 z3 1 (l' := lc4) (r' := rc4) rfl rfl a4 b4 rfl (by decide +kernel) (by decide) _
  rw [hc3, e4]
  clear e4 hc3 q0 q3
  obtain ⟨J5, e5, f5, z5, p5⟩ := ob_step o_X6 (l := lc4) (r := rc4) (I := J4) a4 b4 z4 4 (l' := lc5) (r' := rc5) rfl rfl a5 b5 rfl (by decide +kernel) (by decide) _
  rw [e5]
  clear e5
  obtain ⟨J6, e6, f6, z6, p6⟩ := ob_step o_X6 (l := lc5) (r := rc5) (I := J5) a5 b5 z5 5 (l' := lc6) (r' := rc6) rfl rfl a6 b6 rfl (by decide +kernel) (by decide) _
  rw [e6]
  clear e6
  obtain ⟨J7, e7, f7, z7, p7⟩ := ob_step o_X1 (l := lc6) (r := rc6) (I := J6) a6 b6 z6 6 (l' := lc7) (r' := rc7) rfl rfl a7 b7 (by decide +kernel) (by decide +kernel) (by decide) _
  rw [e7]
  clear e7
  obtain ⟨J8, e8, f8, z8, p8⟩ := ob_step o_X10 (l := lc7) (r := rc7) (I := J7) a7 b7 z7 7 (l' := lc8) (r' := rc8) rfl rfl a8 b8 rfl (by decide +kernel) (by decide) _
  rw [e8]
  clear e8
  obtain ⟨J9, e9, f9, z9, p9⟩ := ob_step o_X4 (l := lc8) (r := rc8) (I := J8) a8 b8 z8 8 (l' := lc9) (r' := rc9) rfl rfl a9 b9 rfl (by decide +kernel) (by decide) _
  rw [e9]
  clear e9
  obtain ⟨J10, e10, f10, z10, p10⟩ := ob_step o_X4 (l := lc9) (r := rc9) (I := J9) a9 b9 z9 9 (l' := lc10) (r' := rc10) rfl rfl a10 b10 rfl (by decide +kernel) (by decide) _
  rw [e10]
  clear e10
  obtain ⟨J11, e11, f11, z11, p11⟩ := ob_step o_X5 (l := lc10) (r := rc10) (I := J10) a10 b10 z10 10 (l' := lc11) (r' := rc11) rfl rfl a11 b11 rfl (by decide +kernel) (by decide) _
  rw [e11]
  clear e11
  obtain ⟨J12, e12, f12, z12, p12⟩ := ob_step o_X0 (l := lc11) (r := rc11) (I := J11) a11 b11 z11 11 (l' := lc12) (r' := rc12) rfl rfl a12 b12 rfl (by decide +kernel) (by decide) _
  rw [e12]
  clear e12
  have k13 : (kL lc13 0).1 = 11 ∧ 0 < lc13.length := by decide +kernel
  have k14 : (kL lc14 0).1 = 11 ∧ 0 < lc14.length := by decide +kernel
  rw [gg_nw (by rw [a12, b12]) (by rw [a12]; exact z12 _ (Nat.le_refl _)), show lc12 ++ [(20, 7)] = lc13 from rfl, gg_pR (by rw [a13, List.length_append, b12]; rfl) k13, Option.bind_some, a12, show rset (rc12 ++ [[]]) 0 12 367 = rc13 from rfl]
  rw [gg_nw (by rw [a13, b13]) (by rw [a13]; exact z12 _ (by decide)), show lc13 ++ [(20, 7)] = lc14 from rfl, gg_pR (by rw [a14, List.length_append, b13]; rfl) k14, Option.bind_some, a13, show rset (rc13 ++ [[]]) 0 13 368 = rc14 from rfl]
  have g3 : ∀ a, a < 16 → J12 a = J2 a := fun a ha => by rw [f12 a (by omega), f11 a (by omega), f10 a (by omega), f9 a (by omega), f8 a (by omega), f7 a (by omega), f6 a (by omega), f5 a (by omega), f4 a (by omega), f3 a ha]
  have g4 : ∀ a, a < 34 → J12 a = J4 a := fun a ha => by rw [f12 a (by omega), f11 a (by omega), f10 a (by omega), f9 a (by omega), f8 a (by omega), f7 a (by omega), f6 a (by omega), f5 a ha]
  have g5 : ∀ a, a < 40 → J12 a = J5 a := fun a ha => by rw [f12 a (by omega), f11 a (by omega), f10 a (by omega), f9 a (by omega), f8 a (by omega), f7 a (by omega), f6 a ha]
  have g7 : ∀ a, a < 308 → J12 a = J7 a := fun a ha => by rw [f12 a (by omega), f11 a (by omega), f10 a (by omega), f9 a (by omega), f8 a ha]
  have g9 : ∀ a, a < 324 → J12 a = J9 a := fun a ha => by rw [f12 a (by omega), f11 a (by omega), f10 a ha]
  have g10 : ∀ a, a < 337 → J12 a = J10 a := fun a ha => by rw [f12 a (by omega), f11 a ha]
  refine ⟨J12, rfl, fun a ha => z12 a (by omega), ?_, ?_, ?_, fun k => ?_, ?_, fun m hm => ?_, fun m hm => ?_⟩
  · rw [g3 1 (by decide), f2 1 (by decide)]; exact p1
  · obtain ⟨t1, t2, t3, t4, t5, t6, t7⟩ := p2
    unfold lcP at t7
    unfold txP lcP
    rw [g3 3 (by decide), g3 (3 + 6) (by decide), g3 (3 + 8) (by decide), g3 (3 + 8 + 1) (by decide), g3 (3 + 8 + 2) (by decide), g3 (3 + 8 + 3) (by decide)]
    exact ⟨t1, t2, t3, t4, t5, t6, t7⟩
  · rw [g4 29 (by decide)]; exact p4
  · rw [g5 36 (by decide)]; exact p5 k
  · rw [g7 46 (by decide)]; exact p7
  · rw [g9 323 (by decide)]; exact p9 m hm
  · rw [g10 336 (by decide)]; exact p10 m hm
def nrm : List (Option Nat) → List (Option Nat)
  | [] => []
  | x :: xs => match x, nrm xs with
    | none, [] => []
    | x, ys => x :: ys
theorem nrm_g : ∀ (l : List (Option Nat)) (j : Nat), (nrm l).getD j none = l.getD j none
  | [], j => rfl
  | x :: xs, j => by
    have ih := nrm_g xs
    unfold nrm
    generalize nrm xs = ys at ih
    cases x with
    | none =>
      cases ys with
      | nil =>
        cases j with
        | zero => rfl
        | succ j => exact ih j
      | cons y ys =>
        cases j with
        | zero => rfl
        | succ j => exact ih j
    | some v =>
      cases j with
      | zero => rfl
      | succ j => exact ih j
theorem map_g : ∀ (r : List (List (Option Nat))) (a : Nat), (r.map nrm).getD a [] = nrm (r.getD a [])
  | [], a => rfl
  | x :: xs, 0 => rfl
  | x :: xs, a + 1 => map_g xs a
theorem rL_eq {r r' : List (List (Option Nat))} (h : r.map nrm = r'.map nrm) : rL r = rL r' := by
  funext a j
  unfold rL
  rw [← nrm_g (r.getD a []) j, ← nrm_g (r'.getD a []) j, ← map_g, ← map_g, h]
theorem lc14_eq : lc14 = kT.take 369 := by decide +kernel
theorem rc14_eq : rc14.map nrm = (rT.take 369).map nrm := by decide +kernel
theorem rF_9_v : rF_9 0 2 = some 3 ∧ rF_9 0 3 = some 16 ∧ rF_9 29 2 = some 16 := by decide +kernel
theorem R0_9_eq : R0_9 3 16 16 = rL (rT.take 369) := by
  funext a j
  show R0_9 3 16 16 a j = rF_9 a j
  obtain ⟨v1, v2, v3⟩ := rF_9_v
  unfold R0_9
  by_cases c1 : a = 0 ∧ j = 2
  · rw [if_pos c1, c1.1, c1.2, v1]
  · rw [if_neg c1]
    by_cases c2 : a = 0 ∧ j = 3
    · rw [if_pos c2, c2.1, c2.2, v2]
    · rw [if_neg c2]
      by_cases c3 : a = 29 ∧ j = 2
      · rw [if_pos c3, c3.1, c3.2, v3]
      · rw [if_neg c3]
theorem ml_9 (I : Nat → Nat → Int) : ml lc14 rc14 I = mm_9 3 16 16 I := by
  show ((lc14.length, kL lc14), I, rL rc14) = ((369, K0_9), I, R0_9 3 16 16)
  rw [R0_9_eq, rL_eq rc14_eq, ln_lc.2.2.2.2.2.2.2.2, lc14_eq]
  rfl
theorem tk_9 (I : Nat → Nat → Int) : mm_9 3 16 16 I = ml (kT.take 369) (rT.take 369) I := by
  show ((369, K0_9), I, R0_9 3 16 16) = (((kT.take 369).length, kL (kT.take 369)), I, rL (rT.take 369))
  rw [R0_9_eq, ← lc14_eq, ln_lc.2.2.2.2.2.2.2.2, lc14_eq]
  rfl
def noH : Nat → Bool := fun _ => false
/-- the class begins: 4 by 4, nothing lies, nothing is kept -/
def clB0 (J : Nat → Nat → Int) : Prop := zI J 369 ∧ J 1 1 = 0 ∧ J 29 8 = -1 ∧ cfC J 3 4 4 16 0 noH 0 (fun q => (dfLw q).1) (fun q => (dfLw q).2) ∧ stR J 34 4 rNil ∧ J 46 4 = 0 ∧ J 46 3 = 0 ∧ (∀ i, i < 3 → J 307 i = 0) ∧ J 308 2 = 0 ∧ rCfg J 311 4 4 noH noB noB ∧ wyR J 311 4 4 noH noB noB ∧ ∀ m, m < 64 → J 336 m = (oddR m : Int)
theorem sq_0 : sqOK 4 4 16 0 noH := ⟨by decide, by decide, by decide, by decide, rfl, by decide, by decide, by decide, fun c hc => (by cases hc)⟩
theorem x_class : ∃ J, f_X11_init 0 (ml lc0 rc0 (fun _ _ => 0)) = some (0, ml (kT.take 369) (rT.take 369) J) ∧ clB0 J := by
  obtain ⟨I9, e, h1, h2, h3, h4, h5, h6, h7, h8⟩ := x_pre
  have cf : cfC I9 3 4 4 16 0 noH 0 (fun q => (dfLw q).1) (fun q => (dfLw q).2) := by
    obtain ⟨t1, t2, t3, t4, t5, t6, k1, k2, k3, k4, k5, k6, k7, k8, k9, k10⟩ := h3
    refine ⟨by decide, t1, t2, t3, t4, fun c hc => t6 c hc, fun q hq => ⟨dfLw_ok q, ?_⟩⟩
    by_cases q0 : q = 0
    · subst q0
      exact ⟨4, 0, 2, k1, by decide, k8, by decide, ⟨k2, k3, True.intro⟩, k4, rfl⟩
    · have hp : plV q = 0 := by unfold plV; rw [if_neg q0]
      refine ⟨4, 2, 4, k1, by decide, ?_, by decide, ⟨k5, ?_, True.intro⟩, k7, rfl⟩
      · rcases (by omega : q = 1 ∨ q = 2) with rfl | rfl
        · exact k9
        · exact k10
      · show I9 (3 + 8 + 2) 2 = plV q
        rw [hp]; exact k6
  have so := w_startOver_9 (d := 16) (rt := 16) sq_0 cf (m := 0) (sx := fun _ => 0) (sy := fun _ => 0) (sw := fun _ => 0) (W := noH) h3.2.2.2.2.1 (fun i hi => absurd hi (Nat.not_lt_zero _)) (fun i hi => absurd hi (Nat.not_lt_zero _)) rfl (by decide) (fun k hk => Or.inl (h5 k)) h7
  obtain ⟨r, J, eJ, s1, s2, s3, s4, s5, s6, s7, s8⟩ := so
  refine ⟨J, ?_, fun a ha j => ?_, ?_, ?_, ?_, ?_, s3, s4.trans h6, s5, s6, s7, s8, fun m hm => ?_⟩
  · rw [e, ml_9, eJ, ← tk_9]
    have k0 : (K0_9 0).1 = 11 ∧ 0 < 369 := by decide +kernel
    exact mm_call_9 k0
  · rw [s1 a (by unfold soS; omega)]; exact h1 a ha j
  · rw [s1 1 (by unfold soS; omega)]; exact h2
  · rw [s1 29 (by unfold soS; omega)]; exact h4
  · exact cfC_frm (S := soS) s1 (fun a a1 a2 => by unfold soS; omega) cf
  · rw [rwS_0] at s2; exact s2
  · rw [s1 336 (by unfold soS; omega)]; exact h8 m hm
