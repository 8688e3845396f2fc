/-! ===== the class's parts, as they come to be ===== -/
section SGM
variable {I : Nat → Nat → Int} {l : List (Nat × Nat)} {r : List (List (Option Nat))}
theorem kL_r {a : List (Nat × Nat)} (i : Nat) : kL (l ++ a) (l.length + i) = a.getD i (0, 0) := gD_r
theorem kL_0 {a : List (Nat × Nat)} : kL (l ++ a) l.length = a.getD 0 (0, 0) := gD_r (l := l) (m := a) (i := 0)
theorem rL_r (hr : r.length = l.length) {b : List (List (Option Nat))} (i j : Nat) : rL (r ++ b) (l.length + i) j = (b.getD i []).getD j none := by
  unfold rL
  rw [← hr, gD_r]
theorem rL_0 (hr : r.length = l.length) {b : List (List (Option Nat))} (j : Nat) : rL (r ++ b) l.length j = (b.getD 0 []).getD j none := rL_r hr 0 j
theorem sg_nw {β : Type} {a : List (Nat × Nat)} {b : List (List (Option Nat))} {m : Nat} (hr : r.length = l.length) (ha : a.length = m) (hb : b.length = m) (hz : ∀ j, I (l.length + m) j = 0) {k n : Nat} {f : Nat → jMem → β} : jnw (ml (l ++ a) (r ++ b) I) k n f = f (l.length + m) (ml (l ++ (a ++ [(k, n)])) (r ++ (b ++ [[]])) I) := by
  have e : (l ++ a).length = l.length + m := by rw [List.length_append, ha]
  have e2 : (r ++ b).length = (l ++ a).length := by rw [List.length_append, hb, hr, e]
  rw [gg_nw e2 (by rw [e]; exact hz), e, List.append_assoc, List.append_assoc]
theorem sg_gr {β : Type} {a : List (Nat × Nat)} {b : List (List (Option Nat))} {m : Nat} (hr : r.length = l.length) (ha : a.length = m) (hb : b.length = m) (hz : zI I (l.length + m)) {f : Nat → jMem → β} : jnm (ml (l ++ a) (r ++ b) I) 7 64 f = f (l.length + m) (ml (l ++ (a ++ gdK)) (r ++ (b ++ gdR (l.length + m))) I) := by
  have e : (l ++ a).length = l.length + m := by rw [List.length_append, ha]
  have e2 : (r ++ b).length = (l ++ a).length := by rw [List.length_append, hb, hr, e]
  rw [gg_gr e2 (by rw [e]; exact hz), e, List.append_assoc, List.append_assoc]
theorem sg_pR {a : List (Nat × Nat)} {b : List (List (Option Nat))} {m i : Nat} (hr : r.length = l.length) (ha : a.length = m) (hi : i < m) (hb : b.length = m) {ci k q : Nat} (hc : (a.getD i (0, 0)).1 = ci) : jm_pR ci k (ml (l ++ a) (r ++ b) I) (l.length + i) q = some (ml (l ++ a) (r ++ rset b i k q) I) := by
  have e : (l ++ a).length = l.length + m := by rw [List.length_append, ha]
  have e2 : (r ++ b).length = (l ++ a).length := by rw [List.length_append, hb, hr, e]
  have e3 : rset (r ++ b) (l.length + i) k q = r ++ rset b i k q := by rw [← hr]; exact rset_r
  rw [gg_pR e2 ⟨by rw [kL_r]; exact hc, by rw [e]; omega⟩, e3]
theorem sg_p0 {a : List (Nat × Nat)} {b : List (List (Option Nat))} {m : Nat} (hr : r.length = l.length) (ha : a.length = m) (hi : 0 < m) (hb : b.length = m) {ci k q : Nat} (hc : (a.getD 0 (0, 0)).1 = ci) : jm_pR ci k (ml (l ++ a) (r ++ b) I) l.length q = some (ml (l ++ a) (r ++ rset b 0 k q) I) := sg_pR (i := 0) hr ha hi hb hc
theorem sg_k {a : List (Nat × Nat)} {m i : Nat} (ha : a.length = m) (hi : i < m) {ci : Nat} (hc : (a.getD i (0, 0)).1 = ci) : (kL (l ++ a) (l.length + i)).1 = ci ∧ l.length + i < (l ++ a).length := by
  refine ⟨by rw [kL_r]; exact hc, ?_⟩
  rw [List.length_append, ha]; omega
theorem sg_k0 {a : List (Nat × Nat)} {m : Nat} (ha : a.length = m) (hi : 0 < m) {ci : Nat} (hc : (a.getD 0 (0, 0)).1 = ci) : (kL (l ++ a) l.length).1 = ci ∧ l.length < (l ++ a).length := sg_k (i := 0) ha hi hc
end SGM
section GCL
variable {N : Nat} {kK : Nat → Nat × Nat} {rR : Nat → Nat → Option Nat} {I : Nat → Nat → Int}
theorem g_fill {a m : Nat} (h : kK a = (20, m)) (ha : a < N) (hm : m ≤ 1000) (v : Int) : f_J7_fill_53178 a v (mg N kK rR I) = some (0, mg N kK rR (fl I a m (fun _ => v))) := by
  unfold f_J7_fill_53178
  rw [gg_ln h ha, Option.bind_some]
  have e0 : mg N kK rR I = mg N kK rR (fl I a 0 (fun _ => v)) := by rw [fl_0]
  rw [e0]
  have wm' : jd_wr (m : Int) = (m : Int) := wr_n m (by omega)
  refine jlp2_seq (fun i => (i : Int)) (fun i => mg N kK rR (fl I a i (fun _ => v))) m _ (fun i hi rec => ?_) (fun rec => ?_) jfuel (Nat.lt_of_le_of_lt hm (jfuel_n (by decide)))
  · have w1 : jd_wr (i : Int) = (i : Int) := wr_n i (by omega)
    show (if jd_wr (i : Int) < jd_wr (m : Int) then (jm_st 20 (mg N kK rR (fl I a i (fun _ => v))) a (i : Int) v).bind (fun M2 => rec ((i : Int) + 1) M2) else some (0, mg N kK rR (fl I a i (fun _ => v)))) = rec ((i : Int) + 1) (mg N kK rR (fl I a (i + 1) (fun _ => v)))
    rw [if_pos (by rw [w1, wm']; omega), gg_st h ha (by rw [w1]; omega), Option.bind_some, w1, Int.toNat_natCast, show up (fl I a i fun _ => v) a i v = fl I a (i + 1) (fun _ => v) from fl_s I a i (fun _ => v)]
  · show (if jd_wr (m : Int) < jd_wr (m : Int) then (jm_st 20 (mg N kK rR (fl I a m (fun _ => v))) a (m : Int) v).bind (fun M2 => rec ((m : Int) + 1) M2) else some (0, mg N kK rR (fl I a m (fun _ => v)))) = some (0, mg N kK rR (fl I a m (fun _ => v)))
    rw [if_neg (by omega)]
theorem g_clear6 {s : Nat} (k0 : (kK s).1 = 6 ∧ s < N) (k1 : kK (s + 1) = (20, 18)) (h1 : s + 1 < N) (k5 : kK (s + 5) = (20, 36)) (h5 : s + 5 < N) (r0 : rR s 0 = some (s + 1)) (r4 : rR s 4 = some (s + 5)) : f_X6_clear s 4 (mg N kK rR I) = some (0, mg N kK rR (up (up (up (up (up (fl (fl I (s + 1) 18 (fun _ => -1)) (s + 5) 36 (fun _ => -1)) s 6 0) s 5 4) s 7 0) s 8 0) s 9 0)) := by
  have a1 := fun (J : Nat → Nat → Int) => gg_R (N := N) (rR := rR) (I := J) (k := 0) k0 r0
  have a2 := fun (J : Nat → Nat → Int) => gg_R (N := N) (rR := rR) (I := J) (k := 4) k0 r4
  have a3 := fun (J : Nat → Nat → Int) => g_fill (N := N) (rR := rR) (I := J) k1 h1 (by decide) (-1)
  have a4 := fun (J : Nat → Nat → Int) => g_fill (N := N) (rR := rR) (I := J) k5 h5 (by decide) (-1)
  have a5 := fun (J : Nat → Nat → Int) (k : Nat) (v : Int) => gg_pI (N := N) (rR := rR) (I := J) (k := k) (v := v) k0
  have a6 := fun (J : Nat → Nat → Int) (x : Option (Int × jMem)) (f : Int → jMem → Option (Int × jMem)) => gg_call (N := N) (rR := rR) (I := J) (x := x) (f := f) k0
  simp only [f_X6_clear, f_X6_takeAll, a1, a2, a3, a4, a5, a6, Option.bind_some, jbd_s]
/-- what the laws' cells are -/
def lwG (N : Nat) (kK : Nat → Nat × Nat) (rR : Nat → Nat → Option Nat) (x : Nat) : Prop := ((kK x).1 = 2 ∧ x < N) ∧ (kK (x + 1) = (20, 404) ∧ x + 1 < N) ∧ (kK (x + 2) = (20, 404) ∧ x + 2 < N) ∧ (kK (x + 3) = (20, 3) ∧ x + 3 < N) ∧ rR x 0 = some (x + 1) ∧ rR x 1 = some (x + 2) ∧ rR x 2 = some (x + 3)
theorem g_beg {x sp q : Nat} (hG : lwG N kK rR x) (hs : I x 4 = (sp : Int)) {qz : Int} (hz : qz = (q : Int)) (hq : q < 3) : f_X2_begin x qz (mg N kK rR I) = some (0, mg N kK rR (up I (x + 3) q (sp : Int))) := by
  obtain ⟨k0, _, _, k3, r0, r1, r2⟩ := hG
  have w : jd_wr (q : Int) = (q : Int) := wr_n q (by omega)
  rw [hz]
  unfold f_X2_begin
  rw [gg_R k0 r2, Option.bind_some, gg_I k0, Option.bind_some, gg_st k3.1 k3.2 (by rw [w]; omega), Option.bind_some, w, Int.toNat_natCast, hs]
theorem g_add {x sp : Nat} (hG : lwG N kK rR x) (hs : I x 4 = (sp : Int)) (h4 : sp < 404) {a v : Int} : f_X2_add x a v (mg N kK rR I) = some ((sp : Int), mg N kK rR (adI I x sp a v)) := by
  obtain ⟨k0, k1, k2, _, r0, r1, r2⟩ := hG
  have w : jd_wr (sp : Int) = (sp : Int) := wr_n sp (by omega)
  have u1 : up I (x + 1) sp a x 4 = (sp : Int) := by rw [up_ne (by omega)]; exact hs
  have u2 : up (up I (x + 1) sp a) (x + 2) sp v x 4 = (sp : Int) := by rw [up_ne (by omega)]; exact u1
  have w4 : jd_wr 404 = 404 := by decide +kernel
  unfold f_X2_add adI
  rw [gg_I k0, hs, Option.bind_some, if_pos (by rw [w, w4]; omega), gg_R k0 r0, Option.bind_some, Option.bind_some, gg_st k1.1 k1.2 (by rw [w]; omega), Option.bind_some, w, Int.toNat_natCast, gg_R k0 r1, Option.bind_some, gg_I k0, u1, Option.bind_some, gg_st k2.1 k2.2 (by rw [w]; omega), Option.bind_some, w, Int.toNat_natCast, gg_I k0, u2, Option.bind_some, gg_pI k0, Option.bind_some, gg_I k0, up_s, Option.bind_some, show (sp : Int) + 1 - 1 = (sp : Int) by omega]
def lcP (x : Nat) (J : Nat → Nat → Int) : Prop := J x 4 = 4 ∧ J (x + 1) 0 = 0 ∧ J (x + 2) 0 = 1 ∧ J (x + 1) 1 = 3 ∧ J (x + 1) 2 = 0 ∧ J (x + 2) 2 = 0 ∧ J (x + 1) 3 = 3 ∧ J (x + 3) 0 = 0 ∧ J (x + 3) 1 = 2 ∧ J (x + 3) 2 = 2
theorem g_adrow {X : Nat → Nat → Int} {x s : Nat} {a v : Int} (p : Nat) : adI X x s a v (x + 1) p = (if p = s then a else X (x + 1) p) ∧ adI X x s a v (x + 2) p = (if p = s then v else X (x + 2) p) := by
  unfold adI
  refine ⟨?_, ?_⟩
  · rw [up_ne (show x + 1 ≠ x by omega), up_ne (show x + 1 ≠ x + 2 by omega), up_g]
  · rw [up_ne (show x + 2 ≠ x by omega), up_g, up_ne (show x + 2 ≠ x + 1 by omega)]
theorem g_lclear {x : Nat} (hG : lwG N kK rR x) : ∃ J, f_X2_clear x (mg N kK rR I) = some (0, mg N kK rR J) ∧ frm (fun a => x ≤ a ∧ a ≤ x + 3) I J ∧ lcP x J := by
  have kl := hG.1
  have s0 : up I x 4 0 x 4 = ((0 : Nat) : Int) := up_s _ _ _ _
  generalize e0 : up I x 4 0 = I0 at s0
  have b0 := g_beg hG s0 (q := 0) (qz := 0) rfl (by decide)
  have s1 : up I0 (x + 3) 0 ((0 : Nat) : Int) x 4 = ((0 : Nat) : Int) := by rw [up_ne (by omega)]; exact s0
  generalize e1 : up I0 (x + 3) 0 ((0 : Nat) : Int) = I1 at s1 b0
  have b1 := g_add hG s1 (by decide) (a := 0) (v := 1)
  have s2 := ad_sp (I := I1) (l := x) (sp := 0) (a := 0) (v := 1)
  generalize e2 : adI I1 x 0 0 1 = I2 at s2 b1
  have b2 := g_add hG s2 (by decide) (a := 3) (v := 0)
  have s3 := ad_sp (I := I2) (l := x) (sp := 1) (a := 3) (v := 0)
  generalize e3 : adI I2 x (0 + 1) 3 0 = I3 at s3 b2
  have b3 := g_beg hG s3 (q := 1) (qz := 1) rfl (by decide)
  have s4 : up I3 (x + 3) 1 ((1 + 1 : Nat) : Int) x 4 = ((2 : Nat) : Int) := by rw [up_ne (by omega)]; exact s3
  generalize e4 : up I3 (x + 3) 1 ((1 + 1 : Nat) : Int) = I4 at s4 b3
  have b4 := g_beg hG s4 (q := 2) (qz := 2) rfl (by decide)
  have s5 : up I4 (x + 3) 2 ((2 : Nat) : Int) x 4 = ((2 : Nat) : Int) := by rw [up_ne (by omega)]; exact s4
  generalize e5 : up I4 (x + 3) 2 ((2 : Nat) : Int) = I5 at s5 b4
  have b5 := g_add hG s5 (by decide) (a := 0) (v := 0)
  have s6 := ad_sp (I := I5) (l := x) (sp := 2) (a := 0) (v := 0)
  generalize e6 : adI I5 x 2 0 0 = I6 at s6 b5
  have b6 := g_add hG s6 (by decide) (a := 3) (v := 0)
  have run : f_X2_clear x (mg N kK rR I) = some (0, mg N kK rR (adI I6 x (2 + 1) 3 0)) := by
    unfold f_X2_clear
    rw [gg_pI kl, Option.bind_some, e0, gg_call kl, b0, jbd_s, gg_call kl, b1, jbd_s, gg_call kl, b2, jbd_s, gg_call kl, b3, jbd_s, gg_call kl, b4, jbd_s, gg_call kl, b5, jbd_s, gg_call kl, b6, jbd_s]
  have a7 : ∀ p, adI I6 x (2 + 1) 3 0 (x + 1) p = (if p = 3 then 3 else I6 (x + 1) p) ∧ adI I6 x (2 + 1) 3 0 (x + 2) p = (if p = 3 then 0 else I6 (x + 2) p) := fun p => g_adrow p
  have a6 : ∀ p, I6 (x + 1) p = (if p = 2 then 0 else I5 (x + 1) p) ∧ I6 (x + 2) p = (if p = 2 then 0 else I5 (x + 2) p) := fun p => by rw [← e6]; exact g_adrow p
  have a3 : ∀ p, I3 (x + 1) p = (if p = 1 then 3 else I2 (x + 1) p) ∧ I3 (x + 2) p = (if p = 1 then 0 else I2 (x + 2) p) := fun p => by rw [← e3]; exact g_adrow p
  have a2 : ∀ p, I2 (x + 1) p = (if p = 0 then 0 else I1 (x + 1) p) ∧ I2 (x + 2) p = (if p = 0 then 1 else I1 (x + 2) p) := fun p => by rw [← e2]; exact g_adrow p
  have r5 : ∀ a, a ≠ x + 3 → I5 a = I3 a := fun a ha => by rw [← e5, up_ne ha, ← e4, up_ne ha]
  have ad3 : ∀ (X : Nat → Nat → Int) (s : Nat) (a v : Int), adI X x s a v (x + 3) = X (x + 3) := fun X s a v => by unfold adI; rw [up_ne (by omega), up_ne (by omega), up_ne (by omega)]
  have r3 : ∀ y, adI I6 x (2 + 1) 3 0 (x + 3) y = if y = 2 then 2 else if y = 1 then 2 else if y = 0 then 0 else I0 (x + 3) y := fun y => by
    rw [ad3, ← e6, ad3, ← e5, up_g, ← e4, up_g, ← e3, ad3, ← e2, ad3, ← e1, up_g]
    rfl
  refine ⟨_, run, fun a ha => ?_, ?_, ?_, ?_, ?_, ?_, ?_, ?_, ?_, ?_, ?_⟩
  · have z : ∀ (X : Nat → Nat → Int) (s : Nat) (y v : Int), adI X x s y v a = X a := fun X s y v => by unfold adI; rw [up_ne (by omega), up_ne (by omega), up_ne (by omega)]
    rw [z, ← e6, z, ← e5, up_ne (by omega), ← e4, up_ne (by omega), ← e3, z, ← e2, z, ← e1, up_ne (by omega), ← e0, up_ne (by omega)]
  · exact ad_sp
  · rw [(a7 0).1, if_neg (by decide), (a6 0).1, if_neg (by decide), r5 _ (by omega), (a3 0).1, if_neg (by decide), (a2 0).1, if_pos rfl]
  · rw [(a7 0).2, if_neg (by decide), (a6 0).2, if_neg (by decide), r5 _ (by omega), (a3 0).2, if_neg (by decide), (a2 0).2, if_pos rfl]
  · rw [(a7 1).1, if_neg (by decide), (a6 1).1, if_neg (by decide), r5 _ (by omega), (a3 1).1, if_pos rfl]
  · rw [(a7 2).1, if_neg (by decide), (a6 2).1, if_pos rfl]
  · rw [(a7 2).2, if_neg (by decide), (a6 2).2, if_pos rfl]
  · rw [(a7 3).1, if_pos rfl]
  · rw [r3]; rfl
  · rw [r3]; rfl
  · rw [r3]; rfl
/-- an empty text at s -/
def txP (s : Nat) (J : Nat → Nat → Int) : Prop := J s 0 = 4 ∧ J s 1 = 4 ∧ J s 2 = 0 ∧ J s 3 = 0 ∧ J s 4 = 0 ∧ (∀ c, c < 36 → J (s + 6) c = 0) ∧ lcP (s + 8) J
theorem g_tclear {s : Nat} (k0 : (kK s).1 = 8 ∧ s < N) (k6 : kK (s + 6) = (22, 36) ∧ s + 6 < N) (k7 : kK (s + 7) = (22, 36) ∧ s + 7 < N) (r10 : rR s 10 = some (s + 6)) (r11 : rR s 11 = some (s + 7)) (r12 : rR s 12 = some (s + 8)) (hG : lwG N kK rR (s + 8)) : ∃ J, f_X8_clear s (mg N kK rR I) = some (0, mg N kK rR J) ∧ frm (fun a => s ≤ a ∧ a ≤ s + 11) I J ∧ txP s J := by
  have z0 : jd_z 0 = 0 := by decide
  have w36 : jd_wr 36 = 36 := by decide +kernel
  unfold f_X8_clear
  rw [gg_pI k0, Option.bind_some, gg_pI k0, Option.bind_some, gg_pI k0, Option.bind_some, gg_pI k0, Option.bind_some, gg_pI k0, Option.bind_some]
  generalize e0 : up (up (up (up (up I s 0 4) s 1 4) s 2 0) s 3 0) s 4 0 = I0
  have g : ∀ j, I0 s j = if j = 4 then 0 else if j = 3 then 0 else if j = 2 then 0 else if j = 1 then 4 else if j = 0 then 4 else I s j := fun j => by
    rw [← e0, up_g, up_g, up_g, up_g, up_g]
  have f0 : frm (fun a => a = s) I I0 := by
    rw [← e0]
    exact frm_up (frm_up (frm_up (frm_up (frm_up (frm_refl _ _) rfl) rfl) rfl) rfl) rfl
  refine lp2_any 36 (fun n M => ∃ J, M = mg N kK rR J ∧ frm (fun a => a = s + 6 ∨ a = s + 7) I0 J ∧ ∀ c, c < n → J (s + 6) c = 0) (fun x => ∃ J, x = some (0, mg N kK rR J) ∧ frm (fun a => s ≤ a ∧ a ≤ s + 11) I J ∧ txP s J) ?_ ?_ jfuel _ (jfuel_n (by decide)) ⟨I0, rfl, frm_refl _ _, fun c hc => absurd hc (Nat.not_lt_zero _)⟩
  · rintro n hn M ⟨J, rfl, j1, j2⟩ rec
    have w : jd_wr (n : Int) = (n : Int) := wr_n n (by omega)
    refine ⟨mg N kK rR (up (up J (s + 6) n 0) (s + 7) n 0), ⟨_, rfl, frm_up (frm_up j1 (Or.inl rfl)) (Or.inr rfl), fun c hc => ?_⟩, ?_⟩
    · rw [up_ne (by omega), up_g]
      by_cases e : c = n
      · rw [if_pos e]
      · rw [if_neg e]; exact j2 c (by omega)
    · show (if jd_wr (n : Int) < jd_wr 36 then (jm_gR 8 10 (mg N kK rR J) s).bind (fun r6 => (jm_st 22 (mg N kK rR J) r6 (n : Int) (jd_z 0)).bind fun M7 => (jm_gR 8 11 M7 s).bind fun r8 => (jm_st 22 M7 r8 (n : Int) (jd_z 0)).bind fun M9 => rec ((n : Int) + 1) M9) else _) = _
      rw [if_pos (by rw [w, w36]; omega), gg_R k0 r10, Option.bind_some, z0, gg_st k6.1 k6.2 (by rw [w]; omega), Option.bind_some, gg_R k0 r11, Option.bind_some, gg_st k7.1 k7.2 (by rw [w]; omega), Option.bind_some, w, Int.toNat_natCast]
  · rintro M ⟨J, rfl, j1, j2⟩ rec
    show ∃ J', (if jd_wr ((36 : Nat) : Int) < jd_wr 36 then _ else (jm_gR 8 12 (mg N kK rR J) s).bind (fun r10 => jcall 2 (mg N kK rR J) r10 (f_X2_clear r10 (mg N kK rR J)) fun _ M12 => some (0, M12))) = some (0, mg N kK rR J') ∧ frm (fun a => s ≤ a ∧ a ≤ s + 11) I J' ∧ txP s J'
    obtain ⟨J2, x1, x2, x3⟩ := g_lclear (I := J) hG
    have er : J2 s = I0 s := by rw [x2 s (by omega), j1 s (by omega)]
    refine ⟨J2, ?_, fun a ha => ?_, ?_, ?_, ?_, ?_, ?_, fun c hc => ?_, x3⟩
    · rw [if_neg (by show ¬ jd_wr 36 < jd_wr 36; omega), gg_R k0 r12, Option.bind_some, gg_call hG.1, x1, jbd_s]
    · rw [x2 a (by omega), j1 a (by omega), f0 a (by omega)]
    · rw [er, g]; rfl
    · rw [er, g]; rfl
    · rw [er, g]; rfl
    · rw [er, g]; rfl
    · rw [er, g]; rfl
    · rw [x2 _ (by omega)]; exact j2 c hc
end GCL
