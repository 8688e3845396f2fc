/-! ===== read ===== -/
theorem sn_tls {K : Nat → Nat} {V : Nat → Int} : ∀ (f t : Nat) (x : TX), snd' (tlsR K V f t x) t
  | 0, t, x => sn_ok (Nat.le_refl _)
  | f + 1, t, x => by
    rw [tlsR]
    by_cases c : K t = 0
    · rw [if_pos c]; exact sn_ok (Nat.le_refl _)
    · rw [if_neg c]
      exact sn_b (sn_le (sn_tell _ _ _ _ _ _ _ _) (Nat.le_succ _)) (fun t1 a _ => sn_tls f t1 a)
section PR
variable {t d rt : Nat} {I J : Nat → Nat → Int}
theorem pR_t {x : Nat} : jm_pR 11 2 (mm t d rt I) 0 x = some (mm x d rt I) := by
  have h0 : (K0 0).1 = 11 ∧ 0 < 418 := by decide +kernel
  have h : (jK (mm t d rt I) 0).1 = 11 ∧ 0 < jN (mm t d rt I) := h0
  unfold jm_pR
  rw [if_pos h]
  congr 1
  show ((418, K0), I, _) = ((418, K0), I, _)
  congr 2
  funext a j
  show (if a = 0 ∧ j = 2 then some x else R0 t d rt a j) = R0 x d rt a j
  unfold R0
  by_cases c : a = 0 ∧ j = 2
  · rw [if_pos c, if_pos c]
  · rw [if_neg c, if_neg c, if_neg c]
theorem pR_d {x : Nat} : jm_pR 11 3 (mm t d rt I) 0 x = some (mm t x rt I) := by
  have h0 : (K0 0).1 = 11 ∧ 0 < 418 := by decide +kernel
  have h : (jK (mm t d rt I) 0).1 = 11 ∧ 0 < jN (mm t d rt I) := h0
  unfold jm_pR
  rw [if_pos h]
  congr 1
  show ((418, K0), I, _) = ((418, K0), I, _)
  congr 2
  funext a j
  show (if a = 0 ∧ j = 3 then some x else R0 t d rt a j) = R0 t x rt a j
  unfold R0
  by_cases c : a = 0 ∧ j = 3
  · rw [if_pos c, if_neg (by omega), if_pos c]
  · rw [if_neg c]
    by_cases c2 : a = 0 ∧ j = 2
    · rw [if_pos c2, if_pos c2]
    · rw [if_neg c2, if_neg c2, if_neg c, if_neg c]
def tpF (I : Nat → Nat → Int) (tl : Nat) : Nat → Nat := fun i => if i < tl then (jd_and (I 2 i) 255).toNat else 0
theorem P_read (hI : INV t d rt I) : ∃ t' d' rt', wm t' d' rt' (f_X11_read 0 (mm t d rt I)) (fun r J => wm t' d' rt' (f_X12_read 369 (mm t' d' rt' J)) (fun r' K => jd_wr r = jd_wr r' ∧ INV t' d' rt' K)) := by
  obtain ⟨lv, w, h, n, nh, hl, sd, ifs, xs, hR, ρ, u, H, hd, G, hC, hM⟩ := hI
  have hR' := hR
  obtain ⟨r0, r1, r2, r3, r4, r5, r6, r7, r8, r9⟩ := hR'
  obtain ⟨tl, p1, p2, p3, p4⟩ := r5
  have hd' : d = 3 ∨ d = 16 := by simpa using r0.1
  have ht' : t = 3 ∨ t = 16 := by simpa using r2.1
  have bB : ∀ i, i < tl → jd_and (I 2 i) 255 = (tpF I tl i : Int) := fun i hi => by
    have := and255 (p4 i hi).2.1 (p4 i hi).2.2
    unfold tpF
    rw [if_pos hi]; omega
  have hB : bOK (tpF I tl) tl := by
    refine ⟨p1, fun i hi => by unfold tpF; rw [if_neg (by omega)], fun i => ?_⟩
    unfold tpF
    by_cases c : i < tl
    · rw [if_pos c]
      have := and255 (p4 i c).2.1 (p4 i c).2.2
      omega
    · rw [if_neg c]; omega
  generalize tpF I tl = B at bB hB
  have P := w_parse (t := t) (d := d) (rt := d) (rt0 := rt) (I := I) hB ⟨p2, bB⟩ r0.1
  have sn := sn_tls (K := tK B tl) (V := tV B tl) 401 0 txI
  have mrd : ∀ (a b c : Nat) (X : Nat → Nat → Int), (∀ a, 369 ≤ a → X a = I a) → wm a b c (f_X12_read 369 (mm a b c X)) (fun r K => mrQ (1 - lv) tl (tps B tl) X (tlsR (tK B tl) (tV B tl) 401 0 txI) r K) := fun a b c X hX => by
    refine w_mread hB (by rw [hX 369 (by decide)]; exact p3) (fun i hi => ?_) (fun k hk => by rw [hX 376 (by decide)]; exact r8.1 k hk) (by rw [hX 369 (by decide)]; exact r3.1.1) r3.1.2.1 (fun j hj => ?_) (fun j hj => by rw [hX 401 (by decide)]; exact r9.1 j hj)
    · obtain ⟨q1, q2, q3⟩ := p4 i hi
      rw [hX 370 (by decide), ← q1]
      exact ⟨q2, q3, bB i hi⟩
    · rw [hX 400 (by decide), hM.1]; exact hM.2.1 j hj
  generalize tlsR (tK B tl) (tV B tl) 401 0 txI = R at P sn mrd
  obtain ⟨r, J, eP, fJ, pJ⟩ := wm_to P
  have c3 : ∀ (y : Option (Int × jMem)) (g : Int → jMem → Option (Int × jMem)), jcall 3 (mm t d rt I) 29 y g = jbd y g := fun _ _ => mm_call (by decide +kernel)
  have h1 := (FX (t := t) (d := d) (rt := rt) (I := I)).2.1
  have h3 := (FX (t := t) (d := d) (rt := rt) (I := I)).2.2.2.1
  have h0 := (FX (t := t) (d := d) (rt := d) (I := J)).1
  have ht : jm_pI 7 1 (mm t d d J) 1 0 = some (mm t d d (up J 1 1 0)) := by simp only [FTape]
  have g2 := (FX (t := t) (d := d) (rt := d) (I := up J 1 1 0)).2.2.1
  have g3 := (FX (t := t) (d := d) (rt := d) (I := up J 1 1 0)).2.2.2.1
  have hup : ∀ a, a ≠ 1 → up J 1 1 0 a = J a := fun a ha => up_ne ha
  have f1 : frm (fun a => a = 1 ∨ (29 ≤ a ∧ a ≤ 33) ∨ (d ≤ a ∧ a ≤ d + 11)) I (up J 1 1 0) := fun a ha => by rw [hup a (by omega), fJ a (by omega)]
  have big : ∀ a, 369 ≤ a → up J 1 1 0 a = I a := fun a ha => f1 a (by omega)
  have failing : jd_wr r ≠ 0 → (∀ r' K, mrQ (1 - lv) tl (tps B tl) (up J 1 1 0) R r' K → jd_wr r = jd_wr r' ∧ mff (1 - lv) (up J 1 1 0) K ∧ K 369 17 = J 29 8) → ∃ t' d' rt', wm t' d' rt' (f_X11_read 0 (mm t d rt I)) (fun r J => wm t' d' rt' (f_X12_read 369 (mm t' d' rt' J)) (fun r' K => jd_wr r = jd_wr r' ∧ INV t' d' rt' K)) := by
    intro hr hq
    refine ⟨t, d, d, ?_⟩
    have eq : f_X11_read 0 (mm t d rt I) = some (r, mm t d d (up J 1 1 0)) := by
      unfold f_X11_read
      rw [h1, Option.bind_some, h3, Option.bind_some, c3, eP, jbd_s, h0, Option.bind_some, ht, Option.bind_some, if_neg hr]
    rw [eq]
    refine wm_r (wm_w (mrd t d d _ big) (fun r' K hK => ?_))
    obtain ⟨q1, q2, q3⟩ := hq r' K hK
    exact ⟨q1, INV_rf hR hC hM f1 (up_s _ _ _ _) q2 (by rw [hup 29 (by decide)]; exact q3)⟩
  rcases pJ with ⟨c, q, eR, er, e8⟩ | ⟨t', w', h', se, HH, S, lw, wr, eR, pj⟩
  · have hc := sn.1 c q eR
    refine failing (by rw [er, wr_id (by omega) (by omega)]; omega) (fun r' K hK => ?_)
    rcases hK with ⟨c', q', eR', er', e17, hm⟩ | ⟨_, _, _, _, _, _, _, _, eR', _⟩
    · rw [eR] at eR'
      obtain ⟨rfl, rfl⟩ := efl_inj eR'
      exact ⟨by rw [er, er'], hm, e17.trans e8.symm⟩
    · rw [eR] at eR'
      exact (eok_fl eR'.symm).elim
  · have inj : ∀ {t'' w2 h2 se2 HH2 S2 lw2 wr2}, R = eok t'' (w2, h2, se2, HH2, S2, lw2, wr2) → w' = w2 ∧ h' = h2 ∧ se = se2 ∧ HH = HH2 ∧ S = S2 ∧ lw = lw2 ∧ wr = wr2 := by
      intro t'' w2 h2 se2 HH2 S2 lw2 wr2 e
      rw [eR] at e
      have e := (eok_inj e).2
      simp only [Prod.mk.injEq] at e
      exact e
    rcases pj with ⟨q, ew, er, e8⟩ | ⟨ew, hrg, ⟨hfit, er, e8⟩ | ⟨hfit, er, e8, x0, x1, x2, x3, x4, x5, x6, x7, ⟨U, hU, x8⟩, x9⟩⟩
    · refine failing (by rw [er]; decide +kernel) (fun r' K hK => ?_)
      rcases hK with ⟨c', q', eR', _⟩ | ⟨_, w2, h2, se2, HH2, S2, lw2, wr2, eR', hk⟩
      · rw [eR] at eR'; exact (eok_fl eR').elim
      · obtain ⟨rfl, rfl, rfl, rfl, rfl, rfl, rfl⟩ := inj eR'
        rcases hk with ⟨q', ew', er', e17, hm⟩ | ⟨ew', _⟩
        · rw [ew] at ew'
          injection ew' with ew'
          subst ew'
          exact ⟨by rw [er, er'], hm, e17.trans e8.symm⟩
        · rw [ew] at ew'; cases ew'
    · refine failing (by rw [er]; decide +kernel) (fun r' K hK => ?_)
      rcases hK with ⟨c', q', eR', _⟩ | ⟨_, w2, h2, se2, HH2, S2, lw2, wr2, eR', hk⟩
      · rw [eR] at eR'; exact (eok_fl eR').elim
      · obtain ⟨rfl, rfl, rfl, rfl, rfl, rfl, rfl⟩ := inj eR'
        rcases hk with ⟨q', ew', _⟩ | ⟨_, _, ⟨_, er', e17, hm⟩ | ⟨hfit', _⟩⟩
        · rw [ew] at ew'; cases ew'
        · exact ⟨by rw [er, er'], hm, e17.trans e8.symm⟩
        · rw [hfit] at hfit'; cases hfit'
    · refine ⟨d, t, d, ?_⟩
      have hr : jd_wr r = 0 := by rw [er]; exact wr_0
      have eq : f_X11_read 0 (mm t d rt I) = jbd (f_X11_startOver 0 (mm d t d (up J 1 1 0))) fun _ M12 => some (r, M12) := by
        unfold f_X11_read
        rw [h1, Option.bind_some, h3, Option.bind_some, c3, eP, jbd_s, h0, Option.bind_some, ht, Option.bind_some, if_pos hr, g2, Option.bind_some, g3, Option.bind_some, pR_t, Option.bind_some, pR_d, Option.bind_some]
        exact mm_call (by decide +kernel)
      rw [eq]
      obtain ⟨ww, eww⟩ : ∃ ww : Nat, w' = (ww : Int) := ⟨w'.toNat, by have := hrg.1; omega⟩
      obtain ⟨hh, ehh⟩ : ∃ hh : Nat, h' = (hh : Int) := ⟨h'.toNat, by have := hrg.2.2.1; omega⟩
      subst eww ehh
      rw [Int.toNat_natCast, Int.toNat_natCast] at hfit hU
      have hrg' := hrg
      obtain ⟨g1, g2, g3, g4, g5, g6, g7, g8⟩ := hrg'
      have hw2 : 2 ≤ ww ∧ ww ≤ 6 := by omega
      have hh2 : 2 ≤ hh ∧ hh ≤ 6 := by omega
      have hn2 : 4 ≤ ww * hh ∧ ww * hh ≤ 36 := by
        have a := Nat.mul_le_mul hw2.1 hh2.1
        have b := Nat.mul_le_mul hw2.2 hh2.2
        omega
      have hW : ∃ W, mkS ww hh S.2.1 S.2.2.1 S.2.2.2 U S.1 = some W := by
        unfold fitB at hfit
        rw [hU] at hfit
        have hfit : (mkS ww hh S.2.1 S.2.2.1 S.2.2.2 U S.1).isSome = true := hfit
        cases e2 : mkS ww hh S.2.1 S.2.2.1 S.2.2.2 U S.1 with
        | none => rw [e2] at hfit; cases hfit
        | some W => exact ⟨W, rfl⟩
      obtain ⟨W, hW⟩ := hW
      have hko := mkH_ok hw2.2 hh2.2 _ _ hU
      have sq : sqOK ww hh (ww * hh) HH.1 U := ⟨hw2.1, hw2.2, hh2.1, hh2.2, rfl, hn2.1, hn2.2, hko.2.symm, hko.1⟩
      have cJ : cfC (up J 1 1 0) d ww hh (ww * hh) HH.1 U se (fun q => (lw q).1) (fun q => (lw q).2) := by
        refine cfC_frm (S := fun a => a = 1) (I := J) (fun a ha => hup a ha) (fun a a1 a2 => by omega) ⟨r0.1, x0, x1, x2, x3, x8, x9⟩
      have e34 : ∀ a, 34 ≤ a → up J 1 1 0 a = I a := fun a ha => f1 a (by omega)
      refine wm_b (w_startOver sq cJ (m := S.1) (sx := S.2.1) (sy := S.2.2.1) (sw := S.2.2.2) (W := W) (by rw [hup d (by omega)]; exact x4) (fun i hi => ?_) (fun i hi => ?_) hW x6 (fun k hk => ?_) (fun x hx => ?_)) (fun r2 J2 hJ2 => ?_)
      · rw [hup _ (by omega), hup _ (by omega), hup _ (by omega)]; exact x7 i hi
      · obtain ⟨q1, q2, q3, q4, q5, q6⟩ := g8 i hi; exact ⟨q1, q3, q5, q6⟩
      · rw [e34 36 (by decide)]; exact hC.2.1.2.2.1 k hk
      · rw [e34 323 (by decide)]; exact r7.1.2.2.2.2.2.2.2.2.2.2 x hx
      obtain ⟨k1, k2, k3, k4, k5, k6, k7, k8⟩ := hJ2
      have so : ∀ a, a < 34 ∨ 369 ≤ a ∨ a = 336 → J2 a = up J 1 1 0 a := fun a ha => k1 a (by unfold soS; omega)
      refine wm_r (wm_w (mrd d t d J2 (fun a ha => (so a (by omega)).trans (big a ha))) (fun r' K hK => ?_))
      rcases hK with ⟨c', q', eR', _⟩ | ⟨_, w2, h2, se2, HH2, S2, lw2, wr2, eR', hk⟩
      · rw [eR] at eR'; exact (eok_fl eR').elim
      · obtain ⟨rfl, rfl, rfl, rfl, rfl, rfl, rfl⟩ := inj eR'
        rcases hk with ⟨q', ew', _⟩ | ⟨_, _, ⟨hfit', _⟩ | ⟨_, er', e17, hm⟩⟩
        · rw [ew] at ew'; cases ew'
        · rw [Int.toNat_natCast, Int.toNat_natCast, hfit] at hfit'; cases hfit'
        · rw [Int.toNat_natCast, Int.toNat_natCast] at hm
          refine ⟨by rw [er, er'], INV_rs (d := t) (t := d) hR hC hrg x6 hU hW ?_ (fun a ha => (so a (by omega)).trans (big a ha)) ?_ k2 k3 ?_ k5 k6 k7 k8 ?_ ?_ hm⟩
          · exact cfC_frm (S := soS) k1 (fun a a1 a2 => by unfold soS; omega) cJ
          · rw [so 1 (by omega), up_s]
          · rw [k4, e34 46 (by decide)]
          · rw [so 336 (by omega), e34 336 (by decide)]
          · rw [e17, so 29 (by omega), hup 29 (by decide), e8]
end PR
