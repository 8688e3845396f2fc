/-! ===== a text that is refused leaves all as it was ===== -/
theorem lwM_out {I J : Nat → Nat → Int} {c0 hi b0 bh : Nat} (hk : kpL c0 hi b0 bh I J) {x : List CI} {e : Nat} : ∀ {ifs : List LwI} {b : Nat}, (∀ y, b ≤ y → y < e → (y < b0 ∨ bh ≤ y) ∧ (I 393 y ≤ (c0 : Int) ∨ ((hi : Int) ≤ I 392 y ∧ (I 389 y = 1 → (hi : Int) ≤ I 390 y)))) → lwM I b ifs x e → lwM J b ifs x e
  | [], b, h, hl => by
    obtain ⟨h1, ⟨p, p1, p2, p3, p4⟩, h2⟩ := hl
    obtain ⟨ho, hc⟩ := h b (Nat.le_refl _) (by omega)
    obtain ⟨e1, e2, e3, e4, e5⟩ := hk.2 b ho
    rw [p1, p2] at hc
    refine ⟨e1.trans h1, ⟨p, e4.trans p1, e5.trans p2, cdAt_congr (fun q q1 q2 => hk.1 q ?_) p3, p4⟩, h2⟩
    rw [List.length_map] at q2; omega
  | i :: r, b, h, hl => by
    obtain ⟨h1, ⟨p, p1, p2, p3, p4, p5, p6, p7, p8⟩, h2⟩ := hl
    have le := lwM_le h2
    obtain ⟨ho, hc⟩ := h b (Nat.le_refl _) (by omega)
    obtain ⟨e1, e2, e3, e4, e5⟩ := hk.2 b ho
    rw [p1, p3, p4] at hc
    have hc' : p + i.1.length + i.2.1.length + i.2.2.length ≤ c0 ∨ hi ≤ p := by
      rcases hc with hc | ⟨_, hc⟩
      · exact Or.inl (by omega)
      · have := hc h1; exact Or.inr (by omega)
    refine ⟨e1.trans h1, ⟨p, e2.trans p1, e3.trans p2, e4.trans p3, e5.trans p4, cdAt_congr (fun q q1 q2 => hk.1 q ?_) p5, cdAt_congr (fun q q1 q2 => hk.1 q ?_) p6, cdAt_congr (fun q q1 q2 => hk.1 q ?_) p7, p8⟩, lwM_out hk (fun y y1 y2 => h y (by omega) y2) h2⟩
    · rw [List.length_map] at q2; omega
    · rw [List.length_map] at q2; omega
    · rw [List.length_map] at q2; omega
section KP
variable {t d rt : Nat} {I J K : Nat → Nat → Int} {lv w h n nh : Nat} {hl : Nat → Bool} {sd : Int} {ifs : Nat → List LwI} {xs : Nat → List CI} {ρ : Nat → Int} {u : Nat} {H : Nat → Nat → Int} {hd : Nat → Bool} {G : Nat → Nat → Int}
theorem cfM_out (hc : cfM I lv w h n nh hl sd ifs xs) (hg : rgI I) (hf : mff (1 - lv) I K) : cfM K lv w h n nh hl sd ifs xs ∧ rgI K := by
  obtain ⟨⟨c1, c2, c3⟩, c4, c5, c6, c7⟩ := hc
  obtain ⟨lv', g1, g2⟩ := hg
  obtain rfl : lv' = lv := by omega
  obtain ⟨f1, f2, f3, f4, f5, f6, f7⟩ := hf
  have e18 : K 369 18 = I 369 18 := f1.2 18 (by unfold mfT; omega)
  have e4 := f4 lv' (by omega)
  have e7 : ∀ q, q < 3 → K 387 (3 * lv' + q) = I 387 (3 * lv' + q) ∧ K 388 (3 * lv' + q) = I 388 (3 * lv' + q) := fun q hq => f7 _ (by omega)
  have out : ∀ q, q < 3 → ∀ b e : Nat, I 387 (3 * lv' + q) = (b : Int) → I 388 (3 * lv' + q) = (e : Int) → b < e → ∀ y, b ≤ y → y < e → (y < 130 * (1 - lv') ∨ 130 * (1 - lv') + 130 ≤ y) ∧ (I 393 y ≤ ((420 * (1 - lv') : Nat) : Int) ∨ (((420 * (1 - lv') + 420 : Nat) : Int) ≤ I 392 y ∧ (I 389 y = 1 → ((420 * (1 - lv') + 420 : Nat) : Int) ≤ I 390 y))) := by
    intro q hq b e h1 h2 hlt y y1 y2
    rcases g2 q hq b e h1 h2 with z | ⟨z1, z2, z3⟩
    · omega
    · obtain ⟨z4, z5, z6⟩ := z3 y y1 y2
      by_cases c : lv' = 0
      · subst c
        exact ⟨Or.inl (by omega), Or.inl (by omega)⟩
      · obtain rfl : lv' = 1 := by omega
        exact ⟨Or.inr (by omega), Or.inr ⟨by omega, fun q => by have := z6 q; omega⟩⟩
  refine ⟨⟨⟨e18.trans c1, c2, ?_⟩, ?_, ?_, ?_, fun q hq => ?_⟩, ?_⟩
  · rw [e4.1, e4.2.1]; exact c3
  · rw [e4.2.2.1]; exact c4
  · rw [e4.2.2.2.2]; exact c5
  · rw [f1.1 402 (by decide) (by unfold mfS; omega)]; exact c6
  · obtain ⟨o1, o2⟩ := c7 q hq
    refine ⟨o1, ?_⟩
    rw [(e7 q hq).1, (e7 q hq).2]
    rcases o2 with o2 | ⟨b, e, o3, o4, o5, o6⟩
    · exact Or.inl o2
    · exact Or.inr ⟨b, e, o3, o4, o5, lwM_out f3 (fun y y1 y2 => out q hq b e o3 o4 (lwM_le o6) y y1 y2) o6⟩
  · refine ⟨lv', e18.trans g1, fun q hq b e h1 h2 => ?_⟩
    rw [(e7 q hq).1] at h1
    rw [(e7 q hq).2] at h2
    rcases g2 q hq b e h1 h2 with z | ⟨z1, z2, z3⟩
    · exact Or.inl z
    · refine Or.inr ⟨z1, z2, fun y y1 y2 => ?_⟩
      have o := (out q hq b e h1 h2 (by omega) y y1 y2).1
      obtain ⟨k1, k2, k3, k4, k5⟩ := f3.2 y o
      rw [k1, k2, k4, k5]
      exact z3 y y1 y2
theorem INV_rf (hR : REST t d rt lv w h n nh hl sd ifs xs I) (hC : stC I w n hl ρ u H hd G) (hM : stM I ρ u H hd G) (hf : frm (fun a => a = 1 ∨ (29 ≤ a ∧ a ≤ 33) ∨ (d ≤ a ∧ a ≤ d + 11)) I J) (h1 : J 1 1 = 0) (hm : mff (1 - lv) J K) (h17 : K 369 17 = J 29 8) : INV t d d K := by
  obtain ⟨r0, r1, r2, r3, r4, r5, r6, r7, r8, r9⟩ := hR
  have ht : t = 3 ∨ t = 16 := by simpa using r2.1
  have hd' : d = 3 ∨ d = 16 := by simpa using r0.1
  have htd := r0.2.1
  have m : ∀ a, 34 ≤ a → J a = I a := fun a ha => hf a (by omega)
  have kl : ∀ a, a < 369 → K a = J a := fun a ha => hm.1.1 a (by omega) (by unfold mfS; omega)
  have km : ∀ a, a ≠ 369 → ¬ mfS a → 34 ≤ a → K a = I a := fun a n1 n2 n3 => (hm.1.1 a n1 n2).trans (m a n3)
  have kf : ∀ j, ¬ mfT j → K 369 j = I 369 j := fun j nj => by rw [hm.1.2 j nj, m 369 (by decide)]
  have mf : frM (fun a => a < 369) (fun _ => False) I J := ⟨fun a ha hS => m a (by omega), fun j _ => by rw [m 369 (by omega)]⟩
  have gJ : rgI J := by
    have := r8.2.2
    unfold rgI at this ⊢
    rw [m 369 (by decide), m 387 (by decide), m 388 (by decide), m 389 (by decide), m 390 (by decide), m 392 (by decide), m 393 (by decide)]
    exact this
  have cM := cfM_out (cfM_frm mf (fun a a1 a2 _ _ _ _ _ _ => by omega) (fun q => q) r3) gJ hm
  refine ⟨lv, w, h, n, nh, hl, sd, ifs, xs, ⟨⟨r0.1, r0.2.1, r0.1⟩, r1, ?_, cM.1, ?_, ⟨0, by decide, ?_, ?_, fun i hi => absurd hi (Nat.not_lt_zero _)⟩, ?_, ?_, ⟨?_, ?_, cM.2⟩, ?_⟩, ρ, u, H, hd, G, ?_, ?_⟩
  · refine cfC_frm (S := fun a => a = 1 ∨ (29 ≤ a ∧ a ≤ 33) ∨ (d ≤ a ∧ a ≤ d + 11) ∨ 369 ≤ a) (fun a ha => ?_) (fun a a1 a2 => by omega) r2
    rw [kl a (by omega), hf a (by omega)]
  · unfold tdI at r4 ⊢
    rw [kl 308 (by decide), kl 309 (by decide), kl 310 (by decide), m 308 (by decide), m 309 (by decide), m 310 (by decide), kf 63 (by unfold mfT; omega), km 414 (by decide) (by unfold mfS; omega) (by decide), km 415 (by decide) (by unfold mfS; omega) (by decide)]
    exact r4
  · rw [kl 1 (by decide)]; exact h1
  · exact hm.2.1
  · unfold plI
    rw [kl 29 (by decide)]; exact h17.symm
  · obtain ⟨q1, q2, q3⟩ := r7
    have hh : h ≤ 6 := r1.2.2.2.1
    have kk : ∀ a, 34 ≤ a → a < 369 → K a = I a := fun a n1 n2 => (kl a n2).trans (m a n1)
    refine ⟨rCfg_frm (kk _ (by omega) (by omega)) (kk _ (by omega) (by omega)) (kk _ (by omega) (by omega)) (kk _ (by omega) (by omega)) (kk _ (by omega) (by omega)) q1, fun y hy mm' hm' => ?_, ?_⟩
    · rw [kk _ (by omega) (by omega)]; exact q2 y hy mm' hm'
    · rw [kk 336 (by omega) (by omega)]; exact q3
  · rw [km 376 (by decide) (by unfold mfS; omega) (by decide)]; exact r8.1
  · rw [km 412 (by decide) (by unfold mfS; omega) (by decide)]; exact r8.2.1
  · unfold zM b01 at r9 ⊢
    rw [km 401 (by decide) (by unfold mfS; omega) (by decide), km 409 (by decide) (by unfold mfS; omega) (by decide), km 410 (by decide) (by unfold mfS; omega) (by decide)]
    exact r9
  · refine stC_frm (S := fun a => a < 34 ∨ 369 ≤ a) (fun a ha => ?_) (fun a ha => by unfold stS at ha; omega) hC
    rw [kl a (by omega), m a (by omega)]
  · exact stM_frm (km 400 (by decide) (by unfold mfS; omega) (by decide)) (km 405 (by decide) (by unfold mfS; omega) (by decide)) (km 416 (by decide) (by unfold mfS; omega) (by decide)) (km 417 (by decide) (by unfold mfS; omega) (by decide)) (kf 53 (by unfold mfT; omega)) hM
/-- a text that is read: all of it comes to be, on both sides -/
theorem INV_rs {S : TS} {HH : TH} {lw : Nat → LW} {se : Int} {U : Nat → Bool} {W : Nat → Bool} (hR : REST d t rt lv w h n nh hl sd ifs xs I) (hC : stC I w n hl ρ u H hd G) {ww hh : Nat} (hrg : rgX (ww : Int) (hh : Int) se HH S) (hS18 : S.1 ≤ 18) (hU : mkH ww hh HH.2.1 HH.2.2 HH.1 = some U) (hW : mkS ww hh S.2.1 S.2.2.1 S.2.2.2 U S.1 = some W)
    (hc : cfC J t ww hh (ww * hh) HH.1 U se (fun q => (lw q).1) (fun q => (lw q).2)) (hm : ∀ a, 369 ≤ a → J a = I a) (h1 : J 1 1 = 0) (hst : stR J 34 ww (rwS ww S.2.1 S.2.2.1 S.2.2.2 S.1)) (h46 : J 46 4 = 0) (h463 : J 46 3 = I 46 3) (h307 : ∀ i, i < 3 → J 307 i = 0) (h308 : J 308 2 = 0) (hrc : rCfg J 311 ww hh U noB noB) (hwy : wyR J 311 ww hh U noB noB) (h336 : J 336 = I 336) (h17 : K 369 17 = J 29 8)
    (hk : mok (1 - lv) J ww hh se HH S lw K) : INV t d t K := by
  obtain ⟨r0, r1, r2, r3, r4, r5, r6, r7, r8, r9⟩ := hR
  obtain ⟨k1, k2, k3, k4, k5, k6, k7, ⟨b, c, kb, kc, k8⟩, ⟨U2, k9, k10⟩, k11, k12, k13, k14, k15⟩ := hk
  obtain ⟨g1, g2, g3, g4, g5, g6, g7, g8⟩ := hrg
  have hsd : 1 - lv < 2 := by omega
  have hw : 2 ≤ ww ∧ ww ≤ 6 := by omega
  have hh' : 2 ≤ hh ∧ hh ≤ 6 := by omega
  have hn : 4 ≤ ww * hh ∧ ww * hh ≤ 36 := by
    have a := Nat.mul_le_mul hw.1 hh'.1
    have b := Nat.mul_le_mul hw.2 hh'.2
    omega
  rw [hU] at k9
  injection k9 with k9
  rw [← k9] at k10
  have hko := mkH_ok hw.2 hh'.2 _ _ hU
  have hso := mkS_ok (n := ww * hh) hw hh'.2 rfl S.1 W hS18 (fun i hi => by obtain ⟨q1, q2, q3, q4, q5, q6⟩ := g8 i hi; exact ⟨q1, q3, q5, q6⟩) hW
  have kl : ∀ a, a < 369 → K a = J a := fun a ha => k1.1 a (by omega) (by unfold mfS; omega)
  have km : ∀ a, a ≠ 369 → 369 ≤ a → ¬ mfS a → a ≠ 400 → a ≠ 401 → a ≠ 402 → a ≠ 416 → K a = I a := fun a n1 n0 n2 n3 n4 n5 n6 => (k1.1 a n1 (fun q => q.elim n2 (fun q => by omega))).trans (hm a n0)
  have hkl : ∀ q, q < 3 → ∀ b' e : Nat, K 387 (3 * (1 - lv) + q) = (b' : Int) → K 388 (3 * (1 - lv) + q) = (e : Int) → b' = e ∨ (130 * (1 - lv) ≤ b' ∧ e ≤ 130 * (1 - lv) + 130 ∧ ∀ y, b' ≤ y → y < e → ((420 * (1 - lv) : Nat) : Int) ≤ K 392 y ∧ K 393 y ≤ ((420 * (1 - lv) + 420 : Nat) : Int) ∧ (K 389 y = 1 → ((420 * (1 - lv) : Nat) : Int) ≤ K 390 y)) := by
    intro q hq b' e e1 e2
    rcases (k8 q hq).2 with ⟨z1, _⟩ | ⟨bb, ee, z1, z2, z3, z4, z5, z6⟩
    · rw [e1, e2] at z1
      exact Or.inl (by omega)
    · rw [e1] at z1
      rw [e2] at z2
      obtain rfl : b' = bb := by omega
      obtain rfl : e = ee := by omega
      refine Or.inr ⟨z3, by omega, fun y y1 y2 => ?_⟩
      obtain ⟨u1, u2, u3⟩ := z6 y y1 y2
      exact ⟨u1, by omega, u3⟩
  refine ⟨1 - lv, ww, hh, ww * hh, HH.1, U, se, fun q => (lw q).1, fun q => (lw q).2, ⟨⟨r2.1, fun q => r0.2.1 q.symm, hc.1⟩, ⟨hw.1, hw.2, hh'.1, hh'.2, rfl, hn.1, hn.2, hko.2.symm, hko.1⟩, ?_, ⟨⟨k3, hsd, k4, k5, hw.1, hw.2, hh'.1, hh'.2, rfl, hn.1, hn.2⟩, k7, k6, k10, fun q hq => ?_⟩, ⟨0, by decide, ?_, k14, fun i hi => absurd hi (Nat.not_lt_zero _)⟩, ⟨0, by decide, ?_, k2, fun i hi => absurd hi (Nat.not_lt_zero _)⟩, ?_, ⟨?_, ?_, ?_⟩, ⟨?_, ?_, ⟨1 - lv, k3, hkl⟩⟩, k12, ?_, ?_⟩, rwS ww S.2.1 S.2.2.1 S.2.2.2 S.1, 0, fun _ => rNil, fun _ => false, fun _ => rNil, ⟨hso.1, ?_, ?_, fun i hi => absurd hi (Nat.not_lt_zero _), fun i hi => ⟨Or.inl ?_, fun z => ?_⟩, fun i hi => ⟨?_, fun z => by cases z⟩⟩, ⟨k11, rwS_out, ⟨k13, by decide, fun i hi => absurd hi (Nat.not_lt_zero _)⟩, fun i hi => ⟨k15 i hi, fun z => by cases z⟩⟩⟩
  · refine cfC_frm (S := fun a => 369 ≤ a) (fun a ha => kl a (by omega)) (fun a a1 a2 => ?_) hc
    have := (tx_k hc.1).2.2.2.2
    omega
  · obtain ⟨o1, o2⟩ := k8 q hq
    refine ⟨o1, ?_⟩
    rcases o2 with ⟨z1, z2⟩ | ⟨bb, ee, z1, z2, z3, z4, z5, z6⟩
    · refine Or.inl ⟨z1, ?_, ?_⟩
      · show (lw q).1 = []
        rw [z2]; rfl
      · show (lw q).2 = [cNum (plV q)]
        rw [z2]; rfl
    · exact Or.inr ⟨bb, ee, z1, z2, by omega, z5⟩
  · rw [kl 308 (by decide)]; exact h308
  · rw [kl 1 (by decide)]; exact h1
  · unfold plI
    rw [kl 29 (by decide)]; exact h17.symm
  · exact rCfg_frm (kl _ (by decide)) (kl _ (by decide)) (kl _ (by decide)) (kl _ (by decide)) (kl _ (by decide)) hrc
  · intro y hy m' hm'
    rw [kl _ (by omega)]; exact hwy y hy m' hm'
  · rw [kl 336 (by decide), h336]; exact r7.2.2
  · rw [km 376 (by decide) (by decide) (by unfold mfS; omega) (by decide) (by decide) (by decide) (by decide)]; exact r8.1
  · rw [km 412 (by decide) (by decide) (by unfold mfS; omega) (by decide) (by decide) (by decide) (by decide)]; exact r8.2.1
  · unfold b01
    rw [km 409 (by decide) (by decide) (by unfold mfS; omega) (by decide) (by decide) (by decide) (by decide)]; exact r9.2.1
  · unfold b01
    rw [km 410 (by decide) (by decide) (by unfold mfS; omega) (by decide) (by decide) (by decide) (by decide)]; exact r9.2.2
  · exact stR_frm (S := fun a => 369 ≤ a) (fun a ha => kl a (by omega)) (fun a a1 a2 => by omega) hst
  · obtain ⟨_, _, ⟨nw, n1, n2, n3, n4, n5⟩, _⟩ := hC
    exact ⟨nw, by rw [kl 46 (by decide), h463]; exact n1, n2, by rw [kl 46 (by decide)]; exact h46, by decide, fun i hi => absurd hi (Nat.not_lt_zero _)⟩
  · rw [kl 307 (by decide)]; exact h307 i hi
  · rw [kl 307 (by decide), h307 i hi] at z; omega
  · rw [kl 307 (by decide), h307 i hi]; rfl
end KP
