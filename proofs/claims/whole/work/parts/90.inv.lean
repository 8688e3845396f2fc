/-! ===== what holds between two calls ===== -/
/-- the class's state: the row, what can be undone, what is held -/
def stC (I : Nat → Nat → Int) (w n : Nat) (hl : Nat → Bool) (ρ : Nat → Int) (u : Nat) (H : Nat → Nat → Int) (hd : Nat → Bool) (G : Nat → Nat → Int) : Prop := rOK w n hl ρ ∧ stR I 34 w ρ ∧ (∃ nw, kpR I w u nw H) ∧ (∀ i, i < u → rOK w n hl (H i)) ∧ slR I w G ∧ ∀ i, i < 3 → I 307 i = (if hd i then 1 else 0) ∧ (hd i = true → rOK w n hl (G i))
/-- the model's -/
def stM (I : Nat → Nat → Int) (ρ : Nat → Int) (u : Nat) (H : Nat → Nat → Int) (hd : Nat → Bool) (G : Nat → Nat → Int) : Prop := I 400 = ρ ∧ (∀ j, 75 ≤ j → ρ j = 0) ∧ mH I u H ∧ ∀ i, i < 3 → I 416 i = (if hd i then 1 else 0) ∧ (hd i = true → (∀ k, k < 75 → I 417 (75 * i + k) = G i k) ∧ ∀ k, 75 ≤ k → G i k = 0)
def zM (I : Nat → Nat → Int) : Prop := (∀ j, 75 ≤ j → I 401 j = 0) ∧ b01 I 409 36 ∧ b01 I 410 36
def tdI (I : Nat → Nat → Int) (n : Nat) (hl : Nat → Bool) : Prop := ∃ td : Nat, td ≤ 20 ∧ I 308 2 = (td : Int) ∧ I 369 63 = (td : Int) ∧ ∀ i, i < td → I 309 i = I 414 i ∧ I 310 i = I 415 i ∧ (I 310 i = 0 ∨ I 310 i = 1) ∧ opB n hl (I 309 i) = true
def tpI (I : Nat → Nat → Int) : Prop := ∃ tl : Nat, tl ≤ 2000 ∧ I 1 1 = (tl : Int) ∧ I 369 2 = (tl : Int) ∧ ∀ i, i < tl → I 2 i = I 370 i ∧ -128 ≤ I 2 i ∧ I 2 i < 128
def plI (I : Nat → Nat → Int) : Prop := I 29 8 = I 369 17
def wyR (I : Nat → Nat → Int) (r w h : Nat) (cl na nd : Nat → Bool) : Prop := ∀ y, y ≤ h → ∀ m, m < 2 ^ w → I (r + 5 + y) m = (Wr w h cl na nd (h - y) y m : Int)
def evI (I : Nat → Nat → Int) (w h : Nat) (hl : Nat → Bool) : Prop := rCfg I 311 w h hl noB noB ∧ wyR I 311 w h hl noB noB ∧ ∀ m, m < 64 → I 336 m = (oddR m : Int)
/-- the model's words: letters as digits of 27 -/
def wdV (s : List Nat) : Int := s.foldl (fun (a : Int) (c : Nat) => 27 * a + ((c : Int) - 97 + 1)) 0
def keyL : List (List Nat) := [[115, 113, 117, 97, 114, 101], [104, 111, 108, 101], [115, 116, 111, 110, 101], [97, 115, 107, 115], [108, 111, 111, 115, 101, 110, 115], [108, 97, 121, 115], [115, 101, 101, 100], [105, 102], [116, 104, 101, 110], [101, 108, 115, 101], [97, 99, 114, 111, 115, 115], [108, 101, 102, 116], [116, 111, 112], [116, 117, 114, 110, 101, 100], [97, 103, 101], [115, 101, 97, 115, 111, 110], [119, 104, 105, 99, 104], [115, 116, 111, 110, 101, 115], [104, 111, 108, 101, 115]]
/-- where the live laws of the model lie -/
def rgI (I : Nat → Nat → Int) : Prop := ∃ lv : Nat, I 369 18 = (lv : Int) ∧ ∀ q, q < 3 → ∀ b e : Nat, I 387 (3 * lv + q) = (b : Int) → I 388 (3 * lv + q) = (e : Int) → b = e ∨ (130 * lv ≤ b ∧ e ≤ 130 * lv + 130 ∧ ∀ b', b ≤ b' → b' < e → ((420 * lv : Nat) : Int) ≤ I 392 b' ∧ I 393 b' ≤ ((420 * lv + 420 : Nat) : Int) ∧ (I 389 b' = 1 → ((420 * lv : Nat) : Int) ≤ I 390 b'))
def kyI (I : Nat → Nat → Int) : Prop := (∀ k, k < 19 → I 376 k = wdV (keyL.getD k [])) ∧ I 412 0 = 0 ∧ rgI I
/-- the class's places that nobody asks again, and those of its state -/
def scrC : Nat → Prop := fun a => a = 15 ∨ a = 28 ∨ (40 ≤ a ∧ a ≤ 45) ∨ (324 ≤ a ∧ a ≤ 335) ∨ (337 ≤ a ∧ a ≤ 368)
def stS : Nat → Prop := fun a => (34 ≤ a ∧ a ≤ 39) ∨ (46 ≤ a ∧ a ≤ 307)
def scrM : Nat → Prop := fun a => a = 398 ∨ a = 399 ∨ a = 401 ∨ a = 403 ∨ a = 404 ∨ (406 ≤ a ∧ a ≤ 411) ∨ a = 413
def scrF : Nat → Prop := fun j => j = 46 ∨ j = 49
def stMS : Nat → Prop := fun a => a = 400 ∨ a = 405 ∨ a = 416 ∨ a = 417
/-- all but the state: the square, the told, the tape -/
def REST (t d rt lv w h n nh : Nat) (hl : Nat → Bool) (sd : Int) (ifs : Nat → List LwI) (xs : Nat → List CI) (I : Nat → Nat → Int) : Prop := (d ∈ [3, 16] ∧ d ≠ t ∧ rt ∈ [3, 16]) ∧ sqOK w h n nh hl ∧ cfC I t w h n nh hl sd ifs xs ∧ cfM I lv w h n nh hl sd ifs xs ∧ tdI I n hl ∧ tpI I ∧ plI I ∧ evI I w h hl ∧ kyI I ∧ zM I
def INV (t d rt : Nat) (I : Nat → Nat → Int) : Prop := ∃ (lv w h n nh : Nat) (hl : Nat → Bool) (sd : Int) (ifs : Nat → List LwI) (xs : Nat → List CI), REST t d rt lv w h n nh hl sd ifs xs I ∧ ∃ (ρ : Nat → Int) (u : Nat) (H : Nat → Nat → Int) (hd : Nat → Bool) (G : Nat → Nat → Int), stC I w n hl ρ u H hd G ∧ stM I ρ u H hd G
section IV
variable {t d rt : Nat} {I J K : Nat → Nat → Int} {lv w h n nh : Nat} {hl : Nat → Bool} {sd : Int} {ifs : Nat → List LwI} {xs : Nat → List CI} {ρ : Nat → Int} {u : Nat} {H : Nat → Nat → Int} {hd : Nat → Bool} {G : Nat → Nat → Int}
theorem rCfg_frm {r : Nat} {cl na nd : Nat → Bool} (e0 : J r = I r) (e1 : J (r + 1) = I (r + 1)) (e2 : J (r + 2) = I (r + 2)) (e3 : J (r + 3) = I (r + 3)) (e12 : J (r + 12) = I (r + 12)) (h' : rCfg I r w h cl na nd) : rCfg J r w h cl na nd := by
  unfold rCfg at h' ⊢
  rw [e0, e1, e2, e3, e12]
  exact h'
theorem REST_c (hf : frm (fun a => scrC a ∨ stS a) I J) (hR : REST t d rt lv w h n nh hl sd ifs xs I) : REST t d rt lv w h n nh hl sd ifs xs J := by
  obtain ⟨r0, r1, r2, r3, r4, r5, r6, r7, r8, r9⟩ := hR
  have kt := tx_k r2.1
  have m : ∀ a, 369 ≤ a → J a = I a := fun a ha => hf a (by unfold scrC stS; omega)
  have l : ∀ a, (a < 3 ∨ (29 ≤ a ∧ a ≤ 33) ∨ (308 ≤ a ∧ a ≤ 323) ∨ a = 336) → J a = I a := fun a ha => hf a (by unfold scrC stS; omega)
  have mf : frM (fun a => a < 369) (fun _ => False) I J := ⟨fun a ha hS => m a (by omega), fun j _ => by rw [m 369 (by omega)]⟩
  have ht : t = 3 ∨ t = 16 := by simpa using r2.1
  refine ⟨r0, r1, cfC_frm hf (fun a a1 a2 => by unfold scrC stS; omega) r2, cfM_frm mf (fun a a1 a2 _ _ _ _ _ _ => by omega) (fun q => q) r3, ?_, ?_, ?_, ?_, ?_, ?_⟩
  · unfold tdI at r4 ⊢
    rw [l 308 (by omega), l 309 (by omega), l 310 (by omega), m 369 (by omega), m 414 (by omega), m 415 (by omega)]
    exact r4
  · unfold tpI at r5 ⊢
    rw [l 1 (by omega), l 2 (by omega), m 369 (by omega), m 370 (by omega)]
    exact r5
  · unfold plI at r6 ⊢
    rw [l 29 (by omega), m 369 (by omega)]
    exact r6
  · obtain ⟨q1, q2, q3⟩ := r7
    have hh : h ≤ 6 := r1.2.2.2.1
    refine ⟨rCfg_frm (l _ (by omega)) (l _ (by omega)) (l _ (by omega)) (l _ (by omega)) (l _ (by omega)) q1, fun y hy mm' hm => ?_, ?_⟩
    · rw [l _ (by omega)]; exact q2 y hy mm' hm
    · rw [l 336 (by omega)]; exact q3
  · unfold kyI rgI at r8 ⊢
    rw [m 376 (by omega), m 412 (by omega), m 369 (by omega), m 387 (by omega), m 388 (by omega), m 389 (by omega), m 390 (by omega), m 392 (by omega), m 393 (by omega)]
    exact r8
  · unfold zM b01 at r9 ⊢
    rw [m 401 (by omega), m 409 (by omega), m 410 (by omega)]
    exact r9
theorem REST_m (hf : frM (fun a => scrM a ∨ stMS a) (fun j => scrF j ∨ j = 53) I J) (hz : zM J) (hR : REST t d rt lv w h n nh hl sd ifs xs I) : REST t d rt lv w h n nh hl sd ifs xs J := by
  obtain ⟨r0, r1, r2, r3, r4, r5, r6, r7, r8, r9⟩ := hR
  have kt := tx_k r2.1
  have c : ∀ a, a < 369 → J a = I a := fun a ha => hf.1 a (by omega) (by unfold scrM stMS; omega)
  have m : ∀ a, (370 ≤ a ∧ a ≤ 376) ∨ (387 ≤ a ∧ a ≤ 395) ∨ a = 412 ∨ a = 414 ∨ a = 415 → J a = I a := fun a ha => hf.1 a (by omega) (by unfold scrM stMS; omega)
  have f : ∀ j, j ≠ 46 → j ≠ 49 → j ≠ 53 → J 369 j = I 369 j := fun j h1 h2 h3 => hf.2 j (by unfold scrF; omega)
  have cf : frm (fun a => 369 ≤ a) I J := fun a ha => c a (by omega)
  refine ⟨r0, r1, cfC_frm cf (fun a a1 a2 => by omega) r2, cfM_frm hf (fun a a1 a2 _ _ _ _ _ _ => by unfold scrM stMS; omega) (by unfold scrF; omega) r3, ?_, ?_, ?_, ?_, ?_, hz⟩
  · unfold tdI at r4 ⊢
    rw [c 308 (by omega), c 309 (by omega), c 310 (by omega), f 63 (by omega) (by omega) (by omega), m 414 (by omega), m 415 (by omega)]
    exact r4
  · unfold tpI at r5 ⊢
    rw [c 1 (by omega), c 2 (by omega), f 2 (by omega) (by omega) (by omega), m 370 (by omega)]
    exact r5
  · unfold plI at r6 ⊢
    rw [c 29 (by omega), f 17 (by omega) (by omega) (by omega)]
    exact r6
  · obtain ⟨q1, q2, q3⟩ := r7
    have hh : h ≤ 6 := r1.2.2.2.1
    refine ⟨rCfg_frm (c _ (by omega)) (c _ (by omega)) (c _ (by omega)) (c _ (by omega)) (c _ (by omega)) q1, fun y hy mm' hm => ?_, ?_⟩
    · rw [c _ (by omega)]; exact q2 y hy mm' hm
    · rw [c 336 (by omega)]; exact q3
  · unfold kyI rgI at r8 ⊢
    rw [m 376 (by omega), m 412 (by omega), f 18 (by omega) (by omega) (by omega), m 387 (by omega), m 388 (by omega), m 389 (by omega), m 390 (by omega), m 392 (by omega), m 393 (by omega)]
    exact r8
theorem stC_frm {S : Nat → Prop} (hf : frm S I J) (hs : ∀ a, stS a → ¬ S a) (h' : stC I w n hl ρ u H hd G) : stC J w n hl ρ u H hd G := by
  obtain ⟨s1, s2, ⟨nw, s3⟩, s4, s5, s6⟩ := h'
  refine ⟨s1, stR_frm hf (fun a a1 a2 => hs a (by unfold stS; omega)) s2, ⟨nw, kpR_frm hf (fun a ha => hs a (by unfold stS; omega)) s3⟩, s4, slR_frm hf (fun a a1 a2 => hs a (by unfold stS; omega)) s5, ?_⟩
  rw [hf 307 (hs 307 (by unfold stS; omega))]
  exact s6
theorem stM_frm (h0 : J 400 = I 400) (h5 : J 405 = I 405) (h6 : J 416 = I 416) (h7 : J 417 = I 417) (hf : J 369 53 = I 369 53) (h' : stM I ρ u H hd G) : stM J ρ u H hd G := by
  obtain ⟨s1, s2, s3, s4⟩ := h'
  refine ⟨by rw [h0]; exact s1, s2, mH_frm hf h5 s3, ?_⟩
  rw [h6, h7]
  exact s4
theorem stM_c (hf : frm (fun a => scrC a ∨ stS a) I J) (h' : stM I ρ u H hd G) : stM J ρ u H hd G := by
  have m : ∀ a, 369 ≤ a → J a = I a := fun a ha => hf a (by unfold scrC stS; omega)
  exact stM_frm (m _ (by omega)) (m _ (by omega)) (m _ (by omega)) (m _ (by omega)) (by rw [m 369 (by omega)]) h'
theorem stC_m {S T : Nat → Prop} (hf : frM S T I J) (hs : ∀ a, a < 369 → ¬ S a) (h' : stC I w n hl ρ u H hd G) : stC J w n hl ρ u H hd G :=
  stC_frm (S := fun a => 369 ≤ a) (fun a ha => hf.1 a (by omega) (hs a (by omega))) (fun a ha => by unfold stS at ha; omega) h'
/-- a call that changes the state -/
theorem INV_s (hR : REST t d rt lv w h n nh hl sd ifs xs I) (hf : frm (fun a => scrC a ∨ stS a) I J) (hm : frM (fun a => scrM a ∨ stMS a) (fun j => scrF j ∨ j = 53) J K) (hz : zM K) (hC : stC J w n hl ρ u H hd G) (hM : stM K ρ u H hd G) : INV t d rt K :=
  ⟨lv, w, h, n, nh, hl, sd, ifs, xs, REST_m hm hz (REST_c hf hR), ρ, u, H, hd, G, stC_m hm (fun a ha => by unfold scrM stMS; omega) hC, hM⟩
/-- a call that asks -/
theorem INV_q (hR : REST t d rt lv w h n nh hl sd ifs xs I) (hC : stC I w n hl ρ u H hd G) (hM : stM I ρ u H hd G) (hf : frm scrC I J) (hm : frM scrM scrF J K) (hz : zM K) : INV t d rt K := by
  have hf' : frm (fun a => scrC a ∨ stS a) I J := frm_sub hf (fun a ha => Or.inl ha)
  have hM' := stM_c hf' hM
  refine INV_s hR hf' (frM_sub hm (fun a ha => Or.inl ha) (fun a ha => Or.inl ha)) hz (stC_frm hf (fun a ha => by unfold stS at ha; unfold scrC; omega) hC) ?_
  exact stM_frm (hm.1 400 (by decide) (by unfold scrM; omega)) (hm.1 405 (by decide) (by unfold scrM; omega)) (hm.1 416 (by decide) (by unfold scrM; omega)) (hm.1 417 (by decide) (by unfold scrM; omega)) (hm.2 53 (by unfold scrF; omega)) hM'
/-- both answers are alike -/
def both (t d rt : Nat) (x : Option (Int × jMem)) (y : jMem → Option (Int × jMem)) : Prop := wm t d rt x (fun r J => wm t d rt (y (mm t d rt J)) (fun r' K => jd_wr r = jd_wr r' ∧ INV t d rt K))
end IV
