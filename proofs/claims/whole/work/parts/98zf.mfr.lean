/-! ===== the frame of the model's reading ===== -/
def rdT : Nat → Prop := fun j => (11 ≤ j ∧ j ≤ 16) ∨ j = 32 ∨ j = 38 ∨ j = 43
def mfr (sd : Nat) (I J : Nat → Nat → Int) : Prop := (∀ a, a ≠ 369 → ¬ (377 ≤ a ∧ a ≤ 395) → a ≠ 397 → J a = I a) ∧ (∀ j, ¬ rdT j → J 369 j = I 369 j) ∧ kpL (420 * sd) (420 * sd + 420) (130 * sd) (130 * sd + 130) I J ∧ (∀ j, j ≠ sd → J 377 j = I 377 j ∧ J 378 j = I 378 j ∧ J 379 j = I 379 j ∧ J 382 j = I 382 j ∧ J 386 j = I 386 j) ∧ (∀ j, ¬ (12 * sd ≤ j ∧ j < 12 * sd + 12) → J 380 j = I 380 j ∧ J 381 j = I 381 j) ∧ (∀ j, ¬ (18 * sd ≤ j ∧ j < 18 * sd + 18) → J 383 j = I 383 j ∧ J 384 j = I 384 j ∧ J 385 j = I 385 j) ∧ ∀ j, ¬ (3 * sd ≤ j ∧ j < 3 * sd + 3) → J 387 j = I 387 j ∧ J 388 j = I 388 j
theorem mfr_refl (sd : Nat) (I : Nat → Nat → Int) : mfr sd I I := ⟨fun _ _ _ _ => rfl, fun _ _ => rfl, kpL_refl _ _ _ _ _, fun _ _ => ⟨rfl, rfl, rfl, rfl, rfl⟩, fun _ _ => ⟨rfl, rfl⟩, fun _ _ => ⟨rfl, rfl, rfl⟩, fun _ _ => ⟨rfl, rfl⟩⟩
theorem mfr_trans {sd : Nat} {I J K : Nat → Nat → Int} (h1 : mfr sd I J) (h2 : mfr sd J K) : mfr sd I K := by
  obtain ⟨a1, a2, a3, a4, a5, a6, a7⟩ := h1
  obtain ⟨b1, b2, b3, b4, b5, b6, b7⟩ := h2
  refine ⟨fun a c1 c2 c3 => (b1 a c1 c2 c3).trans (a1 a c1 c2 c3), fun j c => (b2 j c).trans (a2 j c), kpL_trans a3 b3 (Nat.le_refl _) (Nat.le_refl _), fun j c => ?_, fun j c => ?_, fun j c => ?_, fun j c => ?_⟩
  · obtain ⟨x1, x2, x3, x4, x5⟩ := a4 j c
    obtain ⟨y1, y2, y3, y4, y5⟩ := b4 j c
    exact ⟨y1.trans x1, y2.trans x2, y3.trans x3, y4.trans x4, y5.trans x5⟩
  · obtain ⟨x1, x2⟩ := a5 j c
    obtain ⟨y1, y2⟩ := b5 j c
    exact ⟨y1.trans x1, y2.trans x2⟩
  · obtain ⟨x1, x2, x3⟩ := a6 j c
    obtain ⟨y1, y2, y3⟩ := b6 j c
    exact ⟨y1.trans x1, y2.trans x2, y3.trans x3⟩
  · obtain ⟨x1, x2⟩ := a7 j c
    obtain ⟨y1, y2⟩ := b7 j c
    exact ⟨y1.trans x1, y2.trans x2⟩
theorem mfr_fr {sd : Nat} {T : Nat → Prop} {I J : Nat → Nat → Int} (h : frM (fun _ => False) T I J) (hT : ∀ j, T j → rdT j) : mfr sd I J := by
  have e : ∀ a, a ≠ 369 → J a = I a := fun a ha => h.1 a ha (fun q => q)
  refine ⟨fun a c1 _ _ => e a c1, fun j c => h.2 j (fun q => c (hT j q)), kpL_fr h (fun a _ _ q => q), fun j _ => ?_, fun j _ => ?_, fun j _ => ?_, fun j _ => ?_⟩
  · rw [e 377 (by decide), e 378 (by decide), e 379 (by decide), e 382 (by decide), e 386 (by decide)]; exact ⟨rfl, rfl, rfl, rfl, rfl⟩
  · rw [e 380 (by decide), e 381 (by decide)]; exact ⟨rfl, rfl⟩
  · rw [e 383 (by decide), e 384 (by decide), e 385 (by decide)]; exact ⟨rfl, rfl, rfl⟩
  · rw [e 387 (by decide), e 388 (by decide)]; exact ⟨rfl, rfl⟩
/-- one entry of the side's own changes -/
def ownS (sd a j : Nat) : Prop := ((a = 377 ∨ a = 378 ∨ a = 379 ∨ a = 382 ∨ a = 386) ∧ j = sd) ∨ ((a = 380 ∨ a = 381) ∧ 12 * sd ≤ j ∧ j < 12 * sd + 12) ∨ ((a = 383 ∨ a = 384 ∨ a = 385) ∧ 18 * sd ≤ j ∧ j < 18 * sd + 18)
theorem mfr_up {sd a j : Nat} {v : Int} {I J : Nat → Nat → Int} (h : mfr sd I J) (ho : ownS sd a j) : mfr sd I (up J a j v) := by
  refine mfr_trans h ?_
  have n : ∀ x y, x ≠ a ∨ y ≠ j → up J a j v x y = J x y := fun x y q => up_n q
  unfold ownS at ho
  refine ⟨fun x c1 c2 _ => up_ne (by omega), fun y _ => n _ _ (Or.inl (by omega)), ⟨fun p _ => ?_, fun b _ => ?_⟩, fun y c => ?_, fun y c => ?_, fun y c => ?_, fun y c => ?_⟩
  · exact ⟨n _ _ (Or.inl (by omega)), n _ _ (Or.inl (by omega))⟩
  · exact ⟨n _ _ (Or.inl (by omega)), n _ _ (Or.inl (by omega)), n _ _ (Or.inl (by omega)), n _ _ (Or.inl (by omega)), n _ _ (Or.inl (by omega))⟩
  · exact ⟨n _ _ (by omega), n _ _ (by omega), n _ _ (by omega), n _ _ (by omega), n _ _ (by omega)⟩
  · exact ⟨n _ _ (by omega), n _ _ (by omega)⟩
  · exact ⟨n _ _ (by omega), n _ _ (by omega), n _ _ (by omega)⟩
  · exact ⟨n _ _ (by omega), n _ _ (by omega)⟩
