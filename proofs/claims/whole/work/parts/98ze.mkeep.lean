/-! ===== laws that are told stay ===== -/
theorem lwM_kp {I J : Nat → Nat → Int} {c hi b bh : Nat} (hk : kpL c hi b bh I J) {x : List CI} {e : Nat} (he : e ≤ b) : ∀ {ifs : List LwI} {bb : Nat}, (∀ y, bb ≤ y → y < e → I 393 y ≤ (c : Int)) → lwM I bb ifs x e → lwM J bb ifs x e
  | [], bb, h, hl => by
    obtain ⟨h1, ⟨p, p1, p2, p3, p4⟩, h2⟩ := hl
    obtain ⟨e1, e2, e3, e4, e5⟩ := hk.2 bb (by omega)
    have hc := h bb (Nat.le_refl _) (by omega)
    rw [p2] at hc
    refine ⟨e1.trans h1, ⟨p, e4.trans p1, e5.trans p2, cdAt_congr (fun q q1 q2 => hk.1 q ?_) p3, p4⟩, h2⟩
    rw [List.length_map] at q2; omega
  | i :: r, bb, h, hl => by
    obtain ⟨h1, ⟨p, p1, p2, p3, p4, p5, p6, p7, p8⟩, h2⟩ := hl
    have le := lwM_le h2
    obtain ⟨e1, e2, e3, e4, e5⟩ := hk.2 bb (by omega)
    have hc := h bb (Nat.le_refl _) (by omega)
    rw [p4] at hc
    refine ⟨e1.trans h1, ⟨p, e2.trans p1, e3.trans p2, e4.trans p3, e5.trans p4, cdAt_congr (fun q q1 q2 => hk.1 q ?_) p5, cdAt_congr (fun q q1 q2 => hk.1 q ?_) p6, cdAt_congr (fun q q1 q2 => hk.1 q ?_) p7, p8⟩, lwM_kp hk he (fun y y1 y2 => h y (by omega) y2) h2⟩
    · rw [List.length_map] at q2; omega
    · rw [List.length_map] at q2; omega
    · rw [List.length_map] at q2; omega
