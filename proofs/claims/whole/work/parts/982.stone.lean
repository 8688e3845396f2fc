/-! ===== calls: stone ===== -/
section PO
variable {t d rt : Nat} {I J K : Nat → Nat → Int} {lv w h n nh s k : Nat} {hl : Nat → Bool} {sd : Int} {ifs : Nat → List LwI} {xs : Nat → List CI} {ρ σ : Nat → Int} {u : Nat} {H : Nat → Nat → Int} {hd : Nat → Bool} {G : Nat → Nat → Int}
theorem zM_lw (hz : zM I) (hf : frM (fun a => a = 398 ∨ a = 399) (fun j => j = 46) I J) : zM J := by
  unfold zM b01 at hz ⊢
  rw [hf.1 401 (by decide) (by omega), hf.1 409 (by decide) (by omega), hf.1 410 (by decide) (by omega)]
  exact hz
theorem frM_lw (hf : frM (fun a => a = 398 ∨ a = 399) (fun j => j = 46) I J) : frM scrM scrF I J := frM_sub hf (fun a ha => by unfold scrM; omega) (fun a ha => by unfold scrF; omega)
theorem P_stone (hI : INV t d rt I) {x y : Int} (hx : in32 x) (hy : in32 y) : both t d rt (f_X11_stone 0 x y (mm t d rt I)) (fun M => f_X12_stone 369 x y M) := by
  have hI' := hI
  obtain ⟨lv, w, h, n, nh, hl, sd, ifs, xs, hR, ρ, u, H, hd, G, hC, hM⟩ := hI
  have hcf := hR.2.2.1
  have sq := hR.2.1
  have htx := hcf.1
  have kl := (tx_k htx).2.1
  have hn := sq.2.2.2.2.2.2.1
  have hxw := wr_in hx
  have hyw := wr_in hy
  have w18 : jd_wr 18 = 18 := by decide +kernel
  have w5 : jd_wr 5 = 5 := by decide +kernel
  have hv := vRow_of hC.1 hn
  unfold both f_X11_stone
  by_cases zx : 0 ≤ x ∧ x ≤ 17
  · have in1 := fun (M : jMem) => m_in_t (a := 0) (b := 17) (M := M) hx (i32 (by omega) (by omega)) (i32 (by omega) (by omega)) zx
    by_cases zy : 0 ≤ y ∧ y ≤ 5
    · have in2 := fun (M : jMem) => m_in_t (a := 0) (b := 5) (M := M) hy (i32 (by omega) (by omega)) (i32 (by omega) (by omega)) zy
      obtain ⟨k, rfl⟩ : ∃ k : Nat, x = (k : Int) := ⟨x.toNat, by omega⟩
      have hk : k < 18 := by omega
      have hli := w_lies (t := t) (d := d) (rt := rt) now_in hC.1 hn hC.2.1 hk
      have e18 : ((18 : Int) + (k : Int)) = ((18 + k : Nat) : Int) := by omega
      have e36 : ((36 : Int) + (k : Int)) = ((36 + k : Nat) : Int) := by omega
      have e54 : ((54 : Int) + (k : Int)) = ((54 + k : Nat) : Int) := by omega
      -- the model, behind its copies
      have mod : ∀ (J : Nat → Nat → Int) (r : Int), frm scrC I J → (∀ K, K 401 = ρ → cfM K lv w h n nh hl sd ifs xs → zM K → wm t d rt (jbd (f_X12_lies 369 (k : Int) (mm t d rt K)) fun v7 M8 =>
          if jd_wr v7 = 0 then (some ((-2), M8))
          else (if jd_wr y = 0 then ((jm_gR 12 48 M8 369).bind fun r9 =>
          (jm_ld 20 M8 r9 (k : Int)).bind fun v10 =>
          some (v10, M8))
          else if jd_wr y = 1 then ((jm_gR 12 48 M8 369).bind fun r11 =>
          (jm_ld 20 M8 r11 (18 + (k : Int))).bind fun v12 =>
          some ((1 - v12), M8))
          else if jd_wr y = 2 then ((jm_gR 12 48 M8 369).bind fun r13 =>
          (jm_ld 20 M8 r13 (36 + (k : Int))).bind fun v14 =>
          some (v14, M8))
          else if jd_wr y = 3 then ((jm_gR 12 48 M8 369).bind fun r15 =>
          (jm_ld 20 M8 r15 (54 + (k : Int))).bind fun v16 =>
          some (v16, M8))
          else if jd_wr y = 4 then (jcall 12 M8 369 (f_X12_asksOf 369 (k : Int) M8) fun v17 M18 =>
          some (v17, M18))
          else (jcall 12 M8 369 (f_X12_loosensOf 369 (k : Int) M8) fun v19 M20 =>
          some (v19, M20)))) (fun r' L => jd_wr r = jd_wr r' ∧ frM scrM scrF K L ∧ zM L)) → wm t d rt (f_X12_stone 369 (k : Int) y (mm t d rt J)) (fun r' K => jd_wr r = jd_wr r' ∧ INV t d rt K) := by
        intro J r hJ hK
        have hf' : frm (fun a => scrC a ∨ stS a) I J := frm_sub hJ (fun a ha => Or.inl ha)
        have hR2 := REST_c hf' hR
        have hM2 := stM_c hf' hM
        unfold f_X12_stone
        (repeat (first | (with_reducible apply wm_o; focus (simp (disch := omega) only [wr_id, Int.toNat_natCast, Int.reduceToNat, tn_lk, tn_kl, if_pos, if_neg, ↓reduceIte, and_self, and_true, true_and, in1, in2]; with_reducible rfl)) | (with_reducible apply wm_q) | (with_reducible apply wm_c; focus (first | assumption | decide +kernel)) | (with_reducible apply wm_d; focus (simp (disch := omega) only [wr_id, Int.toNat_natCast, Int.reduceToNat, tn_lk, tn_kl, if_pos, if_neg, ↓reduceIte, and_self, and_true, true_and, in1, in2]; with_reducible rfl)) | (with_reducible apply wm_t; focus (first | omega | (simp (disch := omega) only [wr_id, in1, in2]; omega) | (simp (disch := omega) only [wr_id, in1, in2]; done))) | (with_reducible apply wm_f; focus (first | omega | (simp (disch := omega) only [wr_id, in1, in2]; omega) | (simp (disch := omega) only [wr_id, in1, in2]; done)))))
        refine wm_b (m_cop hR2.2.2.2.1 hR2.2.2.2.2.2.2.2.2.2 hM2.1 hM2.2.1) (fun v K hK' => ?_)
        obtain ⟨k1, k2, k3, k4, k5⟩ := hK'
        (repeat (first | (with_reducible apply wm_o; focus (simp (disch := omega) only [wr_id, Int.toNat_natCast, Int.reduceToNat, tn_lk, tn_kl, if_pos, if_neg, ↓reduceIte, and_self, and_true, true_and]; with_reducible rfl)) | (with_reducible apply wm_q) | (with_reducible apply wm_c; focus (first | assumption | decide +kernel)) | (with_reducible apply wm_d; focus (simp (disch := omega) only [wr_id, Int.toNat_natCast, Int.reduceToNat, tn_lk, tn_kl, if_pos, if_neg, ↓reduceIte, and_self, and_true, true_and]; with_reducible rfl)) | (with_reducible apply wm_t; focus (first | omega | (simp (disch := omega) only [wr_id]; omega) | (simp (disch := omega) only [wr_id]; done))) | (with_reducible apply wm_f; focus (first | omega | (simp (disch := omega) only [wr_id]; omega) | (simp (disch := omega) only [wr_id]; done)))))
        refine wm_w (hK K k4 k3 k2) (fun r' L hL => ⟨hL.1, INV_q hR hC hM hJ (frM_trans k1 hL.2.1) hL.2.2⟩)
      have mli : ∀ K : Nat → Nat → Int, K 401 = ρ → f_X12_lies 369 (k : Int) (mm t d rt K) = some (if rLies ρ k then 1 else 0, mm t d rt K) := fun K hK => by
        rw [s_lies (by rw [hK]; exact hv) hk, hK]
      by_cases z : 0 ≤ ρ k
      · rw [if_pos z] at hli
        have rl : rLies ρ k = true := by unfold rLies; exact decide_eq_true z
        rw [rl] at mli
        obtain ⟨f1, f2, f3⟩ := hC.2.1.2.1 k hk z
        have g1 := hC.2.1.1 k hk
        rw [if_pos z] at g1
        have hyy : y = 0 ∨ y = 1 ∨ y = 2 ∨ y = 3 ∨ y = 4 ∨ y = 5 := by omega
        rcases hyy with rfl | rfl | rfl | rfl | rfl | rfl
        · (repeat (first | (with_reducible apply wm_o; focus (simp (disch := omega) only [wr_id, Int.toNat_natCast, Int.reduceToNat, tn_lk, tn_kl, if_pos, if_neg, ↓reduceIte, and_self, and_true, true_and, FX, hli, FState now_in, g1]; with_reducible rfl)) | (with_reducible apply wm_q) | (with_reducible apply wm_c; focus (first | assumption | decide +kernel)) | (with_reducible apply wm_d; focus (simp (disch := omega) only [wr_id, Int.toNat_natCast, Int.reduceToNat, tn_lk, tn_kl, if_pos, if_neg, ↓reduceIte, and_self, and_true, true_and, FX, hli, FState now_in, g1]; with_reducible rfl)) | (with_reducible apply wm_t; focus (first | omega | (simp (disch := omega) only [wr_id, FX, hli, FState now_in, g1]; omega) | (simp (disch := omega) only [wr_id, FX, hli, FState now_in, g1]; done))) | (with_reducible apply wm_f; focus (first | omega | (simp (disch := omega) only [wr_id, FX, hli, FState now_in, g1]; omega) | (simp (disch := omega) only [wr_id, FX, hli, FState now_in, g1]; done)))))
          refine wm_r (mod I _ (frm_refl _ _) (fun K k1 k2 k3 => ?_))
          have q := mli K k1
          rw [if_pos rfl] at q
          have e : K 401 k = ρ k := by rw [k1]
          (repeat (first | (with_reducible apply wm_o; focus (simp (disch := omega) only [wr_id, Int.toNat_natCast, Int.reduceToNat, tn_lk, tn_kl, if_pos, if_neg, ↓reduceIte, and_self, and_true, true_and, q, FM, e]; with_reducible rfl)) | (with_reducible apply wm_q) | (with_reducible apply wm_c; focus (first | assumption | decide +kernel)) | (with_reducible apply wm_d; focus (simp (disch := omega) only [wr_id, Int.toNat_natCast, Int.reduceToNat, tn_lk, tn_kl, if_pos, if_neg, ↓reduceIte, and_self, and_true, true_and, q, FM, e]; with_reducible rfl)) | (with_reducible apply wm_t; focus (first | omega | (simp (disch := omega) only [wr_id, q, FM, e]; omega) | (simp (disch := omega) only [wr_id, q, FM, e]; done))) | (with_reducible apply wm_f; focus (first | omega | (simp (disch := omega) only [wr_id, q, FM, e]; omega) | (simp (disch := omega) only [wr_id, q, FM, e]; done)))))
          exact wm_r ⟨rfl, frM_refl _ _ _, k3⟩
        · have hw2 : ρ (18 + k) = 0 ∨ ρ (18 + k) = 1 := by rcases hC.1.1 k hk with q | q <;> omega
          have fin : ∀ K, K 401 = ρ → cfM K lv w h n nh hl sd ifs xs → zM K → ∀ r : Int, r = 1 - ρ (18 + k) → wm t d rt (jbd (f_X12_lies 369 (k : Int) (mm t d rt K)) fun v7 M8 =>
              if jd_wr v7 = 0 then (some ((-2), M8))
              else (if jd_wr 1 = 0 then ((jm_gR 12 48 M8 369).bind fun r9 =>
              (jm_ld 20 M8 r9 (k : Int)).bind fun v10 =>
              some (v10, M8))
              else if jd_wr 1 = 1 then ((jm_gR 12 48 M8 369).bind fun r11 =>
              (jm_ld 20 M8 r11 (18 + (k : Int))).bind fun v12 =>
              some ((1 - v12), M8))
              else if jd_wr 1 = 2 then ((jm_gR 12 48 M8 369).bind fun r13 =>
              (jm_ld 20 M8 r13 (36 + (k : Int))).bind fun v14 =>
              some (v14, M8))
              else if jd_wr 1 = 3 then ((jm_gR 12 48 M8 369).bind fun r15 =>
              (jm_ld 20 M8 r15 (54 + (k : Int))).bind fun v16 =>
              some (v16, M8))
              else if jd_wr 1 = 4 then (jcall 12 M8 369 (f_X12_asksOf 369 (k : Int) M8) fun v17 M18 =>
              some (v17, M18))
              else (jcall 12 M8 369 (f_X12_loosensOf 369 (k : Int) M8) fun v19 M20 =>
              some (v19, M20)))) (fun r' L => jd_wr r = jd_wr r' ∧ frM scrM scrF K L ∧ zM L) := by
            intro K k1 k2 k3 r hr
            have q := mli K k1
            rw [if_pos rfl] at q
            have e : K 401 (18 + k) = ρ (18 + k) := by rw [k1]
            (repeat (first | (with_reducible apply wm_o; focus (simp (disch := omega) only [wr_id, Int.toNat_natCast, Int.reduceToNat, tn_lk, tn_kl, if_pos, if_neg, ↓reduceIte, and_self, and_true, true_and, q, FM, e18, e]; with_reducible rfl)) | (with_reducible apply wm_q) | (with_reducible apply wm_c; focus (first | assumption | decide +kernel)) | (with_reducible apply wm_d; focus (simp (disch := omega) only [wr_id, Int.toNat_natCast, Int.reduceToNat, tn_lk, tn_kl, if_pos, if_neg, ↓reduceIte, and_self, and_true, true_and, q, FM, e18, e]; with_reducible rfl)) | (with_reducible apply wm_t; focus (first | omega | (simp (disch := omega) only [wr_id, q, FM, e18, e]; omega) | (simp (disch := omega) only [wr_id, q, FM, e18, e]; done))) | (with_reducible apply wm_f; focus (first | omega | (simp (disch := omega) only [wr_id, q, FM, e18, e]; omega) | (simp (disch := omega) only [wr_id, q, FM, e18, e]; done)))))
            exact wm_r ⟨by rw [hr], frM_refl _ _ _, k3⟩
          rcases hw2 with z2 | z2
          · have g2 : I 36 k = 1 := by have := f1; rw [z2] at this; exact this
            (repeat (first | (with_reducible apply wm_o; focus (simp (disch := omega) only [wr_id, Int.toNat_natCast, Int.reduceToNat, tn_lk, tn_kl, if_pos, if_neg, ↓reduceIte, and_self, and_true, true_and, FX, hli, FState now_in, g2]; with_reducible rfl)) | (with_reducible apply wm_q) | (with_reducible apply wm_c; focus (first | assumption | decide +kernel)) | (with_reducible apply wm_d; focus (simp (disch := omega) only [wr_id, Int.toNat_natCast, Int.reduceToNat, tn_lk, tn_kl, if_pos, if_neg, ↓reduceIte, and_self, and_true, true_and, FX, hli, FState now_in, g2]; with_reducible rfl)) | (with_reducible apply wm_t; focus (first | omega | (simp (disch := omega) only [wr_id, FX, hli, FState now_in, g2]; omega) | (simp (disch := omega) only [wr_id, FX, hli, FState now_in, g2]; done))) | (with_reducible apply wm_f; focus (first | omega | (simp (disch := omega) only [wr_id, FX, hli, FState now_in, g2]; omega) | (simp (disch := omega) only [wr_id, FX, hli, FState now_in, g2]; done)))))
            exact wm_r (mod I _ (frm_refl _ _) (fun K k1 k2 k3 => fin K k1 k2 k3 _ (by rw [z2]; rfl)))
          · have g2 : I 36 k = 0 := by have := f1; rw [z2] at this; exact this
            (repeat (first | (with_reducible apply wm_o; focus (simp (disch := omega) only [wr_id, Int.toNat_natCast, Int.reduceToNat, tn_lk, tn_kl, if_pos, if_neg, ↓reduceIte, and_self, and_true, true_and, FX, hli, FState now_in, g2]; with_reducible rfl)) | (with_reducible apply wm_q) | (with_reducible apply wm_c; focus (first | assumption | decide +kernel)) | (with_reducible apply wm_d; focus (simp (disch := omega) only [wr_id, Int.toNat_natCast, Int.reduceToNat, tn_lk, tn_kl, if_pos, if_neg, ↓reduceIte, and_self, and_true, true_and, FX, hli, FState now_in, g2]; with_reducible rfl)) | (with_reducible apply wm_t; focus (first | omega | (simp (disch := omega) only [wr_id, FX, hli, FState now_in, g2]; omega) | (simp (disch := omega) only [wr_id, FX, hli, FState now_in, g2]; done))) | (with_reducible apply wm_f; focus (first | omega | (simp (disch := omega) only [wr_id, FX, hli, FState now_in, g2]; omega) | (simp (disch := omega) only [wr_id, FX, hli, FState now_in, g2]; done)))))
            exact wm_r (mod I _ (frm_refl _ _) (fun K k1 k2 k3 => fin K k1 k2 k3 _ (by rw [z2]; rfl)))
        · (repeat (first | (with_reducible apply wm_o; focus (simp (disch := omega) only [wr_id, Int.toNat_natCast, Int.reduceToNat, tn_lk, tn_kl, if_pos, if_neg, ↓reduceIte, and_self, and_true, true_and, FX, hli, FState now_in, f2]; with_reducible rfl)) | (with_reducible apply wm_q) | (with_reducible apply wm_c; focus (first | assumption | decide +kernel)) | (with_reducible apply wm_d; focus (simp (disch := omega) only [wr_id, Int.toNat_natCast, Int.reduceToNat, tn_lk, tn_kl, if_pos, if_neg, ↓reduceIte, and_self, and_true, true_and, FX, hli, FState now_in, f2]; with_reducible rfl)) | (with_reducible apply wm_t; focus (first | omega | (simp (disch := omega) only [wr_id, FX, hli, FState now_in, f2]; omega) | (simp (disch := omega) only [wr_id, FX, hli, FState now_in, f2]; done))) | (with_reducible apply wm_f; focus (first | omega | (simp (disch := omega) only [wr_id, FX, hli, FState now_in, f2]; omega) | (simp (disch := omega) only [wr_id, FX, hli, FState now_in, f2]; done)))))
          refine wm_r (mod I _ (frm_refl _ _) (fun K k1 k2 k3 => ?_))
          have q := mli K k1
          rw [if_pos rfl] at q
          have e : K 401 (36 + k) = ρ (36 + k) := by rw [k1]
          (repeat (first | (with_reducible apply wm_o; focus (simp (disch := omega) only [wr_id, Int.toNat_natCast, Int.reduceToNat, tn_lk, tn_kl, if_pos, if_neg, ↓reduceIte, and_self, and_true, true_and, q, FM, e36, e]; with_reducible rfl)) | (with_reducible apply wm_q) | (with_reducible apply wm_c; focus (first | assumption | decide +kernel)) | (with_reducible apply wm_d; focus (simp (disch := omega) only [wr_id, Int.toNat_natCast, Int.reduceToNat, tn_lk, tn_kl, if_pos, if_neg, ↓reduceIte, and_self, and_true, true_and, q, FM, e36, e]; with_reducible rfl)) | (with_reducible apply wm_t; focus (first | omega | (simp (disch := omega) only [wr_id, q, FM, e36, e]; omega) | (simp (disch := omega) only [wr_id, q, FM, e36, e]; done))) | (with_reducible apply wm_f; focus (first | omega | (simp (disch := omega) only [wr_id, q, FM, e36, e]; omega) | (simp (disch := omega) only [wr_id, q, FM, e36, e]; done)))))
          exact wm_r ⟨rfl, frM_refl _ _ _, k3⟩
        · (repeat (first | (with_reducible apply wm_o; focus (simp (disch := omega) only [wr_id, Int.toNat_natCast, Int.reduceToNat, tn_lk, tn_kl, if_pos, if_neg, ↓reduceIte, and_self, and_true, true_and, FX, hli, FState now_in, f3]; with_reducible rfl)) | (with_reducible apply wm_q) | (with_reducible apply wm_c; focus (first | assumption | decide +kernel)) | (with_reducible apply wm_d; focus (simp (disch := omega) only [wr_id, Int.toNat_natCast, Int.reduceToNat, tn_lk, tn_kl, if_pos, if_neg, ↓reduceIte, and_self, and_true, true_and, FX, hli, FState now_in, f3]; with_reducible rfl)) | (with_reducible apply wm_t; focus (first | omega | (simp (disch := omega) only [wr_id, FX, hli, FState now_in, f3]; omega) | (simp (disch := omega) only [wr_id, FX, hli, FState now_in, f3]; done))) | (with_reducible apply wm_f; focus (first | omega | (simp (disch := omega) only [wr_id, FX, hli, FState now_in, f3]; omega) | (simp (disch := omega) only [wr_id, FX, hli, FState now_in, f3]; done)))))
          refine wm_r (mod I _ (frm_refl _ _) (fun K k1 k2 k3 => ?_))
          have q := mli K k1
          rw [if_pos rfl] at q
          have e : K 401 (54 + k) = ρ (54 + k) := by rw [k1]
          (repeat (first | (with_reducible apply wm_o; focus (simp (disch := omega) only [wr_id, Int.toNat_natCast, Int.reduceToNat, tn_lk, tn_kl, if_pos, if_neg, ↓reduceIte, and_self, and_true, true_and, q, FM, e54, e]; with_reducible rfl)) | (with_reducible apply wm_q) | (with_reducible apply wm_c; focus (first | assumption | decide +kernel)) | (with_reducible apply wm_d; focus (simp (disch := omega) only [wr_id, Int.toNat_natCast, Int.reduceToNat, tn_lk, tn_kl, if_pos, if_neg, ↓reduceIte, and_self, and_true, true_and, q, FM, e54, e]; with_reducible rfl)) | (with_reducible apply wm_t; focus (first | omega | (simp (disch := omega) only [wr_id, q, FM, e54, e]; omega) | (simp (disch := omega) only [wr_id, q, FM, e54, e]; done))) | (with_reducible apply wm_f; focus (first | omega | (simp (disch := omega) only [wr_id, q, FM, e54, e]; omega) | (simp (disch := omega) only [wr_id, q, FM, e54, e]; done)))))
          exact wm_r ⟨rfl, frM_refl _ _ _, k3⟩
        · have c5 := hcf.2.2.2.2.1
          (repeat (first | (with_reducible apply wm_o; focus (simp (disch := omega) only [wr_id, Int.toNat_natCast, Int.reduceToNat, tn_lk, tn_kl, if_pos, if_neg, ↓reduceIte, and_self, and_true, true_and, FX, hli, FState now_in, FText htx, c5]; with_reducible rfl)) | (with_reducible apply wm_q) | (with_reducible apply wm_c; focus (first | assumption | decide +kernel)) | (with_reducible apply wm_d; focus (simp (disch := omega) only [wr_id, Int.toNat_natCast, Int.reduceToNat, tn_lk, tn_kl, if_pos, if_neg, ↓reduceIte, and_self, and_true, true_and, FX, hli, FState now_in, FText htx, c5]; with_reducible rfl)) | (with_reducible apply wm_t; focus (first | omega | (simp (disch := omega) only [wr_id, FX, hli, FState now_in, FText htx, c5]; omega) | (simp (disch := omega) only [wr_id, FX, hli, FState now_in, FText htx, c5]; done))) | (with_reducible apply wm_f; focus (first | omega | (simp (disch := omega) only [wr_id, FX, hli, FState now_in, FText htx, c5]; omega) | (simp (disch := omega) only [wr_id, FX, hli, FState now_in, FText htx, c5]; done)))))
          refine wm_b (c_held (q := 0) sq hcf now_in hC.1 hC.2.1 hk z (by decide)) (fun v J hJ => ?_)
          refine wm_r (mod J _ (frm_sub hJ.2 (scr_12 htx)) (fun K k1 k2 k3 => ?_))
          have q := mli K k1
          rw [if_pos rfl] at q
          (repeat (first | (with_reducible apply wm_o; focus (simp (disch := omega) only [wr_id, Int.toNat_natCast, Int.reduceToNat, tn_lk, tn_kl, if_pos, if_neg, ↓reduceIte, and_self, and_true, true_and, q]; with_reducible rfl)) | (with_reducible apply wm_q) | (with_reducible apply wm_c; focus (first | assumption | decide +kernel)) | (with_reducible apply wm_d; focus (simp (disch := omega) only [wr_id, Int.toNat_natCast, Int.reduceToNat, tn_lk, tn_kl, if_pos, if_neg, ↓reduceIte, and_self, and_true, true_and, q]; with_reducible rfl)) | (with_reducible apply wm_t; focus (first | omega | (simp (disch := omega) only [wr_id, q]; omega) | (simp (disch := omega) only [wr_id, q]; done))) | (with_reducible apply wm_f; focus (first | omega | (simp (disch := omega) only [wr_id, q]; omega) | (simp (disch := omega) only [wr_id, q]; done)))))
          refine wm_b (m_asks k2 hC.1 k1 hk z) (fun v2 L hL => ?_)
          exact wm_r ⟨by rw [hJ.1, hL.1], frM_lw hL.2, zM_lw k3 hL.2⟩
        · have c5 := hcf.2.2.2.2.1
          (repeat (first | (with_reducible apply wm_o; focus (simp (disch := omega) only [wr_id, Int.toNat_natCast, Int.reduceToNat, tn_lk, tn_kl, if_pos, if_neg, ↓reduceIte, and_self, and_true, true_and, FX, hli, FState now_in, FText htx, c5]; with_reducible rfl)) | (with_reducible apply wm_q) | (with_reducible apply wm_c; focus (first | assumption | decide +kernel)) | (with_reducible apply wm_d; focus (simp (disch := omega) only [wr_id, Int.toNat_natCast, Int.reduceToNat, tn_lk, tn_kl, if_pos, if_neg, ↓reduceIte, and_self, and_true, true_and, FX, hli, FState now_in, FText htx, c5]; with_reducible rfl)) | (with_reducible apply wm_t; focus (first | omega | (simp (disch := omega) only [wr_id, FX, hli, FState now_in, FText htx, c5]; omega) | (simp (disch := omega) only [wr_id, FX, hli, FState now_in, FText htx, c5]; done))) | (with_reducible apply wm_f; focus (first | omega | (simp (disch := omega) only [wr_id, FX, hli, FState now_in, FText htx, c5]; omega) | (simp (disch := omega) only [wr_id, FX, hli, FState now_in, FText htx, c5]; done)))))
          refine wm_b (c_held (q := 1) sq hcf now_in hC.1 hC.2.1 hk z (by decide)) (fun v J hJ => ?_)
          refine wm_r (mod J _ (frm_sub hJ.2 (scr_12 htx)) (fun K k1 k2 k3 => ?_))
          have q := mli K k1
          rw [if_pos rfl] at q
          (repeat (first | (with_reducible apply wm_o; focus (simp (disch := omega) only [wr_id, Int.toNat_natCast, Int.reduceToNat, tn_lk, tn_kl, if_pos, if_neg, ↓reduceIte, and_self, and_true, true_and, q]; with_reducible rfl)) | (with_reducible apply wm_q) | (with_reducible apply wm_c; focus (first | assumption | decide +kernel)) | (with_reducible apply wm_d; focus (simp (disch := omega) only [wr_id, Int.toNat_natCast, Int.reduceToNat, tn_lk, tn_kl, if_pos, if_neg, ↓reduceIte, and_self, and_true, true_and, q]; with_reducible rfl)) | (with_reducible apply wm_t; focus (first | omega | (simp (disch := omega) only [wr_id, q]; omega) | (simp (disch := omega) only [wr_id, q]; done))) | (with_reducible apply wm_f; focus (first | omega | (simp (disch := omega) only [wr_id, q]; omega) | (simp (disch := omega) only [wr_id, q]; done)))))
          refine wm_b (m_loosens k2 hC.1 k1 hk z) (fun v2 L hL => ?_)
          exact wm_r ⟨by rw [hJ.1, hL.1], frM_lw hL.2, zM_lw k3 hL.2⟩
      · rw [if_neg z] at hli
        have rl : rLies ρ k = false := by unfold rLies; exact decide_eq_false z
        rw [rl] at mli
        (repeat (first | (with_reducible apply wm_o; focus (simp (disch := omega) only [wr_id, Int.toNat_natCast, Int.reduceToNat, tn_lk, tn_kl, if_pos, if_neg, ↓reduceIte, and_self, and_true, true_and, FX, hli]; with_reducible rfl)) | (with_reducible apply wm_q) | (with_reducible apply wm_c; focus (first | assumption | decide +kernel)) | (with_reducible apply wm_d; focus (simp (disch := omega) only [wr_id, Int.toNat_natCast, Int.reduceToNat, tn_lk, tn_kl, if_pos, if_neg, ↓reduceIte, and_self, and_true, true_and, FX, hli]; with_reducible rfl)) | (with_reducible apply wm_t; focus (first | omega | (simp (disch := omega) only [wr_id, FX, hli]; omega) | (simp (disch := omega) only [wr_id, FX, hli]; done))) | (with_reducible apply wm_f; focus (first | omega | (simp (disch := omega) only [wr_id, FX, hli]; omega) | (simp (disch := omega) only [wr_id, FX, hli]; done)))))
        refine wm_r (mod I _ (frm_refl _ _) (fun K k1 k2 k3 => ?_))
        have q := mli K k1
        rw [if_neg (by decide)] at q
        (repeat (first | (with_reducible apply wm_o; focus (simp (disch := omega) only [wr_id, Int.toNat_natCast, Int.reduceToNat, tn_lk, tn_kl, if_pos, if_neg, ↓reduceIte, and_self, and_true, true_and, q]; with_reducible rfl)) | (with_reducible apply wm_q) | (with_reducible apply wm_c; focus (first | assumption | decide +kernel)) | (with_reducible apply wm_d; focus (simp (disch := omega) only [wr_id, Int.toNat_natCast, Int.reduceToNat, tn_lk, tn_kl, if_pos, if_neg, ↓reduceIte, and_self, and_true, true_and, q]; with_reducible rfl)) | (with_reducible apply wm_t; focus (first | omega | (simp (disch := omega) only [wr_id, q]; omega) | (simp (disch := omega) only [wr_id, q]; done))) | (with_reducible apply wm_f; focus (first | omega | (simp (disch := omega) only [wr_id, q]; omega) | (simp (disch := omega) only [wr_id, q]; done)))))
        exact wm_r ⟨rfl, frM_refl _ _ _, k3⟩
    · have in2 := fun (M : jMem) => m_in_f (a := 0) (b := 5) (M := M) hy (i32 (by omega) (by omega)) (i32 (by omega) (by omega)) zy
      have mod : wm t d rt (f_X12_stone 369 x y (mm t d rt I)) (fun r' K => jd_wr (-1) = jd_wr r' ∧ INV t d rt K) := by
        unfold f_X12_stone
        (repeat (first | (with_reducible apply wm_o; focus (simp (disch := omega) only [wr_id, Int.toNat_natCast, Int.reduceToNat, tn_lk, tn_kl, if_pos, if_neg, ↓reduceIte, and_self, and_true, true_and, in1, in2]; with_reducible rfl)) | (with_reducible apply wm_q) | (with_reducible apply wm_c; focus (first | assumption | decide +kernel)) | (with_reducible apply wm_d; focus (simp (disch := omega) only [wr_id, Int.toNat_natCast, Int.reduceToNat, tn_lk, tn_kl, if_pos, if_neg, ↓reduceIte, and_self, and_true, true_and, in1, in2]; with_reducible rfl)) | (with_reducible apply wm_t; focus (first | omega | (simp (disch := omega) only [wr_id, in1, in2]; omega) | (simp (disch := omega) only [wr_id, in1, in2]; done))) | (with_reducible apply wm_f; focus (first | omega | (simp (disch := omega) only [wr_id, in1, in2]; omega) | (simp (disch := omega) only [wr_id, in1, in2]; done)))))
        exact wm_r ⟨rfl, hI'⟩
      by_cases z1 : y < 0
      · (repeat (first | (with_reducible apply wm_o; focus (simp (disch := omega) only [wr_id, Int.toNat_natCast, Int.reduceToNat, tn_lk, tn_kl, if_pos, if_neg, ↓reduceIte, and_self, and_true, true_and]; with_reducible rfl)) | (with_reducible apply wm_q) | (with_reducible apply wm_c; focus (first | assumption | decide +kernel)) | (with_reducible apply wm_d; focus (simp (disch := omega) only [wr_id, Int.toNat_natCast, Int.reduceToNat, tn_lk, tn_kl, if_pos, if_neg, ↓reduceIte, and_self, and_true, true_and]; with_reducible rfl)) | (with_reducible apply wm_t; focus (first | omega | (simp (disch := omega) only [wr_id]; omega) | (simp (disch := omega) only [wr_id]; done))) | (with_reducible apply wm_f; focus (first | omega | (simp (disch := omega) only [wr_id]; omega) | (simp (disch := omega) only [wr_id]; done)))))
        exact wm_r mod
      · (repeat (first | (with_reducible apply wm_o; focus (simp (disch := omega) only [wr_id, Int.toNat_natCast, Int.reduceToNat, tn_lk, tn_kl, if_pos, if_neg, ↓reduceIte, and_self, and_true, true_and]; with_reducible rfl)) | (with_reducible apply wm_q) | (with_reducible apply wm_c; focus (first | assumption | decide +kernel)) | (with_reducible apply wm_d; focus (simp (disch := omega) only [wr_id, Int.toNat_natCast, Int.reduceToNat, tn_lk, tn_kl, if_pos, if_neg, ↓reduceIte, and_self, and_true, true_and]; with_reducible rfl)) | (with_reducible apply wm_t; focus (first | omega | (simp (disch := omega) only [wr_id]; omega) | (simp (disch := omega) only [wr_id]; done))) | (with_reducible apply wm_f; focus (first | omega | (simp (disch := omega) only [wr_id]; omega) | (simp (disch := omega) only [wr_id]; done)))))
        exact wm_r mod
  · have in1 := fun (M : jMem) => m_in_f (a := 0) (b := 17) (M := M) hx (i32 (by omega) (by omega)) (i32 (by omega) (by omega)) zx
    have mod : wm t d rt (f_X12_stone 369 x y (mm t d rt I)) (fun r' K => jd_wr (-1) = jd_wr r' ∧ INV t d rt K) := by
      unfold f_X12_stone
      (repeat (first | (with_reducible apply wm_o; focus (simp (disch := omega) only [wr_id, Int.toNat_natCast, Int.reduceToNat, tn_lk, tn_kl, if_pos, if_neg, ↓reduceIte, and_self, and_true, true_and, in1]; with_reducible rfl)) | (with_reducible apply wm_q) | (with_reducible apply wm_c; focus (first | assumption | decide +kernel)) | (with_reducible apply wm_d; focus (simp (disch := omega) only [wr_id, Int.toNat_natCast, Int.reduceToNat, tn_lk, tn_kl, if_pos, if_neg, ↓reduceIte, and_self, and_true, true_and, in1]; with_reducible rfl)) | (with_reducible apply wm_t; focus (first | omega | (simp (disch := omega) only [wr_id, in1]; omega) | (simp (disch := omega) only [wr_id, in1]; done))) | (with_reducible apply wm_f; focus (first | omega | (simp (disch := omega) only [wr_id, in1]; omega) | (simp (disch := omega) only [wr_id, in1]; done)))))
      exact wm_r ⟨rfl, hI'⟩
    by_cases z1 : x < 0
    · (repeat (first | (with_reducible apply wm_o; focus (simp (disch := omega) only [wr_id, Int.toNat_natCast, Int.reduceToNat, tn_lk, tn_kl, if_pos, if_neg, ↓reduceIte, and_self, and_true, true_and]; with_reducible rfl)) | (with_reducible apply wm_q) | (with_reducible apply wm_c; focus (first | assumption | decide +kernel)) | (with_reducible apply wm_d; focus (simp (disch := omega) only [wr_id, Int.toNat_natCast, Int.reduceToNat, tn_lk, tn_kl, if_pos, if_neg, ↓reduceIte, and_self, and_true, true_and]; with_reducible rfl)) | (with_reducible apply wm_t; focus (first | omega | (simp (disch := omega) only [wr_id]; omega) | (simp (disch := omega) only [wr_id]; done))) | (with_reducible apply wm_f; focus (first | omega | (simp (disch := omega) only [wr_id]; omega) | (simp (disch := omega) only [wr_id]; done)))))
      exact wm_r mod
    · (repeat (first | (with_reducible apply wm_o; focus (simp (disch := omega) only [wr_id, Int.toNat_natCast, Int.reduceToNat, tn_lk, tn_kl, if_pos, if_neg, ↓reduceIte, and_self, and_true, true_and]; with_reducible rfl)) | (with_reducible apply wm_q) | (with_reducible apply wm_c; focus (first | assumption | decide +kernel)) | (with_reducible apply wm_d; focus (simp (disch := omega) only [wr_id, Int.toNat_natCast, Int.reduceToNat, tn_lk, tn_kl, if_pos, if_neg, ↓reduceIte, and_self, and_true, true_and]; with_reducible rfl)) | (with_reducible apply wm_t; focus (first | omega | (simp (disch := omega) only [wr_id]; omega) | (simp (disch := omega) only [wr_id]; done))) | (with_reducible apply wm_f; focus (first | omega | (simp (disch := omega) only [wr_id]; omega) | (simp (disch := omega) only [wr_id]; done)))))
      exact wm_r mod
end PO
