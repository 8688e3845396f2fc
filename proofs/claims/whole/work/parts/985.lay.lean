/-! ===== calls: lay ===== -/
section PZ
variable {t d rt : Nat} {I J K : Nat → Nat → Int} {lv w h n nh s k : Nat} {hl : Nat → Bool} {sd : Int} {ifs : Nat → List LwI} {xs : Nat → List CI} {ρ σ : Nat → Int} {u : Nat} {H : Nat → Nat → Int} {hd : Nat → Bool} {G : Nat → Nat → Int}
theorem frB_t {x : Int} (hf : frB w n hl ρ x = true) : opB n hl x = true ∧ rCpl w ρ x = none := by
  unfold frB at hf
  rw [Bool.and_eq_true] at hf
  refine ⟨hf.1, ?_⟩
  cases e : rCpl w ρ x with
  | none => rfl
  | some k => rw [e] at hf; cases hf.2
theorem P_lay (hI : INV t d rt I) {x y : Int} (hx : in32 x) (hy : in32 y) : both t d rt (f_X11_lay 0 x y (mm t d rt I)) (fun M => f_X12_lay 369 x y M) := by
  have hI' := hI
  obtain ⟨lv, w, h, n, nh, hl, sd, ifs, xs, hR, ρ, u, H, hd, G, hC, hM⟩ := hI
  have hcf := hR.2.2.1
  have hmf := hR.2.2.2.1
  have hz := hR.2.2.2.2.2.2.2.2.2
  have sq := hR.2.1
  have htx := hcf.1
  have kt := (tx_k htx).1
  have hn := sq.2.2.2.2.2.2.1
  have hw : 2 ≤ w ∧ w ≤ 6 := ⟨sq.1, sq.2.1⟩
  have hnw := sq.2.2.2.2.1
  have hyw := wr_in hy
  have w1 := wr_1
  have w0 := wr_0
  have wm1 : jd_wr (-1) = -1 := by decide +kernel
  have hv := vRow_of hC.1 hn
  have hq := q_isFree (d := d) (rt := rt) sq hcf hC.2.1 hx
  by_cases zy : 0 ≤ y ∧ y ≤ 1
  · have in2 := fun (M : jMem) => m_in_t (a := 0) (b := 1) (M := M) hy (i32 (by omega) (by omega)) (i32 (by omega) (by omega)) zy
    by_cases zf : frB w n hl ρ x = true
    · rw [if_pos zf] at hq
      obtain ⟨f1, f2⟩ := frB_t zf
      obtain ⟨g1, g2, g3⟩ := opB_t f1
      obtain ⟨c, rfl⟩ : ∃ c : Nat, x = (c : Int) := ⟨x.toNat, by omega⟩
      have hcn : c < n := by omega
      obtain ⟨k, l1, l2, l3, l4⟩ := left_one hw hn hnw hC.1 hcn f2
      have hlc := w_leastCouple (t := t) (d := d) (rt := rt) now_in hC.1 hn hC.2.1
      rw [l1] at hlc
      have hlc' : f_X6_leastCouple 34 (mm t d rt I) = some ((k : Int), mm t d rt I) := hlc
      -- the model, up to its second look
      have mod : ∀ (J : Nat → Nat → Int) (v : Int) (Q : Int → (Nat → Nat → Int) → Prop), REST t d rt lv w h n nh hl sd ifs xs J → stM J ρ u H hd G → in32 v → (∀ K : Nat → Nat → Int, cfM K lv w h n nh hl sd ifs xs → f_X12_secondCell 369 (c : Int) y (mm t d rt K) = some (v, mm t d rt K)) → (frB w n hl ρ v = false → ∀ K, frM scrM scrF J K → zM K → Q (-1) K) → (frB w n hl ρ v = true → ∀ K, frM scrM scrF J K → zM K → cfM K lv w h n nh hl sd ifs xs → K 401 = ρ → wm t d rt (jlp2 (lyB (c : Int) y) jfuel 0 (mm t d rt K)) Q) → wm t d rt (f_X12_lay 369 (c : Int) y (mm t d rt J)) Q := by
        intro J v Q hRJ hMJ hv32 hsec hno hyes
        have hic := s_isCell_t (t := t) (d := d) (rt := rt) hRJ.2.2.2.1.1 g1 g2
        unfold f_X12_lay
        (repeat (first | (with_reducible apply wm_o; focus (simp (disch := omega) only [wr_id, Int.toNat_natCast, Int.reduceToNat, tn_lk, tn_kl, if_pos, if_neg, ↓reduceIte, and_self, and_true, true_and, hic, in2]; with_reducible rfl)) | (with_reducible apply wm_q) | (with_reducible apply wm_c; focus (first | assumption | decide +kernel)) | (with_reducible apply wm_d; focus (simp (disch := omega) only [wr_id, Int.toNat_natCast, Int.reduceToNat, tn_lk, tn_kl, if_pos, if_neg, ↓reduceIte, and_self, and_true, true_and, hic, in2]; with_reducible rfl)) | (with_reducible apply wm_t; focus (first | omega | (simp (disch := omega) only [wr_id, hic, in2]; omega) | (simp (disch := omega) only [wr_id, hic, in2]; done))) | (with_reducible apply wm_f; focus (first | omega | (simp (disch := omega) only [wr_id, hic, in2]; omega) | (simp (disch := omega) only [wr_id, hic, in2]; done)))))
        refine wm_b (m_cop hRJ.2.2.2.1 hRJ.2.2.2.2.2.2.2.2.2 hMJ.1 hMJ.2.1) (fun v' K hK => ?_)
        obtain ⟨k1, k2, k3, k4, k5⟩ := hK
        have mf1 := m_isFree (t := t) (d := d) (rt := rt) k3.1 k3.2.2.2.1 (by rw [k4]; exact hv) hx
        rw [k4, if_pos zf] at mf1
        have mf2 := m_isFree (t := t) (d := d) (rt := rt) k3.1 k3.2.2.2.1 (by rw [k4]; exact hv) hv32
        rw [k4] at mf2
        have hs := hsec K k3
        cases e : frB w n hl ρ v with
        | false =>
          rw [e, if_neg (by decide)] at mf2
          (repeat (first | (with_reducible apply wm_o; focus (simp (disch := omega) only [wr_id, Int.toNat_natCast, Int.reduceToNat, tn_lk, tn_kl, if_pos, if_neg, ↓reduceIte, and_self, and_true, true_and, mf1, hs, mf2]; with_reducible rfl)) | (with_reducible apply wm_q) | (with_reducible apply wm_c; focus (first | assumption | decide +kernel)) | (with_reducible apply wm_d; focus (simp (disch := omega) only [wr_id, Int.toNat_natCast, Int.reduceToNat, tn_lk, tn_kl, if_pos, if_neg, ↓reduceIte, and_self, and_true, true_and, mf1, hs, mf2]; with_reducible rfl)) | (with_reducible apply wm_t; focus (first | omega | (simp (disch := omega) only [wr_id, mf1, hs, mf2]; omega) | (simp (disch := omega) only [wr_id, mf1, hs, mf2]; done))) | (with_reducible apply wm_f; focus (first | omega | (simp (disch := omega) only [wr_id, mf1, hs, mf2]; omega) | (simp (disch := omega) only [wr_id, mf1, hs, mf2]; done)))))
          exact wm_r (hno e K k1 k2)
        | true =>
          rw [e, if_pos rfl] at mf2
          (repeat (first | (with_reducible apply wm_o; focus (simp (disch := omega) only [wr_id, Int.toNat_natCast, Int.reduceToNat, tn_lk, tn_kl, if_pos, if_neg, ↓reduceIte, and_self, and_true, true_and, mf1, hs, mf2]; with_reducible rfl)) | (with_reducible apply wm_q) | (with_reducible apply wm_c; focus (first | assumption | decide +kernel)) | (with_reducible apply wm_d; focus (simp (disch := omega) only [wr_id, Int.toNat_natCast, Int.reduceToNat, tn_lk, tn_kl, if_pos, if_neg, ↓reduceIte, and_self, and_true, true_and, mf1, hs, mf2]; with_reducible rfl)) | (with_reducible apply wm_t; focus (first | omega | (simp (disch := omega) only [wr_id, mf1, hs, mf2]; omega) | (simp (disch := omega) only [wr_id, mf1, hs, mf2]; done))) | (with_reducible apply wm_f; focus (first | omega | (simp (disch := omega) only [wr_id, mf1, hs, mf2]; omega) | (simp (disch := omega) only [wr_id, mf1, hs, mf2]; done)))))
          exact hyes e K k1 k2 k3 k4
      -- both, once the other cell is known
      have fin : ∀ (c2 : Nat) (f : Int), ((f = 1 ∧ y = 0) ∨ (f = 0 ∧ y = 1)) → c2 < n → ((y = 0 ∧ c2 = c + 1 ∧ c % w + 1 < w) ∨ (y = 1 ∧ c2 = c + w)) → frB w n hl ρ (c2 : Int) = true → (∀ K : Nat → Nat → Int, cfM K lv w h n nh hl sd ifs xs → f_X12_secondCell 369 (c : Int) y (mm t d rt K) = some ((c2 : Int), mm t d rt K)) → wm t d rt (jbd (f_X1_keepForUndo 46 34 (mm t d rt I)) fun _ M11 =>
          (jm_gR 11 4 M11 0).bind fun r12 =>
          jcall 6 M11 r12 (f_X6_put r12 (k : Int) (c : Int) f M11) fun _ M14 =>
          (jm_gR 11 4 M14 0).bind fun r15 =>
          (jm_gI 6 8 M14 r15).bind fun v16 =>
          (jm_gR 11 2 M14 0).bind fun r17 =>
          (jm_gR 8 12 M14 r17).bind fun r18 =>
          (jm_gR 11 4 M14 0).bind fun r19 =>
          (jm_gR 11 2 M14 0).bind fun r20 =>
          (jm_gI 8 3 M14 r20).bind fun v21 =>
          jcall 2 M14 r18 (f_X2_held r18 2 r19 (k : Int) v21 M14) fun v22 M23 =>
          (jm_pI 6 8 M23 r15 (v16 + v22)).bind fun M24 =>
          some ((k : Int), M24)) (fun r J => wm t d rt (f_X12_lay 369 (c : Int) y (mm t d rt J)) (fun r' K => jd_wr r = jd_wr r' ∧ INV t d rt K)) := by
        intro c2 f hf hc2 hway hfr2 hsec
        obtain ⟨p1, p2⟩ := frB_t hfr2
        obtain ⟨p3, p4, p5⟩ := opB_t p1
        have hok := rOK_put hw hn hnw hC.1 l2 hcn hc2 hway (by rw [Int.toNat_natCast] at g3; exact g3) (by rw [Int.toNat_natCast] at p5; exact p5) f2 p2
        refine wm_w (c_lay sq hcf hC l2 l3 hf hok) (fun r J hJ => ?_)
        obtain ⟨rfl, j1, j2⟩ := hJ
        have hRJ := REST_c j1 hR
        have hMJ := stM_c j1 hM
        refine mod J (c2 : Int) _ hRJ hMJ (i32 (by omega) (by omega)) hsec (fun q => by rw [hfr2] at q; cases q) (fun _ K k1 k2 k3 k4 => ?_)
        refine wm_w (m_lay k3 hn hC.1 (stM_q k1 hMJ) k2 k4 l2 l3 l4 hok) (fun r' L hL => ?_)
        obtain ⟨rfl, e1, e2, v, e3, e4⟩ := hL
        exact ⟨rfl, INV_s hR j1 (frM_trans (frM_sub k1 (fun a ha => Or.inl ha) (fun a ha => Or.inl ha)) e1) e2 (j2 v e3) e4⟩
      have no : ∀ (v : Int), in32 v → frB w n hl ρ v = false → (∀ K : Nat → Nat → Int, cfM K lv w h n nh hl sd ifs xs → f_X12_secondCell 369 (c : Int) y (mm t d rt K) = some (v, mm t d rt K)) → wm t d rt (f_X12_lay 369 (c : Int) y (mm t d rt I)) (fun r' K => jd_wr (-1) = jd_wr r' ∧ INV t d rt K) := fun v hv32 hfr hsec =>
        mod I v _ hR hM hv32 hsec (fun _ K k1 k2 => ⟨rfl, INV_q hR hC hM (frm_refl _ _) k1 k2⟩) (fun q => by rw [hfr] at q; cases q)
      have fm1 : frB w n hl ρ (-1) = false := by unfold frB opB; simp
      have hy2 : y = 0 ∨ y = 1 := by omega
      unfold both f_X11_lay
      rcases hy2 with rfl | rfl
      · have hri := q_hasRight (d := d) (rt := rt) sq hcf hcn
        by_cases z : c % w + 1 < w
        · rw [if_pos z] at hri
          have hc1 := hr_of (by omega) hnw c z hcn
          have hq2 := q_isFree (d := d) (rt := rt) (x := (c : Int) + 1) sq hcf hC.2.1 (i32 (by omega) (by omega))
          have e1 : (c : Int) + 1 = ((c + 1 : Nat) : Int) := by omega
          have hsec : ∀ K : Nat → Nat → Int, cfM K lv w h n nh hl sd ifs xs → f_X12_secondCell 369 (c : Int) 0 (mm t d rt K) = some (((c + 1 : Nat) : Int), mm t d rt K) := fun K hK => by
            rw [s_second0 hK.1 hcn, if_pos z]
          cases e : frB w n hl ρ ((c : Int) + 1) with
          | false =>
            rw [e, if_neg (by decide)] at hq2
            (repeat (first | (with_reducible apply wm_o; focus (simp (disch := omega) only [wr_id, Int.toNat_natCast, Int.reduceToNat, tn_lk, tn_kl, if_pos, if_neg, ↓reduceIte, and_self, and_true, true_and, FX, hq, hri, hlc', hq2]; with_reducible rfl)) | (with_reducible apply wm_q) | (with_reducible apply wm_c; focus (first | assumption | decide +kernel)) | (with_reducible apply wm_d; focus (simp (disch := omega) only [wr_id, Int.toNat_natCast, Int.reduceToNat, tn_lk, tn_kl, if_pos, if_neg, ↓reduceIte, and_self, and_true, true_and, FX, hq, hri, hlc', hq2]; with_reducible rfl)) | (with_reducible apply wm_t; focus (first | omega | (simp (disch := omega) only [wr_id, FX, hq, hri, hlc', hq2]; omega) | (simp (disch := omega) only [wr_id, FX, hq, hri, hlc', hq2]; done))) | (with_reducible apply wm_f; focus (first | omega | (simp (disch := omega) only [wr_id, FX, hq, hri, hlc', hq2]; omega) | (simp (disch := omega) only [wr_id, FX, hq, hri, hlc', hq2]; done)))))
            exact wm_r (no _ (i32 (by omega) (by omega)) (by rw [← e1]; exact e) hsec)
          | true =>
            rw [e, if_pos rfl] at hq2
            (repeat (first | (with_reducible apply wm_o; focus (simp (disch := omega) only [wr_id, Int.toNat_natCast, Int.reduceToNat, tn_lk, tn_kl, if_pos, if_neg, ↓reduceIte, and_self, and_true, true_and, FX, hq, hri, hlc', hq2]; with_reducible rfl)) | (with_reducible apply wm_q) | (with_reducible apply wm_c; focus (first | assumption | decide +kernel)) | (with_reducible apply wm_d; focus (simp (disch := omega) only [wr_id, Int.toNat_natCast, Int.reduceToNat, tn_lk, tn_kl, if_pos, if_neg, ↓reduceIte, and_self, and_true, true_and, FX, hq, hri, hlc', hq2]; with_reducible rfl)) | (with_reducible apply wm_t; focus (first | omega | (simp (disch := omega) only [wr_id, FX, hq, hri, hlc', hq2]; omega) | (simp (disch := omega) only [wr_id, FX, hq, hri, hlc', hq2]; done))) | (with_reducible apply wm_f; focus (first | omega | (simp (disch := omega) only [wr_id, FX, hq, hri, hlc', hq2]; omega) | (simp (disch := omega) only [wr_id, FX, hq, hri, hlc', hq2]; done)))))
            exact fin (c + 1) 1 (Or.inl ⟨rfl, rfl⟩) hc1 (Or.inl ⟨rfl, rfl, z⟩) (by rw [← e1]; exact e) hsec
        · rw [if_neg z] at hri
          (repeat (first | (with_reducible apply wm_o; focus (simp (disch := omega) only [wr_id, Int.toNat_natCast, Int.reduceToNat, tn_lk, tn_kl, if_pos, if_neg, ↓reduceIte, and_self, and_true, true_and, FX, hq, hri]; with_reducible rfl)) | (with_reducible apply wm_q) | (with_reducible apply wm_c; focus (first | assumption | decide +kernel)) | (with_reducible apply wm_d; focus (simp (disch := omega) only [wr_id, Int.toNat_natCast, Int.reduceToNat, tn_lk, tn_kl, if_pos, if_neg, ↓reduceIte, and_self, and_true, true_and, FX, hq, hri]; with_reducible rfl)) | (with_reducible apply wm_t; focus (first | omega | (simp (disch := omega) only [wr_id, FX, hq, hri]; omega) | (simp (disch := omega) only [wr_id, FX, hq, hri]; done))) | (with_reducible apply wm_f; focus (first | omega | (simp (disch := omega) only [wr_id, FX, hq, hri]; omega) | (simp (disch := omega) only [wr_id, FX, hq, hri]; done)))))
          exact wm_r (no (-1) (i32 (by omega) (by omega)) fm1 (fun K hK => by rw [s_second0 hK.1 hcn, if_neg z]))
      · have hbe := q_hasBelow (d := d) (rt := rt) sq hcf hcn
        by_cases z : c + w < n
        · rw [if_pos z] at hbe
          have hq2 := q_isFree (d := d) (rt := rt) (x := (c : Int) + (w : Int)) sq hcf hC.2.1 (i32 (by omega) (by omega))
          have e1 : (c : Int) + (w : Int) = ((c + w : Nat) : Int) := by omega
          have c20 := hcf.2.1
          have hsec : ∀ K : Nat → Nat → Int, cfM K lv w h n nh hl sd ifs xs → f_X12_secondCell 369 (c : Int) 1 (mm t d rt K) = some (((c + w : Nat) : Int), mm t d rt K) := fun K hK => by
            rw [s_second1 hK.1 hcn, if_pos z]
          cases e : frB w n hl ρ ((c : Int) + (w : Int)) with
          | false =>
            rw [e, if_neg (by decide)] at hq2
            (repeat (first | (with_reducible apply wm_o; focus (simp (disch := omega) only [wr_id, Int.toNat_natCast, Int.reduceToNat, tn_lk, tn_kl, if_pos, if_neg, ↓reduceIte, and_self, and_true, true_and, FX, hq, hbe, hlc', FText htx, c20, hq2]; with_reducible rfl)) | (with_reducible apply wm_q) | (with_reducible apply wm_c; focus (first | assumption | decide +kernel)) | (with_reducible apply wm_d; focus (simp (disch := omega) only [wr_id, Int.toNat_natCast, Int.reduceToNat, tn_lk, tn_kl, if_pos, if_neg, ↓reduceIte, and_self, and_true, true_and, FX, hq, hbe, hlc', FText htx, c20, hq2]; with_reducible rfl)) | (with_reducible apply wm_t; focus (first | omega | (simp (disch := omega) only [wr_id, FX, hq, hbe, hlc', FText htx, c20, hq2]; omega) | (simp (disch := omega) only [wr_id, FX, hq, hbe, hlc', FText htx, c20, hq2]; done))) | (with_reducible apply wm_f; focus (first | omega | (simp (disch := omega) only [wr_id, FX, hq, hbe, hlc', FText htx, c20, hq2]; omega) | (simp (disch := omega) only [wr_id, FX, hq, hbe, hlc', FText htx, c20, hq2]; done)))))
            exact wm_r (no _ (i32 (by omega) (by omega)) (by rw [← e1]; exact e) hsec)
          | true =>
            rw [e, if_pos rfl] at hq2
            (repeat (first | (with_reducible apply wm_o; focus (simp (disch := omega) only [wr_id, Int.toNat_natCast, Int.reduceToNat, tn_lk, tn_kl, if_pos, if_neg, ↓reduceIte, and_self, and_true, true_and, FX, hq, hbe, hlc', FText htx, c20, hq2]; with_reducible rfl)) | (with_reducible apply wm_q) | (with_reducible apply wm_c; focus (first | assumption | decide +kernel)) | (with_reducible apply wm_d; focus (simp (disch := omega) only [wr_id, Int.toNat_natCast, Int.reduceToNat, tn_lk, tn_kl, if_pos, if_neg, ↓reduceIte, and_self, and_true, true_and, FX, hq, hbe, hlc', FText htx, c20, hq2]; with_reducible rfl)) | (with_reducible apply wm_t; focus (first | omega | (simp (disch := omega) only [wr_id, FX, hq, hbe, hlc', FText htx, c20, hq2]; omega) | (simp (disch := omega) only [wr_id, FX, hq, hbe, hlc', FText htx, c20, hq2]; done))) | (with_reducible apply wm_f; focus (first | omega | (simp (disch := omega) only [wr_id, FX, hq, hbe, hlc', FText htx, c20, hq2]; omega) | (simp (disch := omega) only [wr_id, FX, hq, hbe, hlc', FText htx, c20, hq2]; done)))))
            exact fin (c + w) 0 (Or.inr ⟨rfl, rfl⟩) z (Or.inr ⟨rfl, rfl⟩) (by rw [← e1]; exact e) hsec
        · rw [if_neg z] at hbe
          (repeat (first | (with_reducible apply wm_o; focus (simp (disch := omega) only [wr_id, Int.toNat_natCast, Int.reduceToNat, tn_lk, tn_kl, if_pos, if_neg, ↓reduceIte, and_self, and_true, true_and, FX, hq, hbe]; with_reducible rfl)) | (with_reducible apply wm_q) | (with_reducible apply wm_c; focus (first | assumption | decide +kernel)) | (with_reducible apply wm_d; focus (simp (disch := omega) only [wr_id, Int.toNat_natCast, Int.reduceToNat, tn_lk, tn_kl, if_pos, if_neg, ↓reduceIte, and_self, and_true, true_and, FX, hq, hbe]; with_reducible rfl)) | (with_reducible apply wm_t; focus (first | omega | (simp (disch := omega) only [wr_id, FX, hq, hbe]; omega) | (simp (disch := omega) only [wr_id, FX, hq, hbe]; done))) | (with_reducible apply wm_f; focus (first | omega | (simp (disch := omega) only [wr_id, FX, hq, hbe]; omega) | (simp (disch := omega) only [wr_id, FX, hq, hbe]; done)))))
          exact wm_r (no (-1) (i32 (by omega) (by omega)) fm1 (fun K hK => by rw [s_second1 hK.1 hcn, if_neg z]))
    · rw [if_neg zf] at hq
      have mod : wm t d rt (f_X12_lay 369 x y (mm t d rt I)) (fun r' K => jd_wr (-1) = jd_wr r' ∧ INV t d rt K) := by
        unfold f_X12_lay
        by_cases z : 0 ≤ x ∧ x < n
        · have hic := s_isCell_t (t := t) (d := d) (rt := rt) hmf.1 z.1 z.2
          (repeat (first | (with_reducible apply wm_o; focus (simp (disch := omega) only [wr_id, Int.toNat_natCast, Int.reduceToNat, tn_lk, tn_kl, if_pos, if_neg, ↓reduceIte, and_self, and_true, true_and, hic, in2]; with_reducible rfl)) | (with_reducible apply wm_q) | (with_reducible apply wm_c; focus (first | assumption | decide +kernel)) | (with_reducible apply wm_d; focus (simp (disch := omega) only [wr_id, Int.toNat_natCast, Int.reduceToNat, tn_lk, tn_kl, if_pos, if_neg, ↓reduceIte, and_self, and_true, true_and, hic, in2]; with_reducible rfl)) | (with_reducible apply wm_t; focus (first | omega | (simp (disch := omega) only [wr_id, hic, in2]; omega) | (simp (disch := omega) only [wr_id, hic, in2]; done))) | (with_reducible apply wm_f; focus (first | omega | (simp (disch := omega) only [wr_id, hic, in2]; omega) | (simp (disch := omega) only [wr_id, hic, in2]; done)))))
          refine wm_b (m_cop hmf hz hM.1 hM.2.1) (fun v' K hK => ?_)
          obtain ⟨k1, k2, k3, k4, k5⟩ := hK
          have mf1 := m_isFree (t := t) (d := d) (rt := rt) k3.1 k3.2.2.2.1 (by rw [k4]; exact hv) hx
          rw [k4, if_neg zf] at mf1
          (repeat (first | (with_reducible apply wm_o; focus (simp (disch := omega) only [wr_id, Int.toNat_natCast, Int.reduceToNat, tn_lk, tn_kl, if_pos, if_neg, ↓reduceIte, and_self, and_true, true_and, mf1]; with_reducible rfl)) | (with_reducible apply wm_q) | (with_reducible apply wm_c; focus (first | assumption | decide +kernel)) | (with_reducible apply wm_d; focus (simp (disch := omega) only [wr_id, Int.toNat_natCast, Int.reduceToNat, tn_lk, tn_kl, if_pos, if_neg, ↓reduceIte, and_self, and_true, true_and, mf1]; with_reducible rfl)) | (with_reducible apply wm_t; focus (first | omega | (simp (disch := omega) only [wr_id, mf1]; omega) | (simp (disch := omega) only [wr_id, mf1]; done))) | (with_reducible apply wm_f; focus (first | omega | (simp (disch := omega) only [wr_id, mf1]; omega) | (simp (disch := omega) only [wr_id, mf1]; done)))))
          exact wm_r ⟨rfl, INV_q hR hC hM (frm_refl _ _) k1 k2⟩
        · have hic := s_isCell_f (t := t) (d := d) (rt := rt) hmf.1 hx (by omega)
          (repeat (first | (with_reducible apply wm_o; focus (simp (disch := omega) only [wr_id, Int.toNat_natCast, Int.reduceToNat, tn_lk, tn_kl, if_pos, if_neg, ↓reduceIte, and_self, and_true, true_and, hic]; with_reducible rfl)) | (with_reducible apply wm_q) | (with_reducible apply wm_c; focus (first | assumption | decide +kernel)) | (with_reducible apply wm_d; focus (simp (disch := omega) only [wr_id, Int.toNat_natCast, Int.reduceToNat, tn_lk, tn_kl, if_pos, if_neg, ↓reduceIte, and_self, and_true, true_and, hic]; with_reducible rfl)) | (with_reducible apply wm_t; focus (first | omega | (simp (disch := omega) only [wr_id, hic]; omega) | (simp (disch := omega) only [wr_id, hic]; done))) | (with_reducible apply wm_f; focus (first | omega | (simp (disch := omega) only [wr_id, hic]; omega) | (simp (disch := omega) only [wr_id, hic]; done)))))
          exact wm_r ⟨rfl, hI'⟩
      unfold both f_X11_lay
      have hy2 : y = 0 ∨ y = 1 := by omega
      rcases hy2 with rfl | rfl
      · (repeat (first | (with_reducible apply wm_o; focus (simp (disch := omega) only [wr_id, Int.toNat_natCast, Int.reduceToNat, tn_lk, tn_kl, if_pos, if_neg, ↓reduceIte, and_self, and_true, true_and, hq]; with_reducible rfl)) | (with_reducible apply wm_q) | (with_reducible apply wm_c; focus (first | assumption | decide +kernel)) | (with_reducible apply wm_d; focus (simp (disch := omega) only [wr_id, Int.toNat_natCast, Int.reduceToNat, tn_lk, tn_kl, if_pos, if_neg, ↓reduceIte, and_self, and_true, true_and, hq]; with_reducible rfl)) | (with_reducible apply wm_t; focus (first | omega | (simp (disch := omega) only [wr_id, hq]; omega) | (simp (disch := omega) only [wr_id, hq]; done))) | (with_reducible apply wm_f; focus (first | omega | (simp (disch := omega) only [wr_id, hq]; omega) | (simp (disch := omega) only [wr_id, hq]; done)))))
        exact wm_r mod
      · (repeat (first | (with_reducible apply wm_o; focus (simp (disch := omega) only [wr_id, Int.toNat_natCast, Int.reduceToNat, tn_lk, tn_kl, if_pos, if_neg, ↓reduceIte, and_self, and_true, true_and, hq]; with_reducible rfl)) | (with_reducible apply wm_q) | (with_reducible apply wm_c; focus (first | assumption | decide +kernel)) | (with_reducible apply wm_d; focus (simp (disch := omega) only [wr_id, Int.toNat_natCast, Int.reduceToNat, tn_lk, tn_kl, if_pos, if_neg, ↓reduceIte, and_self, and_true, true_and, hq]; with_reducible rfl)) | (with_reducible apply wm_t; focus (first | omega | (simp (disch := omega) only [wr_id, hq]; omega) | (simp (disch := omega) only [wr_id, hq]; done))) | (with_reducible apply wm_f; focus (first | omega | (simp (disch := omega) only [wr_id, hq]; omega) | (simp (disch := omega) only [wr_id, hq]; done)))))
        exact wm_r mod
  · have in2 := fun (M : jMem) => m_in_f (a := 0) (b := 1) (M := M) hy (i32 (by omega) (by omega)) (i32 (by omega) (by omega)) zy
    unfold both f_X11_lay
    (repeat (first | (with_reducible apply wm_o; focus (simp (disch := omega) only [wr_id, Int.toNat_natCast, Int.reduceToNat, tn_lk, tn_kl, if_pos, if_neg, ↓reduceIte, and_self, and_true, true_and]; with_reducible rfl)) | (with_reducible apply wm_q) | (with_reducible apply wm_c; focus (first | assumption | decide +kernel)) | (with_reducible apply wm_d; focus (simp (disch := omega) only [wr_id, Int.toNat_natCast, Int.reduceToNat, tn_lk, tn_kl, if_pos, if_neg, ↓reduceIte, and_self, and_true, true_and]; with_reducible rfl)) | (with_reducible apply wm_t; focus (first | omega | (simp (disch := omega) only [wr_id]; omega) | (simp (disch := omega) only [wr_id]; done))) | (with_reducible apply wm_f; focus (first | omega | (simp (disch := omega) only [wr_id]; omega) | (simp (disch := omega) only [wr_id]; done)))))
    refine wm_r ?_
    show wm t d rt (f_X12_lay 369 x y (mm t d rt I)) _
    unfold f_X12_lay
    by_cases z : 0 ≤ x ∧ x < n
    · have hic := s_isCell_t (t := t) (d := d) (rt := rt) hmf.1 z.1 z.2
      (repeat (first | (with_reducible apply wm_o; focus (simp (disch := omega) only [wr_id, Int.toNat_natCast, Int.reduceToNat, tn_lk, tn_kl, if_pos, if_neg, ↓reduceIte, and_self, and_true, true_and, hic, in2]; with_reducible rfl)) | (with_reducible apply wm_q) | (with_reducible apply wm_c; focus (first | assumption | decide +kernel)) | (with_reducible apply wm_d; focus (simp (disch := omega) only [wr_id, Int.toNat_natCast, Int.reduceToNat, tn_lk, tn_kl, if_pos, if_neg, ↓reduceIte, and_self, and_true, true_and, hic, in2]; with_reducible rfl)) | (with_reducible apply wm_t; focus (first | omega | (simp (disch := omega) only [wr_id, hic, in2]; omega) | (simp (disch := omega) only [wr_id, hic, in2]; done))) | (with_reducible apply wm_f; focus (first | omega | (simp (disch := omega) only [wr_id, hic, in2]; omega) | (simp (disch := omega) only [wr_id, hic, in2]; done)))))
      exact wm_r ⟨rfl, hI'⟩
    · have hic := s_isCell_f (t := t) (d := d) (rt := rt) hmf.1 hx (by omega)
      (repeat (first | (with_reducible apply wm_o; focus (simp (disch := omega) only [wr_id, Int.toNat_natCast, Int.reduceToNat, tn_lk, tn_kl, if_pos, if_neg, ↓reduceIte, and_self, and_true, true_and, hic, in2]; with_reducible rfl)) | (with_reducible apply wm_q) | (with_reducible apply wm_c; focus (first | assumption | decide +kernel)) | (with_reducible apply wm_d; focus (simp (disch := omega) only [wr_id, Int.toNat_natCast, Int.reduceToNat, tn_lk, tn_kl, if_pos, if_neg, ↓reduceIte, and_self, and_true, true_and, hic, in2]; with_reducible rfl)) | (with_reducible apply wm_t; focus (first | omega | (simp (disch := omega) only [wr_id, hic, in2]; omega) | (simp (disch := omega) only [wr_id, hic, in2]; done))) | (with_reducible apply wm_f; focus (first | omega | (simp (disch := omega) only [wr_id, hic, in2]; omega) | (simp (disch := omega) only [wr_id, hic, in2]; done)))))
      exact wm_r ⟨rfl, hI'⟩
end PZ
