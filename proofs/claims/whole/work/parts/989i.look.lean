/-! ===== calls: look ===== -/
def lkA : Option (Nat × Int) → Int
  | none => -2
  | some (b, _) => (b : Int)
def lkB (d : Int) : Option (Nat × Int) → Int
  | none => d
  | some (_, v) => v
section LK
variable {t d rt : Nat} {I J K : Nat → Nat → Int} {lv w h n nh r : Nat} {hl cl na nd U : Nat → Bool} {sd : Int} {ifs : Nat → List LwI} {xs : Nat → List CI} {ρ : Nat → Int} {u : Nat} {H : Nat → Nat → Int} {hd : Nat → Bool} {G : Nat → Nat → Int} {A B : Nat → Int}
theorem td_ok {td k : Nat} (hk : k ≤ td) (hn : n ≤ 36) (ht : ∀ i, i < td → I 309 i = I 414 i ∧ I 310 i = I 415 i ∧ (I 310 i = 0 ∨ I 310 i = 1) ∧ opB n hl (I 309 i) = true) : tdOK n hl (I 309) (I 310) k := fun i hi => by
  obtain ⟨h1, h2, h3, h4⟩ := ht i (by omega)
  obtain ⟨a1, a2, a3⟩ := opB_t h4
  exact ⟨h3, (I 309 i).toNat, by omega, by omega, a3⟩
/-- how many lie across on c -/
def fcF (w n : Nat) (na nd U : Nat → Bool) (c : Nat) : Nat := acC w n na nd U c + (if c % w = 0 then 0 else acC w n na nd U (c - 1))
theorem fc_np (hw : 1 < w) {c : Nat} (hc : c < n) (hU : U c = false) : Np w n na (clAdd nd c) n 0 U = fcF w n na nd U c ∧ fcF w n na nd U c ≤ Np w n na nd n 0 U := by
  have h1 := four_C (w := w) (n := n) (na := na) (nd := nd) (cl := U) hw hc hU
  have h2 := not_down (w := w) (n := n) (na := na) (nd := nd) (k := n) (U := U) hU hc hw
  have e : clAdd nd c = fun y => nd y || y == c := clAdd_cov nd c
  rw [e]
  unfold fcF
  have h3 : (Lp w n na nd n 0 U).countP (fun p => wyP 0 p c == 1) = dnC w n na nd U c := rfl
  rw [h3] at h2
  by_cases z : c < w
  · rw [if_pos z] at h1 h2
    omega
  · rw [if_neg z] at h1 h2
    have h4 : (Lp w n na nd n 0 U).countP (fun p => wyP 0 p (c - w) == 1) = dnC w n na nd U (c - w) := rfl
    rw [h4] at h2
    omega
theorem P_look (hI : INV t d rt I) {x : Int} (hx : in32 x) : both t d rt (f_X11_look 0 x (mm t d rt I)) (fun M => f_X12_look 369 x M) := by
  have hI' := hI
  obtain ⟨lv, w, h, n, nh, hl, sd, ifs, xs, hR, ρ, u, H, hd, G, hC, hM⟩ := hI
  have sq := hR.2.1
  have hcf := hR.2.2.1
  have hmf := hR.2.2.2.1
  have hz := hR.2.2.2.2.2.2.2.2.2
  have kt := (tx_k hcf.1).1
  have kb := (tx_k hcf.1).2.2.2
  have hnw := sq.2.2.2.2.1
  have hn := sq.2.2.2.2.2.2.1
  have hw : 2 ≤ w ∧ w ≤ 6 := ⟨sq.1, sq.2.1⟩
  have ex := wr_in hx
  obtain ⟨td, t1, t2, t3, t4⟩ := hR.2.2.2.2.1
  have hx' := hx
  unfold in32 at hx'
  unfold both f_X11_look
  by_cases z : 0 ≤ x ∧ x ≤ td
  · obtain ⟨k, rfl⟩ : ∃ k : Nat, x = (k : Int) := ⟨x.toNat, by omega⟩
    have hT := td_ok (I := I) (k := k) (by omega) hn t4
    have in1 := fun (M : jMem) => m_in_t (a := 0) (b := (td : Int)) (M := M) hx (i32 (by omega) (by omega)) (i32 (by omega) (by omega)) z
    (repeat (first | (with_reducible apply wm_o; focus (simp (disch := omega) only [wr_id, Int.toNat_natCast, Int.reduceToNat, tn_lk, tn_kl, if_pos, if_neg, ↓reduceIte, and_self, and_true, true_and, FX, FTold, t2]; with_reducible rfl)) | (with_reducible apply wm_q) | (with_reducible apply wm_c; focus (first | assumption | decide +kernel)) | (with_reducible apply wm_d; focus (simp (disch := omega) only [wr_id, Int.toNat_natCast, Int.reduceToNat, tn_lk, tn_kl, if_pos, if_neg, ↓reduceIte, and_self, and_true, true_and, FX, FTold, t2]; with_reducible rfl)) | (with_reducible apply wm_t; focus (first | omega | (simp (disch := omega) only [wr_id, FX, FTold, t2]; omega) | (simp (disch := omega) only [wr_id, FX, FTold, t2]; done))) | (with_reducible apply wm_f; focus (first | omega | (simp (disch := omega) only [wr_id, FX, FTold, t2]; omega) | (simp (disch := omega) only [wr_id, FX, FTold, t2]; done)))))
    refine wm_b (c_countKnown (A := I 309) (B := I 310) sq hcf hR.2.2.2.2.2.2.2.1.2.2 (show k ≤ td by omega) t1 t2 (fun i _ => ⟨rfl, rfl⟩) hT) (fun v J hJ => ?_)
    obtain ⟨j1, j2, j3⟩ := hJ
    have hcl := td_cl (v := 0) hT
    have ht := c_tot (t := t) (d := d) (rt := rt) so_in j2 j3 hcl hnw
    have hTb := Np_b (na := tdN (I 309) (I 310) 0 k) (nd := tdN (I 309) (I 310) 1 k) (cl := hl) (show 0 < w by omega) hnw hn
    have fcn := fun c (hc : c < n) (hU : hl c = false) => fc_np (w := w) (n := n) (na := tdN (I 309) (I 310) 0 k) (nd := tdN (I 309) (I 310) 1 k) (U := hl) (show 1 < w by omega) hc hU
    -- the model behind what it counts first
    have mod : ∀ (J : Nat → Nat → Int) (Q : Int → (Nat → Nat → Int) → Prop) (g : Int → jMem → Option (Int × jMem)), frm scrC I J → (∀ K, frM scrM scrF J K → zM K → cfM K lv w h n nh hl sd ifs xs → wm t d rt (g (Np w n (tdN (I 309) (I 310) 0 k) (tdN (I 309) (I 310) 1 k) n 0 hl : Int) (mm t d rt K)) Q) → wm t d rt (jbd (f_X12_countsTold 369 (k : Int) (mm t d rt J)) g) Q := by
      intro J Q g jC hg
      have jS : frm (fun a => scrC a ∨ stS a) I J := frm_sub jC (fun a ha => Or.inl ha)
      have hRJ := REST_c jS hR
      refine wm_b (m_countsTold (A := I 309) (B := I 310) hRJ.2.2.2.1 (show k ≤ 20 by omega) (fun i hi => ?_) hT) (fun v L hL => ?_)
      · rw [jC 414 (by unfold scrC; omega), jC 415 (by unfold scrC; omega)]
        exact ⟨(t4 i (by omega)).1.symm, (t4 i (by omega)).2.1.symm⟩
      · obtain ⟨rfl, l1, l2, l3, l4, l5⟩ := hL
        have hzJ := hRJ.2.2.2.2.2.2.2.2.2
        refine hg L (frM_f l1 (fun a ha => by unfold scrM; omega)) ⟨?_, flg_b01 l3, flg_b01 l4⟩ (cfM_frm l1 (fun a _ _ _ _ _ _ _ _ => by omega) (fun q => q) hRJ.2.2.2.1)
        rw [l1.1 401 (by decide) (by omega)]; exact hzJ.1
    have jC : frm scrC I J := frm_sub j1 (fun a ha => scr_r ha)
    have m63 : ∀ J, frm scrC I J → J 369 63 = (td : Int) := fun J jC => by rw [jC 369 (by unfold scrC; omega)]; exact t3
    generalize hTT : Np w n (tdN (I 309) (I 310) 0 k) (tdN (I 309) (I 310) 1 k) n 0 hl = T at *
    by_cases zT : T = 0
    · subst zT
      (repeat (first | (with_reducible apply wm_o; focus (simp (disch := omega) only [wr_id, Int.toNat_natCast, Int.reduceToNat, tn_lk, tn_kl, if_pos, if_neg, ↓reduceIte, and_self, and_true, true_and, FX, ht]; with_reducible rfl)) | (with_reducible apply wm_q) | (with_reducible apply wm_c; focus (first | assumption | decide +kernel)) | (with_reducible apply wm_d; focus (simp (disch := omega) only [wr_id, Int.toNat_natCast, Int.reduceToNat, tn_lk, tn_kl, if_pos, if_neg, ↓reduceIte, and_self, and_true, true_and, FX, ht]; with_reducible rfl)) | (with_reducible apply wm_t; focus (first | omega | (simp (disch := omega) only [wr_id, FX, ht]; omega) | (simp (disch := omega) only [wr_id, FX, ht]; done))) | (with_reducible apply wm_f; focus (first | omega | (simp (disch := omega) only [wr_id, FX, ht]; omega) | (simp (disch := omega) only [wr_id, FX, ht]; done)))))
      refine wm_r ?_
      show wm t d rt (f_X12_look 369 (k : Int) (mm t d rt J)) _
      have e63 := m63 J jC
      unfold f_X12_look
      (repeat (first | (with_reducible apply wm_o; focus (simp (disch := omega) only [wr_id, Int.toNat_natCast, Int.reduceToNat, tn_lk, tn_kl, if_pos, if_neg, ↓reduceIte, and_self, and_true, true_and, FM, e63, in1]; with_reducible rfl)) | (with_reducible apply wm_q) | (with_reducible apply wm_c; focus (first | assumption | decide +kernel)) | (with_reducible apply wm_d; focus (simp (disch := omega) only [wr_id, Int.toNat_natCast, Int.reduceToNat, tn_lk, tn_kl, if_pos, if_neg, ↓reduceIte, and_self, and_true, true_and, FM, e63, in1]; with_reducible rfl)) | (with_reducible apply wm_t; focus (first | omega | (simp (disch := omega) only [wr_id, FM, e63, in1]; omega) | (simp (disch := omega) only [wr_id, FM, e63, in1]; done))) | (with_reducible apply wm_f; focus (first | omega | (simp (disch := omega) only [wr_id, FM, e63, in1]; omega) | (simp (disch := omega) only [wr_id, FM, e63, in1]; done)))))
      refine mod J _ _ jC (fun K k1 k2 k3 => ?_)
      refine wm_lp4 0 (fun i a b y L => a = -2 ∧ y = 0 ∧ L = K) ?_ (jfuel_n (by decide)) ⟨rfl, rfl, rfl⟩
      rintro i hi a b y L ⟨rfl, rfl, rfl⟩ rec hrec
      have hce := s_cells (t := t) (d := d) (rt := rt) k3.1
      have h4 : 4 ≤ n := sq.2.2.2.2.2.1
      (repeat (first | (with_reducible apply wm_o; focus (simp (disch := omega) only [wr_id, Int.toNat_natCast, Int.reduceToNat, tn_lk, tn_kl, if_pos, if_neg, ↓reduceIte, and_self, and_true, true_and, hce]; with_reducible rfl)) | (with_reducible apply wm_q) | (with_reducible apply wm_c; focus (first | assumption | decide +kernel)) | (with_reducible apply wm_d; focus (simp (disch := omega) only [wr_id, Int.toNat_natCast, Int.reduceToNat, tn_lk, tn_kl, if_pos, if_neg, ↓reduceIte, and_self, and_true, true_and, hce]; with_reducible rfl)) | (with_reducible apply wm_t; focus (first | omega | (simp (disch := omega) only [wr_id, hce]; omega) | (simp (disch := omega) only [wr_id, hce]; done))) | (with_reducible apply wm_f; focus (first | omega | (simp (disch := omega) only [wr_id, hce]; omega) | (simp (disch := omega) only [wr_id, hce]; done)))))
      exact wm_r ⟨rfl, INV_q hR hC hM jC k1 k2⟩
    · (repeat (first | (with_reducible apply wm_o; focus (simp (disch := omega) only [wr_id, Int.toNat_natCast, Int.reduceToNat, tn_lk, tn_kl, if_pos, if_neg, ↓reduceIte, and_self, and_true, true_and, FX, ht]; with_reducible rfl)) | (with_reducible apply wm_q) | (with_reducible apply wm_c; focus (first | assumption | decide +kernel)) | (with_reducible apply wm_d; focus (simp (disch := omega) only [wr_id, Int.toNat_natCast, Int.reduceToNat, tn_lk, tn_kl, if_pos, if_neg, ↓reduceIte, and_self, and_true, true_and, FX, ht]; with_reducible rfl)) | (with_reducible apply wm_t; focus (first | omega | (simp (disch := omega) only [wr_id, FX, ht]; omega) | (simp (disch := omega) only [wr_id, FX, ht]; done))) | (with_reducible apply wm_f; focus (first | omega | (simp (disch := omega) only [wr_id, FX, ht]; omega) | (simp (disch := omega) only [wr_id, FX, ht]; done)))))
      refine wm_b (w_share j2 j3 hcl hnw) (fun v2 J2 hJ2 => ?_)
      obtain ⟨q1, q2⟩ := hJ2
      have jC2 : frm scrC I J2 := frm_trans jC (frm_sub q1 (fun a ha => by unfold scrC; omega))
      have cJ2 := cfC_frm jC2 (fun a a1 a2 => by have := hcf.1; simp at this; unfold scrC; omega) hcf
      obtain ⟨f, hf⟩ : ∃ f : Nat → Int, f = fun c => max (fcF w n (tdN (I 309) (I 310) 0 k) (tdN (I 309) (I 310) 1 k) hl c : Int) ((T : Int) - (fcF w n (tdN (I 309) (I 310) 0 k) (tdN (I 309) (I 310) 1 k) hl c : Int)) := ⟨_, rfl⟩
      refine wm_lp4 n (fun i a b y L => a = lkA (lkS f (fun c => !hl c) i) ∧ b = lkB ((T : Int) + 1) (lkS f (fun c => !hl c) i) ∧ y = (i : Int) ∧ L = J2) ?_ (Nat.lt_of_le_of_lt hn (jfuel_n (by decide))) ⟨rfl, rfl, rfl, rfl⟩
      rintro i hi a b y L ⟨rfl, rfl, rfl, rfl⟩ rec hrec
      have hce := q_cells (d := d) (rt := rt) sq cJ2
      by_cases e : i = n
      · subst e
        (repeat (first | (with_reducible apply wm_o; focus (simp (disch := omega) only [wr_id, Int.toNat_natCast, Int.reduceToNat, tn_lk, tn_kl, if_pos, if_neg, ↓reduceIte, and_self, and_true, true_and, FX, hce]; with_reducible rfl)) | (with_reducible apply wm_q) | (with_reducible apply wm_c; focus (first | assumption | decide +kernel)) | (with_reducible apply wm_d; focus (simp (disch := omega) only [wr_id, Int.toNat_natCast, Int.reduceToNat, tn_lk, tn_kl, if_pos, if_neg, ↓reduceIte, and_self, and_true, true_and, FX, hce]; with_reducible rfl)) | (with_reducible apply wm_t; focus (first | omega | (simp (disch := omega) only [wr_id, FX, hce]; omega) | (simp (disch := omega) only [wr_id, FX, hce]; done))) | (with_reducible apply wm_f; focus (first | omega | (simp (disch := omega) only [wr_id, FX, hce]; omega) | (simp (disch := omega) only [wr_id, FX, hce]; done)))))
        refine wm_r ?_
        clear hrec rec
        show wm t d rt (f_X12_look 369 (k : Int) (mm t d rt L)) _
        have e63 := m63 L jC2
        unfold f_X12_look
        (repeat (first | (with_reducible apply wm_o; focus (simp (disch := omega) only [wr_id, Int.toNat_natCast, Int.reduceToNat, tn_lk, tn_kl, if_pos, if_neg, ↓reduceIte, and_self, and_true, true_and, FM, e63, in1]; with_reducible rfl)) | (with_reducible apply wm_q) | (with_reducible apply wm_c; focus (first | assumption | decide +kernel)) | (with_reducible apply wm_d; focus (simp (disch := omega) only [wr_id, Int.toNat_natCast, Int.reduceToNat, tn_lk, tn_kl, if_pos, if_neg, ↓reduceIte, and_self, and_true, true_and, FM, e63, in1]; with_reducible rfl)) | (with_reducible apply wm_t; focus (first | omega | (simp (disch := omega) only [wr_id, FM, e63, in1]; omega) | (simp (disch := omega) only [wr_id, FM, e63, in1]; done))) | (with_reducible apply wm_f; focus (first | omega | (simp (disch := omega) only [wr_id, FM, e63, in1]; omega) | (simp (disch := omega) only [wr_id, FM, e63, in1]; done)))))
        refine mod L _ _ jC2 (fun K k1 k2 k3 => ?_)
        refine wm_lp4 i (fun j a b y N => a = lkA (lkS f (fun c => !hl c) j) ∧ b = lkB 0 (lkS f (fun c => !hl c) j) ∧ y = (j : Int) ∧ frM scrM scrF L N ∧ zM N ∧ cfM N lv w h i nh hl sd ifs xs) ?_ (Nat.lt_of_le_of_lt hn (jfuel_n (by decide))) ⟨rfl, rfl, rfl, k1, k2, k3⟩
        rintro j hj a b y N ⟨rfl, rfl, rfl, n1, n2, n3⟩ rec hrec
        have hce2 := s_cells (t := t) (d := d) (rt := rt) n3.1
        by_cases e2 : j = i
        · subst e2
          (repeat (first | (with_reducible apply wm_o; focus (simp (disch := omega) only [wr_id, Int.toNat_natCast, Int.reduceToNat, tn_lk, tn_kl, if_pos, if_neg, ↓reduceIte, and_self, and_true, true_and, hce2]; with_reducible rfl)) | (with_reducible apply wm_q) | (with_reducible apply wm_c; focus (first | assumption | decide +kernel)) | (with_reducible apply wm_d; focus (simp (disch := omega) only [wr_id, Int.toNat_natCast, Int.reduceToNat, tn_lk, tn_kl, if_pos, if_neg, ↓reduceIte, and_self, and_true, true_and, hce2]; with_reducible rfl)) | (with_reducible apply wm_t; focus (first | omega | (simp (disch := omega) only [wr_id, hce2]; omega) | (simp (disch := omega) only [wr_id, hce2]; done))) | (with_reducible apply wm_f; focus (first | omega | (simp (disch := omega) only [wr_id, hce2]; omega) | (simp (disch := omega) only [wr_id, hce2]; done)))))
          exact wm_r ⟨rfl, INV_q hR hC hM jC2 n1 n2⟩
        · have h6 := n3.2.2.2.1 j (by omega)
          by_cases zh : hl j = true
          · rw [if_pos zh] at h6
            (repeat (first | (with_reducible apply wm_o; focus (simp (disch := omega) only [wr_id, Int.toNat_natCast, Int.reduceToNat, tn_lk, tn_kl, if_pos, if_neg, ↓reduceIte, and_self, and_true, true_and, hce2, FM, h6]; with_reducible rfl)) | (with_reducible apply wm_q) | (with_reducible apply wm_c; focus (first | assumption | decide +kernel)) | (with_reducible apply wm_d; focus (simp (disch := omega) only [wr_id, Int.toNat_natCast, Int.reduceToNat, tn_lk, tn_kl, if_pos, if_neg, ↓reduceIte, and_self, and_true, true_and, hce2, FM, h6]; with_reducible rfl)) | (with_reducible apply wm_t; focus (first | omega | (simp (disch := omega) only [wr_id, hce2, FM, h6]; omega) | (simp (disch := omega) only [wr_id, hce2, FM, h6]; done))) | (with_reducible apply wm_f; focus (first | omega | (simp (disch := omega) only [wr_id, hce2, FM, h6]; omega) | (simp (disch := omega) only [wr_id, hce2, FM, h6]; done)))))
            refine hrec (j + 1) _ _ _ _ (by omega) (by omega) ⟨?_, ?_, by omega, n1, n2, n3⟩
            · rw [lkS_no (by simp [zh])]
            · rw [lkS_no (by simp [zh])]
          · have zh' : hl j = false := by simpa using zh
            rw [if_neg zh] at h6
            (repeat (first | (with_reducible apply wm_o; focus (simp (disch := omega) only [wr_id, Int.toNat_natCast, Int.reduceToNat, tn_lk, tn_kl, if_pos, if_neg, ↓reduceIte, and_self, and_true, true_and, hce2, FM, h6]; with_reducible rfl)) | (with_reducible apply wm_q) | (with_reducible apply wm_c; focus (first | assumption | decide +kernel)) | (with_reducible apply wm_d; focus (simp (disch := omega) only [wr_id, Int.toNat_natCast, Int.reduceToNat, tn_lk, tn_kl, if_pos, if_neg, ↓reduceIte, and_self, and_true, true_and, hce2, FM, h6]; with_reducible rfl)) | (with_reducible apply wm_t; focus (first | omega | (simp (disch := omega) only [wr_id, hce2, FM, h6]; omega) | (simp (disch := omega) only [wr_id, hce2, FM, h6]; done))) | (with_reducible apply wm_f; focus (first | omega | (simp (disch := omega) only [wr_id, hce2, FM, h6]; omega) | (simp (disch := omega) only [wr_id, hce2, FM, h6]; done)))))
            have t414 : N 414 = I 414 := (n1.1 414 (by decide) (by unfold scrM; omega)).trans (jC2 414 (by unfold scrC; omega))
            have t415 : N 415 = I 415 := (n1.1 415 (by decide) (by unfold scrM; omega)).trans (jC2 415 (by unfold scrC; omega))
            refine wm_b (m_countsTold (A := I 309) (B := I 310) n3 (show k ≤ 20 by omega) (fun q hq => ?_) hT) (fun v N2 hN2 => ?_)
            · rw [t414, t415]
              exact ⟨(t4 q (by omega)).1.symm, (t4 q (by omega)).2.1.symm⟩
            · obtain ⟨_, l1, l2, l3, l4, l5⟩ := hN2
              (repeat (first | (with_reducible apply wm_o; focus (simp (disch := omega) only [wr_id, Int.toNat_natCast, Int.reduceToNat, tn_lk, tn_kl, if_pos, if_neg, ↓reduceIte, and_self, and_true, true_and, FM, jdz1]; with_reducible rfl)) | (with_reducible apply wm_q) | (with_reducible apply wm_c; focus (first | assumption | decide +kernel)) | (with_reducible apply wm_d; focus (simp (disch := omega) only [wr_id, Int.toNat_natCast, Int.reduceToNat, tn_lk, tn_kl, if_pos, if_neg, ↓reduceIte, and_self, and_true, true_and, FM, jdz1]; with_reducible rfl)) | (with_reducible apply wm_t; focus (first | omega | (simp (disch := omega) only [wr_id, FM, jdz1]; omega) | (simp (disch := omega) only [wr_id, FM, jdz1]; done))) | (with_reducible apply wm_f; focus (first | omega | (simp (disch := omega) only [wr_id, FM, jdz1]; omega) | (simp (disch := omega) only [wr_id, FM, jdz1]; done)))))
              have f2 : frM (fun a => 407 ≤ a ∧ a ≤ 410) (fun _ => False) N (up N2 410 j 1) := frM_up l1 (by decide) (by omega)
              have c2 := cfM_frm f2 (fun a _ _ _ _ _ _ _ _ => by omega) (fun q => q) n3
              refine wm_b (m_counts (b := 1) (tb := 407) c2.1 (flg_ne (up_ne (by decide)) l2) (flg_ne (up_ne (by decide)) l3) (flg_up l4) (Or.inr ⟨rfl, rfl, rfl, rfl⟩)) (fun v3 N3 hN3 => ?_)
              obtain ⟨rfl, p1, p2⟩ := hN3
              obtain ⟨fn1, fn2⟩ := fcn j (by omega) zh'
              rw [fn1]
              have hfj : f j = max (fcF w i (tdN (I 309) (I 310) 0 k) (tdN (I 309) (I 310) 1 k) hl j : Int) ((T : Int) - (fcF w i (tdN (I 309) (I 310) 0 k) (tdN (I 309) (I 310) 1 k) hl j : Int)) := by rw [hf]
              generalize fcF w i (tdN (I 309) (I 310) 0 k) (tdN (I 309) (I 310) 1 k) hl j = F at hfj fn2
              have fN3 : frM scrM scrF L N3 := frM_trans n1 (frM_trans (frM_f f2 (fun a ha => by unfold scrM; omega)) (frM_f p1 (fun a ha => by unfold scrM; omega)))
              have z3 : zM N3 := by
                refine ⟨?_, ?_, ?_⟩
                · rw [p1.1 401 (by decide) (by decide), f2.1 401 (by decide) (by omega)]; exact n2.1
                · exact flg_b01 (flg_ne (p1.1 409 (by decide) (by decide)) (flg_ne (up_ne (by decide)) l3))
                · exact flg_b01 (flg_ne (p1.1 410 (by decide) (by decide)) (flg_up l4))
              have c3 := cfM_frm p1 (fun a _ _ _ _ _ _ _ _ => by omega) (fun q => q) c2
              have fin : ∀ v : Int, v = f j → ∀ (g : Int → Int → jMem → Option (Int × jMem)), (∀ a b, a = lkA (lkS f (fun c => !hl c) (j + 1)) → b = lkB 0 (lkS f (fun c => !hl c) (j + 1)) → wm t d rt (g a b (mm t d rt N3)) (fun r' K => jd_wr (lkA (lkS f (fun c => !hl c) i)) = jd_wr r' ∧ INV t d rt K)) → wm t d rt (if jd_wr (lkA (lkS f (fun c => !hl c) j)) < 0 then g (j : Int) v (mm t d rt N3) else if jd_wr v < jd_wr (lkB 0 (lkS f (fun c => !hl c) j)) then g (j : Int) v (mm t d rt N3) else g (lkA (lkS f (fun c => !hl c) j)) (lkB 0 (lkS f (fun c => !hl c) j)) (mm t d rt N3)) (fun r' K => jd_wr (lkA (lkS f (fun c => !hl c) i)) = jd_wr r' ∧ INV t d rt K) := by
                rintro v rfl g hg
                cases q : lkS f (fun c => !hl c) j with
                | none =>
                  have := lkS_n (f := f) (op := fun c => !hl c) (by simp [zh']) q
                  rw [if_pos (by show jd_wr (-2) < 0; simp (disch := omega) only [wr_id]; omega)]
                  exact hg _ _ (by rw [this]; rfl) (by rw [this]; rfl)
                | some bv =>
                  obtain ⟨b, v⟩ := bv
                  obtain ⟨b1, b2, b3⟩ := lkS_at q
                  have vb : v = f b := b2
                  have hbb : -2147483648 ≤ v ∧ v < 2147483648 := by
                    obtain ⟨_, gn2⟩ := fcn b (by omega) (by simpa using b3)
                    rw [vb, hf]
                    simp only
                    omega
                  show wm t d rt (if jd_wr (b : Int) < 0 then _ else if jd_wr (f j) < jd_wr v then _ else g (b : Int) v (mm t d rt N3)) _
                  rw [if_neg (by simp (disch := omega) only [wr_id]; omega)]
                  by_cases zl : f j < v
                  · rw [if_pos (by rw [wr_id (by omega) (by omega), wr_id hbb.1 hbb.2]; exact zl)]
                    have := lkS_lt (f := f) (op := fun c => !hl c) (by simp [zh']) q zl
                    exact hg _ _ (by rw [this]; rfl) (by rw [this]; rfl)
                  · rw [if_neg (by rw [wr_id (by omega) (by omega), wr_id hbb.1 hbb.2]; exact zl)]
                    have := lkS_ge (f := f) (op := fun c => !hl c) q zl
                    exact hg _ _ (by rw [this]; rfl) (by rw [this]; rfl)
              by_cases zm : (F : Int) ≤ (T : Int) - (F : Int)
              · (repeat (first | (with_reducible apply wm_o; focus (simp (disch := omega) only [wr_id, Int.toNat_natCast, Int.reduceToNat, tn_lk, tn_kl, if_pos, if_neg, ↓reduceIte, and_self, and_true, true_and]; with_reducible rfl)) | (with_reducible apply wm_q) | (with_reducible apply wm_c; focus (first | assumption | decide +kernel)) | (with_reducible apply wm_d; focus (simp (disch := omega) only [wr_id, Int.toNat_natCast, Int.reduceToNat, tn_lk, tn_kl, if_pos, if_neg, ↓reduceIte, and_self, and_true, true_and]; with_reducible rfl)) | (with_reducible apply wm_t; focus (first | omega | (simp (disch := omega) only [wr_id]; omega) | (simp (disch := omega) only [wr_id]; done))) | (with_reducible apply wm_f; focus (first | omega | (simp (disch := omega) only [wr_id]; omega) | (simp (disch := omega) only [wr_id]; done)))))
                refine fin ((T : Int) - (F : Int)) (by rw [hfj]; omega) (fun a b M => rec a b ((j : Int) + 1) M) (fun a b ha hb => ?_)
                exact hrec (j + 1) _ _ _ _ (by omega) (by omega) ⟨ha, hb, by omega, fN3, z3, c3⟩
              · (repeat (first | (with_reducible apply wm_o; focus (simp (disch := omega) only [wr_id, Int.toNat_natCast, Int.reduceToNat, tn_lk, tn_kl, if_pos, if_neg, ↓reduceIte, and_self, and_true, true_and]; with_reducible rfl)) | (with_reducible apply wm_q) | (with_reducible apply wm_c; focus (first | assumption | decide +kernel)) | (with_reducible apply wm_d; focus (simp (disch := omega) only [wr_id, Int.toNat_natCast, Int.reduceToNat, tn_lk, tn_kl, if_pos, if_neg, ↓reduceIte, and_self, and_true, true_and]; with_reducible rfl)) | (with_reducible apply wm_t; focus (first | omega | (simp (disch := omega) only [wr_id]; omega) | (simp (disch := omega) only [wr_id]; done))) | (with_reducible apply wm_f; focus (first | omega | (simp (disch := omega) only [wr_id]; omega) | (simp (disch := omega) only [wr_id]; done)))))
                refine fin (F : Int) (by rw [hfj]; omega) (fun a b M => rec a b ((j : Int) + 1) M) (fun a b ha hb => ?_)
                exact hrec (j + 1) _ _ _ _ (by omega) (by omega) ⟨ha, hb, by omega, fN3, z3, c3⟩
      · have ho := q_isOpen (d := d) (rt := rt) (x := (i : Int)) sq cJ2 (i32 (by omega) (by omega))
        by_cases zh : hl i = true
        · rw [if_neg (fun q => by have := (opB_t q).2.2; rw [Int.toNat_natCast, zh] at this; cases this)] at ho
          (repeat (first | (with_reducible apply wm_o; focus (simp (disch := omega) only [wr_id, Int.toNat_natCast, Int.reduceToNat, tn_lk, tn_kl, if_pos, if_neg, ↓reduceIte, and_self, and_true, true_and, FX, hce, ho]; with_reducible rfl)) | (with_reducible apply wm_q) | (with_reducible apply wm_c; focus (first | assumption | decide +kernel)) | (with_reducible apply wm_d; focus (simp (disch := omega) only [wr_id, Int.toNat_natCast, Int.reduceToNat, tn_lk, tn_kl, if_pos, if_neg, ↓reduceIte, and_self, and_true, true_and, FX, hce, ho]; with_reducible rfl)) | (with_reducible apply wm_t; focus (first | omega | (simp (disch := omega) only [wr_id, FX, hce, ho]; omega) | (simp (disch := omega) only [wr_id, FX, hce, ho]; done))) | (with_reducible apply wm_f; focus (first | omega | (simp (disch := omega) only [wr_id, FX, hce, ho]; omega) | (simp (disch := omega) only [wr_id, FX, hce, ho]; done)))))
          refine hrec (i + 1) _ _ _ _ (by omega) (by omega) ⟨?_, ?_, by omega, rfl⟩
          · rw [lkS_no (by simp [zh])]
          · rw [lkS_no (by simp [zh])]
        · have zh' : hl i = false := by simpa using zh
          rw [if_pos (opB_i ⟨by omega, by omega, by rw [Int.toNat_natCast]; exact zh'⟩)] at ho
          have hly : f_X5_lyingAcross 337 (i : Int) (mm t d rt L) = some (((fcF w n (tdN (I 309) (I 310) 0 k) (tdN (I 309) (I 310) 1 k) hl i : Nat) : Int), mm t d rt L) := s_lying (t := t) (d := d) (rt := rt) q2 hw hn (x := i) (by omega)
          obtain ⟨fn1, fn2⟩ := fcn i (by omega) zh'
          have hfj : f i = max (fcF w n (tdN (I 309) (I 310) 0 k) (tdN (I 309) (I 310) 1 k) hl i : Int) ((T : Int) - (fcF w n (tdN (I 309) (I 310) 0 k) (tdN (I 309) (I 310) 1 k) hl i : Int)) := by rw [hf]
          generalize fcF w n (tdN (I 309) (I 310) 0 k) (tdN (I 309) (I 310) 1 k) hl i = F at hfj fn2 hly
          have hmx := fun (M : jMem) => j_max (a := (F : Int)) (b := (T : Int) - (F : Int)) (i32 (by omega) (by omega)) (i32 (by omega) (by omega)) M
          rw [← hfj] at hmx
          have hfb : 0 ≤ f i ∧ f i ≤ T := by rw [hfj]; omega
          cases q : lkS f (fun c => !hl c) i with
          | none =>
            have := lkS_n (f := f) (op := fun c => !hl c) (by simp [zh']) q
            have e1 : lkB ((T : Int) + 1) none = (T : Int) + 1 := rfl
            (repeat (first | (with_reducible apply wm_o; focus (simp (disch := omega) only [wr_id, Int.toNat_natCast, Int.reduceToNat, tn_lk, tn_kl, if_pos, if_neg, ↓reduceIte, and_self, and_true, true_and, FX, hce, ho, hly, hmx, e1]; with_reducible rfl)) | (with_reducible apply wm_q) | (with_reducible apply wm_c; focus (first | assumption | decide +kernel)) | (with_reducible apply wm_d; focus (simp (disch := omega) only [wr_id, Int.toNat_natCast, Int.reduceToNat, tn_lk, tn_kl, if_pos, if_neg, ↓reduceIte, and_self, and_true, true_and, FX, hce, ho, hly, hmx, e1]; with_reducible rfl)) | (with_reducible apply wm_t; focus (first | omega | (simp (disch := omega) only [wr_id, FX, hce, ho, hly, hmx, e1]; omega) | (simp (disch := omega) only [wr_id, FX, hce, ho, hly, hmx, e1]; done))) | (with_reducible apply wm_f; focus (first | omega | (simp (disch := omega) only [wr_id, FX, hce, ho, hly, hmx, e1]; omega) | (simp (disch := omega) only [wr_id, FX, hce, ho, hly, hmx, e1]; done)))))
            exact hrec (i + 1) _ _ _ _ (by omega) (by omega) ⟨by rw [this]; rfl, by rw [this]; rfl, by omega, rfl⟩
          | some bv =>
            obtain ⟨b, v⟩ := bv
            obtain ⟨b1, b2, b3⟩ := lkS_at q
            have vb : v = f b := b2
            have hbb : -2147483648 ≤ v ∧ v < 2147483648 := by
              obtain ⟨_, gn2⟩ := fcn b (by omega) (by simpa using b3)
              rw [vb, hf]
              simp only
              omega
            have e1 : lkB ((T : Int) + 1) (some (b, v)) = v := rfl
            by_cases zl : f i < v
            · have := lkS_lt (f := f) (op := fun c => !hl c) (by simp [zh']) q zl
              (repeat (first | (with_reducible apply wm_o; focus (simp (disch := omega) only [wr_id, Int.toNat_natCast, Int.reduceToNat, tn_lk, tn_kl, if_pos, if_neg, ↓reduceIte, and_self, and_true, true_and, FX, hce, ho, hly, hmx, e1]; with_reducible rfl)) | (with_reducible apply wm_q) | (with_reducible apply wm_c; focus (first | assumption | decide +kernel)) | (with_reducible apply wm_d; focus (simp (disch := omega) only [wr_id, Int.toNat_natCast, Int.reduceToNat, tn_lk, tn_kl, if_pos, if_neg, ↓reduceIte, and_self, and_true, true_and, FX, hce, ho, hly, hmx, e1]; with_reducible rfl)) | (with_reducible apply wm_t; focus (first | omega | (simp (disch := omega) only [wr_id, FX, hce, ho, hly, hmx, e1]; omega) | (simp (disch := omega) only [wr_id, FX, hce, ho, hly, hmx, e1]; done))) | (with_reducible apply wm_f; focus (first | omega | (simp (disch := omega) only [wr_id, FX, hce, ho, hly, hmx, e1]; omega) | (simp (disch := omega) only [wr_id, FX, hce, ho, hly, hmx, e1]; done)))))
              exact hrec (i + 1) _ _ _ _ (by omega) (by omega) ⟨by rw [this]; rfl, by rw [this]; rfl, by omega, rfl⟩
            · have := lkS_ge (f := f) (op := fun c => !hl c) q zl
              (repeat (first | (with_reducible apply wm_o; focus (simp (disch := omega) only [wr_id, Int.toNat_natCast, Int.reduceToNat, tn_lk, tn_kl, if_pos, if_neg, ↓reduceIte, and_self, and_true, true_and, FX, hce, ho, hly, hmx, e1]; with_reducible rfl)) | (with_reducible apply wm_q) | (with_reducible apply wm_c; focus (first | assumption | decide +kernel)) | (with_reducible apply wm_d; focus (simp (disch := omega) only [wr_id, Int.toNat_natCast, Int.reduceToNat, tn_lk, tn_kl, if_pos, if_neg, ↓reduceIte, and_self, and_true, true_and, FX, hce, ho, hly, hmx, e1]; with_reducible rfl)) | (with_reducible apply wm_t; focus (first | omega | (simp (disch := omega) only [wr_id, FX, hce, ho, hly, hmx, e1]; omega) | (simp (disch := omega) only [wr_id, FX, hce, ho, hly, hmx, e1]; done))) | (with_reducible apply wm_f; focus (first | omega | (simp (disch := omega) only [wr_id, FX, hce, ho, hly, hmx, e1]; omega) | (simp (disch := omega) only [wr_id, FX, hce, ho, hly, hmx, e1]; done)))))
              exact hrec (i + 1) _ _ _ _ (by omega) (by omega) ⟨by rw [this], by rw [this], by omega, rfl⟩
  · have in1 := fun (M : jMem) => m_in_f (a := 0) (b := (td : Int)) (M := M) hx (i32 (by omega) (by omega)) (i32 (by omega) (by omega)) z
    have mod : wm t d rt (f_X12_look 369 x (mm t d rt I)) (fun r' K => jd_wr (-1) = jd_wr r' ∧ INV t d rt K) := by
      unfold f_X12_look
      (repeat (first | (with_reducible apply wm_o; focus (simp (disch := omega) only [wr_id, Int.toNat_natCast, Int.reduceToNat, tn_lk, tn_kl, if_pos, if_neg, ↓reduceIte, and_self, and_true, true_and, FM, t3, in1]; with_reducible rfl)) | (with_reducible apply wm_q) | (with_reducible apply wm_c; focus (first | assumption | decide +kernel)) | (with_reducible apply wm_d; focus (simp (disch := omega) only [wr_id, Int.toNat_natCast, Int.reduceToNat, tn_lk, tn_kl, if_pos, if_neg, ↓reduceIte, and_self, and_true, true_and, FM, t3, in1]; with_reducible rfl)) | (with_reducible apply wm_t; focus (first | omega | (simp (disch := omega) only [wr_id, FM, t3, in1]; omega) | (simp (disch := omega) only [wr_id, FM, t3, in1]; done))) | (with_reducible apply wm_f; focus (first | omega | (simp (disch := omega) only [wr_id, FM, t3, in1]; omega) | (simp (disch := omega) only [wr_id, FM, t3, in1]; done)))))
      exact wm_r ⟨rfl, hI'⟩
    by_cases z0 : x < 0
    · (repeat (first | (with_reducible apply wm_o; focus (simp (disch := omega) only [wr_id, Int.toNat_natCast, Int.reduceToNat, tn_lk, tn_kl, if_pos, if_neg, ↓reduceIte, and_self, and_true, true_and, ex]; with_reducible rfl)) | (with_reducible apply wm_q) | (with_reducible apply wm_c; focus (first | assumption | decide +kernel)) | (with_reducible apply wm_d; focus (simp (disch := omega) only [wr_id, Int.toNat_natCast, Int.reduceToNat, tn_lk, tn_kl, if_pos, if_neg, ↓reduceIte, and_self, and_true, true_and, ex]; with_reducible rfl)) | (with_reducible apply wm_t; focus (first | omega | (simp (disch := omega) only [wr_id, ex]; omega) | (simp (disch := omega) only [wr_id, ex]; done))) | (with_reducible apply wm_f; focus (first | omega | (simp (disch := omega) only [wr_id, ex]; omega) | (simp (disch := omega) only [wr_id, ex]; done)))))
      exact wm_r mod
    · (repeat (first | (with_reducible apply wm_o; focus (simp (disch := omega) only [wr_id, Int.toNat_natCast, Int.reduceToNat, tn_lk, tn_kl, if_pos, if_neg, ↓reduceIte, and_self, and_true, true_and, ex, FX, FTold, t2]; with_reducible rfl)) | (with_reducible apply wm_q) | (with_reducible apply wm_c; focus (first | assumption | decide +kernel)) | (with_reducible apply wm_d; focus (simp (disch := omega) only [wr_id, Int.toNat_natCast, Int.reduceToNat, tn_lk, tn_kl, if_pos, if_neg, ↓reduceIte, and_self, and_true, true_and, ex, FX, FTold, t2]; with_reducible rfl)) | (with_reducible apply wm_t; focus (first | omega | (simp (disch := omega) only [wr_id, ex, FX, FTold, t2]; omega) | (simp (disch := omega) only [wr_id, ex, FX, FTold, t2]; done))) | (with_reducible apply wm_f; focus (first | omega | (simp (disch := omega) only [wr_id, ex, FX, FTold, t2]; omega) | (simp (disch := omega) only [wr_id, ex, FX, FTold, t2]; done)))))
      exact wm_r mod
end LK
