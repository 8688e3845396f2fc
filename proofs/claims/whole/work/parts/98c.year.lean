/-! ===== calls: year ===== -/
def orB (p : Nat → Bool) : Nat → Bool
  | 0 => false
  | m + 1 => orB p m || p m
theorem orB_iff {p : Nat → Bool} : ∀ {m : Nat}, orB p m = true ↔ ∃ k, k < m ∧ p k = true
  | 0 => ⟨fun h => (by cases h), fun h => (by obtain ⟨k, hk, _⟩ := h; omega)⟩
  | m + 1 => by
    rw [orB, Bool.or_eq_true, orB_iff]
    constructor
    · rintro (⟨k, h1, h2⟩ | h)
      · exact ⟨k, by omega, h2⟩
      · exact ⟨m, by omega, h⟩
    · rintro ⟨k, h1, h2⟩
      by_cases e : k = m
      · subst e; exact Or.inr h2
      · exact Or.inl ⟨k, by omega, h2⟩
/-- m seasons in which nothing loosens -/
def agR (ρ : Nat → Int) : Nat → Nat → Int
  | 0 => ρ
  | m + 1 => rAge (fun _ => false) (agR ρ m)
theorem wr_ne {a d : Int} (h1 : 0 < d) (h2 : d < 4294967296) : jd_wr (a + d) ≠ jd_wr a := by
  intro e
  unfold jd_wr at e
  rw [Int32.toInt_ofInt, Int32.toInt_ofInt, show (Int32.size : Nat) = 4294967296 from rfl] at e
  have e2 : (a + d).bmod 4294967296 % ((4294967296 : Nat) : Int) = a.bmod 4294967296 % ((4294967296 : Nat) : Int) := by rw [e]
  rw [Int.bmod_emod, Int.bmod_emod] at e2
  omega
theorem ag_congr {L L' : Nat → Bool} {ρ : Nat → Int} : ∀ m, m ≤ 18 → (∀ k, k < m → 0 ≤ ρ k → L k = L' k) → agS L ρ m = agS L' ρ m
  | 0, _, _ => rfl
  | m + 1, hm, h => by
    have ih := ag_congr m (by omega) (fun k hk => h k (by omega))
    have at' := agS_at L' ρ m m (by omega) (by omega)
    rw [agS_s, agS_s, ih, at']
    by_cases z : 0 ≤ ρ m
    · rw [if_pos z, if_pos z, h m (by omega) z]
    · rw [if_neg z, if_neg z]
theorem ag_74 {L : Nat → Bool} {ρ : Nat → Int} : ∀ m, m ≤ 18 → agS L ρ m 74 = ρ 74 + (cntB (fun k => decide (0 ≤ ρ k) && L k) m : Int)
  | 0, _ => by show ρ 74 = ρ 74 + ((0 : Nat) : Int); omega
  | m + 1, hm => by
    have ih := ag_74 (L := L) (ρ := ρ) m (by omega)
    have at' := agS_at L ρ m m (by omega) (by omega)
    rw [agS_s, at', cntB]
    by_cases z : 0 ≤ ρ m
    · rw [if_pos z]
      by_cases zl : L m = true
      · rw [if_pos zl, rSet_s, ih, if_pos (by rw [decide_eq_true z, zl]; rfl)]; omega
      · rw [if_neg zl, rSet_n (by omega), ih, if_neg (by rw [show L m = false by simpa using zl]; simp)]; omega
    · rw [if_neg z, ih, if_neg (by rw [decide_eq_false z]; simp)]; omega
theorem rAge_74 {L : Nat → Bool} {ρ : Nat → Int} : rAge L ρ 74 = ρ 74 + (cntB (fun k => decide (0 ≤ ρ k) && L k) 18 : Int) := by
  unfold rAge
  rw [rSet_n (by decide), ag_74 18 (by omega)]
section YR
variable {t d rt : Nat} {I J K : Nat → Nat → Int} {lv w h n nh r : Nat} {hl cl na nd U : Nat → Bool} {sd : Int} {ifs : Nat → List LwI} {xs : Nat → List CI} {ρ : Nat → Int} {u : Nat} {H : Nat → Nat → Int} {hd : Nat → Bool} {G : Nat → Nat → Int}
theorem rOK_ag (hr : rOK w n hl ρ) : ∀ m, rOK w n hl (agR ρ m)
  | 0 => hr
  | m + 1 => rOK_age (rOK_ag hr m)
/-- does any stone loosen in season m, by this seed -/
def brS (ifs : Nat → List LwI) (xs : Nat → List CI) (w nh : Nat) (ρ : Nat → Int) (sd : Int) (m : Nat) : Bool := orB (lsL ifs xs w nh sd (agR ρ m)) 18
theorem gs_ag {sd' : Int} : ∀ m, orB (brS ifs xs w nh ρ sd') m = false → gsR ifs xs w nh sd' ρ m = agR ρ m
  | 0, _ => rfl
  | m + 1, h => by
    rw [orB, Bool.or_eq_false_iff] at h
    have ih := gs_ag m h.1
    have hno : ∀ k, k < 18 → lsL ifs xs w nh sd' (agR ρ m) k = false := fun k hk => by
      cases e : lsL ifs xs w nh sd' (agR ρ m) k with
      | false => rfl
      | true => have : brS ifs xs w nh ρ sd' m = true := orB_iff.mpr ⟨k, hk, e⟩
                rw [this] at h; cases h.2
    show rAge (lsL ifs xs w nh sd' (gsR ifs xs w nh sd' ρ m)) (gsR ifs xs w nh sd' ρ m) = rAge (fun _ => false) (agR ρ m)
    rw [ih]
    unfold rAge
    rw [ag_congr 18 (by omega) (fun k hk _ => hno k hk)]
theorem ag_74e : ∀ m, agR ρ m 74 = ρ 74
  | 0 => rfl
  | m + 1 => by
    show rAge (fun _ => false) (agR ρ m) 74 = ρ 74
    rw [rAge_74, ag_74e m, cntB_0 (fun j _ => by simp)]
    omega
theorem gs_le {sd' : Int} : ∀ m, ρ 74 ≤ gsR ifs xs w nh sd' ρ m 74 ∧ gsR ifs xs w nh sd' ρ m 74 ≤ ρ 74 + 18 * (m : Int)
  | 0 => by show ρ 74 ≤ ρ 74 ∧ ρ 74 ≤ ρ 74 + 18 * ((0 : Nat) : Int); omega
  | m + 1 => by
    have ih := gs_le (sd' := sd') m
    show ρ 74 ≤ rAge (lsL ifs xs w nh sd' (gsR ifs xs w nh sd' ρ m)) (gsR ifs xs w nh sd' ρ m) 74 ∧ rAge (lsL ifs xs w nh sd' (gsR ifs xs w nh sd' ρ m)) (gsR ifs xs w nh sd' ρ m) 74 ≤ _
    rw [rAge_74]
    have := cntB_le (fun k => decide (0 ≤ gsR ifs xs w nh sd' ρ m k) && lsL ifs xs w nh sd' (gsR ifs xs w nh sd' ρ m) k) 18
    omega
theorem gs_gt {sd' : Int} : ∀ m, orB (brS ifs xs w nh ρ sd') m = true → ρ 74 < gsR ifs xs w nh sd' ρ m 74
  | 0, h => by cases h
  | m + 1, h => by
    show ρ 74 < rAge (lsL ifs xs w nh sd' (gsR ifs xs w nh sd' ρ m)) (gsR ifs xs w nh sd' ρ m) 74
    rw [rAge_74]
    cases e : orB (brS ifs xs w nh ρ sd') m with
    | true => have := gs_gt m e; omega
    | false =>
      rw [orB, e, Bool.false_or] at h
      rw [gs_ag m e, ag_74e]
      obtain ⟨k, hk, hl'⟩ := orB_iff.mp h
      have hz : 0 ≤ agR ρ m k := by
        unfold lsL rLies at hl'
        simp only [Bool.and_eq_true, decide_eq_true_eq] at hl'
        exact hl'.1
      have : 0 < cntB (fun k => decide (0 ≤ agR ρ m k) && lsL ifs xs w nh sd' (agR ρ m) k) 18 := by
        by_cases q : cntB (fun k => decide (0 ≤ agR ρ m k) && lsL ifs xs w nh sd' (agR ρ m) k) 18 = 0
        · have z : ∀ (p : Nat → Bool) (m : Nat), cntB p m = 0 → ∀ k, k < m → p k = false := by
            intro p m
            induction m with
            | zero => intro _ k hk; omega
            | succ m ih =>
              intro hc k hk
              rw [cntB] at hc
              by_cases ek : k = m
              · subst ek
                cases e2 : p k with
                | false => rfl
                | true => rw [e2] at hc; simp at hc
              · exact ih (by omega) k (by omega)
          have := z _ 18 q k hk
          rw [hl', decide_eq_true hz] at this
          cases this
        · omega
      omega
/-- masks of seeds -/
theorem mk_or {g : Nat → Bool} {k : Nat} (hk : k < 20) : mkM 20 g ||| (1 <<< k) = mkM 20 (fun i => g i || i == k) := by
  refine mkM_eq ?_ (fun i hi => ?_)
  · exact Nat.or_lt_two_pow (mkM_lt _ _) (by rw [Nat.one_shiftLeft]; exact Nat.pow_lt_pow_right (by decide) hk)
  · rw [Nat.testBit_or, mkM_tb, tb_1s, decide_eq_true hi, Bool.true_and]
    congr 1
theorem mk_or2 {g g' : Nat → Bool} : mkM 20 g ||| mkM 20 g' = mkM 20 (fun i => g i || g' i) := by
  refine mkM_eq (Nat.or_lt_two_pow (mkM_lt _ _) (mkM_lt _ _)) (fun i hi => ?_)
  rw [Nat.testBit_or, mkM_tb, mkM_tb, decide_eq_true hi, Bool.true_and, Bool.true_and]
theorem mk_congr {g g' : Nat → Bool} (h' : ∀ i, i < 20 → g i = g' i) : mkM 20 g = mkM 20 g' := mkM_eq (mkM_lt _ _) (fun i hi => by rw [mkM_tb, decide_eq_true hi, Bool.true_and, h' i hi])
theorem mk_b (g : Nat → Bool) : mkM 20 g < 1048576 := mkM_lt 20 g
theorem c_seeds (sq : sqOK w h n nh hl) (c : cfC I t w h n nh hl sd ifs xs) (hr : rOK w n hl ρ) (hst : stR I 40 w ρ) (h40 : 40 ∈ stL) {s : Nat} (hs : s ≤ 20) : wm t d rt (f_X11_seedsThatLoosen 0 40 (s : Int) (mm t d rt I)) (fun r J => r = ((mkM 20 (fun k => decide (k < s) && orB (lsL ifs xs w nh (sd + (k : Int)) ρ) 18) : Nat) : Int) ∧ frm (fun a => a = t + 12) I J) := by
  have hn := sq.2.2.2.2.2.2.1
  have htx := c.1
  have kt := tx_k htx
  have kl := kt.2.1
  have ks : (K0 40).1 = 6 ∧ 40 < 418 := by decide +kernel
  have w0 := wr_0
  unfold f_X11_seedsThatLoosen
  refine wm_lp3 18 (fun i a y J => a = ((mkM 20 (fun k => decide (k < s) && orB (lsL ifs xs w nh (sd + (k : Int)) ρ) i) : Nat) : Int) ∧ y = (i : Int) ∧ frm (fun a => a = t + 12) I J) ?_ (jfuel_n (by decide)) ⟨?_, rfl, frm_refl _ _⟩
  · rintro i hi a y J ⟨rfl, rfl, hJ⟩ rec hrec
    have cJ := cfC_frm hJ (fun a a1 a2 => by omega) c
    have sJ := stR_frm hJ (fun a a1 a2 => by omega) hst
    refine wm_if (fun cc => ?_) (fun cc => ?_)
    · simp (disch := omega) only [wr_id] at cc
      have hi2 : i < 18 := by omega
      have hli := w_lies (t := t) (d := d) (rt := rt) h40 hr hn sJ hi2
      by_cases z : 0 ≤ ρ i
      · rw [if_pos z] at hli
        have c5 := cJ.2.2.2.2.1
        (repeat (first | (with_reducible apply wm_o; focus (simp (disch := omega) only [wr_id, Int.toNat_natCast, Int.reduceToNat, tn_lk, tn_kl, if_pos, if_neg, ↓reduceIte, and_self, and_true, true_and, hli, FX, FText htx, c5]; with_reducible rfl)) | (with_reducible apply wm_q) | (with_reducible apply wm_c; focus (first | assumption | decide +kernel)) | (with_reducible apply wm_d; focus (simp (disch := omega) only [wr_id, Int.toNat_natCast, Int.reduceToNat, tn_lk, tn_kl, if_pos, if_neg, ↓reduceIte, and_self, and_true, true_and, hli, FX, FText htx, c5]; with_reducible rfl)) | (with_reducible apply wm_t; focus (first | omega | (simp (disch := omega) only [wr_id, hli, FX, FText htx, c5]; omega) | (simp (disch := omega) only [wr_id, hli, FX, FText htx, c5]; done))) | (with_reducible apply wm_f; focus (first | omega | (simp (disch := omega) only [wr_id, hli, FX, FText htx, c5]; omega) | (simp (disch := omega) only [wr_id, hli, FX, FText htx, c5]; done)))))
        refine wm_b (c_held (q := 1) sq cJ h40 hr sJ hi2 z (by decide)) (fun v L hL => ?_)
        obtain ⟨l1, l2⟩ := hL
        have hL2 := frm_trans hJ l2
        have lb := LV_b (ifs := ifs) (xs := xs) (w := w) (nh := nh) (ρ := ρ) (k := i) 1
        have c4 := (cfC_frm l2 (fun a a1 a2 => by omega) cJ).2.2.2.1
        have s7 := (stR_frm l2 (fun a a1 a2 => by omega) sJ).2.2.2.2.2.2.1
        -- the couple's seeds are through
        have done : ∀ g : Nat, g = mkM 20 (fun k => decide (k < s) && orB (lsL ifs xs w nh (sd + (k : Int)) ρ) (i + 1)) → wm t d rt (rec (g : Int) ((i : Int) + 1) (mm t d rt L)) (fun r J => r = ((mkM 20 (fun k => decide (k < s) && orB (lsL ifs xs w nh (sd + (k : Int)) ρ) 18) : Nat) : Int) ∧ frm (fun a => a = t + 12) I J) := fun g hg => hrec (i + 1) _ _ _ (by omega) (by omega) ⟨by rw [hg], by omega, hL2⟩
        refine wm_lp3 s (fun j a y N => N = L ∧ y = (j : Int) ∧ a = ((mkM 20 (fun k => (decide (k < s) && orB (lsL ifs xs w nh (sd + (k : Int)) ρ) i) || (decide (k < j) && lsL ifs xs w nh (sd + (k : Int)) ρ i)) : Nat) : Int)) ?_ (Nat.lt_of_le_of_lt hs (jfuel_n (by decide))) ⟨rfl, rfl, ?_⟩
        · rintro j hj a y N ⟨rfl, rfl, rfl⟩ rec2 hrec2
          by_cases ej : j = s
          · subst ej
            (repeat (first | (with_reducible apply wm_o; focus (simp (disch := omega) only [wr_id, Int.toNat_natCast, Int.reduceToNat, tn_lk, tn_kl, if_pos, if_neg, ↓reduceIte, and_self, and_true, true_and]; with_reducible rfl)) | (with_reducible apply wm_q) | (with_reducible apply wm_c; focus (first | assumption | decide +kernel)) | (with_reducible apply wm_d; focus (simp (disch := omega) only [wr_id, Int.toNat_natCast, Int.reduceToNat, tn_lk, tn_kl, if_pos, if_neg, ↓reduceIte, and_self, and_true, true_and]; with_reducible rfl)) | (with_reducible apply wm_t; focus (first | omega | (simp (disch := omega) only [wr_id]; omega) | (simp (disch := omega) only [wr_id]; done))) | (with_reducible apply wm_f; focus (first | omega | (simp (disch := omega) only [wr_id]; omega) | (simp (disch := omega) only [wr_id]; done)))))
            refine done _ (mk_congr (fun k hk => ?_))
            show _ = (decide (k < j) && (orB (lsL ifs xs w nh (sd + (k : Int)) ρ) i || lsL ifs xs w nh (sd + (k : Int)) ρ i))
            cases decide (k < j) <;> simp
          · have hjs : j < s := by omega
            by_cases zL : LV ifs xs w nh ρ i 1 ≤ 0
            · (repeat (first | (with_reducible apply wm_o; focus (simp (disch := omega) only [wr_id, Int.toNat_natCast, Int.reduceToNat, tn_lk, tn_kl, if_pos, if_neg, ↓reduceIte, and_self, and_true, true_and, l1]; with_reducible rfl)) | (with_reducible apply wm_q) | (with_reducible apply wm_c; focus (first | assumption | decide +kernel)) | (with_reducible apply wm_d; focus (simp (disch := omega) only [wr_id, Int.toNat_natCast, Int.reduceToNat, tn_lk, tn_kl, if_pos, if_neg, ↓reduceIte, and_self, and_true, true_and, l1]; with_reducible rfl)) | (with_reducible apply wm_t; focus (first | omega | (simp (disch := omega) only [wr_id, l1]; omega) | (simp (disch := omega) only [wr_id, l1]; done))) | (with_reducible apply wm_f; focus (first | omega | (simp (disch := omega) only [wr_id, l1]; omega) | (simp (disch := omega) only [wr_id, l1]; done)))))
              refine done _ (mk_congr (fun k hk => ?_))
              have hno : lsL ifs xs w nh (sd + (k : Int)) ρ i = false := by
                have := lot_b (sd + (k : Int)) (32 * ρ 72 + (i : Int))
                unfold lsL
                rw [decide_eq_false (show ¬ lotF (sd + (k : Int)) (32 * ρ 72 + (i : Int)) < LV ifs xs w nh ρ i 1 by omega), Bool.and_false]
              show _ = (decide (k < s) && (orB (lsL ifs xs w nh (sd + (k : Int)) ρ) i || lsL ifs xs w nh (sd + (k : Int)) ρ i))
              rw [hno]; simp
            · have lt := lot_b (sd + (j : Int)) (32 * ρ 72 + (i : Int))
              have ql := fun (M : jMem) => q_lot (a := sd + (j : Int)) (b := 32 * ρ 72 + (i : Int)) (M := M)
              have wl : jd_wr (lotF (sd + (j : Int)) (32 * ρ 72 + (i : Int))) = lotF (sd + (j : Int)) (32 * ρ 72 + (i : Int)) := wr_id (by omega) (by omega)
              have hls : lsL ifs xs w nh (sd + (j : Int)) ρ i = decide (lotF (sd + (j : Int)) (32 * ρ 72 + (i : Int)) < LV ifs xs w nh ρ i 1) := by unfold lsL rLies; rw [decide_eq_true z, Bool.true_and]
              by_cases zl : lotF (sd + (j : Int)) (32 * ρ 72 + (i : Int)) < LV ifs xs w nh ρ i 1
              · rw [decide_eq_true zl] at hls
                have eo : jd_or ((mkM 20 (fun k => (decide (k < s) && orB (lsL ifs xs w nh (sd + (k : Int)) ρ) i) || (decide (k < j) && lsL ifs xs w nh (sd + (k : Int)) ρ i)) : Nat) : Int) (jd_shl 1 (j : Int)) = ((mkM 20 (fun k => (decide (k < s) && orB (lsL ifs xs w nh (sd + (k : Int)) ρ) i) || (decide (k < j + 1) && lsL ifs xs w nh (sd + (k : Int)) ρ i)) : Nat) : Int) := by
                  have b1 := mk_b (fun k => (decide (k < s) && orB (lsL ifs xs w nh (sd + (k : Int)) ρ) i) || (decide (k < j) && lsL ifs xs w nh (sd + (k : Int)) ρ i))
                  have b2 : 1 <<< j < 1048576 := by rw [Nat.one_shiftLeft]; exact Nat.pow_lt_pow_right (by decide) (show j < 20 by omega)
                  rw [shl_1 j (by omega), or_n (by omega) (by omega), mk_or (by omega)]
                  congr 1
                  refine mk_congr (fun k hk => ?_)
                  by_cases ek : k = j
                  · subst ek; simp [hls]
                  · have : decide (k < j) = decide (k < j + 1) := by rw [Bool.eq_iff_iff]; simp; omega
                    simp [ek, this]
                (repeat (first | (with_reducible apply wm_o; focus (simp (disch := omega) only [wr_id, Int.toNat_natCast, Int.reduceToNat, tn_lk, tn_kl, if_pos, if_neg, ↓reduceIte, and_self, and_true, true_and, FX, FText htx, FState h40, c4, s7, ql, l1, wl]; with_reducible rfl)) | (with_reducible apply wm_q) | (with_reducible apply wm_c; focus (first | assumption | decide +kernel)) | (with_reducible apply wm_d; focus (simp (disch := omega) only [wr_id, Int.toNat_natCast, Int.reduceToNat, tn_lk, tn_kl, if_pos, if_neg, ↓reduceIte, and_self, and_true, true_and, FX, FText htx, FState h40, c4, s7, ql, l1, wl]; with_reducible rfl)) | (with_reducible apply wm_t; focus (first | omega | (simp (disch := omega) only [wr_id, FX, FText htx, FState h40, c4, s7, ql, l1, wl]; omega) | (simp (disch := omega) only [wr_id, FX, FText htx, FState h40, c4, s7, ql, l1, wl]; done))) | (with_reducible apply wm_f; focus (first | omega | (simp (disch := omega) only [wr_id, FX, FText htx, FState h40, c4, s7, ql, l1, wl]; omega) | (simp (disch := omega) only [wr_id, FX, FText htx, FState h40, c4, s7, ql, l1, wl]; done)))))
                exact hrec2 (j + 1) _ _ _ (by omega) (by omega) ⟨rfl, by omega, eo⟩
              · rw [decide_eq_false zl] at hls
                (repeat (first | (with_reducible apply wm_o; focus (simp (disch := omega) only [wr_id, Int.toNat_natCast, Int.reduceToNat, tn_lk, tn_kl, if_pos, if_neg, ↓reduceIte, and_self, and_true, true_and, FX, FText htx, FState h40, c4, s7, ql, l1, wl]; with_reducible rfl)) | (with_reducible apply wm_q) | (with_reducible apply wm_c; focus (first | assumption | decide +kernel)) | (with_reducible apply wm_d; focus (simp (disch := omega) only [wr_id, Int.toNat_natCast, Int.reduceToNat, tn_lk, tn_kl, if_pos, if_neg, ↓reduceIte, and_self, and_true, true_and, FX, FText htx, FState h40, c4, s7, ql, l1, wl]; with_reducible rfl)) | (with_reducible apply wm_t; focus (first | omega | (simp (disch := omega) only [wr_id, FX, FText htx, FState h40, c4, s7, ql, l1, wl]; omega) | (simp (disch := omega) only [wr_id, FX, FText htx, FState h40, c4, s7, ql, l1, wl]; done))) | (with_reducible apply wm_f; focus (first | omega | (simp (disch := omega) only [wr_id, FX, FText htx, FState h40, c4, s7, ql, l1, wl]; omega) | (simp (disch := omega) only [wr_id, FX, FText htx, FState h40, c4, s7, ql, l1, wl]; done)))))
                refine hrec2 (j + 1) _ _ _ (by omega) (by omega) ⟨rfl, by omega, ?_⟩
                congr 1
                refine mk_congr (fun k hk => ?_)
                by_cases ek : k = j
                · subst ek; simp [hls]
                · have : decide (k < j) = decide (k < j + 1) := by rw [Bool.eq_iff_iff]; simp; omega
                  rw [this]
        · congr 1
          exact mk_congr (fun k hk => by simp)
      · rw [if_neg z] at hli
        (repeat (first | (with_reducible apply wm_o; focus (simp (disch := omega) only [wr_id, Int.toNat_natCast, Int.reduceToNat, tn_lk, tn_kl, if_pos, if_neg, ↓reduceIte, and_self, and_true, true_and, hli]; with_reducible rfl)) | (with_reducible apply wm_q) | (with_reducible apply wm_c; focus (first | assumption | decide +kernel)) | (with_reducible apply wm_d; focus (simp (disch := omega) only [wr_id, Int.toNat_natCast, Int.reduceToNat, tn_lk, tn_kl, if_pos, if_neg, ↓reduceIte, and_self, and_true, true_and, hli]; with_reducible rfl)) | (with_reducible apply wm_t; focus (first | omega | (simp (disch := omega) only [wr_id, hli]; omega) | (simp (disch := omega) only [wr_id, hli]; done))) | (with_reducible apply wm_f; focus (first | omega | (simp (disch := omega) only [wr_id, hli]; omega) | (simp (disch := omega) only [wr_id, hli]; done)))))
        refine hrec (i + 1) _ _ _ (by omega) (by omega) ⟨?_, by omega, hJ⟩
        congr 1
        refine mk_congr (fun k hk => ?_)
        have hno : lsL ifs xs w nh (sd + (k : Int)) ρ i = false := by unfold lsL rLies; rw [decide_eq_false z]; simp
        show _ = (decide (k < s) && (orB (lsL ifs xs w nh (sd + (k : Int)) ρ) i || lsL ifs xs w nh (sd + (k : Int)) ρ i))
        rw [hno, Bool.or_false]
    · simp (disch := omega) only [wr_id] at cc
      obtain rfl : i = 18 := by omega
      exact wm_r ⟨rfl, hJ⟩
  · have : mkM 20 (fun k => decide (k < s) && orB (lsL ifs xs w nh (sd + (k : Int)) ρ) 0) = 0 := by
      rw [mk_congr (g' := fun _ => false) (fun i hi => by show (decide (i < s) && false) = false; simp)]
      exact mkM_no 20
    rw [this]; rfl
theorem age0 : ∀ k : Nat, k < 18 → jd_wr (jd_and (jd_shr 0 (k : Int)) 1) = 0 := by decide +kernel
theorem cnt_not {p : Nat → Bool} : ∀ {m : Nat}, cntB p m + cntB (fun k => !p k) m = m
  | 0 => rfl
  | m + 1 => by
    have ih := cnt_not (p := p) (m := m)
    rw [cntB, cntB]
    cases p m <;> simp <;> omega
theorem P_year (hI : INV t d rt I) {x y : Int} (hx : in32 x) (hy : in32 y) : both t d rt (f_X11_year 0 x y (mm t d rt I)) (fun M => f_X12_year 369 x y M) := by
  have hI' := hI
  obtain ⟨lv, w, h, n, nh, hl, sd, ifs, xs, hR, ρ, u, H, hd, G, hC, hM⟩ := hI
  have sq := hR.2.1
  have hcf := hR.2.2.1
  have hmf := hR.2.2.2.1
  have hz := hR.2.2.2.2.2.2.2.2.2
  have hn := sq.2.2.2.2.2.2.1
  have hw : 2 ≤ w ∧ w ≤ 6 := ⟨sq.1, sq.2.1⟩
  have htx := hcf.1
  have kb := (tx_k htx).2.2.2
  have htxx : t = 3 ∨ t = 16 := by simpa using htx
  have ex := wr_in hx
  have ey := wr_in hy
  have hx' := hx
  have hy' := hy
  unfold in32 at hx' hy'
  have h40 : 40 ∈ stL := by decide +kernel
  have w1 := wr_1
  unfold both f_X11_year
  by_cases zx : 0 ≤ x ∧ x ≤ 60
  · have lo := fun (M : jMem) => m_long_t (M := M) hx zx
    by_cases zy : 1 ≤ y ∧ y ≤ 20
    · have in1 := fun (M : jMem) => m_in_t (a := 1) (b := 20) (M := M) hy (i32 (by omega) (by omega)) (i32 (by omega) (by omega)) zy
      obtain ⟨m, rfl⟩ : ∃ m : Nat, x = (m : Int) := ⟨x.toNat, by omega⟩
      obtain ⟨s, rfl⟩ : ∃ s : Nat, y = (s : Int) := ⟨y.toNat, by omega⟩
      obtain ⟨br, hbr⟩ : ∃ br : Nat → Bool, br = fun (k : Nat) => orB (brS ifs xs w nh ρ (sd + (k : Int))) m := ⟨_, rfl⟩
      -- the model
      have mdl : ∀ J, frm scrC I J → wm t d rt (f_X12_year 369 (m : Int) (s : Int) (mm t d rt J)) (fun r' K => jd_wr (cntB (fun k => !br k) s : Int) = jd_wr r' ∧ INV t d rt K) := by
        intro J jC
        have jS : frm (fun a => scrC a ∨ stS a) I J := frm_sub jC (fun a ha => Or.inl ha)
        have hRJ := REST_c jS hR
        have hMJ := stM_c jS hM
        unfold f_X12_year
        (repeat (first | (with_reducible apply wm_o; focus (simp (disch := omega) only [wr_id, Int.toNat_natCast, Int.reduceToNat, tn_lk, tn_kl, if_pos, if_neg, ↓reduceIte, and_self, and_true, true_and, lo, in1]; with_reducible rfl)) | (with_reducible apply wm_q) | (with_reducible apply wm_c; focus (first | assumption | decide +kernel)) | (with_reducible apply wm_d; focus (simp (disch := omega) only [wr_id, Int.toNat_natCast, Int.reduceToNat, tn_lk, tn_kl, if_pos, if_neg, ↓reduceIte, and_self, and_true, true_and, lo, in1]; with_reducible rfl)) | (with_reducible apply wm_t; focus (first | omega | (simp (disch := omega) only [wr_id, lo, in1]; omega) | (simp (disch := omega) only [wr_id, lo, in1]; done))) | (with_reducible apply wm_f; focus (first | omega | (simp (disch := omega) only [wr_id, lo, in1]; omega) | (simp (disch := omega) only [wr_id, lo, in1]; done)))))
        refine wm_lp3 s (fun i a y K => a = (cntB (fun k => !br k) i : Int) ∧ y = (i : Int) ∧ frM scrM scrF J K ∧ zM K) ?_ (Nat.lt_of_le_of_lt (show s ≤ 20 by omega) (jfuel_n (by decide))) ⟨rfl, rfl, frM_refl _ _ _, hRJ.2.2.2.2.2.2.2.2.2⟩
        rintro i hi a y K ⟨rfl, rfl, hK, zK⟩ rec hrec
        have cK := cfM_frm hK (fun a _ _ _ _ _ _ _ _ => by unfold scrM; omega) (by unfold scrF; omega) hRJ.2.2.2.1
        have K0' : K 400 = ρ := (hK.1 400 (by decide) (by unfold scrM; omega)).trans hMJ.1
        by_cases e : i = s
        · subst e
          (repeat (first | (with_reducible apply wm_o; focus (simp (disch := omega) only [wr_id, Int.toNat_natCast, Int.reduceToNat, tn_lk, tn_kl, if_pos, if_neg, ↓reduceIte, and_self, and_true, true_and]; with_reducible rfl)) | (with_reducible apply wm_q) | (with_reducible apply wm_c; focus (first | assumption | decide +kernel)) | (with_reducible apply wm_d; focus (simp (disch := omega) only [wr_id, Int.toNat_natCast, Int.reduceToNat, tn_lk, tn_kl, if_pos, if_neg, ↓reduceIte, and_self, and_true, true_and]; with_reducible rfl)) | (with_reducible apply wm_t; focus (first | omega | (simp (disch := omega) only [wr_id]; omega) | (simp (disch := omega) only [wr_id]; done))) | (with_reducible apply wm_f; focus (first | omega | (simp (disch := omega) only [wr_id]; omega) | (simp (disch := omega) only [wr_id]; done)))))
          exact wm_r ⟨rfl, INV_q hR hC hM jC hK zK⟩
        · (repeat (first | (with_reducible apply wm_o; focus (simp (disch := omega) only [wr_id, Int.toNat_natCast, Int.reduceToNat, tn_lk, tn_kl, if_pos, if_neg, ↓reduceIte, and_self, and_true, true_and]; with_reducible rfl)) | (with_reducible apply wm_q) | (with_reducible apply wm_c; focus (first | assumption | decide +kernel)) | (with_reducible apply wm_d; focus (simp (disch := omega) only [wr_id, Int.toNat_natCast, Int.reduceToNat, tn_lk, tn_kl, if_pos, if_neg, ↓reduceIte, and_self, and_true, true_and]; with_reducible rfl)) | (with_reducible apply wm_t; focus (first | omega | (simp (disch := omega) only [wr_id]; omega) | (simp (disch := omega) only [wr_id]; done))) | (with_reducible apply wm_f; focus (first | omega | (simp (disch := omega) only [wr_id]; omega) | (simp (disch := omega) only [wr_id]; done)))))
          refine wm_b (m_cop cK zK K0' hMJ.2.1) (fun v L hL => ?_)
          obtain ⟨k1, k2, k3, k4, k5⟩ := hL
          (repeat (first | (with_reducible apply wm_o; focus (simp (disch := omega) only [wr_id, Int.toNat_natCast, Int.reduceToNat, tn_lk, tn_kl, if_pos, if_neg, ↓reduceIte, and_self, and_true, true_and, FM, k5]; with_reducible rfl)) | (with_reducible apply wm_q) | (with_reducible apply wm_c; focus (first | assumption | decide +kernel)) | (with_reducible apply wm_d; focus (simp (disch := omega) only [wr_id, Int.toNat_natCast, Int.reduceToNat, tn_lk, tn_kl, if_pos, if_neg, ↓reduceIte, and_self, and_true, true_and, FM, k5]; with_reducible rfl)) | (with_reducible apply wm_t; focus (first | omega | (simp (disch := omega) only [wr_id, FM, k5]; omega) | (simp (disch := omega) only [wr_id, FM, k5]; done))) | (with_reducible apply wm_f; focus (first | omega | (simp (disch := omega) only [wr_id, FM, k5]; omega) | (simp (disch := omega) only [wr_id, FM, k5]; done)))))
          have fU : frM (fun _ => False) (fun j => j = 49) L (up L 369 49 (sd + (i : Int))) := frM_fd (frM_refl _ _ _) rfl
          have cU := cfM_frm fU (fun a _ _ _ _ _ _ _ _ => fun q => q) (by decide) k3
          have U49 : up L 369 49 (sd + (i : Int)) 369 49 = sd + (i : Int) := by rw [up_g, if_pos rfl]
          refine wm_b (m_goes (sd' := sd + (i : Int)) cU hC.1 (by rw [up_ne (by decide)]; exact k4) U49 (show m ≤ 60 by omega)) (fun v2 N hN => ?_)
          obtain ⟨n1, n2⟩ := hN
          have N74 : N 401 74 = gsR ifs xs w nh (sd + (i : Int)) ρ m 74 := by rw [n2]
          have N0 : N 400 74 = ρ 74 := by
            rw [n1.1 400 (by decide) (by omega), up_ne (by decide)]
            have : L 400 = ρ := (k1.1 400 (by decide) (by unfold scrM; omega)).trans K0'
            rw [this]
          have gl := gs_le (ifs := ifs) (xs := xs) (w := w) (nh := nh) (ρ := ρ) (sd' := sd + (i : Int)) m
          have fN : frM scrM scrF J N := frM_trans hK (frM_trans k1 (frM_trans (frM_sub fU (fun a ha => ha.elim) (fun a ha => by unfold scrF; omega)) (frM_sub n1 (fun a ha => by unfold scrM; omega) (fun a ha => by unfold scrF; omega))))
          have zN : zM N := by
            refine ⟨by rw [n2]; exact gs_z hMJ.2.1 m, ?_, ?_⟩
            · unfold b01; rw [n1.1 409 (by decide) (by omega), up_ne (by decide)]; exact k2.2.1
            · unfold b01; rw [n1.1 410 (by decide) (by omega), up_ne (by decide)]; exact k2.2.2
          cases eb : br i with
          | false =>
            have ge : gsR ifs xs w nh (sd + (i : Int)) ρ m 74 = ρ 74 := by
              rw [hbr] at eb
              rw [gs_ag m eb, ag_74e]
            rw [ge] at N74
            have es : cntB (fun k => !br k) (i + 1) = cntB (fun k => !br k) i + 1 := by rw [cntB, eb]; rfl
            (repeat (first | (with_reducible apply wm_o; focus (simp (disch := omega) only [wr_id, Int.toNat_natCast, Int.reduceToNat, tn_lk, tn_kl, if_pos, if_neg, ↓reduceIte, and_self, and_true, true_and, FM, N74, N0]; with_reducible rfl)) | (with_reducible apply wm_q) | (with_reducible apply wm_c; focus (first | assumption | decide +kernel)) | (with_reducible apply wm_d; focus (simp (disch := omega) only [wr_id, Int.toNat_natCast, Int.reduceToNat, tn_lk, tn_kl, if_pos, if_neg, ↓reduceIte, and_self, and_true, true_and, FM, N74, N0]; with_reducible rfl)) | (with_reducible apply wm_t; focus (first | omega | (simp (disch := omega) only [wr_id, FM, N74, N0]; omega) | (simp (disch := omega) only [wr_id, FM, N74, N0]; done))) | (with_reducible apply wm_f; focus (first | omega | (simp (disch := omega) only [wr_id, FM, N74, N0]; omega) | (simp (disch := omega) only [wr_id, FM, N74, N0]; done)))))
            exact hrec (i + 1) _ _ _ (by omega) (by omega) ⟨by rw [es]; omega, by omega, fN, zN⟩
          | true =>
            have gg : ρ 74 < gsR ifs xs w nh (sd + (i : Int)) ρ m 74 := by
              rw [hbr] at eb
              exact gs_gt m eb
            have es : cntB (fun k => !br k) (i + 1) = cntB (fun k => !br k) i := by rw [cntB, eb]; rfl
            have hne : ¬ jd_wr (gsR ifs xs w nh (sd + (i : Int)) ρ m 74) = jd_wr (ρ 74) := by
              have := wr_ne (a := ρ 74) (d := gsR ifs xs w nh (sd + (i : Int)) ρ m 74 - ρ 74) (by omega) (by omega)
              rw [show ρ 74 + (gsR ifs xs w nh (sd + (i : Int)) ρ m 74 - ρ 74) = gsR ifs xs w nh (sd + (i : Int)) ρ m 74 by omega] at this
              exact this
            (repeat (first | (with_reducible apply wm_o; focus (simp (disch := omega) only [wr_id, Int.toNat_natCast, Int.reduceToNat, tn_lk, tn_kl, if_pos, if_neg, ↓reduceIte, and_self, and_true, true_and, FM, N74, N0]; with_reducible rfl)) | (with_reducible apply wm_q) | (with_reducible apply wm_c; focus (first | assumption | decide +kernel)) | (with_reducible apply wm_d; focus (simp (disch := omega) only [wr_id, Int.toNat_natCast, Int.reduceToNat, tn_lk, tn_kl, if_pos, if_neg, ↓reduceIte, and_self, and_true, true_and, FM, N74, N0]; with_reducible rfl)) | (with_reducible apply wm_t; focus (first | omega | (simp (disch := omega) only [wr_id, FM, N74, N0]; omega) | (simp (disch := omega) only [wr_id, FM, N74, N0]; done))) | (with_reducible apply wm_f; focus (first | omega | (simp (disch := omega) only [wr_id, FM, N74, N0]; omega) | (simp (disch := omega) only [wr_id, FM, N74, N0]; done)))))
            exact hrec (i + 1) _ _ _ (by omega) (by omega) ⟨by rw [es], by omega, fN, zN⟩
      (repeat (first | (with_reducible apply wm_o; focus (simp (disch := omega) only [wr_id, Int.toNat_natCast, Int.reduceToNat, tn_lk, tn_kl, if_pos, if_neg, ↓reduceIte, and_self, and_true, true_and, FX, w1]; with_reducible rfl)) | (with_reducible apply wm_q) | (with_reducible apply wm_c; focus (first | assumption | decide +kernel)) | (with_reducible apply wm_d; focus (simp (disch := omega) only [wr_id, Int.toNat_natCast, Int.reduceToNat, tn_lk, tn_kl, if_pos, if_neg, ↓reduceIte, and_self, and_true, true_and, FX, w1]; with_reducible rfl)) | (with_reducible apply wm_t; focus (first | omega | (simp (disch := omega) only [wr_id, FX, w1]; omega) | (simp (disch := omega) only [wr_id, FX, w1]; done))) | (with_reducible apply wm_f; focus (first | omega | (simp (disch := omega) only [wr_id, FX, w1]; omega) | (simp (disch := omega) only [wr_id, FX, w1]; done)))))
      refine wm_b (w_copyOf h40 now_in (by decide) hC.2.1) (fun v J hJ => ?_)
      obtain ⟨j1, j2⟩ := hJ
      refine wm_lp3 m (fun i a y K => a = ((mkM 20 (fun k => decide (k < s) && orB (brS ifs xs w nh ρ (sd + (k : Int))) i) : Nat) : Int) ∧ y = (i : Int) ∧ frm (fun a => a = t + 12 ∨ stF 40 a) I K ∧ stR K 40 w (agR ρ i)) ?_ (Nat.lt_of_le_of_lt (show m ≤ 60 by omega) (jfuel_n (by decide))) ⟨?_, rfl, frm_sub j1 (fun a ha => Or.inr ha), j2⟩
      · rintro i hi a y K ⟨rfl, rfl, hK, sK⟩ rec hrec
        by_cases e : i = m
        · subst e
          have hbc := fun (M : jMem) => q_bitCount (mk_b (fun k => decide (k < s) && orB (brS ifs xs w nh ρ (sd + (k : Int))) i)) M
          (repeat (first | (with_reducible apply wm_o; focus (simp (disch := omega) only [wr_id, Int.toNat_natCast, Int.reduceToNat, tn_lk, tn_kl, if_pos, if_neg, ↓reduceIte, and_self, and_true, true_and, hbc]; with_reducible rfl)) | (with_reducible apply wm_q) | (with_reducible apply wm_c; focus (first | assumption | decide +kernel)) | (with_reducible apply wm_d; focus (simp (disch := omega) only [wr_id, Int.toNat_natCast, Int.reduceToNat, tn_lk, tn_kl, if_pos, if_neg, ↓reduceIte, and_self, and_true, true_and, hbc]; with_reducible rfl)) | (with_reducible apply wm_t; focus (first | omega | (simp (disch := omega) only [wr_id, hbc]; omega) | (simp (disch := omega) only [wr_id, hbc]; done))) | (with_reducible apply wm_f; focus (first | omega | (simp (disch := omega) only [wr_id, hbc]; omega) | (simp (disch := omega) only [wr_id, hbc]; done)))))
          refine wm_r ?_
          have ec : cntB (fun j => (mkM 20 (fun k => decide (k < s) && orB (brS ifs xs w nh ρ (sd + (k : Int))) i)).testBit j) 20 = cntB br s := by
            rw [cntB_ext (q := fun k => decide (k < s) && br k) (fun j hj => by rw [mkM_tb, decide_eq_true hj, Bool.true_and, hbr]), cntB_cut (m := s) (by omega) (fun c c1 c2 => by rw [decide_eq_false (by omega), Bool.false_and])]
            exact cntB_ext (fun j hj => by rw [decide_eq_true hj, Bool.true_and])
          have hcn := cnt_not (p := br) (m := s)
          rw [ec, show (s : Int) - ((cntB br s : Nat) : Int) = ((cntB (fun k => !br k) s : Nat) : Int) by omega]
          exact mdl K (frm_sub hK (fun a ha => by unfold stF at ha; unfold scrC; omega))
        · have cK := cfC_frm hK (fun a a1 a2 => by unfold stF; omega) hcf
          have rK := rOK_ag hC.1 i
          (repeat (first | (with_reducible apply wm_o; focus (simp (disch := omega) only [wr_id, Int.toNat_natCast, Int.reduceToNat, tn_lk, tn_kl, if_pos, if_neg, ↓reduceIte, and_self, and_true, true_and, FX]; with_reducible rfl)) | (with_reducible apply wm_q) | (with_reducible apply wm_c; focus (first | assumption | decide +kernel)) | (with_reducible apply wm_d; focus (simp (disch := omega) only [wr_id, Int.toNat_natCast, Int.reduceToNat, tn_lk, tn_kl, if_pos, if_neg, ↓reduceIte, and_self, and_true, true_and, FX]; with_reducible rfl)) | (with_reducible apply wm_t; focus (first | omega | (simp (disch := omega) only [wr_id, FX]; omega) | (simp (disch := omega) only [wr_id, FX]; done))) | (with_reducible apply wm_f; focus (first | omega | (simp (disch := omega) only [wr_id, FX]; omega) | (simp (disch := omega) only [wr_id, FX]; done)))))
          refine wm_b (c_seeds sq cK rK sK h40 (s := s) (by omega)) (fun v2 L hL => ?_)
          obtain ⟨rfl, l2⟩ := hL
          have sL := stR_frm l2 (fun a a1 a2 => by omega) sK
          (repeat (first | (with_reducible apply wm_o; focus (simp (disch := omega) only [wr_id, Int.toNat_natCast, Int.reduceToNat, tn_lk, tn_kl, if_pos, if_neg, ↓reduceIte, and_self, and_true, true_and, FX]; with_reducible rfl)) | (with_reducible apply wm_q) | (with_reducible apply wm_c; focus (first | assumption | decide +kernel)) | (with_reducible apply wm_d; focus (simp (disch := omega) only [wr_id, Int.toNat_natCast, Int.reduceToNat, tn_lk, tn_kl, if_pos, if_neg, ↓reduceIte, and_self, and_true, true_and, FX]; with_reducible rfl)) | (with_reducible apply wm_t; focus (first | omega | (simp (disch := omega) only [wr_id, FX]; omega) | (simp (disch := omega) only [wr_id, FX]; done))) | (with_reducible apply wm_f; focus (first | omega | (simp (disch := omega) only [wr_id, FX]; omega) | (simp (disch := omega) only [wr_id, FX]; done)))))
          refine wm_b (w_ageAll (L := fun _ => false) h40 hw hn sq.2.2.2.2.1 rK sL (fun k hk => ⟨fun _ => rfl, fun _ => age0 k hk⟩)) (fun v3 L2 hL2 => ?_)
          have eo : jd_or ((mkM 20 (fun k => decide (k < s) && orB (brS ifs xs w nh ρ (sd + (k : Int))) i) : Nat) : Int) ((mkM 20 (fun k => decide (k < s) && orB (lsL ifs xs w nh (sd + (k : Int)) (agR ρ i)) 18) : Nat) : Int) = ((mkM 20 (fun k => decide (k < s) && orB (brS ifs xs w nh ρ (sd + (k : Int))) (i + 1)) : Nat) : Int) := by
            have b1 := mk_b (fun k => decide (k < s) && orB (brS ifs xs w nh ρ (sd + (k : Int))) i)
            have b2 := mk_b (fun k => decide (k < s) && orB (lsL ifs xs w nh (sd + (k : Int)) (agR ρ i)) 18)
            rw [or_n (by omega) (by omega), mk_or2]
            congr 1
            refine mk_congr (fun k hk => ?_)
            show _ = (decide (k < s) && (orB (brS ifs xs w nh ρ (sd + (k : Int))) i || orB (lsL ifs xs w nh (sd + (k : Int)) (agR ρ i)) 18))
            cases decide (k < s) <;> simp
          refine hrec (i + 1) _ _ _ (by omega) (by omega) ⟨eo, by omega, frm_trans (frm_trans hK (frm_sub l2 (fun a ha => Or.inl ha))) (frm_sub hL2.1 (fun a ha => Or.inr ha)), hL2.2⟩
      · have : mkM 20 (fun k => decide (k < s) && orB (brS ifs xs w nh ρ (sd + (k : Int))) 0) = 0 := by
          rw [mk_congr (g' := fun _ => false) (fun i hi => by show (decide (i < s) && false) = false; simp)]
          exact mkM_no 20
        rw [this]; rfl
    · have in1 := fun (M : jMem) => m_in_f (a := 1) (b := 20) (M := M) hy (i32 (by omega) (by omega)) (i32 (by omega) (by omega)) zy
      have mod : wm t d rt (f_X12_year 369 x y (mm t d rt I)) (fun r' K => jd_wr (-1) = jd_wr r' ∧ INV t d rt K) := by
        unfold f_X12_year
        (repeat (first | (with_reducible apply wm_o; focus (simp (disch := omega) only [wr_id, Int.toNat_natCast, Int.reduceToNat, tn_lk, tn_kl, if_pos, if_neg, ↓reduceIte, and_self, and_true, true_and, lo, in1]; with_reducible rfl)) | (with_reducible apply wm_q) | (with_reducible apply wm_c; focus (first | assumption | decide +kernel)) | (with_reducible apply wm_d; focus (simp (disch := omega) only [wr_id, Int.toNat_natCast, Int.reduceToNat, tn_lk, tn_kl, if_pos, if_neg, ↓reduceIte, and_self, and_true, true_and, lo, in1]; with_reducible rfl)) | (with_reducible apply wm_t; focus (first | omega | (simp (disch := omega) only [wr_id, lo, in1]; omega) | (simp (disch := omega) only [wr_id, lo, in1]; done))) | (with_reducible apply wm_f; focus (first | omega | (simp (disch := omega) only [wr_id, lo, in1]; omega) | (simp (disch := omega) only [wr_id, lo, in1]; done)))))
        exact wm_r ⟨rfl, hI'⟩
      by_cases z1 : y < 1
      · (repeat (first | (with_reducible apply wm_o; focus (simp (disch := omega) only [wr_id, Int.toNat_natCast, Int.reduceToNat, tn_lk, tn_kl, if_pos, if_neg, ↓reduceIte, and_self, and_true, true_and, ex, ey, w1]; with_reducible rfl)) | (with_reducible apply wm_q) | (with_reducible apply wm_c; focus (first | assumption | decide +kernel)) | (with_reducible apply wm_d; focus (simp (disch := omega) only [wr_id, Int.toNat_natCast, Int.reduceToNat, tn_lk, tn_kl, if_pos, if_neg, ↓reduceIte, and_self, and_true, true_and, ex, ey, w1]; with_reducible rfl)) | (with_reducible apply wm_t; focus (first | omega | (simp (disch := omega) only [wr_id, ex, ey, w1]; omega) | (simp (disch := omega) only [wr_id, ex, ey, w1]; done))) | (with_reducible apply wm_f; focus (first | omega | (simp (disch := omega) only [wr_id, ex, ey, w1]; omega) | (simp (disch := omega) only [wr_id, ex, ey, w1]; done)))))
        exact wm_r mod
      · (repeat (first | (with_reducible apply wm_o; focus (simp (disch := omega) only [wr_id, Int.toNat_natCast, Int.reduceToNat, tn_lk, tn_kl, if_pos, if_neg, ↓reduceIte, and_self, and_true, true_and, ex, ey, w1]; with_reducible rfl)) | (with_reducible apply wm_q) | (with_reducible apply wm_c; focus (first | assumption | decide +kernel)) | (with_reducible apply wm_d; focus (simp (disch := omega) only [wr_id, Int.toNat_natCast, Int.reduceToNat, tn_lk, tn_kl, if_pos, if_neg, ↓reduceIte, and_self, and_true, true_and, ex, ey, w1]; with_reducible rfl)) | (with_reducible apply wm_t; focus (first | omega | (simp (disch := omega) only [wr_id, ex, ey, w1]; omega) | (simp (disch := omega) only [wr_id, ex, ey, w1]; done))) | (with_reducible apply wm_f; focus (first | omega | (simp (disch := omega) only [wr_id, ex, ey, w1]; omega) | (simp (disch := omega) only [wr_id, ex, ey, w1]; done)))))
        exact wm_r mod
  · have lo := fun (M : jMem) => m_long_f (M := M) hx zx
    have mod : wm t d rt (f_X12_year 369 x y (mm t d rt I)) (fun r' K => jd_wr (-1) = jd_wr r' ∧ INV t d rt K) := by
      unfold f_X12_year
      (repeat (first | (with_reducible apply wm_o; focus (simp (disch := omega) only [wr_id, Int.toNat_natCast, Int.reduceToNat, tn_lk, tn_kl, if_pos, if_neg, ↓reduceIte, and_self, and_true, true_and, lo]; with_reducible rfl)) | (with_reducible apply wm_q) | (with_reducible apply wm_c; focus (first | assumption | decide +kernel)) | (with_reducible apply wm_d; focus (simp (disch := omega) only [wr_id, Int.toNat_natCast, Int.reduceToNat, tn_lk, tn_kl, if_pos, if_neg, ↓reduceIte, and_self, and_true, true_and, lo]; with_reducible rfl)) | (with_reducible apply wm_t; focus (first | omega | (simp (disch := omega) only [wr_id, lo]; omega) | (simp (disch := omega) only [wr_id, lo]; done))) | (with_reducible apply wm_f; focus (first | omega | (simp (disch := omega) only [wr_id, lo]; omega) | (simp (disch := omega) only [wr_id, lo]; done)))))
      exact wm_r ⟨rfl, hI'⟩
    by_cases z1 : x < 0
    · (repeat (first | (with_reducible apply wm_o; focus (simp (disch := omega) only [wr_id, Int.toNat_natCast, Int.reduceToNat, tn_lk, tn_kl, if_pos, if_neg, ↓reduceIte, and_self, and_true, true_and, ex]; with_reducible rfl)) | (with_reducible apply wm_q) | (with_reducible apply wm_c; focus (first | assumption | decide +kernel)) | (with_reducible apply wm_d; focus (simp (disch := omega) only [wr_id, Int.toNat_natCast, Int.reduceToNat, tn_lk, tn_kl, if_pos, if_neg, ↓reduceIte, and_self, and_true, true_and, ex]; with_reducible rfl)) | (with_reducible apply wm_t; focus (first | omega | (simp (disch := omega) only [wr_id, ex]; omega) | (simp (disch := omega) only [wr_id, ex]; done))) | (with_reducible apply wm_f; focus (first | omega | (simp (disch := omega) only [wr_id, ex]; omega) | (simp (disch := omega) only [wr_id, ex]; done)))))
      exact wm_r mod
    · (repeat (first | (with_reducible apply wm_o; focus (simp (disch := omega) only [wr_id, Int.toNat_natCast, Int.reduceToNat, tn_lk, tn_kl, if_pos, if_neg, ↓reduceIte, and_self, and_true, true_and, ex]; with_reducible rfl)) | (with_reducible apply wm_q) | (with_reducible apply wm_c; focus (first | assumption | decide +kernel)) | (with_reducible apply wm_d; focus (simp (disch := omega) only [wr_id, Int.toNat_natCast, Int.reduceToNat, tn_lk, tn_kl, if_pos, if_neg, ↓reduceIte, and_self, and_true, true_and, ex]; with_reducible rfl)) | (with_reducible apply wm_t; focus (first | omega | (simp (disch := omega) only [wr_id, ex]; omega) | (simp (disch := omega) only [wr_id, ex]; done))) | (with_reducible apply wm_f; focus (first | omega | (simp (disch := omega) only [wr_id, ex]; omega) | (simp (disch := omega) only [wr_id, ex]; done)))))
      exact wm_r mod
end YR
