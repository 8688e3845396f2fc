/-! ===== calls: way ===== -/
def abD (a b : Int) : Int := (((a - b).natAbs : Nat) : Int)
theorem abD_c (a b : Int) : abD a b = abD b a := by unfold abD; omega
def dvF (v : Int) : Int := Int.tdiv (jd_wr v) (jd_wr 4)
theorem dv_4 (v : Int) : jm_dv v 4 = some (dvF v) := by
  unfold jm_dv
  rw [if_neg (by decide +kernel)]
  rfl
/-- how far apart two pavings' hills are, in row y of corners -/
def apR (w y m m' : Nat) : Int := smI (fun x => abD (hlC w y m x) (hlC w y m' x)) (w + 1)
def apV (w h : Nat) (p p' : List Int) : Int := smI (fun y => apR w y (lnF w h p y) (lnF w h p' y)) (h + 1)
theorem apR_b {w : Nat} (hw : w ≤ 6) (y m m' : Nat) : 0 ≤ apR w y m m' ∧ apR w y m m' ≤ 300 := by
  have h1 := smI_b (f := fun x => abD (hlC w y m x) (hlC w y m' x)) (a := 0) (b := 40) (k := w + 1) (fun j hj => by
    have := hlC_b w y m j
    have := hlC_b w y m' j
    unfold abD
    omega)
  unfold apR
  have e1 : ((w + 1 : Nat) : Int) ≤ 7 := by omega
  have e2 : ((w + 1 : Nat) : Int) * 40 ≤ 7 * 40 := Int.mul_le_mul_of_nonneg_right e1 (by decide)
  omega
theorem apV_b {w h : Nat} (hw : w ≤ 6) (hh : h ≤ 6) (p p' : List Int) : 0 ≤ apV w h p p' ∧ apV w h p p' ≤ 2100 := by
  have h1 := smI_b (f := fun y => apR w y (lnF w h p y) (lnF w h p' y)) (a := 0) (b := 300) (k := h + 1) (fun j hj => apR_b hw j _ _)
  unfold apV
  have e1 : ((h + 1 : Nat) : Int) ≤ 7 := by omega
  have e2 : ((h + 1 : Nat) : Int) * 300 ≤ 7 * 300 := Int.mul_le_mul_of_nonneg_right e1 (by decide)
  omega
theorem smI_4 {f : Nat → Int} : ∀ {k : Nat}, (∀ j, j < k → (4 : Int) ∣ f j) → (4 : Int) ∣ smI f k
  | 0, _ => by unfold smI; omega
  | k + 1, h => by
    have := smI_4 (fun j hj => h j (by omega)) (k := k)
    have := h k (by omega)
    rw [smI_s]
    omega
theorem apV_4 (w h : Nat) (p p' : List Int) : (4 : Int) ∣ apV w h p p' := smI_4 (fun y _ => smI_4 (fun x _ => by
  have := hlC_4 w y (lnF w h p y) (lnF w h p' y) x
  unfold abD
  omega))
section WY
variable {t d rt : Nat} {I J K : Nat → Nat → Int} {lv w h n nh r : Nat} {hl cl na nd U : Nat → Bool} {sd : Int} {ifs : Nat → List LwI} {xs : Nat → List CI} {ρ : Nat → Int} {u : Nat} {H : Nat → Nat → Int} {hd : Nat → Bool} {G : Nat → Nat → Int} {p p' : List Int}
theorem j_abs {v : Int} (hv : in32 v) (M : jMem) : f_J9_abs_0f7a4 v M = some (((v.natAbs : Nat) : Int), M) := by
  unfold in32 at hv
  unfold f_J9_abs_0f7a4
  by_cases z : v < 0
  · rw [wr_id hv.1 hv.2, if_pos z]; congr 2; omega
  · rw [wr_id hv.1 hv.2, if_neg z]; congr 2; omega
theorem m_off {a b : Int} (ha : in32 a) (hb : in32 b) (M : jMem) : f_X12_off a b M = some (abD a b, M) := by
  unfold in32 at ha hb
  unfold f_X12_off abD
  by_cases z : a < b
  · rw [wr_id ha.1 ha.2, wr_id hb.1 hb.2, if_pos z]; congr 2; omega
  · rw [wr_id ha.1 ha.2, wr_id hb.1 hb.2, if_neg z]; congr 2; omega
theorem w_apartRow {y mask m' : Nat} (hw : 2 ≤ w ∧ w ≤ 6) (h5 : I 311 5 = (w : Int)) (hy : y ≤ 6) (hm : mask < 64) (hg : ∀ x, x ≤ w → I 366 x = hlC w y m' x) : wm t d rt (f_X0_apartInRow 348 311 (y : Int) (mask : Int) (mm t d rt I)) (fun r J => r = apR w y mask m' ∧ frm (fun x => x = 365) I J) := by
  have k4 : (K0 311).1 = 4 ∧ 311 < 418 := by decide +kernel
  have w0 := wr_0
  unfold f_X0_apartInRow
  (repeat (first | (with_reducible apply wm_o; focus (simp (disch := omega) only [wr_id, Int.toNat_natCast, Int.reduceToNat, tn_lk, tn_kl, if_pos, if_neg, ↓reduceIte, and_self, and_true, true_and, FBest]; with_reducible rfl)) | (with_reducible apply wm_q) | (with_reducible apply wm_c; focus (first | assumption | decide +kernel)) | (with_reducible apply wm_d; focus (simp (disch := omega) only [wr_id, Int.toNat_natCast, Int.reduceToNat, tn_lk, tn_kl, if_pos, if_neg, ↓reduceIte, and_self, and_true, true_and, FBest]; with_reducible rfl)) | (with_reducible apply wm_t; focus (first | omega | (simp (disch := omega) only [wr_id, FBest]; omega) | (simp (disch := omega) only [wr_id, FBest]; done))) | (with_reducible apply wm_f; focus (first | omega | (simp (disch := omega) only [wr_id, FBest]; omega) | (simp (disch := omega) only [wr_id, FBest]; done)))))
  refine wm_b (w_climb (Or.inl rfl) hw h5 hy hm) (fun v J hJ => ?_)
  obtain ⟨j1, j2⟩ := hJ
  have j5 : J 311 5 = (w : Int) := by rw [j1 _ (by omega)]; exact h5
  refine wm_lp3 (w + 1) (fun i a x K => a = smI (fun x => abD (hlC w y mask x) (hlC w y m' x)) i ∧ x = (i : Int) ∧ K = J) ?_ (Nat.lt_of_le_of_lt (show w + 1 ≤ 7 by omega) (jfuel_n (by decide))) ⟨rfl, rfl, rfl⟩
  rintro i hi a x K ⟨rfl, rfl, rfl⟩ rec hrec
  by_cases e : i = w + 1
  · subst e
    (repeat (first | (with_reducible apply wm_o; focus (simp (disch := omega) only [wr_id, Int.toNat_natCast, Int.reduceToNat, tn_lk, tn_kl, if_pos, if_neg, ↓reduceIte, and_self, and_true, true_and, FRows ev_in, j5]; with_reducible rfl)) | (with_reducible apply wm_q) | (with_reducible apply wm_c; focus (first | assumption | decide +kernel)) | (with_reducible apply wm_d; focus (simp (disch := omega) only [wr_id, Int.toNat_natCast, Int.reduceToNat, tn_lk, tn_kl, if_pos, if_neg, ↓reduceIte, and_self, and_true, true_and, FRows ev_in, j5]; with_reducible rfl)) | (with_reducible apply wm_t; focus (first | omega | (simp (disch := omega) only [wr_id, FRows ev_in, j5]; omega) | (simp (disch := omega) only [wr_id, FRows ev_in, j5]; done))) | (with_reducible apply wm_f; focus (first | omega | (simp (disch := omega) only [wr_id, FRows ev_in, j5]; omega) | (simp (disch := omega) only [wr_id, FRows ev_in, j5]; done)))))
    exact wm_r ⟨rfl, j1⟩
  · have ja := j2 i (by omega)
    have jb : K 366 i = hlC w y m' i := by rw [j1 _ (by omega)]; exact hg i (by omega)
    have b1 := hlC_b w y mask i
    have b2 := hlC_b w y m' i
    have hab := fun (M : jMem) => j_abs (v := hlC w y mask i - hlC w y m' i) (i32 (by omega) (by omega)) M
    (repeat (first | (with_reducible apply wm_o; focus (simp (disch := omega) only [wr_id, Int.toNat_natCast, Int.reduceToNat, tn_lk, tn_kl, if_pos, if_neg, ↓reduceIte, and_self, and_true, true_and, FRows ev_in, j5, FBest, ja, jb, hab]; with_reducible rfl)) | (with_reducible apply wm_q) | (with_reducible apply wm_c; focus (first | assumption | decide +kernel)) | (with_reducible apply wm_d; focus (simp (disch := omega) only [wr_id, Int.toNat_natCast, Int.reduceToNat, tn_lk, tn_kl, if_pos, if_neg, ↓reduceIte, and_self, and_true, true_and, FRows ev_in, j5, FBest, ja, jb, hab]; with_reducible rfl)) | (with_reducible apply wm_t; focus (first | omega | (simp (disch := omega) only [wr_id, FRows ev_in, j5, FBest, ja, jb, hab]; omega) | (simp (disch := omega) only [wr_id, FRows ev_in, j5, FBest, ja, jb, hab]; done))) | (with_reducible apply wm_f; focus (first | omega | (simp (disch := omega) only [wr_id, FRows ev_in, j5, FBest, ja, jb, hab]; omega) | (simp (disch := omega) only [wr_id, FRows ev_in, j5, FBest, ja, jb, hab]; done)))))
    exact hrec (i + 1) _ _ _ (by omega) (by omega) ⟨rfl, by omega, rfl⟩
theorem lnI_F {a y : Nat} (hL : lnI I a (lnP w h p)) (hy : y < 7) : I a y = ((lnF w h p y : Nat) : Int) := hL y hy
theorem lnF_64 (hw : w ≤ 6) (y : Nat) : lnF w h p y < 64 := Nat.lt_of_lt_of_le (lnF_b hw y) (Nat.pow_le_pow_right (by decide) hw : 2 ^ w ≤ 2 ^ 6)
theorem w_apart (hw : 2 ≤ w ∧ w ≤ 6) (hh : 2 ≤ h ∧ h ≤ 6) (h5 : I 311 5 = (w : Int)) (h6 : I 311 6 = (h : Int)) (hL : lnI I 367 (lnP w h p)) (hL' : lnI I 368 (lnP w h p')) : wm t d rt (f_X0_apart 348 311 367 368 (mm t d rt I)) (fun r J => r = apV w h p p' ∧ frm (fun x => x = 365 ∨ x = 366) I J) := by
  have k0 := be_k
  have k4 : (K0 311).1 = 4 ∧ 311 < 418 := by decide +kernel
  unfold f_X0_apart
  refine wm_lp3 (h + 1) (fun i a x J => a = smI (fun y => apR w y (lnF w h p y) (lnF w h p' y)) i ∧ x = (i : Int) ∧ frm (fun x => x = 365 ∨ x = 366) I J) ?_ (Nat.lt_of_le_of_lt (show h + 1 ≤ 7 by omega) (jfuel_n (by decide))) ⟨rfl, rfl, frm_refl _ _⟩
  rintro i hi a x J ⟨rfl, rfl, hJ⟩ rec hrec
  have j5 : J 311 5 = (w : Int) := by rw [hJ _ (by omega)]; exact h5
  have j6 : J 311 6 = (h : Int) := by rw [hJ _ (by omega)]; exact h6
  by_cases e : i = h + 1
  · subst e
    (repeat (first | (with_reducible apply wm_o; focus (simp (disch := omega) only [wr_id, Int.toNat_natCast, Int.reduceToNat, tn_lk, tn_kl, if_pos, if_neg, ↓reduceIte, and_self, and_true, true_and, FRows ev_in, j6]; with_reducible rfl)) | (with_reducible apply wm_q) | (with_reducible apply wm_c; focus (first | assumption | decide +kernel)) | (with_reducible apply wm_d; focus (simp (disch := omega) only [wr_id, Int.toNat_natCast, Int.reduceToNat, tn_lk, tn_kl, if_pos, if_neg, ↓reduceIte, and_self, and_true, true_and, FRows ev_in, j6]; with_reducible rfl)) | (with_reducible apply wm_t; focus (first | omega | (simp (disch := omega) only [wr_id, FRows ev_in, j6]; omega) | (simp (disch := omega) only [wr_id, FRows ev_in, j6]; done))) | (with_reducible apply wm_f; focus (first | omega | (simp (disch := omega) only [wr_id, FRows ev_in, j6]; omega) | (simp (disch := omega) only [wr_id, FRows ev_in, j6]; done)))))
    exact wm_r ⟨rfl, hJ⟩
  · have jl : J 368 i = ((lnF w h p' i : Nat) : Int) := by rw [hJ _ (by omega)]; exact lnI_F hL' (by omega)
    (repeat (first | (with_reducible apply wm_o; focus (simp (disch := omega) only [wr_id, Int.toNat_natCast, Int.reduceToNat, tn_lk, tn_kl, if_pos, if_neg, ↓reduceIte, and_self, and_true, true_and, FRows ev_in, j6, FX, jl, FBest]; with_reducible rfl)) | (with_reducible apply wm_q) | (with_reducible apply wm_c; focus (first | assumption | decide +kernel)) | (with_reducible apply wm_d; focus (simp (disch := omega) only [wr_id, Int.toNat_natCast, Int.reduceToNat, tn_lk, tn_kl, if_pos, if_neg, ↓reduceIte, and_self, and_true, true_and, FRows ev_in, j6, FX, jl, FBest]; with_reducible rfl)) | (with_reducible apply wm_t; focus (first | omega | (simp (disch := omega) only [wr_id, FRows ev_in, j6, FX, jl, FBest]; omega) | (simp (disch := omega) only [wr_id, FRows ev_in, j6, FX, jl, FBest]; done))) | (with_reducible apply wm_f; focus (first | omega | (simp (disch := omega) only [wr_id, FRows ev_in, j6, FX, jl, FBest]; omega) | (simp (disch := omega) only [wr_id, FRows ev_in, j6, FX, jl, FBest]; done)))))
    refine wm_b (w_climb (Or.inr rfl) hw j5 (show i ≤ 6 by omega) (lnF_64 hw.2 i)) (fun v K hK => ?_)
    obtain ⟨k1, k2⟩ := hK
    have kl : K 367 i = ((lnF w h p i : Nat) : Int) := by rw [k1 _ (by omega), hJ _ (by omega)]; exact lnI_F hL (by omega)
    (repeat (first | (with_reducible apply wm_o; focus (simp (disch := omega) only [wr_id, Int.toNat_natCast, Int.reduceToNat, tn_lk, tn_kl, if_pos, if_neg, ↓reduceIte, and_self, and_true, true_and, FX, kl]; with_reducible rfl)) | (with_reducible apply wm_q) | (with_reducible apply wm_c; focus (first | assumption | decide +kernel)) | (with_reducible apply wm_d; focus (simp (disch := omega) only [wr_id, Int.toNat_natCast, Int.reduceToNat, tn_lk, tn_kl, if_pos, if_neg, ↓reduceIte, and_self, and_true, true_and, FX, kl]; with_reducible rfl)) | (with_reducible apply wm_t; focus (first | omega | (simp (disch := omega) only [wr_id, FX, kl]; omega) | (simp (disch := omega) only [wr_id, FX, kl]; done))) | (with_reducible apply wm_f; focus (first | omega | (simp (disch := omega) only [wr_id, FX, kl]; omega) | (simp (disch := omega) only [wr_id, FX, kl]; done)))))
    refine wm_b (w_apartRow (m' := lnF w h p' i) hw (by rw [k1 _ (by omega)]; exact j5) (show i ≤ 6 by omega) (lnF_64 hw.2 i) k2) (fun v2 L hL2 => ?_)
    obtain ⟨rfl, l1⟩ := hL2
    exact hrec (i + 1) _ _ _ (by omega) (by omega) ⟨rfl, by omega, frm_trans hJ (frm_trans (frm_sub k1 (fun a ha => Or.inr ha)) (frm_sub l1 (fun a ha => Or.inl ha)))⟩
theorem m_keepsHills : wm t d rt (f_X12_keepsHills 369 (mm t d rt I)) (fun _ J => frM (fun a => a = 413) (fun _ => False) I J ∧ ∀ k, k < 49 → J 413 k = I 412 k) := by
  unfold f_X12_keepsHills
  refine wm_lp2 49 (fun i y J => y = (i : Int) ∧ J = fl I 413 i (I 412)) ?_ (jfuel_n (by decide)) ⟨rfl, by rw [fl_0]⟩
  rintro i hi y J ⟨rfl, rfl⟩ rec hrec
  refine wm_if (fun cc => ?_) (fun cc => ?_)
  · simp (disch := omega) only [wr_id] at cc
    have e : fl I 413 i (I 412) 412 i = I 412 i := fl_ne (by decide)
    (repeat (first | (with_reducible apply wm_o; focus (simp (disch := omega) only [wr_id, Int.toNat_natCast, Int.reduceToNat, tn_lk, tn_kl, if_pos, if_neg, ↓reduceIte, and_self, and_true, true_and, FM, e]; with_reducible rfl)) | (with_reducible apply wm_q) | (with_reducible apply wm_c; focus (first | assumption | decide +kernel)) | (with_reducible apply wm_d; focus (simp (disch := omega) only [wr_id, Int.toNat_natCast, Int.reduceToNat, tn_lk, tn_kl, if_pos, if_neg, ↓reduceIte, and_self, and_true, true_and, FM, e]; with_reducible rfl)) | (with_reducible apply wm_t; focus (first | omega | (simp (disch := omega) only [wr_id, FM, e]; omega) | (simp (disch := omega) only [wr_id, FM, e]; done))) | (with_reducible apply wm_f; focus (first | omega | (simp (disch := omega) only [wr_id, FM, e]; omega) | (simp (disch := omega) only [wr_id, FM, e]; done)))))
    exact hrec (i + 1) _ _ (by omega) (by omega) ⟨by omega, fl_s I 413 i (I 412)⟩
  · simp (disch := omega) only [wr_id] at cc
    obtain rfl : i = 49 := by omega
    exact wm_r ⟨⟨fun a ha hS => flne hS, fun j _ => fl_ne (by decide)⟩, fun k hk => fl_in hk⟩
/-- what the model's walks rest on -/
def wlk (K : Nat → Nat → Int) (lv w h n : Nat) (hl : Nat → Bool) : Prop := mCfg K lv w h n ∧ flg K 408 hl ∧ b01 K 409 36 ∧ wkT K 406 w n hl noB noB ∧ K 412 0 = 0
theorem wlk_fr {S T : Nat → Prop} (hf : frM S T I J) (h1 : ¬ S 377) (h2 : ¬ S 378) (h3 : ¬ S 408) (h4 : ¬ S 409) (h5 : ¬ S 406) (h6 : ¬ T 18) (h0 : J 412 0 = 0) (hk : wlk I lv w h n hl) : wlk J lv w h n hl := by
  obtain ⟨k1, k2, k3, k4, k5⟩ := hk
  refine ⟨mCfg_frm (hf.2 18 h6) (hf.1 377 (by decide) h1) (hf.1 378 (by decide) h2) k1, flg_ne (hf.1 408 (by decide) h3) k2, ?_, ?_, h0⟩
  · unfold b01; rw [hf.1 409 (by decide) h4]; exact k3
  · unfold wkT; rw [hf.1 406 (by decide) h5]; exact k4
/-- the hills of the i-th paving -/
theorem m_hillsOf (sq : sqOK w h n nh hl) (hk : wlk I lv w h n hl) {i : Nat} (hi : i < Np w n noB noB n 0 hl) : wm t d rt (f_X12_fillsWays 369 (i : Int) (mm t d rt I)) (fun _ J => frM (fun a => a = 411) (fun _ => False) I J ∧ wm t d rt (f_X12_fillsHills 369 (mm t d rt J)) (fun _ K => frM (fun a => a = 411 ∨ a = 412) (fun _ => False) I K ∧ wlk K lv w h n hl ∧ ∀ y, y ≤ h → ∀ x, x ≤ w → K 412 (7 * y + x) = hlC w y (lnF w h (nthP w n noB noB n 0 hl i) y) x)) := by
  have hk' := hk
  obtain ⟨k1, k2, k3, k4, k5⟩ := hk
  refine wm_w (m_fillsWays k1 k2 k3 k4 hi) (fun v J hJ => ?_)
  obtain ⟨j1, j2⟩ := hJ
  have wJ := wlk_fr j1 (by decide) (by decide) (by decide) (by decide) (by decide) (fun q => q) ((congrFun (j1.1 412 (by decide) (by decide)) 0).trans k5) hk'
  refine ⟨j1, wm_w (m_fillsHills wJ.1 sq (nth_mem hi) wJ.2.2.2.2 j2) (fun v2 K hK => ?_)⟩
  obtain ⟨q1, q2, q3⟩ := hK
  have f2 := frM_trans (frM_f (S' := fun a => a = 411 ∨ a = 412) (T' := fun _ => False) j1 (fun a ha => Or.inl ha)) (frM_f q1 (fun a ha => Or.inr ha))
  exact ⟨f2, wlk_fr f2 (by decide) (by decide) (by decide) (by decide) (by decide) (fun q => q) q2 hk', q3⟩
theorem m_wayTo (sq : sqOK w h n nh hl) (hk : wlk I lv w h n hl) {i : Nat} (hi : i < Np w n noB noB n 0 hl) (ho : ∀ y, y ≤ h → ∀ x, x ≤ w → I 413 (7 * y + x) = hlC w y (lnF w h p y) x) : wm t d rt (f_X12_wayTo 369 (i : Int) (mm t d rt I)) (fun r K => r = dvF (apV w h p (nthP w n noB noB n 0 hl i)) ∧ frM (fun a => a = 411 ∨ a = 412) (fun _ => False) I K ∧ wlk K lv w h n hl) := by
  have hw : 2 ≤ w ∧ w ≤ 6 := ⟨sq.1, sq.2.1⟩
  have hh : 2 ≤ h ∧ h ≤ 6 := ⟨sq.2.2.1, sq.2.2.2.1⟩
  unfold f_X12_wayTo
  (repeat (first | (with_reducible apply wm_o; focus (simp (disch := omega) only [wr_id, Int.toNat_natCast, Int.reduceToNat, tn_lk, tn_kl, if_pos, if_neg, ↓reduceIte, and_self, and_true, true_and]; with_reducible rfl)) | (with_reducible apply wm_q) | (with_reducible apply wm_c; focus (first | assumption | decide +kernel)) | (with_reducible apply wm_d; focus (simp (disch := omega) only [wr_id, Int.toNat_natCast, Int.reduceToNat, tn_lk, tn_kl, if_pos, if_neg, ↓reduceIte, and_self, and_true, true_and]; with_reducible rfl)) | (with_reducible apply wm_t; focus (first | omega | (simp (disch := omega) only [wr_id]; omega) | (simp (disch := omega) only [wr_id]; done))) | (with_reducible apply wm_f; focus (first | omega | (simp (disch := omega) only [wr_id]; omega) | (simp (disch := omega) only [wr_id]; done)))))
  refine wm_b (m_hillsOf sq hk hi) (fun v J hJ => ?_)
  obtain ⟨j1, j2⟩ := hJ
  (repeat (first | (with_reducible apply wm_o; focus (simp (disch := omega) only [wr_id, Int.toNat_natCast, Int.reduceToNat, tn_lk, tn_kl, if_pos, if_neg, ↓reduceIte, and_self, and_true, true_and]; with_reducible rfl)) | (with_reducible apply wm_q) | (with_reducible apply wm_c; focus (first | assumption | decide +kernel)) | (with_reducible apply wm_d; focus (simp (disch := omega) only [wr_id, Int.toNat_natCast, Int.reduceToNat, tn_lk, tn_kl, if_pos, if_neg, ↓reduceIte, and_self, and_true, true_and]; with_reducible rfl)) | (with_reducible apply wm_t; focus (first | omega | (simp (disch := omega) only [wr_id]; omega) | (simp (disch := omega) only [wr_id]; done))) | (with_reducible apply wm_f; focus (first | omega | (simp (disch := omega) only [wr_id]; omega) | (simp (disch := omega) only [wr_id]; done)))))
  refine wm_b j2 (fun v2 K hK => ?_)
  obtain ⟨q1, q2, q3⟩ := hK
  obtain ⟨p', hp'⟩ : ∃ p', p' = nthP w n noB noB n 0 hl i := ⟨_, rfl⟩
  rw [← hp'] at q3 ⊢
  have e18 := q2.1.1
  have elv := q2.1.2.1
  have e78 := q2.1.2.2.2.1
  have hwm := s_w (t := t) (d := d) (rt := rt) q2.1
  refine wm_lp3 (h + 1) (fun y a b L => a = smI (fun y => apR w y (lnF w h p y) (lnF w h p' y)) y ∧ b = (y : Int) ∧ L = K) ?_ (Nat.lt_of_le_of_lt (show h + 1 ≤ 7 by omega) (jfuel_n (by decide))) ⟨rfl, rfl, rfl⟩
  rintro y hy a b L ⟨rfl, rfl, rfl⟩ rec hrec
  by_cases e : y = h + 1
  · subst e
    have hd4 := dv_4 (smI (fun y => apR w y (lnF w h p y) (lnF w h p' y)) (h + 1))
    (repeat (first | (with_reducible apply wm_o; focus (simp (disch := omega) only [wr_id, Int.toNat_natCast, Int.reduceToNat, tn_lk, tn_kl, if_pos, if_neg, ↓reduceIte, and_self, and_true, true_and, FM, e18, e78, hd4]; with_reducible rfl)) | (with_reducible apply wm_q) | (with_reducible apply wm_c; focus (first | assumption | decide +kernel)) | (with_reducible apply wm_d; focus (simp (disch := omega) only [wr_id, Int.toNat_natCast, Int.reduceToNat, tn_lk, tn_kl, if_pos, if_neg, ↓reduceIte, and_self, and_true, true_and, FM, e18, e78, hd4]; with_reducible rfl)) | (with_reducible apply wm_t; focus (first | omega | (simp (disch := omega) only [wr_id, FM, e18, e78, hd4]; omega) | (simp (disch := omega) only [wr_id, FM, e18, e78, hd4]; done))) | (with_reducible apply wm_f; focus (first | omega | (simp (disch := omega) only [wr_id, FM, e18, e78, hd4]; omega) | (simp (disch := omega) only [wr_id, FM, e18, e78, hd4]; done)))))
    exact wm_r ⟨rfl, q1, q2⟩
  · (repeat (first | (with_reducible apply wm_o; focus (simp (disch := omega) only [wr_id, Int.toNat_natCast, Int.reduceToNat, tn_lk, tn_kl, if_pos, if_neg, ↓reduceIte, and_self, and_true, true_and, FM, e18, e78]; with_reducible rfl)) | (with_reducible apply wm_q) | (with_reducible apply wm_c; focus (first | assumption | decide +kernel)) | (with_reducible apply wm_d; focus (simp (disch := omega) only [wr_id, Int.toNat_natCast, Int.reduceToNat, tn_lk, tn_kl, if_pos, if_neg, ↓reduceIte, and_self, and_true, true_and, FM, e18, e78]; with_reducible rfl)) | (with_reducible apply wm_t; focus (first | omega | (simp (disch := omega) only [wr_id, FM, e18, e78]; omega) | (simp (disch := omega) only [wr_id, FM, e18, e78]; done))) | (with_reducible apply wm_f; focus (first | omega | (simp (disch := omega) only [wr_id, FM, e18, e78]; omega) | (simp (disch := omega) only [wr_id, FM, e18, e78]; done)))))
    refine wm_lp3 (w + 1) (fun x a b N => a = smI (fun y => apR w y (lnF w h p y) (lnF w h p' y)) y + smI (fun x => abD (hlC w y (lnF w h p y) x) (hlC w y (lnF w h p' y) x)) x ∧ b = (x : Int) ∧ N = L) ?_ (Nat.lt_of_le_of_lt (show w + 1 ≤ 7 by omega) (jfuel_n (by decide))) ⟨(Int.add_zero _).symm, rfl, rfl⟩
    rintro x hx a b N ⟨rfl, rfl, rfl⟩ rec2 hrec2
    by_cases ex : x = w + 1
    · subst ex
      (repeat (first | (with_reducible apply wm_o; focus (simp (disch := omega) only [wr_id, Int.toNat_natCast, Int.reduceToNat, tn_lk, tn_kl, if_pos, if_neg, ↓reduceIte, and_self, and_true, true_and, hwm]; with_reducible rfl)) | (with_reducible apply wm_q) | (with_reducible apply wm_c; focus (first | assumption | decide +kernel)) | (with_reducible apply wm_d; focus (simp (disch := omega) only [wr_id, Int.toNat_natCast, Int.reduceToNat, tn_lk, tn_kl, if_pos, if_neg, ↓reduceIte, and_self, and_true, true_and, hwm]; with_reducible rfl)) | (with_reducible apply wm_t; focus (first | omega | (simp (disch := omega) only [wr_id, hwm]; omega) | (simp (disch := omega) only [wr_id, hwm]; done))) | (with_reducible apply wm_f; focus (first | omega | (simp (disch := omega) only [wr_id, hwm]; omega) | (simp (disch := omega) only [wr_id, hwm]; done)))))
      exact hrec (y + 1) _ _ _ (by omega) (by omega) ⟨rfl, by omega, rfl⟩
    · have ei : ((7 : Int) * (y : Int)) + (x : Int) = ((7 * y + x : Nat) : Int) := by omega
      have e1 := q3 y (by omega) x (by omega)
      have e2 : N 413 (7 * y + x) = hlC w y (lnF w h p y) x := by rw [q1.1 413 (by decide) (by decide)]; exact ho y (by omega) x (by omega)
      have b1 := hlC_b w y (lnF w h p' y) x
      have b2 := hlC_b w y (lnF w h p y) x
      have hof := fun (M : jMem) => m_off (a := hlC w y (lnF w h p' y) x) (b := hlC w y (lnF w h p y) x) (i32 (by omega) (by omega)) (i32 (by omega) (by omega)) M
      (repeat (first | (with_reducible apply wm_o; focus (simp (disch := omega) only [wr_id, Int.toNat_natCast, Int.reduceToNat, tn_lk, tn_kl, if_pos, if_neg, ↓reduceIte, and_self, and_true, true_and, hwm, FM, ei, e1, e2, hof]; with_reducible rfl)) | (with_reducible apply wm_q) | (with_reducible apply wm_c; focus (first | assumption | decide +kernel)) | (with_reducible apply wm_d; focus (simp (disch := omega) only [wr_id, Int.toNat_natCast, Int.reduceToNat, tn_lk, tn_kl, if_pos, if_neg, ↓reduceIte, and_self, and_true, true_and, hwm, FM, ei, e1, e2, hof]; with_reducible rfl)) | (with_reducible apply wm_t; focus (first | omega | (simp (disch := omega) only [wr_id, hwm, FM, ei, e1, e2, hof]; omega) | (simp (disch := omega) only [wr_id, hwm, FM, ei, e1, e2, hof]; done))) | (with_reducible apply wm_f; focus (first | omega | (simp (disch := omega) only [wr_id, hwm, FM, ei, e1, e2, hof]; omega) | (simp (disch := omega) only [wr_id, hwm, FM, ei, e1, e2, hof]; done)))))
      exact hrec2 (x + 1) _ _ _ (by omega) (by omega) ⟨by rw [smI_s, abD_c]; omega, by omega, rfl⟩
theorem P_way (hI : INV t d rt I) {x : Int} (hx : in32 x) : both t d rt (f_X11_way 0 x (mm t d rt I)) (fun M => f_X12_way 369 x M) := by
  have hI' := hI
  obtain ⟨lv, w, h, n, nh, hl, sd, ifs, xs, hR, ρ, u, H, hd, G, hC, hM⟩ := hI
  have sq := hR.2.1
  have hcf := hR.2.2.1
  have hmf := hR.2.2.2.1
  have hz := hR.2.2.2.2.2.2.2.2.2
  have hE := hR.2.2.2.2.2.2.2.1
  have hnw := sq.2.2.2.2.1
  have hn := sq.2.2.2.2.2.2.1
  have hw : 2 ≤ w ∧ w ≤ 6 := ⟨sq.1, sq.2.1⟩
  have hh : 2 ≤ h ∧ h ≤ 6 := ⟨sq.2.2.1, sq.2.2.2.1⟩
  have hhi := q_hasHills (d := d) (rt := rt) sq hcf hC.1 hC.2.1
  have hx' := hx
  unfold in32 at hx'
  have ex := wr_in hx
  have ht := c_every hR
  have hTb := Np_b (na := noB) (nd := noB) (cl := hl) (show 0 < w by omega) hnw hn
  obtain ⟨T, hT⟩ : ∃ T, T = Np w n noB noB n 0 hl := ⟨_, rfl⟩
  rw [← hT] at ht hTb
  have hWt := Wr_tot (w := w) (h := h) (cl := hl) (na := noB) (nd := noB) (by omega) hw.2 (by omega) no_cl
  rw [← hnw, ← hT] at hWt
  unfold both f_X11_way
  by_cases z : 0 ≤ x ∧ x < T
  · obtain ⟨i, rfl⟩ : ∃ i : Nat, x = (i : Int) := ⟨x.toNat, by omega⟩
    have in1 := fun (M : jMem) => m_in_t (a := 0) (b := (T : Int) - 1) (M := M) hx (i32 (by omega) (by omega)) (i32 (by omega) (by omega)) (by omega)
    -- the model up to its hills
    have mod : ∀ (J : Nat → Nat → Int) (Q : Int → (Nat → Nat → Int) → Prop), frm scrC I J → (∀ K, frM scrM scrF J K → zM K → cfM K lv w h n nh hl sd ifs xs → K 400 = ρ → wlk K lv w h n hl → wm t d rt (if jd_wr (if nh = 0 ∧ 2 * rMany ρ = n then 1 else 0 : Int) = 0 then (some ((-2), (mm t d rt K)))
else (jcall 12 (mm t d rt K) 369 (f_X12_fillsHillsNow 369 (mm t d rt K)) fun _ M8 =>
jcall 12 M8 369 (f_X12_keepsHills 369 M8) fun _ M10 =>
jcall 12 M10 369 (f_X12_wayTo 369 (i : Int) M10) fun v11 M12 =>
some (v11, M12))) Q) → wm t d rt (f_X12_way 369 (i : Int) (mm t d rt J)) Q := by
      intro J Q jC hQ
      have jS : frm (fun a => scrC a ∨ stS a) I J := frm_sub jC (fun a ha => Or.inl ha)
      have hRJ := REST_c jS hR
      have hMJ := stM_c jS hM
      unfold f_X12_way
      (repeat (first | (with_reducible apply wm_o; focus (simp (disch := omega) only [wr_id, Int.toNat_natCast, Int.reduceToNat, tn_lk, tn_kl, if_pos, if_neg, ↓reduceIte, and_self, and_true, true_and]; with_reducible rfl)) | (with_reducible apply wm_q) | (with_reducible apply wm_c; focus (first | assumption | decide +kernel)) | (with_reducible apply wm_d; focus (simp (disch := omega) only [wr_id, Int.toNat_natCast, Int.reduceToNat, tn_lk, tn_kl, if_pos, if_neg, ↓reduceIte, and_self, and_true, true_and]; with_reducible rfl)) | (with_reducible apply wm_t; focus (first | omega | (simp (disch := omega) only [wr_id]; omega) | (simp (disch := omega) only [wr_id]; done))) | (with_reducible apply wm_f; focus (first | omega | (simp (disch := omega) only [wr_id]; omega) | (simp (disch := omega) only [wr_id]; done)))))
      refine wm_b (m_countsAll hRJ.2.2.2.1 hRJ.2.2.2.2.2.2.2.2.2) (fun v L hL => ?_)
      obtain ⟨rfl, l1, l2⟩ := hL
      rw [← hT]
      have cL := cfM_frm l1 (fun a _ _ _ _ _ _ _ _ => by omega) (fun q => q) hRJ.2.2.2.1
      have zL := zM_fr hRJ.2.2.2.2.2.2.2.2.2 l1 (by decide) (by decide) (by decide)
      have L0 : L 400 = ρ := (l1.1 400 (by decide) (by decide)).trans hMJ.1
      have L12 : L 412 0 = 0 := (congrFun (l1.1 412 (by decide) (by decide)) 0).trans hRJ.2.2.2.2.2.2.2.2.1.2.1
      (repeat (first | (with_reducible apply wm_o; focus (simp (disch := omega) only [wr_id, Int.toNat_natCast, Int.reduceToNat, tn_lk, tn_kl, if_pos, if_neg, ↓reduceIte, and_self, and_true, true_and, in1]; with_reducible rfl)) | (with_reducible apply wm_q) | (with_reducible apply wm_c; focus (first | assumption | decide +kernel)) | (with_reducible apply wm_d; focus (simp (disch := omega) only [wr_id, Int.toNat_natCast, Int.reduceToNat, tn_lk, tn_kl, if_pos, if_neg, ↓reduceIte, and_self, and_true, true_and, in1]; with_reducible rfl)) | (with_reducible apply wm_t; focus (first | omega | (simp (disch := omega) only [wr_id, in1]; omega) | (simp (disch := omega) only [wr_id, in1]; done))) | (with_reducible apply wm_f; focus (first | omega | (simp (disch := omega) only [wr_id, in1]; omega) | (simp (disch := omega) only [wr_id, in1]; done)))))
      refine wm_b (m_isHilly cL sq zL hC.1 L0 hMJ.2.1) (fun v4 K hK => ?_)
      obtain ⟨rfl, k1, k2, k3, k4⟩ := hK
      refine hQ K (frM_trans (frM_f l1 (fun a ha => by unfold scrM; omega)) (frM_sub k1 (fun a ha => by unfold scrM; omega) (fun a ha => by unfold scrF; omega))) k2 k3 ((k1.1 400 (by decide) (by decide)).trans L0) ?_
      exact wlk_fr k1 (by decide) (by decide) (by decide) (by decide) (by decide) (by decide) ((congrFun (k1.1 412 (by decide) (by decide)) 0).trans L12) ⟨cL.1, l2.1, zL.2.1, l2.2, L12⟩
    by_cases zh : nh = 0 ∧ 2 * rMany ρ = n
    · rw [if_pos zh] at hhi
      have kE := be_k
      (repeat (first | (with_reducible apply wm_o; focus (simp (disch := omega) only [wr_id, Int.toNat_natCast, Int.reduceToNat, tn_lk, tn_kl, if_pos, if_neg, ↓reduceIte, and_self, and_true, true_and, FX, ht, hhi]; with_reducible rfl)) | (with_reducible apply wm_q) | (with_reducible apply wm_c; focus (first | assumption | decide +kernel)) | (with_reducible apply wm_d; focus (simp (disch := omega) only [wr_id, Int.toNat_natCast, Int.reduceToNat, tn_lk, tn_kl, if_pos, if_neg, ↓reduceIte, and_self, and_true, true_and, FX, ht, hhi]; with_reducible rfl)) | (with_reducible apply wm_t; focus (first | omega | (simp (disch := omega) only [wr_id, FX, ht, hhi]; omega) | (simp (disch := omega) only [wr_id, FX, ht, hhi]; done))) | (with_reducible apply wm_f; focus (first | omega | (simp (disch := omega) only [wr_id, FX, ht, hhi]; omega) | (simp (disch := omega) only [wr_id, FX, ht, hhi]; done)))))
      refine wm_b (c_trace sq hcf hC.1 hC.2.1 hE.1.1) (fun v J hJ => ?_)
      obtain ⟨j1, j2⟩ := hJ
      have jC : frm scrC I J := frm_sub j1 (fun a ha => by unfold scrC; omega)
      have eE : evI J w h hl := (REST_c (frm_sub jC (fun a ha => Or.inl ha)) hR).2.2.2.2.2.2.2.1
      (repeat (first | (with_reducible apply wm_o; focus (simp (disch := omega) only [wr_id, Int.toNat_natCast, Int.reduceToNat, tn_lk, tn_kl, if_pos, if_neg, ↓reduceIte, and_self, and_true, true_and, FX]; with_reducible rfl)) | (with_reducible apply wm_q) | (with_reducible apply wm_c; focus (first | assumption | decide +kernel)) | (with_reducible apply wm_d; focus (simp (disch := omega) only [wr_id, Int.toNat_natCast, Int.reduceToNat, tn_lk, tn_kl, if_pos, if_neg, ↓reduceIte, and_self, and_true, true_and, FX]; with_reducible rfl)) | (with_reducible apply wm_t; focus (first | omega | (simp (disch := omega) only [wr_id, FX]; omega) | (simp (disch := omega) only [wr_id, FX]; done))) | (with_reducible apply wm_f; focus (first | omega | (simp (disch := omega) only [wr_id, FX]; omega) | (simp (disch := omega) only [wr_id, FX]; done)))))
      refine wm_b (w_lineAt ev_in eE.1 eE.2.1 no_cl (i := i) (by rw [hWt]; omega)) (fun v2 J2 hJ2 => ?_)
      obtain ⟨q1, q2⟩ := hJ2
      rw [ln_line (by omega) hw.2 (by omega) no_cl hnw (by rw [← hT]; omega)] at q2
      have j2' : lnI J2 367 (lnP w h (pvR ρ n)) := fun j hj => by rw [q1 _ (by omega)]; exact j2 j hj
      (repeat (first | (with_reducible apply wm_o; focus (simp (disch := omega) only [wr_id, Int.toNat_natCast, Int.reduceToNat, tn_lk, tn_kl, if_pos, if_neg, ↓reduceIte, and_self, and_true, true_and, FX]; with_reducible rfl)) | (with_reducible apply wm_q) | (with_reducible apply wm_c; focus (first | assumption | decide +kernel)) | (with_reducible apply wm_d; focus (simp (disch := omega) only [wr_id, Int.toNat_natCast, Int.reduceToNat, tn_lk, tn_kl, if_pos, if_neg, ↓reduceIte, and_self, and_true, true_and, FX]; with_reducible rfl)) | (with_reducible apply wm_t; focus (first | omega | (simp (disch := omega) only [wr_id, FX]; omega) | (simp (disch := omega) only [wr_id, FX]; done))) | (with_reducible apply wm_f; focus (first | omega | (simp (disch := omega) only [wr_id, FX]; omega) | (simp (disch := omega) only [wr_id, FX]; done)))))
      refine wm_b (w_apart hw hh (by rw [q1 _ (by omega)]; exact eE.1.1) (by rw [q1 _ (by omega)]; exact eE.1.2.1) j2' q2) (fun v3 J3 hJ3 => ?_)
      obtain ⟨rfl, q3⟩ := hJ3
      have hd4 := dv_4 (apV w h (pvR ρ n) (nthP w n noB noB n 0 hl i))
      (repeat (first | (with_reducible apply wm_o; focus (simp (disch := omega) only [wr_id, Int.toNat_natCast, Int.reduceToNat, tn_lk, tn_kl, if_pos, if_neg, ↓reduceIte, and_self, and_true, true_and, hd4]; with_reducible rfl)) | (with_reducible apply wm_q) | (with_reducible apply wm_c; focus (first | assumption | decide +kernel)) | (with_reducible apply wm_d; focus (simp (disch := omega) only [wr_id, Int.toNat_natCast, Int.reduceToNat, tn_lk, tn_kl, if_pos, if_neg, ↓reduceIte, and_self, and_true, true_and, hd4]; with_reducible rfl)) | (with_reducible apply wm_t; focus (first | omega | (simp (disch := omega) only [wr_id, hd4]; omega) | (simp (disch := omega) only [wr_id, hd4]; done))) | (with_reducible apply wm_f; focus (first | omega | (simp (disch := omega) only [wr_id, hd4]; omega) | (simp (disch := omega) only [wr_id, hd4]; done)))))
      refine wm_r ?_
      have jC3 : frm scrC I J3 := frm_trans jC (frm_trans (frm_sub q1 (fun a ha => by unfold scrC; omega)) (frm_sub q3 (fun a ha => by unfold scrC; omega)))
      refine mod J3 _ jC3 (fun K k1 k2 k3 k4 k5 => ?_)
      rw [if_pos zh]
      (repeat (first | (with_reducible apply wm_o; focus (simp (disch := omega) only [wr_id, Int.toNat_natCast, Int.reduceToNat, tn_lk, tn_kl, if_pos, if_neg, ↓reduceIte, and_self, and_true, true_and]; with_reducible rfl)) | (with_reducible apply wm_q) | (with_reducible apply wm_c; focus (first | assumption | decide +kernel)) | (with_reducible apply wm_d; focus (simp (disch := omega) only [wr_id, Int.toNat_natCast, Int.reduceToNat, tn_lk, tn_kl, if_pos, if_neg, ↓reduceIte, and_self, and_true, true_and]; with_reducible rfl)) | (with_reducible apply wm_t; focus (first | omega | (simp (disch := omega) only [wr_id]; omega) | (simp (disch := omega) only [wr_id]; done))) | (with_reducible apply wm_f; focus (first | omega | (simp (disch := omega) only [wr_id]; omega) | (simp (disch := omega) only [wr_id]; done)))))
      refine wm_b (m_hillsNow k3 sq k2 hC.1 k4 hM.2.1 (by omega) k5.2.2.2.2) (fun v5 L hL => ?_)
      obtain ⟨l1, l2, l3, l4, l5, l6⟩ := hL
      (repeat (first | (with_reducible apply wm_o; focus (simp (disch := omega) only [wr_id, Int.toNat_natCast, Int.reduceToNat, tn_lk, tn_kl, if_pos, if_neg, ↓reduceIte, and_self, and_true, true_and]; with_reducible rfl)) | (with_reducible apply wm_q) | (with_reducible apply wm_c; focus (first | assumption | decide +kernel)) | (with_reducible apply wm_d; focus (simp (disch := omega) only [wr_id, Int.toNat_natCast, Int.reduceToNat, tn_lk, tn_kl, if_pos, if_neg, ↓reduceIte, and_self, and_true, true_and]; with_reducible rfl)) | (with_reducible apply wm_t; focus (first | omega | (simp (disch := omega) only [wr_id]; omega) | (simp (disch := omega) only [wr_id]; done))) | (with_reducible apply wm_f; focus (first | omega | (simp (disch := omega) only [wr_id]; omega) | (simp (disch := omega) only [wr_id]; done)))))
      refine wm_b m_keepsHills (fun v6 N hN => ?_)
      obtain ⟨n1, n2⟩ := hN
      have w1 := wlk_fr l1 (by decide) (by decide) (by decide) (by decide) (by decide) (by decide) l5 k5
      have w2 := wlk_fr n1 (by decide) (by decide) (by decide) (by decide) (by decide) (fun q => q) ((congrFun (n1.1 412 (by decide) (by decide)) 0).trans l5) w1
      (repeat (first | (with_reducible apply wm_o; focus (simp (disch := omega) only [wr_id, Int.toNat_natCast, Int.reduceToNat, tn_lk, tn_kl, if_pos, if_neg, ↓reduceIte, and_self, and_true, true_and]; with_reducible rfl)) | (with_reducible apply wm_q) | (with_reducible apply wm_c; focus (first | assumption | decide +kernel)) | (with_reducible apply wm_d; focus (simp (disch := omega) only [wr_id, Int.toNat_natCast, Int.reduceToNat, tn_lk, tn_kl, if_pos, if_neg, ↓reduceIte, and_self, and_true, true_and]; with_reducible rfl)) | (with_reducible apply wm_t; focus (first | omega | (simp (disch := omega) only [wr_id]; omega) | (simp (disch := omega) only [wr_id]; done))) | (with_reducible apply wm_f; focus (first | omega | (simp (disch := omega) only [wr_id]; omega) | (simp (disch := omega) only [wr_id]; done)))))
      refine wm_b (m_wayTo (p := pvR ρ n) sq w2 (i := i) (by rw [← hT]; omega) (fun y hy x hx => by rw [n2 _ (by omega)]; exact l6 y hy x hx)) (fun v7 P hP => ?_)
      obtain ⟨rfl, p1, p2⟩ := hP
      have zN := zM_fr l2 n1 (by decide) (by decide) (by decide)
      exact wm_r ⟨rfl, INV_h hR hC hM jC3 (frM_trans (frM_sub k1 (fun a ha => Or.inl ha) (fun a ha => ha)) (frM_trans (frM_sub l1 (fun a ha => by unfold scrM; omega) (fun a ha => by unfold scrF; omega)) (frM_trans (frM_f n1 (fun a ha => by unfold scrM; omega)) (frM_f p1 (fun a ha => by unfold scrM; omega))))) (zM_fr zN p1 (by decide) (by decide) (by decide)) p2.2.2.2.2⟩
    · rw [if_neg zh] at hhi
      (repeat (first | (with_reducible apply wm_o; focus (simp (disch := omega) only [wr_id, Int.toNat_natCast, Int.reduceToNat, tn_lk, tn_kl, if_pos, if_neg, ↓reduceIte, and_self, and_true, true_and, FX, ht, hhi]; with_reducible rfl)) | (with_reducible apply wm_q) | (with_reducible apply wm_c; focus (first | assumption | decide +kernel)) | (with_reducible apply wm_d; focus (simp (disch := omega) only [wr_id, Int.toNat_natCast, Int.reduceToNat, tn_lk, tn_kl, if_pos, if_neg, ↓reduceIte, and_self, and_true, true_and, FX, ht, hhi]; with_reducible rfl)) | (with_reducible apply wm_t; focus (first | omega | (simp (disch := omega) only [wr_id, FX, ht, hhi]; omega) | (simp (disch := omega) only [wr_id, FX, ht, hhi]; done))) | (with_reducible apply wm_f; focus (first | omega | (simp (disch := omega) only [wr_id, FX, ht, hhi]; omega) | (simp (disch := omega) only [wr_id, FX, ht, hhi]; done)))))
      refine wm_r ?_
      refine mod I _ (frm_refl _ _) (fun K k1 k2 k3 k4 k5 => ?_)
      rw [if_neg zh]
      (repeat (first | (with_reducible apply wm_o; focus (simp (disch := omega) only [wr_id, Int.toNat_natCast, Int.reduceToNat, tn_lk, tn_kl, if_pos, if_neg, ↓reduceIte, and_self, and_true, true_and]; with_reducible rfl)) | (with_reducible apply wm_q) | (with_reducible apply wm_c; focus (first | assumption | decide +kernel)) | (with_reducible apply wm_d; focus (simp (disch := omega) only [wr_id, Int.toNat_natCast, Int.reduceToNat, tn_lk, tn_kl, if_pos, if_neg, ↓reduceIte, and_self, and_true, true_and]; with_reducible rfl)) | (with_reducible apply wm_t; focus (first | omega | (simp (disch := omega) only [wr_id]; omega) | (simp (disch := omega) only [wr_id]; done))) | (with_reducible apply wm_f; focus (first | omega | (simp (disch := omega) only [wr_id]; omega) | (simp (disch := omega) only [wr_id]; done)))))
      exact wm_r ⟨rfl, INV_q hR hC hM (frm_refl _ _) k1 k2⟩
  · have in1 := fun (M : jMem) => m_in_f (a := 0) (b := (T : Int) - 1) (M := M) hx (i32 (by omega) (by omega)) (i32 (by omega) (by omega)) (by omega)
    have mod : wm t d rt (f_X12_way 369 x (mm t d rt I)) (fun r' K => jd_wr (-1) = jd_wr r' ∧ INV t d rt K) := by
      unfold f_X12_way
      (repeat (first | (with_reducible apply wm_o; focus (simp (disch := omega) only [wr_id, Int.toNat_natCast, Int.reduceToNat, tn_lk, tn_kl, if_pos, if_neg, ↓reduceIte, and_self, and_true, true_and]; with_reducible rfl)) | (with_reducible apply wm_q) | (with_reducible apply wm_c; focus (first | assumption | decide +kernel)) | (with_reducible apply wm_d; focus (simp (disch := omega) only [wr_id, Int.toNat_natCast, Int.reduceToNat, tn_lk, tn_kl, if_pos, if_neg, ↓reduceIte, and_self, and_true, true_and]; with_reducible rfl)) | (with_reducible apply wm_t; focus (first | omega | (simp (disch := omega) only [wr_id]; omega) | (simp (disch := omega) only [wr_id]; done))) | (with_reducible apply wm_f; focus (first | omega | (simp (disch := omega) only [wr_id]; omega) | (simp (disch := omega) only [wr_id]; done)))))
      refine wm_b (m_countsAll hmf hz) (fun v K hK => ?_)
      obtain ⟨rfl, k1, k2⟩ := hK
      rw [← hT]
      (repeat (first | (with_reducible apply wm_o; focus (simp (disch := omega) only [wr_id, Int.toNat_natCast, Int.reduceToNat, tn_lk, tn_kl, if_pos, if_neg, ↓reduceIte, and_self, and_true, true_and, in1]; with_reducible rfl)) | (with_reducible apply wm_q) | (with_reducible apply wm_c; focus (first | assumption | decide +kernel)) | (with_reducible apply wm_d; focus (simp (disch := omega) only [wr_id, Int.toNat_natCast, Int.reduceToNat, tn_lk, tn_kl, if_pos, if_neg, ↓reduceIte, and_self, and_true, true_and, in1]; with_reducible rfl)) | (with_reducible apply wm_t; focus (first | omega | (simp (disch := omega) only [wr_id, in1]; omega) | (simp (disch := omega) only [wr_id, in1]; done))) | (with_reducible apply wm_f; focus (first | omega | (simp (disch := omega) only [wr_id, in1]; omega) | (simp (disch := omega) only [wr_id, in1]; done)))))
      exact wm_r ⟨rfl, INV_q hR hC hM (frm_refl _ _) (frM_f k1 (fun a ha => by unfold scrM; omega)) (zM_fr hz k1 (by decide) (by decide) (by decide))⟩
    by_cases z0 : x < 0
    · (repeat (first | (with_reducible apply wm_o; focus (simp (disch := omega) only [wr_id, Int.toNat_natCast, Int.reduceToNat, tn_lk, tn_kl, if_pos, if_neg, ↓reduceIte, and_self, and_true, true_and, ex]; with_reducible rfl)) | (with_reducible apply wm_q) | (with_reducible apply wm_c; focus (first | assumption | decide +kernel)) | (with_reducible apply wm_d; focus (simp (disch := omega) only [wr_id, Int.toNat_natCast, Int.reduceToNat, tn_lk, tn_kl, if_pos, if_neg, ↓reduceIte, and_self, and_true, true_and, ex]; with_reducible rfl)) | (with_reducible apply wm_t; focus (first | omega | (simp (disch := omega) only [wr_id, ex]; omega) | (simp (disch := omega) only [wr_id, ex]; done))) | (with_reducible apply wm_f; focus (first | omega | (simp (disch := omega) only [wr_id, ex]; omega) | (simp (disch := omega) only [wr_id, ex]; done)))))
      exact wm_r mod
    · (repeat (first | (with_reducible apply wm_o; focus (simp (disch := omega) only [wr_id, Int.toNat_natCast, Int.reduceToNat, tn_lk, tn_kl, if_pos, if_neg, ↓reduceIte, and_self, and_true, true_and, ex, FX, ht]; with_reducible rfl)) | (with_reducible apply wm_q) | (with_reducible apply wm_c; focus (first | assumption | decide +kernel)) | (with_reducible apply wm_d; focus (simp (disch := omega) only [wr_id, Int.toNat_natCast, Int.reduceToNat, tn_lk, tn_kl, if_pos, if_neg, ↓reduceIte, and_self, and_true, true_and, ex, FX, ht]; with_reducible rfl)) | (with_reducible apply wm_t; focus (first | omega | (simp (disch := omega) only [wr_id, ex, FX, ht]; omega) | (simp (disch := omega) only [wr_id, ex, FX, ht]; done))) | (with_reducible apply wm_f; focus (first | omega | (simp (disch := omega) only [wr_id, ex, FX, ht]; omega) | (simp (disch := omega) only [wr_id, ex, FX, ht]; done)))))
      exact wm_r mod
end WY
