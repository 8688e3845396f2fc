/-! ===== numberTold; calls: fit ===== -/
theorem lnP_len (w : Nat) : ∀ (k : Nat) (p : List Int), (lnP w k p).length = k
  | 0, _ => rfl
  | k + 1, p => by rw [lnP, List.length_cons, lnP_len w k]
theorem lnP_b (w : Nat) : ∀ (k : Nat) (p : List Int), ∀ o, o ∈ lnP w k p → o < 2 ^ w
  | 0, _, o, h => by cases h
  | k + 1, p, o, h => by
    rw [lnP, List.mem_cons] at h
    rcases h with rfl | h
    · exact mkM_lt _ _
    · exact lnP_b w k _ o h
section FT
variable {t d rt : Nat} {I J K : Nat → Nat → Int} {lv w h n nh r : Nat} {hl cl na nd na' nd' U : Nat → Bool} {sd : Int} {ifs : Nat → List LwI} {xs : Nat → List CI} {ρ : Nat → Int} {u : Nat} {H : Nat → Nat → Int} {hd : Nat → Bool} {G : Nat → Nat → Int}
theorem nth_mem {i : Nat} (hi : i < Np w n na nd n 0 cl) : nthP w n na nd n 0 cl i ∈ Lp w n na nd n 0 cl := List.mem_of_getElem? (nthP_get hi)
theorem ln_line (hw : 1 < w) (hw6 : w ≤ 6) (hh : 0 < h) (hn : ∀ x, na x = true → cl x = false) (hnw : n = w * h) {i : Nat} (hi : i < Np w n na nd n 0 cl) : lnA w h cl na nd h 0 0 i = lnP w h (nthP w n na nd n 0 cl i) := by
  have e1 : Np w (w * h) na nd (h * w) (0 * w) (Uc w cl 0 0) = Np w n na nd n 0 cl := by rw [Uc_0, Nat.zero_mul, Nat.mul_comm h w, hnw]
  have := lnA_eq (w := w) (h := h) (cl := cl) (na := na) (nd := nd) hw hw6 hh hn (k := h) (y := 0) (into := 0) (i := i) (by omega) (by rw [e1]; exact hi)
  rw [this, Uc_0, Nat.zero_mul, Nat.mul_comm h w, hnw]
theorem nb_line (hw : 1 < w) (hw6 : w ≤ 6) (hh : 0 < h) (hnw : n = w * h) {p : List Int} (hp : p ∈ Lp w n noB noB n 0 cl) : nbL w h cl noB noB h 0 0 (lnP w h p) = rkP w n noB noB n 0 cl p := by
  obtain ⟨h1, h2⟩ := rkP_mem hp
  have e1 : Np w (w * h) noB noB (h * w) (0 * w) (Uc w cl 0 0) = Np w n noB noB n 0 cl := by rw [Uc_0, Nat.zero_mul, Nat.mul_comm h w, hnw]
  have := nbL_eq (w := w) (h := h) (cl := cl) (na := noB) (nd := noB) hw hw6 hh no_cl (k := h) (y := 0) (into := 0) (i := rkP w n noB noB n 0 cl p) (by omega) (by rw [e1]; exact h1)
  rw [Uc_0, Nat.zero_mul, Nat.mul_comm h w, ← hnw, h2] at this
  exact this
theorem told_mem {p : List Int} (hp : p ∈ Lp w n na nd n 0 cl) : p ∈ Lp w n noB noB n 0 cl := by
  rw [Lp_told (na := noB) (nd := noB) (fun x h => by cases h) (fun x h => by cases h)] at hp
  exact (List.mem_filter.mp hp).1
theorem m_numberTold (c : mCfg I lv w h n) (h8 : flg I 408 cl) (h9 : flg I 409 na) (h10 : flg I 410 nd) (hT : wkT I 407 w n cl na nd) {last : Bool} {lb : Int} (hlb : (lb = 1 ∧ last = true) ∨ (lb = 0 ∧ last = false)) (hpos : 0 < Np w n na nd n 0 cl) : wm t d rt (f_X12_numberTold 369 lb (mm t d rt I)) (fun r J => r = (rkP w n noB noB n 0 cl (nthP w n na nd n 0 cl (if last then Np w n na nd n 0 cl - 1 else 0)) : Int) ∧ frM (fun a => a = 406) (fun _ => False) I J) := by
  have c0 := c
  obtain ⟨c1, c2, c3, c4, c5, c6, c7, c8, c9, c10, c11⟩ := c
  have hr := hr_of (w := w) (h := h) (by omega) c9
  have w0 := wr_0
  have w1 := wr_1
  unfold f_X12_numberTold
  (repeat (first | (with_reducible apply wm_o; focus (simp (disch := omega) only [wr_id, Int.toNat_natCast, Int.reduceToNat, tn_lk, tn_kl, if_pos, if_neg, ↓reduceIte, and_self, and_true, true_and]; with_reducible rfl)) | (with_reducible apply wm_q) | (with_reducible apply wm_c; focus (first | assumption | decide +kernel)) | (with_reducible apply wm_d; focus (simp (disch := omega) only [wr_id, Int.toNat_natCast, Int.reduceToNat, tn_lk, tn_kl, if_pos, if_neg, ↓reduceIte, and_self, and_true, true_and]; with_reducible rfl)) | (with_reducible apply wm_t; focus (first | omega | (simp (disch := omega) only [wr_id]; omega) | (simp (disch := omega) only [wr_id]; done))) | (with_reducible apply wm_f; focus (first | omega | (simp (disch := omega) only [wr_id]; omega) | (simp (disch := omega) only [wr_id]; done)))))
  refine wm_b (m_counts (b := 0) (tb := 406) (na := noB) (nd := noB) c0 h8 h9 h10 (Or.inl ⟨rfl, rfl, rfl, rfl⟩)) (fun v J hJ => ?_)
  obtain ⟨_, j1, j2⟩ := hJ
  have cJ := mCfg_frm (j1.2 18 (fun q => q)) (j1.1 377 (by decide) (by decide)) (j1.1 378 (by decide) (by decide)) c0
  have J8 : flg J 408 cl := flg_ne (j1.1 408 (by decide) (by decide)) h8
  have J9 : flg J 409 na := flg_ne (j1.1 409 (by decide) (by decide)) h9
  have J0 : flg J 410 nd := flg_ne (j1.1 410 (by decide) (by decide)) h10
  have JT : wkT J 407 w n cl na nd := fun c m hc hm => by rw [j1.1 407 (by decide) (by decide)]; exact hT c m hc hm
  have JT0 : wkT J 406 w n cl noB noB := j2
  have hce := s_cells (t := t) (d := d) (rt := rt) cJ
  -- the number, by its road
  have tot : rkM w n cl noB noB n 0 0 (ntL w n cl na nd last n 0 0) = (rkP w n noB noB n 0 cl (nthP w n na nd n 0 cl (if last then Np w n na nd n 0 cl - 1 else 0)) : Int) := by
    have e := ntL_eq (w := w) (n := n) (cl := cl) (na := na) (nd := nd) (by omega) hr (last := last) (k := n) (c := 0) (mask := 0) (by omega) (gM_00 w n) (by rw [Um_00]; exact hpos)
    rw [Um_00] at e
    have hm : nthP w n na nd n 0 cl (if last then Np w n na nd n 0 cl - 1 else 0) ∈ Lp w n na nd n 0 (Um cl 0 0) := by
      rw [Um_00]
      exact nth_mem (by split <;> omega)
    rw [e, rkM_eq (by omega) hr (by omega) (gM_00 w n) hm, Um_00]
  rw [← tot]
  refine wm_lp4 n (fun x a m y K => K = J ∧ y = (x : Int) ∧ ∃ mask : Nat, m = (mask : Int) ∧ gM w n x mask ∧ 0 < Np w n na nd (n - x) x (Um cl x mask) ∧ a + rkM w n cl noB noB (n - x) x mask (ntL w n cl na nd last (n - x) x mask) = rkM w n cl noB noB n 0 0 (ntL w n cl na nd last n 0 0)) ?_ (Nat.lt_of_le_of_lt c11 (jfuel_n (by decide))) ⟨rfl, rfl, 0, rfl, gM_00 w n, by rw [Um_00]; exact hpos, Int.zero_add _⟩
  rintro x hx a m y K ⟨rfl, rfl, mask, rfl, gm, hp, es⟩ rec hrec
  by_cases e : x = n
  · subst e
    rw [Nat.sub_self, ntL, rkM] at es
    (repeat (first | (with_reducible apply wm_o; focus (simp (disch := omega) only [wr_id, Int.toNat_natCast, Int.reduceToNat, tn_lk, tn_kl, if_pos, if_neg, ↓reduceIte, and_self, and_true, true_and, hce]; with_reducible rfl)) | (with_reducible apply wm_q) | (with_reducible apply wm_c; focus (first | assumption | decide +kernel)) | (with_reducible apply wm_d; focus (simp (disch := omega) only [wr_id, Int.toNat_natCast, Int.reduceToNat, tn_lk, tn_kl, if_pos, if_neg, ↓reduceIte, and_self, and_true, true_and, hce]; with_reducible rfl)) | (with_reducible apply wm_t; focus (first | omega | (simp (disch := omega) only [wr_id, hce]; omega) | (simp (disch := omega) only [wr_id, hce]; done))) | (with_reducible apply wm_f; focus (first | omega | (simp (disch := omega) only [wr_id, hce]; omega) | (simp (disch := omega) only [wr_id, hce]; done)))))
    exact wm_r ⟨by omega, j1⟩
  · have hxn : x < n := by omega
    have hm64 := gM_64 c6 gm
    have hmd := s_maskDown (t := t) (d := d) (rt := rt) cJ hm64
    have ha0 := m_acr (t := t) (d := d) (rt := rt) cJ J8 (flg_b01 J9) JT0 hxn hm64
    have ha1 := m_acr1 (t := t) (d := d) (rt := rt) cJ J8 J9 J0 JT hxn hm64
    have hd1 := m_dwn1 (t := t) (d := d) (rt := rt) cJ J8 J9 J0 JT hxn hm64
    have e1 := m1_b hm64
    have t1 := tb_and1 mask
    have al : mask &&& 1 ≤ mask := Nat.and_le_left
    have es1 := shr_1 mask (by omega)
    have ea := mA_b hm64
    have k8 := flg_01 J8 (x := x) (by omega)
    rw [show n - x = (n - (x + 1)) + 1 by omega, ntL_s] at es
    rw [show n - x = (n - (x + 1)) + 1 by omega] at hp
    by_cases z : (mask.testBit 0 || cl x) = true
    · rw [if_pos z, rkM_s, if_neg (by decide), if_pos (by decide)] at es
      rw [Np_c (by rw [Um_0]; exact z)] at hp
      have hp' : 0 < Np w n na nd (n - (x + 1)) (x + 1) (Um cl (x + 1) (mask >>> 1)) := by
        have : Lp w n na nd (n - (x + 1)) (x + 1) (Um cl (x + 1) (mask >>> 1)) = Lp w n na nd (n - (x + 1)) (x + 1) (Um cl x mask) := Lp_congr (fun y hy => Um_s hy)
        unfold Np at hp ⊢
        rw [this]; exact hp
      by_cases z1 : mask.testBit 0 = true
      · rw [t1.mpr z1] at e1
        (repeat (first | (with_reducible apply wm_o; focus (simp (disch := omega) only [wr_id, Int.toNat_natCast, Int.reduceToNat, tn_lk, tn_kl, if_pos, if_neg, ↓reduceIte, and_self, and_true, true_and, hce, FM, e1]; with_reducible rfl)) | (with_reducible apply wm_q) | (with_reducible apply wm_c; focus (first | assumption | decide +kernel)) | (with_reducible apply wm_d; focus (simp (disch := omega) only [wr_id, Int.toNat_natCast, Int.reduceToNat, tn_lk, tn_kl, if_pos, if_neg, ↓reduceIte, and_self, and_true, true_and, hce, FM, e1]; with_reducible rfl)) | (with_reducible apply wm_t; focus (first | omega | (simp (disch := omega) only [wr_id, hce, FM, e1]; omega) | (simp (disch := omega) only [wr_id, hce, FM, e1]; done))) | (with_reducible apply wm_f; focus (first | omega | (simp (disch := omega) only [wr_id, hce, FM, e1]; omega) | (simp (disch := omega) only [wr_id, hce, FM, e1]; done)))))
        rw [es1]
        exact hrec (x + 1) _ _ _ _ (by omega) (by omega) ⟨rfl, by omega, mask >>> 1, rfl, gM_s gm, hp', by omega⟩
      · have t1' : ¬ mask &&& 1 = 1 := fun q => z1 (t1.mp q)
        have z2 : cl x = true := by
          rw [show mask.testBit 0 = false by simpa using z1] at z
          exact z
        have k81 := k8.1 z2
        (repeat (first | (with_reducible apply wm_o; focus (simp (disch := omega) only [wr_id, Int.toNat_natCast, Int.reduceToNat, tn_lk, tn_kl, if_pos, if_neg, ↓reduceIte, and_self, and_true, true_and, hce, FM, e1, k81]; with_reducible rfl)) | (with_reducible apply wm_q) | (with_reducible apply wm_c; focus (first | assumption | decide +kernel)) | (with_reducible apply wm_d; focus (simp (disch := omega) only [wr_id, Int.toNat_natCast, Int.reduceToNat, tn_lk, tn_kl, if_pos, if_neg, ↓reduceIte, and_self, and_true, true_and, hce, FM, e1, k81]; with_reducible rfl)) | (with_reducible apply wm_t; focus (first | omega | (simp (disch := omega) only [wr_id, hce, FM, e1, k81]; omega) | (simp (disch := omega) only [wr_id, hce, FM, e1, k81]; done))) | (with_reducible apply wm_f; focus (first | omega | (simp (disch := omega) only [wr_id, hce, FM, e1, k81]; omega) | (simp (disch := omega) only [wr_id, hce, FM, e1, k81]; done)))))
        rw [es1]
        exact hrec (x + 1) _ _ _ _ (by omega) (by omega) ⟨rfl, by omega, mask >>> 1, rfl, gM_s gm, hp', by omega⟩
    · rw [if_neg z] at es
      rw [Bool.not_eq_true, Bool.or_eq_false_iff] at z
      have t1' : ¬ mask &&& 1 = 1 := fun q => by rw [t1.mp q] at z; cases z.1
      have k80 := k8.2 z.2
      rw [Np_f (by rw [Um_0, z.1, z.2]; rfl)] at hp
      have hae := accI_eq (w := w) (n := n) (cl := cl) (na := na) (nd := nd) (by omega) hr (k := n - (x + 1)) (c := x) (mask := mask) (by omega) gm
      have hde := dnI_eq (w := w) (n := n) (cl := cl) (na := na) (nd := nd) (by omega) hr (k := n - (x + 1)) (c := x) (mask := mask) (by omega) gm
      obtain ⟨b1, b2⟩ := accI_b (w := w) (n := n) (h := h) (cl := cl) (na := na) (nd := nd) (by omega) c9 c11 (k := n - (x + 1)) (c := x) (mask := mask) (by omega) gm
      obtain ⟨b3, b4⟩ := dnI_b (w := w) (n := n) (h := h) (cl := cl) (na := na) (nd := nd) (by omega) c9 c11 (k := n - (x + 1)) (c := x) (mask := mask) (by omega) gm
      -- across
      have goA : 0 < accI w n cl na nd (n - (x + 1)) x mask → a + rkM w n cl noB noB (n - (x + 1)) (x + 1) (mA mask) (ntL w n cl na nd last (n - (x + 1)) (x + 1) (mA mask)) = rkM w n cl noB noB n 0 0 (ntL w n cl na nd last n 0 0) → wm t d rt (rec a ((mA mask : Nat) : Int) ((x : Int) + 1) (mm t d rt K)) (fun r J => r = rkM w n cl noB noB n 0 0 (ntL w n cl na nd last n 0 0) ∧ frM (fun a => a = 406) (fun _ => False) I J) := by
        intro hA hE
        have hok : aOK w na (Um cl x mask) x = true := by
          cases q : aOK w na (Um cl x mask) x with
          | true => rfl
          | false => rw [q, if_neg (by decide)] at hae; omega
        rw [hok, if_pos rfl] at hae
        have e2 : Np w n na nd (n - (x + 1)) (x + 1) (Um cl (x + 1) (mA mask)) = Np w n na nd (n - (x + 1)) (x + 1) (cov (Um cl x mask) (x + 1)) := by
          unfold Np
          exact congrArg List.length (Lp_congr (fun y hy => Um_a hy))
        exact hrec (x + 1) _ _ _ _ (by omega) (by omega) ⟨rfl, by omega, mA mask, rfl, aM_gM hr hxn gm (by rw [aM_eq]; exact hok), by rw [e2]; omega, hE⟩
      have goD : 0 < dnI w n cl na nd (n - (x + 1)) x mask → a + accI w n cl noB noB (n - (x + 1)) x mask + rkM w n cl noB noB (n - (x + 1)) (x + 1) (mD w mask) (ntL w n cl na nd last (n - (x + 1)) (x + 1) (mD w mask)) = rkM w n cl noB noB n 0 0 (ntL w n cl na nd last n 0 0) → wm t d rt (rec (a + accI w n cl noB noB (n - (x + 1)) x mask) ((mD w mask : Nat) : Int) ((x : Int) + 1) (mm t d rt K)) (fun r J => r = rkM w n cl noB noB n 0 0 (ntL w n cl na nd last n 0 0) ∧ frM (fun a => a = 406) (fun _ => False) I J) := by
        intro hA hE
        have hok : dOK w n nd (Um cl x mask) x = true := by
          cases q : dOK w n nd (Um cl x mask) x with
          | true => rfl
          | false => rw [q, if_neg (by decide)] at hde; omega
        rw [hok, if_pos rfl] at hde
        have e2 : Np w n na nd (n - (x + 1)) (x + 1) (Um cl (x + 1) (mD w mask)) = Np w n na nd (n - (x + 1)) (x + 1) (cov (Um cl x mask) (x + w)) := by
          unfold Np
          exact congrArg List.length (Lp_congr (fun y hy => Um_d (by omega) hy))
        exact hrec (x + 1) _ _ _ _ (by omega) (by omega) ⟨rfl, by omega, mD w mask, rfl, dM_gM (by omega) gm (by rw [dM_eq gm.1]; exact hok), by rw [e2]; omega, hE⟩
      have hsum : 0 < accI w n cl na nd (n - (x + 1)) x mask ∨ 0 < dnI w n cl na nd (n - (x + 1)) x mask := by omega
      generalize hA : accI w n cl na nd (n - (x + 1)) x mask = A at *
      generalize hD : dnI w n cl na nd (n - (x + 1)) x mask = D at *
      rcases hlb with ⟨rfl, rfl⟩ | ⟨rfl, rfl⟩
      · by_cases zd : 0 < D
        · rw [if_pos (by simp [zd]), rkM_s, if_pos rfl, if_neg (by decide), if_neg (by decide)] at es
          (repeat (first | (with_reducible apply wm_o; focus (simp (disch := omega) only [wr_id, Int.toNat_natCast, Int.reduceToNat, tn_lk, tn_kl, if_pos, if_neg, ↓reduceIte, and_self, and_true, true_and, hce, FM, e1, k80, hd1, ha0, hmd]; with_reducible rfl)) | (with_reducible apply wm_q) | (with_reducible apply wm_c; focus (first | assumption | decide +kernel)) | (with_reducible apply wm_d; focus (simp (disch := omega) only [wr_id, Int.toNat_natCast, Int.reduceToNat, tn_lk, tn_kl, if_pos, if_neg, ↓reduceIte, and_self, and_true, true_and, hce, FM, e1, k80, hd1, ha0, hmd]; with_reducible rfl)) | (with_reducible apply wm_t; focus (first | omega | (simp (disch := omega) only [wr_id, hce, FM, e1, k80, hd1, ha0, hmd]; omega) | (simp (disch := omega) only [wr_id, hce, FM, e1, k80, hd1, ha0, hmd]; done))) | (with_reducible apply wm_f; focus (first | omega | (simp (disch := omega) only [wr_id, hce, FM, e1, k80, hd1, ha0, hmd]; omega) | (simp (disch := omega) only [wr_id, hce, FM, e1, k80, hd1, ha0, hmd]; done)))))
          exact goD zd (by omega)
        · rw [if_neg (by simp; omega), rkM_s, if_neg (by decide), if_neg (by decide), if_pos rfl] at es
          (repeat (first | (with_reducible apply wm_o; focus (simp (disch := omega) only [wr_id, Int.toNat_natCast, Int.reduceToNat, tn_lk, tn_kl, if_pos, if_neg, ↓reduceIte, and_self, and_true, true_and, hce, FM, e1, k80, hd1]; with_reducible rfl)) | (with_reducible apply wm_q) | (with_reducible apply wm_c; focus (first | assumption | decide +kernel)) | (with_reducible apply wm_d; focus (simp (disch := omega) only [wr_id, Int.toNat_natCast, Int.reduceToNat, tn_lk, tn_kl, if_pos, if_neg, ↓reduceIte, and_self, and_true, true_and, hce, FM, e1, k80, hd1]; with_reducible rfl)) | (with_reducible apply wm_t; focus (first | omega | (simp (disch := omega) only [wr_id, hce, FM, e1, k80, hd1]; omega) | (simp (disch := omega) only [wr_id, hce, FM, e1, k80, hd1]; done))) | (with_reducible apply wm_f; focus (first | omega | (simp (disch := omega) only [wr_id, hce, FM, e1, k80, hd1]; omega) | (simp (disch := omega) only [wr_id, hce, FM, e1, k80, hd1]; done)))))
          rw [ea]
          exact goA (by omega) (by omega)
      · by_cases zd : A = 0
        · rw [if_pos (by simp [zd]), rkM_s, if_pos rfl, if_neg (by decide), if_neg (by decide)] at es
          (repeat (first | (with_reducible apply wm_o; focus (simp (disch := omega) only [wr_id, Int.toNat_natCast, Int.reduceToNat, tn_lk, tn_kl, if_pos, if_neg, ↓reduceIte, and_self, and_true, true_and, hce, FM, e1, k80, ha1, ha0, hmd]; with_reducible rfl)) | (with_reducible apply wm_q) | (with_reducible apply wm_c; focus (first | assumption | decide +kernel)) | (with_reducible apply wm_d; focus (simp (disch := omega) only [wr_id, Int.toNat_natCast, Int.reduceToNat, tn_lk, tn_kl, if_pos, if_neg, ↓reduceIte, and_self, and_true, true_and, hce, FM, e1, k80, ha1, ha0, hmd]; with_reducible rfl)) | (with_reducible apply wm_t; focus (first | omega | (simp (disch := omega) only [wr_id, hce, FM, e1, k80, ha1, ha0, hmd]; omega) | (simp (disch := omega) only [wr_id, hce, FM, e1, k80, ha1, ha0, hmd]; done))) | (with_reducible apply wm_f; focus (first | omega | (simp (disch := omega) only [wr_id, hce, FM, e1, k80, ha1, ha0, hmd]; omega) | (simp (disch := omega) only [wr_id, hce, FM, e1, k80, ha1, ha0, hmd]; done)))))
          exact goD (by omega) (by omega)
        · rw [if_neg (by simp [zd]), rkM_s, if_neg (by decide), if_neg (by decide), if_pos rfl] at es
          (repeat (first | (with_reducible apply wm_o; focus (simp (disch := omega) only [wr_id, Int.toNat_natCast, Int.reduceToNat, tn_lk, tn_kl, if_pos, if_neg, ↓reduceIte, and_self, and_true, true_and, hce, FM, e1, k80, ha1]; with_reducible rfl)) | (with_reducible apply wm_q) | (with_reducible apply wm_c; focus (first | assumption | decide +kernel)) | (with_reducible apply wm_d; focus (simp (disch := omega) only [wr_id, Int.toNat_natCast, Int.reduceToNat, tn_lk, tn_kl, if_pos, if_neg, ↓reduceIte, and_self, and_true, true_and, hce, FM, e1, k80, ha1]; with_reducible rfl)) | (with_reducible apply wm_t; focus (first | omega | (simp (disch := omega) only [wr_id, hce, FM, e1, k80, ha1]; omega) | (simp (disch := omega) only [wr_id, hce, FM, e1, k80, ha1]; done))) | (with_reducible apply wm_f; focus (first | omega | (simp (disch := omega) only [wr_id, hce, FM, e1, k80, ha1]; omega) | (simp (disch := omega) only [wr_id, hce, FM, e1, k80, ha1]; done)))))
          rw [ea]
          exact goA (by omega) (by omega)
theorem P_fit (hI : INV t d rt I) {x y : Int} (hx : in32 x) (hy : in32 y) : both t d rt (f_X11_fit 0 x y (mm t d rt I)) (fun M => f_X12_fit 369 x y M) := by
  have hI' := hI
  obtain ⟨lv, w, h, n, nh, hl, sd, ifs, xs, hR, ρ, u, H, hd, G, hC, hM⟩ := hI
  have sq := hR.2.1
  have hcf := hR.2.2.1
  have hmf := hR.2.2.2.1
  have hE := hR.2.2.2.2.2.2.2.1
  have hnw := sq.2.2.2.2.1
  have hn := sq.2.2.2.2.2.2.1
  have hw : 2 ≤ w ∧ w ≤ 6 := ⟨sq.1, sq.2.1⟩
  have hh : 2 ≤ h ∧ h ≤ 6 := ⟨sq.2.2.1, sq.2.2.2.1⟩
  have ex := wr_in hx
  have ey := wr_in hy
  obtain ⟨td, t1, t2, t3, t4⟩ := hR.2.2.2.2.1
  have hx' := hx
  have hy' := hy
  unfold in32 at hx' hy'
  unfold both f_X11_fit
  by_cases z : 0 ≤ x ∧ x ≤ td
  · obtain ⟨k, rfl⟩ : ∃ k : Nat, x = (k : Int) := ⟨x.toNat, by omega⟩
    have in1 := fun (M : jMem) => m_in_t (a := 0) (b := (td : Int)) (M := M) hx (i32 (by omega) (by omega)) (i32 (by omega) (by omega)) z
    by_cases zy : 0 ≤ y ∧ y ≤ 2
    · have in2 := fun (M : jMem) => m_in_t (a := 0) (b := 2) (M := M) hy (i32 (by omega) (by omega)) (i32 (by omega) (by omega)) zy
      have hT := td_ok (I := I) (k := k) (by omega) hn t4
      (repeat (first | (with_reducible apply wm_o; focus (simp (disch := omega) only [wr_id, Int.toNat_natCast, Int.reduceToNat, tn_lk, tn_kl, if_pos, if_neg, ↓reduceIte, and_self, and_true, true_and, FX, FTold, t2]; with_reducible rfl)) | (with_reducible apply wm_q) | (with_reducible apply wm_c; focus (first | assumption | decide +kernel)) | (with_reducible apply wm_d; focus (simp (disch := omega) only [wr_id, Int.toNat_natCast, Int.reduceToNat, tn_lk, tn_kl, if_pos, if_neg, ↓reduceIte, and_self, and_true, true_and, FX, FTold, t2]; with_reducible rfl)) | (with_reducible apply wm_t; focus (first | omega | (simp (disch := omega) only [wr_id, FX, FTold, t2]; omega) | (simp (disch := omega) only [wr_id, FX, FTold, t2]; done))) | (with_reducible apply wm_f; focus (first | omega | (simp (disch := omega) only [wr_id, FX, FTold, t2]; omega) | (simp (disch := omega) only [wr_id, FX, FTold, t2]; done)))))
      refine wm_b (c_countKnown (A := I 309) (B := I 310) sq hcf hE.2.2 (show k ≤ td by omega) t1 t2 (fun i _ => ⟨rfl, rfl⟩) hT) (fun v J hJ => ?_)
      obtain ⟨j1, j2, j3⟩ := hJ
      have hcl := td_cl (v := 0) hT
      have ht := c_tot (t := t) (d := d) (rt := rt) so_in j2 j3 hcl hnw
      have hTb := Np_b (na := tdN (I 309) (I 310) 0 k) (nd := tdN (I 309) (I 310) 1 k) (cl := hl) (show 0 < w by omega) hnw hn
      have hWt := Wr_tot (w := w) (h := h) (cl := hl) (na := tdN (I 309) (I 310) 0 k) (nd := tdN (I 309) (I 310) 1 k) (by omega) hw.2 (by omega) hcl
      rw [← hnw] at hWt
      have mod : ∀ (J : Nat → Nat → Int) (Q : Int → (Nat → Nat → Int) → Prop) (g : Int → jMem → Option (Int × jMem)), frm scrC I J → (∀ K, frM scrM scrF J K → zM K → cfM K lv w h n nh hl sd ifs xs → flg K 408 hl → flg K 409 (tdN (I 309) (I 310) 0 k) → flg K 410 (tdN (I 309) (I 310) 1 k) → wkT K 407 w n hl (tdN (I 309) (I 310) 0 k) (tdN (I 309) (I 310) 1 k) → wm t d rt (g (Np w n (tdN (I 309) (I 310) 0 k) (tdN (I 309) (I 310) 1 k) n 0 hl : Int) (mm t d rt K)) Q) → wm t d rt (jbd (f_X12_countsTold 369 (k : Int) (mm t d rt J)) g) Q := by
        intro J Q g jC hg
        have jS : frm (fun a => scrC a ∨ stS a) I J := frm_sub jC (fun a ha => Or.inl ha)
        have hRJ := REST_c jS hR
        refine wm_b (m_countsTold (A := I 309) (B := I 310) hRJ.2.2.2.1 (show k ≤ 20 by omega) (fun i hi => ?_) hT) (fun v L hL => ?_)
        · rw [jC 414 (by unfold scrC; omega), jC 415 (by unfold scrC; omega)]
          exact ⟨(t4 i (by omega)).1.symm, (t4 i (by omega)).2.1.symm⟩
        · obtain ⟨rfl, l1, l2, l3, l4, l5⟩ := hL
          have hzJ := hRJ.2.2.2.2.2.2.2.2.2
          refine hg L (frM_f l1 (fun a ha => by unfold scrM; omega)) ⟨?_, flg_b01 l3, flg_b01 l4⟩ (cfM_frm l1 (fun a _ _ _ _ _ _ _ _ => by omega) (fun q => q) hRJ.2.2.2.1) l2 l3 l4 l5
          rw [l1.1 401 (by decide) (by omega)]; exact hzJ.1
      have jC : frm scrC I J := frm_sub j1 (fun a ha => scr_r ha)
      have m63 : ∀ J, frm scrC I J → J 369 63 = (td : Int) := fun J jC => by rw [jC 369 (by unfold scrC; omega)]; exact t3
      obtain ⟨T, hTT⟩ : ∃ T, T = Np w n (tdN (I 309) (I 310) 0 k) (tdN (I 309) (I 310) 1 k) n 0 hl := ⟨_, rfl⟩
      rw [← hTT] at ht hTb hWt
      by_cases y0 : y = 0
      · subst y0
        (repeat (first | (with_reducible apply wm_o; focus (simp (disch := omega) only [wr_id, Int.toNat_natCast, Int.reduceToNat, tn_lk, tn_kl, if_pos, if_neg, ↓reduceIte, and_self, and_true, true_and, FX, ht]; with_reducible rfl)) | (with_reducible apply wm_q) | (with_reducible apply wm_c; focus (first | assumption | decide +kernel)) | (with_reducible apply wm_d; focus (simp (disch := omega) only [wr_id, Int.toNat_natCast, Int.reduceToNat, tn_lk, tn_kl, if_pos, if_neg, ↓reduceIte, and_self, and_true, true_and, FX, ht]; with_reducible rfl)) | (with_reducible apply wm_t; focus (first | omega | (simp (disch := omega) only [wr_id, FX, ht]; omega) | (simp (disch := omega) only [wr_id, FX, ht]; done))) | (with_reducible apply wm_f; focus (first | omega | (simp (disch := omega) only [wr_id, FX, ht]; omega) | (simp (disch := omega) only [wr_id, FX, ht]; done)))))
        refine wm_r ?_
        show wm t d rt (f_X12_fit 369 (k : Int) 0 (mm t d rt J)) _
        have e63 := m63 J jC
        unfold f_X12_fit
        (repeat (first | (with_reducible apply wm_o; focus (simp (disch := omega) only [wr_id, Int.toNat_natCast, Int.reduceToNat, tn_lk, tn_kl, if_pos, if_neg, ↓reduceIte, and_self, and_true, true_and, FM, e63, in1, in2]; with_reducible rfl)) | (with_reducible apply wm_q) | (with_reducible apply wm_c; focus (first | assumption | decide +kernel)) | (with_reducible apply wm_d; focus (simp (disch := omega) only [wr_id, Int.toNat_natCast, Int.reduceToNat, tn_lk, tn_kl, if_pos, if_neg, ↓reduceIte, and_self, and_true, true_and, FM, e63, in1, in2]; with_reducible rfl)) | (with_reducible apply wm_t; focus (first | omega | (simp (disch := omega) only [wr_id, FM, e63, in1, in2]; omega) | (simp (disch := omega) only [wr_id, FM, e63, in1, in2]; done))) | (with_reducible apply wm_f; focus (first | omega | (simp (disch := omega) only [wr_id, FM, e63, in1, in2]; omega) | (simp (disch := omega) only [wr_id, FM, e63, in1, in2]; done)))))
        refine mod J _ _ jC (fun K k1 k2 k3 _ _ _ _ => ?_)
        (repeat (first | (with_reducible apply wm_o; focus (simp (disch := omega) only [wr_id, Int.toNat_natCast, Int.reduceToNat, tn_lk, tn_kl, if_pos, if_neg, ↓reduceIte, and_self, and_true, true_and]; with_reducible rfl)) | (with_reducible apply wm_q) | (with_reducible apply wm_c; focus (first | assumption | decide +kernel)) | (with_reducible apply wm_d; focus (simp (disch := omega) only [wr_id, Int.toNat_natCast, Int.reduceToNat, tn_lk, tn_kl, if_pos, if_neg, ↓reduceIte, and_self, and_true, true_and]; with_reducible rfl)) | (with_reducible apply wm_t; focus (first | omega | (simp (disch := omega) only [wr_id]; omega) | (simp (disch := omega) only [wr_id]; done))) | (with_reducible apply wm_f; focus (first | omega | (simp (disch := omega) only [wr_id]; omega) | (simp (disch := omega) only [wr_id]; done)))))
        exact wm_r ⟨by rw [hTT], INV_q hR hC hM jC k1 k2⟩
      · by_cases zT : T = 0
        · rw [zT] at ht
          (repeat (first | (with_reducible apply wm_o; focus (simp (disch := omega) only [wr_id, Int.toNat_natCast, Int.reduceToNat, tn_lk, tn_kl, if_pos, if_neg, ↓reduceIte, and_self, and_true, true_and, FX, ey, ht]; with_reducible rfl)) | (with_reducible apply wm_q) | (with_reducible apply wm_c; focus (first | assumption | decide +kernel)) | (with_reducible apply wm_d; focus (simp (disch := omega) only [wr_id, Int.toNat_natCast, Int.reduceToNat, tn_lk, tn_kl, if_pos, if_neg, ↓reduceIte, and_self, and_true, true_and, FX, ey, ht]; with_reducible rfl)) | (with_reducible apply wm_t; focus (first | omega | (simp (disch := omega) only [wr_id, FX, ey, ht]; omega) | (simp (disch := omega) only [wr_id, FX, ey, ht]; done))) | (with_reducible apply wm_f; focus (first | omega | (simp (disch := omega) only [wr_id, FX, ey, ht]; omega) | (simp (disch := omega) only [wr_id, FX, ey, ht]; done)))))
          refine wm_r ?_
          show wm t d rt (f_X12_fit 369 (k : Int) y (mm t d rt J)) _
          have e63 := m63 J jC
          unfold f_X12_fit
          (repeat (first | (with_reducible apply wm_o; focus (simp (disch := omega) only [wr_id, Int.toNat_natCast, Int.reduceToNat, tn_lk, tn_kl, if_pos, if_neg, ↓reduceIte, and_self, and_true, true_and, FM, e63, in1, in2]; with_reducible rfl)) | (with_reducible apply wm_q) | (with_reducible apply wm_c; focus (first | assumption | decide +kernel)) | (with_reducible apply wm_d; focus (simp (disch := omega) only [wr_id, Int.toNat_natCast, Int.reduceToNat, tn_lk, tn_kl, if_pos, if_neg, ↓reduceIte, and_self, and_true, true_and, FM, e63, in1, in2]; with_reducible rfl)) | (with_reducible apply wm_t; focus (first | omega | (simp (disch := omega) only [wr_id, FM, e63, in1, in2]; omega) | (simp (disch := omega) only [wr_id, FM, e63, in1, in2]; done))) | (with_reducible apply wm_f; focus (first | omega | (simp (disch := omega) only [wr_id, FM, e63, in1, in2]; omega) | (simp (disch := omega) only [wr_id, FM, e63, in1, in2]; done)))))
          refine mod J _ _ jC (fun K k1 k2 k3 _ _ _ _ => ?_)
          rw [← hTT, zT]
          (repeat (first | (with_reducible apply wm_o; focus (simp (disch := omega) only [wr_id, Int.toNat_natCast, Int.reduceToNat, tn_lk, tn_kl, if_pos, if_neg, ↓reduceIte, and_self, and_true, true_and, ey]; with_reducible rfl)) | (with_reducible apply wm_q) | (with_reducible apply wm_c; focus (first | assumption | decide +kernel)) | (with_reducible apply wm_d; focus (simp (disch := omega) only [wr_id, Int.toNat_natCast, Int.reduceToNat, tn_lk, tn_kl, if_pos, if_neg, ↓reduceIte, and_self, and_true, true_and, ey]; with_reducible rfl)) | (with_reducible apply wm_t; focus (first | omega | (simp (disch := omega) only [wr_id, ey]; omega) | (simp (disch := omega) only [wr_id, ey]; done))) | (with_reducible apply wm_f; focus (first | omega | (simp (disch := omega) only [wr_id, ey]; omega) | (simp (disch := omega) only [wr_id, ey]; done)))))
          exact wm_r ⟨rfl, INV_q hR hC hM jC k1 k2⟩
        · -- the line's number, and the told one
          have fin : ∀ (i : Nat) (last : Bool) (lb : Int), ((lb = 1 ∧ last = true ∧ y = 2) ∨ (lb = 0 ∧ last = false ∧ y = 1)) → i = (if last then T - 1 else 0) → wm t d rt ((jm_gR 11 13 (mm t d rt J) 0).bind fun r12 =>
jcall 4 (mm t d rt J) 324 (f_X4_lineAt 324 (i : Int) r12 (mm t d rt J)) fun _ M14 =>
(jm_gR 11 8 M14 0).bind fun r15 =>
(jm_gR 11 13 M14 0).bind fun r16 =>
jcall 4 M14 r15 (f_X4_numberOf r15 r16 M14) fun v17 M18 =>
some (v17, M18)) (fun r J => wm t d rt (f_X12_fit 369 (k : Int) y (mm t d rt J)) (fun r' K => jd_wr r = jd_wr r' ∧ INV t d rt K)) := by
            intro i last lb hlb hi
            have hiT : i < T := by rw [hi]; split <;> omega
            (repeat (first | (with_reducible apply wm_o; focus (simp (disch := omega) only [wr_id, Int.toNat_natCast, Int.reduceToNat, tn_lk, tn_kl, if_pos, if_neg, ↓reduceIte, and_self, and_true, true_and, FX]; with_reducible rfl)) | (with_reducible apply wm_q) | (with_reducible apply wm_c; focus (first | assumption | decide +kernel)) | (with_reducible apply wm_d; focus (simp (disch := omega) only [wr_id, Int.toNat_natCast, Int.reduceToNat, tn_lk, tn_kl, if_pos, if_neg, ↓reduceIte, and_self, and_true, true_and, FX]; with_reducible rfl)) | (with_reducible apply wm_t; focus (first | omega | (simp (disch := omega) only [wr_id, FX]; omega) | (simp (disch := omega) only [wr_id, FX]; done))) | (with_reducible apply wm_f; focus (first | omega | (simp (disch := omega) only [wr_id, FX]; omega) | (simp (disch := omega) only [wr_id, FX]; done)))))
            refine wm_b (w_lineAt so_in j2 j3 hcl (i := i) (by rw [hWt]; exact hiT)) (fun v2 J2 hJ2 => ?_)
            obtain ⟨q1, q2⟩ := hJ2
            have jC2 : frm scrC I J2 := frm_trans jC (frm_sub q1 (fun a ha => by unfold scrC; omega))
            rw [ln_line (by omega) hw.2 (by omega) hcl hnw (by rw [← hTT]; exact hiT)] at q2
            obtain ⟨p, hp⟩ : ∃ p, p = nthP w n (tdN (I 309) (I 310) 0 k) (tdN (I 309) (I 310) 1 k) n 0 hl i := ⟨_, rfl⟩
            rw [← hp] at q2
            have hpm : p ∈ Lp w n noB noB n 0 hl := told_mem (by rw [hp]; exact nth_mem (by rw [← hTT]; exact hiT))
            have eE : evI J2 w h hl := (REST_c (frm_sub jC2 (fun a ha => Or.inl ha)) hR).2.2.2.2.2.2.2.1
            have hno := w_numberOf (t := t) (d := d) (rt := rt) (Or.inr rfl) ev_in eE.1 eE.2.1 q2 (lnP_len w h p) (lnP_b w h p)
            rw [nb_line (by omega) hw.2 (by omega) hnw hpm] at hno
            (repeat (first | (with_reducible apply wm_o; focus (simp (disch := omega) only [wr_id, Int.toNat_natCast, Int.reduceToNat, tn_lk, tn_kl, if_pos, if_neg, ↓reduceIte, and_self, and_true, true_and, FX, hno]; with_reducible rfl)) | (with_reducible apply wm_q) | (with_reducible apply wm_c; focus (first | assumption | decide +kernel)) | (with_reducible apply wm_d; focus (simp (disch := omega) only [wr_id, Int.toNat_natCast, Int.reduceToNat, tn_lk, tn_kl, if_pos, if_neg, ↓reduceIte, and_self, and_true, true_and, FX, hno]; with_reducible rfl)) | (with_reducible apply wm_t; focus (first | omega | (simp (disch := omega) only [wr_id, FX, hno]; omega) | (simp (disch := omega) only [wr_id, FX, hno]; done))) | (with_reducible apply wm_f; focus (first | omega | (simp (disch := omega) only [wr_id, FX, hno]; omega) | (simp (disch := omega) only [wr_id, FX, hno]; done)))))
            refine wm_r ?_
            show wm t d rt (f_X12_fit 369 (k : Int) y (mm t d rt J2)) _
            have e63 := m63 J2 jC2
            have mlast : ∀ K, frM scrM scrF J2 K → zM K → cfM K lv w h n nh hl sd ifs xs → flg K 408 hl → flg K 409 (tdN (I 309) (I 310) 0 k) → flg K 410 (tdN (I 309) (I 310) 1 k) → wkT K 407 w n hl (tdN (I 309) (I 310) 0 k) (tdN (I 309) (I 310) 1 k) → wm t d rt (jbd (f_X12_numberTold 369 lb (mm t d rt K)) fun v8 M9 => some (v8, M9)) (fun r' K => jd_wr ((rkP w n noB noB n 0 hl p : Nat) : Int) = jd_wr r' ∧ INV t d rt K) := by
              intro K k1 k2 k3 k8 k9 k0 kT
              refine wm_b (m_numberTold (last := last) k3.1 k8 k9 k0 kT (by rcases hlb with q | q <;> simp [q.1, q.2.1]) (by rw [← hTT]; omega)) (fun v8 L hL => ?_)
              obtain ⟨rfl, l1⟩ := hL
              refine wm_r ⟨?_, INV_q hR hC hM jC2 (frM_trans k1 (frM_f l1 (fun a ha => by unfold scrM; omega))) (zM_fr k2 l1 (by decide) (by decide) (by decide))⟩
              rw [hp, hi, hTT]
            unfold f_X12_fit
            (repeat (first | (with_reducible apply wm_o; focus (simp (disch := omega) only [wr_id, Int.toNat_natCast, Int.reduceToNat, tn_lk, tn_kl, if_pos, if_neg, ↓reduceIte, and_self, and_true, true_and, FM, e63, in1, in2]; with_reducible rfl)) | (with_reducible apply wm_q) | (with_reducible apply wm_c; focus (first | assumption | decide +kernel)) | (with_reducible apply wm_d; focus (simp (disch := omega) only [wr_id, Int.toNat_natCast, Int.reduceToNat, tn_lk, tn_kl, if_pos, if_neg, ↓reduceIte, and_self, and_true, true_and, FM, e63, in1, in2]; with_reducible rfl)) | (with_reducible apply wm_t; focus (first | omega | (simp (disch := omega) only [wr_id, FM, e63, in1, in2]; omega) | (simp (disch := omega) only [wr_id, FM, e63, in1, in2]; done))) | (with_reducible apply wm_f; focus (first | omega | (simp (disch := omega) only [wr_id, FM, e63, in1, in2]; omega) | (simp (disch := omega) only [wr_id, FM, e63, in1, in2]; done)))))
            refine mod J2 _ _ jC2 (fun K k1 k2 k3 k8 k9 k0 kT => ?_)
            have ml := mlast K k1 k2 k3 k8 k9 k0 kT
            rw [← hTT]
            rcases hlb with ⟨rfl, rfl, rfl⟩ | ⟨rfl, rfl, rfl⟩
            · (repeat (first | (with_reducible apply wm_o; focus (simp (disch := omega) only [wr_id, Int.toNat_natCast, Int.reduceToNat, tn_lk, tn_kl, if_pos, if_neg, ↓reduceIte, and_self, and_true, true_and]; with_reducible rfl)) | (with_reducible apply wm_q) | (with_reducible apply wm_c; focus (first | assumption | decide +kernel)) | (with_reducible apply wm_d; focus (simp (disch := omega) only [wr_id, Int.toNat_natCast, Int.reduceToNat, tn_lk, tn_kl, if_pos, if_neg, ↓reduceIte, and_self, and_true, true_and]; with_reducible rfl)) | (with_reducible apply wm_t; focus (first | omega | (simp (disch := omega) only [wr_id]; omega) | (simp (disch := omega) only [wr_id]; done))) | (with_reducible apply wm_f; focus (first | omega | (simp (disch := omega) only [wr_id]; omega) | (simp (disch := omega) only [wr_id]; done)))))
              exact ml
            · (repeat (first | (with_reducible apply wm_o; focus (simp (disch := omega) only [wr_id, Int.toNat_natCast, Int.reduceToNat, tn_lk, tn_kl, if_pos, if_neg, ↓reduceIte, and_self, and_true, true_and]; with_reducible rfl)) | (with_reducible apply wm_q) | (with_reducible apply wm_c; focus (first | assumption | decide +kernel)) | (with_reducible apply wm_d; focus (simp (disch := omega) only [wr_id, Int.toNat_natCast, Int.reduceToNat, tn_lk, tn_kl, if_pos, if_neg, ↓reduceIte, and_self, and_true, true_and]; with_reducible rfl)) | (with_reducible apply wm_t; focus (first | omega | (simp (disch := omega) only [wr_id]; omega) | (simp (disch := omega) only [wr_id]; done))) | (with_reducible apply wm_f; focus (first | omega | (simp (disch := omega) only [wr_id]; omega) | (simp (disch := omega) only [wr_id]; done)))))
              exact ml
          have hy2 : y = 1 ∨ y = 2 := by omega
          rcases hy2 with rfl | rfl
          · (repeat (first | (with_reducible apply wm_o; focus (simp (disch := omega) only [wr_id, Int.toNat_natCast, Int.reduceToNat, tn_lk, tn_kl, if_pos, if_neg, ↓reduceIte, and_self, and_true, true_and, FX, ht]; with_reducible rfl)) | (with_reducible apply wm_q) | (with_reducible apply wm_c; focus (first | assumption | decide +kernel)) | (with_reducible apply wm_d; focus (simp (disch := omega) only [wr_id, Int.toNat_natCast, Int.reduceToNat, tn_lk, tn_kl, if_pos, if_neg, ↓reduceIte, and_self, and_true, true_and, FX, ht]; with_reducible rfl)) | (with_reducible apply wm_t; focus (first | omega | (simp (disch := omega) only [wr_id, FX, ht]; omega) | (simp (disch := omega) only [wr_id, FX, ht]; done))) | (with_reducible apply wm_f; focus (first | omega | (simp (disch := omega) only [wr_id, FX, ht]; omega) | (simp (disch := omega) only [wr_id, FX, ht]; done)))))
            exact fin 0 false 0 (Or.inr ⟨rfl, rfl, rfl⟩) rfl
          · have eT : (T : Int) - 1 = ((T - 1 : Nat) : Int) := by omega
            (repeat (first | (with_reducible apply wm_o; focus (simp (disch := omega) only [wr_id, Int.toNat_natCast, Int.reduceToNat, tn_lk, tn_kl, if_pos, if_neg, ↓reduceIte, and_self, and_true, true_and, FX, ht]; with_reducible rfl)) | (with_reducible apply wm_q) | (with_reducible apply wm_c; focus (first | assumption | decide +kernel)) | (with_reducible apply wm_d; focus (simp (disch := omega) only [wr_id, Int.toNat_natCast, Int.reduceToNat, tn_lk, tn_kl, if_pos, if_neg, ↓reduceIte, and_self, and_true, true_and, FX, ht]; with_reducible rfl)) | (with_reducible apply wm_t; focus (first | omega | (simp (disch := omega) only [wr_id, FX, ht]; omega) | (simp (disch := omega) only [wr_id, FX, ht]; done))) | (with_reducible apply wm_f; focus (first | omega | (simp (disch := omega) only [wr_id, FX, ht]; omega) | (simp (disch := omega) only [wr_id, FX, ht]; done)))))
            rw [eT]
            exact fin (T - 1) true 1 (Or.inl ⟨rfl, rfl, rfl⟩) rfl
    · have in2 := fun (M : jMem) => m_in_f (a := 0) (b := 2) (M := M) hy (i32 (by omega) (by omega)) (i32 (by omega) (by omega)) zy
      have mod : wm t d rt (f_X12_fit 369 (k : Int) y (mm t d rt I)) (fun r' K => jd_wr (-1) = jd_wr r' ∧ INV t d rt K) := by
        unfold f_X12_fit
        (repeat (first | (with_reducible apply wm_o; focus (simp (disch := omega) only [wr_id, Int.toNat_natCast, Int.reduceToNat, tn_lk, tn_kl, if_pos, if_neg, ↓reduceIte, and_self, and_true, true_and, FM, t3, in1, in2]; with_reducible rfl)) | (with_reducible apply wm_q) | (with_reducible apply wm_c; focus (first | assumption | decide +kernel)) | (with_reducible apply wm_d; focus (simp (disch := omega) only [wr_id, Int.toNat_natCast, Int.reduceToNat, tn_lk, tn_kl, if_pos, if_neg, ↓reduceIte, and_self, and_true, true_and, FM, t3, in1, in2]; with_reducible rfl)) | (with_reducible apply wm_t; focus (first | omega | (simp (disch := omega) only [wr_id, FM, t3, in1, in2]; omega) | (simp (disch := omega) only [wr_id, FM, t3, in1, in2]; done))) | (with_reducible apply wm_f; focus (first | omega | (simp (disch := omega) only [wr_id, FM, t3, in1, in2]; omega) | (simp (disch := omega) only [wr_id, FM, t3, in1, in2]; done)))))
        exact wm_r ⟨rfl, hI'⟩
      by_cases z0 : y < 0
      · (repeat (first | (with_reducible apply wm_o; focus (simp (disch := omega) only [wr_id, Int.toNat_natCast, Int.reduceToNat, tn_lk, tn_kl, if_pos, if_neg, ↓reduceIte, and_self, and_true, true_and, FX, FTold, t2, ey]; with_reducible rfl)) | (with_reducible apply wm_q) | (with_reducible apply wm_c; focus (first | assumption | decide +kernel)) | (with_reducible apply wm_d; focus (simp (disch := omega) only [wr_id, Int.toNat_natCast, Int.reduceToNat, tn_lk, tn_kl, if_pos, if_neg, ↓reduceIte, and_self, and_true, true_and, FX, FTold, t2, ey]; with_reducible rfl)) | (with_reducible apply wm_t; focus (first | omega | (simp (disch := omega) only [wr_id, FX, FTold, t2, ey]; omega) | (simp (disch := omega) only [wr_id, FX, FTold, t2, ey]; done))) | (with_reducible apply wm_f; focus (first | omega | (simp (disch := omega) only [wr_id, FX, FTold, t2, ey]; omega) | (simp (disch := omega) only [wr_id, FX, FTold, t2, ey]; done)))))
        exact wm_r mod
      · (repeat (first | (with_reducible apply wm_o; focus (simp (disch := omega) only [wr_id, Int.toNat_natCast, Int.reduceToNat, tn_lk, tn_kl, if_pos, if_neg, ↓reduceIte, and_self, and_true, true_and, FX, FTold, t2, ey]; with_reducible rfl)) | (with_reducible apply wm_q) | (with_reducible apply wm_c; focus (first | assumption | decide +kernel)) | (with_reducible apply wm_d; focus (simp (disch := omega) only [wr_id, Int.toNat_natCast, Int.reduceToNat, tn_lk, tn_kl, if_pos, if_neg, ↓reduceIte, and_self, and_true, true_and, FX, FTold, t2, ey]; with_reducible rfl)) | (with_reducible apply wm_t; focus (first | omega | (simp (disch := omega) only [wr_id, FX, FTold, t2, ey]; omega) | (simp (disch := omega) only [wr_id, FX, FTold, t2, ey]; done))) | (with_reducible apply wm_f; focus (first | omega | (simp (disch := omega) only [wr_id, FX, FTold, t2, ey]; omega) | (simp (disch := omega) only [wr_id, FX, FTold, t2, ey]; done)))))
        exact wm_r mod
  · have in1 := fun (M : jMem) => m_in_f (a := 0) (b := (td : Int)) (M := M) hx (i32 (by omega) (by omega)) (i32 (by omega) (by omega)) z
    have mod : wm t d rt (f_X12_fit 369 x y (mm t d rt I)) (fun r' K => jd_wr (-1) = jd_wr r' ∧ INV t d rt K) := by
      unfold f_X12_fit
      (repeat (first | (with_reducible apply wm_o; focus (simp (disch := omega) only [wr_id, Int.toNat_natCast, Int.reduceToNat, tn_lk, tn_kl, if_pos, if_neg, ↓reduceIte, and_self, and_true, true_and, FM, t3, in1]; with_reducible rfl)) | (with_reducible apply wm_q) | (with_reducible apply wm_c; focus (first | assumption | decide +kernel)) | (with_reducible apply wm_d; focus (simp (disch := omega) only [wr_id, Int.toNat_natCast, Int.reduceToNat, tn_lk, tn_kl, if_pos, if_neg, ↓reduceIte, and_self, and_true, true_and, FM, t3, in1]; with_reducible rfl)) | (with_reducible apply wm_t; focus (first | omega | (simp (disch := omega) only [wr_id, FM, t3, in1]; omega) | (simp (disch := omega) only [wr_id, FM, t3, in1]; done))) | (with_reducible apply wm_f; focus (first | omega | (simp (disch := omega) only [wr_id, FM, t3, in1]; omega) | (simp (disch := omega) only [wr_id, FM, t3, in1]; done)))))
      exact wm_r ⟨rfl, hI'⟩
    by_cases z0 : x < 0
    · (repeat (first | (with_reducible apply wm_o; focus (simp (disch := omega) only [wr_id, Int.toNat_natCast, Int.reduceToNat, tn_lk, tn_kl, if_pos, if_neg, ↓reduceIte, and_self, and_true, true_and, ex]; with_reducible rfl)) | (with_reducible apply wm_q) | (with_reducible apply wm_c; focus (first | assumption | decide +kernel)) | (with_reducible apply wm_d; focus (simp (disch := omega) only [wr_id, Int.toNat_natCast, Int.reduceToNat, tn_lk, tn_kl, if_pos, if_neg, ↓reduceIte, and_self, and_true, true_and, ex]; with_reducible rfl)) | (with_reducible apply wm_t; focus (first | omega | (simp (disch := omega) only [wr_id, ex]; omega) | (simp (disch := omega) only [wr_id, ex]; done))) | (with_reducible apply wm_f; focus (first | omega | (simp (disch := omega) only [wr_id, ex]; omega) | (simp (disch := omega) only [wr_id, ex]; done)))))
      exact wm_r mod
    · (repeat (first | (with_reducible apply wm_o; focus (simp (disch := omega) only [wr_id, Int.toNat_natCast, Int.reduceToNat, tn_lk, tn_kl, if_pos, if_neg, ↓reduceIte, and_self, and_true, true_and, ex, FX, FTold, t2]; with_reducible rfl)) | (with_reducible apply wm_q) | (with_reducible apply wm_c; focus (first | assumption | decide +kernel)) | (with_reducible apply wm_d; focus (simp (disch := omega) only [wr_id, Int.toNat_natCast, Int.reduceToNat, tn_lk, tn_kl, if_pos, if_neg, ↓reduceIte, and_self, and_true, true_and, ex, FX, FTold, t2]; with_reducible rfl)) | (with_reducible apply wm_t; focus (first | omega | (simp (disch := omega) only [wr_id, ex, FX, FTold, t2]; omega) | (simp (disch := omega) only [wr_id, ex, FX, FTold, t2]; done))) | (with_reducible apply wm_f; focus (first | omega | (simp (disch := omega) only [wr_id, ex, FX, FTold, t2]; omega) | (simp (disch := omega) only [wr_id, ex, FX, FTold, t2]; done)))))
      exact wm_r mod
end FT
