/-! ===== the model's walks: fillsWays, numberTold; calls: fit ===== -/
theorem fwM_s {w n : Nat} {cl na nd : Nat → Bool} {k c mask : Nat} {left : Int} : fwM w n cl na nd (k + 1) c mask left = if mask.testBit 0 || cl c then -1 :: fwM w n cl na nd k (c + 1) (mask >>> 1) left else if left < accI w n cl na nd k c mask then 0 :: fwM w n cl na nd k (c + 1) (mA mask) left else 1 :: fwM w n cl na nd k (c + 1) (mD w mask) (left - accI w n cl na nd k c mask) := rfl
theorem ntL_s {w n : Nat} {cl na nd : Nat → Bool} {last : Bool} {k c mask : Nat} : ntL w n cl na nd last (k + 1) c mask = if mask.testBit 0 || cl c then -1 :: ntL w n cl na nd last k (c + 1) (mask >>> 1) else if (if last then decide (0 < dnI w n cl na nd k c mask) else decide (accI w n cl na nd k c mask = 0)) then 1 :: ntL w n cl na nd last k (c + 1) (mD w mask) else 0 :: ntL w n cl na nd last k (c + 1) (mA mask) := rfl
theorem rkM_s {w n : Nat} {cl na nd : Nat → Bool} {k c mask : Nat} {a : Int} {r : List Int} : rkM w n cl na nd (k + 1) c mask (a :: r) = (if a = 1 then accI w n cl na nd k c mask else 0) + rkM w n cl na nd k (c + 1) (if a < 0 then mask >>> 1 else if a = 0 then mA mask else mD w mask) r := rfl
theorem shr_lt {m : Nat} (h : m < 64) : m >>> 1 < 64 := by rw [Nat.shiftRight_eq_div_pow]; omega
section MW
variable {t d rt : Nat} {I J K : Nat → Nat → Int} {lv w h n nh r : Nat} {hl cl na nd na' nd' U : Nat → Bool} {sd : Int} {ifs : Nat → List LwI} {xs : Nat → List CI}
theorem mA_b {m : Nat} (hm : m < 64) : jd_shr (jd_or (m : Int) 2) 1 = ((mA m : Nat) : Int) := by
  have h1 : jd_or (m : Int) 2 = ((m ||| 2 : Nat) : Int) := or_n (b := 2) (by omega) (by omega)
  have h2 : m ||| 2 < 64 := or64 hm (by decide)
  rw [h1, shr_1 _ (by omega)]
  rfl
theorem m1_b {m : Nat} (hm : m < 64) : jd_and (m : Int) 1 = ((m &&& 1 : Nat) : Int) := and_n (b := 1) (by omega) (by omega)
theorem accI_b (h0 : 1 < w) (hnw : n = w * h) (hn : n ≤ 36) {k c mask : Nat} (hc : c + (k + 1) = n) (g : gM w n c mask) : 0 ≤ accI w n cl na nd k c mask ∧ accI w n cl na nd k c mask ≤ 262144 := by
  have hr := hr_of (w := w) (h := h) (by omega) hnw
  rw [accI_eq h0 hr hc g]
  split
  · have h1 := Np_le (w := w) (n := n) (na := na) (nd := nd) (k := k) (c := c + 1) (U := cov (Um cl c mask) (c + 1)) (by omega) (by omega) hr
    have h2 := frN_le (U := cov (Um cl c mask) (c + 1)) (k := k) (c := c + 1)
    have h3 : 2 ^ (frN (cov (Um cl c mask) (c + 1)) k (c + 1) / 2) ≤ 2 ^ 18 := Nat.pow_le_pow_right (by decide) (by omega)
    have e18 : 2 ^ 18 = 262144 := by decide
    omega
  · omega
theorem dnI_b (h0 : 1 < w) (hnw : n = w * h) (hn : n ≤ 36) {k c mask : Nat} (hc : c + (k + 1) = n) (g : gM w n c mask) : 0 ≤ dnI w n cl na nd k c mask ∧ dnI w n cl na nd k c mask ≤ 262144 := by
  have hr := hr_of (w := w) (h := h) (by omega) hnw
  rw [dnI_eq h0 hr hc g]
  split
  · have h1 := Np_le (w := w) (n := n) (na := na) (nd := nd) (k := k) (c := c + 1) (U := cov (Um cl c mask) (c + w)) (by omega) (by omega) hr
    have h2 := frN_le (U := cov (Um cl c mask) (c + w)) (k := k) (c := c + 1)
    have h3 : 2 ^ (frN (cov (Um cl c mask) (c + w)) k (c + 1) / 2) ≤ 2 ^ 18 := Nat.pow_le_pow_right (by decide) (by omega)
    have e18 : 2 ^ 18 = 262144 := by decide
    omega
  · omega
theorem gM_64 (hw6 : w ≤ 6) {c mask : Nat} (g : gM w n c mask) : mask < 64 := Nat.lt_of_lt_of_le g.1 (Nat.pow_le_pow_right (by decide) hw6)
/-- tables and flags of the model's walk -/
def wkT (J : Nat → Nat → Int) (tb w n : Nat) (cl na nd : Nat → Bool) : Prop := ∀ c m, c ≤ n → m < 64 → J tb (64 * c + m) = Fr w n cl na nd (n - c) c m
theorem flg_01 {a : Nat} {f : Nat → Bool} (h' : flg I a f) {x : Nat} (hx : x < 36) : (f x = true → I a x = 1) ∧ (f x = false → I a x = 0) := by
  have := h' x hx
  refine ⟨fun q => by rw [this, q]; rfl, fun q => by rw [this, q]; rfl⟩
theorem aM_congr3 {cl' : Nat → Bool} (hr : ∀ x, x % w + 1 < w → x < n → x + 1 < n) (he : ∀ x, x < n → cl x = cl' x) (h1 : ∀ x, x < n → na x = na' x) {c m : Nat} (hc : c < n) : aM w cl na c m = aM w cl' na' c m := by
  unfold aM
  by_cases z : c % w + 1 < w
  · have := hr c z hc
    rw [he (c + 1) this, h1 c hc, h1 (c + 1) this]
  · simp [z]
theorem dM_congr3 {cl' : Nat → Bool} (he : ∀ x, x < n → cl x = cl' x) (h1 : ∀ x, x < n → nd x = nd' x) {c : Nat} (hc : c < n) : dM w n cl nd c = dM w n cl' nd' c := by
  unfold dM
  by_cases z : c + w < n
  · rw [he (c + w) z, h1 c hc, h1 (c + w) z]
  · simp [z]
theorem m_acr (c : mCfg I lv w h n) (h8 : flg I 408 cl) (h9 : b01 I 409 36) (hT : wkT I 406 w n cl noB noB) {x m : Nat} (hx : x < n) (hm : m < 64) : f_X12_acrossIn 369 0 (x : Int) (m : Int) (mm t d rt I) = some (accI w n cl noB noB (n - (x + 1)) x m, mm t d rt I) := by
  have hn : n ≤ 36 := c.2.2.2.2.2.2.2.2.2.2
  have hr := hr_of (w := w) (h := h) (by have := c.2.2.2.2.1; omega) c.2.2.2.2.2.2.2.2.1
  rw [s_acrossIn (b := 0) (tb := 406) (na := noB) (nd := noB) c (Or.inl ⟨rfl, rfl, rfl, rfl⟩) (flg_b01 h8) h9 hx hm (fun q => hr x q hx), aM_congr3 (cl' := cl) (na' := noB) hr (fun y hy => flg_bl h8 (by omega)) (fun _ _ => rfl) hx, hT (x + 1) _ (by omega) (mA_lt hm)]
  rfl
theorem m_acr1 (c : mCfg I lv w h n) (h8 : flg I 408 cl) (h9 : flg I 409 na) (h10 : flg I 410 nd) (hT : wkT I 407 w n cl na nd) {x m : Nat} (hx : x < n) (hm : m < 64) : f_X12_acrossIn 369 1 (x : Int) (m : Int) (mm t d rt I) = some (accI w n cl na nd (n - (x + 1)) x m, mm t d rt I) := by
  have hn : n ≤ 36 := c.2.2.2.2.2.2.2.2.2.2
  have hr := hr_of (w := w) (h := h) (by have := c.2.2.2.2.1; omega) c.2.2.2.2.2.2.2.2.1
  rw [s_acrossIn (b := 1) (tb := 407) (na := blI I 409) (nd := blI I 410) c (Or.inr ⟨rfl, rfl, rfl, rfl⟩) (flg_b01 h8) (flg_b01 h9) hx hm (fun q => hr x q hx), aM_congr3 (cl' := cl) (na' := na) hr (fun y hy => flg_bl h8 (by omega)) (fun y hy => flg_bl h9 (by omega)) hx, hT (x + 1) _ (by omega) (mA_lt hm)]
  rfl
theorem m_dwn1 (c : mCfg I lv w h n) (h8 : flg I 408 cl) (h9 : flg I 409 na) (h10 : flg I 410 nd) (hT : wkT I 407 w n cl na nd) {x m : Nat} (hx : x < n) (hm : m < 64) : f_X12_downIn 369 1 (x : Int) (m : Int) (mm t d rt I) = some (dnI w n cl na nd (n - (x + 1)) x m, mm t d rt I) := by
  have hn : n ≤ 36 := c.2.2.2.2.2.2.2.2.2.2
  rw [s_downIn (b := 1) (tb := 407) (na := blI I 409) (nd := blI I 410) c (Or.inr ⟨rfl, rfl, rfl, rfl⟩) (flg_b01 h8) (flg_b01 h10) hx hm, dM_congr3 (cl' := cl) (nd' := nd) (fun y hy => flg_bl h8 (by omega)) (fun y hy => flg_bl h10 (by omega)) hx, hT (x + 1) _ (by omega) (mD_lt hm c.2.2.2.2.2.1 c.2.2.2.2.1)]
  rfl
theorem aM_gM (hr : ∀ x, x % w + 1 < w → x < n → x + 1 < n) {c m : Nat} (hc : c < n) (g : gM w n c m) (h' : aM w cl na c m = true) : gM w n (c + 1) (mA m) := by
  have h1 : c % w + 1 < w := by
    unfold aM at h'
    simp only [Bool.and_eq_true, decide_eq_true_eq] at h'
    exact h'.1.1.1.1
  exact gM_a g h1 (hr c h1 hc)
theorem dM_gM (h0 : 0 < w) {c m : Nat} (g : gM w n c m) (h' : dM w n cl nd c = true) : gM w n (c + 1) (mD w m) := by
  have h1 : c + w < n := by
    unfold dM at h'
    simp only [Bool.and_eq_true, decide_eq_true_eq] at h'
    exact h'.1.1.1
  exact gM_d g h0 h1
/-- fillsWays: where i is a number of a paving, what lies is that paving -/
theorem m_fillsWays (c : mCfg I lv w h n) (h8 : flg I 408 cl) (h9 : b01 I 409 36) (hT : wkT I 406 w n cl noB noB) {i : Nat} (hi : i < Np w n noB noB n 0 cl) : wm t d rt (f_X12_fillsWays 369 (i : Int) (mm t d rt I)) (fun _ J => frM (fun a => a = 411) (fun _ => False) I J ∧ ∀ x, x < n → J 411 x = (nthP w n noB noB n 0 cl i).getD x (-1)) := by
  have c0 := c
  obtain ⟨c1, c2, c3, c4, c5, c6, c7, c8, c9, c10, c11⟩ := c
  have hr := hr_of (w := w) (h := h) (by omega) c9
  obtain ⟨F, hF⟩ : ∃ F, F = fwM w n cl noB noB n 0 0 (i : Int) := ⟨_, rfl⟩
  have hFe : F = nthP w n noB noB n 0 cl i := by
    rw [hF, fwM_eq (by omega) hr (by omega) (gM_00 w n) (by rw [Um_00]; exact hi), Um_00]
  rw [← hFe]
  have nb : ∀ {k x m : Nat}, x + k = n → gM w n x m → Np w n noB noB k x (Um cl x m) ≤ 262144 := fun {k x m} hk g => by
    have h1 := Np_le (w := w) (n := n) (na := noB) (nd := noB) (k := k) (c := x) (U := Um cl x m) (by omega) hk hr
    have h2 := frN_le (U := Um cl x m) (k := k) (c := x)
    exact Nat.le_trans h1 (Nat.le_trans (Nat.pow_le_pow_right (by decide) (show frN (Um cl x m) k x / 2 ≤ 18 by omega)) (by decide))
  unfold f_X12_fillsWays
  refine wm_lp4 n (fun x l m y J => y = (x : Int) ∧ frM (fun a => a = 411) (fun _ => False) I J ∧ ∃ mask left : Nat, m = (mask : Int) ∧ l = (left : Int) ∧ gM w n x mask ∧ left < Np w n noB noB (n - x) x (Um cl x mask) ∧ (∃ pre : List Int, pre.length = x ∧ F = pre ++ fwM w n cl noB noB (n - x) x mask (left : Int)) ∧ ∀ j, j < x → J 411 j = F.getD j (-1)) ?_ (Nat.lt_of_le_of_lt c11 (jfuel_n (by decide))) ⟨rfl, frM_refl _ _ _, 0, i, rfl, rfl, gM_00 w n, by rw [Um_00]; exact hi, ⟨[], rfl, hF⟩, fun j hj => by omega⟩
  rintro x hx l m y J ⟨rfl, hJ, mask, left, rfl, rfl, gm, hl', ⟨pre, p1, p2⟩, jA⟩ rec hrec
  have cJ := mCfg_frm (hJ.2 18 (fun q => q)) (hJ.1 377 (by decide) (by decide)) (hJ.1 378 (by decide) (by decide)) c0
  have hce := s_cells (t := t) (d := d) (rt := rt) cJ
  have hm64 := gM_64 c6 gm
  by_cases e : x = n
  · subst e
    (repeat (first | (with_reducible apply wm_o; focus (simp (disch := omega) only [wr_id, Int.toNat_natCast, Int.reduceToNat, tn_lk, tn_kl, if_pos, if_neg, ↓reduceIte, and_self, and_true, true_and, hce]; with_reducible rfl)) | (with_reducible apply wm_q) | (with_reducible apply wm_c; focus (first | assumption | decide +kernel)) | (with_reducible apply wm_d; focus (simp (disch := omega) only [wr_id, Int.toNat_natCast, Int.reduceToNat, tn_lk, tn_kl, if_pos, if_neg, ↓reduceIte, and_self, and_true, true_and, hce]; with_reducible rfl)) | (with_reducible apply wm_t; focus (first | omega | (simp (disch := omega) only [wr_id, hce]; omega) | (simp (disch := omega) only [wr_id, hce]; done))) | (with_reducible apply wm_f; focus (first | omega | (simp (disch := omega) only [wr_id, hce]; omega) | (simp (disch := omega) only [wr_id, hce]; done)))))
    exact wm_r ⟨hJ, jA⟩
  · have hxn : x < n := by omega
    have hlb := nb (k := n - x) (x := x) (m := mask) (by omega) gm
    have hleft : left ≤ 262144 := by omega
    have K8 : flg (up J 411 x (-1)) 408 cl := flg_ne (up_ne (by decide)) (flg_ne (hJ.1 408 (by decide) (by decide)) h8)
    have K9 : b01 (up J 411 x (-1)) 409 36 := by unfold b01; rw [up_ne (by decide), hJ.1 409 (by decide) (by decide)]; exact h9
    have KT : wkT (up J 411 x (-1)) 406 w n cl noB noB := fun c m hc hm => by rw [up_ne (by decide), hJ.1 406 (by decide) (by decide)]; exact hT c m hc hm
    have cK : mCfg (up J 411 x (-1)) lv w h n := mCfg_frm (by rw [up_ne (by decide)]) (up_ne (by decide)) (up_ne (by decide)) cJ
    have hacr := m_acr (t := t) (d := d) (rt := rt) cK K8 K9 KT hxn hm64
    have hmd := fun (L : Nat → Nat → Int) (q : mCfg L lv w h n) => s_maskDown (t := t) (d := d) (rt := rt) q hm64
    have e1 := m1_b hm64
    have t1 := tb_and1 mask
    have al : mask &&& 1 ≤ mask := Nat.and_le_left
    have es := shr_1 mask (by omega)
    have ea := mA_b hm64
    have k8 := flg_01 K8 (x := x) (by omega)
    rw [show n - x = (n - (x + 1)) + 1 by omega, fwM_s] at p2
    rw [show n - x = (n - (x + 1)) + 1 by omega] at hl'
    -- one more cell
    have step : ∀ (v : Int) (mask' left' : Nat) (L : Nat → Nat → Int), frM (fun a => a = 411) (fun _ => False) I L → L 411 x = v → (∀ j, j < x → L 411 j = J 411 j) → gM w n (x + 1) mask' → left' < Np w n noB noB (n - (x + 1)) (x + 1) (Um cl (x + 1) mask') → F = pre ++ v :: fwM w n cl noB noB (n - (x + 1)) (x + 1) mask' (left' : Int) → wm t d rt (rec (left' : Int) (mask' : Int) ((x : Int) + 1) (mm t d rt L)) (fun _ J => frM (fun a => a = 411) (fun _ => False) I J ∧ ∀ x, x < n → J 411 x = F.getD x (-1)) := by
      intro v mask' left' L hL lv' lo g' hlt hFF
      refine hrec (x + 1) _ _ _ _ (by omega) (by omega) ⟨by omega, hL, mask', left', rfl, rfl, g', hlt, ⟨pre ++ [v], by rw [List.length_append, p1]; rfl, by rw [hFF]; simp⟩, fun j hj => ?_⟩
      by_cases ej : j = x
      · subst ej
        rw [lv', hFF, ← p1]
        simp
      · rw [lo j (by omega)]; exact jA j (by omega)
    by_cases z1 : mask.testBit 0 = true
    · rw [if_pos (by rw [z1]; rfl)] at p2
      rw [Np_c (by rw [Um_0, z1]; rfl)] at hl'
      rw [t1.mpr z1] at e1
      (repeat (first | (with_reducible apply wm_o; focus (simp (disch := omega) only [wr_id, Int.toNat_natCast, Int.reduceToNat, tn_lk, tn_kl, if_pos, if_neg, ↓reduceIte, and_self, and_true, true_and, hce, FM, e1]; with_reducible rfl)) | (with_reducible apply wm_q) | (with_reducible apply wm_c; focus (first | assumption | decide +kernel)) | (with_reducible apply wm_d; focus (simp (disch := omega) only [wr_id, Int.toNat_natCast, Int.reduceToNat, tn_lk, tn_kl, if_pos, if_neg, ↓reduceIte, and_self, and_true, true_and, hce, FM, e1]; with_reducible rfl)) | (with_reducible apply wm_t; focus (first | omega | (simp (disch := omega) only [wr_id, hce, FM, e1]; omega) | (simp (disch := omega) only [wr_id, hce, FM, e1]; done))) | (with_reducible apply wm_f; focus (first | omega | (simp (disch := omega) only [wr_id, hce, FM, e1]; omega) | (simp (disch := omega) only [wr_id, hce, FM, e1]; done)))))
      rw [es]
      refine step (-1) (mask >>> 1) left _ (frM_up hJ (by decide) rfl) (by rw [up_g, if_pos rfl]) (fun j hj => by rw [up_g, if_neg (by omega)]) (gM_s gm) ?_ p2
      have : Lp w n noB noB (n - (x + 1)) (x + 1) (Um cl (x + 1) (mask >>> 1)) = Lp w n noB noB (n - (x + 1)) (x + 1) (Um cl x mask) := Lp_congr (fun y hy => Um_s hy)
      unfold Np at hl' ⊢
      rw [this]; exact hl'
    · have z1' : mask.testBit 0 = false := by simpa using z1
      have t1' : ¬ mask &&& 1 = 1 := fun q => z1 (t1.mp q)
      by_cases zc : cl x = true
      · rw [if_pos (by rw [zc]; simp)] at p2
        rw [Np_c (by rw [Um_0, zc]; simp)] at hl'
        have k81 := k8.1 zc
        (repeat (first | (with_reducible apply wm_o; focus (simp (disch := omega) only [wr_id, Int.toNat_natCast, Int.reduceToNat, tn_lk, tn_kl, if_pos, if_neg, ↓reduceIte, and_self, and_true, true_and, hce, FM, e1, k81]; with_reducible rfl)) | (with_reducible apply wm_q) | (with_reducible apply wm_c; focus (first | assumption | decide +kernel)) | (with_reducible apply wm_d; focus (simp (disch := omega) only [wr_id, Int.toNat_natCast, Int.reduceToNat, tn_lk, tn_kl, if_pos, if_neg, ↓reduceIte, and_self, and_true, true_and, hce, FM, e1, k81]; with_reducible rfl)) | (with_reducible apply wm_t; focus (first | omega | (simp (disch := omega) only [wr_id, hce, FM, e1, k81]; omega) | (simp (disch := omega) only [wr_id, hce, FM, e1, k81]; done))) | (with_reducible apply wm_f; focus (first | omega | (simp (disch := omega) only [wr_id, hce, FM, e1, k81]; omega) | (simp (disch := omega) only [wr_id, hce, FM, e1, k81]; done)))))
        rw [es]
        refine step (-1) (mask >>> 1) left _ (frM_up hJ (by decide) rfl) (by rw [up_g, if_pos rfl]) (fun j hj => by rw [up_g, if_neg (by omega)]) (gM_s gm) ?_ p2
        have : Lp w n noB noB (n - (x + 1)) (x + 1) (Um cl (x + 1) (mask >>> 1)) = Lp w n noB noB (n - (x + 1)) (x + 1) (Um cl x mask) := Lp_congr (fun y hy => Um_s hy)
        unfold Np at hl' ⊢
        rw [this]; exact hl'
      · have zc' : cl x = false := by simpa using zc
        have k80 := k8.2 zc'
        rw [if_neg (by rw [z1', zc']; decide)] at p2
        rw [Np_f (by rw [Um_0, z1', zc']; rfl)] at hl'
        have hae := accI_eq (w := w) (n := n) (cl := cl) (na := noB) (nd := noB) (by omega) hr (k := n - (x + 1)) (c := x) (mask := mask) (by omega) gm
        obtain ⟨b1, b2⟩ := accI_b (w := w) (n := n) (h := h) (cl := cl) (na := noB) (nd := noB) (by omega) c9 c11 (k := n - (x + 1)) (c := x) (mask := mask) (by omega) gm
        generalize hA : accI w n cl noB noB (n - (x + 1)) x mask = A at *
        have cM : ∀ v, mCfg (up (up J 411 x (-1)) 411 x v) lv w h n := fun v => mCfg_frm (by rw [up_ne (by decide)]) (up_ne (by decide)) (up_ne (by decide)) cK
        by_cases zl : (left : Int) < A
        · rw [if_pos zl] at p2
          have e0 : up (up J 411 x (-1)) 411 x 0 411 x = 0 := by rw [up_g, if_pos rfl]
          (repeat (first | (with_reducible apply wm_o; focus (simp (disch := omega) only [wr_id, Int.toNat_natCast, Int.reduceToNat, tn_lk, tn_kl, if_pos, if_neg, ↓reduceIte, and_self, and_true, true_and, hce, FM, e1, k80, hacr, e0]; with_reducible rfl)) | (with_reducible apply wm_q) | (with_reducible apply wm_c; focus (first | assumption | decide +kernel)) | (with_reducible apply wm_d; focus (simp (disch := omega) only [wr_id, Int.toNat_natCast, Int.reduceToNat, tn_lk, tn_kl, if_pos, if_neg, ↓reduceIte, and_self, and_true, true_and, hce, FM, e1, k80, hacr, e0]; with_reducible rfl)) | (with_reducible apply wm_t; focus (first | omega | (simp (disch := omega) only [wr_id, hce, FM, e1, k80, hacr, e0]; omega) | (simp (disch := omega) only [wr_id, hce, FM, e1, k80, hacr, e0]; done))) | (with_reducible apply wm_f; focus (first | omega | (simp (disch := omega) only [wr_id, hce, FM, e1, k80, hacr, e0]; omega) | (simp (disch := omega) only [wr_id, hce, FM, e1, k80, hacr, e0]; done)))))
          rw [ea]
          have hok : aOK w noB (Um cl x mask) x = true := by
            cases q : aOK w noB (Um cl x mask) x with
            | true => rfl
            | false => rw [q, if_neg (by decide)] at hae; omega
          have ham : aM w cl noB x mask = true := by rw [aM_eq]; exact hok
          refine step 0 (mA mask) left _ (frM_up (frM_up hJ (by decide) rfl) (by decide) rfl) e0 (fun j hj => by rw [up_g, if_neg (by omega), up_g, if_neg (by omega)]) (aM_gM hr hxn gm ham) ?_ p2
          rw [hok, if_pos rfl] at hae
          have : Lp w n noB noB (n - (x + 1)) (x + 1) (Um cl (x + 1) (mA mask)) = Lp w n noB noB (n - (x + 1)) (x + 1) (cov (Um cl x mask) (x + 1)) := Lp_congr (fun y hy => Um_a hy)
          have e2 : Np w n noB noB (n - (x + 1)) (x + 1) (Um cl (x + 1) (mA mask)) = Np w n noB noB (n - (x + 1)) (x + 1) (cov (Um cl x mask) (x + 1)) := by unfold Np; rw [this]
          rw [e2]; omega
        · rw [if_neg zl] at p2
          have e0 : up (up J 411 x (-1)) 411 x 1 411 x = 1 := by rw [up_g, if_pos rfl]
          have hmd1 := hmd _ (cM 1)
          (repeat (first | (with_reducible apply wm_o; focus (simp (disch := omega) only [wr_id, Int.toNat_natCast, Int.reduceToNat, tn_lk, tn_kl, if_pos, if_neg, ↓reduceIte, and_self, and_true, true_and, hce, FM, e1, k80, hacr, e0, hmd1]; with_reducible rfl)) | (with_reducible apply wm_q) | (with_reducible apply wm_c; focus (first | assumption | decide +kernel)) | (with_reducible apply wm_d; focus (simp (disch := omega) only [wr_id, Int.toNat_natCast, Int.reduceToNat, tn_lk, tn_kl, if_pos, if_neg, ↓reduceIte, and_self, and_true, true_and, hce, FM, e1, k80, hacr, e0, hmd1]; with_reducible rfl)) | (with_reducible apply wm_t; focus (first | omega | (simp (disch := omega) only [wr_id, hce, FM, e1, k80, hacr, e0, hmd1]; omega) | (simp (disch := omega) only [wr_id, hce, FM, e1, k80, hacr, e0, hmd1]; done))) | (with_reducible apply wm_f; focus (first | omega | (simp (disch := omega) only [wr_id, hce, FM, e1, k80, hacr, e0, hmd1]; omega) | (simp (disch := omega) only [wr_id, hce, FM, e1, k80, hacr, e0, hmd1]; done)))))
          have hae' : A = ((if aOK w noB (Um cl x mask) x then Np w n noB noB (n - (x + 1)) (x + 1) (cov (Um cl x mask) (x + 1)) else 0 : Nat) : Int) := hae
          have hok : dOK w n noB (Um cl x mask) x = true := by
            cases q : dOK w n noB (Um cl x mask) x with
            | true => rfl
            | false => rw [q] at hl'; simp only [Bool.false_eq_true, if_false] at hl'; omega
          have hdm : dM w n cl noB x = true := by rw [dM_eq gm.1]; exact hok
          rw [hok, if_pos rfl] at hl'
          have el : (left : Int) - A = ((left - A.toNat : Nat) : Int) := by omega
          rw [el] at p2 ⊢
          refine step 1 (mD w mask) (left - A.toNat) _ (frM_up (frM_up hJ (by decide) rfl) (by decide) rfl) e0 (fun j hj => by rw [up_g, if_neg (by omega), up_g, if_neg (by omega)]) (dM_gM (by omega) gm hdm) ?_ p2
          have : Lp w n noB noB (n - (x + 1)) (x + 1) (Um cl (x + 1) (mD w mask)) = Lp w n noB noB (n - (x + 1)) (x + 1) (cov (Um cl x mask) (x + w)) := Lp_congr (fun y hy => Um_d (by omega) hy)
          have e2 : Np w n noB noB (n - (x + 1)) (x + 1) (Um cl (x + 1) (mD w mask)) = Np w n noB noB (n - (x + 1)) (x + 1) (cov (Um cl x mask) (x + w)) := by unfold Np; rw [this]
          rw [e2]; omega
end MW
