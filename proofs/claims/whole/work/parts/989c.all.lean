/-! ===== counts of both sides; calls: all, rest, widows ===== -/
theorem Uc_0 (w : Nat) (cl : Nat → Bool) : Uc w cl 0 0 = cl := by funext x; simp [Uc]
theorem Um_00 (cl : Nat → Bool) : Um cl 0 0 = cl := by funext x; simp [Um]
theorem gM_00 (w n : Nat) : gM w n 0 0 := ⟨Nat.two_pow_pos w, fun i h => by simp at h⟩
theorem Wr_tot {w h : Nat} {cl na nd : Nat → Bool} (hw : 1 < w) (hw6 : w ≤ 6) (hh : 0 < h) (hn : ∀ x, na x = true → cl x = false) : Wr w h cl na nd h 0 0 = Np w (w * h) na nd (w * h) 0 cl := by
  have e := Wr_eq hw hw6 hh hn (nd := nd) (k := h) (y := 0) (into := 0) (by omega) (by unfold canR; rw [if_pos rfl]; rfl)
  rw [e, Uc_0, Nat.zero_mul, Nat.mul_comm h w]
theorem Fr_tot {w n : Nat} {cl na nd : Nat → Bool} (h0 : 1 < w) (hr : ∀ x, x % w + 1 < w → x < n → x + 1 < n) : Fr w n cl na nd n 0 0 = (Np w n na nd n 0 cl : Int) := by
  rw [Fr_eq h0 hr (by omega) (gM_00 w n), Um_00]
theorem Fr_congr3 {w n : Nat} {cl cl' na na' nd nd' : Nat → Bool} (hr : ∀ x, x % w + 1 < w → x < n → x + 1 < n) (he : ∀ x, x < n → cl x = cl' x) (h1 : ∀ x, x < n → na x = na' x) (h2 : ∀ x, x < n → nd x = nd' x) {k : Nat} : ∀ {c m : Nat}, c + k = n → Fr w n cl na nd k c m = Fr w n cl' na' nd' k c m := by
  induction k with
  | zero => intro c m _; rw [Fr_0, Fr_0]
  | succ k ih =>
    intro c m hc
    have e1 : aM w cl na c m = aM w cl' na' c m := by
      unfold aM
      by_cases z : c % w + 1 < w
      · have := hr c z (by omega)
        rw [he (c + 1) this, h1 c (by omega), h1 (c + 1) this]
      · simp [z]
    have e2 : dM w n cl nd c = dM w n cl' nd' c := by
      unfold dM
      by_cases z : c + w < n
      · rw [he (c + w) z, h2 c (by omega), h2 (c + w) z]
      · simp [z]
    rw [Fr_s, Fr_s, he c (by omega), e1, e2, ih (by omega), ih (by omega), ih (by omega)]
/-- flags of cells -/
def flg (I : Nat → Nat → Int) (a : Nat) (f : Nat → Bool) : Prop := ∀ x, x < 36 → I a x = if f x then 1 else 0
theorem flg_b01 {I : Nat → Nat → Int} {a : Nat} {f : Nat → Bool} (h : flg I a f) : b01 I a 36 := fun x hx => by
  rw [h x hx]
  split
  · exact Or.inr rfl
  · exact Or.inl rfl
theorem flg_bl {I : Nat → Nat → Int} {a : Nat} {f : Nat → Bool} (h : flg I a f) {x : Nat} (hx : x < 36) : blI I a x = f x := by
  unfold blI
  rw [h x hx]
  cases f x <;> rfl
theorem b01_flg {I : Nat → Nat → Int} {a : Nat} (h : b01 I a 36) : flg I a (blI I a) := fun x hx => by
  unfold blI
  rcases h x hx with q | q <;> rw [q] <;> rfl
theorem flg_up {I : Nat → Nat → Int} {a c : Nat} {f : Nat → Bool} (h : flg I a f) : flg (up I a c 1) a (clAdd f c) := fun x hx => by
  rw [up_g]
  unfold clAdd
  by_cases e : x = c
  · rw [if_pos e, if_pos (by simp [e])]
  · rw [if_neg e, h x hx]; simp [e]
theorem flg_ne {I J : Nat → Nat → Int} {a : Nat} {f : Nat → Bool} (e : J a = I a) (h : flg I a f) : flg J a f := fun x hx => by rw [e]; exact h x hx
/-- closed where a hole is or a stone lies -/
def tkR (hl : Nat → Bool) (w : Nat) (ρ : Nat → Int) : Nat → Bool := fun x => hl x || (rCpl w ρ (x : Int)).isSome
section CA
variable {t d rt : Nat} {I J K : Nat → Nat → Int} {lv w h n nh r : Nat} {hl cl na nd na' nd' : Nat → Bool} {sd : Int} {ifs : Nat → List LwI} {xs : Nat → List CI} {ρ : Nat → Int} {u : Nat} {H : Nat → Nat → Int} {hd : Nat → Bool} {G : Nat → Nat → Int}
theorem cpl_n (sq : sqOK w h n nh hl) (hr : rOK w n hl ρ) {x : Nat} (hx : n ≤ x) : rCpl w ρ (x : Int) = none := rCpl_none (fun k hk => by
  rw [Bool.eq_false_iff]
  intro q
  rw [rAt_iff] at q
  have b := rOK_b hr ⟨sq.1, sq.2.1⟩ sq.2.2.2.2.2.2.1 sq.2.2.2.2.1 hk
  omega)
theorem m_counts {b : Int} {tb : Nat} (c : mCfg I lv w h n) (h8 : flg I 408 cl) (h9 : flg I 409 na') (h10 : flg I 410 nd') (hb : (b = 0 ∧ tb = 406 ∧ na = noB ∧ nd = noB) ∨ (b = 1 ∧ tb = 407 ∧ na = na' ∧ nd = nd')) : wm t d rt (f_X12_counts 369 b (mm t d rt I)) (fun r J => r = (Np w n na nd n 0 cl : Int) ∧ frM (fun a => a = tb) (fun _ => False) I J ∧ ∀ c m, c ≤ n → m < 64 → J tb (64 * c + m) = Fr w n cl na nd (n - c) c m) := by
  have h0 : 1 < w := by have := c.2.2.2.2.1; omega
  have hr := hr_of (by omega) c.2.2.2.2.2.2.2.2.1
  have hn : n ≤ 36 := c.2.2.2.2.2.2.2.2.2.2
  have key : ∀ na2 nd2, tdF I b tb na2 nd2 → (∀ x, x < n → na2 x = na x) → (∀ x, x < n → nd2 x = nd x) → wm t d rt (f_X12_counts 369 b (mm t d rt I)) (fun r J => r = (Np w n na nd n 0 cl : Int) ∧ frM (fun a => a = tb) (fun _ => False) I J ∧ ∀ c m, c ≤ n → m < 64 → J tb (64 * c + m) = Fr w n cl na nd (n - c) c m) := by
    intro na2 nd2 hb2 e1 e2
    have h2 := s_counts (t := t) (d := d) (rt := rt) c hb2 (flg_b01 h8) (flg_b01 h9) (flg_b01 h10) hr
    have htb : tb ≠ 369 := by have := tdF_tb hb2; omega
    refine wm_e h2 ⟨?_, ⟨fun a ha hS => funext (fun y => flB_ne hS), fun j _ => flB_ne (fun q => htb q.symm)⟩, fun c' m hc hm => ?_⟩
    · rw [Fr_congr3 (cl' := cl) (na' := na) (nd' := nd) hr (fun x hx => flg_bl h8 (by omega)) e1 e2 (by omega), Fr_tot h0 hr]
    · rw [flB_in (by simp; omega), FrT_in hm, Fr_congr3 (cl' := cl) (na' := na) (nd' := nd) hr (fun x hx => flg_bl h8 (by omega)) e1 e2 (by omega)]
  rcases hb with ⟨b1, b2, b3, b4⟩ | ⟨b1, b2, b3, b4⟩
  · exact key noB noB (Or.inl ⟨b1, b2, rfl, rfl⟩) (fun x _ => by rw [b3]) (fun x _ => by rw [b4])
  · exact key _ _ (Or.inr ⟨b1, b2, rfl, rfl⟩) (fun x hx => by rw [b3]; exact flg_bl h9 (by omega)) (fun x hx => by rw [b4]; exact flg_bl h10 (by omega))
theorem m_closesHoles (c : cfM I lv w h n nh hl sd ifs xs) : wm t d rt (f_X12_closesHoles 369 (mm t d rt I)) (fun _ J => frM (fun a => a = 408) (fun _ => False) I J ∧ flg J 408 hl) := by
  have h2 : flg I 402 hl := c.2.2.2.1
  refine wm_e (s_closesHoles (flg_b01 h2)) ⟨⟨fun a ha hS => flne hS, fun j _ => fl_ne (by decide)⟩, fun x hx => ?_⟩
  rw [fl_in hx]
  exact h2 x hx
theorem m_closesTaken (c : cfM I lv w h n nh hl sd ifs xs) (hv : vRow ρ) (h1 : I 401 = ρ) : wm t d rt (f_X12_closesTaken 369 (mm t d rt I)) (fun _ J => frM (fun a => a = 408) (fun _ => False) I J ∧ flg J 408 (tkR hl w ρ)) := by
  have h2 : flg I 402 hl := c.2.2.2.1
  refine wm_e (s_closesTaken c.1 (by rw [h1]; exact hv) (flg_b01 h2)) ⟨⟨fun a ha hS => flne hS, fun j _ => fl_ne (by decide)⟩, fun x hx => ?_⟩
  rw [fl_in hx]
  unfold tkF tkR
  rw [h2 x hx, h1]
  cases hl x <;> cases (rCpl w ρ (x : Int)).isSome <;> rfl
theorem zM_fr {S T : Nat → Prop} (hz : zM I) (hf : frM S T I J) (h1 : ¬ S 401) (h2 : ¬ S 409) (h3 : ¬ S 410) : zM J := by
  unfold zM b01 at hz ⊢
  rw [hf.1 401 (by decide) h1, hf.1 409 (by decide) h2, hf.1 410 (by decide) h3]
  exact hz
theorem frM_f {S S' T' : Nat → Prop} (hf : frM S (fun _ => False) I J) (hs : ∀ a, S a → S' a) : frM S' T' I J := frM_sub hf hs (fun _ h => h.elim)
theorem m_counts0 (c : mCfg I lv w h n) (h8 : flg I 408 cl) (hz : zM I) : wm t d rt (f_X12_counts 369 0 (mm t d rt I)) (fun r J => r = (Np w n noB noB n 0 cl : Int) ∧ frM (fun a => a = 406) (fun _ => False) I J ∧ ∀ c m, c ≤ n → m < 64 → J 406 (64 * c + m) = Fr w n cl noB noB (n - c) c m) :=
  m_counts c h8 (b01_flg hz.2.1) (b01_flg hz.2.2) (Or.inl ⟨rfl, rfl, rfl, rfl⟩)
/-- all is counted -/
def mTab (J : Nat → Nat → Int) (w n : Nat) (cl : Nat → Bool) : Prop := flg J 408 cl ∧ ∀ c m, c ≤ n → m < 64 → J 406 (64 * c + m) = Fr w n cl noB noB (n - c) c m
theorem m_countsAll (c : cfM I lv w h n nh hl sd ifs xs) (hz : zM I) : wm t d rt (f_X12_countsAll 369 (mm t d rt I)) (fun r J => r = (Np w n noB noB n 0 hl : Int) ∧ frM (fun a => a = 406 ∨ a = 408) (fun _ => False) I J ∧ mTab J w n hl) := by
  unfold f_X12_countsAll
  (repeat (first | (with_reducible apply wm_o; focus (simp (disch := omega) only [wr_id, Int.toNat_natCast, Int.reduceToNat, tn_lk, tn_kl, if_pos, if_neg, ↓reduceIte, and_self, and_true, true_and]; with_reducible rfl)) | (with_reducible apply wm_q) | (with_reducible apply wm_c; focus (first | assumption | decide +kernel)) | (with_reducible apply wm_d; focus (simp (disch := omega) only [wr_id, Int.toNat_natCast, Int.reduceToNat, tn_lk, tn_kl, if_pos, if_neg, ↓reduceIte, and_self, and_true, true_and]; with_reducible rfl)) | (with_reducible apply wm_t; focus (first | omega | (simp (disch := omega) only [wr_id]; omega) | (simp (disch := omega) only [wr_id]; done))) | (with_reducible apply wm_f; focus (first | omega | (simp (disch := omega) only [wr_id]; omega) | (simp (disch := omega) only [wr_id]; done)))))
  refine wm_b (m_closesHoles c) (fun v J hJ => ?_)
  obtain ⟨j1, j2⟩ := hJ
  have cJ := cfM_frm j1 (fun a _ _ _ _ _ _ _ _ => by omega) (fun q => q) c
  (repeat (first | (with_reducible apply wm_o; focus (simp (disch := omega) only [wr_id, Int.toNat_natCast, Int.reduceToNat, tn_lk, tn_kl, if_pos, if_neg, ↓reduceIte, and_self, and_true, true_and]; with_reducible rfl)) | (with_reducible apply wm_q) | (with_reducible apply wm_c; focus (first | assumption | decide +kernel)) | (with_reducible apply wm_d; focus (simp (disch := omega) only [wr_id, Int.toNat_natCast, Int.reduceToNat, tn_lk, tn_kl, if_pos, if_neg, ↓reduceIte, and_self, and_true, true_and]; with_reducible rfl)) | (with_reducible apply wm_t; focus (first | omega | (simp (disch := omega) only [wr_id]; omega) | (simp (disch := omega) only [wr_id]; done))) | (with_reducible apply wm_f; focus (first | omega | (simp (disch := omega) only [wr_id]; omega) | (simp (disch := omega) only [wr_id]; done)))))
  refine wm_b (m_counts0 cJ.1 j2 (zM_fr hz j1 (by decide) (by decide) (by decide))) (fun v2 K hK => ?_)
  exact wm_r ⟨hK.1, frM_trans (frM_f j1 (fun a ha => Or.inr ha)) (frM_f hK.2.1 (fun a ha => Or.inl ha)), flg_ne (hK.2.1.1 408 (by decide) (by decide)) j2, hK.2.2⟩
theorem m_countsRest (c : cfM I lv w h n nh hl sd ifs xs) (hz : zM I) (hv : vRow ρ) (h1 : I 401 = ρ) : wm t d rt (f_X12_countsRest 369 (mm t d rt I)) (fun r J => r = (Np w n noB noB n 0 (tkR hl w ρ) : Int) ∧ frM (fun a => a = 406 ∨ a = 408) (fun _ => False) I J ∧ mTab J w n (tkR hl w ρ)) := by
  unfold f_X12_countsRest
  (repeat (first | (with_reducible apply wm_o; focus (simp (disch := omega) only [wr_id, Int.toNat_natCast, Int.reduceToNat, tn_lk, tn_kl, if_pos, if_neg, ↓reduceIte, and_self, and_true, true_and]; with_reducible rfl)) | (with_reducible apply wm_q) | (with_reducible apply wm_c; focus (first | assumption | decide +kernel)) | (with_reducible apply wm_d; focus (simp (disch := omega) only [wr_id, Int.toNat_natCast, Int.reduceToNat, tn_lk, tn_kl, if_pos, if_neg, ↓reduceIte, and_self, and_true, true_and]; with_reducible rfl)) | (with_reducible apply wm_t; focus (first | omega | (simp (disch := omega) only [wr_id]; omega) | (simp (disch := omega) only [wr_id]; done))) | (with_reducible apply wm_f; focus (first | omega | (simp (disch := omega) only [wr_id]; omega) | (simp (disch := omega) only [wr_id]; done)))))
  refine wm_b (m_closesTaken c hv h1) (fun v J hJ => ?_)
  obtain ⟨j1, j2⟩ := hJ
  have cJ := cfM_frm j1 (fun a _ _ _ _ _ _ _ _ => by omega) (fun q => q) c
  (repeat (first | (with_reducible apply wm_o; focus (simp (disch := omega) only [wr_id, Int.toNat_natCast, Int.reduceToNat, tn_lk, tn_kl, if_pos, if_neg, ↓reduceIte, and_self, and_true, true_and]; with_reducible rfl)) | (with_reducible apply wm_q) | (with_reducible apply wm_c; focus (first | assumption | decide +kernel)) | (with_reducible apply wm_d; focus (simp (disch := omega) only [wr_id, Int.toNat_natCast, Int.reduceToNat, tn_lk, tn_kl, if_pos, if_neg, ↓reduceIte, and_self, and_true, true_and]; with_reducible rfl)) | (with_reducible apply wm_t; focus (first | omega | (simp (disch := omega) only [wr_id]; omega) | (simp (disch := omega) only [wr_id]; done))) | (with_reducible apply wm_f; focus (first | omega | (simp (disch := omega) only [wr_id]; omega) | (simp (disch := omega) only [wr_id]; done)))))
  refine wm_b (m_counts0 cJ.1 j2 (zM_fr hz j1 (by decide) (by decide) (by decide))) (fun v2 K hK => ?_)
  exact wm_r ⟨hK.1, frM_trans (frM_f j1 (fun a ha => Or.inr ha)) (frM_f hK.2.1 (fun a ha => Or.inl ha)), flg_ne (hK.2.1.1 408 (by decide) (by decide)) j2, hK.2.2⟩
theorem c_tot (hrm : r ∈ [311, 324]) (c : rCfg I r w h cl na nd) (hW : wyR I r w h cl na nd) (hn : ∀ x, na x = true → cl x = false) (hnw : n = w * h) : f_X4_total r (mm t d rt I) = some (((Np w n na nd n 0 cl : Nat) : Int), mm t d rt I) := by
  have e := hW 0 (by omega) 0 (Nat.two_pow_pos w)
  have c4 := c.2.2.2.1
  have c6 := c.2.2.2.2.2.1
  rw [s_total hrm, show r + 5 = r + 5 + 0 from rfl, e, Nat.sub_zero, Wr_tot (by omega) c.2.2.2.2.1 (by omega) hn, hnw]
theorem ev_in : 311 ∈ [311, 324] := by decide
theorem so_in : 324 ∈ [311, 324] := by decide
theorem no_cl {cl : Nat → Bool} : ∀ x, noB x = true → cl x = false := fun x h => by cases h
theorem c_every (hR : REST t d rt lv w h n nh hl sd ifs xs I) : f_X4_total 311 (mm t d rt I) = some (((Np w n noB noB n 0 hl : Nat) : Int), mm t d rt I) := by
  have hE := hR.2.2.2.2.2.2.2.1
  exact c_tot ev_in hE.1 hE.2.1 no_cl hR.2.1.2.2.2.2.1
theorem Np_b (hw : 0 < w) (hnw : n = w * h) (hn : n ≤ 36) : Np w n na nd n 0 cl ≤ 262144 := by
  have h1 := Np_le (w := w) (n := n) (na := na) (nd := nd) (k := n) (c := 0) (U := cl) hw (by omega) (hr_of hw hnw)
  have h2 := frN_le (U := cl) (k := n) (c := 0)
  exact Nat.le_trans h1 (Nat.le_trans (Nat.pow_le_pow_right (by decide) (show frN cl n 0 / 2 ≤ 18 by omega)) (by decide))
theorem c_closeAll (sq : sqOK w h n nh hl) (c : cfC I t w h n nh hl sd ifs xs) (hr : rOK w n hl ρ) (hst : stR I 34 w ρ) (h12 : ∀ m, m < 64 → I 336 m = (oddR m : Int)) : wm t d rt (f_X11_closeHolesAndStones 0 (mm t d rt I)) (fun _ J => frm (fun a => 324 ≤ a ∧ a ≤ 327) I J ∧ rCfg J 324 w h (tkR hl w ρ) noB noB) := by
  have htx := c.1
  have kt := (tx_k htx).1
  have kb := (tx_k htx).2.2.2
  have hn := sq.2.2.2.2.2.2.1
  have hnw := sq.2.2.2.2.1
  unfold f_X11_closeHolesAndStones
  (repeat (first | (with_reducible apply wm_o; focus (simp (disch := omega) only [wr_id, Int.toNat_natCast, Int.reduceToNat, tn_lk, tn_kl, if_pos, if_neg, ↓reduceIte, and_self, and_true, true_and, FX]; with_reducible rfl)) | (with_reducible apply wm_q) | (with_reducible apply wm_c; focus (first | assumption | decide +kernel)) | (with_reducible apply wm_d; focus (simp (disch := omega) only [wr_id, Int.toNat_natCast, Int.reduceToNat, tn_lk, tn_kl, if_pos, if_neg, ↓reduceIte, and_self, and_true, true_and, FX]; with_reducible rfl)) | (with_reducible apply wm_t; focus (first | omega | (simp (disch := omega) only [wr_id, FX]; omega) | (simp (disch := omega) only [wr_id, FX]; done))) | (with_reducible apply wm_f; focus (first | omega | (simp (disch := omega) only [wr_id, FX]; omega) | (simp (disch := omega) only [wr_id, FX]; done)))))
  refine wm_b (w_begin so_in sq c h12) (fun v J hJ => ?_)
  obtain ⟨j1, j2⟩ := hJ
  refine wm_lp2 n (fun i y K => y = (i : Int) ∧ frm (fun a => 324 ≤ a ∧ a ≤ 327) I K ∧ rCfg K 324 w h (fun x => hl x || (decide (x < i) && (rCpl w ρ (x : Int)).isSome)) noB noB) ?_ (Nat.lt_of_le_of_lt hn (jfuel_n (by decide))) ⟨rfl, j1, ?_⟩
  · rintro i hi y K ⟨rfl, hK, cK⟩ rec hrec
    have cf := cfC_frm hK (fun a a1 a2 => by omega) c
    have sK := stR_frm hK (fun a a1 a2 => by omega) hst
    have hce := q_cells (d := d) (rt := rt) sq cf
    by_cases e : i = n
    · subst e
      (repeat (first | (with_reducible apply wm_o; focus (simp (disch := omega) only [wr_id, Int.toNat_natCast, Int.reduceToNat, tn_lk, tn_kl, if_pos, if_neg, ↓reduceIte, and_self, and_true, true_and, FX, hce]; with_reducible rfl)) | (with_reducible apply wm_q) | (with_reducible apply wm_c; focus (first | assumption | decide +kernel)) | (with_reducible apply wm_d; focus (simp (disch := omega) only [wr_id, Int.toNat_natCast, Int.reduceToNat, tn_lk, tn_kl, if_pos, if_neg, ↓reduceIte, and_self, and_true, true_and, FX, hce]; with_reducible rfl)) | (with_reducible apply wm_t; focus (first | omega | (simp (disch := omega) only [wr_id, FX, hce]; omega) | (simp (disch := omega) only [wr_id, FX, hce]; done))) | (with_reducible apply wm_f; focus (first | omega | (simp (disch := omega) only [wr_id, FX, hce]; omega) | (simp (disch := omega) only [wr_id, FX, hce]; done)))))
      refine wm_r ⟨hK, ?_⟩
      have ef : (fun x => hl x || (decide (x < i) && (rCpl w ρ (x : Int)).isSome)) = tkR hl w ρ := by
        funext x
        unfold tkR
        by_cases q : x < i
        · simp [q]
        · rw [cpl_n sq hr (by omega)]; simp
      rw [ef] at cK
      exact cK
    · have hi2 : i < n := by omega
      rcases on_w sK (show i < 36 by omega) with ⟨o1, o2⟩ | ⟨k, o0, o1, o2, o3⟩
      · (repeat (first | (with_reducible apply wm_o; focus (simp (disch := omega) only [wr_id, Int.toNat_natCast, Int.reduceToNat, tn_lk, tn_kl, if_pos, if_neg, ↓reduceIte, and_self, and_true, true_and, FX, hce, FState now_in, o1]; with_reducible rfl)) | (with_reducible apply wm_q) | (with_reducible apply wm_c; focus (first | assumption | decide +kernel)) | (with_reducible apply wm_d; focus (simp (disch := omega) only [wr_id, Int.toNat_natCast, Int.reduceToNat, tn_lk, tn_kl, if_pos, if_neg, ↓reduceIte, and_self, and_true, true_and, FX, hce, FState now_in, o1]; with_reducible rfl)) | (with_reducible apply wm_t; focus (first | omega | (simp (disch := omega) only [wr_id, FX, hce, FState now_in, o1]; omega) | (simp (disch := omega) only [wr_id, FX, hce, FState now_in, o1]; done))) | (with_reducible apply wm_f; focus (first | omega | (simp (disch := omega) only [wr_id, FX, hce, FState now_in, o1]; omega) | (simp (disch := omega) only [wr_id, FX, hce, FState now_in, o1]; done)))))
        refine hrec (i + 1) _ _ (by omega) (by omega) ⟨by omega, hK, ?_⟩
        have ef : (fun x => hl x || (decide (x < i) && (rCpl w ρ (x : Int)).isSome)) = fun x => hl x || (decide (x < i + 1) && (rCpl w ρ (x : Int)).isSome) := by
          funext x
          by_cases q : x = i
          · subst q; rw [o2]; simp
          · have : decide (x < i) = decide (x < i + 1) := by rw [Bool.eq_iff_iff]; simp; omega
            rw [this]
        rw [← ef]
        exact cK
      · (repeat (first | (with_reducible apply wm_o; focus (simp (disch := omega) only [wr_id, Int.toNat_natCast, Int.reduceToNat, tn_lk, tn_kl, if_pos, if_neg, ↓reduceIte, and_self, and_true, true_and, FX, hce, FState now_in, o1]; with_reducible rfl)) | (with_reducible apply wm_q) | (with_reducible apply wm_c; focus (first | assumption | decide +kernel)) | (with_reducible apply wm_d; focus (simp (disch := omega) only [wr_id, Int.toNat_natCast, Int.reduceToNat, tn_lk, tn_kl, if_pos, if_neg, ↓reduceIte, and_self, and_true, true_and, FX, hce, FState now_in, o1]; with_reducible rfl)) | (with_reducible apply wm_t; focus (first | omega | (simp (disch := omega) only [wr_id, FX, hce, FState now_in, o1]; omega) | (simp (disch := omega) only [wr_id, FX, hce, FState now_in, o1]; done))) | (with_reducible apply wm_f; focus (first | omega | (simp (disch := omega) only [wr_id, FX, hce, FState now_in, o1]; omega) | (simp (disch := omega) only [wr_id, FX, hce, FState now_in, o1]; done)))))
        refine wm_b (w_close so_in cK (c := i) (by omega)) (fun v L hL => ?_)
        refine hrec (i + 1) _ _ (by omega) (by omega) ⟨by omega, frm_trans hK (frm_sub hL.1 (fun a ha => by omega)), ?_⟩
        have ef : clAdd (fun x => hl x || (decide (x < i) && (rCpl w ρ (x : Int)).isSome)) i = fun x => hl x || (decide (x < i + 1) && (rCpl w ρ (x : Int)).isSome) := by
          funext x
          unfold clAdd
          by_cases q : x = i
          · subst q; rw [o2]; simp
          · have : decide (x < i) = decide (x < i + 1) := by rw [Bool.eq_iff_iff]; simp; omega
            simp [q, this]
        rw [← ef]
        exact hL.2
  · have ef : (fun x => hl x || (decide (x < 0) && (rCpl w ρ (x : Int)).isSome)) = hl := by funext x; simp
    rw [ef]
    exact j2
theorem c_countRest (sq : sqOK w h n nh hl) (c : cfC I t w h n nh hl sd ifs xs) (hr : rOK w n hl ρ) (hst : stR I 34 w ρ) (h12 : ∀ m, m < 64 → I 336 m = (oddR m : Int)) : wm t d rt (f_X11_countRest 0 (mm t d rt I)) (fun _ J => frm (fun a => 324 ≤ a ∧ a ≤ 335) I J ∧ rCfg J 324 w h (tkR hl w ρ) noB noB ∧ wyR J 324 w h (tkR hl w ρ) noB noB) := by
  unfold f_X11_countRest
  (repeat (first | (with_reducible apply wm_o; focus (simp (disch := omega) only [wr_id, Int.toNat_natCast, Int.reduceToNat, tn_lk, tn_kl, if_pos, if_neg, ↓reduceIte, and_self, and_true, true_and]; with_reducible rfl)) | (with_reducible apply wm_q) | (with_reducible apply wm_c; focus (first | assumption | decide +kernel)) | (with_reducible apply wm_d; focus (simp (disch := omega) only [wr_id, Int.toNat_natCast, Int.reduceToNat, tn_lk, tn_kl, if_pos, if_neg, ↓reduceIte, and_self, and_true, true_and]; with_reducible rfl)) | (with_reducible apply wm_t; focus (first | omega | (simp (disch := omega) only [wr_id]; omega) | (simp (disch := omega) only [wr_id]; done))) | (with_reducible apply wm_f; focus (first | omega | (simp (disch := omega) only [wr_id]; omega) | (simp (disch := omega) only [wr_id]; done)))))
  refine wm_b (c_closeAll sq c hr hst h12) (fun v J hJ => ?_)
  (repeat (first | (with_reducible apply wm_o; focus (simp (disch := omega) only [wr_id, Int.toNat_natCast, Int.reduceToNat, tn_lk, tn_kl, if_pos, if_neg, ↓reduceIte, and_self, and_true, true_and, FX]; with_reducible rfl)) | (with_reducible apply wm_q) | (with_reducible apply wm_c; focus (first | assumption | decide +kernel)) | (with_reducible apply wm_d; focus (simp (disch := omega) only [wr_id, Int.toNat_natCast, Int.reduceToNat, tn_lk, tn_kl, if_pos, if_neg, ↓reduceIte, and_self, and_true, true_and, FX]; with_reducible rfl)) | (with_reducible apply wm_t; focus (first | omega | (simp (disch := omega) only [wr_id, FX]; omega) | (simp (disch := omega) only [wr_id, FX]; done))) | (with_reducible apply wm_f; focus (first | omega | (simp (disch := omega) only [wr_id, FX]; omega) | (simp (disch := omega) only [wr_id, FX]; done)))))
  refine wm_b (w_countWays so_in hJ.2 no_cl) (fun v2 K hK => ?_)
  exact wm_r ⟨frm_trans (frm_sub hJ.1 (fun a ha => by omega)) (frm_sub hK.1 (fun a ha => by omega)), hK.2⟩
theorem P_all (hI : INV t d rt I) : both t d rt (f_X11_all 0 (mm t d rt I)) (fun M => f_X12_all 369 M) := by
  obtain ⟨lv, w, h, n, nh, hl, sd, ifs, xs, hR, ρ, u, H, hd, G, hC, hM⟩ := hI
  have hmf := hR.2.2.2.1
  have hz := hR.2.2.2.2.2.2.2.2.2
  have ht := c_every hR
  unfold both f_X11_all
  (repeat (first | (with_reducible apply wm_o; focus (simp (disch := omega) only [wr_id, Int.toNat_natCast, Int.reduceToNat, tn_lk, tn_kl, if_pos, if_neg, ↓reduceIte, and_self, and_true, true_and, FX, ht]; with_reducible rfl)) | (with_reducible apply wm_q) | (with_reducible apply wm_c; focus (first | assumption | decide +kernel)) | (with_reducible apply wm_d; focus (simp (disch := omega) only [wr_id, Int.toNat_natCast, Int.reduceToNat, tn_lk, tn_kl, if_pos, if_neg, ↓reduceIte, and_self, and_true, true_and, FX, ht]; with_reducible rfl)) | (with_reducible apply wm_t; focus (first | omega | (simp (disch := omega) only [wr_id, FX, ht]; omega) | (simp (disch := omega) only [wr_id, FX, ht]; done))) | (with_reducible apply wm_f; focus (first | omega | (simp (disch := omega) only [wr_id, FX, ht]; omega) | (simp (disch := omega) only [wr_id, FX, ht]; done)))))
  refine wm_r ?_
  show wm t d rt (f_X12_all 369 (mm t d rt I)) _
  unfold f_X12_all
  (repeat (first | (with_reducible apply wm_o; focus (simp (disch := omega) only [wr_id, Int.toNat_natCast, Int.reduceToNat, tn_lk, tn_kl, if_pos, if_neg, ↓reduceIte, and_self, and_true, true_and]; with_reducible rfl)) | (with_reducible apply wm_q) | (with_reducible apply wm_c; focus (first | assumption | decide +kernel)) | (with_reducible apply wm_d; focus (simp (disch := omega) only [wr_id, Int.toNat_natCast, Int.reduceToNat, tn_lk, tn_kl, if_pos, if_neg, ↓reduceIte, and_self, and_true, true_and]; with_reducible rfl)) | (with_reducible apply wm_t; focus (first | omega | (simp (disch := omega) only [wr_id]; omega) | (simp (disch := omega) only [wr_id]; done))) | (with_reducible apply wm_f; focus (first | omega | (simp (disch := omega) only [wr_id]; omega) | (simp (disch := omega) only [wr_id]; done)))))
  refine wm_b (m_countsAll hmf hz) (fun v K hK => ?_)
  obtain ⟨rfl, k1, k2⟩ := hK
  exact wm_r ⟨rfl, INV_q hR hC hM (frm_refl _ _) (frM_f k1 (fun a ha => by unfold scrM; omega)) (zM_fr hz k1 (by decide) (by decide) (by decide))⟩
theorem scr_r {a : Nat} (h : 324 ≤ a ∧ a ≤ 335) : scrC a := by unfold scrC; omega
theorem P_rest (hI : INV t d rt I) : both t d rt (f_X11_rest 0 (mm t d rt I)) (fun M => f_X12_rest 369 M) := by
  obtain ⟨lv, w, h, n, nh, hl, sd, ifs, xs, hR, ρ, u, H, hd, G, hC, hM⟩ := hI
  have sq := hR.2.1
  have hnw := sq.2.2.2.2.1
  have hn := sq.2.2.2.2.2.2.1
  have hv := vRow_of hC.1 hn
  unfold both f_X11_rest
  (repeat (first | (with_reducible apply wm_o; focus (simp (disch := omega) only [wr_id, Int.toNat_natCast, Int.reduceToNat, tn_lk, tn_kl, if_pos, if_neg, ↓reduceIte, and_self, and_true, true_and]; with_reducible rfl)) | (with_reducible apply wm_q) | (with_reducible apply wm_c; focus (first | assumption | decide +kernel)) | (with_reducible apply wm_d; focus (simp (disch := omega) only [wr_id, Int.toNat_natCast, Int.reduceToNat, tn_lk, tn_kl, if_pos, if_neg, ↓reduceIte, and_self, and_true, true_and]; with_reducible rfl)) | (with_reducible apply wm_t; focus (first | omega | (simp (disch := omega) only [wr_id]; omega) | (simp (disch := omega) only [wr_id]; done))) | (with_reducible apply wm_f; focus (first | omega | (simp (disch := omega) only [wr_id]; omega) | (simp (disch := omega) only [wr_id]; done)))))
  refine wm_b (c_countRest sq hR.2.2.1 hC.1 hC.2.1 hR.2.2.2.2.2.2.2.1.2.2) (fun v J hJ => ?_)
  obtain ⟨j1, j2, j3⟩ := hJ
  have ht := c_tot (t := t) (d := d) (rt := rt) so_in j2 j3 no_cl hnw
  (repeat (first | (with_reducible apply wm_o; focus (simp (disch := omega) only [wr_id, Int.toNat_natCast, Int.reduceToNat, tn_lk, tn_kl, if_pos, if_neg, ↓reduceIte, and_self, and_true, true_and, FX, ht]; with_reducible rfl)) | (with_reducible apply wm_q) | (with_reducible apply wm_c; focus (first | assumption | decide +kernel)) | (with_reducible apply wm_d; focus (simp (disch := omega) only [wr_id, Int.toNat_natCast, Int.reduceToNat, tn_lk, tn_kl, if_pos, if_neg, ↓reduceIte, and_self, and_true, true_and, FX, ht]; with_reducible rfl)) | (with_reducible apply wm_t; focus (first | omega | (simp (disch := omega) only [wr_id, FX, ht]; omega) | (simp (disch := omega) only [wr_id, FX, ht]; done))) | (with_reducible apply wm_f; focus (first | omega | (simp (disch := omega) only [wr_id, FX, ht]; omega) | (simp (disch := omega) only [wr_id, FX, ht]; done)))))
  refine wm_r ?_
  have jC : frm scrC I J := frm_sub j1 (fun a ha => scr_r ha)
  have jS : frm (fun a => scrC a ∨ stS a) I J := frm_sub jC (fun a ha => Or.inl ha)
  have hRJ := REST_c jS hR
  have hMJ := stM_c jS hM
  show wm t d rt (f_X12_rest 369 (mm t d rt J)) _
  unfold f_X12_rest
  (repeat (first | (with_reducible apply wm_o; focus (simp (disch := omega) only [wr_id, Int.toNat_natCast, Int.reduceToNat, tn_lk, tn_kl, if_pos, if_neg, ↓reduceIte, and_self, and_true, true_and]; with_reducible rfl)) | (with_reducible apply wm_q) | (with_reducible apply wm_c; focus (first | assumption | decide +kernel)) | (with_reducible apply wm_d; focus (simp (disch := omega) only [wr_id, Int.toNat_natCast, Int.reduceToNat, tn_lk, tn_kl, if_pos, if_neg, ↓reduceIte, and_self, and_true, true_and]; with_reducible rfl)) | (with_reducible apply wm_t; focus (first | omega | (simp (disch := omega) only [wr_id]; omega) | (simp (disch := omega) only [wr_id]; done))) | (with_reducible apply wm_f; focus (first | omega | (simp (disch := omega) only [wr_id]; omega) | (simp (disch := omega) only [wr_id]; done)))))
  refine wm_b (m_cop hRJ.2.2.2.1 hRJ.2.2.2.2.2.2.2.2.2 hMJ.1 hMJ.2.1) (fun v' K hK => ?_)
  obtain ⟨k1, k2, k3, k4, k5⟩ := hK
  (repeat (first | (with_reducible apply wm_o; focus (simp (disch := omega) only [wr_id, Int.toNat_natCast, Int.reduceToNat, tn_lk, tn_kl, if_pos, if_neg, ↓reduceIte, and_self, and_true, true_and]; with_reducible rfl)) | (with_reducible apply wm_q) | (with_reducible apply wm_c; focus (first | assumption | decide +kernel)) | (with_reducible apply wm_d; focus (simp (disch := omega) only [wr_id, Int.toNat_natCast, Int.reduceToNat, tn_lk, tn_kl, if_pos, if_neg, ↓reduceIte, and_self, and_true, true_and]; with_reducible rfl)) | (with_reducible apply wm_t; focus (first | omega | (simp (disch := omega) only [wr_id]; omega) | (simp (disch := omega) only [wr_id]; done))) | (with_reducible apply wm_f; focus (first | omega | (simp (disch := omega) only [wr_id]; omega) | (simp (disch := omega) only [wr_id]; done)))))
  refine wm_b (m_countsRest k3 k2 hv k4) (fun v2 L hL => ?_)
  obtain ⟨rfl, l1, l2⟩ := hL
  exact wm_r ⟨rfl, INV_q hR hC hM jC (frM_trans k1 (frM_f l1 (fun a ha => by unfold scrM; omega))) (zM_fr k2 l1 (by decide) (by decide) (by decide))⟩
theorem P_widows (hI : INV t d rt I) {x y : Int} (hx : in32 x) (hy : in32 y) : both t d rt (f_X11_widows 0 x y (mm t d rt I)) (fun M => f_X12_widows 369 x y M) := by
  have hI' := hI
  obtain ⟨lv, w, h, n, nh, hl, sd, ifs, xs, hR, ρ, u, H, hd, G, hC, hM⟩ := hI
  have sq := hR.2.1
  have hcf := hR.2.2.1
  have hmf := hR.2.2.2.1
  have kt := (tx_k hcf.1).1
  have hnw := sq.2.2.2.2.1
  have hn := sq.2.2.2.2.2.2.1
  have o1 := q_isOpen (d := d) (rt := rt) sq hcf hx
  have o2 := q_isOpen (d := d) (rt := rt) sq hcf hy
  have m1 := m_isGround (t := t) (d := d) (rt := rt) hmf.1 hmf.2.2.2.1 hx
  have m2 := m_isGround (t := t) (d := d) (rt := rt) hmf.1 hmf.2.2.2.1 hy
  have ex := wr_in hx
  have ey := wr_in hy
  unfold both f_X11_widows
  by_cases exy : x = y
  · subst exy
    (repeat (first | (with_reducible apply wm_o; focus (simp (disch := omega) only [wr_id, Int.toNat_natCast, Int.reduceToNat, tn_lk, tn_kl, if_pos, if_neg, ↓reduceIte, and_self, and_true, true_and, ex]; with_reducible rfl)) | (with_reducible apply wm_q) | (with_reducible apply wm_c; focus (first | assumption | decide +kernel)) | (with_reducible apply wm_d; focus (simp (disch := omega) only [wr_id, Int.toNat_natCast, Int.reduceToNat, tn_lk, tn_kl, if_pos, if_neg, ↓reduceIte, and_self, and_true, true_and, ex]; with_reducible rfl)) | (with_reducible apply wm_t; focus (first | omega | (simp (disch := omega) only [wr_id, ex]; omega) | (simp (disch := omega) only [wr_id, ex]; done))) | (with_reducible apply wm_f; focus (first | omega | (simp (disch := omega) only [wr_id, ex]; omega) | (simp (disch := omega) only [wr_id, ex]; done)))))
    refine wm_r ?_
    show wm t d rt (f_X12_widows 369 x x (mm t d rt I)) _
    unfold f_X12_widows
    by_cases z : opB n hl x = true
    · rw [if_pos z] at m1
      (repeat (first | (with_reducible apply wm_o; focus (simp (disch := omega) only [wr_id, Int.toNat_natCast, Int.reduceToNat, tn_lk, tn_kl, if_pos, if_neg, ↓reduceIte, and_self, and_true, true_and, m1, ex]; with_reducible rfl)) | (with_reducible apply wm_q) | (with_reducible apply wm_c; focus (first | assumption | decide +kernel)) | (with_reducible apply wm_d; focus (simp (disch := omega) only [wr_id, Int.toNat_natCast, Int.reduceToNat, tn_lk, tn_kl, if_pos, if_neg, ↓reduceIte, and_self, and_true, true_and, m1, ex]; with_reducible rfl)) | (with_reducible apply wm_t; focus (first | omega | (simp (disch := omega) only [wr_id, m1, ex]; omega) | (simp (disch := omega) only [wr_id, m1, ex]; done))) | (with_reducible apply wm_f; focus (first | omega | (simp (disch := omega) only [wr_id, m1, ex]; omega) | (simp (disch := omega) only [wr_id, m1, ex]; done)))))
      exact wm_r ⟨rfl, hI'⟩
    · rw [if_neg z] at m1
      (repeat (first | (with_reducible apply wm_o; focus (simp (disch := omega) only [wr_id, Int.toNat_natCast, Int.reduceToNat, tn_lk, tn_kl, if_pos, if_neg, ↓reduceIte, and_self, and_true, true_and, m1]; with_reducible rfl)) | (with_reducible apply wm_q) | (with_reducible apply wm_c; focus (first | assumption | decide +kernel)) | (with_reducible apply wm_d; focus (simp (disch := omega) only [wr_id, Int.toNat_natCast, Int.reduceToNat, tn_lk, tn_kl, if_pos, if_neg, ↓reduceIte, and_self, and_true, true_and, m1]; with_reducible rfl)) | (with_reducible apply wm_t; focus (first | omega | (simp (disch := omega) only [wr_id, m1]; omega) | (simp (disch := omega) only [wr_id, m1]; done))) | (with_reducible apply wm_f; focus (first | omega | (simp (disch := omega) only [wr_id, m1]; omega) | (simp (disch := omega) only [wr_id, m1]; done)))))
      exact wm_r ⟨rfl, hI'⟩
  · by_cases z : opB n hl x = true
    · rw [if_pos z] at o1 m1
      by_cases z2 : opB n hl y = true
      · rw [if_pos z2] at o2 m2
        obtain ⟨a1, a2, a3⟩ := opB_t z
        obtain ⟨b1, b2, b3⟩ := opB_t z2
        obtain ⟨c, rfl⟩ : ∃ c : Nat, x = (c : Int) := ⟨x.toNat, by omega⟩
        obtain ⟨o, rfl⟩ : ∃ o : Nat, y = (o : Int) := ⟨y.toNat, by omega⟩
        (repeat (first | (with_reducible apply wm_o; focus (simp (disch := omega) only [wr_id, Int.toNat_natCast, Int.reduceToNat, tn_lk, tn_kl, if_pos, if_neg, ↓reduceIte, and_self, and_true, true_and, ex, ey, FX, o1, o2]; with_reducible rfl)) | (with_reducible apply wm_q) | (with_reducible apply wm_c; focus (first | assumption | decide +kernel)) | (with_reducible apply wm_d; focus (simp (disch := omega) only [wr_id, Int.toNat_natCast, Int.reduceToNat, tn_lk, tn_kl, if_pos, if_neg, ↓reduceIte, and_self, and_true, true_and, ex, ey, FX, o1, o2]; with_reducible rfl)) | (with_reducible apply wm_t; focus (first | omega | (simp (disch := omega) only [wr_id, ex, ey, FX, o1, o2]; omega) | (simp (disch := omega) only [wr_id, ex, ey, FX, o1, o2]; done))) | (with_reducible apply wm_f; focus (first | omega | (simp (disch := omega) only [wr_id, ex, ey, FX, o1, o2]; omega) | (simp (disch := omega) only [wr_id, ex, ey, FX, o1, o2]; done)))))
        refine wm_b (w_begin so_in sq hcf hR.2.2.2.2.2.2.2.1.2.2) (fun v J hJ => ?_)
        (repeat (first | (with_reducible apply wm_o; focus (simp (disch := omega) only [wr_id, Int.toNat_natCast, Int.reduceToNat, tn_lk, tn_kl, if_pos, if_neg, ↓reduceIte, and_self, and_true, true_and, FX]; with_reducible rfl)) | (with_reducible apply wm_q) | (with_reducible apply wm_c; focus (first | assumption | decide +kernel)) | (with_reducible apply wm_d; focus (simp (disch := omega) only [wr_id, Int.toNat_natCast, Int.reduceToNat, tn_lk, tn_kl, if_pos, if_neg, ↓reduceIte, and_self, and_true, true_and, FX]; with_reducible rfl)) | (with_reducible apply wm_t; focus (first | omega | (simp (disch := omega) only [wr_id, FX]; omega) | (simp (disch := omega) only [wr_id, FX]; done))) | (with_reducible apply wm_f; focus (first | omega | (simp (disch := omega) only [wr_id, FX]; omega) | (simp (disch := omega) only [wr_id, FX]; done)))))
        refine wm_b (w_close so_in hJ.2 (c := c) (by omega)) (fun v2 J2 hJ2 => ?_)
        (repeat (first | (with_reducible apply wm_o; focus (simp (disch := omega) only [wr_id, Int.toNat_natCast, Int.reduceToNat, tn_lk, tn_kl, if_pos, if_neg, ↓reduceIte, and_self, and_true, true_and, FX]; with_reducible rfl)) | (with_reducible apply wm_q) | (with_reducible apply wm_c; focus (first | assumption | decide +kernel)) | (with_reducible apply wm_d; focus (simp (disch := omega) only [wr_id, Int.toNat_natCast, Int.reduceToNat, tn_lk, tn_kl, if_pos, if_neg, ↓reduceIte, and_self, and_true, true_and, FX]; with_reducible rfl)) | (with_reducible apply wm_t; focus (first | omega | (simp (disch := omega) only [wr_id, FX]; omega) | (simp (disch := omega) only [wr_id, FX]; done))) | (with_reducible apply wm_f; focus (first | omega | (simp (disch := omega) only [wr_id, FX]; omega) | (simp (disch := omega) only [wr_id, FX]; done)))))
        refine wm_b (w_close so_in hJ2.2 (c := o) (by omega)) (fun v3 J3 hJ3 => ?_)
        (repeat (first | (with_reducible apply wm_o; focus (simp (disch := omega) only [wr_id, Int.toNat_natCast, Int.reduceToNat, tn_lk, tn_kl, if_pos, if_neg, ↓reduceIte, and_self, and_true, true_and, FX]; with_reducible rfl)) | (with_reducible apply wm_q) | (with_reducible apply wm_c; focus (first | assumption | decide +kernel)) | (with_reducible apply wm_d; focus (simp (disch := omega) only [wr_id, Int.toNat_natCast, Int.reduceToNat, tn_lk, tn_kl, if_pos, if_neg, ↓reduceIte, and_self, and_true, true_and, FX]; with_reducible rfl)) | (with_reducible apply wm_t; focus (first | omega | (simp (disch := omega) only [wr_id, FX]; omega) | (simp (disch := omega) only [wr_id, FX]; done))) | (with_reducible apply wm_f; focus (first | omega | (simp (disch := omega) only [wr_id, FX]; omega) | (simp (disch := omega) only [wr_id, FX]; done)))))
        refine wm_b (w_countWays so_in hJ3.2 no_cl) (fun v4 J4 hJ4 => ?_)
        have ht := c_tot (t := t) (d := d) (rt := rt) so_in hJ4.2.1 hJ4.2.2 no_cl hnw
        (repeat (first | (with_reducible apply wm_o; focus (simp (disch := omega) only [wr_id, Int.toNat_natCast, Int.reduceToNat, tn_lk, tn_kl, if_pos, if_neg, ↓reduceIte, and_self, and_true, true_and, FX, ht]; with_reducible rfl)) | (with_reducible apply wm_q) | (with_reducible apply wm_c; focus (first | assumption | decide +kernel)) | (with_reducible apply wm_d; focus (simp (disch := omega) only [wr_id, Int.toNat_natCast, Int.reduceToNat, tn_lk, tn_kl, if_pos, if_neg, ↓reduceIte, and_self, and_true, true_and, FX, ht]; with_reducible rfl)) | (with_reducible apply wm_t; focus (first | omega | (simp (disch := omega) only [wr_id, FX, ht]; omega) | (simp (disch := omega) only [wr_id, FX, ht]; done))) | (with_reducible apply wm_f; focus (first | omega | (simp (disch := omega) only [wr_id, FX, ht]; omega) | (simp (disch := omega) only [wr_id, FX, ht]; done)))))
        refine wm_r ?_
        have jC : frm scrC I J4 := frm_sub (T := scrC) (S := fun a => 324 ≤ a ∧ a ≤ 335) (frm_trans (frm_trans (frm_trans (frm_sub hJ.1 (fun a ha => by omega)) (frm_sub hJ2.1 (fun a ha => by omega))) (frm_sub hJ3.1 (fun a ha => by omega))) (frm_sub hJ4.1 (fun a ha => by omega))) (fun a ha => scr_r ha)
        have jS : frm (fun a => scrC a ∨ stS a) I J4 := frm_sub jC (fun a ha => Or.inl ha)
        have hRJ := REST_c jS hR
        have hmJ := hRJ.2.2.2.1
        have hzJ := hRJ.2.2.2.2.2.2.2.2.2
        have n1 := m_isGround (t := t) (d := d) (rt := rt) hmJ.1 hmJ.2.2.2.1 hx
        have n2 := m_isGround (t := t) (d := d) (rt := rt) hmJ.1 hmJ.2.2.2.1 hy
        rw [if_pos z] at n1
        rw [if_pos z2] at n2
        show wm t d rt (f_X12_widows 369 (c : Int) (o : Int) (mm t d rt J4)) _
        unfold f_X12_widows
        (repeat (first | (with_reducible apply wm_o; focus (simp (disch := omega) only [wr_id, Int.toNat_natCast, Int.reduceToNat, tn_lk, tn_kl, if_pos, if_neg, ↓reduceIte, and_self, and_true, true_and, n1, n2, ex, ey]; with_reducible rfl)) | (with_reducible apply wm_q) | (with_reducible apply wm_c; focus (first | assumption | decide +kernel)) | (with_reducible apply wm_d; focus (simp (disch := omega) only [wr_id, Int.toNat_natCast, Int.reduceToNat, tn_lk, tn_kl, if_pos, if_neg, ↓reduceIte, and_self, and_true, true_and, n1, n2, ex, ey]; with_reducible rfl)) | (with_reducible apply wm_t; focus (first | omega | (simp (disch := omega) only [wr_id, n1, n2, ex, ey]; omega) | (simp (disch := omega) only [wr_id, n1, n2, ex, ey]; done))) | (with_reducible apply wm_f; focus (first | omega | (simp (disch := omega) only [wr_id, n1, n2, ex, ey]; omega) | (simp (disch := omega) only [wr_id, n1, n2, ex, ey]; done)))))
        refine wm_b (m_closesHoles hmJ) (fun v5 K hK => ?_)
        obtain ⟨k1, k2⟩ := hK
        have kz := zM_fr hzJ k1 (by decide) (by decide) (by decide)
        (repeat (first | (with_reducible apply wm_o; focus (simp (disch := omega) only [wr_id, Int.toNat_natCast, Int.reduceToNat, tn_lk, tn_kl, if_pos, if_neg, ↓reduceIte, and_self, and_true, true_and, FM, jdz1]; with_reducible rfl)) | (with_reducible apply wm_q) | (with_reducible apply wm_c; focus (first | assumption | decide +kernel)) | (with_reducible apply wm_d; focus (simp (disch := omega) only [wr_id, Int.toNat_natCast, Int.reduceToNat, tn_lk, tn_kl, if_pos, if_neg, ↓reduceIte, and_self, and_true, true_and, FM, jdz1]; with_reducible rfl)) | (with_reducible apply wm_t; focus (first | omega | (simp (disch := omega) only [wr_id, FM, jdz1]; omega) | (simp (disch := omega) only [wr_id, FM, jdz1]; done))) | (with_reducible apply wm_f; focus (first | omega | (simp (disch := omega) only [wr_id, FM, jdz1]; omega) | (simp (disch := omega) only [wr_id, FM, jdz1]; done)))))
        have e2 : frM (fun a => a = 408) (fun _ => False) J4 (up (up K 408 c 1) 408 o 1) := frM_up (frM_up k1 (by decide) rfl) (by decide) rfl
        have c2 := cfM_frm e2 (fun a _ _ _ _ _ _ _ _ => by omega) (fun q => q) hmJ
        refine wm_b (m_counts0 c2.1 (flg_up (flg_up k2)) (zM_fr hzJ e2 (by decide) (by decide) (by decide))) (fun v6 L hL => ?_)
        obtain ⟨rfl, l1, l2⟩ := hL
        have lf : frM (fun a => a = 406 ∨ a = 408) (fun _ => False) J4 L := frM_trans (frM_f e2 (fun a ha => Or.inr ha)) (frM_f l1 (fun a ha => Or.inl ha))
        exact wm_r ⟨rfl, INV_q hR hC hM jC (frM_f lf (fun a ha => by unfold scrM; omega)) (zM_fr hzJ lf (by decide) (by decide) (by decide))⟩
      · rw [if_neg z2] at o2 m2
        (repeat (first | (with_reducible apply wm_o; focus (simp (disch := omega) only [wr_id, Int.toNat_natCast, Int.reduceToNat, tn_lk, tn_kl, if_pos, if_neg, ↓reduceIte, and_self, and_true, true_and, ex, ey, FX, o1, o2]; with_reducible rfl)) | (with_reducible apply wm_q) | (with_reducible apply wm_c; focus (first | assumption | decide +kernel)) | (with_reducible apply wm_d; focus (simp (disch := omega) only [wr_id, Int.toNat_natCast, Int.reduceToNat, tn_lk, tn_kl, if_pos, if_neg, ↓reduceIte, and_self, and_true, true_and, ex, ey, FX, o1, o2]; with_reducible rfl)) | (with_reducible apply wm_t; focus (first | omega | (simp (disch := omega) only [wr_id, ex, ey, FX, o1, o2]; omega) | (simp (disch := omega) only [wr_id, ex, ey, FX, o1, o2]; done))) | (with_reducible apply wm_f; focus (first | omega | (simp (disch := omega) only [wr_id, ex, ey, FX, o1, o2]; omega) | (simp (disch := omega) only [wr_id, ex, ey, FX, o1, o2]; done)))))
        refine wm_r ?_
        show wm t d rt (f_X12_widows 369 x y (mm t d rt I)) _
        unfold f_X12_widows
        (repeat (first | (with_reducible apply wm_o; focus (simp (disch := omega) only [wr_id, Int.toNat_natCast, Int.reduceToNat, tn_lk, tn_kl, if_pos, if_neg, ↓reduceIte, and_self, and_true, true_and, m1, m2]; with_reducible rfl)) | (with_reducible apply wm_q) | (with_reducible apply wm_c; focus (first | assumption | decide +kernel)) | (with_reducible apply wm_d; focus (simp (disch := omega) only [wr_id, Int.toNat_natCast, Int.reduceToNat, tn_lk, tn_kl, if_pos, if_neg, ↓reduceIte, and_self, and_true, true_and, m1, m2]; with_reducible rfl)) | (with_reducible apply wm_t; focus (first | omega | (simp (disch := omega) only [wr_id, m1, m2]; omega) | (simp (disch := omega) only [wr_id, m1, m2]; done))) | (with_reducible apply wm_f; focus (first | omega | (simp (disch := omega) only [wr_id, m1, m2]; omega) | (simp (disch := omega) only [wr_id, m1, m2]; done)))))
        exact wm_r ⟨rfl, hI'⟩
    · rw [if_neg z] at o1 m1
      (repeat (first | (with_reducible apply wm_o; focus (simp (disch := omega) only [wr_id, Int.toNat_natCast, Int.reduceToNat, tn_lk, tn_kl, if_pos, if_neg, ↓reduceIte, and_self, and_true, true_and, ex, ey, FX, o1]; with_reducible rfl)) | (with_reducible apply wm_q) | (with_reducible apply wm_c; focus (first | assumption | decide +kernel)) | (with_reducible apply wm_d; focus (simp (disch := omega) only [wr_id, Int.toNat_natCast, Int.reduceToNat, tn_lk, tn_kl, if_pos, if_neg, ↓reduceIte, and_self, and_true, true_and, ex, ey, FX, o1]; with_reducible rfl)) | (with_reducible apply wm_t; focus (first | omega | (simp (disch := omega) only [wr_id, ex, ey, FX, o1]; omega) | (simp (disch := omega) only [wr_id, ex, ey, FX, o1]; done))) | (with_reducible apply wm_f; focus (first | omega | (simp (disch := omega) only [wr_id, ex, ey, FX, o1]; omega) | (simp (disch := omega) only [wr_id, ex, ey, FX, o1]; done)))))
      refine wm_r ?_
      show wm t d rt (f_X12_widows 369 x y (mm t d rt I)) _
      unfold f_X12_widows
      (repeat (first | (with_reducible apply wm_o; focus (simp (disch := omega) only [wr_id, Int.toNat_natCast, Int.reduceToNat, tn_lk, tn_kl, if_pos, if_neg, ↓reduceIte, and_self, and_true, true_and, m1]; with_reducible rfl)) | (with_reducible apply wm_q) | (with_reducible apply wm_c; focus (first | assumption | decide +kernel)) | (with_reducible apply wm_d; focus (simp (disch := omega) only [wr_id, Int.toNat_natCast, Int.reduceToNat, tn_lk, tn_kl, if_pos, if_neg, ↓reduceIte, and_self, and_true, true_and, m1]; with_reducible rfl)) | (with_reducible apply wm_t; focus (first | omega | (simp (disch := omega) only [wr_id, m1]; omega) | (simp (disch := omega) only [wr_id, m1]; done))) | (with_reducible apply wm_f; focus (first | omega | (simp (disch := omega) only [wr_id, m1]; omega) | (simp (disch := omega) only [wr_id, m1]; done)))))
      exact wm_r ⟨rfl, hI'⟩
end CA
