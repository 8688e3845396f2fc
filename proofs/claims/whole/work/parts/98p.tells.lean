/-! ===== the class reads a tell ===== -/
def txC (rt : Nat) (I : Nat → Nat → Int) (sp : Nat) (w h sd : Int) (H : TH) (S : TS) (lw : Nat → LW) : Prop := I rt 0 = w ∧ I rt 1 = h ∧ I rt 2 = sd ∧ I rt 3 = (H.1 : Int) ∧ I rt 4 = (S.1 : Int) ∧ H.1 ≤ 12 ∧ S.1 ≤ 18 ∧ (∀ i, i < H.1 → I (rt + 1) i = H.2.1 i ∧ I (rt + 2) i = H.2.2 i) ∧ (∀ i, i < S.1 → I (rt + 3) i = S.2.1 i ∧ I (rt + 4) i = S.2.2.1 i ∧ I (rt + 5) i = S.2.2.2 i) ∧ (∀ q, q < 3 → lwOK (lw q).1 (lw q).2 ∧ ∃ p e : Nat, I (rt + 8 + 3) q = (p : Int) ∧ e ≤ sp ∧ lwC (I (rt + 8 + 1)) (I (rt + 8 + 2)) p (lw q).1 (lw q).2 e) ∧ ∀ c, c < 36 → I (rt + 6) c = 0 ∧ I (rt + 7) c = 0
def tlQ (K : Nat → Nat) (V : Nat → Int) (ps : Nat → Nat) (rt : Nat) (I : Nat → Nat → Int) (R : ER TX) (r : Int) (J : Nat → Nat → Int) : Prop := (∃ t' w h sd H S lw wr sp', R = eok t' (w, h, sd, H, S, lw, wr) ∧ r = 1 ∧ frT rt I J ∧ rdC K V ps (rt + 8) J t' sp' ∧ sp' ≤ 4 + t' ∧ txC rt J sp' w h sd H S lw ∧ J 29 6 = wrV ps wr) ∨ (∃ c q, R = efl c q ∧ r = 0 ∧ fltT ps rt I J c q)
section TT
variable {t d rt : Nat} {I J : Nat → Nat → Int} {K : Nat → Nat} {V : Nat → Int} {ps : Nat → Nat} {i sp : Nat} {wr : Option Nat} {Q : Int → (Nat → Nat → Int) → Prop}
theorem w_two (ht : rt ∈ [3, 16]) (hv : kvOK K V ps) (hR : rdC K V ps (rt + 8) I i sp) (hs : sp ≤ 404) (hw : I 29 6 = wrV ps wr) {lo hi : Int} (h1 : 0 ≤ lo ∧ lo ≤ 9999) (h2 : 0 ≤ hi ∧ hi ≤ 9999) {F : jMem → Option (Int × jMem)} (hF : ∀ J wr1 wr2, numR K V lo hi i wr = eok (i + 1) wr1 → numR K V lo hi (i + 1) wr1 = eok (i + 2) wr2 → K i = 3 → K (i + 1) = 3 → frNb (rt + 8) I J → rdC K V ps (rt + 8) J (i + 2) sp → J 29 6 = wrV ps wr2 → wm t d rt (F (mm t d rt J)) Q) (hB : ∀ J c q, (bnd (numR K V lo hi i wr) fun _ wr1 => numR K V lo hi (i + 1) wr1) = efl c q → fltT ps rt I J c q → Q 0 J) : wm t d rt (jbd (f_X3_takeNumber 29 lo hi (mm t d rt I)) fun v1 M2 => if jd_wr v1 = 0 then (jm_z 0 M2) else (jcall 3 M2 29 (f_X3_takeNumber 29 lo hi M2) fun v3 M4 => if jd_wr v3 = 0 then (jm_z 0 M4) else F M4)) Q := by
  refine wm_b (w_number ht hv hR hs hw h1 h2) (fun r J1 hJ1 => ?_)
  rcases hJ1 with ⟨wr1, e1, k1, rfl, f1, r1, w1⟩ | ⟨c, q, e1, rfl, f1⟩
  · (repeat (first | (with_reducible apply wm_o; focus (simp (disch := omega) only [wr_id, Int.toNat_natCast, Int.reduceToNat, tn_lk, tn_kl, if_pos, if_neg, ↓reduceIte, and_self, and_true, true_and, FReader]; with_reducible rfl)) | (with_reducible apply wm_q) | (with_reducible apply wm_c; focus (first | assumption | decide +kernel)) | (with_reducible apply wm_d; focus (simp (disch := omega) only [wr_id, Int.toNat_natCast, Int.reduceToNat, tn_lk, tn_kl, if_pos, if_neg, ↓reduceIte, and_self, and_true, true_and, FReader]; with_reducible rfl)) | (with_reducible apply wm_t; focus (first | omega | (simp (disch := omega) only [wr_id, FReader]; omega) | (simp (disch := omega) only [wr_id, FReader]; done))) | (with_reducible apply wm_f; focus (first | omega | (simp (disch := omega) only [wr_id, FReader]; omega) | (simp (disch := omega) only [wr_id, FReader]; done)))))
    refine wm_b (w_number ht hv r1 hs w1 h1 h2) (fun r J2 hJ2 => ?_)
    rcases hJ2 with ⟨wr2, e2, k2, rfl, f2, r2, w2⟩ | ⟨c, q, e2, rfl, f2⟩
    · (repeat (first | (with_reducible apply wm_o; focus (simp (disch := omega) only [wr_id, Int.toNat_natCast, Int.reduceToNat, tn_lk, tn_kl, if_pos, if_neg, ↓reduceIte, and_self, and_true, true_and]; with_reducible rfl)) | (with_reducible apply wm_q) | (with_reducible apply wm_c; focus (first | assumption | decide +kernel)) | (with_reducible apply wm_d; focus (simp (disch := omega) only [wr_id, Int.toNat_natCast, Int.reduceToNat, tn_lk, tn_kl, if_pos, if_neg, ↓reduceIte, and_self, and_true, true_and]; with_reducible rfl)) | (with_reducible apply wm_t; focus (first | omega | (simp (disch := omega) only [wr_id]; omega) | (simp (disch := omega) only [wr_id]; done))) | (with_reducible apply wm_f; focus (first | omega | (simp (disch := omega) only [wr_id]; omega) | (simp (disch := omega) only [wr_id]; done)))))
      exact hF J2 wr1 wr2 e1 e2 k1 k2 (frNb_trans f1 f2) r2 w2
    · (repeat (first | (with_reducible apply wm_o; focus (simp (disch := omega) only [wr_id, Int.toNat_natCast, Int.reduceToNat, tn_lk, tn_kl, if_pos, if_neg, ↓reduceIte, and_self, and_true, true_and]; with_reducible rfl)) | (with_reducible apply wm_q) | (with_reducible apply wm_c; focus (first | assumption | decide +kernel)) | (with_reducible apply wm_d; focus (simp (disch := omega) only [wr_id, Int.toNat_natCast, Int.reduceToNat, tn_lk, tn_kl, if_pos, if_neg, ↓reduceIte, and_self, and_true, true_and]; with_reducible rfl)) | (with_reducible apply wm_t; focus (first | omega | (simp (disch := omega) only [wr_id]; omega) | (simp (disch := omega) only [wr_id]; done))) | (with_reducible apply wm_f; focus (first | omega | (simp (disch := omega) only [wr_id]; omega) | (simp (disch := omega) only [wr_id]; done)))))
      exact wm_z0 (hB J2 c q (by rw [e1, bnd_ok]; exact e2) (fltT_T (frT_Nb f1) f2))
  · (repeat (first | (with_reducible apply wm_o; focus (simp (disch := omega) only [wr_id, Int.toNat_natCast, Int.reduceToNat, tn_lk, tn_kl, if_pos, if_neg, ↓reduceIte, and_self, and_true, true_and]; with_reducible rfl)) | (with_reducible apply wm_q) | (with_reducible apply wm_c; focus (first | assumption | decide +kernel)) | (with_reducible apply wm_d; focus (simp (disch := omega) only [wr_id, Int.toNat_natCast, Int.reduceToNat, tn_lk, tn_kl, if_pos, if_neg, ↓reduceIte, and_self, and_true, true_and]; with_reducible rfl)) | (with_reducible apply wm_t; focus (first | omega | (simp (disch := omega) only [wr_id]; omega) | (simp (disch := omega) only [wr_id]; done))) | (with_reducible apply wm_f; focus (first | omega | (simp (disch := omega) only [wr_id]; omega) | (simp (disch := omega) only [wr_id]; done)))))
    exact wm_z0 (hB J1 c q (by rw [e1, bnd_fl]) f1)
theorem tx_frm {sp : Nat} {w h sd : Int} {H : TH} {S : TS} {lw : Nat → LW} (hf : frNb (rt + 8) I J) (ht : rt ∈ [3, 16]) (hx : txC rt I sp w h sd H S lw) : txC rt J sp w h sd H S lw := by
  have : rt = 3 ∨ rt = 16 := by simpa using ht
  unfold txC at hx ⊢
  rw [hf rt (by omega) (by omega), hf (rt + 1) (by omega) (by omega), hf (rt + 2) (by omega) (by omega), hf (rt + 3) (by omega) (by omega), hf (rt + 4) (by omega) (by omega), hf (rt + 5) (by omega) (by omega), hf (rt + 6) (by omega) (by omega), hf (rt + 7) (by omega) (by omega), hf (rt + 8 + 1) (by omega) (by omega), hf (rt + 8 + 2) (by omega) (by omega), hf (rt + 8 + 3) (by omega) (by omega)]
  exact hx
theorem frT_up {a j : Nat} {v : Int} (h : frT rt I J) (ha : rt ≤ a ∧ a ≤ rt + 11) : frT rt I (up J a j v) := fun x b1 b2 => by
  rw [up_ne (by omega)]; exact h x b1 b2
/-- the ';' behind a tell -/
theorem w_semi (ht : rt ∈ [3, 16]) (hv : kvOK K V ps) (hR : rdC K V ps (rt + 8) J i sp) (hs : sp ≤ 4 + i) {w h sd : Int} {H : TH} {S : TS} {lw : Nat → LW} (hf : frT rt I J) (hx : txC rt J sp w h sd H S lw) (hw : J 29 6 = wrV ps wr) {R : ER TX} (hRR : R = bnd (tokR K 10 i) fun t' _ => eok t' (w, h, sd, H, S, lw, wr)) : wm t d rt (jbd (f_X3_acceptOf 29 10 (mm t d rt J)) fun v6 M7 => if jd_wr v6 = 0 then (jm_z 0 M7) else (jm_z 1 M7)) (fun r J => tlQ K V ps rt I R r J) := by
  have hl : rt + 8 = 11 ∨ rt + 8 = 24 := by
    have : rt = 3 ∨ rt = 16 := by simpa using ht
    omega
  have li := rd_i hR
  refine wm_b (w_acceptOf hl hv hR (by omega) (k := 10) (by decide) (by decide)) (fun r J2 hJ2 => ?_)
  unfold tokR at hRR
  rcases hJ2 with ⟨z1, z2, rfl, b1, b2, b3, b4⟩ | ⟨z1, z2, rfl, b1⟩ | ⟨z1, rfl, b1⟩
  · rw [if_pos z1, if_pos z2, bnd_ok] at hRR
    (repeat (first | (with_reducible apply wm_o; focus (simp (disch := omega) only [wr_id, Int.toNat_natCast, Int.reduceToNat, tn_lk, tn_kl, if_pos, if_neg, ↓reduceIte, and_self, and_true, true_and]; with_reducible rfl)) | (with_reducible apply wm_q) | (with_reducible apply wm_c; focus (first | assumption | decide +kernel)) | (with_reducible apply wm_d; focus (simp (disch := omega) only [wr_id, Int.toNat_natCast, Int.reduceToNat, tn_lk, tn_kl, if_pos, if_neg, ↓reduceIte, and_self, and_true, true_and]; with_reducible rfl)) | (with_reducible apply wm_t; focus (first | omega | (simp (disch := omega) only [wr_id]; omega) | (simp (disch := omega) only [wr_id]; done))) | (with_reducible apply wm_f; focus (first | omega | (simp (disch := omega) only [wr_id]; omega) | (simp (disch := omega) only [wr_id]; done)))))
    have f2 := frNb_P b1 b3 b4
    refine wm_z1 (Or.inl ⟨i + 1, w, h, sd, H, S, lw, wr, sp, hRR, rfl, frT_trans hf (frT_Nb f2), b2, by omega, tx_frm f2 ht hx, ?_⟩)
    rw [b1.2 6 (by decide) (by decide) (by decide) (by decide) (by decide)]; exact hw
  · rw [if_pos z1, if_neg z2, bnd_fl] at hRR
    (repeat (first | (with_reducible apply wm_o; focus (simp (disch := omega) only [wr_id, Int.toNat_natCast, Int.reduceToNat, tn_lk, tn_kl, if_pos, if_neg, ↓reduceIte, and_self, and_true, true_and]; with_reducible rfl)) | (with_reducible apply wm_q) | (with_reducible apply wm_c; focus (first | assumption | decide +kernel)) | (with_reducible apply wm_d; focus (simp (disch := omega) only [wr_id, Int.toNat_natCast, Int.reduceToNat, tn_lk, tn_kl, if_pos, if_neg, ↓reduceIte, and_self, and_true, true_and]; with_reducible rfl)) | (with_reducible apply wm_t; focus (first | omega | (simp (disch := omega) only [wr_id]; omega) | (simp (disch := omega) only [wr_id]; done))) | (with_reducible apply wm_f; focus (first | omega | (simp (disch := omega) only [wr_id]; omega) | (simp (disch := omega) only [wr_id]; done)))))
    exact wm_z0 (Or.inr ⟨2, i, hRR, rfl, fltT_C hf b1⟩)
  · rw [if_neg z1, bnd_fl] at hRR
    (repeat (first | (with_reducible apply wm_o; focus (simp (disch := omega) only [wr_id, Int.toNat_natCast, Int.reduceToNat, tn_lk, tn_kl, if_pos, if_neg, ↓reduceIte, and_self, and_true, true_and]; with_reducible rfl)) | (with_reducible apply wm_q) | (with_reducible apply wm_c; focus (first | assumption | decide +kernel)) | (with_reducible apply wm_d; focus (simp (disch := omega) only [wr_id, Int.toNat_natCast, Int.reduceToNat, tn_lk, tn_kl, if_pos, if_neg, ↓reduceIte, and_self, and_true, true_and]; with_reducible rfl)) | (with_reducible apply wm_t; focus (first | omega | (simp (disch := omega) only [wr_id]; omega) | (simp (disch := omega) only [wr_id]; done))) | (with_reducible apply wm_f; focus (first | omega | (simp (disch := omega) only [wr_id]; omega) | (simp (disch := omega) only [wr_id]; done)))))
    exact wm_z0 (Or.inr ⟨1, i, hRR, rfl, fltT_C hf b1⟩)
theorem numR_ok {lo hi : Int} {wr' : Option Nat} {t' : Nat} (h : numR K V lo hi i wr = eok t' wr') : t' = i + 1 ∧ wr' = wrN V lo hi i wr ∧ K i = 3 := by
  unfold numR at h
  by_cases c : K i = 3
  · rw [if_pos c] at h
    by_cases c2 : i < 400
    · rw [if_pos c2] at h
      obtain ⟨e1, e2⟩ := eok_inj h
      exact ⟨e1.symm, e2.symm, c⟩
    · rw [if_neg c2] at h
      exact (eok_fl h.symm).elim
  · rw [if_neg c] at h
    exact (eok_fl h.symm).elim
theorem bnd2_fl {α β γ : Type} {x : ER α} {f : Nat → α → ER β} {g : Nat → α → ER γ} {g' : Nat → β → ER γ} {c q : Nat} (h : bnd x f = efl c q) (hg : ∀ t a, g t a = bnd (f t a) g') : bnd x g = efl c q := by
  rcases er_cases x with ⟨c', q', e'⟩ | ⟨t', a', e'⟩
  · rw [e', bnd_fl] at h
    rw [e', bnd_fl]
    obtain ⟨rfl, rfl⟩ := efl_inj h
    rfl
  · rw [e', bnd_ok] at h
    rw [e', bnd_ok, hg, h, bnd_fl]
theorem tok_eq {α : Type} {k : Nat} {x : α} {t' : Nat} (ht' : t' = i + 1) : bnd (tokR K k i) (fun _ _ => eok t' x) = bnd (tokR K k i) (fun t' _ => eok t' x) := by
  unfold tokR
  rw [ht']
  by_cases z1 : K i = k
  · rw [if_pos z1]
    by_cases z2 : i < 400
    · rw [if_pos z2]; rfl
    · rw [if_neg z2]; rfl
  · rw [if_neg z1]; rfl
theorem q_addHole (ht : rt ∈ [3, 16]) {n : Nat} {x y : Int} (h3 : J rt 3 = (n : Int)) (hn : n < 12) : f_X8_addHole rt x y (mm t d rt J) = some (0, mm t d rt (up (up (up J (rt + 1) n x) (rt + 2) n y) rt 3 ((n : Int) + 1))) := by
  have u1 : up J (rt + 1) n x rt 3 = (n : Int) := by rw [up_ne (by omega)]; exact h3
  have u2 : up (up J (rt + 1) n x) (rt + 2) n y rt 3 = (n : Int) := by rw [up_ne (by omega)]; exact u1
  apply wm_eq
  unfold f_X8_addHole
  (repeat (first | (with_reducible apply wm_o; focus (simp (disch := omega) only [wr_id, Int.toNat_natCast, Int.reduceToNat, tn_lk, tn_kl, if_pos, if_neg, ↓reduceIte, and_self, and_true, true_and, FText ht, h3, u1, u2]; with_reducible rfl)) | (with_reducible apply wm_q) | (with_reducible apply wm_c; focus (first | assumption | decide +kernel)) | (with_reducible apply wm_d; focus (simp (disch := omega) only [wr_id, Int.toNat_natCast, Int.reduceToNat, tn_lk, tn_kl, if_pos, if_neg, ↓reduceIte, and_self, and_true, true_and, FText ht, h3, u1, u2]; with_reducible rfl)) | (with_reducible apply wm_t; focus (first | omega | (simp (disch := omega) only [wr_id, FText ht, h3, u1, u2]; omega) | (simp (disch := omega) only [wr_id, FText ht, h3, u1, u2]; done))) | (with_reducible apply wm_f; focus (first | omega | (simp (disch := omega) only [wr_id, FText ht, h3, u1, u2]; omega) | (simp (disch := omega) only [wr_id, FText ht, h3, u1, u2]; done)))))
  exact wm_r ⟨rfl, rfl⟩
theorem q_addStone (ht : rt ∈ [3, 16]) {n : Nat} {x y z : Int} (h3 : J rt 4 = (n : Int)) (hn : n < 18) : f_X8_addStone rt x y z (mm t d rt J) = some (0, mm t d rt (up (up (up (up J (rt + 3) n x) (rt + 4) n y) (rt + 5) n z) rt 4 ((n : Int) + 1))) := by
  have u1 : up J (rt + 3) n x rt 4 = (n : Int) := by rw [up_ne (by omega)]; exact h3
  have u2 : up (up J (rt + 3) n x) (rt + 4) n y rt 4 = (n : Int) := by rw [up_ne (by omega)]; exact u1
  have u3 : up (up (up J (rt + 3) n x) (rt + 4) n y) (rt + 5) n z rt 4 = (n : Int) := by rw [up_ne (by omega)]; exact u2
  apply wm_eq
  unfold f_X8_addStone
  (repeat (first | (with_reducible apply wm_o; focus (simp (disch := omega) only [wr_id, Int.toNat_natCast, Int.reduceToNat, tn_lk, tn_kl, if_pos, if_neg, ↓reduceIte, and_self, and_true, true_and, FText ht, h3, u1, u2, u3]; with_reducible rfl)) | (with_reducible apply wm_q) | (with_reducible apply wm_c; focus (first | assumption | decide +kernel)) | (with_reducible apply wm_d; focus (simp (disch := omega) only [wr_id, Int.toNat_natCast, Int.reduceToNat, tn_lk, tn_kl, if_pos, if_neg, ↓reduceIte, and_self, and_true, true_and, FText ht, h3, u1, u2, u3]; with_reducible rfl)) | (with_reducible apply wm_t; focus (first | omega | (simp (disch := omega) only [wr_id, FText ht, h3, u1, u2, u3]; omega) | (simp (disch := omega) only [wr_id, FText ht, h3, u1, u2, u3]; done))) | (with_reducible apply wm_f; focus (first | omega | (simp (disch := omega) only [wr_id, FText ht, h3, u1, u2, u3]; omega) | (simp (disch := omega) only [wr_id, FText ht, h3, u1, u2, u3]; done)))))
  exact wm_r ⟨rfl, rfl⟩
theorem w_takeTell (ht : rt ∈ [3, 16]) (hv : kvOK K V ps) (hR : rdC K V ps (rt + 8) I i sp) (hs : sp ≤ 4 + i) {w h sd : Int} {H : TH} {S : TS} {lw : Nat → LW} (hx : txC rt I sp w h sd H S lw) (hw : I 29 6 = wrV ps wr) (hK : K i ≠ 0) : wm t d rt (f_X3_takeTell 29 (mm t d rt I)) (fun r J => tlQ K V ps rt I (tell1 K V i w h sd H S lw wr) r J) := by
  have rt3 : rt = 3 ∨ rt = 16 := by simpa using ht
  have hl : rt + 8 = 11 ∨ rt + 8 = 24 := by omega
  have kt8 : (K0 rt).1 = 8 ∧ rt < 418 := ⟨(FText_k _ ht).1, (FText_k _ ht).2.1⟩
  have hR' := hR
  obtain ⟨a1, a2, a3, a4, a5, a6, a7, a8, a9⟩ := hR
  have ki := (hv i).1
  obtain ⟨x0, x1, x2, x3, x4, x5, x6, x7, x8, x9, x10⟩ := hx
  have hx : txC rt I sp w h sd H S lw := ⟨x0, x1, x2, x3, x4, x5, x6, x7, x8, x9, x10⟩
  unfold f_X3_takeTell tell1
  have rm2 : ∀ {R : ER TX} J, R = efl 2 i → fltC ps (rt + 8) I J 2 i → tlQ K V ps rt I R 0 J := fun J e hf => Or.inr ⟨2, i, e, rfl, fltT_C (frT_refl _ _) hf⟩
  by_cases c1 : K i = 20
  · rw [if_pos c1]
    (repeat (first | (with_reducible apply wm_o; focus (simp (disch := omega) only [wr_id, Int.toNat_natCast, Int.reduceToNat, tn_lk, tn_kl, if_pos, if_neg, ↓reduceIte, and_self, and_true, true_and, FReader, a3]; with_reducible rfl)) | (with_reducible apply wm_q) | (with_reducible apply wm_c; focus (first | assumption | decide +kernel)) | (with_reducible apply wm_d; focus (simp (disch := omega) only [wr_id, Int.toNat_natCast, Int.reduceToNat, tn_lk, tn_kl, if_pos, if_neg, ↓reduceIte, and_self, and_true, true_and, FReader, a3]; with_reducible rfl)) | (with_reducible apply wm_t; focus (first | omega | (simp (disch := omega) only [wr_id, FReader, a3]; omega) | (simp (disch := omega) only [wr_id, FReader, a3]; done))) | (with_reducible apply wm_f; focus (first | omega | (simp (disch := omega) only [wr_id, FReader, a3]; omega) | (simp (disch := omega) only [wr_id, FReader, a3]; done)))))
    refine wm_b (w_accept hl hv hR' (by omega) (Or.inr rfl) hK) (fun r J1 hJ1 => ?_)
    rcases hJ1 with ⟨_, c4, rfl, d1, d2, d3, d4⟩ | ⟨c4, rfl, d1⟩
    · rw [if_pos c4]
      have f1 := frNb_P d1 d3 d4
      have w1 : J1 29 6 = wrV ps wr := by rw [d1.2 6 (by decide) (by decide) (by decide) (by decide) (by decide)]; exact hw
      (repeat (first | (with_reducible apply wm_o; focus (simp (disch := omega) only [wr_id, Int.toNat_natCast, Int.reduceToNat, tn_lk, tn_kl, if_pos, if_neg, ↓reduceIte, and_self, and_true, true_and, FReader]; with_reducible rfl)) | (with_reducible apply wm_q) | (with_reducible apply wm_c; focus (first | assumption | decide +kernel)) | (with_reducible apply wm_d; focus (simp (disch := omega) only [wr_id, Int.toNat_natCast, Int.reduceToNat, tn_lk, tn_kl, if_pos, if_neg, ↓reduceIte, and_self, and_true, true_and, FReader]; with_reducible rfl)) | (with_reducible apply wm_t; focus (first | omega | (simp (disch := omega) only [wr_id, FReader]; omega) | (simp (disch := omega) only [wr_id, FReader]; done))) | (with_reducible apply wm_f; focus (first | omega | (simp (disch := omega) only [wr_id, FReader]; omega) | (simp (disch := omega) only [wr_id, FReader]; done)))))
      have sq : wm t d rt (f_X3_takeSquare 29 (mm t d rt J1)) (fun r J => (∃ wr1 wr2, numR K V 2 6 (i + 1) wr = eok (i + 2) wr1 ∧ numR K V 2 6 (i + 2) wr1 = eok (i + 3) wr2 ∧ r = 1 ∧ frT rt I J ∧ rdC K V ps (rt + 8) J (i + 3) sp ∧ J 29 6 = wrV ps wr2 ∧ txC rt J sp (V (i + 1)) (V (i + 2)) sd H S lw) ∨ (∃ c q, (bnd (numR K V 2 6 (i + 1) wr) fun _ wr1 => numR K V 2 6 (i + 2) wr1) = efl c q ∧ r = 0 ∧ fltT ps rt I J c q)) := by
        unfold f_X3_takeSquare
        (repeat (first | (with_reducible apply wm_o; focus (simp (disch := omega) only [wr_id, Int.toNat_natCast, Int.reduceToNat, tn_lk, tn_kl, if_pos, if_neg, ↓reduceIte, and_self, and_true, true_and, FReader]; with_reducible rfl)) | (with_reducible apply wm_q) | (with_reducible apply wm_c; focus (first | assumption | decide +kernel)) | (with_reducible apply wm_d; focus (simp (disch := omega) only [wr_id, Int.toNat_natCast, Int.reduceToNat, tn_lk, tn_kl, if_pos, if_neg, ↓reduceIte, and_self, and_true, true_and, FReader]; with_reducible rfl)) | (with_reducible apply wm_t; focus (first | omega | (simp (disch := omega) only [wr_id, FReader]; omega) | (simp (disch := omega) only [wr_id, FReader]; done))) | (with_reducible apply wm_f; focus (first | omega | (simp (disch := omega) only [wr_id, FReader]; omega) | (simp (disch := omega) only [wr_id, FReader]; done)))))
        refine w_two ht hv d2 (by omega) w1 (by decide) (by decide) (fun J2 wr1 wr2 e1 e2 k1 k2 f2 r2 w2 => ?_) (fun J2 c q e f2 => Or.inr ⟨c, q, e, rfl, fltT_T (frT_Nb f1) f2⟩)
        have n2 := q_before (t := t) (d := d) (rt := rt) ht r2 (k := 2) (kz := 2) rfl (by omega) (by rw [show i + 1 + 2 - 2 = i + 1 by omega]; exact k1)
        rw [show i + 1 + 2 - 2 = i + 1 by omega] at n2
        have r3 : rdC K V ps (rt + 8) (up J2 rt 0 (V (i + 1))) (i + 1 + 2) sp := rd_up (by omega) (by omega) (by omega) (by omega) (by omega) r2
        have n1 := q_before (t := t) (d := d) (rt := rt) ht r3 (k := 1) (kz := 1) rfl (by omega) (by rw [show i + 1 + 2 - 1 = i + 2 by omega]; exact k2)
        rw [show i + 1 + 2 - 1 = i + 2 by omega] at n1
        (repeat (first | (with_reducible apply wm_o; focus (simp (disch := omega) only [wr_id, Int.toNat_natCast, Int.reduceToNat, tn_lk, tn_kl, if_pos, if_neg, ↓reduceIte, and_self, and_true, true_and, FReader, FText ht, n2, n1]; with_reducible rfl)) | (with_reducible apply wm_q) | (with_reducible apply wm_c; focus (first | assumption | decide +kernel)) | (with_reducible apply wm_d; focus (simp (disch := omega) only [wr_id, Int.toNat_natCast, Int.reduceToNat, tn_lk, tn_kl, if_pos, if_neg, ↓reduceIte, and_self, and_true, true_and, FReader, FText ht, n2, n1]; with_reducible rfl)) | (with_reducible apply wm_t; focus (first | omega | (simp (disch := omega) only [wr_id, FReader, FText ht, n2, n1]; omega) | (simp (disch := omega) only [wr_id, FReader, FText ht, n2, n1]; done))) | (with_reducible apply wm_f; focus (first | omega | (simp (disch := omega) only [wr_id, FReader, FText ht, n2, n1]; omega) | (simp (disch := omega) only [wr_id, FReader, FText ht, n2, n1]; done)))))
        have fz : frNb (rt + 8) I J2 := frNb_trans f1 f2
        refine wm_z1 (Or.inl ⟨wr1, wr2, e1, e2, rfl, frT_up (frT_up (frT_Nb fz) (by omega)) (by omega), rd_up (by omega) (by omega) (by omega) (by omega) (by omega) r3, ?_, ?_⟩)
        · rw [up_ne (by omega), up_ne (by omega)]; exact w2
        · obtain ⟨y0, y1, y2, y3, y4, y5, y6, y7, y8, y9, y10⟩ := tx_frm fz ht hx
          refine ⟨?_, ?_, ?_, ?_, ?_, y5, y6, ?_, ?_, ?_, ?_⟩
          · rw [up_g, if_neg (by decide), up_s]
          · rw [up_s]
          · rw [up_g, if_neg (by decide), up_g, if_neg (by decide)]; exact y2
          · rw [up_g, if_neg (by decide), up_g, if_neg (by decide)]; exact y3
          · rw [up_g, if_neg (by decide), up_g, if_neg (by decide)]; exact y4
          · rw [up_ne (by omega), up_ne (by omega), up_ne (by omega), up_ne (by omega)]; exact y7
          · rw [up_ne (by omega), up_ne (by omega), up_ne (by omega), up_ne (by omega), up_ne (by omega), up_ne (by omega)]; exact y8
          · rw [up_ne (by omega), up_ne (by omega), up_ne (by omega), up_ne (by omega), up_ne (by omega), up_ne (by omega)]; exact y9
          · rw [up_ne (by omega), up_ne (by omega), up_ne (by omega), up_ne (by omega)]; exact y10
      refine wm_b sq (fun r J3 hJ3 => ?_)
      rcases hJ3 with ⟨wr1, wr2, e1, e2, rfl, f3, r3, w3, x3'⟩ | ⟨c, q, e, rfl, f3⟩
      · (repeat (first | (with_reducible apply wm_o; focus (simp (disch := omega) only [wr_id, Int.toNat_natCast, Int.reduceToNat, tn_lk, tn_kl, if_pos, if_neg, ↓reduceIte, and_self, and_true, true_and, FReader]; with_reducible rfl)) | (with_reducible apply wm_q) | (with_reducible apply wm_c; focus (first | assumption | decide +kernel)) | (with_reducible apply wm_d; focus (simp (disch := omega) only [wr_id, Int.toNat_natCast, Int.reduceToNat, tn_lk, tn_kl, if_pos, if_neg, ↓reduceIte, and_self, and_true, true_and, FReader]; with_reducible rfl)) | (with_reducible apply wm_t; focus (first | omega | (simp (disch := omega) only [wr_id, FReader]; omega) | (simp (disch := omega) only [wr_id, FReader]; done))) | (with_reducible apply wm_f; focus (first | omega | (simp (disch := omega) only [wr_id, FReader]; omega) | (simp (disch := omega) only [wr_id, FReader]; done)))))
        refine w_semi ht hv r3 (by omega) f3 x3' w3 ?_
        rw [e1, bnd_ok, e2, bnd_ok]
        unfold tokR
        by_cases z1 : K (i + 3) = 10
        · rw [if_pos z1]
          by_cases z2 : i + 3 < 400
          · rw [if_pos z2]; rfl
          · rw [if_neg z2]; rfl
        · rw [if_neg z1]; rfl
      · (repeat (first | (with_reducible apply wm_o; focus (simp (disch := omega) only [wr_id, Int.toNat_natCast, Int.reduceToNat, tn_lk, tn_kl, if_pos, if_neg, ↓reduceIte, and_self, and_true, true_and]; with_reducible rfl)) | (with_reducible apply wm_q) | (with_reducible apply wm_c; focus (first | assumption | decide +kernel)) | (with_reducible apply wm_d; focus (simp (disch := omega) only [wr_id, Int.toNat_natCast, Int.reduceToNat, tn_lk, tn_kl, if_pos, if_neg, ↓reduceIte, and_self, and_true, true_and]; with_reducible rfl)) | (with_reducible apply wm_t; focus (first | omega | (simp (disch := omega) only [wr_id]; omega) | (simp (disch := omega) only [wr_id]; done))) | (with_reducible apply wm_f; focus (first | omega | (simp (disch := omega) only [wr_id]; omega) | (simp (disch := omega) only [wr_id]; done)))))
        refine wm_z0 (Or.inr ⟨c, q, ?_, rfl, f3⟩)
        rcases er_cases (numR K V 2 6 (i + 1) wr) with ⟨c', q', e'⟩ | ⟨t', a', e'⟩
        · rw [e', bnd_fl] at e ⊢
          obtain ⟨rfl, rfl⟩ := efl_inj e
          rfl
        · rw [e', bnd_ok] at e ⊢
          rw [e, bnd_fl]
    · rw [if_neg (fun z => c4 ⟨rfl, z⟩)]
      (repeat (first | (with_reducible apply wm_o; focus (simp (disch := omega) only [wr_id, Int.toNat_natCast, Int.reduceToNat, tn_lk, tn_kl, if_pos, if_neg, ↓reduceIte, and_self, and_true, true_and]; with_reducible rfl)) | (with_reducible apply wm_q) | (with_reducible apply wm_c; focus (first | assumption | decide +kernel)) | (with_reducible apply wm_d; focus (simp (disch := omega) only [wr_id, Int.toNat_natCast, Int.reduceToNat, tn_lk, tn_kl, if_pos, if_neg, ↓reduceIte, and_self, and_true, true_and]; with_reducible rfl)) | (with_reducible apply wm_t; focus (first | omega | (simp (disch := omega) only [wr_id]; omega) | (simp (disch := omega) only [wr_id]; done))) | (with_reducible apply wm_f; focus (first | omega | (simp (disch := omega) only [wr_id]; omega) | (simp (disch := omega) only [wr_id]; done)))))
      exact wm_z0 (rm2 J1 rfl d1)
  by_cases c2 : K i = 21
  · rw [if_neg c1, if_pos c2]
    by_cases hn : H.1 < 12
    · (repeat (first | (with_reducible apply wm_o; focus (simp (disch := omega) only [wr_id, Int.toNat_natCast, Int.reduceToNat, tn_lk, tn_kl, if_pos, if_neg, ↓reduceIte, and_self, and_true, true_and, FReader, FText ht, a3, x3]; with_reducible rfl)) | (with_reducible apply wm_q) | (with_reducible apply wm_c; focus (first | assumption | decide +kernel)) | (with_reducible apply wm_d; focus (simp (disch := omega) only [wr_id, Int.toNat_natCast, Int.reduceToNat, tn_lk, tn_kl, if_pos, if_neg, ↓reduceIte, and_self, and_true, true_and, FReader, FText ht, a3, x3]; with_reducible rfl)) | (with_reducible apply wm_t; focus (first | omega | (simp (disch := omega) only [wr_id, FReader, FText ht, a3, x3]; omega) | (simp (disch := omega) only [wr_id, FReader, FText ht, a3, x3]; done))) | (with_reducible apply wm_f; focus (first | omega | (simp (disch := omega) only [wr_id, FReader, FText ht, a3, x3]; omega) | (simp (disch := omega) only [wr_id, FReader, FText ht, a3, x3]; done)))))
      refine wm_b (w_accept hl hv hR' (by omega) (Or.inr rfl) hK) (fun r J1 hJ1 => ?_)
      rcases hJ1 with ⟨_, c4, rfl, d1, d2, d3, d4⟩ | ⟨c4, rfl, d1⟩
      · rw [if_pos ⟨hn, c4⟩]
        have f1 := frNb_P d1 d3 d4
        have w1 : J1 29 6 = wrV ps wr := by rw [d1.2 6 (by decide) (by decide) (by decide) (by decide) (by decide)]; exact hw
        (repeat (first | (with_reducible apply wm_o; focus (simp (disch := omega) only [wr_id, Int.toNat_natCast, Int.reduceToNat, tn_lk, tn_kl, if_pos, if_neg, ↓reduceIte, and_self, and_true, true_and, FReader]; with_reducible rfl)) | (with_reducible apply wm_q) | (with_reducible apply wm_c; focus (first | assumption | decide +kernel)) | (with_reducible apply wm_d; focus (simp (disch := omega) only [wr_id, Int.toNat_natCast, Int.reduceToNat, tn_lk, tn_kl, if_pos, if_neg, ↓reduceIte, and_self, and_true, true_and, FReader]; with_reducible rfl)) | (with_reducible apply wm_t; focus (first | omega | (simp (disch := omega) only [wr_id, FReader]; omega) | (simp (disch := omega) only [wr_id, FReader]; done))) | (with_reducible apply wm_f; focus (first | omega | (simp (disch := omega) only [wr_id, FReader]; omega) | (simp (disch := omega) only [wr_id, FReader]; done)))))
        have sq : wm t d rt (f_X3_takeHole 29 (mm t d rt J1)) (fun r J => (∃ wr1 wr2, numR K V 0 5 (i + 1) wr = eok (i + 2) wr1 ∧ numR K V 0 5 (i + 2) wr1 = eok (i + 3) wr2 ∧ r = 1 ∧ frT rt I J ∧ rdC K V ps (rt + 8) J (i + 3) sp ∧ J 29 6 = wrV ps wr2 ∧ txC rt J sp w h sd (H.1 + 1, rSet H.2.1 H.1 (V (i + 1)), rSet H.2.2 H.1 (V (i + 2))) S lw) ∨ (∃ c q, (bnd (numR K V 0 5 (i + 1) wr) fun _ wr1 => numR K V 0 5 (i + 2) wr1) = efl c q ∧ r = 0 ∧ fltT ps rt I J c q)) := by
          unfold f_X3_takeHole
          (repeat (first | (with_reducible apply wm_o; focus (simp (disch := omega) only [wr_id, Int.toNat_natCast, Int.reduceToNat, tn_lk, tn_kl, if_pos, if_neg, ↓reduceIte, and_self, and_true, true_and, FReader]; with_reducible rfl)) | (with_reducible apply wm_q) | (with_reducible apply wm_c; focus (first | assumption | decide +kernel)) | (with_reducible apply wm_d; focus (simp (disch := omega) only [wr_id, Int.toNat_natCast, Int.reduceToNat, tn_lk, tn_kl, if_pos, if_neg, ↓reduceIte, and_self, and_true, true_and, FReader]; with_reducible rfl)) | (with_reducible apply wm_t; focus (first | omega | (simp (disch := omega) only [wr_id, FReader]; omega) | (simp (disch := omega) only [wr_id, FReader]; done))) | (with_reducible apply wm_f; focus (first | omega | (simp (disch := omega) only [wr_id, FReader]; omega) | (simp (disch := omega) only [wr_id, FReader]; done)))))
          refine w_two ht hv d2 (by omega) w1 (by decide) (by decide) (fun J2 wr1 wr2 e1 e2 k1 k2 f2 r2 w2 => ?_) (fun J2 c q e f2 => Or.inr ⟨c, q, e, rfl, fltT_T (frT_Nb f1) f2⟩)
          have n2 := q_before (t := t) (d := d) (rt := rt) ht r2 (k := 2) (kz := 2) rfl (by omega) (by rw [show i + 1 + 2 - 2 = i + 1 by omega]; exact k1)
          rw [show i + 1 + 2 - 2 = i + 1 by omega] at n2
          have n1 := q_before (t := t) (d := d) (rt := rt) ht r2 (k := 1) (kz := 1) rfl (by omega) (by rw [show i + 1 + 2 - 1 = i + 2 by omega]; exact k2)
          rw [show i + 1 + 2 - 1 = i + 2 by omega] at n1
          have fz : frNb (rt + 8) I J2 := frNb_trans f1 f2
          have hx2 := tx_frm fz ht hx
          obtain ⟨y0, y1, y2, y3, y4, y5, y6, y7, y8, y9, y10⟩ := hx2
          have ah := q_addHole (t := t) (d := d) ht (x := V (i + 1)) (y := V (i + 2)) y3 hn
          (repeat (first | (with_reducible apply wm_o; focus (simp (disch := omega) only [wr_id, Int.toNat_natCast, Int.reduceToNat, tn_lk, tn_kl, if_pos, if_neg, ↓reduceIte, and_self, and_true, true_and, FReader, FText ht, n2, n1, ah]; with_reducible rfl)) | (with_reducible apply wm_q) | (with_reducible apply wm_c; focus (first | assumption | decide +kernel)) | (with_reducible apply wm_d; focus (simp (disch := omega) only [wr_id, Int.toNat_natCast, Int.reduceToNat, tn_lk, tn_kl, if_pos, if_neg, ↓reduceIte, and_self, and_true, true_and, FReader, FText ht, n2, n1, ah]; with_reducible rfl)) | (with_reducible apply wm_t; focus (first | omega | (simp (disch := omega) only [wr_id, FReader, FText ht, n2, n1, ah]; omega) | (simp (disch := omega) only [wr_id, FReader, FText ht, n2, n1, ah]; done))) | (with_reducible apply wm_f; focus (first | omega | (simp (disch := omega) only [wr_id, FReader, FText ht, n2, n1, ah]; omega) | (simp (disch := omega) only [wr_id, FReader, FText ht, n2, n1, ah]; done)))))
          refine wm_z1 (Or.inl ⟨wr1, wr2, e1, e2, rfl, frT_up (frT_up (frT_up (frT_Nb fz) (by omega)) (by omega)) (by omega), rd_up (by omega) (by omega) (by omega) (by omega) (by omega) (rd_up (by omega) (by omega) (by omega) (by omega) (by omega) (rd_up (by omega) (by omega) (by omega) (by omega) (by omega) r2)), ?_, ?_⟩)
          · rw [up_ne (by omega), up_ne (by omega), up_ne (by omega)]; exact w2
          · refine ⟨?_, ?_, ?_, ?_, ?_, by show H.1 + 1 ≤ 12; omega, y6, ?_, ?_, ?_, ?_⟩
            · rw [up_g, if_neg (by decide), up_ne (by omega), up_ne (by omega)]; exact y0
            · rw [up_g, if_neg (by decide), up_ne (by omega), up_ne (by omega)]; exact y1
            · rw [up_g, if_neg (by decide), up_ne (by omega), up_ne (by omega)]; exact y2
            · rw [up_s]; show _ = ((H.1 + 1 : Nat) : Int); omega
            · rw [up_g, if_neg (by decide), up_ne (by omega), up_ne (by omega)]; exact y4
            · intro k hk
              have hk : k < H.1 + 1 := hk
              rw [up_ne (by omega), up_ne (by omega), up_g, up_ne (by omega), up_g, up_ne (by omega)]
              show _ = rSet H.2.1 H.1 (V (i + 1)) k ∧ _ = rSet H.2.2 H.1 (V (i + 2)) k
              by_cases ek : k = H.1
              · rw [if_pos ek, if_pos ek, ek, rSet_s, rSet_s]; exact ⟨rfl, rfl⟩
              · rw [if_neg ek, if_neg ek, rSet_n ek, rSet_n ek]
                exact y7 k (by omega)
            · rw [up_ne (by omega), up_ne (by omega), up_ne (by omega), up_ne (by omega), up_ne (by omega), up_ne (by omega), up_ne (by omega), up_ne (by omega), up_ne (by omega)]; exact y8
            · rw [up_ne (by omega), up_ne (by omega), up_ne (by omega), up_ne (by omega), up_ne (by omega), up_ne (by omega), up_ne (by omega), up_ne (by omega), up_ne (by omega)]; exact y9
            · rw [up_ne (by omega), up_ne (by omega), up_ne (by omega), up_ne (by omega), up_ne (by omega), up_ne (by omega)]; exact y10
        refine wm_b sq (fun r J3 hJ3 => ?_)
        rcases hJ3 with ⟨wr1, wr2, e1, e2, rfl, f3, r3, w3, x3'⟩ | ⟨c, q, e, rfl, f3⟩
        · (repeat (first | (with_reducible apply wm_o; focus (simp (disch := omega) only [wr_id, Int.toNat_natCast, Int.reduceToNat, tn_lk, tn_kl, if_pos, if_neg, ↓reduceIte, and_self, and_true, true_and, FReader]; with_reducible rfl)) | (with_reducible apply wm_q) | (with_reducible apply wm_c; focus (first | assumption | decide +kernel)) | (with_reducible apply wm_d; focus (simp (disch := omega) only [wr_id, Int.toNat_natCast, Int.reduceToNat, tn_lk, tn_kl, if_pos, if_neg, ↓reduceIte, and_self, and_true, true_and, FReader]; with_reducible rfl)) | (with_reducible apply wm_t; focus (first | omega | (simp (disch := omega) only [wr_id, FReader]; omega) | (simp (disch := omega) only [wr_id, FReader]; done))) | (with_reducible apply wm_f; focus (first | omega | (simp (disch := omega) only [wr_id, FReader]; omega) | (simp (disch := omega) only [wr_id, FReader]; done)))))
          refine w_semi ht hv r3 (by omega) f3 x3' w3 ?_
          rw [e1, bnd_ok, e2, bnd_ok]
          exact tok_eq rfl
        · (repeat (first | (with_reducible apply wm_o; focus (simp (disch := omega) only [wr_id, Int.toNat_natCast, Int.reduceToNat, tn_lk, tn_kl, if_pos, if_neg, ↓reduceIte, and_self, and_true, true_and]; with_reducible rfl)) | (with_reducible apply wm_q) | (with_reducible apply wm_c; focus (first | assumption | decide +kernel)) | (with_reducible apply wm_d; focus (simp (disch := omega) only [wr_id, Int.toNat_natCast, Int.reduceToNat, tn_lk, tn_kl, if_pos, if_neg, ↓reduceIte, and_self, and_true, true_and]; with_reducible rfl)) | (with_reducible apply wm_t; focus (first | omega | (simp (disch := omega) only [wr_id]; omega) | (simp (disch := omega) only [wr_id]; done))) | (with_reducible apply wm_f; focus (first | omega | (simp (disch := omega) only [wr_id]; omega) | (simp (disch := omega) only [wr_id]; done)))))
          exact wm_z0 (Or.inr ⟨c, q, bnd2_fl e (fun _ _ => rfl), rfl, f3⟩)
      · rw [if_neg (fun z => c4 ⟨rfl, z.2⟩)]
        (repeat (first | (with_reducible apply wm_o; focus (simp (disch := omega) only [wr_id, Int.toNat_natCast, Int.reduceToNat, tn_lk, tn_kl, if_pos, if_neg, ↓reduceIte, and_self, and_true, true_and]; with_reducible rfl)) | (with_reducible apply wm_q) | (with_reducible apply wm_c; focus (first | assumption | decide +kernel)) | (with_reducible apply wm_d; focus (simp (disch := omega) only [wr_id, Int.toNat_natCast, Int.reduceToNat, tn_lk, tn_kl, if_pos, if_neg, ↓reduceIte, and_self, and_true, true_and]; with_reducible rfl)) | (with_reducible apply wm_t; focus (first | omega | (simp (disch := omega) only [wr_id]; omega) | (simp (disch := omega) only [wr_id]; done))) | (with_reducible apply wm_f; focus (first | omega | (simp (disch := omega) only [wr_id]; omega) | (simp (disch := omega) only [wr_id]; done)))))
        exact wm_z0 (rm2 J1 rfl d1)
    · (repeat (first | (with_reducible apply wm_o; focus (simp (disch := omega) only [wr_id, Int.toNat_natCast, Int.reduceToNat, tn_lk, tn_kl, if_pos, if_neg, ↓reduceIte, and_self, and_true, true_and, FReader, FText ht, a3, x3]; with_reducible rfl)) | (with_reducible apply wm_q) | (with_reducible apply wm_c; focus (first | assumption | decide +kernel)) | (with_reducible apply wm_d; focus (simp (disch := omega) only [wr_id, Int.toNat_natCast, Int.reduceToNat, tn_lk, tn_kl, if_pos, if_neg, ↓reduceIte, and_self, and_true, true_and, FReader, FText ht, a3, x3]; with_reducible rfl)) | (with_reducible apply wm_t; focus (first | omega | (simp (disch := omega) only [wr_id, FReader, FText ht, a3, x3]; omega) | (simp (disch := omega) only [wr_id, FReader, FText ht, a3, x3]; done))) | (with_reducible apply wm_f; focus (first | omega | (simp (disch := omega) only [wr_id, FReader, FText ht, a3, x3]; omega) | (simp (disch := omega) only [wr_id, FReader, FText ht, a3, x3]; done)))))
      refine wm_b (w_accept hl hv hR' (by omega) (Or.inl rfl) hK) (fun r J1 hJ1 => ?_)
      rcases hJ1 with ⟨z, _⟩ | ⟨c4, rfl, d1⟩
      · exact absurd z (by decide)
      · rw [if_neg (fun z => hn z.1)]
        (repeat (first | (with_reducible apply wm_o; focus (simp (disch := omega) only [wr_id, Int.toNat_natCast, Int.reduceToNat, tn_lk, tn_kl, if_pos, if_neg, ↓reduceIte, and_self, and_true, true_and]; with_reducible rfl)) | (with_reducible apply wm_q) | (with_reducible apply wm_c; focus (first | assumption | decide +kernel)) | (with_reducible apply wm_d; focus (simp (disch := omega) only [wr_id, Int.toNat_natCast, Int.reduceToNat, tn_lk, tn_kl, if_pos, if_neg, ↓reduceIte, and_self, and_true, true_and]; with_reducible rfl)) | (with_reducible apply wm_t; focus (first | omega | (simp (disch := omega) only [wr_id]; omega) | (simp (disch := omega) only [wr_id]; done))) | (with_reducible apply wm_f; focus (first | omega | (simp (disch := omega) only [wr_id]; omega) | (simp (disch := omega) only [wr_id]; done)))))
        exact wm_z0 (rm2 J1 rfl d1)
  by_cases c3 : K i = 22
  · rw [if_neg c1, if_neg c2, if_pos c3]
    by_cases hn : S.1 < 18
    · (repeat (first | (with_reducible apply wm_o; focus (simp (disch := omega) only [wr_id, Int.toNat_natCast, Int.reduceToNat, tn_lk, tn_kl, if_pos, if_neg, ↓reduceIte, and_self, and_true, true_and, FReader, FText ht, a3, x4]; with_reducible rfl)) | (with_reducible apply wm_q) | (with_reducible apply wm_c; focus (first | assumption | decide +kernel)) | (with_reducible apply wm_d; focus (simp (disch := omega) only [wr_id, Int.toNat_natCast, Int.reduceToNat, tn_lk, tn_kl, if_pos, if_neg, ↓reduceIte, and_self, and_true, true_and, FReader, FText ht, a3, x4]; with_reducible rfl)) | (with_reducible apply wm_t; focus (first | omega | (simp (disch := omega) only [wr_id, FReader, FText ht, a3, x4]; omega) | (simp (disch := omega) only [wr_id, FReader, FText ht, a3, x4]; done))) | (with_reducible apply wm_f; focus (first | omega | (simp (disch := omega) only [wr_id, FReader, FText ht, a3, x4]; omega) | (simp (disch := omega) only [wr_id, FReader, FText ht, a3, x4]; done)))))
      refine wm_b (w_accept hl hv hR' (by omega) (Or.inr rfl) hK) (fun r J1 hJ1 => ?_)
      rcases hJ1 with ⟨_, c4, rfl, d1, d2, d3, d4⟩ | ⟨c4, rfl, d1⟩
      · rw [if_pos ⟨hn, c4⟩]
        have f1 := frNb_P d1 d3 d4
        have w1 : J1 29 6 = wrV ps wr := by rw [d1.2 6 (by decide) (by decide) (by decide) (by decide) (by decide)]; exact hw
        (repeat (first | (with_reducible apply wm_o; focus (simp (disch := omega) only [wr_id, Int.toNat_natCast, Int.reduceToNat, tn_lk, tn_kl, if_pos, if_neg, ↓reduceIte, and_self, and_true, true_and, FReader]; with_reducible rfl)) | (with_reducible apply wm_q) | (with_reducible apply wm_c; focus (first | assumption | decide +kernel)) | (with_reducible apply wm_d; focus (simp (disch := omega) only [wr_id, Int.toNat_natCast, Int.reduceToNat, tn_lk, tn_kl, if_pos, if_neg, ↓reduceIte, and_self, and_true, true_and, FReader]; with_reducible rfl)) | (with_reducible apply wm_t; focus (first | omega | (simp (disch := omega) only [wr_id, FReader]; omega) | (simp (disch := omega) only [wr_id, FReader]; done))) | (with_reducible apply wm_f; focus (first | omega | (simp (disch := omega) only [wr_id, FReader]; omega) | (simp (disch := omega) only [wr_id, FReader]; done)))))
        have sq : wm t d rt (f_X3_takeStone 29 (mm t d rt J1)) (fun r J => (∃ wr1 wr2 wr3, numR K V 0 5 (i + 1) wr = eok (i + 2) wr1 ∧ numR K V 0 5 (i + 2) wr1 = eok (i + 3) wr2 ∧ numR K V 0 1 (i + 3) wr2 = eok (i + 4) wr3 ∧ r = 1 ∧ frT rt I J ∧ rdC K V ps (rt + 8) J (i + 4) sp ∧ J 29 6 = wrV ps wr3 ∧ txC rt J sp w h sd H (S.1 + 1, rSet S.2.1 S.1 (V (i + 1)), rSet S.2.2.1 S.1 (V (i + 2)), rSet S.2.2.2 S.1 (V (i + 3))) lw) ∨ (∃ c q, (bnd (numR K V 0 5 (i + 1) wr) fun _ wr1 => bnd (numR K V 0 5 (i + 2) wr1) fun _ wr2 => numR K V 0 1 (i + 3) wr2) = efl c q ∧ r = 0 ∧ fltT ps rt I J c q)) := by
          unfold f_X3_takeStone
          (repeat (first | (with_reducible apply wm_o; focus (simp (disch := omega) only [wr_id, Int.toNat_natCast, Int.reduceToNat, tn_lk, tn_kl, if_pos, if_neg, ↓reduceIte, and_self, and_true, true_and, FReader]; with_reducible rfl)) | (with_reducible apply wm_q) | (with_reducible apply wm_c; focus (first | assumption | decide +kernel)) | (with_reducible apply wm_d; focus (simp (disch := omega) only [wr_id, Int.toNat_natCast, Int.reduceToNat, tn_lk, tn_kl, if_pos, if_neg, ↓reduceIte, and_self, and_true, true_and, FReader]; with_reducible rfl)) | (with_reducible apply wm_t; focus (first | omega | (simp (disch := omega) only [wr_id, FReader]; omega) | (simp (disch := omega) only [wr_id, FReader]; done))) | (with_reducible apply wm_f; focus (first | omega | (simp (disch := omega) only [wr_id, FReader]; omega) | (simp (disch := omega) only [wr_id, FReader]; done)))))
          refine w_two ht hv d2 (by omega) w1 (by decide) (by decide) (fun J2 wr1 wr2 e1 e2 k1 k2 f2 r2 w2 => ?_) (fun J2 c q e f2 => Or.inr ⟨c, q, bnd2_fl e (fun _ _ => rfl), rfl, fltT_T (frT_Nb f1) f2⟩)
          (repeat (first | (with_reducible apply wm_o; focus (simp (disch := omega) only [wr_id, Int.toNat_natCast, Int.reduceToNat, tn_lk, tn_kl, if_pos, if_neg, ↓reduceIte, and_self, and_true, true_and, FReader]; with_reducible rfl)) | (with_reducible apply wm_q) | (with_reducible apply wm_c; focus (first | assumption | decide +kernel)) | (with_reducible apply wm_d; focus (simp (disch := omega) only [wr_id, Int.toNat_natCast, Int.reduceToNat, tn_lk, tn_kl, if_pos, if_neg, ↓reduceIte, and_self, and_true, true_and, FReader]; with_reducible rfl)) | (with_reducible apply wm_t; focus (first | omega | (simp (disch := omega) only [wr_id, FReader]; omega) | (simp (disch := omega) only [wr_id, FReader]; done))) | (with_reducible apply wm_f; focus (first | omega | (simp (disch := omega) only [wr_id, FReader]; omega) | (simp (disch := omega) only [wr_id, FReader]; done)))))
          refine wm_b (w_number ht hv r2 (by omega) w2 (lo := 0) (hi := 1) (by decide) (by decide)) (fun r J3 hJ3 => ?_)
          rcases hJ3 with ⟨wr3, e3, k3, rfl, f3, r3, w3⟩ | ⟨c, q, e3, rfl, f3⟩
          · have n3 := q_before (t := t) (d := d) (rt := rt) ht r3 (k := 3) (kz := 3) rfl (by omega) (by rw [show i + 1 + 2 + 1 - 3 = i + 1 by omega]; exact k1)
            rw [show i + 1 + 2 + 1 - 3 = i + 1 by omega] at n3
            have n2 := q_before (t := t) (d := d) (rt := rt) ht r3 (k := 2) (kz := 2) rfl (by omega) (by rw [show i + 1 + 2 + 1 - 2 = i + 2 by omega]; exact k2)
            rw [show i + 1 + 2 + 1 - 2 = i + 2 by omega] at n2
            have n1 := q_before (t := t) (d := d) (rt := rt) ht r3 (k := 1) (kz := 1) rfl (by omega) (by rw [show i + 1 + 2 + 1 - 1 = i + 1 + 2 by omega]; exact k3)
            rw [show i + 1 + 2 + 1 - 1 = i + 3 by omega] at n1
            have fz : frNb (rt + 8) I J3 := frNb_trans (frNb_trans f1 f2) f3
            have hx2 := tx_frm fz ht hx
            obtain ⟨y0, y1, y2, y3, y4, y5, y6, y7, y8, y9, y10⟩ := hx2
            have ah := q_addStone (t := t) (d := d) ht (x := V (i + 1)) (y := V (i + 2)) (z := V (i + 3)) y4 hn
            (repeat (first | (with_reducible apply wm_o; focus (simp (disch := omega) only [wr_id, Int.toNat_natCast, Int.reduceToNat, tn_lk, tn_kl, if_pos, if_neg, ↓reduceIte, and_self, and_true, true_and, FReader, FText ht, n3, n2, n1, ah]; with_reducible rfl)) | (with_reducible apply wm_q) | (with_reducible apply wm_c; focus (first | assumption | decide +kernel)) | (with_reducible apply wm_d; focus (simp (disch := omega) only [wr_id, Int.toNat_natCast, Int.reduceToNat, tn_lk, tn_kl, if_pos, if_neg, ↓reduceIte, and_self, and_true, true_and, FReader, FText ht, n3, n2, n1, ah]; with_reducible rfl)) | (with_reducible apply wm_t; focus (first | omega | (simp (disch := omega) only [wr_id, FReader, FText ht, n3, n2, n1, ah]; omega) | (simp (disch := omega) only [wr_id, FReader, FText ht, n3, n2, n1, ah]; done))) | (with_reducible apply wm_f; focus (first | omega | (simp (disch := omega) only [wr_id, FReader, FText ht, n3, n2, n1, ah]; omega) | (simp (disch := omega) only [wr_id, FReader, FText ht, n3, n2, n1, ah]; done)))))
            refine wm_z1 (Or.inl ⟨wr1, wr2, wr3, e1, e2, e3, rfl, frT_up (frT_up (frT_up (frT_up (frT_Nb fz) (by omega)) (by omega)) (by omega)) (by omega), rd_up (by omega) (by omega) (by omega) (by omega) (by omega) (rd_up (by omega) (by omega) (by omega) (by omega) (by omega) (rd_up (by omega) (by omega) (by omega) (by omega) (by omega) (rd_up (by omega) (by omega) (by omega) (by omega) (by omega) r3))), ?_, ?_⟩)
            · rw [up_ne (by omega), up_ne (by omega), up_ne (by omega), up_ne (by omega)]; exact w3
            · refine ⟨?_, ?_, ?_, ?_, ?_, y5, by show S.1 + 1 ≤ 18; omega, ?_, ?_, ?_, ?_⟩
              · rw [up_g, if_neg (by decide), up_ne (by omega), up_ne (by omega), up_ne (by omega)]; exact y0
              · rw [up_g, if_neg (by decide), up_ne (by omega), up_ne (by omega), up_ne (by omega)]; exact y1
              · rw [up_g, if_neg (by decide), up_ne (by omega), up_ne (by omega), up_ne (by omega)]; exact y2
              · rw [up_g, if_neg (by decide), up_ne (by omega), up_ne (by omega), up_ne (by omega)]; exact y3
              · rw [up_s]; show _ = ((S.1 + 1 : Nat) : Int); omega
              · rw [up_ne (by omega), up_ne (by omega), up_ne (by omega), up_ne (by omega), up_ne (by omega), up_ne (by omega), up_ne (by omega), up_ne (by omega)]; exact y7
              · intro k hk
                have hk : k < S.1 + 1 := hk
                rw [up_ne (by omega), up_ne (by omega), up_ne (by omega), up_g, up_ne (by omega), up_ne (by omega), up_g, up_ne (by omega), up_ne (by omega), up_g, up_ne (by omega), up_ne (by omega)]
                show _ = rSet S.2.1 S.1 (V (i + 1)) k ∧ _ = rSet S.2.2.1 S.1 (V (i + 2)) k ∧ _ = rSet S.2.2.2 S.1 (V (i + 3)) k
                by_cases ek : k = S.1
                · rw [if_pos ek, if_pos ek, if_pos ek, ek, rSet_s, rSet_s, rSet_s]; exact ⟨rfl, rfl, rfl⟩
                · rw [if_neg ek, if_neg ek, if_neg ek, rSet_n ek, rSet_n ek, rSet_n ek]
                  exact y8 k (by omega)
              · rw [up_ne (by omega), up_ne (by omega), up_ne (by omega), up_ne (by omega), up_ne (by omega), up_ne (by omega), up_ne (by omega), up_ne (by omega), up_ne (by omega), up_ne (by omega), up_ne (by omega), up_ne (by omega)]; exact y9
              · rw [up_ne (by omega), up_ne (by omega), up_ne (by omega), up_ne (by omega), up_ne (by omega), up_ne (by omega), up_ne (by omega), up_ne (by omega)]; exact y10
          · (repeat (first | (with_reducible apply wm_o; focus (simp (disch := omega) only [wr_id, Int.toNat_natCast, Int.reduceToNat, tn_lk, tn_kl, if_pos, if_neg, ↓reduceIte, and_self, and_true, true_and]; with_reducible rfl)) | (with_reducible apply wm_q) | (with_reducible apply wm_c; focus (first | assumption | decide +kernel)) | (with_reducible apply wm_d; focus (simp (disch := omega) only [wr_id, Int.toNat_natCast, Int.reduceToNat, tn_lk, tn_kl, if_pos, if_neg, ↓reduceIte, and_self, and_true, true_and]; with_reducible rfl)) | (with_reducible apply wm_t; focus (first | omega | (simp (disch := omega) only [wr_id]; omega) | (simp (disch := omega) only [wr_id]; done))) | (with_reducible apply wm_f; focus (first | omega | (simp (disch := omega) only [wr_id]; omega) | (simp (disch := omega) only [wr_id]; done)))))
            exact wm_z0 (Or.inr ⟨c, q, by rw [e1, bnd_ok, e2, bnd_ok]; exact e3, rfl, fltT_T (frT_trans (frT_Nb f1) (frT_Nb f2)) f3⟩)
        refine wm_b sq (fun r J3 hJ3 => ?_)
        rcases hJ3 with ⟨wr1, wr2, wr3, e1, e2, e3, rfl, f3, r3, w3, x3'⟩ | ⟨c, q, e, rfl, f3⟩
        · (repeat (first | (with_reducible apply wm_o; focus (simp (disch := omega) only [wr_id, Int.toNat_natCast, Int.reduceToNat, tn_lk, tn_kl, if_pos, if_neg, ↓reduceIte, and_self, and_true, true_and, FReader]; with_reducible rfl)) | (with_reducible apply wm_q) | (with_reducible apply wm_c; focus (first | assumption | decide +kernel)) | (with_reducible apply wm_d; focus (simp (disch := omega) only [wr_id, Int.toNat_natCast, Int.reduceToNat, tn_lk, tn_kl, if_pos, if_neg, ↓reduceIte, and_self, and_true, true_and, FReader]; with_reducible rfl)) | (with_reducible apply wm_t; focus (first | omega | (simp (disch := omega) only [wr_id, FReader]; omega) | (simp (disch := omega) only [wr_id, FReader]; done))) | (with_reducible apply wm_f; focus (first | omega | (simp (disch := omega) only [wr_id, FReader]; omega) | (simp (disch := omega) only [wr_id, FReader]; done)))))
          refine w_semi ht hv r3 (by omega) f3 x3' w3 ?_
          rw [e1, bnd_ok, e2, bnd_ok, e3, bnd_ok]
          exact tok_eq rfl
        · (repeat (first | (with_reducible apply wm_o; focus (simp (disch := omega) only [wr_id, Int.toNat_natCast, Int.reduceToNat, tn_lk, tn_kl, if_pos, if_neg, ↓reduceIte, and_self, and_true, true_and]; with_reducible rfl)) | (with_reducible apply wm_q) | (with_reducible apply wm_c; focus (first | assumption | decide +kernel)) | (with_reducible apply wm_d; focus (simp (disch := omega) only [wr_id, Int.toNat_natCast, Int.reduceToNat, tn_lk, tn_kl, if_pos, if_neg, ↓reduceIte, and_self, and_true, true_and]; with_reducible rfl)) | (with_reducible apply wm_t; focus (first | omega | (simp (disch := omega) only [wr_id]; omega) | (simp (disch := omega) only [wr_id]; done))) | (with_reducible apply wm_f; focus (first | omega | (simp (disch := omega) only [wr_id]; omega) | (simp (disch := omega) only [wr_id]; done)))))
          refine wm_z0 (Or.inr ⟨c, q, bnd2_fl e (g' := fun _ wr3 => bnd (tokR K 10 (i + 4)) fun _ _ => eok (i + 5) (w, h, sd, H, (S.1 + 1, rSet S.2.1 S.1 (V (i + 1)), rSet S.2.2.1 S.1 (V (i + 2)), rSet S.2.2.2 S.1 (V (i + 3))), lw, wr3)) (fun _ a => ?_), rfl, f3⟩)
          rcases er_cases (numR K V 0 5 (i + 2) a) with ⟨c', q', e'⟩ | ⟨t', a', e'⟩
          · rw [e']; rfl
          · rw [e']; rfl
      · rw [if_neg (fun z => c4 ⟨rfl, z.2⟩)]
        (repeat (first | (with_reducible apply wm_o; focus (simp (disch := omega) only [wr_id, Int.toNat_natCast, Int.reduceToNat, tn_lk, tn_kl, if_pos, if_neg, ↓reduceIte, and_self, and_true, true_and]; with_reducible rfl)) | (with_reducible apply wm_q) | (with_reducible apply wm_c; focus (first | assumption | decide +kernel)) | (with_reducible apply wm_d; focus (simp (disch := omega) only [wr_id, Int.toNat_natCast, Int.reduceToNat, tn_lk, tn_kl, if_pos, if_neg, ↓reduceIte, and_self, and_true, true_and]; with_reducible rfl)) | (with_reducible apply wm_t; focus (first | omega | (simp (disch := omega) only [wr_id]; omega) | (simp (disch := omega) only [wr_id]; done))) | (with_reducible apply wm_f; focus (first | omega | (simp (disch := omega) only [wr_id]; omega) | (simp (disch := omega) only [wr_id]; done)))))
        exact wm_z0 (rm2 J1 rfl d1)
    · (repeat (first | (with_reducible apply wm_o; focus (simp (disch := omega) only [wr_id, Int.toNat_natCast, Int.reduceToNat, tn_lk, tn_kl, if_pos, if_neg, ↓reduceIte, and_self, and_true, true_and, FReader, FText ht, a3, x4]; with_reducible rfl)) | (with_reducible apply wm_q) | (with_reducible apply wm_c; focus (first | assumption | decide +kernel)) | (with_reducible apply wm_d; focus (simp (disch := omega) only [wr_id, Int.toNat_natCast, Int.reduceToNat, tn_lk, tn_kl, if_pos, if_neg, ↓reduceIte, and_self, and_true, true_and, FReader, FText ht, a3, x4]; with_reducible rfl)) | (with_reducible apply wm_t; focus (first | omega | (simp (disch := omega) only [wr_id, FReader, FText ht, a3, x4]; omega) | (simp (disch := omega) only [wr_id, FReader, FText ht, a3, x4]; done))) | (with_reducible apply wm_f; focus (first | omega | (simp (disch := omega) only [wr_id, FReader, FText ht, a3, x4]; omega) | (simp (disch := omega) only [wr_id, FReader, FText ht, a3, x4]; done)))))
      refine wm_b (w_accept hl hv hR' (by omega) (Or.inl rfl) hK) (fun r J1 hJ1 => ?_)
      rcases hJ1 with ⟨z, _⟩ | ⟨c4, rfl, d1⟩
      · exact absurd z (by decide)
      · rw [if_neg (fun z => hn z.1)]
        (repeat (first | (with_reducible apply wm_o; focus (simp (disch := omega) only [wr_id, Int.toNat_natCast, Int.reduceToNat, tn_lk, tn_kl, if_pos, if_neg, ↓reduceIte, and_self, and_true, true_and]; with_reducible rfl)) | (with_reducible apply wm_q) | (with_reducible apply wm_c; focus (first | assumption | decide +kernel)) | (with_reducible apply wm_d; focus (simp (disch := omega) only [wr_id, Int.toNat_natCast, Int.reduceToNat, tn_lk, tn_kl, if_pos, if_neg, ↓reduceIte, and_self, and_true, true_and]; with_reducible rfl)) | (with_reducible apply wm_t; focus (first | omega | (simp (disch := omega) only [wr_id]; omega) | (simp (disch := omega) only [wr_id]; done))) | (with_reducible apply wm_f; focus (first | omega | (simp (disch := omega) only [wr_id]; omega) | (simp (disch := omega) only [wr_id]; done)))))
        exact wm_z0 (rm2 J1 rfl d1)
  by_cases c5 : 23 ≤ K i ∧ K i ≤ 25
  · rw [if_neg c1, if_neg c2, if_neg c3, if_pos c5]
    (repeat (first | (with_reducible apply wm_o; focus (simp (disch := omega) only [wr_id, Int.toNat_natCast, Int.reduceToNat, tn_lk, tn_kl, if_pos, if_neg, ↓reduceIte, and_self, and_true, true_and, FReader, a3]; with_reducible rfl)) | (with_reducible apply wm_q) | (with_reducible apply wm_c; focus (first | assumption | decide +kernel)) | (with_reducible apply wm_d; focus (simp (disch := omega) only [wr_id, Int.toNat_natCast, Int.reduceToNat, tn_lk, tn_kl, if_pos, if_neg, ↓reduceIte, and_self, and_true, true_and, FReader, a3]; with_reducible rfl)) | (with_reducible apply wm_t; focus (first | omega | (simp (disch := omega) only [wr_id, FReader, a3]; omega) | (simp (disch := omega) only [wr_id, FReader, a3]; done))) | (with_reducible apply wm_f; focus (first | omega | (simp (disch := omega) only [wr_id, FReader, a3]; omega) | (simp (disch := omega) only [wr_id, FReader, a3]; done)))))
    refine wm_b (w_accept hl hv hR' (by omega) (Or.inr rfl) hK) (fun r J1 hJ1 => ?_)
    rcases hJ1 with ⟨_, c4, rfl, d1, d2, d3, d4⟩ | ⟨c4, rfl, d1⟩
    · rw [if_pos c4]
      have f1 := frNb_P d1 d3 d4
      have w1 : J1 29 6 = wrV ps wr := by rw [d1.2 6 (by decide) (by decide) (by decide) (by decide) (by decide)]; exact hw
      have e23 : (K i : Int) - 23 = ((K i - 23 : Nat) : Int) := by omega
      (repeat (first | (with_reducible apply wm_o; focus (simp (disch := omega) only [wr_id, Int.toNat_natCast, Int.reduceToNat, tn_lk, tn_kl, if_pos, if_neg, ↓reduceIte, and_self, and_true, true_and, FReader]; with_reducible rfl)) | (with_reducible apply wm_q) | (with_reducible apply wm_c; focus (first | assumption | decide +kernel)) | (with_reducible apply wm_d; focus (simp (disch := omega) only [wr_id, Int.toNat_natCast, Int.reduceToNat, tn_lk, tn_kl, if_pos, if_neg, ↓reduceIte, and_self, and_true, true_and, FReader]; with_reducible rfl)) | (with_reducible apply wm_t; focus (first | omega | (simp (disch := omega) only [wr_id, FReader]; omega) | (simp (disch := omega) only [wr_id, FReader]; done))) | (with_reducible apply wm_f; focus (first | omega | (simp (disch := omega) only [wr_id, FReader]; omega) | (simp (disch := omega) only [wr_id, FReader]; done)))))
      rw [e23]
      refine wm_b (w_takeLaw ht hv d2 (by omega) (by omega : K i - 23 < 3)) (fun r J3 hJ3 => ?_)
      rcases hJ3 with ⟨t', x, e, e1, rfl, g1, g2, g3, g4, g5, g6, g7, g8⟩ | ⟨c, q, e1, rfl, g1⟩
      · have x1' := tx_frm f1 ht hx
        obtain ⟨y0, y1, y2, y3, y4, y5, y6, y7, y8, y9, y10⟩ := x1'
        have fz : ∀ a, rt ≤ a → a ≤ rt + 7 → J3 a = J1 a := fun a b1 b2 => g1.1 a (by omega) (by omega)
        (repeat (first | (with_reducible apply wm_o; focus (simp (disch := omega) only [wr_id, Int.toNat_natCast, Int.reduceToNat, tn_lk, tn_kl, if_pos, if_neg, ↓reduceIte, and_self, and_true, true_and, FReader]; with_reducible rfl)) | (with_reducible apply wm_q) | (with_reducible apply wm_c; focus (first | assumption | decide +kernel)) | (with_reducible apply wm_d; focus (simp (disch := omega) only [wr_id, Int.toNat_natCast, Int.reduceToNat, tn_lk, tn_kl, if_pos, if_neg, ↓reduceIte, and_self, and_true, true_and, FReader]; with_reducible rfl)) | (with_reducible apply wm_t; focus (first | omega | (simp (disch := omega) only [wr_id, FReader]; omega) | (simp (disch := omega) only [wr_id, FReader]; done))) | (with_reducible apply wm_f; focus (first | omega | (simp (disch := omega) only [wr_id, FReader]; omega) | (simp (disch := omega) only [wr_id, FReader]; done)))))
        refine w_semi ht hv g2 g3 (frT_trans (frT_Nb f1) (frT_L g1)) (w := w) (h := h) (sd := sd) (H := H) (S := S) (lw := fun q => if q = K i - 23 then x else lw q) (wr := wr) ?_ (by rw [g1.2]; exact w1) ?_
        · refine ⟨?_, ?_, ?_, ?_, ?_, y5, y6, ?_, ?_, fun q hq => ?_, ?_⟩
          · rw [fz rt (by omega) (by omega)]; exact y0
          · rw [fz rt (by omega) (by omega)]; exact y1
          · rw [fz rt (by omega) (by omega)]; exact y2
          · rw [fz rt (by omega) (by omega)]; exact y3
          · rw [fz rt (by omega) (by omega)]; exact y4
          · rw [fz (rt + 1) (by omega) (by omega), fz (rt + 2) (by omega) (by omega)]; exact y7
          · rw [fz (rt + 3) (by omega) (by omega), fz (rt + 4) (by omega) (by omega), fz (rt + 5) (by omega) (by omega)]; exact y8
          · by_cases eq : q = K i - 23
            · have ex : (fun q => if q = K i - 23 then x else lw q) q = x := if_pos eq
              rw [ex]
              refine ⟨g8, sp, e, ?_, Nat.le_refl _, g7⟩
              rw [g6, up_g, if_pos eq]
            · have ex : (fun q => if q = K i - 23 then x else lw q) q = lw q := if_neg eq
              rw [ex]
              obtain ⟨u1, p, e', u2, u3, u4⟩ := y9 q hq
              refine ⟨u1, p, e', ?_, by omega, lwC_congr (fun z z1 z2 => g5 z (by omega)) u4⟩
              rw [g6, up_g, if_neg eq]
              exact u2
          · rw [fz (rt + 6) (by omega) (by omega), fz (rt + 7) (by omega) (by omega)]; exact y10
        · rcases er_cases (tokR K 11 (i + 1)) with ⟨c', q', e'⟩ | ⟨t'', a', e'⟩
          · rw [e', bnd_fl] at e1
            exact (eok_fl e1.symm).elim
          · rw [e', bnd_ok] at e1 ⊢
            rw [e1, bnd_ok]
      · (repeat (first | (with_reducible apply wm_o; focus (simp (disch := omega) only [wr_id, Int.toNat_natCast, Int.reduceToNat, tn_lk, tn_kl, if_pos, if_neg, ↓reduceIte, and_self, and_true, true_and]; with_reducible rfl)) | (with_reducible apply wm_q) | (with_reducible apply wm_c; focus (first | assumption | decide +kernel)) | (with_reducible apply wm_d; focus (simp (disch := omega) only [wr_id, Int.toNat_natCast, Int.reduceToNat, tn_lk, tn_kl, if_pos, if_neg, ↓reduceIte, and_self, and_true, true_and]; with_reducible rfl)) | (with_reducible apply wm_t; focus (first | omega | (simp (disch := omega) only [wr_id]; omega) | (simp (disch := omega) only [wr_id]; done))) | (with_reducible apply wm_f; focus (first | omega | (simp (disch := omega) only [wr_id]; omega) | (simp (disch := omega) only [wr_id]; done)))))
        refine wm_z0 (Or.inr ⟨c, q, bnd2_fl e1 (fun _ _ => rfl), rfl, ⟨frT_trans (frT_Nb f1) (frT_L g1.1), g1.2.1, g1.2.2⟩⟩)
    · rw [if_neg (fun z => c4 ⟨rfl, z⟩)]
      (repeat (first | (with_reducible apply wm_o; focus (simp (disch := omega) only [wr_id, Int.toNat_natCast, Int.reduceToNat, tn_lk, tn_kl, if_pos, if_neg, ↓reduceIte, and_self, and_true, true_and]; with_reducible rfl)) | (with_reducible apply wm_q) | (with_reducible apply wm_c; focus (first | assumption | decide +kernel)) | (with_reducible apply wm_d; focus (simp (disch := omega) only [wr_id, Int.toNat_natCast, Int.reduceToNat, tn_lk, tn_kl, if_pos, if_neg, ↓reduceIte, and_self, and_true, true_and]; with_reducible rfl)) | (with_reducible apply wm_t; focus (first | omega | (simp (disch := omega) only [wr_id]; omega) | (simp (disch := omega) only [wr_id]; done))) | (with_reducible apply wm_f; focus (first | omega | (simp (disch := omega) only [wr_id]; omega) | (simp (disch := omega) only [wr_id]; done)))))
      exact wm_z0 (rm2 J1 rfl d1)
  by_cases c6 : K i = 26
  · rw [if_neg c1, if_neg c2, if_neg c3, if_neg c5, if_pos c6]
    (repeat (first | (with_reducible apply wm_o; focus (simp (disch := omega) only [wr_id, Int.toNat_natCast, Int.reduceToNat, tn_lk, tn_kl, if_pos, if_neg, ↓reduceIte, and_self, and_true, true_and, FReader, a3]; with_reducible rfl)) | (with_reducible apply wm_q) | (with_reducible apply wm_c; focus (first | assumption | decide +kernel)) | (with_reducible apply wm_d; focus (simp (disch := omega) only [wr_id, Int.toNat_natCast, Int.reduceToNat, tn_lk, tn_kl, if_pos, if_neg, ↓reduceIte, and_self, and_true, true_and, FReader, a3]; with_reducible rfl)) | (with_reducible apply wm_t; focus (first | omega | (simp (disch := omega) only [wr_id, FReader, a3]; omega) | (simp (disch := omega) only [wr_id, FReader, a3]; done))) | (with_reducible apply wm_f; focus (first | omega | (simp (disch := omega) only [wr_id, FReader, a3]; omega) | (simp (disch := omega) only [wr_id, FReader, a3]; done)))))
    refine wm_b (w_accept hl hv hR' (by omega) (Or.inr rfl) hK) (fun r J1 hJ1 => ?_)
    rcases hJ1 with ⟨_, c4, rfl, d1, d2, d3, d4⟩ | ⟨c4, rfl, d1⟩
    · rw [if_pos c4]
      have f1 := frNb_P d1 d3 d4
      have w1 : J1 29 6 = wrV ps wr := by rw [d1.2 6 (by decide) (by decide) (by decide) (by decide) (by decide)]; exact hw
      (repeat (first | (with_reducible apply wm_o; focus (simp (disch := omega) only [wr_id, Int.toNat_natCast, Int.reduceToNat, tn_lk, tn_kl, if_pos, if_neg, ↓reduceIte, and_self, and_true, true_and, FReader]; with_reducible rfl)) | (with_reducible apply wm_q) | (with_reducible apply wm_c; focus (first | assumption | decide +kernel)) | (with_reducible apply wm_d; focus (simp (disch := omega) only [wr_id, Int.toNat_natCast, Int.reduceToNat, tn_lk, tn_kl, if_pos, if_neg, ↓reduceIte, and_self, and_true, true_and, FReader]; with_reducible rfl)) | (with_reducible apply wm_t; focus (first | omega | (simp (disch := omega) only [wr_id, FReader]; omega) | (simp (disch := omega) only [wr_id, FReader]; done))) | (with_reducible apply wm_f; focus (first | omega | (simp (disch := omega) only [wr_id, FReader]; omega) | (simp (disch := omega) only [wr_id, FReader]; done)))))
      have sq : wm t d rt (f_X3_takeSeed 29 (mm t d rt J1)) (fun r J => (∃ wr1, numR K V 0 9999 (i + 1) wr = eok (i + 2) wr1 ∧ r = 1 ∧ frT rt I J ∧ rdC K V ps (rt + 8) J (i + 2) sp ∧ J 29 6 = wrV ps wr1 ∧ txC rt J sp w h (V (i + 1)) H S lw) ∨ (∃ c q, numR K V 0 9999 (i + 1) wr = efl c q ∧ r = 0 ∧ fltT ps rt I J c q)) := by
        unfold f_X3_takeSeed
        (repeat (first | (with_reducible apply wm_o; focus (simp (disch := omega) only [wr_id, Int.toNat_natCast, Int.reduceToNat, tn_lk, tn_kl, if_pos, if_neg, ↓reduceIte, and_self, and_true, true_and, FReader]; with_reducible rfl)) | (with_reducible apply wm_q) | (with_reducible apply wm_c; focus (first | assumption | decide +kernel)) | (with_reducible apply wm_d; focus (simp (disch := omega) only [wr_id, Int.toNat_natCast, Int.reduceToNat, tn_lk, tn_kl, if_pos, if_neg, ↓reduceIte, and_self, and_true, true_and, FReader]; with_reducible rfl)) | (with_reducible apply wm_t; focus (first | omega | (simp (disch := omega) only [wr_id, FReader]; omega) | (simp (disch := omega) only [wr_id, FReader]; done))) | (with_reducible apply wm_f; focus (first | omega | (simp (disch := omega) only [wr_id, FReader]; omega) | (simp (disch := omega) only [wr_id, FReader]; done)))))
        refine wm_b (w_number ht hv d2 (by omega) w1 (lo := 0) (hi := 9999) (by decide) (by decide)) (fun r J2 hJ2 => ?_)
        rcases hJ2 with ⟨wr1, e1, k1, rfl, f2, r2, w2⟩ | ⟨c, q, e1, rfl, f2⟩
        · have n1 := q_before (t := t) (d := d) (rt := rt) ht r2 (k := 1) (kz := 1) rfl (by omega) (by rw [show i + 1 + 1 - 1 = i + 1 by omega]; exact k1)
          rw [show i + 1 + 1 - 1 = i + 1 by omega] at n1
          (repeat (first | (with_reducible apply wm_o; focus (simp (disch := omega) only [wr_id, Int.toNat_natCast, Int.reduceToNat, tn_lk, tn_kl, if_pos, if_neg, ↓reduceIte, and_self, and_true, true_and, FReader, FText ht, n1]; with_reducible rfl)) | (with_reducible apply wm_q) | (with_reducible apply wm_c; focus (first | assumption | decide +kernel)) | (with_reducible apply wm_d; focus (simp (disch := omega) only [wr_id, Int.toNat_natCast, Int.reduceToNat, tn_lk, tn_kl, if_pos, if_neg, ↓reduceIte, and_self, and_true, true_and, FReader, FText ht, n1]; with_reducible rfl)) | (with_reducible apply wm_t; focus (first | omega | (simp (disch := omega) only [wr_id, FReader, FText ht, n1]; omega) | (simp (disch := omega) only [wr_id, FReader, FText ht, n1]; done))) | (with_reducible apply wm_f; focus (first | omega | (simp (disch := omega) only [wr_id, FReader, FText ht, n1]; omega) | (simp (disch := omega) only [wr_id, FReader, FText ht, n1]; done)))))
          have fz : frNb (rt + 8) I J2 := frNb_trans f1 f2
          refine wm_z1 (Or.inl ⟨wr1, e1, rfl, frT_up (frT_Nb fz) (by omega), rd_up (by omega) (by omega) (by omega) (by omega) (by omega) r2, ?_, ?_⟩)
          · rw [up_ne (by omega)]; exact w2
          · obtain ⟨y0, y1, y2, y3, y4, y5, y6, y7, y8, y9, y10⟩ := tx_frm fz ht hx
            refine ⟨?_, ?_, ?_, ?_, ?_, y5, y6, ?_, ?_, ?_, ?_⟩
            · rw [up_g, if_neg (by decide)]; exact y0
            · rw [up_g, if_neg (by decide)]; exact y1
            · rw [up_s]
            · rw [up_g, if_neg (by decide)]; exact y3
            · rw [up_g, if_neg (by decide)]; exact y4
            · rw [up_ne (by omega), up_ne (by omega)]; exact y7
            · rw [up_ne (by omega), up_ne (by omega), up_ne (by omega)]; exact y8
            · rw [up_ne (by omega), up_ne (by omega), up_ne (by omega)]; exact y9
            · rw [up_ne (by omega), up_ne (by omega)]; exact y10
        · (repeat (first | (with_reducible apply wm_o; focus (simp (disch := omega) only [wr_id, Int.toNat_natCast, Int.reduceToNat, tn_lk, tn_kl, if_pos, if_neg, ↓reduceIte, and_self, and_true, true_and]; with_reducible rfl)) | (with_reducible apply wm_q) | (with_reducible apply wm_c; focus (first | assumption | decide +kernel)) | (with_reducible apply wm_d; focus (simp (disch := omega) only [wr_id, Int.toNat_natCast, Int.reduceToNat, tn_lk, tn_kl, if_pos, if_neg, ↓reduceIte, and_self, and_true, true_and]; with_reducible rfl)) | (with_reducible apply wm_t; focus (first | omega | (simp (disch := omega) only [wr_id]; omega) | (simp (disch := omega) only [wr_id]; done))) | (with_reducible apply wm_f; focus (first | omega | (simp (disch := omega) only [wr_id]; omega) | (simp (disch := omega) only [wr_id]; done)))))
          exact wm_z0 (Or.inr ⟨c, q, e1, rfl, fltT_T (frT_Nb f1) f2⟩)
      refine wm_b sq (fun r J3 hJ3 => ?_)
      rcases hJ3 with ⟨wr1, e1, rfl, f3, r3, w3, x3'⟩ | ⟨c, q, e, rfl, f3⟩
      · (repeat (first | (with_reducible apply wm_o; focus (simp (disch := omega) only [wr_id, Int.toNat_natCast, Int.reduceToNat, tn_lk, tn_kl, if_pos, if_neg, ↓reduceIte, and_self, and_true, true_and, FReader]; with_reducible rfl)) | (with_reducible apply wm_q) | (with_reducible apply wm_c; focus (first | assumption | decide +kernel)) | (with_reducible apply wm_d; focus (simp (disch := omega) only [wr_id, Int.toNat_natCast, Int.reduceToNat, tn_lk, tn_kl, if_pos, if_neg, ↓reduceIte, and_self, and_true, true_and, FReader]; with_reducible rfl)) | (with_reducible apply wm_t; focus (first | omega | (simp (disch := omega) only [wr_id, FReader]; omega) | (simp (disch := omega) only [wr_id, FReader]; done))) | (with_reducible apply wm_f; focus (first | omega | (simp (disch := omega) only [wr_id, FReader]; omega) | (simp (disch := omega) only [wr_id, FReader]; done)))))
        refine w_semi ht hv r3 (by omega) f3 x3' w3 ?_
        rw [e1, bnd_ok]
        exact tok_eq rfl
      · (repeat (first | (with_reducible apply wm_o; focus (simp (disch := omega) only [wr_id, Int.toNat_natCast, Int.reduceToNat, tn_lk, tn_kl, if_pos, if_neg, ↓reduceIte, and_self, and_true, true_and]; with_reducible rfl)) | (with_reducible apply wm_q) | (with_reducible apply wm_c; focus (first | assumption | decide +kernel)) | (with_reducible apply wm_d; focus (simp (disch := omega) only [wr_id, Int.toNat_natCast, Int.reduceToNat, tn_lk, tn_kl, if_pos, if_neg, ↓reduceIte, and_self, and_true, true_and]; with_reducible rfl)) | (with_reducible apply wm_t; focus (first | omega | (simp (disch := omega) only [wr_id]; omega) | (simp (disch := omega) only [wr_id]; done))) | (with_reducible apply wm_f; focus (first | omega | (simp (disch := omega) only [wr_id]; omega) | (simp (disch := omega) only [wr_id]; done)))))
        exact wm_z0 (Or.inr ⟨c, q, by rw [e, bnd_fl], rfl, f3⟩)
    · rw [if_neg (fun z => c4 ⟨rfl, z⟩)]
      (repeat (first | (with_reducible apply wm_o; focus (simp (disch := omega) only [wr_id, Int.toNat_natCast, Int.reduceToNat, tn_lk, tn_kl, if_pos, if_neg, ↓reduceIte, and_self, and_true, true_and]; with_reducible rfl)) | (with_reducible apply wm_q) | (with_reducible apply wm_c; focus (first | assumption | decide +kernel)) | (with_reducible apply wm_d; focus (simp (disch := omega) only [wr_id, Int.toNat_natCast, Int.reduceToNat, tn_lk, tn_kl, if_pos, if_neg, ↓reduceIte, and_self, and_true, true_and]; with_reducible rfl)) | (with_reducible apply wm_t; focus (first | omega | (simp (disch := omega) only [wr_id]; omega) | (simp (disch := omega) only [wr_id]; done))) | (with_reducible apply wm_f; focus (first | omega | (simp (disch := omega) only [wr_id]; omega) | (simp (disch := omega) only [wr_id]; done)))))
      exact wm_z0 (rm2 J1 rfl d1)
  rw [if_neg c1, if_neg c2, if_neg c3, if_neg c5, if_neg c6]
  have rf : f_X3_refuse 29 1 (ps i : Int) (mm t d rt I) = some (0, mm t d rt (up (up I 29 7 1) 29 8 (ps i : Int))) := q_refuse
  have fin : tlQ K V ps rt I (efl 1 i) 0 (up (up I 29 7 1) 29 8 (ps i : Int)) := Or.inr ⟨1, i, rfl, rfl, fltT_C (frT_refl _ _) (flt_mk hl a6 (by omega) (c := 1))⟩
  by_cases c7 : K i < 23
  · (repeat (first | (with_reducible apply wm_o; focus (simp (disch := omega) only [wr_id, Int.toNat_natCast, Int.reduceToNat, tn_lk, tn_kl, if_pos, if_neg, ↓reduceIte, and_self, and_true, true_and, FReader, a3, a4, rf]; with_reducible rfl)) | (with_reducible apply wm_q) | (with_reducible apply wm_c; focus (first | assumption | decide +kernel)) | (with_reducible apply wm_d; focus (simp (disch := omega) only [wr_id, Int.toNat_natCast, Int.reduceToNat, tn_lk, tn_kl, if_pos, if_neg, ↓reduceIte, and_self, and_true, true_and, FReader, a3, a4, rf]; with_reducible rfl)) | (with_reducible apply wm_t; focus (first | omega | (simp (disch := omega) only [wr_id, FReader, a3, a4, rf]; omega) | (simp (disch := omega) only [wr_id, FReader, a3, a4, rf]; done))) | (with_reducible apply wm_f; focus (first | omega | (simp (disch := omega) only [wr_id, FReader, a3, a4, rf]; omega) | (simp (disch := omega) only [wr_id, FReader, a3, a4, rf]; done)))))
    exact wm_z0 fin
  · (repeat (first | (with_reducible apply wm_o; focus (simp (disch := omega) only [wr_id, Int.toNat_natCast, Int.reduceToNat, tn_lk, tn_kl, if_pos, if_neg, ↓reduceIte, and_self, and_true, true_and, FReader, a3, a4, rf]; with_reducible rfl)) | (with_reducible apply wm_q) | (with_reducible apply wm_c; focus (first | assumption | decide +kernel)) | (with_reducible apply wm_d; focus (simp (disch := omega) only [wr_id, Int.toNat_natCast, Int.reduceToNat, tn_lk, tn_kl, if_pos, if_neg, ↓reduceIte, and_self, and_true, true_and, FReader, a3, a4, rf]; with_reducible rfl)) | (with_reducible apply wm_t; focus (first | omega | (simp (disch := omega) only [wr_id, FReader, a3, a4, rf]; omega) | (simp (disch := omega) only [wr_id, FReader, a3, a4, rf]; done))) | (with_reducible apply wm_f; focus (first | omega | (simp (disch := omega) only [wr_id, FReader, a3, a4, rf]; omega) | (simp (disch := omega) only [wr_id, FReader, a3, a4, rf]; done)))))
    exact wm_z0 fin
end TT
