/-! ===== holes and stones on the square ===== -/
def mkP (w h : Nat) (U : Nat → Bool) (x y : Nat) : Option (Nat → Bool) := if x < w ∧ y < h ∧ U (w * y + x) = false then some (fun c => if c = w * y + x then true else U c) else none
def mkH (w h : Nat) (hx hy : Nat → Int) : Nat → Option (Nat → Bool)
  | 0 => some (fun _ => false)
  | k + 1 => (mkH w h hx hy k).bind fun U => mkP w h U (hx k).toNat (hy k).toNat
def mkS (w h : Nat) (sx sy sw : Nat → Int) (U0 : Nat → Bool) : Nat → Option (Nat → Bool)
  | 0 => some U0
  | k + 1 => (mkS w h sx sy sw U0 k).bind fun U => (mkP w h U (sx k).toNat (sy k).toNat).bind fun U' => mkP w h U' (sx k + 1 - sw k).toNat (sy k + sw k).toNat
def fitB (w h : Nat) (H : TH) (S : TS) : Bool := ((mkH w h H.2.1 H.2.2 H.1).bind fun U => mkS w h S.2.1 S.2.2.1 S.2.2.2 U S.1).isSome
theorem mkH_none {w h : Nat} {hx hy : Nat → Int} {k n : Nat} (hk : k ≤ n) (h0 : mkH w h hx hy k = none) : mkH w h hx hy n = none := by
  induction hk with
  | refl => exact h0
  | step _ ih => rw [mkH, ih]; rfl
theorem mkS_none {w h : Nat} {sx sy sw : Nat → Int} {U : Nat → Bool} {k n : Nat} (hk : k ≤ n) (h0 : mkS w h sx sy sw U k = none) : mkS w h sx sy sw U n = none := by
  induction hk with
  | refl => exact h0
  | step _ ih => rw [mkS, ih]; rfl
/-- all numbers of a text lie where they may -/
def rgX (w h sd : Int) (H : TH) (S : TS) : Prop := 2 ≤ w ∧ w ≤ 6 ∧ 2 ≤ h ∧ h ≤ 6 ∧ 0 ≤ sd ∧ sd ≤ 9999 ∧ (∀ i, i < H.1 → 0 ≤ H.2.1 i ∧ H.2.1 i ≤ 5 ∧ 0 ≤ H.2.2 i ∧ H.2.2 i ≤ 5) ∧ ∀ i, i < S.1 → 0 ≤ S.2.1 i ∧ S.2.1 i ≤ 5 ∧ 0 ≤ S.2.2.1 i ∧ S.2.2.1 i ≤ 5 ∧ 0 ≤ S.2.2.2 i ∧ S.2.2.2 i ≤ 1
theorem cell_lt {w h x y : Nat} (hw : w ≤ 6) (hh : h ≤ 6) (hx : x < w) (hy : y < h) : w * y + x < w * h ∧ w * h ≤ 36 := by
  have e1 : w * (y + 1) ≤ w * h := Nat.mul_le_mul_left w hy
  have e2 : w * h ≤ 6 * 6 := Nat.mul_le_mul hw hh
  rw [Nat.mul_add] at e1
  omega
section FT
variable {t d rt : Nat} {I J : Nat → Nat → Int} {w h : Nat}
theorem w_mark (ht : rt ∈ [3, 16]) (hw : 2 ≤ w ∧ w ≤ 6) (hh : 2 ≤ h ∧ h ≤ 6) (h0 : I rt 0 = (w : Int)) (h1 : I rt 1 = (h : Int)) {U : Nat → Bool} (hU : ∀ c, c < 36 → I (rt + 7) c = if U c then 1 else 0) {x y : Nat} (hx : x ≤ 100) (hy : y ≤ 100) : wm t d rt (f_X8_mark rt (x : Int) (y : Int) (mm t d rt I)) (fun r J => (∃ U', mkP w h U x y = some U' ∧ x < w ∧ y < h ∧ r = 1 ∧ frm (fun a => a = rt + 7) I J ∧ ∀ c, c < 36 → J (rt + 7) c = if U' c then 1 else 0) ∨ (mkP w h U x y = none ∧ r = 0 ∧ J = I)) := by
  unfold f_X8_mark
  have eN : ¬ (x < w ∧ y < h ∧ U (w * y + x) = false) → mkP w h U x y = none := fun q => by unfold mkP; rw [if_neg q]
  have eS : (x < w ∧ y < h ∧ U (w * y + x) = false) → mkP w h U x y = some (fun c => if c = w * y + x then true else U c) := fun q => by unfold mkP; rw [if_pos q]
  by_cases c1 : x < w
  · by_cases c2 : y < h
    · obtain ⟨l1, l2⟩ := cell_lt hw.2 hh.2 c1 c2
      have ee : (w : Int) * (y : Int) + (x : Int) = ((w * y + x : Nat) : Int) := by rw [Int.natCast_add, Int.natCast_mul]
      generalize eg : w * y + x = g at l1 ee eN eS
      have lg : g < 36 := by omega
      have hg := hU g lg
      have z1 : jd_z 1 = 1 := by decide
      by_cases c3 : U g = true
      · rw [if_pos c3] at hg
        (repeat (first | (with_reducible apply wm_o; focus (simp (disch := omega) only [wr_id, Int.toNat_natCast, Int.reduceToNat, tn_lk, tn_kl, if_pos, if_neg, ↓reduceIte, and_self, and_true, true_and, FText ht, h0, h1, ee, hg]; with_reducible rfl)) | (with_reducible apply wm_q) | (with_reducible apply wm_c; focus (first | assumption | decide +kernel)) | (with_reducible apply wm_d; focus (simp (disch := omega) only [wr_id, Int.toNat_natCast, Int.reduceToNat, tn_lk, tn_kl, if_pos, if_neg, ↓reduceIte, and_self, and_true, true_and, FText ht, h0, h1, ee, hg]; with_reducible rfl)) | (with_reducible apply wm_t; focus (first | omega | (simp (disch := omega) only [wr_id, FText ht, h0, h1, ee, hg]; omega) | (simp (disch := omega) only [wr_id, FText ht, h0, h1, ee, hg]; done))) | (with_reducible apply wm_f; focus (first | omega | (simp (disch := omega) only [wr_id, FText ht, h0, h1, ee, hg]; omega) | (simp (disch := omega) only [wr_id, FText ht, h0, h1, ee, hg]; done)))))
        exact wm_z0 (Or.inr ⟨eN (fun q => by rw [c3] at q; exact absurd q.2.2 (by decide)), rfl, rfl⟩)
      · have c3' : U g = false := by cases q : U g; rfl; exact absurd q c3
        rw [if_neg c3] at hg
        (repeat (first | (with_reducible apply wm_o; focus (simp (disch := omega) only [wr_id, Int.toNat_natCast, Int.reduceToNat, tn_lk, tn_kl, if_pos, if_neg, ↓reduceIte, and_self, and_true, true_and, FText ht, h0, h1, ee, hg, z1]; with_reducible rfl)) | (with_reducible apply wm_q) | (with_reducible apply wm_c; focus (first | assumption | decide +kernel)) | (with_reducible apply wm_d; focus (simp (disch := omega) only [wr_id, Int.toNat_natCast, Int.reduceToNat, tn_lk, tn_kl, if_pos, if_neg, ↓reduceIte, and_self, and_true, true_and, FText ht, h0, h1, ee, hg, z1]; with_reducible rfl)) | (with_reducible apply wm_t; focus (first | omega | (simp (disch := omega) only [wr_id, FText ht, h0, h1, ee, hg, z1]; omega) | (simp (disch := omega) only [wr_id, FText ht, h0, h1, ee, hg, z1]; done))) | (with_reducible apply wm_f; focus (first | omega | (simp (disch := omega) only [wr_id, FText ht, h0, h1, ee, hg, z1]; omega) | (simp (disch := omega) only [wr_id, FText ht, h0, h1, ee, hg, z1]; done)))))
        refine wm_z1 (Or.inl ⟨_, eS ⟨c1, c2, c3'⟩, c1, c2, rfl, frm_up (frm_refl _ _) rfl, fun c hc => ?_⟩)
        rw [up_g]
        by_cases e : c = g
        · rw [if_pos e, if_pos e, if_pos rfl]
        · rw [if_neg e, if_neg e]; exact hU c hc
    · (repeat (first | (with_reducible apply wm_o; focus (simp (disch := omega) only [wr_id, Int.toNat_natCast, Int.reduceToNat, tn_lk, tn_kl, if_pos, if_neg, ↓reduceIte, and_self, and_true, true_and, FText ht, h0, h1]; with_reducible rfl)) | (with_reducible apply wm_q) | (with_reducible apply wm_c; focus (first | assumption | decide +kernel)) | (with_reducible apply wm_d; focus (simp (disch := omega) only [wr_id, Int.toNat_natCast, Int.reduceToNat, tn_lk, tn_kl, if_pos, if_neg, ↓reduceIte, and_self, and_true, true_and, FText ht, h0, h1]; with_reducible rfl)) | (with_reducible apply wm_t; focus (first | omega | (simp (disch := omega) only [wr_id, FText ht, h0, h1]; omega) | (simp (disch := omega) only [wr_id, FText ht, h0, h1]; done))) | (with_reducible apply wm_f; focus (first | omega | (simp (disch := omega) only [wr_id, FText ht, h0, h1]; omega) | (simp (disch := omega) only [wr_id, FText ht, h0, h1]; done)))))
      exact wm_z0 (Or.inr ⟨eN (fun q => c2 q.2.1), rfl, rfl⟩)
  · (repeat (first | (with_reducible apply wm_o; focus (simp (disch := omega) only [wr_id, Int.toNat_natCast, Int.reduceToNat, tn_lk, tn_kl, if_pos, if_neg, ↓reduceIte, and_self, and_true, true_and, FText ht, h0, h1]; with_reducible rfl)) | (with_reducible apply wm_q) | (with_reducible apply wm_c; focus (first | assumption | decide +kernel)) | (with_reducible apply wm_d; focus (simp (disch := omega) only [wr_id, Int.toNat_natCast, Int.reduceToNat, tn_lk, tn_kl, if_pos, if_neg, ↓reduceIte, and_self, and_true, true_and, FText ht, h0, h1]; with_reducible rfl)) | (with_reducible apply wm_t; focus (first | omega | (simp (disch := omega) only [wr_id, FText ht, h0, h1]; omega) | (simp (disch := omega) only [wr_id, FText ht, h0, h1]; done))) | (with_reducible apply wm_f; focus (first | omega | (simp (disch := omega) only [wr_id, FText ht, h0, h1]; omega) | (simp (disch := omega) only [wr_id, FText ht, h0, h1]; done)))))
    exact wm_z0 (Or.inr ⟨eN (fun q => c1 q.1), rfl, rfl⟩)
theorem w_fits (ht : rt ∈ [3, 16]) {sp : Nat} {sd : Int} {H : TH} {S : TS} {lw : Nat → LW} (hx : txC rt I sp (w : Int) (h : Int) sd H S lw) (hr : rgX (w : Int) (h : Int) sd H S) : wm t d rt (f_X8_fitsSquare rt (mm t d rt I)) (fun r J => frm (fun a => a = rt + 6 ∨ a = rt + 7) I J ∧ ((fitB w h H S = true ∧ r = 1 ∧ ∃ U, mkH w h H.2.1 H.2.2 H.1 = some U ∧ ∀ c, c < 36 → J (rt + 6) c = if U c then 1 else 0) ∨ (fitB w h H S = false ∧ r = 0))) := by
  obtain ⟨x0, x1, x2, x3, x4, x5, x6, x7, x8, x9, x10⟩ := hx
  obtain ⟨r1, r2, r3, r4, r5, r6, r7, r8⟩ := hr
  have hw : 2 ≤ w ∧ w ≤ 6 := by omega
  have hh : 2 ≤ h ∧ h ≤ 6 := by omega
  have rt3 : rt = 3 ∨ rt = 16 := by simpa using ht
  have kt8 : (K0 rt).1 = 8 ∧ rt < 418 := ⟨(FText_k _ ht).1, (FText_k _ ht).2.1⟩
  have z1 : jd_z 1 = 1 := by decide
  unfold f_X8_fitsSquare
  refine wm_lp2 12 (fun n y J => y = (n : Int) ∧ n ≤ H.1 ∧ frm (fun a => a = rt + 6 ∨ a = rt + 7) I J ∧ ∃ U, mkH w h H.2.1 H.2.2 n = some U ∧ ∀ c, c < 36 → J (rt + 6) c = (if U c then 1 else 0) ∧ J (rt + 7) c = if U c then 1 else 0) ?_ (jfuel_n (by decide)) ⟨rfl, Nat.zero_le _, frm_refl _ _, _, rfl, fun c hc => x10 c hc⟩
  rintro n hn y J ⟨rfl, j0, j1, U, j2, j3⟩ rec hrec
  have e0 : J rt = I rt := j1 rt (by omega)
  have y0 : J rt 0 = (w : Int) := by rw [e0]; exact x0
  have y1 : J rt 1 = (h : Int) := by rw [e0]; exact x1
  have y3 : J rt 3 = (H.1 : Int) := by rw [e0]; exact x3
  by_cases cn : n < H.1
  · obtain ⟨u1, u2⟩ := x7 n cn
    obtain ⟨v1, v2, v3, v4⟩ := r7 n cn
    rw [← j1 (rt + 1) (by omega)] at u1
    rw [← j1 (rt + 2) (by omega)] at u2
    have w1 : H.2.1 n = ((H.2.1 n).toNat : Int) := by omega
    have w2 : H.2.2 n = ((H.2.2 n).toNat : Int) := by omega
    rw [w1] at u1
    rw [w2] at u2
    (repeat (first | (with_reducible apply wm_o; focus (simp (disch := omega) only [wr_id, Int.toNat_natCast, Int.reduceToNat, tn_lk, tn_kl, if_pos, if_neg, ↓reduceIte, and_self, and_true, true_and, FText ht, y3, u1, u2]; with_reducible rfl)) | (with_reducible apply wm_q) | (with_reducible apply wm_c; focus (first | assumption | decide +kernel)) | (with_reducible apply wm_d; focus (simp (disch := omega) only [wr_id, Int.toNat_natCast, Int.reduceToNat, tn_lk, tn_kl, if_pos, if_neg, ↓reduceIte, and_self, and_true, true_and, FText ht, y3, u1, u2]; with_reducible rfl)) | (with_reducible apply wm_t; focus (first | omega | (simp (disch := omega) only [wr_id, FText ht, y3, u1, u2]; omega) | (simp (disch := omega) only [wr_id, FText ht, y3, u1, u2]; done))) | (with_reducible apply wm_f; focus (first | omega | (simp (disch := omega) only [wr_id, FText ht, y3, u1, u2]; omega) | (simp (disch := omega) only [wr_id, FText ht, y3, u1, u2]; done)))))
    refine wm_b (w_mark ht hw hh y0 y1 (fun c hc => (j3 c hc).2) (x := (H.2.1 n).toNat) (y := (H.2.2 n).toNat) (by omega) (by omega)) (fun r J2 hJ2 => ?_)
    have em : mkH w h H.2.1 H.2.2 (n + 1) = mkP w h U (H.2.1 n).toNat (H.2.2 n).toNat := by rw [mkH, j2]; rfl
    rcases hJ2 with ⟨U', k1, k2, k3, rfl, k4, k5⟩ | ⟨k1, rfl, rfl⟩
    · rw [k1] at em
      obtain ⟨l1, l2⟩ := cell_lt hw.2 hh.2 k2 k3
      have b0 : J2 rt 0 = (w : Int) := by rw [k4 rt (by omega)]; exact y0
      have b1 : J2 (rt + 1) n = ((H.2.1 n).toNat : Int) := by rw [k4 (rt + 1) (by omega)]; exact u1
      have b2 : J2 (rt + 2) n = ((H.2.2 n).toNat : Int) := by rw [k4 (rt + 2) (by omega)]; exact u2
      have ee : (w : Int) * ((H.2.2 n).toNat : Int) + ((H.2.1 n).toNat : Int) = ((w * (H.2.2 n).toNat + (H.2.1 n).toNat : Nat) : Int) := by rw [Int.natCast_add, Int.natCast_mul]
      have uU : ∀ c, U' c = if c = w * (H.2.2 n).toNat + (H.2.1 n).toNat then true else U c := by
        intro c
        unfold mkP at k1
        by_cases z : (H.2.1 n).toNat < w ∧ (H.2.2 n).toNat < h ∧ U (w * (H.2.2 n).toNat + (H.2.1 n).toNat) = false
        · rw [if_pos z] at k1
          have := congrFun (Option.some.inj k1) c
          exact this.symm
        · rw [if_neg z] at k1; exact absurd k1 (by simp)
      generalize w * (H.2.2 n).toNat + (H.2.1 n).toNat = g at l1 ee uU
      have lg : g < 36 := by omega
      (repeat (first | (with_reducible apply wm_o; focus (simp (disch := omega) only [wr_id, Int.toNat_natCast, Int.reduceToNat, tn_lk, tn_kl, if_pos, if_neg, ↓reduceIte, and_self, and_true, true_and, FText ht, b0, b1, b2, ee, z1]; with_reducible rfl)) | (with_reducible apply wm_q) | (with_reducible apply wm_c; focus (first | assumption | decide +kernel)) | (with_reducible apply wm_d; focus (simp (disch := omega) only [wr_id, Int.toNat_natCast, Int.reduceToNat, tn_lk, tn_kl, if_pos, if_neg, ↓reduceIte, and_self, and_true, true_and, FText ht, b0, b1, b2, ee, z1]; with_reducible rfl)) | (with_reducible apply wm_t; focus (first | omega | (simp (disch := omega) only [wr_id, FText ht, b0, b1, b2, ee, z1]; omega) | (simp (disch := omega) only [wr_id, FText ht, b0, b1, b2, ee, z1]; done))) | (with_reducible apply wm_f; focus (first | omega | (simp (disch := omega) only [wr_id, FText ht, b0, b1, b2, ee, z1]; omega) | (simp (disch := omega) only [wr_id, FText ht, b0, b1, b2, ee, z1]; done)))))
      refine hrec (n + 1) _ _ (by omega) (by omega) ⟨by omega, by omega, frm_up (frm_trans j1 (frm_sub k4 (fun a q => Or.inr q))) (Or.inl rfl), U', em, fun c hc => ?_⟩
      rw [up_g, up_ne (by omega)]
      refine ⟨?_, k5 c hc⟩
      rw [k4 (rt + 6) (by omega), uU c]
      by_cases e : c = g
      · rw [if_pos e, if_pos e, if_pos rfl]
      · rw [if_neg e, if_neg e]; exact (j3 c hc).1
    · rw [k1] at em
      (repeat (first | (with_reducible apply wm_o; focus (simp (disch := omega) only [wr_id, Int.toNat_natCast, Int.reduceToNat, tn_lk, tn_kl, if_pos, if_neg, ↓reduceIte, and_self, and_true, true_and]; with_reducible rfl)) | (with_reducible apply wm_q) | (with_reducible apply wm_c; focus (first | assumption | decide +kernel)) | (with_reducible apply wm_d; focus (simp (disch := omega) only [wr_id, Int.toNat_natCast, Int.reduceToNat, tn_lk, tn_kl, if_pos, if_neg, ↓reduceIte, and_self, and_true, true_and]; with_reducible rfl)) | (with_reducible apply wm_t; focus (first | omega | (simp (disch := omega) only [wr_id]; omega) | (simp (disch := omega) only [wr_id]; done))) | (with_reducible apply wm_f; focus (first | omega | (simp (disch := omega) only [wr_id]; omega) | (simp (disch := omega) only [wr_id]; done)))))
      refine wm_z0 ⟨j1, Or.inr ⟨?_, rfl⟩⟩
      unfold fitB
      rw [mkH_none cn em]; rfl
  · have en : n = H.1 := by omega
    rw [en] at j2
    have ef : fitB w h H S = (mkS w h S.2.1 S.2.2.1 S.2.2.2 U S.1).isSome := by unfold fitB; rw [j2]; rfl
    (repeat (first | (with_reducible apply wm_o; focus (simp (disch := omega) only [wr_id, Int.toNat_natCast, Int.reduceToNat, tn_lk, tn_kl, if_pos, if_neg, ↓reduceIte, and_self, and_true, true_and, FText ht, y3]; with_reducible rfl)) | (with_reducible apply wm_q) | (with_reducible apply wm_c; focus (first | assumption | decide +kernel)) | (with_reducible apply wm_d; focus (simp (disch := omega) only [wr_id, Int.toNat_natCast, Int.reduceToNat, tn_lk, tn_kl, if_pos, if_neg, ↓reduceIte, and_self, and_true, true_and, FText ht, y3]; with_reducible rfl)) | (with_reducible apply wm_t; focus (first | omega | (simp (disch := omega) only [wr_id, FText ht, y3]; omega) | (simp (disch := omega) only [wr_id, FText ht, y3]; done))) | (with_reducible apply wm_f; focus (first | omega | (simp (disch := omega) only [wr_id, FText ht, y3]; omega) | (simp (disch := omega) only [wr_id, FText ht, y3]; done)))))
    refine wm_lp2 18 (fun m y J' => y = (m : Int) ∧ m ≤ S.1 ∧ frm (fun a => a = rt + 7) J J' ∧ ∃ U', mkS w h S.2.1 S.2.2.1 S.2.2.2 U m = some U' ∧ ∀ c, c < 36 → J' (rt + 7) c = if U' c then 1 else 0) ?_ (jfuel_n (by decide)) ⟨rfl, Nat.zero_le _, frm_refl _ _, U, rfl, fun c hc => (j3 c hc).2⟩
    rintro m hm y J' ⟨rfl, i0, i1, U', i2, i3⟩ rec2 hrec2
    have e0' : J' rt = I rt := by rw [i1 rt (by omega)]; exact e0
    have z0' : J' rt 0 = (w : Int) := by rw [e0']; exact x0
    have z1' : J' rt 1 = (h : Int) := by rw [e0']; exact x1
    have z4' : J' rt 4 = (S.1 : Int) := by rw [e0']; exact x4
    have fin : frm (fun a => a = rt + 6 ∨ a = rt + 7) I J' := frm_trans j1 (frm_sub i1 (fun a q => Or.inr q))
    by_cases cm : m < S.1
    · obtain ⟨u1, u2, u3⟩ := x8 m cm
      obtain ⟨v1, v2, v3, v4, v5, v6⟩ := r8 m cm
      rw [← fin (rt + 3) (by omega)] at u1
      rw [← fin (rt + 4) (by omega)] at u2
      rw [← fin (rt + 5) (by omega)] at u3
      have w1 : S.2.1 m = ((S.2.1 m).toNat : Int) := by omega
      have w2 : S.2.2.1 m = ((S.2.2.1 m).toNat : Int) := by omega
      have em : mkS w h S.2.1 S.2.2.1 S.2.2.2 U (m + 1) = (mkP w h U' (S.2.1 m).toNat (S.2.2.1 m).toNat).bind fun U' => mkP w h U' (S.2.1 m + 1 - S.2.2.2 m).toNat (S.2.2.1 m + S.2.2.2 m).toNat := by rw [mkS, i2]; rfl
      have go : ∀ zz : Int, zz = 1 - S.2.2.2 m → wm t d rt ((jm_gR 8 7 (mm t d rt J') rt).bind fun r18 =>
          (jm_ld 20 (mm t d rt J') r18 (m : Int)).bind fun v19 =>
          (jm_gR 8 8 (mm t d rt J') rt).bind fun r20 =>
          (jm_ld 20 (mm t d rt J') r20 (m : Int)).bind fun v21 =>
          jcall 8 (mm t d rt J') rt (f_X8_mark rt v19 v21 (mm t d rt J')) fun v22 M23 =>
          if jd_wr v22 = 0 then (jm_z 0 M23)
          else ((jm_gR 8 7 M23 rt).bind fun r24 =>
          (jm_ld 20 M23 r24 (m : Int)).bind fun v25 =>
          (jm_gR 8 8 M23 rt).bind fun r26 =>
          (jm_ld 20 M23 r26 (m : Int)).bind fun v27 =>
          jcall 8 M23 rt (f_X8_mark rt (v25 + zz) ((v27 + 1) - zz) M23) fun v28 M29 =>
          if jd_wr v28 = 0 then (jm_z 0 M29)
          else (rec2 ((m : Int) + 1) M29))) (fun r J => frm (fun a => a = rt + 6 ∨ a = rt + 7) I J ∧ ((fitB w h H S = true ∧ r = 1 ∧ ∃ U, mkH w h H.2.1 H.2.2 H.1 = some U ∧ ∀ c, c < 36 → J (rt + 6) c = if U c then 1 else 0) ∨ (fitB w h H S = false ∧ r = 0))) := by
        intro zz hz
        have bad : ∀ J3, mkS w h S.2.1 S.2.2.1 S.2.2.2 U (m + 1) = none → frm (fun a => a = rt + 6 ∨ a = rt + 7) I J3 → (frm (fun a => a = rt + 6 ∨ a = rt + 7) I J3 ∧ ((fitB w h H S = true ∧ (0 : Int) = 1 ∧ ∃ U, mkH w h H.2.1 H.2.2 H.1 = some U ∧ ∀ c, c < 36 → J3 (rt + 6) c = if U c then 1 else 0) ∨ (fitB w h H S = false ∧ (0 : Int) = 0))) := fun J3 q f => ⟨f, Or.inr ⟨by rw [ef, mkS_none cm q]; rfl, rfl⟩⟩
        have u1' := u1
        have u2' := u2
        rw [w1] at u1'
        rw [w2] at u2'
        (repeat (first | (with_reducible apply wm_o; focus (simp (disch := omega) only [wr_id, Int.toNat_natCast, Int.reduceToNat, tn_lk, tn_kl, if_pos, if_neg, ↓reduceIte, and_self, and_true, true_and, FText ht, u1', u2']; with_reducible rfl)) | (with_reducible apply wm_q) | (with_reducible apply wm_c; focus (first | assumption | decide +kernel)) | (with_reducible apply wm_d; focus (simp (disch := omega) only [wr_id, Int.toNat_natCast, Int.reduceToNat, tn_lk, tn_kl, if_pos, if_neg, ↓reduceIte, and_self, and_true, true_and, FText ht, u1', u2']; with_reducible rfl)) | (with_reducible apply wm_t; focus (first | omega | (simp (disch := omega) only [wr_id, FText ht, u1', u2']; omega) | (simp (disch := omega) only [wr_id, FText ht, u1', u2']; done))) | (with_reducible apply wm_f; focus (first | omega | (simp (disch := omega) only [wr_id, FText ht, u1', u2']; omega) | (simp (disch := omega) only [wr_id, FText ht, u1', u2']; done)))))
        refine wm_b (w_mark ht hw hh z0' z1' i3 (x := (S.2.1 m).toNat) (y := (S.2.2.1 m).toNat) (by omega) (by omega)) (fun r J2 hJ2 => ?_)
        rcases hJ2 with ⟨U2, k1, k2, k3, rfl, k4, k5⟩ | ⟨k1, rfl, rfl⟩
        · rw [k1, Option.bind_some] at em
          have b0 : J2 rt 0 = (w : Int) := by rw [k4 rt (by omega)]; exact z0'
          have b1' : J2 rt 1 = (h : Int) := by rw [k4 rt (by omega)]; exact z1'
          have b1 : J2 (rt + 3) m = S.2.1 m := by rw [k4 (rt + 3) (by omega)]; exact u1
          have b2 : J2 (rt + 4) m = S.2.2.1 m := by rw [k4 (rt + 4) (by omega)]; exact u2
          have a1 : S.2.1 m + zz = ((S.2.1 m + 1 - S.2.2.2 m).toNat : Int) := by omega
          have a2 : S.2.2.1 m + 1 - zz = ((S.2.2.1 m + S.2.2.2 m).toNat : Int) := by omega
          (repeat (first | (with_reducible apply wm_o; focus (simp (disch := omega) only [wr_id, Int.toNat_natCast, Int.reduceToNat, tn_lk, tn_kl, if_pos, if_neg, ↓reduceIte, and_self, and_true, true_and, FText ht, b1, b2]; with_reducible rfl)) | (with_reducible apply wm_q) | (with_reducible apply wm_c; focus (first | assumption | decide +kernel)) | (with_reducible apply wm_d; focus (simp (disch := omega) only [wr_id, Int.toNat_natCast, Int.reduceToNat, tn_lk, tn_kl, if_pos, if_neg, ↓reduceIte, and_self, and_true, true_and, FText ht, b1, b2]; with_reducible rfl)) | (with_reducible apply wm_t; focus (first | omega | (simp (disch := omega) only [wr_id, FText ht, b1, b2]; omega) | (simp (disch := omega) only [wr_id, FText ht, b1, b2]; done))) | (with_reducible apply wm_f; focus (first | omega | (simp (disch := omega) only [wr_id, FText ht, b1, b2]; omega) | (simp (disch := omega) only [wr_id, FText ht, b1, b2]; done)))))
          rw [a1, a2]
          refine wm_b (w_mark ht hw hh b0 b1' k5 (x := (S.2.1 m + 1 - S.2.2.2 m).toNat) (y := (S.2.2.1 m + S.2.2.2 m).toNat) (by omega) (by omega)) (fun r J3 hJ3 => ?_)
          rcases hJ3 with ⟨U3, q1, q2, q3, rfl, q4, q5⟩ | ⟨q1, rfl, rfl⟩
          · (repeat (first | (with_reducible apply wm_o; focus (simp (disch := omega) only [wr_id, Int.toNat_natCast, Int.reduceToNat, tn_lk, tn_kl, if_pos, if_neg, ↓reduceIte, and_self, and_true, true_and]; with_reducible rfl)) | (with_reducible apply wm_q) | (with_reducible apply wm_c; focus (first | assumption | decide +kernel)) | (with_reducible apply wm_d; focus (simp (disch := omega) only [wr_id, Int.toNat_natCast, Int.reduceToNat, tn_lk, tn_kl, if_pos, if_neg, ↓reduceIte, and_self, and_true, true_and]; with_reducible rfl)) | (with_reducible apply wm_t; focus (first | omega | (simp (disch := omega) only [wr_id]; omega) | (simp (disch := omega) only [wr_id]; done))) | (with_reducible apply wm_f; focus (first | omega | (simp (disch := omega) only [wr_id]; omega) | (simp (disch := omega) only [wr_id]; done)))))
            exact hrec2 (m + 1) _ _ (by omega) (by omega) ⟨by omega, by omega, frm_trans i1 (frm_trans k4 q4), U3, by rw [em]; exact q1, q5⟩
          · (repeat (first | (with_reducible apply wm_o; focus (simp (disch := omega) only [wr_id, Int.toNat_natCast, Int.reduceToNat, tn_lk, tn_kl, if_pos, if_neg, ↓reduceIte, and_self, and_true, true_and]; with_reducible rfl)) | (with_reducible apply wm_q) | (with_reducible apply wm_c; focus (first | assumption | decide +kernel)) | (with_reducible apply wm_d; focus (simp (disch := omega) only [wr_id, Int.toNat_natCast, Int.reduceToNat, tn_lk, tn_kl, if_pos, if_neg, ↓reduceIte, and_self, and_true, true_and]; with_reducible rfl)) | (with_reducible apply wm_t; focus (first | omega | (simp (disch := omega) only [wr_id]; omega) | (simp (disch := omega) only [wr_id]; done))) | (with_reducible apply wm_f; focus (first | omega | (simp (disch := omega) only [wr_id]; omega) | (simp (disch := omega) only [wr_id]; done)))))
            exact wm_z0 (bad J3 (by rw [em]; exact q1) (frm_trans fin (frm_sub k4 (fun a q => Or.inr q))))
        · (repeat (first | (with_reducible apply wm_o; focus (simp (disch := omega) only [wr_id, Int.toNat_natCast, Int.reduceToNat, tn_lk, tn_kl, if_pos, if_neg, ↓reduceIte, and_self, and_true, true_and]; with_reducible rfl)) | (with_reducible apply wm_q) | (with_reducible apply wm_c; focus (first | assumption | decide +kernel)) | (with_reducible apply wm_d; focus (simp (disch := omega) only [wr_id, Int.toNat_natCast, Int.reduceToNat, tn_lk, tn_kl, if_pos, if_neg, ↓reduceIte, and_self, and_true, true_and]; with_reducible rfl)) | (with_reducible apply wm_t; focus (first | omega | (simp (disch := omega) only [wr_id]; omega) | (simp (disch := omega) only [wr_id]; done))) | (with_reducible apply wm_f; focus (first | omega | (simp (disch := omega) only [wr_id]; omega) | (simp (disch := omega) only [wr_id]; done)))))
          exact wm_z0 (bad J2 (by rw [em, k1]; rfl) fin)
      by_cases cw : S.2.2.2 m = 0
      · rw [cw] at u3
        have := go 1 (by omega)
        refine wm_o (a := (S.1 : Int)) (by rw [← z4']; simp only [FText ht]) ?_
        refine wm_t (by simp (disch := omega) only [wr_id]; omega) ?_
        refine wm_o (a := rt + 5) (by simp only [FText ht]) ?_
        refine wm_o (a := 0) (by rw [← u3]; simp (disch := omega) only [FText ht, wr_id, Int.toNat_natCast, if_pos]) ?_
        refine wm_q ?_
        refine wm_t (by decide) ?_
        exact this
      · have cw1 : S.2.2.2 m = 1 := by omega
        rw [cw1] at u3
        have := go 0 (by omega)
        refine wm_o (a := (S.1 : Int)) (by rw [← z4']; simp only [FText ht]) ?_
        refine wm_t (by simp (disch := omega) only [wr_id]; omega) ?_
        refine wm_o (a := rt + 5) (by simp only [FText ht]) ?_
        refine wm_o (a := 1) (by rw [← u3]; simp (disch := omega) only [FText ht, wr_id, Int.toNat_natCast, if_pos]) ?_
        refine wm_q ?_
        refine wm_f (by decide) ?_
        exact this
    · have em : m = S.1 := by omega
      (repeat (first | (with_reducible apply wm_o; focus (simp (disch := omega) only [wr_id, Int.toNat_natCast, Int.reduceToNat, tn_lk, tn_kl, if_pos, if_neg, ↓reduceIte, and_self, and_true, true_and, FText ht, z4']; with_reducible rfl)) | (with_reducible apply wm_q) | (with_reducible apply wm_c; focus (first | assumption | decide +kernel)) | (with_reducible apply wm_d; focus (simp (disch := omega) only [wr_id, Int.toNat_natCast, Int.reduceToNat, tn_lk, tn_kl, if_pos, if_neg, ↓reduceIte, and_self, and_true, true_and, FText ht, z4']; with_reducible rfl)) | (with_reducible apply wm_t; focus (first | omega | (simp (disch := omega) only [wr_id, FText ht, z4']; omega) | (simp (disch := omega) only [wr_id, FText ht, z4']; done))) | (with_reducible apply wm_f; focus (first | omega | (simp (disch := omega) only [wr_id, FText ht, z4']; omega) | (simp (disch := omega) only [wr_id, FText ht, z4']; done)))))
      refine wm_z1 ⟨fin, Or.inl ⟨?_, rfl, U, j2, fun c hc => ?_⟩⟩
      · rw [ef, ← em, i2]; rfl
      · rw [i1 (rt + 6) (by omega)]; exact (j3 c hc).1
end FT
