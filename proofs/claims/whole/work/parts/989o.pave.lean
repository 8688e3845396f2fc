/-! ===== calls: pave ===== -/
def pvP (ρ : Nat → Int) (p : List Int) : Nat → Nat × (Nat → Int)
  | 0 => (0, ρ)
  | c + 1 => if 0 ≤ p.getD c (-1) then ((pvP ρ p c).1 + 1, rPut (pvP ρ p c).2 (pvP ρ p c).1 (c : Int) (p.getD c (-1))) else pvP ρ p c
theorem pvP_s (ρ : Nat → Int) (p : List Int) (c : Nat) : pvP ρ p (c + 1) = if 0 ≤ p.getD c (-1) then ((pvP ρ p c).1 + 1, rPut (pvP ρ p c).2 (pvP ρ p c).1 (c : Int) (p.getD c (-1))) else pvP ρ p c := rfl
theorem wy_g (p : List Int) (x : Nat) : wyP 0 p x = p.getD x (-1) := by unfold wyP; rw [if_pos (by omega), Nat.sub_zero]
/-- covered by a stone that begins ahead of c -/
def cvc (w : Nat) (p : List Int) (c x : Nat) : Prop := (x < c ∧ (p.getD x (-1) = 0 ∨ p.getD x (-1) = 1)) ∨ (0 < x ∧ x - 1 < c ∧ p.getD (x - 1) (-1) = 0) ∨ (w ≤ x ∧ x - w < c ∧ p.getD (x - w) (-1) = 1)
def pvI (w n : Nat) (hl : Nat → Bool) (p : List Int) (c k : Nat) (σ : Nat → Int) : Prop := rOK w n hl σ ∧ k ≤ 18 ∧ (∀ j, j < k → 0 ≤ σ j) ∧ (∀ j, k ≤ j → j < 18 → σ j = -2) ∧ (∀ x : Nat, (∃ j, j < 18 ∧ rAt w σ (x : Int) j = true) ↔ cvc w p c x) ∧ ∀ j, 75 ≤ j → σ j = 0
section PP
variable {w h n nh : Nat} {hl : Nat → Bool} {ρ σ : Nat → Int} {p : List Int}
theorem cpl_cvc {c k x : Nat} (hv : pvI w n hl p c k σ) : rCpl w σ (x : Int) = none ↔ ¬ cvc w p c x := by
  rw [← hv.2.2.2.2.1 x]
  constructor
  · rintro e ⟨j, j1, j2⟩
    rw [rCpl_not e j j1] at j2; cases j2
  · intro q
    refine rCpl_none (fun k hk => ?_)
    cases z : rAt w σ (x : Int) k with
    | false => rfl
    | true => exact absurd ⟨k, hk, z⟩ q
/-- what p says of cell x -/
theorem p_one (sq : sqOK w h n nh hl) (hp : p ∈ Lp w n noB noB n 0 hl) {x : Nat} (hx : x < n) (h0 : hl x = false) : (if p.getD x (-1) = 0 then 1 else 0) + (if p.getD x (-1) = 1 then 1 else 0) + (if 0 < x ∧ p.getD (x - 1) (-1) = 0 then 1 else 0) + (if w ≤ x ∧ p.getD (x - w) (-1) = 1 then 1 else 0) = 1 := by
  have hw := sq.1
  have h1 := Lp_once (by omega) hp x (by omega) (by omega)
  rw [cvN_wy (by omega), wy_g, wy_g, wy_g, h0] at h1
  exact h1
theorem p_wy (hp : p ∈ Lp w n noB noB n 0 hl) (x : Nat) : (p.getD x (-1) = 0 → hl x = false ∧ hl (x + 1) = false ∧ x % w + 1 < w) ∧ (p.getD x (-1) = 1 → hl x = false ∧ hl (x + w) = false ∧ x + w < n) ∧ (p.getD x (-1) = -1 ∨ p.getD x (-1) = 0 ∨ p.getD x (-1) = 1) := by
  have := Lp_wy hp x
  rw [wy_g] at this
  exact this.2
theorem pv_free (sq : sqOK w h n nh hl) (hp : p ∈ Lp w n noB noB n 0 hl) {c k : Nat} (hc : c < n) (hv : pvI w n hl p c k σ) : frB w n hl σ (c : Int) = decide (0 ≤ p.getD c (-1)) := by
  have h1' := fun q => p_one sq hp hc q
  have h2 := p_wy hp c
  have hw := sq.1
  have h3 := cpl_cvc (x := c) hv
  have hcv : cvc w p c c ↔ (0 < c ∧ p.getD (c - 1) (-1) = 0) ∨ (w ≤ c ∧ p.getD (c - w) (-1) = 1) := by
    unfold cvc
    constructor
    · rintro (q | q | q)
      · omega
      · exact Or.inl ⟨q.1, q.2.2⟩
      · exact Or.inr ⟨q.1, q.2.2⟩
    · rintro (q | q)
      · exact Or.inr (Or.inl ⟨q.1, by omega, q.2⟩)
      · exact Or.inr (Or.inr ⟨q.1, by omega, q.2⟩)
  have ht := tk_free (hl := hl) (w := w) (ρ := σ) hc
  have hf : frB w n hl σ (c : Int) = !tkR hl w σ c := by rw [ht, Bool.not_not]
  rw [hf]
  unfold tkR
  by_cases z : 0 ≤ p.getD c (-1)
  · rw [decide_eq_true z]
    have z2 : p.getD c (-1) = 0 ∨ p.getD c (-1) = 1 := by omega
    have hlc : hl c = false := by rcases z2 with q | q; exact (h2.1 q).1; exact (h2.2.1 q).1
    have hno : ¬ cvc w p c c := by
      have h1 := h1' hlc
      rw [hcv]
      intro q
      rcases z2 with e | e
      · rw [if_pos e] at h1
        rcases q with q | q
        · rw [if_pos q] at h1; omega
        · rw [if_pos q] at h1; omega
      · rw [if_pos e] at h1
        rcases q with q | q
        · rw [if_pos q] at h1; omega
        · rw [if_pos q] at h1; omega
    rw [hlc, h3.mpr hno]; rfl
  · rw [decide_eq_false z]
    have z2 : p.getD c (-1) = -1 := by omega
    cases e : hl c with
    | true => rfl
    | false =>
      have hyes : cvc w p c c := by
        rw [hcv]
        have h1 := h1' e
        rw [z2, if_neg (show ¬ (-1 : Int) = 0 by decide), if_neg (show ¬ (-1 : Int) = 1 by decide)] at h1
        by_cases q1 : 0 < c ∧ p.getD (c - 1) (-1) = 0
        · exact Or.inl q1
        · by_cases q2 : w ≤ c ∧ p.getD (c - w) (-1) = 1
          · exact Or.inr q2
          · rw [if_neg q1, if_neg q2] at h1
            omega
      cases q : rCpl w σ (c : Int) with
      | none => exact absurd hyes (h3.mp q)
      | some k => rfl
/-- one more stone -/
theorem pv_step (sq : sqOK w h n nh hl) (hp : p ∈ Lp w n noB noB n 0 hl) {c k : Nat} (hc : c < n) (hv : pvI w n hl p c k σ) (z : 0 ≤ p.getD c (-1)) : k < 18 ∧ σ k = -2 ∧ (p.getD c (-1) = 0 ∨ p.getD c (-1) = 1) ∧ rOK w n hl (rPut σ k (c : Int) (p.getD c (-1))) ∧ pvI w n hl p (c + 1) (k + 1) (rPut σ k (c : Int) (p.getD c (-1))) := by
  have hfr := pv_free sq hp hc hv
  rw [decide_eq_true z] at hfr
  obtain ⟨f1, f2⟩ := frB_t hfr
  have hw : 2 ≤ w ∧ w ≤ 6 := ⟨sq.1, sq.2.1⟩
  have hn := sq.2.2.2.2.2.2.1
  have hnw := sq.2.2.2.2.1
  have h2 := p_wy hp c
  have z2 : p.getD c (-1) = 0 ∨ p.getD c (-1) = 1 := by omega
  have hv' := hv
  obtain ⟨v1, v2, v3, v4, v5, v6⟩ := hv
  obtain ⟨k', l1, l2, l3, l4⟩ := left_one hw hn hnw v1 hc f2
  have hk : k < 18 := by
    by_cases q : k < 18
    · exact q
    · have := v3 k' (by omega); omega
  have hlc : hl c = false := by rcases z2 with q | q; exact (h2.1 q).1; exact (h2.2.1 q).1
  obtain ⟨o, ho, hoe⟩ : ∃ o : Nat, o < n ∧ ((p.getD c (-1) = 0 ∧ o = c + 1 ∧ c % w + 1 < w) ∨ (p.getD c (-1) = 1 ∧ o = c + w)) := by
    rcases z2 with q | q
    · exact ⟨c + 1, hr_of (by omega) hnw c (h2.1 q).2.2 hc, Or.inl ⟨q, rfl, (h2.1 q).2.2⟩⟩
    · exact ⟨c + w, (h2.2.1 q).2.2, Or.inr ⟨q, rfl⟩⟩
  have hlo : hl o = false := by
    rcases hoe with ⟨q, e, _⟩ | ⟨q, e⟩
    · rw [e]; exact (h2.1 q).2.1
    · rw [e]; exact (h2.2.1 q).2.1
  have hco : ¬ cvc w p c o := by
    have h1 := p_one sq hp ho hlo
    intro q
    unfold cvc at q
    rcases hoe with ⟨e1, e2, _⟩ | ⟨e1, e2⟩
    · have g1 : 0 < o ∧ p.getD (o - 1) (-1) = 0 := ⟨by omega, by rw [show o - 1 = c by omega]; exact e1⟩
      rw [if_pos g1] at h1
      rcases q with q | q | q
      · omega
      · omega
      · rw [if_pos (show w ≤ o ∧ p.getD (o - w) (-1) = 1 from ⟨q.1, q.2.2⟩)] at h1; omega
    · have g1 : w ≤ o ∧ p.getD (o - w) (-1) = 1 := ⟨by omega, by rw [show o - w = c by omega]; exact e1⟩
      rw [if_pos g1] at h1
      rcases q with q | q | q
      · omega
      · rw [if_pos (show 0 < o ∧ p.getD (o - 1) (-1) = 0 from ⟨q.1, q.2.2⟩)] at h1; omega
      · omega
  have hok := rOK_put hw hn hnw v1 hk hc ho hoe hlc hlo f2 ((cpl_cvc hv').mpr hco)
  refine ⟨hk, v4 k (by omega) hk, z2, hok, hok, by omega, fun j hj => ?_, fun j j1 j2 => ?_, fun x => ?_, rPut_z hk v6⟩
  · by_cases e : j = k
    · rw [e, rPut_k]; omega
    · rw [rPut_n (by omega)]; exact v3 j (by omega)
  · rw [rPut_n (by omega)]; exact v4 j (by omega) j2
  · have othk : rOth w (rPut σ k (c : Int) (p.getD c (-1))) k = (o : Int) := by
      unfold rOth
      rw [rPut_18, rPut_k]
      rcases hoe with ⟨e1, e2, _⟩ | ⟨e1, e2⟩
      · rw [if_neg (by omega)]; omega
      · rw [if_pos e1]; omega
    have lft : (∃ j, j < 18 ∧ rAt w (rPut σ k (c : Int) (p.getD c (-1))) (x : Int) j = true) ↔ cvc w p c x ∨ x = c ∨ x = o := by
      rw [← v5 x]
      constructor
      · rintro ⟨j, j1, j2⟩
        by_cases e : j = k
        · subst e
          rw [rAt_iff, rPut_k, othk] at j2
          omega
        · refine Or.inl ⟨j, j1, ?_⟩
          rw [rAt_iff] at j2 ⊢
          unfold rOth at j2 ⊢
          rw [rPut_n (by omega), rPut_n (by omega)] at j2
          exact j2
      · rintro (⟨j, j1, j2⟩ | e)
        · have e : j ≠ k := fun e => by
            rw [e, rAt_iff, v4 k (by omega) hk] at j2; omega
          refine ⟨j, j1, ?_⟩
          rw [rAt_iff] at j2 ⊢
          unfold rOth at j2 ⊢
          rw [rPut_n (by omega), rPut_n (by omega)]
          exact j2
        · refine ⟨k, hk, ?_⟩
          rw [rAt_iff, rPut_k, othk]
          omega
    rw [lft]
    unfold cvc
    constructor
    · rintro ((q | q | q) | rfl | rfl)
      · exact Or.inl ⟨by omega, q.2⟩
      · exact Or.inr (Or.inl ⟨q.1, by omega, q.2.2⟩)
      · exact Or.inr (Or.inr ⟨q.1, by omega, q.2.2⟩)
      · exact Or.inl ⟨by omega, z2⟩
      · rcases hoe with ⟨e1, e2, _⟩ | ⟨e1, e2⟩
        · exact Or.inr (Or.inl ⟨by omega, by omega, by rw [show x - 1 = c by omega]; exact e1⟩)
        · exact Or.inr (Or.inr ⟨by omega, by omega, by rw [show x - w = c by omega]; exact e1⟩)
    · rintro (q | q | q)
      · by_cases e : x = c
        · exact Or.inr (Or.inl e)
        · exact Or.inl (Or.inl ⟨by omega, q.2⟩)
      · by_cases e : x - 1 = c
        · rw [e] at q
          refine Or.inr (Or.inr ?_)
          rcases hoe with ⟨e1, e2, _⟩ | ⟨e1, e2⟩ <;> omega
        · exact Or.inl (Or.inr (Or.inl ⟨q.1, by omega, q.2.2⟩))
      · by_cases e : x - w = c
        · rw [e] at q
          refine Or.inr (Or.inr ?_)
          rcases hoe with ⟨e1, e2, _⟩ | ⟨e1, e2⟩ <;> omega
        · exact Or.inl (Or.inr (Or.inr ⟨q.1, by omega, q.2.2⟩))
theorem pv_skip (hp : p ∈ Lp w n noB noB n 0 hl) {c k : Nat} (hv : pvI w n hl p c k σ) (z : ¬ 0 ≤ p.getD c (-1)) : pvI w n hl p (c + 1) k σ := by
  obtain ⟨v1, v2, v3, v4, v5, v6⟩ := hv
  refine ⟨v1, v2, v3, v4, fun x => ?_, v6⟩
  rw [v5 x]
  unfold cvc
  constructor
  · rintro (q | q | q)
    · exact Or.inl ⟨by omega, q.2⟩
    · exact Or.inr (Or.inl ⟨q.1, by omega, q.2.2⟩)
    · exact Or.inr (Or.inr ⟨q.1, by omega, q.2.2⟩)
  · rintro (q | q | q)
    · by_cases e : x = c
      · rw [e] at q; omega
      · exact Or.inl ⟨by omega, q.2⟩
    · by_cases e : x - 1 = c
      · rw [e] at q; omega
      · exact Or.inr (Or.inl ⟨q.1, by omega, q.2.2⟩)
    · by_cases e : x - w = c
      · rw [e] at q; omega
      · exact Or.inr (Or.inr ⟨q.1, by omega, q.2.2⟩)
theorem pv_inv (sq : sqOK w h n nh hl) (hp : p ∈ Lp w n noB noB n 0 hl) (hz : ∀ j, 75 ≤ j → ρ j = 0) : ∀ c, c ≤ n → pvI w n hl p c (pvP (rClr ρ) p c).1 (pvP (rClr ρ) p c).2
  | 0, _ => by
    refine ⟨rOK_clr ρ, by show 0 ≤ 18; omega, fun j hj => absurd hj (Nat.not_lt_zero j), fun j _ hj => clr_lies ρ hj, fun x => ⟨fun q => ?_, fun q => ?_⟩, fun j hj => ?_⟩
    · obtain ⟨j, j1, j2⟩ := q
      rw [rAt_iff] at j2
      have := clr_lies ρ j1
      have j20 := j2.1
      have e : (pvP (rClr ρ) p 0).2 = rClr ρ := rfl
      rw [e] at j20
      omega
    · unfold cvc at q; omega
    · show rClr ρ j = 0
      unfold rClr
      rw [if_neg (by omega), if_neg (by omega)]; exact hz j hj
  | c + 1, hc => by
    have ih := pv_inv sq hp hz c (by omega)
    rw [pvP_s]
    by_cases z : 0 ≤ p.getD c (-1)
    · rw [if_pos z]; exact (pv_step sq hp (by omega) ih z).2.2.2.2
    · rw [if_neg z]; exact pv_skip hp ih z
theorem pv_full (sq : sqOK w h n nh hl) (hp : p ∈ Lp w n noB noB n 0 hl) (hz : ∀ j, 75 ≤ j → ρ j = 0) {c : Nat} (h18 : (pvP (rClr ρ) p c).1 = 18) : ∀ d, c + d ≤ n → pvP (rClr ρ) p (c + d) = pvP (rClr ρ) p c
  | 0, _ => rfl
  | d + 1, hd => by
    have ih := pv_full sq hp hz h18 d (by omega)
    rw [show c + (d + 1) = (c + d) + 1 by omega, pvP_s]
    have inv := pv_inv sq hp hz (c + d) (by omega)
    by_cases z : 0 ≤ p.getD (c + d) (-1)
    · have := (pv_step sq hp (by omega) inv z).1
      rw [ih] at this
      omega
    · rw [if_neg z]; exact ih
theorem ln_bit (hnw : n = w * h) (hw : 0 < w) (hl' : p.length = n) {c : Nat} (hc : c < n) : (row1 w (p.drop (c / w * w))).testBit (w - 1 - c % w) = (p.getD c (-1) == 1) := by
  have hm := Nat.mod_lt c hw
  have hd := Nat.div_add_mod c w
  rw [Nat.mul_comm] at hd
  unfold row1
  rw [mkM_tb, decide_eq_true (show w - 1 - c % w < w by omega), Bool.true_and, List.getD_eq_getElem?_getD, List.getElem?_drop, ← List.getD_eq_getElem?_getD, show c / w * w + (w - 1 - (w - 1 - c % w)) = c by omega]
end PP
section PQ
variable {t d rt : Nat} {I J K : Nat → Nat → Int} {lv w h n nh r : Nat} {hl cl na nd U : Nat → Bool} {sd : Int} {ifs : Nat → List LwI} {xs : Nat → List CI} {ρ : Nat → Int} {u : Nat} {H : Nat → Nat → Int} {hd : Nat → Bool} {G : Nat → Nat → Int} {p : List Int}
/-- the first m couples lifted -/
def rLm (ρ : Nat → Int) (m : Nat) : Nat → Int := fun j => if j < m then (-2 : Int) else if 18 ≤ j ∧ j < 18 + m then 0 else if 36 ≤ j ∧ j < 36 + m then 0 else if 54 ≤ j ∧ j < 54 + m then 0 else ρ j
theorem rLm_s {m : Nat} (hm : m < 18) : rPut (rLm ρ m) m (-2) 0 = rLm ρ (m + 1) := by
  funext j
  unfold rPut rLm
  by_cases e1 : j = 54 + m
  · rw [if_pos e1, if_neg (by omega), if_neg (by omega), if_neg (by omega), if_pos (by omega)]
  · rw [if_neg e1]
    by_cases e2 : j = 36 + m
    · rw [if_pos e2, if_neg (by omega), if_neg (by omega), if_pos (by omega)]
    · rw [if_neg e2]
      by_cases e3 : j = 18 + m
      · rw [if_pos e3, if_neg (by omega), if_pos (by omega)]
      · rw [if_neg e3]
        by_cases e4 : j = m
        · rw [if_pos e4, if_pos (by omega)]
        · rw [if_neg e4]
          by_cases q1 : j < m
          · rw [if_pos q1, if_pos (by omega)]
          · rw [if_neg q1, if_neg (show ¬ j < m + 1 by omega)]
            by_cases q2 : 18 ≤ j ∧ j < 18 + m
            · rw [if_pos q2, if_pos (by omega)]
            · rw [if_neg q2, if_neg (show ¬ (18 ≤ j ∧ j < 18 + (m + 1)) by omega)]
              by_cases q3 : 36 ≤ j ∧ j < 36 + m
              · rw [if_pos q3, if_pos (by omega)]
              · rw [if_neg q3, if_neg (show ¬ (36 ≤ j ∧ j < 36 + (m + 1)) by omega)]
                by_cases q4 : 54 ≤ j ∧ j < 54 + m
                · rw [if_pos q4, if_pos (by omega)]
                · rw [if_neg q4, if_neg (show ¬ (54 ≤ j ∧ j < 54 + (m + 1)) by omega)]
theorem rLm_0 : rLm ρ 0 = ρ := by
  funext j
  unfold rLm
  rw [if_neg (by omega), if_neg (by omega), if_neg (by omega), if_neg (by omega)]
theorem rLm_18 : rLm ρ 18 = rClr ρ := by
  funext j
  unfold rLm rClr
  by_cases q1 : j < 18
  · rw [if_pos q1, if_pos q1]
  · rw [if_neg q1, if_neg q1]
    by_cases q : j < 72
    · rw [if_pos q]
      by_cases q2 : 18 ≤ j ∧ j < 18 + 18
      · rw [if_pos q2]
      · rw [if_neg q2]
        by_cases q3 : 36 ≤ j ∧ j < 36 + 18
        · rw [if_pos q3]
        · rw [if_neg q3, if_pos (by omega)]
    · rw [if_neg q, if_neg (by omega), if_neg (by omega), if_neg (by omega)]
theorem P_pave (hI : INV t d rt I) {x : Int} (hx : in32 x) : both t d rt (f_X11_pave 0 x (mm t d rt I)) (fun M => f_X12_pave 369 x M) := by
  have hI' := hI
  obtain ⟨lv, w, h, n, nh, hl, sd, ifs, xs, hR, ρ, u, H, hd, G, hC, hM⟩ := hI
  have sq := hR.2.1
  have hcf := hR.2.2.1
  have hmf := hR.2.2.2.1
  have hz := hR.2.2.2.2.2.2.2.2.2
  have hE := hR.2.2.2.2.2.2.2.1
  have htx := hcf.1
  have kt := (tx_k htx).1
  have kb := (tx_k htx).2.2.2
  have hnw := sq.2.2.2.2.1
  have hn := sq.2.2.2.2.2.2.1
  have hw : 2 ≤ w ∧ w ≤ 6 := ⟨sq.1, sq.2.1⟩
  have hh : 2 ≤ h ∧ h ≤ 6 := ⟨sq.2.2.1, sq.2.2.2.1⟩
  have hx' := hx
  unfold in32 at hx'
  have ex := wr_in hx
  have ht := c_every hR
  have hTb := Np_b (na := noB) (nd := noB) (cl := hl) (show 0 < w by omega) hnw hn
  obtain ⟨T, hT⟩ : ∃ T, T = Np w n noB noB n 0 hl := ⟨_, rfl⟩
  rw [← hT] at ht hTb
  have hWt := Wr_tot (w := w) (h := h) (cl := hl) (na := noB) (nd := noB) (by omega) hw.2 (by omega) no_cl
  rw [← hnw, ← hT] at hWt
  have htxx : t = 3 ∨ t = 16 := by simpa using htx
  unfold both f_X11_pave
  by_cases z : 0 ≤ x ∧ x < T
  · obtain ⟨i, rfl⟩ : ∃ i : Nat, x = (i : Int) := ⟨x.toNat, by omega⟩
    have in1 := fun (M : jMem) => m_in_t (a := 0) (b := (T : Int) - 1) (M := M) hx (i32 (by omega) (by omega)) (i32 (by omega) (by omega)) (by omega)
    obtain ⟨p, hp⟩ : ∃ p, p = nthP w n noB noB n 0 hl i := ⟨_, rfl⟩
    have hpm : p ∈ Lp w n noB noB n 0 hl := by rw [hp]; exact nth_mem (by rw [← hT]; omega)
    have hpl : p.length = n := Lp_len hpm
    have hρz := hM.2.1
    (repeat (first | (with_reducible apply wm_o; focus (simp (disch := omega) only [wr_id, Int.toNat_natCast, Int.reduceToNat, tn_lk, tn_kl, if_pos, if_neg, ↓reduceIte, and_self, and_true, true_and, FX, ht]; with_reducible rfl)) | (with_reducible apply wm_q) | (with_reducible apply wm_c; focus (first | assumption | decide +kernel)) | (with_reducible apply wm_d; focus (simp (disch := omega) only [wr_id, Int.toNat_natCast, Int.reduceToNat, tn_lk, tn_kl, if_pos, if_neg, ↓reduceIte, and_self, and_true, true_and, FX, ht]; with_reducible rfl)) | (with_reducible apply wm_t; focus (first | omega | (simp (disch := omega) only [wr_id, FX, ht]; omega) | (simp (disch := omega) only [wr_id, FX, ht]; done))) | (with_reducible apply wm_f; focus (first | omega | (simp (disch := omega) only [wr_id, FX, ht]; omega) | (simp (disch := omega) only [wr_id, FX, ht]; done)))))
    refine wm_b (c_keep hC) (fun v J hJ => ?_)
    obtain ⟨j1, j2⟩ := hJ
    (repeat (first | (with_reducible apply wm_o; focus (simp (disch := omega) only [wr_id, Int.toNat_natCast, Int.reduceToNat, tn_lk, tn_kl, if_pos, if_neg, ↓reduceIte, and_self, and_true, true_and, FX]; with_reducible rfl)) | (with_reducible apply wm_q) | (with_reducible apply wm_c; focus (first | assumption | decide +kernel)) | (with_reducible apply wm_d; focus (simp (disch := omega) only [wr_id, Int.toNat_natCast, Int.reduceToNat, tn_lk, tn_kl, if_pos, if_neg, ↓reduceIte, and_self, and_true, true_and, FX]; with_reducible rfl)) | (with_reducible apply wm_t; focus (first | omega | (simp (disch := omega) only [wr_id, FX]; omega) | (simp (disch := omega) only [wr_id, FX]; done))) | (with_reducible apply wm_f; focus (first | omega | (simp (disch := omega) only [wr_id, FX]; omega) | (simp (disch := omega) only [wr_id, FX]; done)))))
    refine wm_b (w_takeAll now_in j2.2.1) (fun v2 J2 hJ2 => ?_)
    obtain ⟨p1, p2⟩ := hJ2
    have f2 : frm (fun a => scrC a ∨ stS a) I J2 := frm_trans j1 (frm_sub p1 (fun a ha => Or.inr (by unfold stF at ha; unfold stS; omega)))
    have s2 := stC_now j2 p1 (rOK_clr ρ) p2
    have e2 : evI J2 w h hl := (REST_c f2 hR).2.2.2.2.2.2.2.1
    (repeat (first | (with_reducible apply wm_o; focus (simp (disch := omega) only [wr_id, Int.toNat_natCast, Int.reduceToNat, tn_lk, tn_kl, if_pos, if_neg, ↓reduceIte, and_self, and_true, true_and, FX]; with_reducible rfl)) | (with_reducible apply wm_q) | (with_reducible apply wm_c; focus (first | assumption | decide +kernel)) | (with_reducible apply wm_d; focus (simp (disch := omega) only [wr_id, Int.toNat_natCast, Int.reduceToNat, tn_lk, tn_kl, if_pos, if_neg, ↓reduceIte, and_self, and_true, true_and, FX]; with_reducible rfl)) | (with_reducible apply wm_t; focus (first | omega | (simp (disch := omega) only [wr_id, FX]; omega) | (simp (disch := omega) only [wr_id, FX]; done))) | (with_reducible apply wm_f; focus (first | omega | (simp (disch := omega) only [wr_id, FX]; omega) | (simp (disch := omega) only [wr_id, FX]; done)))))
    refine wm_b (w_lineAt ev_in e2.1 e2.2.1 no_cl (i := i) (by rw [hWt]; omega)) (fun v3 J3 hJ3 => ?_)
    obtain ⟨q1, q2⟩ := hJ3
    rw [ln_line (by omega) hw.2 (by omega) no_cl hnw (by rw [← hT]; omega), ← hp] at q2
    have f3 : frm (fun a => scrC a ∨ stS a) I J3 := frm_trans f2 (frm_sub q1 (fun a ha => Or.inl (by unfold scrC; omega)))
    have s3 : stC J3 w n hl (rClr ρ) (min (u + 1) 40) (hCons ρ H) hd G := stC_frm q1 (fun a ha => by unfold stS at ha; omega) s2
    have e3 : J3 311 5 = (w : Int) := by
      have := ((REST_c f3 hR).2.2.2.2.2.2.2.1).1.1
      exact this
    have c3 := cfC_frm f3 (fun a a1 a2 => by unfold scrC stS; omega) hcf
    -- the model, once the class has laid
    have mod : ∀ K : Nat → Nat → Int, frm (fun a => scrC a ∨ stS a) I K → stC K w n hl (pvP (rClr ρ) p n).2 (min (u + 1) 40) (hCons ρ H) hd G → wm t d rt (f_X12_pave 369 (i : Int) (mm t d rt K)) (fun r' N => jd_wr 1 = jd_wr r' ∧ INV t d rt N) := by
      intro K kf kC
      have hRK := REST_c kf hR
      have hMK := stM_c kf hM
      unfold f_X12_pave
      (repeat (first | (with_reducible apply wm_o; focus (simp (disch := omega) only [wr_id, Int.toNat_natCast, Int.reduceToNat, tn_lk, tn_kl, if_pos, if_neg, ↓reduceIte, and_self, and_true, true_and]; with_reducible rfl)) | (with_reducible apply wm_q) | (with_reducible apply wm_c; focus (first | assumption | decide +kernel)) | (with_reducible apply wm_d; focus (simp (disch := omega) only [wr_id, Int.toNat_natCast, Int.reduceToNat, tn_lk, tn_kl, if_pos, if_neg, ↓reduceIte, and_self, and_true, true_and]; with_reducible rfl)) | (with_reducible apply wm_t; focus (first | omega | (simp (disch := omega) only [wr_id]; omega) | (simp (disch := omega) only [wr_id]; done))) | (with_reducible apply wm_f; focus (first | omega | (simp (disch := omega) only [wr_id]; omega) | (simp (disch := omega) only [wr_id]; done)))))
      refine wm_b (m_countsAll hRK.2.2.2.1 hRK.2.2.2.2.2.2.2.2.2) (fun v4 L hL => ?_)
      obtain ⟨rfl, l1, l2⟩ := hL
      rw [← hT]
      have cL := cfM_frm l1 (fun a _ _ _ _ _ _ _ _ => by omega) (fun q => q) hRK.2.2.2.1
      have zL := zM_fr hRK.2.2.2.2.2.2.2.2.2 l1 (by decide) (by decide) (by decide)
      have l1' : frM scrM scrF K L := frM_f l1 (fun a ha => by unfold scrM; omega)
      have hML := stM_q l1' hMK
      (repeat (first | (with_reducible apply wm_o; focus (simp (disch := omega) only [wr_id, Int.toNat_natCast, Int.reduceToNat, tn_lk, tn_kl, if_pos, if_neg, ↓reduceIte, and_self, and_true, true_and, in1]; with_reducible rfl)) | (with_reducible apply wm_q) | (with_reducible apply wm_c; focus (first | assumption | decide +kernel)) | (with_reducible apply wm_d; focus (simp (disch := omega) only [wr_id, Int.toNat_natCast, Int.reduceToNat, tn_lk, tn_kl, if_pos, if_neg, ↓reduceIte, and_self, and_true, true_and, in1]; with_reducible rfl)) | (with_reducible apply wm_t; focus (first | omega | (simp (disch := omega) only [wr_id, in1]; omega) | (simp (disch := omega) only [wr_id, in1]; done))) | (with_reducible apply wm_f; focus (first | omega | (simp (disch := omega) only [wr_id, in1]; omega) | (simp (disch := omega) only [wr_id, in1]; done)))))
      refine wm_b (m_copies cL.1 cL.2.2.1 (by rw [hML.1]; exact hML.2.1) zL.1) (fun v5 L2 hL2 => ?_)
      obtain ⟨k1, k4, k5⟩ := hL2
      rw [hML.1] at k4
      have k2 : zM L2 := by
        refine ⟨by rw [k4]; exact hρz, ?_, ?_⟩
        · unfold b01; rw [k1.1 409 (by decide) (by decide)]; exact zL.2.1
        · unfold b01; rw [k1.1 410 (by decide) (by decide)]; exact zL.2.2
      have k3 := cfM_frm k1 (fun a _ _ _ _ _ _ _ _ => by omega) (by decide) cL
      have t8 : flg L2 408 hl := flg_ne (k1.1 408 (by decide) (by decide)) l2.1
      have tT : wkT L2 406 w n hl noB noB := fun c m hc hm => by rw [k1.1 406 (by decide) (by decide)]; exact l2.2 c m hc hm
      (repeat (first | (with_reducible apply wm_o; focus (simp (disch := omega) only [wr_id, Int.toNat_natCast, Int.reduceToNat, tn_lk, tn_kl, if_pos, if_neg, ↓reduceIte, and_self, and_true, true_and]; with_reducible rfl)) | (with_reducible apply wm_q) | (with_reducible apply wm_c; focus (first | assumption | decide +kernel)) | (with_reducible apply wm_d; focus (simp (disch := omega) only [wr_id, Int.toNat_natCast, Int.reduceToNat, tn_lk, tn_kl, if_pos, if_neg, ↓reduceIte, and_self, and_true, true_and]; with_reducible rfl)) | (with_reducible apply wm_t; focus (first | omega | (simp (disch := omega) only [wr_id]; omega) | (simp (disch := omega) only [wr_id]; done))) | (with_reducible apply wm_f; focus (first | omega | (simp (disch := omega) only [wr_id]; omega) | (simp (disch := omega) only [wr_id]; done)))))
      refine wm_b (m_fillsWays k3.1 t8 k2.2.1 tT (i := i) (by rw [← hT]; omega)) (fun v6 L3 hL3 => ?_)
      obtain ⟨m1, m2⟩ := hL3
      rw [← hp] at m2
      have L34 : L3 401 = ρ := (m1.1 401 (by decide) (by decide)).trans k4
      have c3' := cfM_frm m1 (fun a _ _ _ _ _ _ _ _ => by omega) (fun q => q) k3
      have k1s : frM scrM scrF K L3 := frM_trans l1' (frM_trans (frM_sub k1 (fun a ha => by unfold scrM; omega) (fun a ha => by unfold scrF; omega)) (frM_f m1 (fun a ha => by unfold scrM; omega)))
      refine wm_lp2 18 (fun q y N => y = (q : Int) ∧ frM (fun a => a = 401) (fun _ => False) L3 N ∧ N 401 = rLm ρ q) ?_ (jfuel_n (by decide)) ⟨rfl, frM_refl _ _ _, by rw [L34, rLm_0]⟩
      rintro q hq y N ⟨rfl, hN, N4⟩ rec hrec
      refine wm_if (fun cc => ?_) (fun cc => ?_)
      · simp (disch := omega) only [wr_id] at cc
        (repeat (first | (with_reducible apply wm_o; focus (simp (disch := omega) only [wr_id, Int.toNat_natCast, Int.reduceToNat, tn_lk, tn_kl, if_pos, if_neg, ↓reduceIte, and_self, and_true, true_and]; with_reducible rfl)) | (with_reducible apply wm_q) | (with_reducible apply wm_c; focus (first | assumption | decide +kernel)) | (with_reducible apply wm_d; focus (simp (disch := omega) only [wr_id, Int.toNat_natCast, Int.reduceToNat, tn_lk, tn_kl, if_pos, if_neg, ↓reduceIte, and_self, and_true, true_and]; with_reducible rfl)) | (with_reducible apply wm_t; focus (first | omega | (simp (disch := omega) only [wr_id]; omega) | (simp (disch := omega) only [wr_id]; done))) | (with_reducible apply wm_f; focus (first | omega | (simp (disch := omega) only [wr_id]; omega) | (simp (disch := omega) only [wr_id]; done)))))
        refine wm_b (m_lifted (show q < 18 by omega)) (fun v7 N2 hN2 => ?_)
        exact hrec (q + 1) _ _ (by omega) (by omega) ⟨by omega, frM_trans hN hN2.1, by rw [hN2.2, N4, rLm_s (by omega)]⟩
      · simp (disch := omega) only [wr_id] at cc
        obtain rfl : q = 18 := by omega
        rw [rLm_18] at N4
        clear hrec rec
        refine wm_lp3 n (fun c k y P => y = (c : Int) ∧ k = ((pvP (rClr ρ) p c).1 : Int) ∧ frM (fun a => a = 401) (fun _ => False) L3 P ∧ P 401 = (pvP (rClr ρ) p c).2) ?_ (Nat.lt_of_le_of_lt hn (jfuel_n (by decide))) ⟨rfl, rfl, hN, N4⟩
        rintro c hc k y P ⟨rfl, rfl, hP, P4⟩ rec hrec
        have cP := cfM_frm hP (fun a _ _ _ _ _ _ _ _ => by omega) (fun q => q) c3'
        have hce2 := s_cells (t := t) (d := d) (rt := rt) cP.1
        have inv := pv_inv (ρ := ρ) sq hpm hρz c (by omega)
        by_cases e : c = n
        · subst e
          (repeat (first | (with_reducible apply wm_o; focus (simp (disch := omega) only [wr_id, Int.toNat_natCast, Int.reduceToNat, tn_lk, tn_kl, if_pos, if_neg, ↓reduceIte, and_self, and_true, true_and, hce2]; with_reducible rfl)) | (with_reducible apply wm_q) | (with_reducible apply wm_c; focus (first | assumption | decide +kernel)) | (with_reducible apply wm_d; focus (simp (disch := omega) only [wr_id, Int.toNat_natCast, Int.reduceToNat, tn_lk, tn_kl, if_pos, if_neg, ↓reduceIte, and_self, and_true, true_and, hce2]; with_reducible rfl)) | (with_reducible apply wm_t; focus (first | omega | (simp (disch := omega) only [wr_id, hce2]; omega) | (simp (disch := omega) only [wr_id, hce2]; done))) | (with_reducible apply wm_f; focus (first | omega | (simp (disch := omega) only [wr_id, hce2]; omega) | (simp (disch := omega) only [wr_id, hce2]; done)))))
          have kP : frM scrM scrF K P := frM_trans k1s (frM_f hP (fun a ha => by unfold scrM; omega))
          refine wm_b (m_rec (stM_q kP hMK) P4 inv.2.2.2.2.2) (fun v8 P2 hP2 => ?_)
          obtain ⟨r1, r2⟩ := hP2
          have zP : zM P := by
            refine ⟨by rw [P4]; exact inv.2.2.2.2.2, ?_, ?_⟩
            · unfold b01; rw [hP.1 409 (by decide) (by decide), m1.1 409 (by decide) (by decide)]; exact k2.2.1
            · unfold b01; rw [hP.1 410 (by decide) (by decide), m1.1 410 (by decide) (by decide)]; exact k2.2.2
          exact wm_z1 ⟨rfl, INV_s hR kf (frM_trans (frM_sub kP (fun a ha => Or.inl ha) (fun a ha => Or.inl ha)) (frM_sub r1 (fun a ha => Or.inr ha) (fun a ha => Or.inr ha))) (zM_st zP r1) kC r2⟩
        · have hcn : c < n := by omega
          have w4 : P 411 c = p.getD c (-1) := by rw [hP.1 411 (by decide) (by decide)]; exact m2 c hcn
          by_cases zp : 0 ≤ p.getD c (-1)
          · obtain ⟨g1, g2, g3, g4, g5⟩ := pv_step sq hpm hcn inv zp
            have es : pvP (rClr ρ) p (c + 1) = ((pvP (rClr ρ) p c).1 + 1, rPut (pvP (rClr ρ) p c).2 (pvP (rClr ρ) p c).1 (c : Int) (p.getD c (-1))) := by rw [pvP_s, if_pos zp]
            generalize hgp : p.getD c (-1) = gp at *
            (repeat (first | (with_reducible apply wm_o; focus (simp (disch := omega) only [wr_id, Int.toNat_natCast, Int.reduceToNat, tn_lk, tn_kl, if_pos, if_neg, ↓reduceIte, and_self, and_true, true_and, hce2, FM, w4]; with_reducible rfl)) | (with_reducible apply wm_q) | (with_reducible apply wm_c; focus (first | assumption | decide +kernel)) | (with_reducible apply wm_d; focus (simp (disch := omega) only [wr_id, Int.toNat_natCast, Int.reduceToNat, tn_lk, tn_kl, if_pos, if_neg, ↓reduceIte, and_self, and_true, true_and, hce2, FM, w4]; with_reducible rfl)) | (with_reducible apply wm_t; focus (first | omega | (simp (disch := omega) only [wr_id, hce2, FM, w4]; omega) | (simp (disch := omega) only [wr_id, hce2, FM, w4]; done))) | (with_reducible apply wm_f; focus (first | omega | (simp (disch := omega) only [wr_id, hce2, FM, w4]; omega) | (simp (disch := omega) only [wr_id, hce2, FM, w4]; done)))))
            refine wm_b (m_laid g1) (fun v7 P2 hP2 => ?_)
            exact hrec (c + 1) _ _ _ (by omega) (by omega) ⟨by omega, by rw [es]; show _ = (((pvP (rClr ρ) p c).1 + 1 : Nat) : Int); omega, frM_trans hP hP2.1, by rw [hP2.2, P4, es]⟩
          · have g3 := (p_wy hpm c).2.2
            have es : pvP (rClr ρ) p (c + 1) = pvP (rClr ρ) p c := by rw [pvP_s, if_neg zp]
            generalize hgp : p.getD c (-1) = gp at *
            (repeat (first | (with_reducible apply wm_o; focus (simp (disch := omega) only [wr_id, Int.toNat_natCast, Int.reduceToNat, tn_lk, tn_kl, if_pos, if_neg, ↓reduceIte, and_self, and_true, true_and, hce2, FM, w4]; with_reducible rfl)) | (with_reducible apply wm_q) | (with_reducible apply wm_c; focus (first | assumption | decide +kernel)) | (with_reducible apply wm_d; focus (simp (disch := omega) only [wr_id, Int.toNat_natCast, Int.reduceToNat, tn_lk, tn_kl, if_pos, if_neg, ↓reduceIte, and_self, and_true, true_and, hce2, FM, w4]; with_reducible rfl)) | (with_reducible apply wm_t; focus (first | omega | (simp (disch := omega) only [wr_id, hce2, FM, w4]; omega) | (simp (disch := omega) only [wr_id, hce2, FM, w4]; done))) | (with_reducible apply wm_f; focus (first | omega | (simp (disch := omega) only [wr_id, hce2, FM, w4]; omega) | (simp (disch := omega) only [wr_id, hce2, FM, w4]; done)))))
            exact hrec (c + 1) _ _ _ (by omega) (by omega) ⟨by omega, by rw [es], hP, by rw [P4, es]⟩
    refine wm_lp3 n (fun c k y K => y = (c : Int) ∧ k = ((pvP (rClr ρ) p c).1 : Int) ∧ frm (stF 34) J3 K ∧ stR K 34 w (pvP (rClr ρ) p c).2) ?_ (Nat.lt_of_le_of_lt hn (jfuel_n (by decide))) ⟨rfl, rfl, frm_refl _ _, s3.2.1⟩
    rintro c hc k y K ⟨rfl, rfl, hK, sK⟩ rec hrec
    have fK : frm (fun a => scrC a ∨ stS a) I K := frm_trans f3 (frm_sub hK (fun a ha => Or.inr (by unfold stF at ha; unfold stS; omega)))
    have cK := cfC_frm fK (fun a a1 a2 => by unfold scrC stS; omega) hcf
    have hce := q_cells (d := d) (rt := rt) sq cK
    have inv := pv_inv (ρ := ρ) sq hpm hρz c (by omega)
    by_cases e : c = n
    · subst e
      (repeat (first | (with_reducible apply wm_o; focus (simp (disch := omega) only [wr_id, Int.toNat_natCast, Int.reduceToNat, tn_lk, tn_kl, if_pos, if_neg, ↓reduceIte, and_self, and_true, true_and, FX, hce]; with_reducible rfl)) | (with_reducible apply wm_q) | (with_reducible apply wm_c; focus (first | assumption | decide +kernel)) | (with_reducible apply wm_d; focus (simp (disch := omega) only [wr_id, Int.toNat_natCast, Int.reduceToNat, tn_lk, tn_kl, if_pos, if_neg, ↓reduceIte, and_self, and_true, true_and, FX, hce]; with_reducible rfl)) | (with_reducible apply wm_t; focus (first | omega | (simp (disch := omega) only [wr_id, FX, hce]; omega) | (simp (disch := omega) only [wr_id, FX, hce]; done))) | (with_reducible apply wm_f; focus (first | omega | (simp (disch := omega) only [wr_id, FX, hce]; omega) | (simp (disch := omega) only [wr_id, FX, hce]; done)))))
      refine wm_z1 ?_
      exact mod K fK (stC_now s3 hK inv.1 sK)
    · have hcn : c < n := by omega
      have k18 := inv.2.1
      by_cases zk : (pvP (rClr ρ) p c).1 = 18
      · have hfull := pv_full (ρ := ρ) sq hpm hρz zk (n - c) (by omega)
        rw [show c + (n - c) = n by omega] at hfull
        rw [zk]
        (repeat (first | (with_reducible apply wm_o; focus (simp (disch := omega) only [wr_id, Int.toNat_natCast, Int.reduceToNat, tn_lk, tn_kl, if_pos, if_neg, ↓reduceIte, and_self, and_true, true_and, FX, hce]; with_reducible rfl)) | (with_reducible apply wm_q) | (with_reducible apply wm_c; focus (first | assumption | decide +kernel)) | (with_reducible apply wm_d; focus (simp (disch := omega) only [wr_id, Int.toNat_natCast, Int.reduceToNat, tn_lk, tn_kl, if_pos, if_neg, ↓reduceIte, and_self, and_true, true_and, FX, hce]; with_reducible rfl)) | (with_reducible apply wm_t; focus (first | omega | (simp (disch := omega) only [wr_id, FX, hce]; omega) | (simp (disch := omega) only [wr_id, FX, hce]; done))) | (with_reducible apply wm_f; focus (first | omega | (simp (disch := omega) only [wr_id, FX, hce]; omega) | (simp (disch := omega) only [wr_id, FX, hce]; done)))))
        refine wm_z1 ?_
        exact mod K fK (by rw [hfull]; exact stC_now s3 hK inv.1 sK)
      · have hfr := q_isFree (d := d) (rt := rt) (x := (c : Int)) sq cK sK (i32 (by omega) (by omega))
        rw [pv_free sq hpm hcn inv] at hfr
        by_cases zp : 0 ≤ p.getD c (-1)
        · obtain ⟨g1, g2, g3, g4, g5⟩ := pv_step sq hpm hcn inv zp
          rw [decide_eq_true zp, if_pos rfl] at hfr
          have c20 := cK.2.1
          have hm := Nat.mod_lt c (show w > 0 by omega)
          have hdy : c / w < h := Nat.div_lt_of_lt_mul (by omega)
          have jl : K 368 (c / w + 1) = ((row1 w (p.drop (c / w * w)) : Nat) : Int) := by rw [hK _ (by unfold stF; omega), q2 (c / w + 1) (by omega), gd_s1, lnP_get hdy]
          have l1 : row1 w (p.drop (c / w * w)) < 64 := Nat.lt_of_lt_of_le (mkM_lt _ _) (Nat.pow_le_pow_right (by decide) hw.2 : 2 ^ w ≤ 2 ^ 6)
          have l2 : 2 ^ (w - 1 - c % w) < 64 := Nat.lt_of_le_of_lt (Nat.pow_le_pow_right (by decide) (show w - 1 - c % w ≤ 5 by omega)) (by decide)
          have hid := q_isDown (t := t) (d := d) (rt := rt) (r := 311) (I := K) (a := 368) (c := c) ev_in (by rw [hK _ (by unfold stF; omega)]; exact e3) hw (Or.inr rfl) (by omega) (by omega) jl l1
          have tb := tb_bit (row1 w (p.drop (c / w * w))) l1 (w - 1 - c % w) (by omega)
          rw [ln_bit hnw (by omega) hpl hcn] at tb
          have es : pvP (rClr ρ) p (c + 1) = ((pvP (rClr ρ) p c).1 + 1, rPut (pvP (rClr ρ) p c).2 (pvP (rClr ρ) p c).1 (c : Int) (p.getD c (-1))) := by rw [pvP_s, if_pos zp]
          have hput := fun (f : Int) (hf : (f = 1 ∧ p.getD c (-1) = 0) ∨ (f = 0 ∧ p.getD c (-1) = 1)) => w_put (t := t) (d := d) (rt := rt) now_in hw hn hnw inv.1 sK g1 g2 hf g4
          have fin : ∀ K2, frm (stF 34) K K2 → stR K2 34 w (rPut (pvP (rClr ρ) p c).2 (pvP (rClr ρ) p c).1 (c : Int) (p.getD c (-1))) → wm t d rt (rec (((pvP (rClr ρ) p c).1 : Int) + 1) ((c : Int) + 1) (mm t d rt K2)) (fun r J => wm t d rt (f_X12_pave 369 (i : Int) (mm t d rt J)) (fun r' N => jd_wr r = jd_wr r' ∧ INV t d rt N)) := by
            intro K2 hK2 sK2
            exact hrec (c + 1) _ _ _ (by omega) (by omega) ⟨by omega, by rw [es]; show _ = (((pvP (rClr ρ) p c).1 + 1 : Nat) : Int); omega, frm_trans hK hK2, by rw [es]; exact sK2⟩
          generalize hk : (pvP (rClr ρ) p c).1 = k at *
          rcases g3 with g3 | g3
          · rw [g3] at tb
            have z2 := tb.mpr (by decide)
            rw [if_pos z2] at hid
            (repeat (first | (with_reducible apply wm_o; focus (simp (disch := omega) only [wr_id, Int.toNat_natCast, Int.reduceToNat, tn_lk, tn_kl, if_pos, if_neg, ↓reduceIte, and_self, and_true, true_and, FX, hce, hfr, hid]; with_reducible rfl)) | (with_reducible apply wm_q) | (with_reducible apply wm_c; focus (first | assumption | decide +kernel)) | (with_reducible apply wm_d; focus (simp (disch := omega) only [wr_id, Int.toNat_natCast, Int.reduceToNat, tn_lk, tn_kl, if_pos, if_neg, ↓reduceIte, and_self, and_true, true_and, FX, hce, hfr, hid]; with_reducible rfl)) | (with_reducible apply wm_t; focus (first | omega | (simp (disch := omega) only [wr_id, FX, hce, hfr, hid]; omega) | (simp (disch := omega) only [wr_id, FX, hce, hfr, hid]; done))) | (with_reducible apply wm_f; focus (first | omega | (simp (disch := omega) only [wr_id, FX, hce, hfr, hid]; omega) | (simp (disch := omega) only [wr_id, FX, hce, hfr, hid]; done)))))
            refine wm_b (hput 1 (Or.inl ⟨rfl, g3⟩)) (fun v4 K2 hK2 => ?_)
            exact fin K2 hK2.1 hK2.2
          · rw [g3] at tb
            have z2 : ¬ row1 w (p.drop (c / w * w)) &&& 2 ^ (w - 1 - c % w) = 0 := fun q => by have := tb.mp q; cases this
            rw [if_neg z2] at hid
            (repeat (first | (with_reducible apply wm_o; focus (simp (disch := omega) only [wr_id, Int.toNat_natCast, Int.reduceToNat, tn_lk, tn_kl, if_pos, if_neg, ↓reduceIte, and_self, and_true, true_and, FX, hce, hfr, hid]; with_reducible rfl)) | (with_reducible apply wm_q) | (with_reducible apply wm_c; focus (first | assumption | decide +kernel)) | (with_reducible apply wm_d; focus (simp (disch := omega) only [wr_id, Int.toNat_natCast, Int.reduceToNat, tn_lk, tn_kl, if_pos, if_neg, ↓reduceIte, and_self, and_true, true_and, FX, hce, hfr, hid]; with_reducible rfl)) | (with_reducible apply wm_t; focus (first | omega | (simp (disch := omega) only [wr_id, FX, hce, hfr, hid]; omega) | (simp (disch := omega) only [wr_id, FX, hce, hfr, hid]; done))) | (with_reducible apply wm_f; focus (first | omega | (simp (disch := omega) only [wr_id, FX, hce, hfr, hid]; omega) | (simp (disch := omega) only [wr_id, FX, hce, hfr, hid]; done)))))
            refine wm_b (hput 0 (Or.inr ⟨rfl, g3⟩)) (fun v4 K2 hK2 => ?_)
            exact fin K2 hK2.1 hK2.2
        · rw [decide_eq_false zp, if_neg (by decide)] at hfr
          have es : pvP (rClr ρ) p (c + 1) = pvP (rClr ρ) p c := by rw [pvP_s, if_neg zp]
          (repeat (first | (with_reducible apply wm_o; focus (simp (disch := omega) only [wr_id, Int.toNat_natCast, Int.reduceToNat, tn_lk, tn_kl, if_pos, if_neg, ↓reduceIte, and_self, and_true, true_and, FX, hce, hfr]; with_reducible rfl)) | (with_reducible apply wm_q) | (with_reducible apply wm_c; focus (first | assumption | decide +kernel)) | (with_reducible apply wm_d; focus (simp (disch := omega) only [wr_id, Int.toNat_natCast, Int.reduceToNat, tn_lk, tn_kl, if_pos, if_neg, ↓reduceIte, and_self, and_true, true_and, FX, hce, hfr]; with_reducible rfl)) | (with_reducible apply wm_t; focus (first | omega | (simp (disch := omega) only [wr_id, FX, hce, hfr]; omega) | (simp (disch := omega) only [wr_id, FX, hce, hfr]; done))) | (with_reducible apply wm_f; focus (first | omega | (simp (disch := omega) only [wr_id, FX, hce, hfr]; omega) | (simp (disch := omega) only [wr_id, FX, hce, hfr]; done)))))
          exact hrec (c + 1) _ _ _ (by omega) (by omega) ⟨by omega, by rw [es], hK, by rw [es]; exact sK⟩
  · have in1 := fun (M : jMem) => m_in_f (a := 0) (b := (T : Int) - 1) (M := M) hx (i32 (by omega) (by omega)) (i32 (by omega) (by omega)) (by omega)
    have mod : wm t d rt (f_X12_pave 369 x (mm t d rt I)) (fun r' K => jd_wr 0 = jd_wr r' ∧ INV t d rt K) := by
      unfold f_X12_pave
      (repeat (first | (with_reducible apply wm_o; focus (simp (disch := omega) only [wr_id, Int.toNat_natCast, Int.reduceToNat, tn_lk, tn_kl, if_pos, if_neg, ↓reduceIte, and_self, and_true, true_and]; with_reducible rfl)) | (with_reducible apply wm_q) | (with_reducible apply wm_c; focus (first | assumption | decide +kernel)) | (with_reducible apply wm_d; focus (simp (disch := omega) only [wr_id, Int.toNat_natCast, Int.reduceToNat, tn_lk, tn_kl, if_pos, if_neg, ↓reduceIte, and_self, and_true, true_and]; with_reducible rfl)) | (with_reducible apply wm_t; focus (first | omega | (simp (disch := omega) only [wr_id]; omega) | (simp (disch := omega) only [wr_id]; done))) | (with_reducible apply wm_f; focus (first | omega | (simp (disch := omega) only [wr_id]; omega) | (simp (disch := omega) only [wr_id]; done)))))
      refine wm_b (m_countsAll hmf hz) (fun v K hK => ?_)
      obtain ⟨rfl, k1, k2⟩ := hK
      rw [← hT]
      (repeat (first | (with_reducible apply wm_o; focus (simp (disch := omega) only [wr_id, Int.toNat_natCast, Int.reduceToNat, tn_lk, tn_kl, if_pos, if_neg, ↓reduceIte, and_self, and_true, true_and, in1]; with_reducible rfl)) | (with_reducible apply wm_q) | (with_reducible apply wm_c; focus (first | assumption | decide +kernel)) | (with_reducible apply wm_d; focus (simp (disch := omega) only [wr_id, Int.toNat_natCast, Int.reduceToNat, tn_lk, tn_kl, if_pos, if_neg, ↓reduceIte, and_self, and_true, true_and, in1]; with_reducible rfl)) | (with_reducible apply wm_t; focus (first | omega | (simp (disch := omega) only [wr_id, in1]; omega) | (simp (disch := omega) only [wr_id, in1]; done))) | (with_reducible apply wm_f; focus (first | omega | (simp (disch := omega) only [wr_id, in1]; omega) | (simp (disch := omega) only [wr_id, in1]; done)))))
      exact wm_z0 ⟨rfl, INV_q hR hC hM (frm_refl _ _) (frM_f k1 (fun a ha => by unfold scrM; omega)) (zM_fr hz k1 (by decide) (by decide) (by decide))⟩
    by_cases z0 : x < 0
    · (repeat (first | (with_reducible apply wm_o; focus (simp (disch := omega) only [wr_id, Int.toNat_natCast, Int.reduceToNat, tn_lk, tn_kl, if_pos, if_neg, ↓reduceIte, and_self, and_true, true_and, ex]; with_reducible rfl)) | (with_reducible apply wm_q) | (with_reducible apply wm_c; focus (first | assumption | decide +kernel)) | (with_reducible apply wm_d; focus (simp (disch := omega) only [wr_id, Int.toNat_natCast, Int.reduceToNat, tn_lk, tn_kl, if_pos, if_neg, ↓reduceIte, and_self, and_true, true_and, ex]; with_reducible rfl)) | (with_reducible apply wm_t; focus (first | omega | (simp (disch := omega) only [wr_id, ex]; omega) | (simp (disch := omega) only [wr_id, ex]; done))) | (with_reducible apply wm_f; focus (first | omega | (simp (disch := omega) only [wr_id, ex]; omega) | (simp (disch := omega) only [wr_id, ex]; done)))))
      exact wm_z0 mod
    · (repeat (first | (with_reducible apply wm_o; focus (simp (disch := omega) only [wr_id, Int.toNat_natCast, Int.reduceToNat, tn_lk, tn_kl, if_pos, if_neg, ↓reduceIte, and_self, and_true, true_and, ex, FX, ht]; with_reducible rfl)) | (with_reducible apply wm_q) | (with_reducible apply wm_c; focus (first | assumption | decide +kernel)) | (with_reducible apply wm_d; focus (simp (disch := omega) only [wr_id, Int.toNat_natCast, Int.reduceToNat, tn_lk, tn_kl, if_pos, if_neg, ↓reduceIte, and_self, and_true, true_and, ex, FX, ht]; with_reducible rfl)) | (with_reducible apply wm_t; focus (first | omega | (simp (disch := omega) only [wr_id, ex, FX, ht]; omega) | (simp (disch := omega) only [wr_id, ex, FX, ht]; done))) | (with_reducible apply wm_f; focus (first | omega | (simp (disch := omega) only [wr_id, ex, FX, ht]; omega) | (simp (disch := omega) only [wr_id, ex, FX, ht]; done)))))
      exact wm_z0 mod
end PQ
