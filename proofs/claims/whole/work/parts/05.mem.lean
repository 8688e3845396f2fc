/-! ===== rows that read and write the flat memory; returns; calls ===== -/
/-- class ci of vwCl: its fields, their names, their words in the table -/
def jcl (ci : Nat) (q : vw_C) : Prop := vwCl[ci]? = some q ∧ q.2.2 = jnF ci ∧ ci < 13 ∧ (∀ w ∈ u_ws q.1 q.2.1 q.2.2, w ∈ jtbl) ∧ (∀ k, k < q.2.2 → (q.2.1 k).1 = q.1 ∧ parseFieldDescriptor (q.2.1 k).2.2.1 = some (jty ci k)) ∧ ∀ a, a < q.2.2 → ∀ b, b < q.2.2 → a ≠ b → (q.2.1 a).2.1 ≠ (q.2.1 b).2.1
/-- field k of class ci, as the class 'own' names it at 'index' of its pool -/
def jfl (own : String) (index ci k : Nat) : Prop := ∃ q : vw_C, jcl ci q ∧ k < q.2.2 ∧ Cond.fieldLink own index q.1 (q.2.1 k).2.1 (q.2.1 k).2.2.1 ∈ jtbl
theorem jt_in {i : Nat} {w : Cond} (h : lw_tbl[i]? = some w) (hg : goodWord w = true) : w ∈ jtbl := List.mem_filter.mpr ⟨List.mem_of_getElem? h, hg⟩
theorem jt_all {ws : List Cond} (is : List Nat) (h : is.map (fun i => lw_tbl[i]?) = ws.map some) (hg : ws.all goodWord = true) : ∀ w ∈ ws, w ∈ jtbl := by
  intro w hw
  have h1 : some w ∈ is.map (fun i => lw_tbl[i]?) := by rw [h]; exact List.mem_map.mpr ⟨w, hw, rfl⟩
  obtain ⟨i, -, hi⟩ := List.mem_map.mp h1
  exact jt_in hi (List.all_eq_true.mp hg w hw)
def jprim : FieldType → Bool
  | .object _ => false
  | .array _ => false
  | _ => true
theorem jfv_p {E : jE} {ty : FieldType} (h : jprim ty = true) (i : Int) (r : Option Nat) : jfv E ty i r = q_i i := by
  cases ty <;> first | rfl | (simp [jprim] at h)
theorem jfv_r {E : jE} {ty : FieldType} (h : jprim ty = false) (i : Int) (r : Option Nat) : jfv E ty i r = jrv E r := by
  cases ty <;> first | rfl | (simp [jprim] at h)
theorem jat.kept {E : jE} {M M' : jMem} {a : Nat} {H H' : Heap} (h : jat E M a H) (hq : H'[jb E + a]? = H[jb E + a]?) (hk : jK M' a = jK M a) (hi : ∀ j, jI M' a j = jI M a j) (hr : ∀ j, jR M' a j = jR M a j) : jat E M' a H' := by
  unfold jat at h ⊢
  rw [hk]
  simp only [hi, hr]
  by_cases hc : (jK M a).1 < 13
  · rw [if_pos hc] at h ⊢
    exact h.kept hq
  · rw [if_neg hc] at h ⊢
    rw [hq]
    exact h
theorem jat.obj {E : jE} {M : jMem} {a ci : Nat} {H : Heap} (h : jat E M a H) (hk : (jK M a).1 = ci) (hc : ci < 13) : t_OB (jb E + a) (E.2.1.1 ci) (jnF ci) (E.2.1.2 ci) H (fun j => jfv E (jty ci j) (jI M a j) (jR M a j)) := by
  unfold jat at h
  rw [hk, if_pos hc] at h
  exact h
theorem jat.arr {E : jE} {M : jMem} {a t : Nat} {H : Heap} (h : jat E M a H) (hk : (jK M a).1 = t) (hc : ¬ t < 13) : H[jb E + a]? = some (arrV (jaC E t) (jK M a).2 (fun j => jav E t (jI M a j) (jR M a j))) := by
  unfold jat at h
  rw [hk, if_neg hc] at h
  exact h
theorem jsI_K (M : jMem) (a j : Nat) (v : Int) (x : Nat) : jK (jsI M a j v) x = jK M x := rfl
theorem jsI_N (M : jMem) (a j : Nat) (v : Int) : jN (jsI M a j v) = jN M := rfl
theorem jsI_R (M : jMem) (a j : Nat) (v : Int) (x y : Nat) : jR (jsI M a j v) x y = jR M x y := rfl
theorem jsI_I (M : jMem) (a j : Nat) (v : Int) (x y : Nat) : jI (jsI M a j v) x y = if x = a ∧ y = j then v else jI M x y := rfl
theorem jsR_K (M : jMem) (a j : Nat) (v : Option Nat) (x : Nat) : jK (jsR M a j v) x = jK M x := rfl
theorem jsR_N (M : jMem) (a j : Nat) (v : Option Nat) : jN (jsR M a j v) = jN M := rfl
theorem jsR_I (M : jMem) (a j : Nat) (v : Option Nat) (x y : Nat) : jI (jsR M a j v) x y = jI M x y := rfl
theorem jsR_R (M : jMem) (a j : Nat) (v : Option Nat) (x y : Nat) : jR (jsR M a j v) x y = if x = a ∧ y = j then v else jR M x y := rfl
theorem jH.set {E : jE} {M M' : jMem} {a : Nat} {H H' : Heap} (h : jH E M H) (hz : H'.size = H.size) (hq : ∀ q, q ≠ jb E + a → H'[q]? = H[q]?) (hN : jN M' = jN M) (hk : ∀ x, jK M' x = jK M x) (hi : ∀ x, x ≠ a → ∀ j, jI M' x j = jI M x j) (hr : ∀ x, x ≠ a → ∀ j, jR M' x j = jR M x j) (ha : jat E M' a H') : jH E M' H' := by
  refine ⟨by rw [hz, hN]; exact h.1, fun x hx => ?_⟩
  by_cases e : x = a
  · rw [e]; exact ha
  · exact (h.2 x (by rw [← hN]; exact hx)).kept (hq _ (by omega)) (hk x) (hi x e) (hr x e)
section JMEM
variable {E : jE} {X : jX} {cc : ByteArray} {own : String} {nL d mc ms k n pc n' : Nat} {M : jMem} {lv : List (Nat × Value)} {st : List Value} {ρ : Type} {res : ρ}
theorem jr_getV (hC : jCx E X cc nL own d mc ms) {ix ci j a : Nat} (hf : jfl own ix ci j) (hd : jD cc pc n' (.getfield ix) 3) (hk : (jK M a).1 = ci ∧ a < jN M) (kk : JW E X nL k n M n' lv (jfv E (jty ci j) (jI M a j) (jR M a j) :: st)) : JW E X nL k n M pc lv (q_r E a :: st) := by
  obtain ⟨hd, rfl⟩ := hd
  obtain ⟨⟨C, T, N⟩, ⟨hc, hN, h13, hin, hT, -⟩, hj, hw⟩ := hf
  obtain ⟨hx, hb, -, hown, hts, hOk, -, -⟩ := hC
  intro H locs ls hH hS hl
  obtain ⟨cell, q1, q2, q3, q4⟩ := (hH.2 a hk.2).obj hk.1 h13
  obtain ⟨hSl, hfc, kC, hkC, hkind⟩ := hOk.1.1 ci _ hc
  obtain ⟨cf, kf, fi, f, hi, hsl⟩ := hSl j hj
  refine W.getf hx hb hown (hts _ hw) (by rw [← (hT j hj).1]; exact hi) (u_facts hfc hkC (u_lays hts hin hj) hi).1 q1 (by rw [q3]; exact fun h => by cases h) (v := jfv E (jty ci j) (jI M a j) (jR M a j)) ?_ rfl rfl hd (kk H locs ls hH hS hl)
  rw [hsl]
  exact q4 j (by rw [← hN]; exact hj)
theorem jr_getI (hC : jCx E X cc nL own d mc ms) {ix ci j a : Nat} {f : Int → Option ρ} (hf : jfl own ix ci j) (hp : jprim (jty ci j) = true) (hd : jD cc pc n' (.getfield ix) 3) (h : (jm_gI ci j M a).bind f = some res) (kk : ∀ v, f v = some res → JW E X nL k n M n' lv (q_i v :: st)) : JW E X nL k n M pc lv (q_r E a :: st) := by
  obtain ⟨v, h1, h2⟩ := jo_b h
  obtain ⟨hk, h1⟩ := jo_if h1
  cases h1
  exact jr_getV hC hf hd hk (by rw [jfv_p hp]; exact kk _ h2)
theorem jr_getR (hC : jCx E X cc nL own d mc ms) {ix ci j a : Nat} {f : Nat → Option ρ} (hf : jfl own ix ci j) (hp : jprim (jty ci j) = false) (hd : jD cc pc n' (.getfield ix) 3) (h : (jm_gR ci j M a).bind f = some res) (kk : ∀ v, f v = some res → JW E X nL k n M n' lv (q_r E v :: st)) : JW E X nL k n M pc lv (q_r E a :: st) := by
  obtain ⟨v, h1, h2⟩ := jo_b h
  obtain ⟨hk, h1⟩ := jo_if h1
  refine jr_getV hC hf hd hk ?_
  rw [jfv_r hp, h1]
  exact kk _ h2
theorem jr_putV (hC : jCx E X cc nL own d mc ms) {ix ci j a : Nat} {v : Value} {M' : jMem} (hf : jfl own ix ci j) (hfin : ∀ q : vw_C, vwCl[ci]? = some q → (q.2.1 j).2.2.2 = false ∨ ((q.2.1 j).2.2.2 = true ∧ X.2.2.2.2.2.2.2.1.name = "<init>" ∧ q.1 = own)) (hd : jD cc pc n' (.putfield ix) 3) (hk : (jK M a).1 = ci ∧ a < jN M) (hn : narrow (jty ci j) v = v) (hfit : fits (jty ci j) v = true)
    (hN : jN M' = jN M) (hK : ∀ x, jK M' x = jK M x) (hi : ∀ x, x ≠ a → ∀ j, jI M' x j = jI M x j) (hr : ∀ x, x ≠ a → ∀ j, jR M' x j = jR M x j) (hv : ∀ y, updV (fun j => jfv E (jty ci j) (jI M a j) (jR M a j)) j v y = jfv E (jty ci y) (jI M' a y) (jR M' a y))
    (kk : JW E X nL k n M' n' lv st) : JW E X nL k n M pc lv (v :: q_r E a :: st) := by
  obtain ⟨hd, rfl⟩ := hd
  obtain ⟨⟨C, T, N⟩, ⟨hc, hNN, h13, hin, hT, hnm⟩, hj, hw⟩ := hf
  obtain ⟨hx, hb, -, hown, hts, hOk, -, -⟩ := hC
  intro H locs ls hH hS hl
  obtain ⟨cell, q1, q2, q3, q4⟩ := (hH.2 a hk.2).obj hk.1 h13
  obtain ⟨hSl, hfc, kC, hkC, hkind⟩ := hOk.1.1 ci _ hc
  obtain ⟨cf, kf, fi, f, hfi, hsl⟩ := hSl j hj
  have hap := va_apart (own := own) hts hin (jty ci) (fun k hk => (hT k hk).2) hnm hOk.1 hc
  have hst := (u_facts hfc hkC (u_lays hts hin hj) hfi).1
  have hfi' := hfi
  rw [(hT j hj).1] at hfi'
  have hlay := hts _ (hin _ (u_in_lay hj))
  unfold u_lay at hlay
  have hlt : f.slot < cell.slots.size := by rw [hsl]; exact k2_hasslot (q4 j (by rw [← hNN]; exact hj))
  have done : ∀ H' : Heap, H'[jb E + a]? = some (cell.setSlot f.slot v) → H'.size = H.size → (∀ q, q ≠ jb E + a → H'[q]? = H[q]?) → jH E M' H' := by
    intro H' e1 e2 e3
    rw [hsl] at e1
    refine hH.set e2 e3 hN hK hi hr ?_
    unfold jat
    rw [hK, hk.1, if_pos h13]
    refine t_OB.to (V := updV (fun j => jfv E (jty ci j) (jI M a j) (jR M a j)) j v) ⟨_, e1, q2, q3, ?_⟩ (fun y _ => hv y)
    exact t_set q4 (by rw [← hNN]; exact hap) (by rw [← hNN]; exact hj) v
  rcases hfin _ hc with hfin | ⟨hfin, hin2, hown2⟩
  · rw [if_neg (by rw [hfin]; decide)] at hlay
    have h6 := u_store hfc hkC hkind hlay hfi (hT j hj).2 hn hfit
    exact W.putK hx hb (f := f) ⟨hown, hts _ hw, ⟨_, _, _, hfi'⟩, hst⟩ (by rw [q2]; exact h6) q1 q3 hlt rfl rfl hd fun H' e1 e2 e3 => kk H' _ ls (done H' e1 e2 e3) (hS.put e2 e3 (Nat.le_add_right _ _)) hl
  · rw [if_pos hfin] at hlay
    have hcf : X.2.2.2.2.1.cls = cf := by
      obtain ⟨_, _, c', _, _, _, -, -, hf', -, -, -, hown3, -⟩ := Cond.laysFinal_spec hlay
      have e1 : c' = cf := by have := hfi.symm.trans hf'; simp at this; exact this.1.symm
      rw [(hT j hj).1] at hown3
      rw [← e1]
      exact Option.some.inj (hown.symm.trans (by rw [← hown2]; exact hown3))
    have h6 := u_fits hfc hkC hkind (Or.inr hlay) hfi (hT j hj).2 hn hfit
    exact W.putFinK hx hb hown (hts _ hw) hfi' hst hcf hin2 (by rw [q2]; exact h6) q1 q3 hlt rfl rfl hd fun H' e1 e2 e3 => kk H' _ ls (done H' e1 e2 e3) (hS.put e2 e3 (Nat.le_add_right _ _)) hl
theorem jr_putI (hC : jCx E X cc nL own d mc ms) {ix ci j a : Nat} {v : Int} {f : jMem → Option ρ} (hf : jfl own ix ci j) (hty : jty ci j = .int) (hfin : ∀ q : vw_C, vwCl[ci]? = some q → (q.2.1 j).2.2.2 = false) (hd : jD cc pc n' (.putfield ix) 3) (h : (jm_pI ci j M a v).bind f = some res) (kk : ∀ M', M' = jsI M a j v → f M' = some res → JW E X nL k n M' n' lv st) : JW E X nL k n M pc lv (q_i v :: q_r E a :: st) := by
  obtain ⟨M', h1, h2⟩ := jo_b h
  obtain ⟨hk, h1⟩ := jo_if h1
  cases h1
  refine jr_putV hC hf (fun q hq => Or.inl (hfin q hq)) hd hk (by rw [hty]; rfl) (by rw [hty]; rfl) (jsI_N M a j v) (jsI_K M a j v) (fun x hx y => ?_) (fun x hx y => rfl) (fun y => ?_) (kk _ rfl h2)
  · rw [jsI_I, if_neg (fun z => hx z.1)]
  · rw [jsI_R, jsI_I]
    unfold updV
    by_cases e : y = j
    · rw [if_pos e, if_pos ⟨rfl, e⟩, e, hty]; rfl
    · rw [if_neg e, if_neg (fun z => e z.2)]
theorem jw_z {v : Int} (h : jd_wr v = 0 ∨ jd_wr v = 1) : Int32.ofInt v = 0 ∨ Int32.ofInt v = 1 := by
  rcases h with h | h
  · exact Or.inl ((jw_eq0 v).mpr h)
  · exact Or.inr (Int32.toInt_inj.mp (by show jd_wr v = _; rw [h]; decide +kernel))
theorem jr_putZ (hC : jCx E X cc nL own d mc ms) {ix ci j a : Nat} {v : Int} {f : jMem → Option ρ} (hf : jfl own ix ci j) (hty : jty ci j = .boolean) (hfin : ∀ q : vw_C, vwCl[ci]? = some q → (q.2.1 j).2.2.2 = false) (hd : jD cc pc n' (.putfield ix) 3) (h : (jm_pZ ci j M a v).bind f = some res) (kk : ∀ M', M' = jsI M a j v → f M' = some res → JW E X nL k n M' n' lv st) : JW E X nL k n M pc lv (q_i v :: q_r E a :: st) := by
  obtain ⟨M', h1, h2⟩ := jo_b h
  obtain ⟨⟨hk, hz⟩, h1⟩ := jo_if h1
  cases h1
  have hzz := jw_z hz
  refine jr_putV hC hf (fun q hq => Or.inl (hfin q hq)) hd hk (by rw [hty]; show narrow .boolean (.int (Int32.ofInt v)) = .int (Int32.ofInt v); rcases hzz with e | e <;> rw [e] <;> rfl) (by rw [hty]; show fits .boolean (.int (Int32.ofInt v)) = true; rcases hzz with e | e <;> rw [e] <;> rfl) (jsI_N M a j v) (jsI_K M a j v) (fun x hx y => ?_) (fun x hx y => rfl) (fun y => ?_) (kk _ rfl h2)
  · rw [jsI_I, if_neg (fun z => hx z.1)]
  · rw [jsI_R, jsI_I]
    unfold updV
    by_cases e : y = j
    · rw [if_pos e, if_pos ⟨rfl, e⟩, e, hty]; rfl
    · rw [if_neg e, if_neg (fun z => e z.2)]
theorem jfit_r {ty : FieldType} (h : jprim ty = false) (a : Nat) : narrow ty (.ref a) = .ref a ∧ fits ty (.ref a) = true := by
  cases ty <;> first | exact ⟨rfl, rfl⟩ | (simp [jprim] at h)
theorem jr_putR (hC : jCx E X cc nL own d mc ms) {ix ci j a v : Nat} {f : jMem → Option ρ} (hf : jfl own ix ci j) (hty : jprim (jty ci j) = false) (hfin : ∀ q : vw_C, vwCl[ci]? = some q → (q.2.1 j).2.2.2 = false ∨ ((q.2.1 j).2.2.2 = true ∧ X.2.2.2.2.2.2.2.1.name = "<init>" ∧ q.1 = own)) (hd : jD cc pc n' (.putfield ix) 3) (h : (jm_pR ci j M a v).bind f = some res) (kk : ∀ M', M' = jsR M a j (some v) → f M' = some res → JW E X nL k n M' n' lv st) : JW E X nL k n M pc lv (q_r E v :: q_r E a :: st) := by
  obtain ⟨M', h1, h2⟩ := jo_b h
  obtain ⟨hk, h1⟩ := jo_if h1
  cases h1
  obtain ⟨e1, e2⟩ := jfit_r hty (jb E + v)
  refine jr_putV hC hf hfin hd hk e1 e2 (jsR_N M a j _) (jsR_K M a j _) (fun x hx y => rfl) (fun x hx y => ?_) (fun y => ?_) (kk _ rfl h2)
  · rw [jsR_R, if_neg (fun z => hx z.1)]
  · rw [jsR_R, jsR_I]
    unfold updV
    by_cases e : y = j
    · rw [if_pos e, if_pos ⟨rfl, e⟩, e, jfv_r hty]; rfl
    · rw [if_neg e, if_neg (fun z => e z.2)]
theorem jr_aldV (hC : jCx E X cc nL own d mc ms) {t a : Nat} {i : Int} (h : ((jK M a).1 = t ∧ a < jN M) ∧ 0 ≤ jd_wr i ∧ jd_wr i < ((jK M a).2 : Int)) (ht : ¬ t < 13) {H : Heap} (hH : jH E M H) : H[jb E + a]? = some (arrV (jaC E t) (jK M a).2 (fun j => jav E t (jI M a j) (jR M a j))) ∧ vp_in (Int32.ofInt i) (jK M a).2 ∧ (arrV (jaC E t) (jK M a).2 (fun j => jav E t (jI M a j) (jR M a j))).slots[(Int32.ofInt i).toNatClampNeg]? = some (jav E t (jI M a (jd_wr i).toNat) (jR M a (jd_wr i).toNat)) := by
  refine ⟨(hH.2 a h.1.2).arr h.1.1 ht, jw_in h.2, ?_⟩
  rw [jw_clamp, arrV_read]
  omega
theorem jr_iald (hC : jCx E X cc nL own d mc ms) {a : Nat} {i : Int} {f : Int → Option ρ} (hd : jD cc pc n' .iaload 1) (h : (jm_ld 20 M a i).bind f = some res) (kk : ∀ v, f v = some res → JW E X nL k n M n' lv (q_i v :: st)) : JW E X nL k n M pc lv (q_i i :: q_r E a :: st) := by
  obtain ⟨hd, rfl⟩ := hd
  obtain ⟨v, h1, h2⟩ := jo_b h
  obtain ⟨hk, h1⟩ := jo_if h1
  cases h1
  intro H locs ls hH hS hl
  obtain ⟨g1, g2, g3⟩ := jr_aldV hC hk (by decide) hH
  exact W.iald hC.1 hC.2.1 g1 ((hC.2.2.2.2.2.1.1.2 0 _ rfl).1 _ _) (fun q => by cases q) (by show ¬ (_ ∨ (arrV _ _ _).slots.size ≤ _); rw [arrV_size]; exact g2) g3 rfl rfl hd (kk _ h2 H locs ls hH hS hl)
theorem jr_bald (hC : jCx E X cc nL own d mc ms) {a : Nat} {i : Int} {f : Int → Option ρ} (hd : jD cc pc n' .baload 1) (h : (jm_ld 21 M a i).bind f = some res) (kk : ∀ v, f v = some res → JW E X nL k n M n' lv (q_i v :: st)) : JW E X nL k n M pc lv (q_i i :: q_r E a :: st) := by
  obtain ⟨hd, rfl⟩ := hd
  obtain ⟨v, h1, h2⟩ := jo_b h
  obtain ⟨hk, h1⟩ := jo_if h1
  cases h1
  intro H locs ls hH hS hl
  obtain ⟨g1, g2, g3⟩ := jr_aldV hC hk (by decide) hH
  exact W.bald hC.1 hC.2.1 g1 ((hC.2.2.2.2.2.1.1.2 1 _ rfl).1 _ _) (fun q => by cases q) (by show ¬ (_ ∨ (arrV _ _ _).slots.size ≤ _); rw [arrV_size]; exact g2) g3 rfl rfl hd (kk _ h2 H locs ls hH hS hl)
theorem jr_zald (hC : jCx E X cc nL own d mc ms) {a : Nat} {i : Int} {f : Int → Option ρ} (hd : jD cc pc n' .baload 1) (h : (jm_ld 22 M a i).bind f = some res) (kk : ∀ v, f v = some res → JW E X nL k n M n' lv (q_i v :: st)) : JW E X nL k n M pc lv (q_i i :: q_r E a :: st) := by
  obtain ⟨hd, rfl⟩ := hd
  obtain ⟨v, h1, h2⟩ := jo_b h
  obtain ⟨hk, h1⟩ := jo_if h1
  cases h1
  intro H locs ls hH hS hl
  obtain ⟨g1, g2, g3⟩ := jr_aldV hC hk (by decide) hH
  exact W.zald hC.1 hC.2.1 g1 ((hC.2.2.2.2.2.1.1.2 2 _ rfl).1 _ _) (fun q => by cases q) (by show ¬ (_ ∨ (arrV _ _ _).slots.size ≤ _); rw [arrV_size]; exact g2) g3 rfl rfl hd (kk _ h2 H locs ls hH hS hl)
theorem jr_lald (hC : jCx E X cc nL own d mc ms) {a : Nat} {i : Int} {f : Int → Option ρ} (hd : jD cc pc n' .laload 1) (h : (jm_ld 23 M a i).bind f = some res) (kk : ∀ v, f v = some res → JW E X nL k n M n' lv (q_l v :: st)) : JW E X nL k n M pc lv (q_i i :: q_r E a :: st) := by
  obtain ⟨hd, rfl⟩ := hd
  obtain ⟨v, h1, h2⟩ := jo_b h
  obtain ⟨hk, h1⟩ := jo_if h1
  cases h1
  intro H locs ls hH hS hl
  obtain ⟨g1, g2, g3⟩ := jr_aldV hC hk (by decide) hH
  exact W.lald hC.1 hC.2.1 g1 ((hC.2.2.2.2.2.1.1.2 3 _ rfl).1 _ _) (fun q => by cases q) (by show ¬ (_ ∨ (arrV _ _ _).slots.size ≤ _); rw [arrV_size]; exact g2) g3 rfl rfl hd (kk _ h2 H locs ls hH hS hl)
theorem jr_aald (hC : jCx E X cc nL own d mc ms) {a : Nat} {i : Int} {f : Nat → Option ρ} (t : Nat) (t0 : Nat) (ht : t = t0 + 20) (h24 : t0 = 4 ∨ t0 = 5) (hd : jD cc pc n' .aaload 1) (h : (jm_ldR t M a i).bind f = some res) (kk : ∀ v, f v = some res → JW E X nL k n M n' lv (q_r E v :: st)) : JW E X nL k n M pc lv (q_i i :: q_r E a :: st) := by
  obtain ⟨hd, rfl⟩ := hd
  obtain ⟨v, h1, h2⟩ := jo_b h
  obtain ⟨hk, h5⟩ := jo_if h1
  subst ht
  intro H locs ls hH hS hl
  obtain ⟨g1, g2, g3⟩ := jr_aldV hC hk (by omega) hH
  have e : jav E (t0 + 20) (jI M a (jd_wr i).toNat) (jR M a (jd_wr i).toNat) = q_r E v := by
    rw [h5]
    unfold jav
    rw [if_neg (by omega), if_neg (by omega)]
    rfl
  rw [e] at g3
  rcases h24 with rfl | rfl
  · exact W.aald (ty := jaT 24) hC.1 hC.2.1 g1 ((hC.2.2.2.2.2.1.1.2 4 _ rfl).1 _ _) rfl (fun q => by cases q) (by show ¬ (_ ∨ (arrV _ _ _).slots.size ≤ _); rw [arrV_size]; exact g2) g3 rfl rfl hd (kk _ h2 H locs ls hH hS hl)
  · exact W.aald (ty := jaT 25) hC.1 hC.2.1 g1 ((hC.2.2.2.2.2.1.1.2 5 _ rfl).1 _ _) rfl (fun q => by cases q) (by show ¬ (_ ∨ (arrV _ _ _).slots.size ≤ _); rw [arrV_size]; exact g2) g3 rfl rfl hd (kk _ h2 H locs ls hH hS hl)
theorem jr_alen (hC : jCx E X cc nL own d mc ms) {a : Nat} {f : Int → Option ρ} (t : Nat) (t0 : Nat) (ht : t = t0 + 20) (h24 : t0 < 6) (hd : jD cc pc n' .arraylength 1) (h : (jm_ln t M a).bind f = some res) (kk : ∀ v, f v = some res → JW E X nL k n M n' lv (q_i v :: st)) : JW E X nL k n M pc lv (q_r E a :: st) := by
  obtain ⟨hd, rfl⟩ := hd
  obtain ⟨v, h1, h2⟩ := jo_b h
  obtain ⟨hk, h1⟩ := jo_if h1
  cases h1
  subst ht
  intro H locs ls hH hS hl
  have g1 := (hH.2 a hk.2).arr hk.1 (by omega)
  have hty : (jtys E)[t0]? = some (jaC E (t0 + 20), jaT (t0 + 20)) := by
    rcases (show t0 = 0 ∨ t0 = 1 ∨ t0 = 2 ∨ t0 = 3 ∨ t0 = 4 ∨ t0 = 5 by omega) with rfl | rfl | rfl | rfl | rfl | rfl <;> rfl
  exact W.alen (n := Int32.ofInt ((jK M a).2 : Int)) hC.1 hC.2.1 g1 ((hC.2.2.2.2.2.1.1.2 t0 _ hty).1 _ _) (by rw [arrV_size]; rfl) rfl rfl hd (kk _ h2 H locs ls hH hS hl)
/-- an array's cell behind a store -/
theorem jH.store {t a : Nat} {i : Nat} {v : Int} {H H' : Heap} (hH : jH E M H) (hk : (jK M a).1 = t ∧ a < jN M) (ht : ¬ t < 13) (e1 : H'[jb E + a]? = some ((arrV (jaC E t) (jK M a).2 (fun j => jav E t (jI M a j) (jR M a j))).setSlot i (jav E t v none))) (ht2 : t < 24) (e2 : H'.size = H.size) (e3 : ∀ q, q ≠ jb E + a → H'[q]? = H[q]?) : jH E (jsI M a i v) H' := by
  refine hH.set e2 e3 (jsI_N M a i v) (jsI_K M a i v) (fun x hx y => ?_) (fun x hx y => rfl) ?_
  · rw [jsI_I, if_neg (fun z => hx z.1)]
  · unfold jat
    rw [jsI_K, hk.1, if_neg ht, e1, arrV_store]
    congr 2
    funext q
    rw [jsI_R, jsI_I]
    unfold updV
    by_cases e : q = i
    · rw [if_pos e, if_pos ⟨rfl, e⟩]
      unfold jav
      by_cases h3 : t < 23
      · rw [if_pos h3, if_pos h3]
      · rw [if_neg h3, if_neg h3, if_pos (by omega), if_pos (by omega)]
    · rw [if_neg e, if_neg (fun z => e z.2)]
theorem jr_iast (hC : jCx E X cc nL own d mc ms) {a : Nat} {i v : Int} {f : jMem → Option ρ} (hd : jD cc pc n' .iastore 1) (h : (jm_st 20 M a i v).bind f = some res) (kk : ∀ M', M' = jsI M a (jd_wr i).toNat v → f M' = some res → JW E X nL k n M' n' lv st) : JW E X nL k n M pc lv (q_i v :: q_i i :: q_r E a :: st) := by
  obtain ⟨hd, rfl⟩ := hd
  obtain ⟨M', h1, h2⟩ := jo_b h
  obtain ⟨hk, h1⟩ := jo_if h1
  cases h1
  intro H locs ls hH hS hl
  obtain ⟨g1, g2, -⟩ := jr_aldV hC hk (by decide) hH
  exact W.iast hC.1 hC.2.1 g1 ((hC.2.2.2.2.2.1.1.2 0 _ rfl).1 _ _) (fun q => by cases q) (by show ¬ (_ ∨ (arrV _ _ _).slots.size ≤ _); rw [arrV_size]; exact g2) rfl rfl hd fun H' e1 e2 e3 => kk _ rfl h2 H' _ ls (hH.store hk.1 (by decide) e1 (by decide) e2 e3) (hS.put e2 e3 (Nat.le_add_right _ _)) hl
theorem jr_last (hC : jCx E X cc nL own d mc ms) {a : Nat} {i v : Int} {f : jMem → Option ρ} (hd : jD cc pc n' .lastore 1) (h : (jm_st 23 M a i v).bind f = some res) (kk : ∀ M', M' = jsI M a (jd_wr i).toNat v → f M' = some res → JW E X nL k n M' n' lv st) : JW E X nL k n M pc lv (q_l v :: q_i i :: q_r E a :: st) := by
  obtain ⟨hd, rfl⟩ := hd
  obtain ⟨M', h1, h2⟩ := jo_b h
  obtain ⟨hk, h1⟩ := jo_if h1
  cases h1
  intro H locs ls hH hS hl
  obtain ⟨g1, g2, -⟩ := jr_aldV hC hk (by decide) hH
  exact W.last hC.1 hC.2.1 g1 ((hC.2.2.2.2.2.1.1.2 3 _ rfl).1 _ _) (fun q => by cases q) (by show ¬ (_ ∨ (arrV _ _ _).slots.size ≤ _); rw [arrV_size]; exact g2) rfl rfl hd fun H' e1 e2 e3 => kk _ rfl h2 H' _ ls (hH.store hk.1 (by decide) e1 (by decide) e2 e3) (hS.put e2 e3 (Nat.le_add_right _ _)) hl
theorem jr_bast (hC : jCx E X cc nL own d mc ms) {a : Nat} {i v : Int} {f : jMem → Option ρ} (hd : jD cc pc n' .bastore 1) (h : (jm_st 21 M a i (jd_b v)).bind f = some res) (kk : ∀ M', M' = jsI M a (jd_wr i).toNat (jd_b v) → f M' = some res → JW E X nL k n M' n' lv st) : JW E X nL k n M pc lv (q_i v :: q_i i :: q_r E a :: st) := by
  obtain ⟨hd, rfl⟩ := hd
  obtain ⟨M', h1, h2⟩ := jo_b h
  obtain ⟨hk, h1⟩ := jo_if h1
  cases h1
  intro H locs ls hH hS hl
  obtain ⟨g1, g2, -⟩ := jr_aldV hC hk (by decide) hH
  exact W.bast hC.1 hC.2.1 g1 ((hC.2.2.2.2.2.1.1.2 1 _ rfl).1 _ _) (fun q => by cases q) (by show ¬ (_ ∨ (arrV _ _ _).slots.size ≤ _); rw [arrV_size]; exact g2) rfl rfl hd fun H' e1 e2 e3 => kk _ rfl h2 H' _ ls (hH.store hk.1 (by decide) (by rw [e1, narrow_byte, qe_b]; rfl) (by decide) e2 e3) (hS.put e2 e3 (Nat.le_add_right _ _)) hl
theorem jr_zast (hC : jCx E X cc nL own d mc ms) {a : Nat} {i v : Int} {f : jMem → Option ρ} (hd : jD cc pc n' .bastore 1) (h : (jm_st 22 M a i (jd_z v)).bind f = some res) (kk : ∀ M', M' = jsI M a (jd_wr i).toNat (jd_z v) → f M' = some res → JW E X nL k n M' n' lv st) : JW E X nL k n M pc lv (q_i v :: q_i i :: q_r E a :: st) := by
  obtain ⟨hd, rfl⟩ := hd
  obtain ⟨M', h1, h2⟩ := jo_b h
  obtain ⟨hk, h1⟩ := jo_if h1
  cases h1
  intro H locs ls hH hS hl
  obtain ⟨g1, g2, -⟩ := jr_aldV hC hk (by decide) hH
  have ez : narrow .boolean (.int (Int32.ofInt v)) = q_i (jd_z v) := by
    show _ = Value.int (Int32.ofInt (vp_nar .boolean (Int32.ofInt v)).toInt)
    rw [jw_ofInt]
    rfl
  exact W.zast hC.1 hC.2.1 g1 ((hC.2.2.2.2.2.1.1.2 2 _ rfl).1 _ _) (fun q => by cases q) (by show ¬ (_ ∨ (arrV _ _ _).slots.size ≤ _); rw [arrV_size]; exact g2) rfl rfl hd fun H' e1 e2 e3 => kk _ rfl h2 H' _ ls (hH.store hk.1 (by decide) (by rw [e1, ez]; rfl) (by decide) e2 e3) (hS.put e2 e3 (Nat.le_add_right _ _)) hl
/-! returns -/
theorem jr_iret (hC : jCx E X cc nL own d mc ms) {v r : Int} {M' : jMem} (hd : jD cc pc n' .ireturn 1) (hr : X.2.2.2.2.2.2.2.1.sig.returnType = some .int) (hE : jEnd E X k n (some (q_i r)) M') (h : some (v, M) = some (r, M')) : JW E X nL k n M pc lv [q_i v] := by
  cases h
  intro H locs ls hH hS hl
  rw [hE]
  refine W.iret hC.1 hC.2.1 hr (fun t ht hW => ⟨⟨rfl, ?_, hC.2.2.2.2.2.1.callee hS ht hW⟩, hS.F ht⟩) (fun q hq => hS.2.2 q hq) hd.1 hC.2.2.2.2.2.2.2
  rw [ht]; exact hH
theorem jr_zret (hC : jCx E X cc nL own d mc ms) {v r : Int} {M' : jMem} (hd : jD cc pc n' .ireturn 1) (hr : X.2.2.2.2.2.2.2.1.sig.returnType = some .boolean) (hE : jEnd E X k n (some (q_i r)) M') (h : jm_z v M = some (r, M')) : JW E X nL k n M pc lv [q_i v] := by
  obtain ⟨hz, h⟩ := jo_if h
  cases h
  intro H locs ls hH hS hl
  rw [hE]
  refine W.zret hC.1 hC.2.1 hr (by rcases jw_z hz with e | e <;> rw [e] <;> rfl) (fun t ht hW => ⟨⟨rfl, ?_, hC.2.2.2.2.2.1.callee hS ht hW⟩, hS.F ht⟩) (fun q hq => hS.2.2 q hq) hd.1 hC.2.2.2.2.2.2.2
  rw [ht]; exact hH
theorem jr_lret (hC : jCx E X cc nL own d mc ms) {v r : Int} {M' : jMem} (hd : jD cc pc n' .lreturn 1) (hr : X.2.2.2.2.2.2.2.1.sig.returnType = some .long) (hE : jEnd E X k n (some (q_l r)) M') (h : some (v, M) = some (r, M')) : JW E X nL k n M pc lv [q_l v] := by
  cases h
  intro H locs ls hH hS hl
  rw [hE]
  refine W.lret hC.1 hC.2.1 hr (fun t ht hW => ⟨⟨rfl, ?_, hC.2.2.2.2.2.1.callee hS ht hW⟩, hS.F ht⟩) (fun q hq => hS.2.2 q hq) hd.1 hC.2.2.2.2.2.2.2
  rw [ht]; exact hH
theorem jr_vret (hC : jCx E X cc nL own d mc ms) {r : Int} {M' : jMem} (hd : jD cc pc n' .return_ 1) (hr : X.2.2.2.2.2.2.2.1.sig.returnType = none) (hE : jEnd E X k n none M') (h : some ((0 : Int), M) = some (r, M')) : JW E X nL k n M pc lv [] := by
  cases h
  intro H locs ls hH hS hl
  rw [hE]
  refine W.vret hC.1 hC.2.1 hr (fun t ht hW => ⟨⟨rfl, ?_, hC.2.2.2.2.2.1.callee hS ht hW⟩, hS.F ht⟩) (fun q hq => hS.2.2 q hq) hd.1 hC.2.2.2.2.2.2.2
  rw [ht]; exact hH
/-! calls -/
theorem jgood : ∀ w ∈ jtbl, w ∈ jtbl ∧ ((w.onTables && w.keeps) = true ∨ ∃ ty, w = .arrayClass ty) := fun w hw => ⟨hw, good_of_word (List.mem_filter.mp hw).2⟩
theorem jgoodIn {a : List Cond} {y : MethodName} {c2 : ByteArray} {n2 : Nat} {ret : Option FieldType} (hc : Cond.code y c2 n2 ret ∈ jtbl) (ha : ∀ w ∈ a, w ∈ jtbl) : GoodIn jtbl (a ++ jws y c2 n2 ret) := by
  intro w hw
  rcases List.mem_append.mp hw with h | h
  · exact jgood w (ha w h)
  · rcases List.mem_cons.mp h with rfl | h
    · exact jgood _ hc
    · exact jgood w h
/-- the words of a call of an instance method y out of class own -/
def jcV (own : String) (ix : Nat) (y : MethodName) (c2 : ByteArray) (n2 : Nat) (ret : Option FieldType) (np : Nat) : Prop := (∀ w ∈ ([.methodLink own ix y, .instanceMethod y, .selects y.cls y y, .initialized y.cls] : List Cond), w ∈ jtbl) ∧ Cond.code y c2 n2 ret ∈ jtbl ∧ y.cls ≠ "java/lang/invoke/MethodHandle" ∧ y.cls ≠ "java/lang/invoke/VarHandle" ∧ (parseMethodDescriptor y.desc).map (fun d => d.parameters.length) = some np
def jcS (own : String) (ix : Nat) (y : MethodName) (c2 : ByteArray) (n2 : Nat) (ret : Option FieldType) (np : Nat) : Prop := (∀ w ∈ ([.methodLink own ix y, .static y, .initialized y.cls] : List Cond), w ∈ jtbl) ∧ Cond.code y c2 n2 ret ∈ jtbl ∧ y.cls ≠ "java/lang/invoke/MethodHandle" ∧ y.cls ≠ "java/lang/invoke/VarHandle" ∧ (parseMethodDescriptor y.desc).map (fun d => d.parameters.length) = some np
def jcN (own : String) (ix : Nat) (y : MethodName) (c2 : ByteArray) (n2 : Nat) (np : Nat) : Prop := y.name = "<init>" ∧ (∀ w ∈ ([.methodLink own ix y, .instanceMethod y, .initialized y.cls] : List Cond), w ∈ jtbl) ∧ Cond.code y c2 n2 none ∈ jtbl ∧ y.cls ≠ "java/lang/invoke/MethodHandle" ∧ y.cls ≠ "java/lang/invoke/VarHandle" ∧ (parseMethodDescriptor y.desc).map (fun d => d.parameters.length) = some np
theorem jrun {s : State} {p : Program} {e : Env} {R : Room} {m : MethodId} {args : Array Value} {below : List Frame} {meth : Method} {c : Code} {H : Heap} {locs : List Loc} {mc' ms' : Nat} {ls : Array Slot} {st0 rest : List Value} {rv : Option Value} {M' : jMem} {a : Array Value} {Q : State → Prop}
    (hr : va_Run p E.1 e R s m args below meth c H locs k n mc' ms' (F0 m pc ls st0) rest (jQc E rv M' a) (jA E)) (hS : va_S (jA E) s.heap H locs)
    (kk : ∀ (H1 : Heap) (locs1 : List Loc), jH E M' H1 → va_S (jA E) s.heap H1 locs1 → W p E.1 e R s m args below meth c H1 locs1 (k + mc') (n + ms') Q (F0 m (pc + 3) ls (rv.toList ++ rest))) : W p E.1 e R s m args below meth c H locs k n Q (F0 m pc ls st0) := by
  intro T hT X
  obtain ⟨v, st₀, t, T', L, h0, X', hL, e1, e2, ⟨⟨hv, hp, -⟩, hz, hk⟩, st⟩ := hr T hT X
  cases hv
  rw [h0] at hz hk
  obtain ⟨t2, a1, b1⟩ := kk T'.heap (locs ++ L) (by rw [e1]; exact hp)
    ⟨Nat.le_trans hS.1 (by rw [e1]; exact hz), fun q h1 h2 => by rw [e1, hk q (Nat.lt_of_lt_of_le h1 hS.1) h2]; exact hS.2.1 q h1 h2, fun q hq => by
      rcases List.mem_append.mp hq with h | h
      · exact hS.2.2 q h
      · exact hL q h⟩ T' rfl X'
  exact ⟨t2, st t2 a1, b1⟩
theorem jr_callV (hC : jCx E X cc nL own d mc ms) {ix ci a : Nat} {y : MethodName} {c2 : ByteArray} {n2 np d2 mc2 ms2 : Nat} {ret : Option FieldType} {As st0 : List Value} {rv : Option Value} {M' : jMem} (hw : jcV own ix y c2 n2 ret np) (hci : (vwCl[ci]?).map (fun q => q.1) = some y.cls ∧ ci < 13) (hd : jD cc pc n' (.invokevirtual ix) 3) (hk : (jK M a).1 = ci ∧ a < jN M) (hM : jMet E y c2 n2 ret d2 mc2 ms2 (q_r E a :: As) M rv M') (hst : st0 = As.reverse ++ q_r E a :: st) (hAs : As.length = np) (hrm : d2 + 1 ≤ d ∧ n2 ≤ 80) (hroom : (st.map fun v => v.category).sum ≤ 8) (hcs : k + mc2 ≤ mc ∧ n + ms2 ≤ ms) (kk : JW E X nL (k + mc2) (n + ms2) M' n' lv (rv.toList ++ st)) : JW E X nL k n M pc lv st0 := by
  obtain ⟨hd, rfl⟩ := hd
  subst hst
  obtain ⟨hx, hb, hml, hown, hts, hOk, hR, hlk⟩ := id hC
  obtain ⟨w1, w2, w3, w4, w5⟩ := hw
  intro H locs ls hH hS hl
  obtain ⟨cell, q1, q2, q3, q4⟩ := (hH.2 a hk.2).obj hk.1 hci.2
  have hcls : ∃ cellB : Cell, H[jb E + a]? = some cellB ∧ cellB.vm.isStatics = false ∧ X.2.2.2.1.vm.findClass y.cls = some cellB.cls := by
    cases hc : vwCl[ci]? with
    | none => rw [hc] at hci; cases hci.1
    | some q =>
      rw [hc] at hci
      exact ⟨cell, q1, by rw [q3]; rfl, by rw [q2, ← Option.some.inj hci.1]; exact (hOk.1.1 ci q hc).2.1⟩
  refine jrun (va_runV (As := As) (rest := st) (C := y.cls) ⟨hx, hb, hml, hown, hts⟩ hM (cwV np hts (jgoodIn w2 w1) rfl rfl rfl ⟨rfl, w3, w4, w5⟩ (by obtain ⟨r1, r2, -, -⟩ := hR; show d2 + 1 ≤ X.2.2.1.frames ∧ 8 + (n2 + 11) + 100 * d2 ≤ X.2.2.1.locals; omega)) ⟨jPre.blind E M _, hcls, fun U hU hW => ⟨rfl, by rw [hU]; exact hH, hOk.callee hS hU hW⟩⟩ rfl hAs hl.1 rfl (lv_room hroom) hd ⟨Nat.le_trans hcs.1 hR.2.2.1, Nat.le_trans hcs.2 hR.2.2.2⟩) hS (fun H1 locs1 h1 s1 => kk H1 locs1 ls h1 s1 hl)
theorem jr_callS (hC : jCx E X cc nL own d mc ms) {ix : Nat} {y : MethodName} {c2 : ByteArray} {n2 np d2 mc2 ms2 : Nat} {ret : Option FieldType} {As st0 : List Value} {rv : Option Value} {M' : jMem} (hw : jcS own ix y c2 n2 ret np) (hd : jD cc pc n' (.invokestatic ix) 3) (hM : jMet E y c2 n2 ret d2 mc2 ms2 As M rv M') (hst : st0 = As.reverse ++ st) (hAs : As.length = np) (hrm : d2 + 1 ≤ d ∧ n2 ≤ 80) (hroom : (st.map fun v => v.category).sum ≤ 8) (hcs : k + mc2 ≤ mc ∧ n + ms2 ≤ ms) (kk : JW E X nL (k + mc2) (n + ms2) M' n' lv (rv.toList ++ st)) : JW E X nL k n M pc lv st0 := by
  obtain ⟨hd, rfl⟩ := hd
  subst hst
  obtain ⟨hx, hb, hml, hown, hts, hOk, hR, hlk⟩ := id hC
  obtain ⟨w1, w2, w3, w4, w5⟩ := hw
  intro H locs ls hH hS hl
  refine jrun (va_runS (As := As) (rest := st) ⟨hx, hb, hml, hown, hts⟩ hM (va_cwS np hts (jgoodIn w2 w1) rfl rfl rfl ⟨w3, w4, w5⟩ (by obtain ⟨r1, r2, -, -⟩ := hR; show d2 + 1 ≤ X.2.2.1.frames ∧ 8 + (n2 + 11) + 100 * d2 ≤ X.2.2.1.locals; omega)) ⟨jPre.blind E M _, fun U hU hW => ⟨rfl, by rw [hU]; exact hH, hOk.callee hS hU hW⟩⟩ rfl hAs hl.1 rfl (lv_room hroom) hd ⟨Nat.le_trans hcs.1 hR.2.2.1, Nat.le_trans hcs.2 hR.2.2.2⟩) hS (fun H1 locs1 h1 s1 => kk H1 locs1 ls h1 s1 hl)
theorem jr_callN (hC : jCx E X cc nL own d mc ms) {ix a : Nat} {y : MethodName} {c2 : ByteArray} {n2 np d2 mc2 ms2 : Nat} {As st0 : List Value} {rv : Option Value} {M' : jMem} (hw : jcN own ix y c2 n2 np) (hd : jD cc pc n' (.invokespecial ix) 3) (hM : jMet E y c2 n2 none d2 mc2 ms2 (q_r E a :: As) M rv M') (hst : st0 = As.reverse ++ q_r E a :: st) (hAs : As.length = np) (hrm : d2 + 1 ≤ d ∧ n2 ≤ 80) (hroom : (st.map fun v => v.category).sum ≤ 8) (hcs : k + mc2 ≤ mc ∧ n + ms2 ≤ ms) (kk : JW E X nL (k + mc2) (n + ms2) M' n' lv (rv.toList ++ st)) : JW E X nL k n M pc lv st0 := by
  obtain ⟨hd, rfl⟩ := hd
  subst hst
  obtain ⟨hx, hb, hml, hown, hts, hOk, hR, hlk⟩ := id hC
  obtain ⟨w0, w1, w2, w3, w4, w5⟩ := hw
  intro H locs ls hH hS hl
  refine jrun (va_runI (As := As) (rest := st) ⟨hx, hb, hml, hown, hts⟩ hM (cwI np hts (jgoodIn (a := []) w2 (fun w h => by cases h)) rfl rfl rfl (hts _ (w1 _ (by simp))) (hts _ (w1 _ (by simp))) (hts _ (w1 _ (by simp))) w0 ⟨w3, w4, w5⟩ (by obtain ⟨r1, r2, -, -⟩ := hR; show d2 + 1 ≤ X.2.2.1.frames ∧ 8 + (n2 + 11) + 100 * d2 ≤ X.2.2.1.locals; omega)) ⟨jPre.blind E M _, fun U hU hW => ⟨rfl, by rw [hU]; exact hH, hOk.callee hS hU hW⟩⟩ rfl hAs hl.1 rfl (lv_room hroom) hd ⟨Nat.le_trans hcs.1 hR.2.2.1, Nat.le_trans hcs.2 hR.2.2.2⟩) hS (fun H1 locs1 h1 s1 => kk H1 locs1 ls h1 s1 hl)
theorem jr_objInit (hC : jCx E X cc nL own d mc ms) {ix a : Nat} (hw : ∀ w ∈ ([.methodLink own ix Lib.objectInit, .instanceMethod Lib.objectInit, .code Lib.objectInit ⟨#[0xb1]⟩ 1 none] : List Cond), w ∈ jtbl) (hd : jD cc pc n' (.invokespecial ix) 3) (hd1 : 1 ≤ d) (hroom : (st.map fun v => v.category).sum ≤ 8) (kk : JW E X nL k n M n' lv st) : JW E X nL k n M pc lv (.ref a :: st) := by
  obtain ⟨hd, rfl⟩ := hd
  obtain ⟨hx, hb, hml, hown, hts, hOk, hR, hlk⟩ := id hC
  intro H locs ls hH hS hl
  have h2 := lv_room (m := X.2.2.2.2.1) (pc := pc) (ls := ls) (rest := .ref a :: st) hroom
  refine W.objInit hx hb hown (hts _ (hw _ (by simp))) (hts _ (hw _ (by simp))) (hts _ (hw _ (by simp))) rfl (hl.1.trans hml.symm) rfl hd (Nat.le_trans hd1 hR.1) (by have := hR.2.1; omega) (kk H locs ls hH hS hl)
end JMEM
