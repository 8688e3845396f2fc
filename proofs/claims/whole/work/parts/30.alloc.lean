/-! ===== rows that make cells ===== -/
def jdef : FieldType → Bool
  | .int => true
  | .boolean => true
  | .object _ => true
  | .array _ => true
  | _ => false
theorem jdef_ok {E : jE} {ty : FieldType} (h : jdef ty = true) : defaultValue ty = jfv E ty 0 none := by
  cases ty <;> first | rfl | (simp [jdef] at h)
theorem jdef_all : ∀ ci, ci < 13 → ∀ j, j < jnF ci → jdef (jty ci j) = true := by decide +kernel
theorem jnew_N (M : jMem) (k n : Nat) : jN (jnew M k n) = jN M + 1 := rfl
theorem jnew_K (M : jMem) (k n x : Nat) : jK (jnew M k n) x = if x = jN M then (k, n) else jK M x := rfl
theorem jnew_I (M : jMem) (k n x y : Nat) : jI (jnew M k n) x y = if x = jN M then 0 else jI M x y := rfl
theorem jnew_R (M : jMem) (k n x y : Nat) : jR (jnew M k n) x y = if x = jN M then none else jR M x y := rfl
/-- an outer array of n rows of m ints -/
def jgrid (M : jMem) (n m : Nat) : jMem := ((M.1.1 + 1 + n, fun x => if x = M.1.1 then (24, n) else if M.1.1 < x ∧ x ≤ M.1.1 + n then (20, m) else M.1.2 x), (fun x y => if M.1.1 ≤ x ∧ x ≤ M.1.1 + n then 0 else M.2.1 x y), (fun x y => if x = M.1.1 then (if y < n then some (M.1.1 + 1 + y) else none) else if M.1.1 < x ∧ x ≤ M.1.1 + n then none else M.2.2 x y))
def jnm {β : Type} (M : jMem) (n m : Nat) (f : Nat → jMem → β) : β := f (jN M) (jgrid M n m)
section JALLOC
variable {E : jE} {X : jX} {cc : ByteArray} {own : String} {nL d mc ms k n pc n' : Nat} {M : jMem} {lv : List (Nat × Value)} {st : List Value} {ρ : Type} {res : ρ}
theorem jH.push {H H1 : Heap} {kd len : Nat} (hH : jH E M H) (z1 : H1.size = H.size + 1) (o1 : ∀ q, q < H.size → H1[q]? = H[q]?) (ha : jat E (jnew M kd len) (jN M) H1) : jH E (jnew M kd len) H1 := by
  refine ⟨by rw [z1, hH.1, jnew_N]; omega, fun x hx => ?_⟩
  rw [jnew_N] at hx
  by_cases e : x = jN M
  · rw [e]; exact ha
  · have hx' : x < jN M := by omega
    exact (hH.2 x hx').kept (o1 _ (by rw [hH.1]; omega)) (by rw [jnew_K, if_neg e]) (fun j => by rw [jnew_I, if_neg e]) (fun j => by rw [jnew_R, if_neg e])
theorem jS.push {H H1 : Heap} {H0 : Heap} {locs : List Loc} (hS : va_S (jA E) H0 H locs) (z1 : H.size ≤ H1.size) (o1 : ∀ q, q < H.size → H1[q]? = H[q]?) : va_S (jA E) H0 H1 locs :=
  ⟨Nat.le_trans hS.1 z1, fun x h1 h2 => (o1 x (Nat.lt_of_lt_of_le h1 hS.1)).trans (hS.2.1 x h1 h2), hS.2.2⟩
theorem jr_new (hC : jCx E X cc nL own d mc ms) {ix ci : Nat} {q : vw_C} {f : Nat → jMem → Option ρ} (hq : jcl ci q) (hw : ∀ w ∈ ([.classLink own ix q.1, .instantiable q.1 q.2.2, .initialized q.1] : List Cond), w ∈ jtbl) (hd : jD cc pc n' (.new ix) 3) (hcs : k + 1 ≤ mc ∧ n + q.2.2 ≤ ms) (k' m' : Nat) (hk' : k + 1 = k') (hm' : n + q.2.2 = m') (h : jnw M ci 0 f = some res) (kk : ∀ a M', f a M' = some res → JW E X nL k' m' M' n' lv (q_r E a :: st)) : JW E X nL k n M pc lv st := by
  obtain ⟨hd, rfl⟩ := hd
  subst hk'
  subst hm'
  obtain ⟨hx, hb, hml, hown, hts, hOk, hR, hlk⟩ := id hC
  obtain ⟨hc, hN, h13, hin, hT, hnm⟩ := hq
  have kk := kk _ _ h
  intro H locs ls hH hS hl
  have hKn := hOk.1.1 ci _ hc
  refine W.newcK (C := q.1) (n := q.2.2) hx hb hown (hts _ (hw _ (by simp))) (hts _ (hw _ (by simp))) (hts _ (hw _ (by simp))) rfl hd (Nat.le_trans hcs.1 hR.2.2.1) (Nat.le_trans hcs.2 hR.2.2.2) hKn.2.1 rfl fun H1 kC hkC e1 z1 o1 => ?_
  have ha : jat E (jnew M ci 0) (jN M) H1 := by
    unfold jat
    rw [jnew_K, if_pos rfl]
    show if ci < 13 then _ else _
    rw [if_pos h13]
    have hb1 := u_born (o := H.size) (jty ci) hts hin hKn hkC e1 (fun k hk => (hT k hk).2)
    rw [hH.1, hN] at hb1
    refine hb1.to (fun j hj => ?_)
    rw [jnew_I, if_pos rfl, jnew_R, if_pos rfl]
    exact jdef_ok (jdef_all ci h13 j hj)
  have kk := kk H1 locs ls (hH.push z1 o1 ha) (jS.push hS (by omega) o1) hl
  have e : H.size = jb E + jN M := hH.1
  rw [e]
  exact kk
theorem jr_newa (hC : jCx E X cc nL own d mc ms) {aty : ArrayType} {v : Int} {f : Nat → jMem → Option ρ} (t t0 N : Nat) (ht : t = t0 + 20) (h4 : t0 < 4) (hty : newarray.typeOf aty = jaT t) (hv : Int32.ofInt v = Int32.ofNat N ∧ N < 2147483648) (hbytes : N * componentBytes (jaT t) ≤ 536870912) (hw : Cond.arrayClass (jaT t) ∈ jtbl) (hd : jD cc pc n' (.newarray aty) 2) (hcs : k + 1 ≤ mc ∧ n + N ≤ ms) (k' m' : Nat) (hk' : k + 1 = k') (hm' : n + N = m') (h : jnw M t N f = some res) (kk : ∀ a M', f a M' = some res → JW E X nL k' m' M' n' lv (q_r E a :: st)) : JW E X nL k n M pc lv (q_i v :: st) := by
  obtain ⟨hd, rfl⟩ := hd
  subst hk'
  subst hm'
  subst ht
  obtain ⟨hx, hb, hml, hown, hts, hOk, hR, hlk⟩ := id hC
  have kk := kk _ _ h
  have hnn : (Int32.ofInt v).toNatClampNeg = N := by rw [hv.1]; exact nI_clamp hv.2
  have hn0 : ¬ Int32.ofInt v < 0 := by rw [hv.1]; exact nI_pos hv.2
  intro H locs ls hH hS hl
  refine va_newaK hx hb (by rw [hty]; exact hts _ hw) rfl hd rfl hn0 hnn (by rw [hty]; exact hbytes) (Nat.le_trans hcs.1 hR.2.2.1) (Nat.le_trans hcs.2 hR.2.2.2) rfl fun H1 cA e1 z1 o1 hAr hNm => ?_
  rw [hty] at e1 hNm
  have hcA : cA = jaC E (t0 + 20) ∧ defaultValue (jaT (t0 + 20)) = jav E (t0 + 20) 0 none := by
    rcases (show t0 = 0 ∨ t0 = 1 ∨ t0 = 2 ∨ t0 = 3 by omega) with rfl | rfl | rfl | rfl
    · exact ⟨Option.some.inj (hNm.symm.trans (hOk.1.2 0 _ rfl).2), rfl⟩
    · exact ⟨Option.some.inj (hNm.symm.trans (hOk.1.2 1 _ rfl).2), rfl⟩
    · exact ⟨Option.some.inj (hNm.symm.trans (hOk.1.2 2 _ rfl).2), rfl⟩
    · exact ⟨Option.some.inj (hNm.symm.trans (hOk.1.2 3 _ rfl).2), rfl⟩
  have ha : jat E (jnew M (t0 + 20) N) (jN M) H1 := by
    unfold jat
    rw [jnew_K, if_pos rfl]
    show if t0 + 20 < 13 then _ else _
    rw [if_neg (by omega), ← hH.1, e1, hcA.1, hcA.2]
    congr 2
    funext j
    rw [jnew_I, if_pos rfl, jnew_R, if_pos rfl]
  have kk := kk H1 locs ls (hH.push z1 o1 ha) (jS.push hS (by omega) o1) hl
  have e : H.size = jb E + jN M := hH.1
  rw [e]
  exact kk
theorem jr_anew (hC : jCx E X cc nL own d mc ms) {ix : Nat} {v : Int} {f : Nat → jMem → Option ρ} (N : Nat) (hv : Int32.ofInt v = Int32.ofNat N ∧ N < 2147483648) (hbytes : N * 4 ≤ 536870912) (hw : Cond.classLink own ix RX6 ∈ jtbl) (hd : jD cc pc n' (.anewarray ix) 3) (hcs : k + 1 ≤ mc ∧ n + N ≤ ms) (k' m' : Nat) (hk' : k + 1 = k') (hm' : n + N = m') (h : jnw M 25 N f = some res) (kk : ∀ a M', f a M' = some res → JW E X nL k' m' M' n' lv (q_r E a :: st)) : JW E X nL k n M pc lv (q_i v :: st) := by
  obtain ⟨hd, rfl⟩ := hd
  subst hk'
  subst hm'
  obtain ⟨hx, hb, hml, hown, hts, hOk, hR, hlk⟩ := id hC
  have kk := kk _ _ h
  have hnn : (Int32.ofInt v).toNatClampNeg = N := by rw [hv.1]; exact nI_clamp hv.2
  have hn0 : ¬ Int32.ofInt v < 0 := by rw [hv.1]; exact nI_pos hv.2
  subst hnn
  intro H locs ls hH hS hl
  refine W.anew (C := RX6) hx hb hown (hts _ hw) (va_AO.use hOk.2.2.2.2.2.2.1) rfl hd rfl hn0 hbytes (Nat.le_trans hcs.1 hR.2.2.1) (Nat.le_trans hcs.2 hR.2.2.2) fun cA kA comp f1 f2 f3 f4 => ?_
  generalize hH1 : H.push ({ cls := cA, slots := Array.replicate (Int32.ofInt v).toNatClampNeg .null, vm := .none } : Cell) = H1
  have z1 : H1.size = H.size + 1 := by rw [← hH1, Array.size_push]
  have e1 : H1[H.size]? = some (arrV cA (Int32.ofInt v).toNatClampNeg (fun _ => .null)) := by rw [← hH1, Array.getElem?_push_size, ← arrV_new]
  have o1 : ∀ q : Nat, q < H.size → H1[q]? = H[q]? := fun q hq => by rw [← hH1, Array.getElem?_push, if_neg (Nat.ne_of_lt hq)]
  have hcA : cA = jaC E 25 := by
    obtain ⟨kA', comp', g1, g2, g3, g4⟩ := (hOk.1.2 5 _ rfl).2
    exact Option.some.inj (f1.symm.trans g4)
  have ha : jat E (jnew M 25 (Int32.ofInt v).toNatClampNeg) (jN M) H1 := by
    unfold jat
    rw [jnew_K, if_pos rfl]
    show if 25 < 13 then _ else _
    rw [if_neg (by omega), ← hH.1, e1, hcA]
    congr 2
    funext j
    rw [jnew_I, if_pos rfl, jnew_R, if_pos rfl]
    rfl
  have kk := kk H1 locs ls (hH.push z1 o1 ha) (jS.push hS (by omega) o1) hl
  have e : H.size = jb E + jN M := hH.1
  rw [e]
  exact kk
theorem jr_aast (hC : jCx E X cc nL own d mc ms) {a q : Nat} {i : Int} {f : jMem → Option ρ} (hd : jD cc pc n' .aastore 1) (h : (jm_stR M a i q).bind f = some res) (kk : ∀ M', M' = jsR M a (jd_wr i).toNat (some q) → f M' = some res → JW E X nL k n M' n' lv st) : JW E X nL k n M pc lv (q_r E q :: q_i i :: q_r E a :: st) := by
  obtain ⟨hd, rfl⟩ := hd
  obtain ⟨M', h1, h2⟩ := jo_b h
  obtain ⟨⟨hk, hq⟩, h1⟩ := jo_if h1
  cases h1
  have kk := kk _ rfl h2
  obtain ⟨hx, hb, hml, hown, hts, hOk, hR, hlk⟩ := id hC
  intro H locs ls hH hS hl
  obtain ⟨g1, g2, -⟩ := jr_aldV hC hk (by decide) hH
  obtain ⟨cell, q1, q2, q3, -⟩ := (hH.2 q hq.2).obj hq.1 (by decide)
  obtain ⟨kA, comp, k1, k2, k3, -⟩ := (hOk.1.2 5 _ rfl).2
  have hcls := (hOk.1.1 6 _ rfl).2
  have hcomp : comp = E.2.1.1 6 := Option.some.inj (k3.symm.trans hcls.1)
  subst hcomp
  obtain ⟨kC, hkC, -⟩ := hcls.2
  have hlt : (jd_wr i).toNat < (jK M a).2 := by omega
  refine W.aast hx hb g1 (fun q h => by cases h) (fun h => by cases h) k1 k2 rfl hkC ⟨fun z => g2 (Or.inl z), by rw [arrV_size, jw_clamp]; exact hlt⟩ q1 (fun z h => by rw [q3] at h; cases h) (by rw [q2]; exact hkC) (by rw [q2]; exact va_assign hcls) rfl rfl hd fun H1 e1 e2 e3 => ?_
  refine kk H1 _ ls (hH.set e2 e3 (jsR_N M a _ _) (jsR_K M a _ _) (fun x hx y => rfl) (fun x hx y => ?_) ?_) (hS.put e2 e3 (Nat.le_add_right _ _)) hl
  · rw [jsR_R, if_neg (fun z => hx z.1)]
  · unfold jat
    rw [jsR_K, hk.1.1, if_neg (by decide), e1, arrV_store]
    congr 2
    funext y
    rw [jsR_R, jsR_I, jw_clamp]
    unfold updV
    by_cases e : y = (jd_wr i).toNat
    · rw [if_pos e, if_pos ⟨rfl, e⟩]; rfl
    · rw [if_neg e, if_neg (fun z => e z.2)]
theorem jouter (c : ClassId) (N h0 : Nat) : ∀ i : Nat, Jvm.Free.Multi.outerC c N h0 i = arrV c N (fun j => va_rf (if j < i then some (h0 + 1 + j) else none))
  | 0 => by
    show ({ cls := c, slots := Array.replicate N .null, vm := .none } : Cell) = _
    rw [arrV_new]
    refine congrArg (arrV c N) (funext fun j => ?_)
    simp [va_rf]
  | i + 1 => by
    show (Jvm.Free.Multi.outerC c N h0 i).setSlot i (.ref (h0 + 1 + i)) = _
    rw [jouter c N h0 i, arrV_store]
    refine congrArg (arrV c N) (funext fun j => ?_)
    by_cases e : j = i
    · subst e
      simp [updV, va_rf]
    · by_cases h : j < i
      · simp [updV, e, h, Nat.lt_succ_of_lt h]
      · simp [updV, e, h, show ¬ j < i + 1 by omega]
theorem jr_mnew (hC : jCx E X cc nL own d mc ms) {ix : Nat} {v w : Int} {f : Nat → jMem → Option ρ} (N K : Nat) (hv : Int32.ofInt v = Int32.ofNat N ∧ N < 2147483648) (hw' : Int32.ofInt w = Int32.ofNat K ∧ K < 2147483648) (hb1 : N * 4 ≤ 536870912) (hb2 : K * 4 ≤ 536870912) (hw : ∀ w ∈ ([.classLink own ix "[[I", .arrayClass .int] : List Cond), w ∈ jtbl) (hd : jD cc pc n' (.multianewarray ix 2) 4) (hcs : k + (1 + N) ≤ mc ∧ n + (N + N * K) ≤ ms) (k' m' : Nat) (hk' : k + 1 + N = k') (hm' : n + N + N * K = m') (h : jnm M N K f = some res) (kk : ∀ a M', f a M' = some res → JW E X nL k' m' M' n' lv (q_r E a :: st)) : JW E X nL k n M pc lv (q_i w :: q_i v :: st) := by
  obtain ⟨hd, rfl⟩ := hd
  subst hk'
  subst hm'
  obtain ⟨hx, hb, hml, hown, hts, hOk, hR, hlk⟩ := id hC
  have kk := kk _ _ h
  have hnn : (Int32.ofInt v).toNatClampNeg = N := by rw [hv.1]; exact nI_clamp hv.2
  have hn0 : ¬ Int32.ofInt v < 0 := by rw [hv.1]; exact nI_pos hv.2
  have hkn : (Int32.ofInt w).toNatClampNeg = K := by rw [hw'.1]; exact nI_clamp hw'.2
  have hk0 : ¬ Int32.ofInt w < 0 := by rw [hw'.1]; exact nI_pos hw'.2
  intro H locs ls hH hS hl T hT Xs
  obtain ⟨vm₁, cA, comp, -, fA, fC, hO, -, X', step⟩ := Xs.multianewarray2F (ty := .int) hx hown (hts (.classLink own ix "[[I") (hw _ (by simp))) (show (Cond.arrayOver (.array .int)).before _ _ = true from hOk.2.2.2.2.2.2.2.1) (hts (.arrayClass .int) (hw _ (by simp))) (g := F0 X.2.2.2.2.1 pc ls (q_i w :: q_i v :: st)) rfl (by rw [hb]; exact hd) rfl hn0 hk0 (by rw [hnn]; exact hb1) (by rw [hkn]; exact hb2) (by rw [hkn]; omega) rfl rfl (by rw [hnn]; exact Nat.le_trans hcs.1 hR.2.2.1) (by rw [hnn, hkn]; exact Nat.le_trans hcs.2 hR.2.2.2)
  rw [hnn, hkn] at X' step
  have hcA : cA = jaC E 24 := Option.some.inj (fA.symm.trans (hOk.1.2 4 _ rfl).2)
  have hcI : comp = jaC E 20 := Option.some.inj (fC.symm.trans (hOk.1.2 0 _ rfl).2)
  subst hcA
  subst hcI
  generalize hF : Jvm.Free.Multi.fill (T.setVm vm₁) (jaC E 24) (jaC E 20) N K (defaultValue .int) N = F at X' step
  have hTh : (T.setVm vm₁).heap = H := hT
  obtain ⟨f1, f2, -, -⟩ := Jvm.Free.Multi.fill_facts (T.setVm vm₁) (jaC E 24) (jaC E 20) N K (defaultValue .int) N
  rw [hF, hTh] at f1 f2
  have hold : ∀ x : Nat, x < H.size → F.heap[x]? = H[x]? := fun x hx => by
    have := Jvm.Free.Multi.fill_old (T.setVm vm₁) (jaC E 24) (jaC E 20) N K (defaultValue .int) (a := x) (by rw [hTh]; exact hx) N
    rw [hF, hTh] at this
    exact this
  have hrow : ∀ j : Nat, j < N → F.heap[H.size + 1 + j]? = some (arrV (jaC E 20) K (fun _ => q_i 0)) := fun j hj => by
    have := Jvm.Free.Multi.fill_inner (T.setVm vm₁) (jaC E 24) (jaC E 20) N K (defaultValue .int) N j hj
    rw [hF, hTh] at this
    rw [this]
    congr 1
    show ({ cls := jaC E 20, slots := Array.replicate K (defaultValue .int), vm := .none } : Cell) = _
    rw [arrV_new]
    rfl
  rw [jouter] at f2
  have hHF : jH E (jgrid M N K) F.heap := by
    refine ⟨by rw [f1, hH.1]; show _ = _ + (jN M + 1 + N); omega, fun x hx => ?_⟩
    have hx : x < jN M + 1 + N := hx
    by_cases e0 : x < jN M
    · refine (hH.2 x e0).kept (hold _ (by rw [hH.1]; omega)) ?_ (fun j => ?_) (fun j => ?_)
      · show (if x = jN M then _ else if jN M < x ∧ x ≤ jN M + N then _ else _) = _
        rw [if_neg (by omega), if_neg (by omega)]; rfl
      · show (if jN M ≤ x ∧ x ≤ jN M + N then _ else _) = _
        rw [if_neg (by omega)]; rfl
      · show (if x = jN M then _ else if jN M < x ∧ x ≤ jN M + N then _ else _) = _
        rw [if_neg (by omega), if_neg (by omega)]; rfl
    · by_cases e1 : x = jN M
      · subst e1
        have hkx : jK (jgrid M N K) (jN M) = (24, N) := by show (if jN M = jN M then _ else _) = _; rw [if_pos rfl]
        unfold jat
        rw [hkx, if_neg (show ¬ (24 : Nat) < 13 by decide), ← hH.1, f2]
        congr 2
        funext j
        have hr : jR (jgrid M N K) (jN M) j = if j < N then some (jN M + 1 + j) else none := by show (if jN M = jN M then _ else _) = _; rw [if_pos rfl]; rfl
        rw [hr]
        show _ = va_rf ((if j < N then some (jN M + 1 + j) else none).map (fun a => jb E + a))
        by_cases hj : j < N
        · rw [if_pos hj, if_pos hj, hH.1]
          show va_rf (some _) = va_rf (some _)
          rw [show jb E + jN M + 1 + j = jb E + (jN M + 1 + j) by omega]
        · rw [if_neg hj, if_neg hj]; rfl
      · obtain ⟨j, rfl⟩ : ∃ j, x = jN M + 1 + j := ⟨x - jN M - 1, by omega⟩
        have hkx : jK (jgrid M N K) (jN M + 1 + j) = (20, K) := by
          show (if jN M + 1 + j = jN M then _ else if jN M < jN M + 1 + j ∧ jN M + 1 + j ≤ jN M + N then _ else _) = _
          rw [if_neg (by omega), if_pos (by omega)]
        unfold jat
        rw [hkx, if_neg (show ¬ (20 : Nat) < 13 by decide), show jb E + (jN M + 1 + j) = H.size + 1 + j by rw [hH.1]; omega, hrow j (by omega)]
        congr 2
        funext y
        have hi : jI (jgrid M N K) (jN M + 1 + j) y = 0 := by
          show (if jN M ≤ jN M + 1 + j ∧ jN M + 1 + j ≤ jN M + N then _ else _) = _
          rw [if_pos (by omega)]
        rw [hi]
        rfl
  have e : H.size = jb E + jN M := hH.1
  obtain ⟨t, a1, b1⟩ := kk F.heap locs ls hHF (jS.push hS (by rw [f1]; omega) hold) hl F rfl X'
  refine ⟨t, step t ?_, b1⟩
  rw [show T.heap.size = jb E + jN M by rw [hT]; exact e]
  exact a1
end JALLOC
