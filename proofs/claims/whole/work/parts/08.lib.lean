/-! ===== the JDK's own: arraycopy; what lies outside the flat memory: the two texts, two statics ===== -/
def jcpy (M : jMem) (src p dst q m : Nat) : jMem := (M.1, fun x y => if x = dst ∧ q ≤ y ∧ y < q + m then M.2.1 src (p + (y - q)) else M.2.1 x y, M.2.2)
def jm_cpy (M : jMem) (src : Nat) (sp : Int) (dst : Nat) (dp n : Int) : Option jMem :=
  if ((jK M src).1 = 20 ∧ src < jN M) ∧ ((jK M dst).1 = 20 ∧ dst < jN M) ∧ (0 ≤ jd_wr sp ∧ 0 ≤ jd_wr dp ∧ 0 ≤ jd_wr n) ∧ jd_wr sp + jd_wr n ≤ ((jK M src).2 : Int) ∧ jd_wr dp + jd_wr n ≤ ((jK M dst).2 : Int)
  then some (jcpy M src (jd_wr sp).toNat dst (jd_wr dp).toNat (jd_wr n).toNat) else none
/-- the byte at place k of text i -/
def jm_sb (i : Nat) (k : Int) : Option Int := if 0 ≤ jd_wr k ∧ jd_wr k < ((jlen.getD i 0 : Nat) : Int) then some ((jbyt.getD i []).getD (jd_wr k).toNat 0).toInt else none
abbrev q_s (E : jE) (i : Nat) : Value := .ref (E.2.2.2.2.1 i)
abbrev q_b (E : jE) (i : Nat) : Value := .ref (E.2.2.2.2.2 i)
theorem jcw : ∀ w ∈ ([.methodLink RX6 57 arraycopyName, .native arraycopyName, .static arraycopyName, .initialized "java/lang/System"] : List Cond), w ∈ jtbl := jt_all [977, 979, 978, 144] (by decide +kernel) (by decide +kernel)
section JLIB
variable {E : jE} {X : jX} {cc : ByteArray} {own : String} {nL d mc ms k n pc n' : Nat} {M : jMem} {lv : List (Nat × Value)} {st : List Value} {ρ : Type} {res : ρ}
theorem jr_cpy (hC : jCx E X cc nL own d mc ms) {ix src dst : Nat} {sp dp m : Int} {f : jMem → Option ρ} (hd : jD cc pc n' (.invokestatic ix) 3) (ho : own = RX6 ∧ ix = 57) (hd1 : 1 ≤ d) (hroom : (st.map fun v => v.category).sum ≤ 8) (h : (jm_cpy M src sp dst dp m).bind f = some res) (kk : ∀ M', M' = jcpy M src (jd_wr sp).toNat dst (jd_wr dp).toNat (jd_wr m).toNat → f M' = some res → JW E X nL k n M' n' lv st) : JW E X nL k n M pc lv (q_i m :: q_i dp :: q_r E dst :: q_i sp :: q_r E src :: st) := by
  obtain ⟨rfl, rfl⟩ := ho
  obtain ⟨hd, rfl⟩ := hd
  obtain ⟨M', h1, h2⟩ := jo_b h
  obtain ⟨⟨hs, hdst, ⟨p0, p1, p2⟩, l1, l2⟩, h1⟩ := jo_if h1
  cases h1
  have kk := kk _ rfl h2
  obtain ⟨hx, hb, hml, hown, hts, hOk, hR, hlk⟩ := id hC
  intro H locs ls hH hS hl
  have hc0 := (hH.2 src hs.2).arr hs.1 (by decide)
  have hc1 := (hH.2 dst hdst.2).arr hdst.1 (by decide)
  have hc0 : H[jb E + src]? = some (arrV (jaC E 20) (jK M src).2 (fun j => .int (Int32.ofInt (jI M src j)))) := hc0
  have hc1 : H[jb E + dst]? = some (arrV (jaC E 20) (jK M dst).2 (fun j => .int (Int32.ofInt (jI M dst j)))) := hc1
  have g0 : ∀ z : Int, 0 ≤ jd_wr z → ¬ Int32.ofInt z < 0 := fun z hz q => by have := (jw_lt0 z).mp q; omega
  have hnf : nativeFrameWords "java/lang/System" "arraycopy" 5 = 7 := by decide +kernel
  have hloc : 2 * 0 + (st.map fun v => v.category).sum + (nativeFrameWords "java/lang/System" "arraycopy" 5 + 11) ≤ X.2.2.1.locals := by
    rw [hnf]
    have := hR.2.1
    omega
  have w1 := hts (.methodLink RX6 57 arraycopyName) (jcw _ (by simp))
  have w2 := hts (.native arraycopyName) (jcw _ (by simp))
  have w3 := hts (.static arraycopyName) (jcw _ (by simp))
  have w4 := hts (.initialized "java/lang/System") (jcw _ (by simp))
  intro T hT Xs
  obtain ⟨-, k0, hk0, cm0, hkk0⟩ := (hOk.1.2 0 _ rfl).1 (jK M src).2 (fun j => .int (Int32.ofInt (jI M src j)))
  obtain ⟨vm', X', step⟩ := Xs.arraycopy hx hown w1 w2 w3 w4 (src := jb E + src) (dst := jb E + dst) (cs := arrV (jaC E 20) (jK M src).2 (fun j => .int (Int32.ofInt (jI M src j)))) (cd := arrV (jaC E 20) (jK M dst).2 (fun j => .int (Int32.ofInt (jI M dst j)))) (srcPos := Int32.ofInt sp) (destPos := Int32.ofInt dp) (n := Int32.ofInt m) (by rw [hT]; exact hc0) (by rw [hT]; exact hc1)
    (fun _ h => by cases h) (fun _ h => by cases h) (fun h => by cases h) (fun h => by cases h) hk0 hk0 hkk0 hkk0 (by simp [jaT, refKind]) (g0 sp p0) (g0 dp p1) (g0 m p2)
    (by show ¬ jd_wr sp + jd_wr m > ((arrV _ _ _).slots.size : Int); rw [arrV_size]; omega)
    (by show ¬ jd_wr dp + jd_wr m > ((arrV _ _ _).slots.size : Int); rw [arrV_size]; omega)
    (fun vm₁ _ i hi => by
      have hi' : i < (jd_wr m).toNat := hi
      have e : (arrV (jaC E 20) (jK M src).2 (fun j => Value.int (Int32.ofInt (jI M src j)))).slots.getD ((Int32.ofInt sp).toNatClampNeg + i) .null = .int (Int32.ofInt (jI M src ((jd_wr sp).toNat + i))) := by
        rw [Array.getD_eq_getD_getElem?, jw_clamp, arrV_read _ _ (by omega)]
        rfl
      refine ⟨?_, ?_⟩
      · rw [e]
        rfl
      · rw [e]
        exact trivial)
    (g := F0 X.2.2.2.2.1 pc ls (q_i m :: q_i dp :: q_r E dst :: q_i sp :: q_r E src :: st)) rfl (hl.1.trans hml.symm) (rest := st) rfl (by rw [hb]; exact hd) (Nat.le_trans hd1 hR.1) hloc
  have e1 : copied (arrV (jaC E 20) (jK M src).2 (fun j => Value.int (Int32.ofInt (jI M src j)))) (arrV (jaC E 20) (jK M dst).2 (fun j => Value.int (Int32.ofInt (jI M dst j)))) (Int32.ofInt sp) (Int32.ofInt dp) (Int32.ofInt m) = arrV (jaC E 20) (jK M dst).2 (fun j => Value.int (va_cpy (fun j => Int32.ofInt (jI M src j)) (fun j => Int32.ofInt (jI M dst j)) (jd_wr sp).toNat (jd_wr dp).toNat (jd_wr m).toNat j)) :=
    va_copied (fun z => .int z) (jaC E 20) (jaC E 20) (fun j => Int32.ofInt (jI M src j)) (fun j => Int32.ofInt (jI M dst j)) (by show (jd_wr sp).toNat + (jd_wr m).toNat ≤ _; omega)
  rw [e1] at X' step
  have hlt : jb E + dst < H.size := (Array.getElem?_eq_some_iff.mp hc1).1
  generalize hnew : arrV (jaC E 20) (jK M dst).2 (fun j => Value.int (va_cpy (fun j => Int32.ofInt (jI M src j)) (fun j => Int32.ofInt (jI M dst j)) (jd_wr sp).toNat (jd_wr dp).toNat (jd_wr m).toNat j)) = cell at X' step
  have hheap : ((T.setVm vm').setCell (jb E + dst) cell).heap = H.setIfInBounds (jb E + dst) cell := by rw [← hT]; rfl
  have oq : ∀ q : Nat, q ≠ jb E + dst → (H.setIfInBounds (jb E + dst) cell)[q]? = H[q]? := fun q hq => by simp [Array.getElem?_setIfInBounds, Ne.symm hq]
  have hH' : jH E (jcpy M src (jd_wr sp).toNat dst (jd_wr dp).toNat (jd_wr m).toNat) (H.setIfInBounds (jb E + dst) cell) := by
    refine hH.set (by simp) oq rfl (fun x => rfl) (fun x hx y => ?_) (fun x hx y => rfl) ?_
    · show (if x = dst ∧ _ then _ else _) = _
      rw [if_neg (fun z => hx z.1)]
      rfl
    · unfold jat
      rw [show jK (jcpy M src (jd_wr sp).toNat dst (jd_wr dp).toNat (jd_wr m).toNat) dst = jK M dst from rfl, hdst.1, if_neg (by decide), Array.getElem?_setIfInBounds_self_of_lt hlt, ← hnew]
      congr 2
      funext q
      show _ = Value.int (Int32.ofInt (if dst = dst ∧ _ then _ else _))
      unfold va_cpy
      by_cases hq : (jd_wr dp).toNat ≤ q ∧ q < (jd_wr dp).toNat + (jd_wr m).toNat
      · rw [if_pos hq, if_pos ⟨rfl, hq⟩]; rfl
      · rw [if_neg hq, if_neg (fun z => hq z.2)]; rfl
  obtain ⟨t, a1, b1⟩ := kk _ _ ls hH' ⟨by simp; exact hS.1, fun q g1 g2 => by
      rw [oq q (fun e => g2 (by rw [e]; exact Nat.le_add_right _ _))]
      exact hS.2.1 q g1 g2, fun q hq => by
      rcases List.mem_append.mp hq with h | h
      · exact hS.2.2 q h
      · obtain ⟨z, -, hz⟩ := List.mem_map.mp h
        rw [← hz]
        exact Nat.le_add_right _ _⟩ hl _ hheap X'
  exact ⟨t, step t a1, b1⟩
theorem jr_ldcS0 (hC : jCx E X cc nL own d mc ms) (ho : own = RX9) (hd : jD cc pc n' (.ldc 72) 2) (kk : JW E X nL k n M n' lv (q_s E 0 :: st)) : JW E X nL k n M pc lv st := by
  subst ho
  obtain ⟨hd, rfl⟩ := hd
  exact fun H locs ls hH hS hl => va_ldcS hC.1 hC.2.1 hC.2.2.2.1 hC.2.2.2.2.2.1.2.2.1 hd (kk H locs ls hH hS hl)
theorem jr_ldcS1 (hC : jCx E X cc nL own d mc ms) (ho : own = RX9) (hd : jD cc pc n' (.ldc 61) 2) (kk : JW E X nL k n M n' lv (q_s E 1 :: st)) : JW E X nL k n M pc lv st := by
  subst ho
  obtain ⟨hd, rfl⟩ := hd
  exact fun H locs ls hH hS hl => va_ldcS hC.1 hC.2.1 hC.2.2.2.1 hC.2.2.2.2.2.1.2.2.2.1 hd (kk H locs ls hH hS hl)
/-- a static that holds a whole number or a ref that nobody looks at -/
theorem jr_compact (hC : jCx E X cc nL own d mc ms) {ix : Nat} (hw : Cond.fieldLink own ix "java/lang/String" "COMPACT_STRINGS" "Z" ∈ jtbl) (hd : jD cc pc n' (.getstatic ix) 3) (kk : JW E X nL k n M n' lv (q_i 1 :: st)) : JW E X nL k n M pc lv st := by
  obtain ⟨hd, rfl⟩ := hd
  exact fun H locs ls hH hS hl => va_gets hC.1 hC.2.1 hC.2.2.2.2.2.1.2.2.2.2.2.1 hS hC.2.2.2.1 (hC.2.2.2.2.1 _ hw) (fun _ h => h) hd (kk H locs ls hH hS hl)
theorem jr_formatter (hC : jCx E X cc nL own d mc ms) {ix : Nat} (hw : Cond.fieldLink own ix "jdk/internal/util/Preconditions" "SIOOBE_FORMATTER" "Ljava/util/function/BiFunction;" ∈ jtbl) (hd : jD cc pc n' (.getstatic ix) 3) (kk : ∀ v : Value, v.category = 1 → JW E X nL k n M n' lv (v :: st)) : JW E X nL k n M pc lv st := by
  obtain ⟨hd, rfl⟩ := hd
  intro H locs ls hH hS hl
  rcases hC.2.2.2.2.2.1.2.2.2.2.2.2.2.2 with hz | ⟨t, hz⟩
  · exact va_gets hC.1 hC.2.1 hz hS hC.2.2.2.1 (hC.2.2.2.2.1 _ hw) (fun _ h => h) hd (kk _ rfl H locs ls hH hS hl)
  · exact va_gets hC.1 hC.2.1 hz hS hC.2.2.2.1 (hC.2.2.2.2.1 _ hw) (fun _ h => h) hd (kk _ rfl H locs ls hH hS hl)
theorem jr_sval (hC : jCx E X cc nL own d mc ms) {ix i : Nat} (hi : i < 2) (hw : Cond.fieldLink own ix "java/lang/String" "value" "[B" ∈ jtbl) (hd : jD cc pc n' (.getfield ix) 3) (kk : JW E X nL k n M n' lv (q_b E i :: st)) : JW E X nL k n M pc lv (q_s E i :: st) := by
  obtain ⟨hd, rfl⟩ := hd
  exact fun H locs ls hH hS hl => vk_getf hC.1 hC.2.1 (hC.2.2.2.2.2.1.2.2.2.2.1.1 i hi).2.2.1 hS hC.2.2.2.1 (hC.2.2.2.2.1 _ hw) (fun _ h => h) hd (kk H locs ls hH hS hl)
theorem jr_scoder (hC : jCx E X cc nL own d mc ms) {ix i : Nat} (hi : i < 2) (hw : Cond.fieldLink own ix "java/lang/String" "coder" "B" ∈ jtbl) (hd : jD cc pc n' (.getfield ix) 3) (kk : JW E X nL k n M n' lv (q_i 0 :: st)) : JW E X nL k n M pc lv (q_s E i :: st) := by
  obtain ⟨hd, rfl⟩ := hd
  exact fun H locs ls hH hS hl => vk_getf hC.1 hC.2.1 (hC.2.2.2.2.2.1.2.2.2.2.1.1 i hi).2.1 hS hC.2.2.2.1 (hC.2.2.2.2.1 _ hw) (fun _ h => h) hd (kk H locs ls hH hS hl)
theorem jr_slen (hC : jCx E X cc nL own d mc ms) {i : Nat} (hi : i < 2) (hd : jD cc pc n' .arraylength 1) (kk : JW E X nL k n M n' lv (q_i ((jlen.getD i 0 : Nat) : Int) :: st)) : JW E X nL k n M pc lv (q_b E i :: st) := by
  obtain ⟨hd, rfl⟩ := hd
  intro H locs ls hH hS hl
  obtain ⟨cell, h1, h2, h3, h4, h5, h6, h7⟩ := (hC.2.2.2.2.2.1.2.2.2.2.1.1 i hi).2.2.2.kept hS.2.1
  exact W.alen (n := Int32.ofInt ((jlen.getD i 0 : Nat) : Int)) hC.1 hC.2.1 h1 h2 (by rw [h5]; rfl) rfl rfl hd (kk H locs ls hH hS hl)
theorem jr_sbald (hC : jCx E X cc nL own d mc ms) {i : Nat} (hi : i < 2) {a : Int} {f : Int → Option ρ} (hd : jD cc pc n' .baload 1) (h : (jm_sb i a).bind f = some res) (kk : ∀ v, f v = some res → JW E X nL k n M n' lv (q_i v :: st)) : JW E X nL k n M pc lv (q_i a :: q_b E i :: st) := by
  obtain ⟨hd, rfl⟩ := hd
  obtain ⟨v, h1, h2⟩ := jo_b h
  obtain ⟨hk, h1⟩ := jo_if h1
  cases h1
  intro H locs ls hH hS hl
  obtain ⟨cell, g1, g2, g3, g4, g5, g6, g7⟩ := (hC.2.2.2.2.2.1.2.2.2.2.1.1 i hi).2.2.2.kept hS.2.1
  have hlt : (jd_wr a).toNat < jlen.getD i 0 := by omega
  refine W.bald (v := q_i ((jbyt.getD i []).getD (jd_wr a).toNat 0).toInt) hC.1 hC.2.1 g1 g2 g3 (fun z => ?_) ?_ rfl rfl hd (kk _ h2 H locs ls hH hS hl)
  · rcases z with z | z
    · have := (jw_lt0 a).mp z; omega
    · rw [jw_clamp] at z; omega
  · rw [jw_clamp, g6 _ hlt]
    show some (Value.int _) = some (Value.int _)
    rw [jw_ofInt]
/-- a call of a method of a text -/
theorem jr_callX (hC : jCx E X cc nL own d mc ms) {ix i : Nat} (hi : i < 2) {y : MethodName} {c2 : ByteArray} {n2 np d2 : Nat} {ret : Option FieldType} {As st0 : List Value} {rv : Option Value} {M' : jMem} (hy : y.cls = "java/lang/String") (hw : jcV own ix y c2 n2 ret np) (hd : jD cc pc n' (.invokevirtual ix) 3) (hM : jMet E y c2 n2 ret d2 0 0 (q_s E i :: As) M rv M') (hst : st0 = As.reverse ++ q_s E i :: st) (hAs : As.length = np) (hrm : d2 + 1 ≤ d ∧ n2 ≤ 80) (hroom : (st.map fun v => v.category).sum ≤ 8) (hcs : k ≤ mc ∧ n ≤ ms) (kk : JW E X nL k n M' n' lv (rv.toList ++ st)) : JW E X nL k n M pc lv st0 := by
  obtain ⟨hd, rfl⟩ := hd
  subst hst
  obtain ⟨hx, hb, hml, hown, hts, hOk, hR, hlk⟩ := id hC
  obtain ⟨w1, w2, w3, w4, w5⟩ := hw
  intro H locs ls hH hS hl
  obtain ⟨cell, q1, q2, q3⟩ := vk_recv hOk.2.2.2.2.1 hi hS
  refine jrun (va_runV (As := As) (rest := st) (C := y.cls) ⟨hx, hb, hml, hown, hts⟩ hM (cwV np hts (jgoodIn w2 w1) rfl rfl rfl ⟨rfl, w3, w4, w5⟩ (by obtain ⟨r1, r2, -, -⟩ := hR; show d2 + 1 ≤ X.2.2.1.frames ∧ 8 + (n2 + 11) + 100 * d2 ≤ X.2.2.1.locals; omega)) ⟨jPre.blind E M _, ⟨cell, q1, q2, by rw [hy]; exact q3⟩, fun U hU hW => ⟨rfl, by rw [hU]; exact hH, hOk.callee hS hU hW⟩⟩ rfl hAs hl.1 rfl (lv_room hroom) hd ⟨Nat.le_trans hcs.1 hR.2.2.1, Nat.le_trans hcs.2 hR.2.2.2⟩) hS (fun H1 locs1 h1 s1 => kk H1 locs1 ls h1 s1 hl)
/-- a char or a byte goes back -/
theorem jr_nret (hC : jCx E X cc nL own d mc ms) {v : Int} {ty : FieldType} (hd : jD cc pc n' .ireturn 1) (hr : X.2.2.2.2.2.2.2.1.sig.returnType = some ty) (hn : narrow ty (q_i v) = q_i v) (hE : jEnd E X k n (some (q_i v)) M) : JW E X nL k n M pc lv [q_i v] := by
  intro H locs ls hH hS hl
  rw [hE]
  refine W.zret hC.1 hC.2.1 hr hn (fun t ht hW => ⟨⟨rfl, ?_, hC.2.2.2.2.2.1.callee hS ht hW⟩, hS.F ht⟩) (fun q hq => hS.2.2 q hq) hd.1 hC.2.2.2.2.2.2.2
  rw [ht]; exact hH
end JLIB
