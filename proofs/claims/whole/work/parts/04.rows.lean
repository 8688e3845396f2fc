/-! ===== one row an instruction, over the flat memory ===== -/
def jD (cc : ByteArray) (pc n : Nat) (i : Instr) (len : Nat) : Prop := decode cc pc = .ok (i, len) ∧ pc + len = n
def jDs (cc : ByteArray) (L : List (Nat × Instr × Nat × Nat)) : Prop := ∀ q ∈ L, decode cc q.1 = .ok (q.2.1, q.2.2.1) ∧ q.1 + q.2.2.1 = q.2.2.2
theorem jDs.g {cc : ByteArray} {L : List (Nat × Instr × Nat × Nat)} (h : jDs cc L) (k : Nat) {pc n len : Nat} {i : Instr} (hk : L[k]? = some (pc, i, len, n)) : jD cc pc n i len := h (pc, i, len, n) (List.mem_of_getElem? hk)
def jd_and (a b : Int) : Int := (Int32.ofInt a &&& Int32.ofInt b).toInt
def jd_or (a b : Int) : Int := (Int32.ofInt a ||| Int32.ofInt b).toInt
def jd_xor (a b : Int) : Int := (Int32.ofInt a ^^^ Int32.ofInt b).toInt
def jd_shl (a b : Int) : Int := (Int32.ofInt a <<< (Int32.ofInt b &&& 31)).toInt
def jd_shr (a b : Int) : Int := (Int32.ofInt a >>> (Int32.ofInt b &&& 31)).toInt
def jd_ushr (a b : Int) : Int := ((Int32.ofInt a).toUInt32 >>> ((Int32.ofInt b).toUInt32 &&& Int32.toUInt32 31)).toInt32.toInt
def jd_b (a : Int) : Int := (Int32.ofInt a).toInt8.toInt32.toInt
def jd_c (a : Int) : Int := ((Int32.ofInt a).toUInt32 % 65536).toInt32.toInt
def jd_z (a : Int) : Int := (vp_nar .boolean (Int32.ofInt a)).toInt
def jd_lcmp (a b : Int) : Int := (lg_cmp (Int64.ofInt a) (Int64.ofInt b)).toInt
def jm_dv (a b : Int) : Option Int := if jd_wr b = 0 then none else some (Int.tdiv (jd_wr a) (jd_wr b))
def jm_rm (a b : Int) : Option Int := if jd_wr b = 0 then none else some (Int.tmod (jd_wr a) (jd_wr b))
def jm_ck (ci : Nat) (M : jMem) (a : Nat) : Option Unit := if (jK M a).1 = ci ∧ a < jN M then some () else none
def jm_gI (ci k : Nat) (M : jMem) (a : Nat) : Option Int := if (jK M a).1 = ci ∧ a < jN M then some (jI M a k) else none
def jm_gR (ci k : Nat) (M : jMem) (a : Nat) : Option Nat := if (jK M a).1 = ci ∧ a < jN M then jR M a k else none
def jm_pI (ci k : Nat) (M : jMem) (a : Nat) (v : Int) : Option jMem := if (jK M a).1 = ci ∧ a < jN M then some (jsI M a k v) else none
def jm_pZ (ci k : Nat) (M : jMem) (a : Nat) (v : Int) : Option jMem := if ((jK M a).1 = ci ∧ a < jN M) ∧ (jd_wr v = 0 ∨ jd_wr v = 1) then some (jsI M a k v) else none
def jm_pR (ci k : Nat) (M : jMem) (a q : Nat) : Option jMem := if (jK M a).1 = ci ∧ a < jN M then some (jsR M a k (some q)) else none
def jm_in (t : Nat) (M : jMem) (a : Nat) (i : Int) : Prop := ((jK M a).1 = t ∧ a < jN M) ∧ 0 ≤ jd_wr i ∧ jd_wr i < ((jK M a).2 : Int)
theorem jm_in_dec (t : Nat) (M : jMem) (a : Nat) (i : Int) : (jm_in t M a i) ∨ ¬ jm_in t M a i := Classical.em _
def jm_ld (t : Nat) (M : jMem) (a : Nat) (i : Int) : Option Int := if ((jK M a).1 = t ∧ a < jN M) ∧ 0 ≤ jd_wr i ∧ jd_wr i < ((jK M a).2 : Int) then some (jI M a (jd_wr i).toNat) else none
def jm_ldR (t : Nat) (M : jMem) (a : Nat) (i : Int) : Option Nat := if ((jK M a).1 = t ∧ a < jN M) ∧ 0 ≤ jd_wr i ∧ jd_wr i < ((jK M a).2 : Int) then jR M a (jd_wr i).toNat else none
def jm_st (t : Nat) (M : jMem) (a : Nat) (i v : Int) : Option jMem := if ((jK M a).1 = t ∧ a < jN M) ∧ 0 ≤ jd_wr i ∧ jd_wr i < ((jK M a).2 : Int) then some (jsI M a (jd_wr i).toNat v) else none
def jm_stR (M : jMem) (a : Nat) (i : Int) (q : Nat) : Option jMem := if (((jK M a).1 = 25 ∧ a < jN M) ∧ 0 ≤ jd_wr i ∧ jd_wr i < ((jK M a).2 : Int)) ∧ (jK M q).1 = 6 ∧ q < jN M then some (jsR M a (jd_wr i).toNat (some q)) else none
def jm_ln (t : Nat) (M : jMem) (a : Nat) : Option Int := if (jK M a).1 = t ∧ a < jN M then some ((jK M a).2 : Int) else none
def jm_z (v : Int) (M : jMem) : Option (Int × jMem) := if jd_wr v = 0 ∨ jd_wr v = 1 then some (v, M) else none
/-- a loop: at most n times around -/
def jlp {σ ρ : Type} (body : (σ → Option ρ) → σ → Option ρ) : Nat → σ → Option ρ
  | 0, _ => none
  | n + 1, s => body (jlp body n) s
/-- a place that is come to by several ways -/
def jjn {σ ρ : Type} (k : σ → ρ) (b : (σ → ρ) → ρ) : ρ := b k
def jfuel : Nat := 1000000
theorem jo_b {α β : Type} {x : Option α} {k : α → Option β} {r : β} (h : x.bind k = some r) : ∃ a, x = some a ∧ k a = some r := by
  cases x with
  | none => cases h
  | some a => exact ⟨a, rfl, h⟩
theorem jo_if {α : Type} {c : Prop} [Decidable c] {x : Option α} {r : α} (h : (if c then x else none) = some r) : c ∧ x = some r := by
  by_cases hc : c
  · rw [if_pos hc] at h; exact ⟨hc, h⟩
  · rw [if_neg hc] at h; cases h
theorem jw_ofInt (x : Int32) : Int32.ofInt x.toInt = x := Int32.ofInt_toInt x
theorem jw_ofIntL (x : Int64) : Int64.ofInt x.toInt = x := Int64.ofInt_toInt x
theorem jw_lt (a b : Int) : Int32.ofInt a < Int32.ofInt b ↔ jd_wr a < jd_wr b := Int32.lt_iff_toInt_lt
theorem jw_le (a b : Int) : Int32.ofInt a ≤ Int32.ofInt b ↔ jd_wr a ≤ jd_wr b := Int32.le_iff_toInt_le
theorem jw_eq (a b : Int) : Int32.ofInt a = Int32.ofInt b ↔ jd_wr a = jd_wr b := Int32.toInt_inj.symm
theorem jw_0 : Int32.ofInt 0 = 0 := rfl
theorem jw_wr0 : jd_wr 0 = 0 := by decide +kernel
theorem jw_lt0 (a : Int) : Int32.ofInt a < 0 ↔ jd_wr a < 0 := by rw [← jw_0, jw_lt, jw_wr0]
theorem jw_le0 (a : Int) : Int32.ofInt a ≤ 0 ↔ jd_wr a ≤ 0 := by rw [← jw_0, jw_le, jw_wr0]
theorem jw_eq0 (a : Int) : Int32.ofInt a = 0 ↔ jd_wr a = 0 := by rw [← jw_0, jw_eq, jw_wr0]
theorem jw_in {i : Int} {n : Nat} (h : 0 ≤ jd_wr i ∧ jd_wr i < (n : Int)) : vp_in (Int32.ofInt i) n := vp_in_iff.mpr h
theorem jw_clamp (i : Int) : (Int32.ofInt i).toNatClampNeg = (jd_wr i).toNat := rfl
theorem jw_div (a b : Int) : Int32.ofInt a / Int32.ofInt b = Int32.ofInt (Int.tdiv (jd_wr a) (jd_wr b)) := by
  apply Int32.toInt_inj.mp
  rw [Int32.toInt_div]
  exact Int32.toInt_ofInt.symm
theorem jw_rem (a b : Int) : Int32.ofInt a - Int32.ofInt a / Int32.ofInt b * Int32.ofInt b = Int32.ofInt (Int.tmod (jd_wr a) (jd_wr b)) := by
  rw [jw_div]
  have ha : Int32.ofInt a = Int32.ofInt (jd_wr a) := (jw_ofInt _).symm
  have hb : Int32.ofInt b = Int32.ofInt (jd_wr b) := (jw_ofInt _).symm
  rw [ha, hb, ← Int32.ofInt_mul, ← Int32.ofInt_sub, Int.tmod_def, Int.mul_comm]
theorem qe_and (a b : Int) : Value.int (Int32.ofInt a &&& Int32.ofInt b) = q_i (jd_and a b) := congrArg Value.int (jw_ofInt _).symm
theorem qe_or (a b : Int) : Value.int (Int32.ofInt a ||| Int32.ofInt b) = q_i (jd_or a b) := congrArg Value.int (jw_ofInt _).symm
theorem qe_xor (a b : Int) : Value.int (Int32.ofInt a ^^^ Int32.ofInt b) = q_i (jd_xor a b) := congrArg Value.int (jw_ofInt _).symm
theorem qe_shl (a b : Int) : Value.int (Int32.ofInt a <<< (Int32.ofInt b &&& 31)) = q_i (jd_shl a b) := congrArg Value.int (jw_ofInt _).symm
theorem qe_shr (a b : Int) : Value.int (Int32.ofInt a >>> (Int32.ofInt b &&& 31)) = q_i (jd_shr a b) := congrArg Value.int (jw_ofInt _).symm
theorem qe_ushr (a b : Int) : Value.int (((Int32.ofInt a).toUInt32 >>> ((Int32.ofInt b).toUInt32 &&& Int32.toUInt32 31)).toInt32) = q_i (jd_ushr a b) := congrArg Value.int (jw_ofInt _).symm
theorem qe_lcmp (a b : Int) : Value.int (lg_cmp (Int64.ofInt a) (Int64.ofInt b)) = q_i (jd_lcmp a b) := congrArg Value.int (jw_ofInt _).symm
theorem qe_b (a : Int) : Value.int ((Int32.ofInt a).toInt8.toInt32) = q_i (jd_b a) := congrArg Value.int (jw_ofInt _).symm
theorem qe_c (a : Int) : Value.int (((Int32.ofInt a).toUInt32 % 65536).toInt32) = q_i (jd_c a) := congrArg Value.int (jw_ofInt _).symm
section JROWS
variable {E : jE} {X : jX} {cc : ByteArray} {own : String} {nL d mc ms k n pc n' : Nat} {M : jMem} {lv : List (Nat × Value)} {st : List Value} {ρ : Type} {res : ρ}
theorem jr_pick (ks : List Nat) {lv' : List (Nat × Value)} (hk : lv_pick lv ks = lv') (kk : JW E X nL k n M pc lv' st) : JW E X nL k n M pc lv st := fun H locs ls hH hS hl => kk H locs ls hH hS (lv_sub hl ks hk)
theorem jr_iconst (hC : jCx E X cc nL own d mc ms) {v : Int} (hd : jD cc pc n' (.iconst v) 1) (kk : JW E X nL k n M n' lv (q_i v :: st)) : JW E X nL k n M pc lv st := by
  obtain ⟨hd, rfl⟩ := hd
  exact fun H locs ls hH hS hl => lv_iconst hC.1 hC.2.1 hd rfl (kk H locs ls hH hS hl)
theorem jr_bipush (hC : jCx E X cc nL own d mc ms) {v : Int} (hd : jD cc pc n' (.bipush v) 2) (hv : (Int8.ofInt v).toInt32 = Int32.ofInt v) (kk : JW E X nL k n M n' lv (q_i v :: st)) : JW E X nL k n M pc lv st := by
  obtain ⟨hd, rfl⟩ := hd
  exact fun H locs ls hH hS hl => lv_bipush hC.1 hC.2.1 hd hv (kk H locs ls hH hS hl)
theorem jr_sipush (hC : jCx E X cc nL own d mc ms) {v : Int} (hd : jD cc pc n' (.sipush v) 3) (hv : (Int16.ofInt v).toInt32 = Int32.ofInt v) (kk : JW E X nL k n M n' lv (q_i v :: st)) : JW E X nL k n M pc lv st := by
  obtain ⟨hd, rfl⟩ := hd
  exact fun H locs ls hH hS hl => lv_sipush hC.1 hC.2.1 hd hv (kk H locs ls hH hS hl)
theorem jr_lconst (hC : jCx E X cc nL own d mc ms) {f : Fin 2} (v : Int) (hd : jD cc pc n' (.lconst f) 1) (hv : Int64.ofNat (f : Nat) = Int64.ofInt v) (kk : JW E X nL k n M n' lv (q_l v :: st)) : JW E X nL k n M pc lv st := by
  obtain ⟨hd, rfl⟩ := hd
  exact fun H locs ls hH hS hl => lv_lconst hC.1 hC.2.1 hd hv (kk H locs ls hH hS hl)
theorem jr_ldc (hC : jCx E X cc nL own d mc ms) {ix : Nat} (v : Int) (hw : Cond.constant own ix (Int32.ofInt v) ∈ jtbl) (hd : jD cc pc n' (.ldc ix) 2) (kk : JW E X nL k n M n' lv (q_i v :: st)) : JW E X nL k n M pc lv st := by
  obtain ⟨hd, rfl⟩ := hd
  exact fun H locs ls hH hS hl => lv_ldc hC.1 hC.2.1 hC.2.2.2.1 (hC.2.2.2.2.1 _ hw) hd (kk H locs ls hH hS hl)
theorem jr_ldcw (hC : jCx E X cc nL own d mc ms) {ix : Nat} (v : Int) (hw : Cond.constant own ix (Int32.ofInt v) ∈ jtbl) (hd : jD cc pc n' (.ldc_w ix) 3) (kk : JW E X nL k n M n' lv (q_i v :: st)) : JW E X nL k n M pc lv st := by
  obtain ⟨hd, rfl⟩ := hd
  exact fun H locs ls hH hS hl => lv_ldcw hC.1 hC.2.1 hC.2.2.2.1 (hC.2.2.2.2.1 _ hw) hd (kk H locs ls hH hS hl)
theorem jr_ldc2 (hC : jCx E X cc nL own d mc ms) {ix : Nat} (v : Int) (hw : Cond.constantLong own ix (Int64.ofInt v) ∈ jtbl) (hd : jD cc pc n' (.ldc2_w ix) 3) (kk : JW E X nL k n M n' lv (q_l v :: st)) : JW E X nL k n M pc lv st := by
  obtain ⟨hd, rfl⟩ := hd
  exact fun H locs ls hH hS hl => lv_ldc2 hC.1 hC.2.1 hC.2.2.2.1 (hC.2.2.2.2.1 _ hw) hd (kk H locs ls hH hS hl)
theorem jr_iload_n (hC : jCx E X cc nL own d mc ms) {f : Fin 4} {v : Int} (hd : jD cc pc n' (.iload_n f) 1) (j : Nat) (hj : lv[j]? = some (f.val, q_i v)) (kk : JW E X nL k n M n' lv (q_i v :: st)) : JW E X nL k n M pc lv st := by
  obtain ⟨hd, rfl⟩ := hd
  exact fun H locs ls hH hS hl => lv_iload_n hC.1 hC.2.1 hd rfl (lv_at hl j hj) (kk H locs ls hH hS hl)
theorem jr_iload (hC : jCx E X cc nL own d mc ms) {i : Nat} {v : Int} (hd : jD cc pc n' (.iload i) 2) (j : Nat) (hj : lv[j]? = some (i, q_i v)) (kk : JW E X nL k n M n' lv (q_i v :: st)) : JW E X nL k n M pc lv st := by
  obtain ⟨hd, rfl⟩ := hd
  exact fun H locs ls hH hS hl => lv_iload hC.1 hC.2.1 hd (lv_at hl j hj) (kk H locs ls hH hS hl)
theorem jr_lload_n (hC : jCx E X cc nL own d mc ms) {f : Fin 4} {v : Int} (hd : jD cc pc n' (.lload_n f) 1) (j : Nat) (hj : lv[j]? = some (f.val, q_l v)) (kk : JW E X nL k n M n' lv (q_l v :: st)) : JW E X nL k n M pc lv st := by
  obtain ⟨hd, rfl⟩ := hd
  exact fun H locs ls hH hS hl => lv_lload_n hC.1 hC.2.1 hd rfl (lv_at hl j hj) (kk H locs ls hH hS hl)
theorem jr_lload (hC : jCx E X cc nL own d mc ms) {i : Nat} {v : Int} (hd : jD cc pc n' (.lload i) 2) (j : Nat) (hj : lv[j]? = some (i, q_l v)) (kk : JW E X nL k n M n' lv (q_l v :: st)) : JW E X nL k n M pc lv st := by
  obtain ⟨hd, rfl⟩ := hd
  exact fun H locs ls hH hS hl => lv_lload hC.1 hC.2.1 hd (lv_at hl j hj) (kk H locs ls hH hS hl)
theorem jr_aload_n (hC : jCx E X cc nL own d mc ms) {f : Fin 4} {a : Nat} (hd : jD cc pc n' (.aload_n f) 1) (j : Nat) (hj : lv[j]? = some (f.val, .ref a)) (kk : JW E X nL k n M n' lv (.ref a :: st)) : JW E X nL k n M pc lv st := by
  obtain ⟨hd, rfl⟩ := hd
  exact fun H locs ls hH hS hl => lv_aload_n hC.1 hC.2.1 hd rfl (lv_at hl j hj) (kk H locs ls hH hS hl)
theorem jr_aload (hC : jCx E X cc nL own d mc ms) {i : Nat} {a : Nat} (hd : jD cc pc n' (.aload i) 2) (j : Nat) (hj : lv[j]? = some (i, .ref a)) (kk : JW E X nL k n M n' lv (.ref a :: st)) : JW E X nL k n M pc lv st := by
  obtain ⟨hd, rfl⟩ := hd
  exact fun H locs ls hH hS hl => lv_aload hC.1 hC.2.1 hd (lv_at hl j hj) (kk H locs ls hH hS hl)
theorem jr_istore_n (hC : jCx E X cc nL own d mc ms) {f : Fin 4} {v : Int} (hd : jD cc pc n' (.istore_n f) 1) {lv' : List (Nat × Value)} (hn : f.val < nL) (hl' : (f.val, q_i v) :: lv.filter (fun q => !(q.1 == f.val) && !(q.1 + 1 == f.val && q.2.category == 2)) = lv') (kk : JW E X nL k n M n' lv' st) : JW E X nL k n M pc lv (q_i v :: st) := by
  obtain ⟨hd, rfl⟩ := hd
  exact fun H locs ls hH hS hl => lv_istore_n hC.1 hC.2.1 hd rfl hl hn hl' (fun ls' h => kk H locs ls' hH hS h)
theorem jr_istore (hC : jCx E X cc nL own d mc ms) {i : Nat} {v : Int} (hd : jD cc pc n' (.istore i) 2) {lv' : List (Nat × Value)} (hn : i < nL) (hl' : (i, q_i v) :: lv.filter (fun q => !(q.1 == i) && !(q.1 + 1 == i && q.2.category == 2)) = lv') (kk : JW E X nL k n M n' lv' st) : JW E X nL k n M pc lv (q_i v :: st) := by
  obtain ⟨hd, rfl⟩ := hd
  exact fun H locs ls hH hS hl => lv_istore hC.1 hC.2.1 hd hl hn hl' (fun ls' h => kk H locs ls' hH hS h)
theorem jr_lstore_n (hC : jCx E X cc nL own d mc ms) {f : Fin 4} {v : Int} (hd : jD cc pc n' (.lstore_n f) 1) {lv' : List (Nat × Value)} (hn : f.val + 1 < nL) (hl' : (f.val, q_l v) :: lv.filter (fun q => !(q.1 == f.val) && (!(q.1 == f.val + 1) && !(q.1 + 1 == f.val && q.2.category == 2))) = lv') (kk : JW E X nL k n M n' lv' st) : JW E X nL k n M pc lv (q_l v :: st) := by
  obtain ⟨hd, rfl⟩ := hd
  exact fun H locs ls hH hS hl => lv_lstore_n hC.1 hC.2.1 hd rfl hl hn hl' (fun ls' h => kk H locs ls' hH hS h)
theorem jr_lstore (hC : jCx E X cc nL own d mc ms) {i : Nat} {v : Int} (hd : jD cc pc n' (.lstore i) 2) {lv' : List (Nat × Value)} (hn : i + 1 < nL) (hl' : (i, q_l v) :: lv.filter (fun q => !(q.1 == i) && (!(q.1 == i + 1) && !(q.1 + 1 == i && q.2.category == 2))) = lv') (kk : JW E X nL k n M n' lv' st) : JW E X nL k n M pc lv (q_l v :: st) := by
  obtain ⟨hd, rfl⟩ := hd
  exact fun H locs ls hH hS hl => lv_lstore hC.1 hC.2.1 hd hl hn hl' (fun ls' h => kk H locs ls' hH hS h)
theorem jr_astore_n (hC : jCx E X cc nL own d mc ms) {f : Fin 4} {a : Nat} (hd : jD cc pc n' (.astore_n f) 1) {lv' : List (Nat × Value)} (hn : f.val < nL) (hl' : (f.val, Value.ref a) :: lv.filter (fun q => !(q.1 == f.val) && !(q.1 + 1 == f.val && q.2.category == 2)) = lv') (kk : JW E X nL k n M n' lv' st) : JW E X nL k n M pc lv (.ref a :: st) := by
  obtain ⟨hd, rfl⟩ := hd
  exact fun H locs ls hH hS hl => lv_astore_n hC.1 hC.2.1 hd rfl hl hn hl' (fun ls' h => kk H locs ls' hH hS h)
theorem jr_astore (hC : jCx E X cc nL own d mc ms) {i a : Nat} (hd : jD cc pc n' (.astore i) 2) {lv' : List (Nat × Value)} (hn : i < nL) (hl' : (i, Value.ref a) :: lv.filter (fun q => !(q.1 == i) && !(q.1 + 1 == i && q.2.category == 2)) = lv') (kk : JW E X nL k n M n' lv' st) : JW E X nL k n M pc lv (.ref a :: st) := by
  obtain ⟨hd, rfl⟩ := hd
  exact fun H locs ls hH hS hl => lv_astore hC.1 hC.2.1 hd hl hn hl' (fun ls' h => kk H locs ls' hH hS h)
theorem jr_iinc (hC : jCx E X cc nL own d mc ms) {i : Nat} {v c : Int} (hd : jD cc pc n' (.iinc i c) 3) (j : Nat) (hj : lv[j]? = some (i, q_i v)) {lv' : List (Nat × Value)} (hn : i < nL) (hl' : (i, q_i (v + c)) :: lv.filter (fun q => !(q.1 == i) && !(q.1 + 1 == i && q.2.category == 2)) = lv') (kk : JW E X nL k n M n' lv' st) : JW E X nL k n M pc lv st := by
  obtain ⟨hd, rfl⟩ := hd
  exact fun H locs ls hH hS hl => lv_iinc hC.1 hC.2.1 hd hl hj (Int32.ofInt_add v c).symm hn hl' (fun ls' h => kk H locs ls' hH hS h)
theorem jr_iadd (hC : jCx E X cc nL own d mc ms) {a b : Int} (hd : jD cc pc n' .iadd 1) (kk : JW E X nL k n M n' lv (q_i (a + b) :: st)) : JW E X nL k n M pc lv (q_i b :: q_i a :: st) := by
  obtain ⟨hd, rfl⟩ := hd
  exact fun H locs ls hH hS hl => lv_iadd hC.1 hC.2.1 hd (by rw [← Int32.ofInt_add]; exact kk H locs ls hH hS hl)
theorem jr_isub (hC : jCx E X cc nL own d mc ms) {a b : Int} (hd : jD cc pc n' .isub 1) (kk : JW E X nL k n M n' lv (q_i (a - b) :: st)) : JW E X nL k n M pc lv (q_i b :: q_i a :: st) := by
  obtain ⟨hd, rfl⟩ := hd
  exact fun H locs ls hH hS hl => lv_isub hC.1 hC.2.1 hd (by rw [← Int32.ofInt_sub]; exact kk H locs ls hH hS hl)
theorem jr_imul (hC : jCx E X cc nL own d mc ms) {a b : Int} (hd : jD cc pc n' .imul 1) (kk : JW E X nL k n M n' lv (q_i (a * b) :: st)) : JW E X nL k n M pc lv (q_i b :: q_i a :: st) := by
  obtain ⟨hd, rfl⟩ := hd
  exact fun H locs ls hH hS hl => lv_imul hC.1 hC.2.1 hd (by rw [← Int32.ofInt_mul]; exact kk H locs ls hH hS hl)
theorem jr_ineg (hC : jCx E X cc nL own d mc ms) {a : Int} (hd : jD cc pc n' .ineg 1) (kk : JW E X nL k n M n' lv (q_i (0 - a) :: st)) : JW E X nL k n M pc lv (q_i a :: st) := by
  obtain ⟨hd, rfl⟩ := hd
  exact fun H locs ls hH hS hl => lv_ineg hC.1 hC.2.1 hd (by have h := kk H locs ls hH hS hl; simpa [q_i, Int32.ofInt_sub] using h)
theorem jr_iand (hC : jCx E X cc nL own d mc ms) {a b : Int} (hd : jD cc pc n' .iand 1) (kk : JW E X nL k n M n' lv (q_i (jd_and a b) :: st)) : JW E X nL k n M pc lv (q_i b :: q_i a :: st) := by
  obtain ⟨hd, rfl⟩ := hd
  exact fun H locs ls hH hS hl => lv_iand hC.1 hC.2.1 hd (by rw [qe_and]; exact kk H locs ls hH hS hl)
theorem jr_ior (hC : jCx E X cc nL own d mc ms) {a b : Int} (hd : jD cc pc n' .ior 1) (kk : JW E X nL k n M n' lv (q_i (jd_or a b) :: st)) : JW E X nL k n M pc lv (q_i b :: q_i a :: st) := by
  obtain ⟨hd, rfl⟩ := hd
  exact fun H locs ls hH hS hl => lv_ior hC.1 hC.2.1 hd (by rw [qe_or]; exact kk H locs ls hH hS hl)
theorem jr_ixor (hC : jCx E X cc nL own d mc ms) {a b : Int} (hd : jD cc pc n' .ixor 1) (kk : JW E X nL k n M n' lv (q_i (jd_xor a b) :: st)) : JW E X nL k n M pc lv (q_i b :: q_i a :: st) := by
  obtain ⟨hd, rfl⟩ := hd
  exact fun H locs ls hH hS hl => lv_ixor hC.1 hC.2.1 hd (by rw [qe_xor]; exact kk H locs ls hH hS hl)
theorem jr_ishl (hC : jCx E X cc nL own d mc ms) {a b : Int} (hd : jD cc pc n' .ishl 1) (kk : JW E X nL k n M n' lv (q_i (jd_shl a b) :: st)) : JW E X nL k n M pc lv (q_i b :: q_i a :: st) := by
  obtain ⟨hd, rfl⟩ := hd
  exact fun H locs ls hH hS hl => lv_ishl hC.1 hC.2.1 hd (by rw [qe_shl]; exact kk H locs ls hH hS hl)
theorem jr_ishr (hC : jCx E X cc nL own d mc ms) {a b : Int} (hd : jD cc pc n' .ishr 1) (kk : JW E X nL k n M n' lv (q_i (jd_shr a b) :: st)) : JW E X nL k n M pc lv (q_i b :: q_i a :: st) := by
  obtain ⟨hd, rfl⟩ := hd
  exact fun H locs ls hH hS hl => lv_ishr hC.1 hC.2.1 hd (by rw [qe_shr]; exact kk H locs ls hH hS hl)
theorem jr_iushr (hC : jCx E X cc nL own d mc ms) {a b : Int} (hd : jD cc pc n' .iushr 1) (kk : JW E X nL k n M n' lv (q_i (jd_ushr a b) :: st)) : JW E X nL k n M pc lv (q_i b :: q_i a :: st) := by
  obtain ⟨hd, rfl⟩ := hd
  exact fun H locs ls hH hS hl => lv_iushr hC.1 hC.2.1 hd rfl (by rw [qe_ushr]; exact kk H locs ls hH hS hl)
theorem jr_i2b (hC : jCx E X cc nL own d mc ms) {a : Int} (hd : jD cc pc n' .i2b 1) (kk : JW E X nL k n M n' lv (q_i (jd_b a) :: st)) : JW E X nL k n M pc lv (q_i a :: st) := by
  obtain ⟨hd, rfl⟩ := hd
  exact fun H locs ls hH hS hl => lv_i2b hC.1 hC.2.1 hd rfl (by rw [qe_b]; exact kk H locs ls hH hS hl)
theorem jr_i2c (hC : jCx E X cc nL own d mc ms) {a : Int} (hd : jD cc pc n' .i2c 1) (kk : JW E X nL k n M n' lv (q_i (jd_c a) :: st)) : JW E X nL k n M pc lv (q_i a :: st) := by
  obtain ⟨hd, rfl⟩ := hd
  exact fun H locs ls hH hS hl => lv_i2c hC.1 hC.2.1 hd rfl (by rw [qe_c]; exact kk H locs ls hH hS hl)
theorem jr_i2l (hC : jCx E X cc nL own d mc ms) {a : Int} (hd : jD cc pc n' .i2l 1) (kk : JW E X nL k n M n' lv (q_l (jd_wr a) :: st)) : JW E X nL k n M pc lv (q_i a :: st) := by
  obtain ⟨hd, rfl⟩ := hd
  refine fun H locs ls hH hS hl => lv_i2l hC.1 hC.2.1 hd (v := Int64.ofInt (jd_wr a)) ?_ (kk H locs ls hH hS hl)
  apply Int64.toInt_inj.mp
  rw [Int32.toInt_toInt64, Int64.toInt_ofInt]
  have h1 := Int32.le_toInt (Int32.ofInt a)
  have h2 := Int32.toInt_lt (Int32.ofInt a)
  show jd_wr a = Int.bmod (jd_wr a) _
  unfold jd_wr
  rw [show (Int64.size : Nat) = 18446744073709551616 from rfl, Int.bmod_eq_of_le] <;> omega
theorem jr_ladd (hC : jCx E X cc nL own d mc ms) {a b : Int} (hd : jD cc pc n' .ladd 1) (kk : JW E X nL k n M n' lv (q_l (a + b) :: st)) : JW E X nL k n M pc lv (q_l b :: q_l a :: st) := by
  obtain ⟨hd, rfl⟩ := hd
  exact fun H locs ls hH hS hl => lv_ladd hC.1 hC.2.1 hd (by rw [← Int64.ofInt_add]; exact kk H locs ls hH hS hl)
theorem jr_lmul (hC : jCx E X cc nL own d mc ms) {a b : Int} (hd : jD cc pc n' .lmul 1) (kk : JW E X nL k n M n' lv (q_l (a * b) :: st)) : JW E X nL k n M pc lv (q_l b :: q_l a :: st) := by
  obtain ⟨hd, rfl⟩ := hd
  exact fun H locs ls hH hS hl => lv_lmul hC.1 hC.2.1 hd (by rw [← Int64.ofInt_mul]; exact kk H locs ls hH hS hl)
theorem jr_lcmp (hC : jCx E X cc nL own d mc ms) {a b : Int} (hd : jD cc pc n' .lcmp 1) (kk : JW E X nL k n M n' lv (q_i (jd_lcmp a b) :: st)) : JW E X nL k n M pc lv (q_l b :: q_l a :: st) := by
  obtain ⟨hd, rfl⟩ := hd
  exact fun H locs ls hH hS hl => W.lcmp hC.1 hC.2.1 hd (by rw [qe_lcmp]; exact kk H locs ls hH hS hl)
theorem jr_idiv (hC : jCx E X cc nL own d mc ms) {a b : Int} {f : Int → Option ρ} (hd : jD cc pc n' .idiv 1) (h : (jm_dv a b).bind f = some res) (kk : ∀ v, jm_dv a b = some v → f v = some res → JW E X nL k n M n' lv (q_i v :: st)) : JW E X nL k n M pc lv (q_i b :: q_i a :: st) := by
  obtain ⟨hd, rfl⟩ := hd
  obtain ⟨v, h1, h2⟩ := jo_b h
  have kk := kk v h1 h2
  unfold jm_dv at h1
  by_cases hb : jd_wr b = 0
  · rw [if_pos hb] at h1; cases h1
  · rw [if_neg hb] at h1
    cases h1
    exact fun H locs ls hH hS hl => lv_idiv hC.1 hC.2.1 hd (fun z => hb ((jw_eq0 b).mp z)) (by rw [jw_div]; exact kk H locs ls hH hS hl)
theorem jr_irem (hC : jCx E X cc nL own d mc ms) {a b : Int} {f : Int → Option ρ} (hd : jD cc pc n' .irem 1) (h : (jm_rm a b).bind f = some res) (kk : ∀ v, jm_rm a b = some v → f v = some res → JW E X nL k n M n' lv (q_i v :: st)) : JW E X nL k n M pc lv (q_i b :: q_i a :: st) := by
  obtain ⟨hd, rfl⟩ := hd
  obtain ⟨v, h1, h2⟩ := jo_b h
  have kk := kk v h1 h2
  unfold jm_rm at h1
  by_cases hb : jd_wr b = 0
  · rw [if_pos hb] at h1; cases h1
  · rw [if_neg hb] at h1
    cases h1
    exact fun H locs ls hH hS hl => lv_irem hC.1 hC.2.1 hd (fun z => hb ((jw_eq0 b).mp z)) (by rw [jw_rem]; exact kk H locs ls hH hS hl)
theorem jr_dup (hC : jCx E X cc nL own d mc ms) {v : Value} (hd : jD cc pc n' .dup 1) (hv : v.category = 1) (kk : JW E X nL k n M n' lv (v :: v :: st)) : JW E X nL k n M pc lv (v :: st) := by
  obtain ⟨hd, rfl⟩ := hd
  exact fun H locs ls hH hS hl => lv_dup hC.1 hC.2.1 hd hv (kk H locs ls hH hS hl)
theorem jr_dup2 (hC : jCx E X cc nL own d mc ms) {v w : Value} (hd : jD cc pc n' .dup2 1) (hv : v.category = 1) (hw : w.category = 1) (kk : JW E X nL k n M n' lv (v :: w :: v :: w :: st)) : JW E X nL k n M pc lv (v :: w :: st) := by
  obtain ⟨hd, rfl⟩ := hd
  exact fun H locs ls hH hS hl => lv_dup2_11 hC.1 hC.2.1 hd hv hw (kk H locs ls hH hS hl)
theorem jr_pop (hC : jCx E X cc nL own d mc ms) {v : Value} (hd : jD cc pc n' .pop 1) (hv : v.category = 1) (kk : JW E X nL k n M n' lv st) : JW E X nL k n M pc lv (v :: st) := by
  obtain ⟨hd, rfl⟩ := hd
  exact fun H locs ls hH hS hl => lv_pop hC.1 hC.2.1 hd hv (kk H locs ls hH hS hl)
theorem jr_goto (hC : jCx E X cc nL own d mc ms) {off : Int} (hd : jD cc pc n' (.goto off) 3) (tgt : Nat) (ht : (pc : Int) + off = (tgt : Int)) (kk : JW E X nL k n M tgt lv st) : JW E X nL k n M pc lv st := by
  obtain ⟨hd, rfl⟩ := hd
  exact fun H locs ls hH hS hl => lv_goto hC.1 hC.2.1 hd ht (kk H locs ls hH hS hl)
theorem jif_t {α : Type} {c : Prop} [Decidable c] {x y : Option α} {r : α} (h : (if c then x else y) = some r) (hc : c) : x = some r := by rw [if_pos hc] at h; exact h
theorem jif_f {α : Type} {c : Prop} [Decidable c] {x y : Option α} {r : α} (h : (if c then x else y) = some r) (hc : ¬ c) : y = some r := by rw [if_neg hc] at h; exact h
theorem jr_icmp_eq (hC : jCx E X cc nL own d mc ms) {a b : Int} {off : Int} {x y : Option ρ} (hd : jD cc pc n' (.if_icmp .eq off) 3) (tgt : Nat) (ht : (pc : Int) + off = (tgt : Int)) (h : (if jd_wr a = jd_wr b then x else y) = some res) (kt : x = some res → JW E X nL k n M tgt lv st) (kf : y = some res → JW E X nL k n M n' lv st) : JW E X nL k n M pc lv (q_i b :: q_i a :: st) := by
  obtain ⟨hd, rfl⟩ := hd
  exact fun H locs ls hH hS hl => lv_icmp_eq hC.1 hC.2.1 hd ht (fun c => kt (jif_t h ((jw_eq a b).mp c)) H locs ls hH hS hl) (fun c => kf (jif_f h (fun z => c ((jw_eq a b).mpr z))) H locs ls hH hS hl)
theorem jr_icmp_ne (hC : jCx E X cc nL own d mc ms) {a b : Int} {off : Int} {x y : Option ρ} (hd : jD cc pc n' (.if_icmp .ne off) 3) (tgt : Nat) (ht : (pc : Int) + off = (tgt : Int)) (h : (if jd_wr a = jd_wr b then x else y) = some res) (kf : x = some res → JW E X nL k n M n' lv st) (kt : y = some res → JW E X nL k n M tgt lv st) : JW E X nL k n M pc lv (q_i b :: q_i a :: st) := by
  obtain ⟨hd, rfl⟩ := hd
  exact fun H locs ls hH hS hl => lv_icmp_ne hC.1 hC.2.1 hd ht (fun c => kt (jif_f h (fun z => c ((jw_eq a b).mpr z))) H locs ls hH hS hl) (fun c => kf (jif_t h ((jw_eq a b).mp c)) H locs ls hH hS hl)
theorem jr_icmp_lt (hC : jCx E X cc nL own d mc ms) {a b : Int} {off : Int} {x y : Option ρ} (hd : jD cc pc n' (.if_icmp .lt off) 3) (tgt : Nat) (ht : (pc : Int) + off = (tgt : Int)) (h : (if jd_wr a < jd_wr b then x else y) = some res) (kt : x = some res → JW E X nL k n M tgt lv st) (kf : y = some res → JW E X nL k n M n' lv st) : JW E X nL k n M pc lv (q_i b :: q_i a :: st) := by
  obtain ⟨hd, rfl⟩ := hd
  exact fun H locs ls hH hS hl => lv_icmp_lt hC.1 hC.2.1 hd ht (fun c => kt (jif_t h ((jw_lt a b).mp c)) H locs ls hH hS hl) (fun c => kf (jif_f h (fun z => c ((jw_lt a b).mpr z))) H locs ls hH hS hl)
theorem jw_ge (a b : Int) : Int32.ofInt b ≤ Int32.ofInt a ↔ ¬ jd_wr a < jd_wr b := by rw [jw_le]; omega
theorem jw_gt (a b : Int) : Int32.ofInt b < Int32.ofInt a ↔ ¬ jd_wr a ≤ jd_wr b := by rw [jw_lt]; omega
theorem jr_icmp_ge (hC : jCx E X cc nL own d mc ms) {a b : Int} {off : Int} {x y : Option ρ} (hd : jD cc pc n' (.if_icmp .ge off) 3) (tgt : Nat) (ht : (pc : Int) + off = (tgt : Int)) (h : (if jd_wr a < jd_wr b then x else y) = some res) (kf : x = some res → JW E X nL k n M n' lv st) (kt : y = some res → JW E X nL k n M tgt lv st) : JW E X nL k n M pc lv (q_i b :: q_i a :: st) := by
  obtain ⟨hd, rfl⟩ := hd
  exact fun H locs ls hH hS hl => lv_icmp_ge hC.1 hC.2.1 hd ht (fun c => kt (jif_f h ((jw_ge a b).mp c)) H locs ls hH hS hl) (fun c => kf (jif_t h (Classical.not_not.mp (fun z => c ((jw_ge a b).mpr z)))) H locs ls hH hS hl)
theorem jr_icmp_gt (hC : jCx E X cc nL own d mc ms) {a b : Int} {off : Int} {x y : Option ρ} (hd : jD cc pc n' (.if_icmp .gt off) 3) (tgt : Nat) (ht : (pc : Int) + off = (tgt : Int)) (h : (if jd_wr a ≤ jd_wr b then x else y) = some res) (kf : x = some res → JW E X nL k n M n' lv st) (kt : y = some res → JW E X nL k n M tgt lv st) : JW E X nL k n M pc lv (q_i b :: q_i a :: st) := by
  obtain ⟨hd, rfl⟩ := hd
  exact fun H locs ls hH hS hl => lv_icmp_gt hC.1 hC.2.1 hd ht (fun c => kt (jif_f h ((jw_gt a b).mp c)) H locs ls hH hS hl) (fun c => kf (jif_t h (Classical.not_not.mp (fun z => c ((jw_gt a b).mpr z)))) H locs ls hH hS hl)
theorem jr_icmp_le (hC : jCx E X cc nL own d mc ms) {a b : Int} {off : Int} {x y : Option ρ} (hd : jD cc pc n' (.if_icmp .le off) 3) (tgt : Nat) (ht : (pc : Int) + off = (tgt : Int)) (h : (if jd_wr a ≤ jd_wr b then x else y) = some res) (kt : x = some res → JW E X nL k n M tgt lv st) (kf : y = some res → JW E X nL k n M n' lv st) : JW E X nL k n M pc lv (q_i b :: q_i a :: st) := by
  obtain ⟨hd, rfl⟩ := hd
  exact fun H locs ls hH hS hl => lv_icmp_le hC.1 hC.2.1 hd ht (fun c => kt (jif_t h ((jw_le a b).mp c)) H locs ls hH hS hl) (fun c => kf (jif_f h (fun z => c ((jw_le a b).mpr z))) H locs ls hH hS hl)
theorem jr_if_eq (hC : jCx E X cc nL own d mc ms) {a : Int} {off : Int} {x y : Option ρ} (hd : jD cc pc n' (.ifCond .eq off) 3) (tgt : Nat) (ht : (pc : Int) + off = (tgt : Int)) (h : (if jd_wr a = 0 then x else y) = some res) (kt : x = some res → JW E X nL k n M tgt lv st) (kf : y = some res → JW E X nL k n M n' lv st) : JW E X nL k n M pc lv (q_i a :: st) := by
  obtain ⟨hd, rfl⟩ := hd
  exact fun H locs ls hH hS hl => lv_if_eq hC.1 hC.2.1 hd ht (fun c => kt (jif_t h ((jw_eq0 a).mp c)) H locs ls hH hS hl) (fun c => kf (jif_f h (fun z => c ((jw_eq0 a).mpr z))) H locs ls hH hS hl)
theorem jr_if_ne (hC : jCx E X cc nL own d mc ms) {a : Int} {off : Int} {x y : Option ρ} (hd : jD cc pc n' (.ifCond .ne off) 3) (tgt : Nat) (ht : (pc : Int) + off = (tgt : Int)) (h : (if jd_wr a = 0 then x else y) = some res) (kf : x = some res → JW E X nL k n M n' lv st) (kt : y = some res → JW E X nL k n M tgt lv st) : JW E X nL k n M pc lv (q_i a :: st) := by
  obtain ⟨hd, rfl⟩ := hd
  exact fun H locs ls hH hS hl => lv_if_ne hC.1 hC.2.1 hd ht (fun c => kt (jif_f h (fun z => c ((jw_eq0 a).mpr z))) H locs ls hH hS hl) (fun c => kf (jif_t h ((jw_eq0 a).mp c)) H locs ls hH hS hl)
theorem jr_if_lt (hC : jCx E X cc nL own d mc ms) {a : Int} {off : Int} {x y : Option ρ} (hd : jD cc pc n' (.ifCond .lt off) 3) (tgt : Nat) (ht : (pc : Int) + off = (tgt : Int)) (h : (if jd_wr a < 0 then x else y) = some res) (kt : x = some res → JW E X nL k n M tgt lv st) (kf : y = some res → JW E X nL k n M n' lv st) : JW E X nL k n M pc lv (q_i a :: st) := by
  obtain ⟨hd, rfl⟩ := hd
  exact fun H locs ls hH hS hl => lv_if_lt hC.1 hC.2.1 hd ht (fun c => kt (jif_t h ((jw_lt0 a).mp c)) H locs ls hH hS hl) (fun c => kf (jif_f h (fun z => c ((jw_lt0 a).mpr z))) H locs ls hH hS hl)
theorem jw_ge0 (a : Int) : (0 : Int32) ≤ Int32.ofInt a ↔ ¬ jd_wr a < 0 := by rw [← jw_0, jw_le, jw_wr0]; omega
theorem jw_gt0 (a : Int) : (0 : Int32) < Int32.ofInt a ↔ ¬ jd_wr a ≤ 0 := by rw [← jw_0, jw_lt, jw_wr0]; omega
theorem jr_if_ge (hC : jCx E X cc nL own d mc ms) {a : Int} {off : Int} {x y : Option ρ} (hd : jD cc pc n' (.ifCond .ge off) 3) (tgt : Nat) (ht : (pc : Int) + off = (tgt : Int)) (h : (if jd_wr a < 0 then x else y) = some res) (kf : x = some res → JW E X nL k n M n' lv st) (kt : y = some res → JW E X nL k n M tgt lv st) : JW E X nL k n M pc lv (q_i a :: st) := by
  obtain ⟨hd, rfl⟩ := hd
  exact fun H locs ls hH hS hl => lv_if_ge hC.1 hC.2.1 hd ht (fun c => kt (jif_f h ((jw_ge0 a).mp c)) H locs ls hH hS hl) (fun c => kf (jif_t h (Classical.not_not.mp (fun z => c ((jw_ge0 a).mpr z)))) H locs ls hH hS hl)
theorem jr_if_gt (hC : jCx E X cc nL own d mc ms) {a : Int} {off : Int} {x y : Option ρ} (hd : jD cc pc n' (.ifCond .gt off) 3) (tgt : Nat) (ht : (pc : Int) + off = (tgt : Int)) (h : (if jd_wr a ≤ 0 then x else y) = some res) (kf : x = some res → JW E X nL k n M n' lv st) (kt : y = some res → JW E X nL k n M tgt lv st) : JW E X nL k n M pc lv (q_i a :: st) := by
  obtain ⟨hd, rfl⟩ := hd
  exact fun H locs ls hH hS hl => lv_if_gt hC.1 hC.2.1 hd ht (fun c => kt (jif_f h ((jw_gt0 a).mp c)) H locs ls hH hS hl) (fun c => kf (jif_t h (Classical.not_not.mp (fun z => c ((jw_gt0 a).mpr z)))) H locs ls hH hS hl)
theorem jr_if_le (hC : jCx E X cc nL own d mc ms) {a : Int} {off : Int} {x y : Option ρ} (hd : jD cc pc n' (.ifCond .le off) 3) (tgt : Nat) (ht : (pc : Int) + off = (tgt : Int)) (h : (if jd_wr a ≤ 0 then x else y) = some res) (kt : x = some res → JW E X nL k n M tgt lv st) (kf : y = some res → JW E X nL k n M n' lv st) : JW E X nL k n M pc lv (q_i a :: st) := by
  obtain ⟨hd, rfl⟩ := hd
  exact fun H locs ls hH hS hl => lv_if_le hC.1 hC.2.1 hd ht (fun c => kt (jif_t h ((jw_le0 a).mp c)) H locs ls hH hS hl) (fun c => kf (jif_f h (fun z => c ((jw_le0 a).mpr z))) H locs ls hH hS hl)
theorem jr_tswIn (hC : jCx E X cc nL own d mc ms) {a : Int} {dflt lo hi : Int} {offs : Array Int} {len : Nat} (hd : jD cc pc n' (.tableswitch dflt lo hi offs) len) (i : Nat) (ha : jd_wr a = lo + (i : Int)) (hi' : lo + (i : Int) ≤ hi) {off : Int} (ho : offs[i]? = some off) (tgt : Nat) (ht : (pc : Int) + off = (tgt : Int)) (kk : JW E X nL k n M tgt lv st) : JW E X nL k n M pc lv (q_i a :: st) := by
  obtain ⟨hd, rfl⟩ := hd
  have ha' : (Int32.ofInt a).toInt = lo + (i : Int) := ha
  exact fun H locs ls hH hS hl => lv_tableIn hC.1 hC.2.1 hd (by omega) (by omega) (by rw [ha', show (lo + (i : Int) - lo).toNat = i by omega]; exact ho) ht (kk H locs ls hH hS hl)
theorem jr_tswOut (hC : jCx E X cc nL own d mc ms) {a : Int} {dflt lo hi : Int} {offs : Array Int} {len : Nat} (hd : jD cc pc n' (.tableswitch dflt lo hi offs) len) (ha : jd_wr a < lo ∨ hi < jd_wr a) (tgt : Nat) (ht : (pc : Int) + dflt = (tgt : Int)) (kk : JW E X nL k n M tgt lv st) : JW E X nL k n M pc lv (q_i a :: st) := by
  obtain ⟨hd, rfl⟩ := hd
  exact fun H locs ls hH hS hl => lv_tableOut hC.1 hC.2.1 hd ha ht (kk H locs ls hH hS hl)
end JROWS
