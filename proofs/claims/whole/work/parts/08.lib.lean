/-! ===== the JDK's own: arraycopy, the two texts ===== -/
def jcpy (M : jMem) (src p dst q m : Nat) : jMem := (M.1, fun x y => if x = dst ∧ q ≤ y ∧ y < q + m then M.2.1 src (p + (y - q)) else M.2.1 x y, M.2.2)
def jm_cpy (M : jMem) (src : Nat) (sp : Int) (dst : Nat) (dp n : Int) : Option jMem :=
  if ((jK M src).1 = 20 ∧ src < jN M) ∧ ((jK M dst).1 = 20 ∧ dst < jN M) ∧ (0 ≤ jd_wr sp ∧ 0 ≤ jd_wr dp ∧ 0 ≤ jd_wr n) ∧ jd_wr sp + jd_wr n ≤ ((jK M src).2 : Int) ∧ jd_wr dp + jd_wr n ≤ ((jK M dst).2 : Int)
  then some (jcpy M src (jd_wr sp).toNat dst (jd_wr dp).toNat (jd_wr n).toNat) else none
/-- the sign at place k of text i -/
def jm_sch (i : Nat) (k : Int) : Option Int := if 0 ≤ jd_wr k ∧ jd_wr k < ((jlen.getD i 0 : Nat) : Int) then some ((jbyt.getD i []).getD (jd_wr k).toNat 0).toInt else none
def jsx (c : Int32) : List Int32 → Int → Int
  | [], _ => -1
  | b :: l, k => if b = c then k else jsx c l (k + 1)
/-- where c stands in text i -/
def jm_six (i : Nat) (c : Int) : Int := jsx (Int32.ofInt c) (jbyt.getD i []) 0
section JLIB
variable {E : jE} {X : jX} {cc : ByteArray} {own : String} {nL d mc ms k n pc n' : Nat} {M : jMem} {lv : List (Nat × Value)} {st : List Value} {ρ : Type} {res : ρ}
theorem jr_ldcS0 (hC : jCx E X cc nL own d mc ms) (ho : own = RX9) (hd : jD cc pc n' (.ldc 72) 2) (kk : JW E X nL k n M n' lv (.ref (E.2.2.2.2.1 0) :: st)) : JW E X nL k n M pc lv st := by
  subst ho
  obtain ⟨hd, rfl⟩ := hd
  exact fun H locs ls hH hS hl => va_ldcS hC.1 hC.2.1 hC.2.2.2.1 hC.2.2.2.2.2.1.2.2.1 hd (kk H locs ls hH hS hl)
theorem jr_ldcS1 (hC : jCx E X cc nL own d mc ms) (ho : own = RX9) (hd : jD cc pc n' (.ldc 61) 2) (kk : JW E X nL k n M n' lv (.ref (E.2.2.2.2.1 1) :: st)) : JW E X nL k n M pc lv st := by
  subst ho
  obtain ⟨hd, rfl⟩ := hd
  exact fun H locs ls hH hS hl => va_ldcS hC.1 hC.2.1 hC.2.2.2.1 hC.2.2.2.2.2.1.2.2.2.1 hd (kk H locs ls hH hS hl)
theorem jr_cpy (hC : jCx E X cc nL own d mc ms) {ix src dst : Nat} {sp dp m : Int} {f : jMem → Option ρ} (hd : jD cc pc n' (.invokestatic ix) 3) (ho : own = RX6 ∧ ix = 57) (hd1 : 1 ≤ d) (hroom : (st.map fun v => v.category).sum ≤ 8) (h : (jm_cpy M src sp dst dp m).bind f = some res) (kk : ∀ M', M' = jcpy M src (jd_wr sp).toNat dst (jd_wr dp).toNat (jd_wr m).toNat → f M' = some res → JW E X nL k n M' n' lv st) : JW E X nL k n M pc lv (q_i m :: q_i dp :: q_r E dst :: q_i sp :: q_r E src :: st) := sorry
theorem jr_charAt (hC : jCx E X cc nL own d mc ms) {ix : Nat} (i : Nat) (ho : own = RX9) (hi : i < 2) (hd8 : 8 ≤ d) (hroom : (st.map fun v => v.category).sum ≤ 8) {a : Int} {f : Int → Option ρ} (hd : jD cc pc n' (.invokevirtual ix) 3) (h : (jm_sch i a).bind f = some res) (kk : ∀ v, f v = some res → JW E X nL k n M n' lv (q_i v :: st)) : JW E X nL k n M pc lv (q_i a :: .ref (E.2.2.2.2.1 i) :: st) := sorry
theorem jr_indexOf (hC : jCx E X cc nL own d mc ms) {ix : Nat} (i : Nat) (ho : own = RX9) (hi : i < 2) (hd8 : 8 ≤ d) (hroom : (st.map fun v => v.category).sum ≤ 8) {a : Int} (hd : jD cc pc n' (.invokevirtual ix) 3) (kk : JW E X nL k n M n' lv (q_i (jm_six i a) :: st)) : JW E X nL k n M pc lv (q_i a :: .ref (E.2.2.2.2.1 i) :: st) := sorry
end JLIB
