/-! ===== THE FLAT MEMORY: all cells that the law's run makes, by their places; ints are Lean's Int, a ref is a place ===== -/
/-- the number that 32 bits hold of v -/
def jd_wr (v : Int) : Int := (Int32.ofInt v).toInt
def jd_wl (v : Int) : Int := (Int64.ofInt v).toInt
abbrev q_i (v : Int) : Value := .int (Int32.ofInt v)
abbrev q_l (v : Int) : Value := .long (Int64.ofInt v)
/-- ((how many cells, kind and length of each), ints, refs) -/
abbrev jMem : Type := (Nat × (Nat → Nat × Nat)) × (Nat → Nat → Int) × (Nat → Nat → Option Nat)
def jN (M : jMem) : Nat := M.1.1
def jK (M : jMem) (a : Nat) : Nat × Nat := M.1.2 a
def jI (M : jMem) (a j : Nat) : Int := M.2.1 a j
def jR (M : jMem) (a j : Nat) : Option Nat := M.2.2 a j
def jsI (M : jMem) (a j : Nat) (v : Int) : jMem := (M.1, fun x y => if x = a ∧ y = j then v else M.2.1 x y, M.2.2)
def jsR (M : jMem) (a j : Nat) (v : Option Nat) : jMem := (M.1, M.2.1, fun x y => if x = a ∧ y = j then v else M.2.2 x y)
/-- one cell more -/
def jnew (M : jMem) (k n : Nat) : jMem := ((M.1.1 + 1, fun x => if x = M.1.1 then (k, n) else M.1.2 x), (fun x y => if x = M.1.1 then 0 else M.2.1 x y), (fun x y => if x = M.1.1 then none else M.2.2 x y))
/-- kinds: 0 .. 12 objects by vwCl; 20 int[], 21 byte[], 22 boolean[], 23 long[], 24 int[][], 25 State[] -/
def jaT : Nat → FieldType
  | 20 => .int
  | 21 => .byte
  | 22 => .boolean
  | 23 => .long
  | 24 => .array .int
  | _ => .object RX6
def jnF : Nat → Nat
  | 0 => 4
  | 1 => 5
  | 2 => 5
  | 3 => 9
  | 4 => 8
  | 5 => 4
  | 6 => 10
  | 7 => 2
  | 8 => 13
  | 9 => 5
  | 10 => 3
  | 11 => 14
  | 12 => 68
  | _ => 0
def jty : Nat → Nat → FieldType
  | 0 => tyX0
  | 1 => tyX1
  | 2 => tyX2
  | 3 => tyX3
  | 4 => tyX4
  | 5 => tyX5
  | 6 => tyX6
  | 7 => tyX7
  | 8 => tyX8
  | 9 => tyX9
  | 10 => tyX10
  | 11 => tyX11
  | _ => tyX12
/-- the launch, the classes' numbers and slots, the first place's address, the array classes, the two texts' cells -/
abbrev jE : Type := Launch × va_G × Nat × (Nat → ClassId) × (Nat → Nat) × (Nat → Nat)
def jb (E : jE) : Nat := E.2.2.1
def jaC (E : jE) : Nat → ClassId := E.2.2.2.1
abbrev q_r (E : jE) (a : Nat) : Value := .ref (jb E + a)
def jrv (E : jE) (r : Option Nat) : Value := va_rf (r.map (fun a => jb E + a))
def jfv (E : jE) (ty : FieldType) (i : Int) (r : Option Nat) : Value := match ty with
  | .object _ => jrv E r
  | .array _ => jrv E r
  | _ => q_i i
def jav (E : jE) (k : Nat) (i : Int) (r : Option Nat) : Value := if k < 23 then q_i i else if k = 23 then q_l i else jrv E r
def jA (E : jE) : Nat → Prop := fun q => jb E ≤ q
def jat (E : jE) (M : jMem) (a : Nat) (H : Heap) : Prop :=
  if (jK M a).1 < 13 then t_OB (jb E + a) (E.2.1.1 (jK M a).1) (jnF (jK M a).1) (E.2.1.2 (jK M a).1) H (fun j => jfv E (jty (jK M a).1 j) (jI M a j) (jR M a j))
  else H[jb E + a]? = some (arrV (jaC E (jK M a).1) (jK M a).2 (fun j => jav E (jK M a).1 (jI M a j) (jR M a j)))
def jH (E : jE) (M : jMem) (H : Heap) : Prop := H.size = jb E + jN M ∧ ∀ a, a < jN M → jat E M a H
def jtys (E : jE) : List (ClassId × FieldType) := [(jaC E 20, jaT 20), (jaC E 21, jaT 21), (jaC E 22, jaT 22), (jaC E 23, jaT 23), (jaC E 24, jaT 24), (jaC E 25, jaT 25)]
def jtbl : List Cond := lw_tbl.filter goodWord
/-- the two texts of Tokens, and how texts are laid -/
def jlen : List Nat := [152, 9]
def jbyt : List (List Int32) := [
  [115, 113, 117, 97, 114, 101, 32, 32, 104, 111, 108, 101, 32, 32, 32, 32, 115, 116, 111, 110, 101, 32, 32, 32, 97, 115, 107, 115, 32, 32, 32, 32, 108, 111, 111, 115, 101, 110, 115, 32, 108, 97, 121, 115, 32, 32, 32, 32, 115, 101, 101, 100, 32, 32, 32, 32, 105, 102, 32, 32, 32, 32, 32, 32, 116, 104, 101, 110, 32, 32, 32, 32, 101, 108, 115, 101, 32, 32, 32, 32, 97, 99, 114, 111, 115, 115, 32, 32, 108, 101, 102, 116, 32, 32, 32, 32, 116, 111, 112, 32, 32, 32, 32, 32, 116, 117, 114, 110, 101, 100, 32, 32, 97, 103, 101, 32, 32, 32, 32, 32, 115, 101, 97, 115, 111, 110, 32, 32, 119, 104, 105, 99, 104, 32, 32, 32, 115, 116, 111, 110, 101, 115, 32, 32, 104, 111, 108, 101, 115, 32, 32, 32],
  [59, 61, 43, 45, 42, 47, 60, 40, 41]]
def jtx0 : String := "square  hole    stone   asks    loosens lays    seed    if      then    else    across  left    top     turned  age     season  which   stones  holes   "
def jtx1 : String := ";=+-*/<()"
/-- an array class of int[] is there -/
def jAO (U : State) : Prop := (Cond.arrayOver (.array .int)).before #[] U = true
theorem jAO.moved {u U : State} (hvm : u.vm.Alike U.vm) (h : jAO u) : jAO U := by
  unfold jAO Cond.before Cond.holds at h
  simp only [Cond.value, beq_iff_eq] at h
  cases hc : u.vm.findClass (FieldType.array .int).toString with
  | none => simp [hc] at h
  | some comp =>
    simp only [hc, Option.bind_some, Option.bind_eq_some_iff, Option.map_eq_some_iff] at h
    obtain ⟨c, h2, k, h3, h4⟩ := h
    obtain ⟨k', hk', he⟩ := hvm.2.2 _ _ h3
    have f1 : U.vm.findClass (FieldType.array .int).toString = some comp := by rw [hvm.findClass]; exact hc
    have hkk : k'.kind = k.kind := by rw [he]
    unfold jAO Cond.before Cond.holds
    simp only [Cond.value, f1, Option.bind_some, beq_iff_eq]
    rw [Option.bind_eq_some_iff]
    refine ⟨c, (hvm.findIdx?_eqK _ (fun _ => rfl)).trans h2, ?_⟩
    cases hkd : k.kind with
    | array component ty =>
      rw [hkd] at h4 hkk
      simp only [hk', Option.map_some, hkk, hvm.findClass]
      exact congrArg some h4
    | _ => rw [hkd] at h4; simp at h4
def jStr (E : jE) (U : State) : Prop := vk_R RX9 72 jtx0 (E.2.2.2.2.1 0) U ∧ vk_R RX9 61 jtx1 (E.2.2.2.2.1 1) U ∧ vk_S 2 jlen jbyt E.2.2.2.2.1 E.2.2.2.2.2 (jA E) U U.heap ∧ va_Z "java/lang/String" "COMPACT_STRINGS" "Z" (.int 1) (jA E) U U.heap ∧ va_AO RX6 U ∧ jAO U ∧ va_Zq "jdk/internal/util/Preconditions" "SIOOBE_FORMATTER" "Ljava/util/function/BiFunction;" (jA E) U U.heap
def jOk (E : jE) (U : State) : Prop := va_K E.2.1 vwCl (jtys E) U ∧ jb E ≤ U.heap.size ∧ jStr E U
def jPre (E : jE) (M : jMem) (U : State) : Prop := jH E M U.heap ∧ jOk E U
def jrm (d mc ms : Nat) : Room := { frames := d, cells := mc, slots := ms, locals := 100 * d }
/-- what a method's walk stands in: program, env, room, start state, method, args, frames below, method, code, what is to be reached -/
abbrev jX : Type := Program × Env × Room × State × MethodId × Array Value × List Frame × Method × Code × (State → Prop)
def JW (E : jE) (X : jX) (nL k n : Nat) (M : jMem) (pc : Nat) (lv : List (Nat × Value)) (st : List Value) : Prop :=
  ∀ (H : Heap) (locs : List Loc) (ls : Array Slot), jH E M H → va_S (jA E) X.2.2.2.1.heap H locs → lv_has ls nL lv →
    W X.1 E.1 X.2.1 X.2.2.1 X.2.2.2.1 X.2.2.2.2.1 X.2.2.2.2.2.1 X.2.2.2.2.2.2.1 X.2.2.2.2.2.2.2.1 X.2.2.2.2.2.2.2.2.1 H locs k n X.2.2.2.2.2.2.2.2.2 (F0 X.2.2.2.2.1 pc ls st)
/-- the room that is left for d frames within one another, mc cells, ms slots -/
def jRm (R : Room) (d mc ms : Nat) : Prop := d ≤ R.frames ∧ 100 * d ≤ R.locals ∧ mc ≤ R.cells ∧ ms ≤ R.slots
def jCx (E : jE) (X : jX) (cc : ByteArray) (nL : Nat) (own : String) (d mc ms : Nat) : Prop :=
  X.1.tables.exec = Jvm.exec ∧ X.2.2.2.2.2.2.2.2.1.code = cc ∧ X.2.2.2.2.2.2.2.2.1.maxLocals = nL ∧ X.2.2.2.1.vm.findClass own = some X.2.2.2.2.1.cls ∧
  (∀ w ∈ jtbl, w.before X.2.2.2.2.2.1 X.2.2.2.1 = true) ∧ jOk E X.2.2.2.1 ∧ jRm X.2.2.1 d mc ms ∧ X.2.2.2.2.2.2.2.1.locks = false
/-- the end of a method: its answer, the memory behind it, and nothing else changed -/
def jQc (E : jE) (rv : Option Value) (M' : jMem) : Array Value → State → Outcome → State → Prop := fun _ st o t => (o = .returned rv ∧ jPre E M' t) ∧ va_F (jA E) st t
def jws (y : MethodName) (cc : ByteArray) (nL : Nat) (ret : Option FieldType) : List Cond := .code y cc nL ret :: jtbl
/-- a method's contract: from memory M, with these arguments, it answers rv and leaves M' -/
def jMet (E : jE) (y : MethodName) (cc : ByteArray) (nL : Nat) (ret : Option FieldType) (d mc ms : Nat) (as : List Value) (M : jMem) (rv : Option Value) (M' : jMem) : Prop :=
  Met E.1 y (jws y cc nL ret) (jrm d mc ms) (va_Pc as (jPre E M)) (jQc E rv M') mc ms (jA E)
/-- the X's end is this contract's -/
def jEnd (E : jE) (X : jX) (mc ms : Nat) (rv : Option Value) (M' : jMem) : Prop := X.2.2.2.2.2.2.2.2.2 = MQ X.2.2.2.2.2.2.1 (jQc E rv M') X.2.2.2.2.2.1 X.2.2.2.1 mc ms (jA E)
theorem jPre.moved {E : jE} {M : jMem} {u U : State} (hh : U.heap = u.heap) (hvm : U.vm = u.vm) (h : jPre E M u) : jPre E M U := by
  obtain ⟨h1, h2, h3, h4, h5, h6, h7, h8, h9, h10⟩ := h
  refine ⟨by rw [hh]; exact h1, va_K.moved (by rw [hvm]; exact Vm.Alike.refl _) h2, by rw [hh]; exact h3, h4.same hvm, h5.same hvm, ?_, ?_, h8.moved (by rw [hvm]; exact Vm.Alike.refl _), h9.moved (by rw [hvm]; exact Vm.Alike.refl _), by rw [hh]; exact h10.moved (by rw [hvm]; exact Vm.Alike.refl _)⟩
  · rw [hh]; exact h6.moved (by rw [hvm]; exact Vm.Alike.refl _)
  · rw [hh]; exact h7.moved (by rw [hvm]; exact Vm.Alike.refl _)
theorem jPre.blind (E : jE) (M : jMem) (as : List Value) : FrameBlind (va_Pc as (jPre E M)) := by
  intro a U g mk h
  exact ⟨h.1, jPre.moved (u := U) rfl rfl h.2⟩
/-- a callee's start, out of the caller's -/
theorem jOk.callee {E : jE} {s U : State} {H : Heap} {locs : List Loc} (h : jOk E s) (hS : va_S (jA E) s.heap H locs) (hU : U.heap = H) (hW : s.WarmedH U.vm) : jOk E U := by
  obtain ⟨h2, h3, h4, h5, h6, h7, h8, h9, h10⟩ := h
  refine ⟨h2.moved hW.alike, by rw [hU]; exact Nat.le_trans h3 hS.1, h4.warm hW, h5.warm hW, ?_, ?_, h8.moved hW.alike, h9.moved hW.alike, by rw [hU]; exact (h10.kept hS.2.1).moved hW.alike⟩
  · rw [hU]; exact (h6.kept hS.2.1).moved hW.alike
  · rw [hU]; exact (h7.kept hS.2.1).moved hW.alike
theorem jMet.of {E : jE} {y : MethodName} {cc : ByteArray} {nL : Nat} {ret : Option FieldType} {d mc ms : Nat} {as : List Value} {M M' : jMem} {rv : Option Value} (own : String) (ho : y.cls = own) (hy : plainName y.cls = true) (hlen : (lg_sl as).length ≤ nL) (lv : List (Nat × Value)) (hlv : lv_args 0 as = lv)
    (body : ∀ X : jX, jCx E X cc nL own d mc ms → jEnd E X mc ms rv M' → X.2.2.2.2.2.2.2.1.sig.returnType = ret → X.2.2.2.2.2.2.2.1.name = y.name → JW E X nL 0 0 M 0 lv []) : jMet E y cc nL ret d mc ms as M rv M' := by
  subst ho
  subst hlv
  refine Met.ofW (cc := cc) (maxL := nL) (ret := ret) hy rfl ?_
  intro p e s m args below meth c s₁ B hml hv
  obtain ⟨rfl, hH, hOk⟩ := hv
  have hts := atoms_spec (ws := jws y cc nL ret) B.pre
  have hl := lv_entry as (n := nL) hlen
  rw [lg_entry_eq]
  exact body (p, e, jrm d mc ms, s, m, as.toArray, below, meth, c, MQ below (jQc E rv M') as.toArray s mc ms (jA E)) ⟨B.exec, B.bytes, hml, findClass_of_methodNamed B.named, fun w hw => hts w (List.mem_cons_of_mem _ hw), hOk, ⟨Nat.le_refl _, Nat.le_refl _, Nat.le_refl _, Nat.le_refl _⟩, B.notSynchronized⟩ rfl B.returns (name_of_methodNamed B.named B.method).1 s.heap [] _ hH va_S.rf hl
