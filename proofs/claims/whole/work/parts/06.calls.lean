/-! ===== calls by what a function answers; loops; places come to by several ways ===== -/
def jbd {β : Type} (x : Option (Int × jMem)) (f : Int → jMem → Option β) : Option β := match x with
  | none => none
  | some p => f p.1 p.2
/-- a call on an object of class ci -/
def jcall {β : Type} (ci : Nat) (M : jMem) (a : Nat) (x : Option (Int × jMem)) (f : Int → jMem → Option β) : Option β := if (jK M a).1 = ci ∧ a < jN M then jbd x f else none
theorem jbd_inv {β : Type} {x : Option (Int × jMem)} {f : Int → jMem → Option β} {r : β} (h : jbd x f = some r) : ∃ v M', x = some (v, M') ∧ f v M' = some r := by
  cases x with
  | none => cases h
  | some p => exact ⟨p.1, p.2, rfl, h⟩
/-- a place come to by several ways -/
def jjq {α β : Type} (k : α) (b : α → β) : β := b k
/-- a new cell -/
def jnw {β : Type} (M : jMem) (k n : Nat) (f : Nat → jMem → β) : β := f (jN M) (jnew M k n)
theorem jnfin {ci j : Nat} (h : (vwCl[ci]?).map (fun q => (q.2.1 j).2.2.2) = some false) : ∀ q : vw_C, vwCl[ci]? = some q → (q.2.1 j).2.2.2 = false := by
  intro q hq
  rw [hq] at h
  exact Option.some.inj h
theorem jnfin2 {ci j : Nat} {X : jX} {own : String} (h : (vwCl[ci]?).map (fun q => (q.2.1 j).2.2.2) = some false) : ∀ q : vw_C, vwCl[ci]? = some q → (q.2.1 j).2.2.2 = false ∨ ((q.2.1 j).2.2.2 = true ∧ X.2.2.2.2.2.2.2.1.name = "<init>" ∧ q.1 = own) := fun q hq => Or.inl (jnfin h q hq)
theorem jyfin {ci j : Nat} {X : jX} {own : String} (h : (vwCl[ci]?).map (fun q => ((q.2.1 j).2.2.2, q.1)) = some (true, own)) (hn : X.2.2.2.2.2.2.2.1.name = "<init>") : ∀ q : vw_C, vwCl[ci]? = some q → (q.2.1 j).2.2.2 = false ∨ ((q.2.1 j).2.2.2 = true ∧ X.2.2.2.2.2.2.2.1.name = "<init>" ∧ q.1 = own) := by
  intro q hq
  rw [hq] at h
  have h1 := Option.some.inj h
  exact Or.inr ⟨congrArg Prod.fst h1, hn, congrArg Prod.snd h1⟩
section JCALLS
variable {E : jE} {X : jX} {cc : ByteArray} {own : String} {nL d mc ms k n pc n' : Nat} {M : jMem} {lv : List (Nat × Value)} {st : List Value} {ρ : Type} {res : ρ}
theorem jr_cVi (hC : jCx E X cc nL own d mc ms) {ix ci a : Nat} {y : MethodName} {c2 : ByteArray} {n2 np d2 : Nat} {ret : Option FieldType} {st0 : List Value} {F : Option (Int × jMem)} {f : Int → jMem → Option ρ} (hw : jcV own ix y c2 n2 ret np) (hci : (vwCl[ci]?).map (fun q => q.1) = some y.cls ∧ ci < 13) (hd : jD cc pc n' (.invokevirtual ix) 3) (As : List Value) (h : jcall ci M a F f = some res) (hM : ∀ r M', F = some (r, M') → jMet E y c2 n2 ret d2 0 0 (q_r E a :: As) M (some (q_i r)) M') (hst : st0 = As.reverse ++ q_r E a :: st) (hAs : As.length = np) (hrm : d2 + 1 ≤ d ∧ n2 ≤ 80) (hroom : (st.map fun v => v.category).sum ≤ 8) (hcs : k ≤ mc ∧ n ≤ ms) (kk : ∀ r M', f r M' = some res → JW E X nL k n M' n' lv (q_i r :: st)) : JW E X nL k n M pc lv st0 := by
  obtain ⟨hk, h⟩ := jo_if h
  obtain ⟨r, M', h1, h2⟩ := jbd_inv h
  exact jr_callV hC hw hci hd hk (hM r M' h1) hst hAs hrm hroom hcs (kk r M' h2)
theorem jr_cSi (hC : jCx E X cc nL own d mc ms) {ix : Nat} {y : MethodName} {c2 : ByteArray} {n2 np d2 : Nat} {ret : Option FieldType} {st0 : List Value} {F : Option (Int × jMem)} {f : Int → jMem → Option ρ} (hw : jcS own ix y c2 n2 ret np) (hd : jD cc pc n' (.invokestatic ix) 3) (As : List Value) (h : jbd F f = some res) (hM : ∀ r M', F = some (r, M') → jMet E y c2 n2 ret d2 0 0 As M (some (q_i r)) M') (hst : st0 = As.reverse ++ st) (hAs : As.length = np) (hrm : d2 + 1 ≤ d ∧ n2 ≤ 80) (hroom : (st.map fun v => v.category).sum ≤ 8) (hcs : k ≤ mc ∧ n ≤ ms) (kk : ∀ r M', f r M' = some res → JW E X nL k n M' n' lv (q_i r :: st)) : JW E X nL k n M pc lv st0 := by
  obtain ⟨r, M', h1, h2⟩ := jbd_inv h
  exact jr_callS hC hw hd (hM r M' h1) hst hAs hrm hroom hcs (kk r M' h2)
theorem jr_cVl (hC : jCx E X cc nL own d mc ms) {ix ci a : Nat} {y : MethodName} {c2 : ByteArray} {n2 np d2 : Nat} {ret : Option FieldType} {st0 : List Value} {F : Option (Int × jMem)} {f : Int → jMem → Option ρ} (hw : jcV own ix y c2 n2 ret np) (hci : (vwCl[ci]?).map (fun q => q.1) = some y.cls ∧ ci < 13) (hd : jD cc pc n' (.invokevirtual ix) 3) (As : List Value) (h : jcall ci M a F f = some res) (hM : ∀ r M', F = some (r, M') → jMet E y c2 n2 ret d2 0 0 (q_r E a :: As) M (some (q_l r)) M') (hst : st0 = As.reverse ++ q_r E a :: st) (hAs : As.length = np) (hrm : d2 + 1 ≤ d ∧ n2 ≤ 80) (hroom : (st.map fun v => v.category).sum ≤ 8) (hcs : k ≤ mc ∧ n ≤ ms) (kk : ∀ r M', f r M' = some res → JW E X nL k n M' n' lv (q_l r :: st)) : JW E X nL k n M pc lv st0 := by
  obtain ⟨hk, h⟩ := jo_if h
  obtain ⟨r, M', h1, h2⟩ := jbd_inv h
  exact jr_callV hC hw hci hd hk (hM r M' h1) hst hAs hrm hroom hcs (kk r M' h2)
theorem jr_cSl (hC : jCx E X cc nL own d mc ms) {ix : Nat} {y : MethodName} {c2 : ByteArray} {n2 np d2 : Nat} {ret : Option FieldType} {st0 : List Value} {F : Option (Int × jMem)} {f : Int → jMem → Option ρ} (hw : jcS own ix y c2 n2 ret np) (hd : jD cc pc n' (.invokestatic ix) 3) (As : List Value) (h : jbd F f = some res) (hM : ∀ r M', F = some (r, M') → jMet E y c2 n2 ret d2 0 0 As M (some (q_l r)) M') (hst : st0 = As.reverse ++ st) (hAs : As.length = np) (hrm : d2 + 1 ≤ d ∧ n2 ≤ 80) (hroom : (st.map fun v => v.category).sum ≤ 8) (hcs : k ≤ mc ∧ n ≤ ms) (kk : ∀ r M', f r M' = some res → JW E X nL k n M' n' lv (q_l r :: st)) : JW E X nL k n M pc lv st0 := by
  obtain ⟨r, M', h1, h2⟩ := jbd_inv h
  exact jr_callS hC hw hd (hM r M' h1) hst hAs hrm hroom hcs (kk r M' h2)
theorem jr_cVv (hC : jCx E X cc nL own d mc ms) {ix ci a : Nat} {y : MethodName} {c2 : ByteArray} {n2 np d2 : Nat} {ret : Option FieldType} {st0 : List Value} {F : Option (Int × jMem)} {f : Int → jMem → Option ρ} (hw : jcV own ix y c2 n2 ret np) (hci : (vwCl[ci]?).map (fun q => q.1) = some y.cls ∧ ci < 13) (hd : jD cc pc n' (.invokevirtual ix) 3) (As : List Value) (h : jcall ci M a F f = some res) (hM : ∀ r M', F = some (r, M') → jMet E y c2 n2 ret d2 0 0 (q_r E a :: As) M (none) M') (hst : st0 = As.reverse ++ q_r E a :: st) (hAs : As.length = np) (hrm : d2 + 1 ≤ d ∧ n2 ≤ 80) (hroom : (st.map fun v => v.category).sum ≤ 8) (hcs : k ≤ mc ∧ n ≤ ms) (kk : ∀ r M', f r M' = some res → JW E X nL k n M' n' lv (st)) : JW E X nL k n M pc lv st0 := by
  obtain ⟨hk, h⟩ := jo_if h
  obtain ⟨r, M', h1, h2⟩ := jbd_inv h
  exact jr_callV hC hw hci hd hk (hM r M' h1) hst hAs hrm hroom hcs (kk r M' h2)
theorem jr_cSv (hC : jCx E X cc nL own d mc ms) {ix : Nat} {y : MethodName} {c2 : ByteArray} {n2 np d2 : Nat} {ret : Option FieldType} {st0 : List Value} {F : Option (Int × jMem)} {f : Int → jMem → Option ρ} (hw : jcS own ix y c2 n2 ret np) (hd : jD cc pc n' (.invokestatic ix) 3) (As : List Value) (h : jbd F f = some res) (hM : ∀ r M', F = some (r, M') → jMet E y c2 n2 ret d2 0 0 As M (none) M') (hst : st0 = As.reverse ++ st) (hAs : As.length = np) (hrm : d2 + 1 ≤ d ∧ n2 ≤ 80) (hroom : (st.map fun v => v.category).sum ≤ 8) (hcs : k ≤ mc ∧ n ≤ ms) (kk : ∀ r M', f r M' = some res → JW E X nL k n M' n' lv (st)) : JW E X nL k n M pc lv st0 := by
  obtain ⟨r, M', h1, h2⟩ := jbd_inv h
  exact jr_callS hC hw hd (hM r M' h1) hst hAs hrm hroom hcs (kk r M' h2)
theorem jr_cN (hC : jCx E X cc nL own d mc ms) {ix a : Nat} {y : MethodName} {c2 : ByteArray} {n2 np d2 : Nat} (mc2 ms2 : Nat) {st0 : List Value} {F : Option (Int × jMem)} {f : Int → jMem → Option ρ} (hw : jcN own ix y c2 n2 np) (hd : jD cc pc n' (.invokespecial ix) 3) (As : List Value) (h : jbd F f = some res) (hM : ∀ r M', F = some (r, M') → jMet E y c2 n2 none d2 mc2 ms2 (q_r E a :: As) M none M') (hst : st0 = As.reverse ++ q_r E a :: st) (hAs : As.length = np) (hrm : d2 + 1 ≤ d ∧ n2 ≤ 80) (hroom : (st.map fun v => v.category).sum ≤ 8) (hcs : k + mc2 ≤ mc ∧ n + ms2 ≤ ms) (k' n'' : Nat) (hk' : k + mc2 = k') (hn'' : n + ms2 = n'') (kk : ∀ r M', f r M' = some res → JW E X nL k' n'' M' n' lv st) : JW E X nL k n M pc lv st0 := by
  obtain ⟨r, M', h1, h2⟩ := jbd_inv h
  subst hk'
  subst hn''
  exact jr_callN hC hw hd (hM r M' h1) hst hAs hrm hroom hcs (kk r M' h2)
theorem jr_join {α : Type} {kj : α} {b : α → Option ρ} (h : jjq kj b = some res) (P : α → Prop) {Z : Prop} (hk : P kj) (hb : ∀ j, P j → b j = some res → Z) : Z := hb kj hk h
end JCALLS
def jlp1 {A0 ρ : Type} (body : (A0 → Option ρ) → A0 → Option ρ) : Nat → A0 → Option ρ
  | 0 => fun _ => none
  | n + 1 => fun a0 => body (jlp1 body n) a0
theorem jr_lp1 {A0 ρ : Type} {res : ρ} {body : (A0 → Option ρ) → A0 → Option ρ} (G : A0 → Prop) (hs : ∀ rec : A0 → Option ρ, (∀ (a0 : A0), rec a0 = some res → G a0) → ∀ (a0 : A0), body rec a0 = some res → G a0) : ∀ (fuel : Nat) (a0 : A0), jlp1 body fuel a0 = some res → G a0 := by
  intro fuel
  induction fuel with
  | zero => intro a0 h; cases h
  | succ f ih => intro a0 h; exact hs (jlp1 body f) ih a0 h
theorem jlp1_s {A0 ρ : Type} (body : (A0 → Option ρ) → A0 → Option ρ) (n : Nat) (a0 : A0) : jlp1 body (n + 1) a0 = body (jlp1 body n) a0 := rfl
def jlp2 {A0 A1 ρ : Type} (body : (A0 → A1 → Option ρ) → A0 → A1 → Option ρ) : Nat → A0 → A1 → Option ρ
  | 0 => fun _ _ => none
  | n + 1 => fun a0 a1 => body (jlp2 body n) a0 a1
theorem jr_lp2 {A0 A1 ρ : Type} {res : ρ} {body : (A0 → A1 → Option ρ) → A0 → A1 → Option ρ} (G : A0 → A1 → Prop) (hs : ∀ rec : A0 → A1 → Option ρ, (∀ (a0 : A0) (a1 : A1), rec a0 a1 = some res → G a0 a1) → ∀ (a0 : A0) (a1 : A1), body rec a0 a1 = some res → G a0 a1) : ∀ (fuel : Nat) (a0 : A0) (a1 : A1), jlp2 body fuel a0 a1 = some res → G a0 a1 := by
  intro fuel
  induction fuel with
  | zero => intro a0 a1 h; cases h
  | succ f ih => intro a0 a1 h; exact hs (jlp2 body f) ih a0 a1 h
theorem jlp2_s {A0 A1 ρ : Type} (body : (A0 → A1 → Option ρ) → A0 → A1 → Option ρ) (n : Nat) (a0 : A0) (a1 : A1) : jlp2 body (n + 1) a0 a1 = body (jlp2 body n) a0 a1 := rfl
def jlp3 {A0 A1 A2 ρ : Type} (body : (A0 → A1 → A2 → Option ρ) → A0 → A1 → A2 → Option ρ) : Nat → A0 → A1 → A2 → Option ρ
  | 0 => fun _ _ _ => none
  | n + 1 => fun a0 a1 a2 => body (jlp3 body n) a0 a1 a2
theorem jr_lp3 {A0 A1 A2 ρ : Type} {res : ρ} {body : (A0 → A1 → A2 → Option ρ) → A0 → A1 → A2 → Option ρ} (G : A0 → A1 → A2 → Prop) (hs : ∀ rec : A0 → A1 → A2 → Option ρ, (∀ (a0 : A0) (a1 : A1) (a2 : A2), rec a0 a1 a2 = some res → G a0 a1 a2) → ∀ (a0 : A0) (a1 : A1) (a2 : A2), body rec a0 a1 a2 = some res → G a0 a1 a2) : ∀ (fuel : Nat) (a0 : A0) (a1 : A1) (a2 : A2), jlp3 body fuel a0 a1 a2 = some res → G a0 a1 a2 := by
  intro fuel
  induction fuel with
  | zero => intro a0 a1 a2 h; cases h
  | succ f ih => intro a0 a1 a2 h; exact hs (jlp3 body f) ih a0 a1 a2 h
theorem jlp3_s {A0 A1 A2 ρ : Type} (body : (A0 → A1 → A2 → Option ρ) → A0 → A1 → A2 → Option ρ) (n : Nat) (a0 : A0) (a1 : A1) (a2 : A2) : jlp3 body (n + 1) a0 a1 a2 = body (jlp3 body n) a0 a1 a2 := rfl
def jlp4 {A0 A1 A2 A3 ρ : Type} (body : (A0 → A1 → A2 → A3 → Option ρ) → A0 → A1 → A2 → A3 → Option ρ) : Nat → A0 → A1 → A2 → A3 → Option ρ
  | 0 => fun _ _ _ _ => none
  | n + 1 => fun a0 a1 a2 a3 => body (jlp4 body n) a0 a1 a2 a3
theorem jr_lp4 {A0 A1 A2 A3 ρ : Type} {res : ρ} {body : (A0 → A1 → A2 → A3 → Option ρ) → A0 → A1 → A2 → A3 → Option ρ} (G : A0 → A1 → A2 → A3 → Prop) (hs : ∀ rec : A0 → A1 → A2 → A3 → Option ρ, (∀ (a0 : A0) (a1 : A1) (a2 : A2) (a3 : A3), rec a0 a1 a2 a3 = some res → G a0 a1 a2 a3) → ∀ (a0 : A0) (a1 : A1) (a2 : A2) (a3 : A3), body rec a0 a1 a2 a3 = some res → G a0 a1 a2 a3) : ∀ (fuel : Nat) (a0 : A0) (a1 : A1) (a2 : A2) (a3 : A3), jlp4 body fuel a0 a1 a2 a3 = some res → G a0 a1 a2 a3 := by
  intro fuel
  induction fuel with
  | zero => intro a0 a1 a2 a3 h; cases h
  | succ f ih => intro a0 a1 a2 a3 h; exact hs (jlp4 body f) ih a0 a1 a2 a3 h
theorem jlp4_s {A0 A1 A2 A3 ρ : Type} (body : (A0 → A1 → A2 → A3 → Option ρ) → A0 → A1 → A2 → A3 → Option ρ) (n : Nat) (a0 : A0) (a1 : A1) (a2 : A2) (a3 : A3) : jlp4 body (n + 1) a0 a1 a2 a3 = body (jlp4 body n) a0 a1 a2 a3 := rfl
def jlp5 {A0 A1 A2 A3 A4 ρ : Type} (body : (A0 → A1 → A2 → A3 → A4 → Option ρ) → A0 → A1 → A2 → A3 → A4 → Option ρ) : Nat → A0 → A1 → A2 → A3 → A4 → Option ρ
  | 0 => fun _ _ _ _ _ => none
  | n + 1 => fun a0 a1 a2 a3 a4 => body (jlp5 body n) a0 a1 a2 a3 a4
theorem jr_lp5 {A0 A1 A2 A3 A4 ρ : Type} {res : ρ} {body : (A0 → A1 → A2 → A3 → A4 → Option ρ) → A0 → A1 → A2 → A3 → A4 → Option ρ} (G : A0 → A1 → A2 → A3 → A4 → Prop) (hs : ∀ rec : A0 → A1 → A2 → A3 → A4 → Option ρ, (∀ (a0 : A0) (a1 : A1) (a2 : A2) (a3 : A3) (a4 : A4), rec a0 a1 a2 a3 a4 = some res → G a0 a1 a2 a3 a4) → ∀ (a0 : A0) (a1 : A1) (a2 : A2) (a3 : A3) (a4 : A4), body rec a0 a1 a2 a3 a4 = some res → G a0 a1 a2 a3 a4) : ∀ (fuel : Nat) (a0 : A0) (a1 : A1) (a2 : A2) (a3 : A3) (a4 : A4), jlp5 body fuel a0 a1 a2 a3 a4 = some res → G a0 a1 a2 a3 a4 := by
  intro fuel
  induction fuel with
  | zero => intro a0 a1 a2 a3 a4 h; cases h
  | succ f ih => intro a0 a1 a2 a3 a4 h; exact hs (jlp5 body f) ih a0 a1 a2 a3 a4 h
theorem jlp5_s {A0 A1 A2 A3 A4 ρ : Type} (body : (A0 → A1 → A2 → A3 → A4 → Option ρ) → A0 → A1 → A2 → A3 → A4 → Option ρ) (n : Nat) (a0 : A0) (a1 : A1) (a2 : A2) (a3 : A3) (a4 : A4) : jlp5 body (n + 1) a0 a1 a2 a3 a4 = body (jlp5 body n) a0 a1 a2 a3 a4 := rfl
def jlp6 {A0 A1 A2 A3 A4 A5 ρ : Type} (body : (A0 → A1 → A2 → A3 → A4 → A5 → Option ρ) → A0 → A1 → A2 → A3 → A4 → A5 → Option ρ) : Nat → A0 → A1 → A2 → A3 → A4 → A5 → Option ρ
  | 0 => fun _ _ _ _ _ _ => none
  | n + 1 => fun a0 a1 a2 a3 a4 a5 => body (jlp6 body n) a0 a1 a2 a3 a4 a5
theorem jr_lp6 {A0 A1 A2 A3 A4 A5 ρ : Type} {res : ρ} {body : (A0 → A1 → A2 → A3 → A4 → A5 → Option ρ) → A0 → A1 → A2 → A3 → A4 → A5 → Option ρ} (G : A0 → A1 → A2 → A3 → A4 → A5 → Prop) (hs : ∀ rec : A0 → A1 → A2 → A3 → A4 → A5 → Option ρ, (∀ (a0 : A0) (a1 : A1) (a2 : A2) (a3 : A3) (a4 : A4) (a5 : A5), rec a0 a1 a2 a3 a4 a5 = some res → G a0 a1 a2 a3 a4 a5) → ∀ (a0 : A0) (a1 : A1) (a2 : A2) (a3 : A3) (a4 : A4) (a5 : A5), body rec a0 a1 a2 a3 a4 a5 = some res → G a0 a1 a2 a3 a4 a5) : ∀ (fuel : Nat) (a0 : A0) (a1 : A1) (a2 : A2) (a3 : A3) (a4 : A4) (a5 : A5), jlp6 body fuel a0 a1 a2 a3 a4 a5 = some res → G a0 a1 a2 a3 a4 a5 := by
  intro fuel
  induction fuel with
  | zero => intro a0 a1 a2 a3 a4 a5 h; cases h
  | succ f ih => intro a0 a1 a2 a3 a4 a5 h; exact hs (jlp6 body f) ih a0 a1 a2 a3 a4 a5 h
theorem jlp6_s {A0 A1 A2 A3 A4 A5 ρ : Type} (body : (A0 → A1 → A2 → A3 → A4 → A5 → Option ρ) → A0 → A1 → A2 → A3 → A4 → A5 → Option ρ) (n : Nat) (a0 : A0) (a1 : A1) (a2 : A2) (a3 : A3) (a4 : A4) (a5 : A5) : jlp6 body (n + 1) a0 a1 a2 a3 a4 a5 = body (jlp6 body n) a0 a1 a2 a3 a4 a5 := rfl
def jlp7 {A0 A1 A2 A3 A4 A5 A6 ρ : Type} (body : (A0 → A1 → A2 → A3 → A4 → A5 → A6 → Option ρ) → A0 → A1 → A2 → A3 → A4 → A5 → A6 → Option ρ) : Nat → A0 → A1 → A2 → A3 → A4 → A5 → A6 → Option ρ
  | 0 => fun _ _ _ _ _ _ _ => none
  | n + 1 => fun a0 a1 a2 a3 a4 a5 a6 => body (jlp7 body n) a0 a1 a2 a3 a4 a5 a6
theorem jr_lp7 {A0 A1 A2 A3 A4 A5 A6 ρ : Type} {res : ρ} {body : (A0 → A1 → A2 → A3 → A4 → A5 → A6 → Option ρ) → A0 → A1 → A2 → A3 → A4 → A5 → A6 → Option ρ} (G : A0 → A1 → A2 → A3 → A4 → A5 → A6 → Prop) (hs : ∀ rec : A0 → A1 → A2 → A3 → A4 → A5 → A6 → Option ρ, (∀ (a0 : A0) (a1 : A1) (a2 : A2) (a3 : A3) (a4 : A4) (a5 : A5) (a6 : A6), rec a0 a1 a2 a3 a4 a5 a6 = some res → G a0 a1 a2 a3 a4 a5 a6) → ∀ (a0 : A0) (a1 : A1) (a2 : A2) (a3 : A3) (a4 : A4) (a5 : A5) (a6 : A6), body rec a0 a1 a2 a3 a4 a5 a6 = some res → G a0 a1 a2 a3 a4 a5 a6) : ∀ (fuel : Nat) (a0 : A0) (a1 : A1) (a2 : A2) (a3 : A3) (a4 : A4) (a5 : A5) (a6 : A6), jlp7 body fuel a0 a1 a2 a3 a4 a5 a6 = some res → G a0 a1 a2 a3 a4 a5 a6 := by
  intro fuel
  induction fuel with
  | zero => intro a0 a1 a2 a3 a4 a5 a6 h; cases h
  | succ f ih => intro a0 a1 a2 a3 a4 a5 a6 h; exact hs (jlp7 body f) ih a0 a1 a2 a3 a4 a5 a6 h
theorem jlp7_s {A0 A1 A2 A3 A4 A5 A6 ρ : Type} (body : (A0 → A1 → A2 → A3 → A4 → A5 → A6 → Option ρ) → A0 → A1 → A2 → A3 → A4 → A5 → A6 → Option ρ) (n : Nat) (a0 : A0) (a1 : A1) (a2 : A2) (a3 : A3) (a4 : A4) (a5 : A5) (a6 : A6) : jlp7 body (n + 1) a0 a1 a2 a3 a4 a5 a6 = body (jlp7 body n) a0 a1 a2 a3 a4 a5 a6 := rfl
def jlp8 {A0 A1 A2 A3 A4 A5 A6 A7 ρ : Type} (body : (A0 → A1 → A2 → A3 → A4 → A5 → A6 → A7 → Option ρ) → A0 → A1 → A2 → A3 → A4 → A5 → A6 → A7 → Option ρ) : Nat → A0 → A1 → A2 → A3 → A4 → A5 → A6 → A7 → Option ρ
  | 0 => fun _ _ _ _ _ _ _ _ => none
  | n + 1 => fun a0 a1 a2 a3 a4 a5 a6 a7 => body (jlp8 body n) a0 a1 a2 a3 a4 a5 a6 a7
theorem jr_lp8 {A0 A1 A2 A3 A4 A5 A6 A7 ρ : Type} {res : ρ} {body : (A0 → A1 → A2 → A3 → A4 → A5 → A6 → A7 → Option ρ) → A0 → A1 → A2 → A3 → A4 → A5 → A6 → A7 → Option ρ} (G : A0 → A1 → A2 → A3 → A4 → A5 → A6 → A7 → Prop) (hs : ∀ rec : A0 → A1 → A2 → A3 → A4 → A5 → A6 → A7 → Option ρ, (∀ (a0 : A0) (a1 : A1) (a2 : A2) (a3 : A3) (a4 : A4) (a5 : A5) (a6 : A6) (a7 : A7), rec a0 a1 a2 a3 a4 a5 a6 a7 = some res → G a0 a1 a2 a3 a4 a5 a6 a7) → ∀ (a0 : A0) (a1 : A1) (a2 : A2) (a3 : A3) (a4 : A4) (a5 : A5) (a6 : A6) (a7 : A7), body rec a0 a1 a2 a3 a4 a5 a6 a7 = some res → G a0 a1 a2 a3 a4 a5 a6 a7) : ∀ (fuel : Nat) (a0 : A0) (a1 : A1) (a2 : A2) (a3 : A3) (a4 : A4) (a5 : A5) (a6 : A6) (a7 : A7), jlp8 body fuel a0 a1 a2 a3 a4 a5 a6 a7 = some res → G a0 a1 a2 a3 a4 a5 a6 a7 := by
  intro fuel
  induction fuel with
  | zero => intro a0 a1 a2 a3 a4 a5 a6 a7 h; cases h
  | succ f ih => intro a0 a1 a2 a3 a4 a5 a6 a7 h; exact hs (jlp8 body f) ih a0 a1 a2 a3 a4 a5 a6 a7 h
theorem jlp8_s {A0 A1 A2 A3 A4 A5 A6 A7 ρ : Type} (body : (A0 → A1 → A2 → A3 → A4 → A5 → A6 → A7 → Option ρ) → A0 → A1 → A2 → A3 → A4 → A5 → A6 → A7 → Option ρ) (n : Nat) (a0 : A0) (a1 : A1) (a2 : A2) (a3 : A3) (a4 : A4) (a5 : A5) (a6 : A6) (a7 : A7) : jlp8 body (n + 1) a0 a1 a2 a3 a4 a5 a6 a7 = body (jlp8 body n) a0 a1 a2 a3 a4 a5 a6 a7 := rfl
def jlp9 {A0 A1 A2 A3 A4 A5 A6 A7 A8 ρ : Type} (body : (A0 → A1 → A2 → A3 → A4 → A5 → A6 → A7 → A8 → Option ρ) → A0 → A1 → A2 → A3 → A4 → A5 → A6 → A7 → A8 → Option ρ) : Nat → A0 → A1 → A2 → A3 → A4 → A5 → A6 → A7 → A8 → Option ρ
  | 0 => fun _ _ _ _ _ _ _ _ _ => none
  | n + 1 => fun a0 a1 a2 a3 a4 a5 a6 a7 a8 => body (jlp9 body n) a0 a1 a2 a3 a4 a5 a6 a7 a8
theorem jr_lp9 {A0 A1 A2 A3 A4 A5 A6 A7 A8 ρ : Type} {res : ρ} {body : (A0 → A1 → A2 → A3 → A4 → A5 → A6 → A7 → A8 → Option ρ) → A0 → A1 → A2 → A3 → A4 → A5 → A6 → A7 → A8 → Option ρ} (G : A0 → A1 → A2 → A3 → A4 → A5 → A6 → A7 → A8 → Prop) (hs : ∀ rec : A0 → A1 → A2 → A3 → A4 → A5 → A6 → A7 → A8 → Option ρ, (∀ (a0 : A0) (a1 : A1) (a2 : A2) (a3 : A3) (a4 : A4) (a5 : A5) (a6 : A6) (a7 : A7) (a8 : A8), rec a0 a1 a2 a3 a4 a5 a6 a7 a8 = some res → G a0 a1 a2 a3 a4 a5 a6 a7 a8) → ∀ (a0 : A0) (a1 : A1) (a2 : A2) (a3 : A3) (a4 : A4) (a5 : A5) (a6 : A6) (a7 : A7) (a8 : A8), body rec a0 a1 a2 a3 a4 a5 a6 a7 a8 = some res → G a0 a1 a2 a3 a4 a5 a6 a7 a8) : ∀ (fuel : Nat) (a0 : A0) (a1 : A1) (a2 : A2) (a3 : A3) (a4 : A4) (a5 : A5) (a6 : A6) (a7 : A7) (a8 : A8), jlp9 body fuel a0 a1 a2 a3 a4 a5 a6 a7 a8 = some res → G a0 a1 a2 a3 a4 a5 a6 a7 a8 := by
  intro fuel
  induction fuel with
  | zero => intro a0 a1 a2 a3 a4 a5 a6 a7 a8 h; cases h
  | succ f ih => intro a0 a1 a2 a3 a4 a5 a6 a7 a8 h; exact hs (jlp9 body f) ih a0 a1 a2 a3 a4 a5 a6 a7 a8 h
theorem jlp9_s {A0 A1 A2 A3 A4 A5 A6 A7 A8 ρ : Type} (body : (A0 → A1 → A2 → A3 → A4 → A5 → A6 → A7 → A8 → Option ρ) → A0 → A1 → A2 → A3 → A4 → A5 → A6 → A7 → A8 → Option ρ) (n : Nat) (a0 : A0) (a1 : A1) (a2 : A2) (a3 : A3) (a4 : A4) (a5 : A5) (a6 : A6) (a7 : A7) (a8 : A8) : jlp9 body (n + 1) a0 a1 a2 a3 a4 a5 a6 a7 a8 = body (jlp9 body n) a0 a1 a2 a3 a4 a5 a6 a7 a8 := rfl
