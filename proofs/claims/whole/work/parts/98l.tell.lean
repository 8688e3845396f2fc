/-! ===== what a text tells ===== -/
abbrev ER (α : Type) : Type := Except (Nat × Nat) (Nat × α)
def bnd {α β : Type} (x : ER α) (g : Nat → α → ER β) : ER β := match x with
  | Except.error e => Except.error e
  | Except.ok z => g z.1 z.2
def efl {α : Type} (c q : Nat) : ER α := Except.error (c, q)
def eok {α : Type} (t : Nat) (a : α) : ER α := Except.ok (t, a)
theorem bnd_fl {α β : Type} (c q : Nat) (g : Nat → α → ER β) : bnd (efl c q) g = efl c q := rfl
theorem bnd_ok {α β : Type} (t : Nat) (a : α) (g : Nat → α → ER β) : bnd (eok t a) g = g t a := rfl
theorem er_cases {α : Type} (r : ER α) : (∃ c q, r = efl c q) ∨ (∃ t a, r = eok t a) := by
  cases r with
  | error e => exact Or.inl ⟨e.1, e.2, rfl⟩
  | ok z => exact Or.inr ⟨z.1, z.2, rfl⟩
theorem eok_inj {α : Type} {t t' : Nat} {a a' : α} (h : eok t a = eok t' a') : t = t' ∧ a = a' := by
  unfold eok at h
  injection h with h
  injection h with h1 h2
  exact ⟨h1, h2⟩
theorem efl_inj {α : Type} {c c' q q' : Nat} (h : (efl c q : ER α) = efl c' q') : c = c' ∧ q = q' := by
  unfold efl at h
  injection h with h
  injection h with h1 h2
  exact ⟨h1, h2⟩
theorem eok_fl {α : Type} {t c q : Nat} {a : α} (h : eok t a = efl c q) : False := by unfold eok efl at h; cases h
abbrev LW : Type := List LwI × List CI
abbrev TH : Type := Nat × (Nat → Int) × (Nat → Int)
abbrev TS : Type := Nat × (Nat → Int) × (Nat → Int) × (Nat → Int)
abbrev TX : Type := Int × Int × Int × TH × TS × (Nat → LW) × Option Nat
section TL
variable (K : Nat → Nat) (V : Nat → Int)
def tokR (k t : Nat) : ER Unit := if K t = k then (if t < 400 then eok (t + 1) () else efl 2 t) else efl 1 t
def ifR (t : Nat) : ER LwI := bnd (sumD K V 6 t) fun t1 a => bnd (tokR K 16 t1) fun t2 _ => bnd (sumD K V 6 t2) fun t3 b => bnd (tokR K 28 t3) fun t4 _ => bnd (sumD K V 6 t4) fun t5 c => bnd (tokR K 29 t5) fun t6 _ => eok t6 (a, b, c)
def lwR : Nat → Nat → List LwI → ER LW
  | 0, t, acc => if K t = 27 then efl 2 t else bnd (sumD K V 6 t) fun t' x => eok t' (acc, x)
  | n + 1, t, acc => if K t = 27 then (if t < 400 then bnd (ifR K V (t + 1)) (fun t' b => lwR n t' (acc ++ [b])) else efl 2 t) else bnd (sumD K V 6 t) fun t' x => eok t' (acc, x)
def wrN (lo hi : Int) (i : Nat) (wr : Option Nat) : Option Nat := if wr = none ∧ (V i < lo ∨ hi < V i) then some i else wr
def numR (lo hi : Int) (i : Nat) (wr : Option Nat) : ER (Option Nat) := if K i = 3 then (if i < 400 then eok (i + 1) (wrN V lo hi i wr) else efl 2 i) else efl 1 i
def tell1 (t : Nat) (w h sd : Int) (H : TH) (S : TS) (lw : Nat → LW) (wr : Option Nat) : ER TX :=
  if K t = 20 then (if t < 400 then bnd (numR K V 2 6 (t + 1) wr) fun _ wr1 => bnd (numR K V 2 6 (t + 2) wr1) fun _ wr2 => bnd (tokR K 10 (t + 3)) fun _ _ => eok (t + 4) (V (t + 1), V (t + 2), sd, H, S, lw, wr2) else efl 2 t)
  else if K t = 21 then (if H.1 < 12 ∧ t < 400 then bnd (numR K V 0 5 (t + 1) wr) fun _ wr1 => bnd (numR K V 0 5 (t + 2) wr1) fun _ wr2 => bnd (tokR K 10 (t + 3)) fun _ _ => eok (t + 4) (w, h, sd, (H.1 + 1, rSet H.2.1 H.1 (V (t + 1)), rSet H.2.2 H.1 (V (t + 2))), S, lw, wr2) else efl 2 t)
  else if K t = 22 then (if S.1 < 18 ∧ t < 400 then bnd (numR K V 0 5 (t + 1) wr) fun _ wr1 => bnd (numR K V 0 5 (t + 2) wr1) fun _ wr2 => bnd (numR K V 0 1 (t + 3) wr2) fun _ wr3 => bnd (tokR K 10 (t + 4)) fun _ _ => eok (t + 5) (w, h, sd, H, (S.1 + 1, rSet S.2.1 S.1 (V (t + 1)), rSet S.2.2.1 S.1 (V (t + 2)), rSet S.2.2.2 S.1 (V (t + 3))), lw, wr3) else efl 2 t)
  else if 23 ≤ K t ∧ K t ≤ 25 then (if t < 400 then bnd (tokR K 11 (t + 1)) fun t1 _ => bnd (lwR K V 4 t1 []) fun t2 l => bnd (tokR K 10 t2) fun t3 _ => eok t3 (w, h, sd, H, S, (fun q => if q = K t - 23 then l else lw q), wr) else efl 2 t)
  else if K t = 26 then (if t < 400 then bnd (numR K V 0 9999 (t + 1) wr) fun _ wr1 => bnd (tokR K 10 (t + 2)) fun _ _ => eok (t + 3) (w, h, V (t + 1), H, S, lw, wr1) else efl 2 t)
  else efl 1 t
end TL
def wrV (ps : Nat → Nat) : Option Nat → Int
  | none => -1
  | some q => (ps q : Int)
theorem sum_ok {K : Nat → Nat} {V : Nat → Int} {t t' : Nat} {cs : List CI} (h : sumD K V 6 t = okr t' cs) : sOK cs := by
  obtain ⟨h1, h2, h3, h4, h5⟩ := h_sumD (K := K) (V := V) 6 t t' cs h
  refine ⟨h3, ?_, ?_⟩
  · have := h5 32 0 [] (by decide)
    rw [List.append_nil] at this
    exact this
  · have := h5 32 1 [] (by decide)
    rw [List.append_nil] at this
    exact this
/-! ===== the class reads a law ===== -/
theorem lwC_congr {A B A' B' : Nat → Int} {x : List CI} {e : Nat} : ∀ {ifs : List LwI} {p : Nat}, (∀ q, p ≤ q → q < e → A' q = A q ∧ B' q = B q) → lwC A B p ifs x e → lwC A' B' p ifs x e
  | [], p, h, hc => by
    obtain ⟨h1, h2, h3⟩ := hc
    exact ⟨cdAt_congr (fun q q1 q2 => h q q1 (by omega)) h1, (h _ (by omega) (by omega)).1.trans h2, h3⟩
  | b :: r, p, h, hc => by
    obtain ⟨h1, h2, h3, h4, h5, h6, h7⟩ := hc
    have le := lwC_le h7
    exact ⟨cdAt_congr (fun q q1 q2 => h q q1 (by omega)) h1, cdAt_congr (fun q q1 q2 => h q (by omega) (by omega)) h2, (h _ (by omega) (by omega)).1.trans h3, (h _ (by omega) (by omega)).2.trans h4, cdAt_congr (fun q q1 q2 => h q (by omega) (by omega)) h5, (h _ (by omega) (by omega)).1.trans h6, lwC_congr (fun q q1 q2 => h q (by omega) q2) h7⟩
/-- branches so far, from p to e -/
def brC (A B : Nat → Int) : Nat → List LwI → Nat → Prop
  | p, [], e => e = p
  | p, b :: r, e => cdAt A B p b.1 ∧ cdAt A B (p + b.1.length) b.2.1 ∧ A (p + b.1.length + b.2.1.length) = 2 ∧ B (p + b.1.length + b.2.1.length) = ((p + b.1.length + b.2.1.length + 1 + b.2.2.length + 1 : Nat) : Int) ∧ cdAt A B (p + b.1.length + b.2.1.length + 1) b.2.2 ∧ A (p + b.1.length + b.2.1.length + 1 + b.2.2.length) = 3 ∧ brC A B (p + b.1.length + b.2.1.length + 1 + b.2.2.length + 1) r e
theorem brC_le {A B : Nat → Int} {e : Nat} : ∀ {r : List LwI} {p : Nat}, brC A B p r e → p ≤ e
  | [], p, h => by have : e = p := h; omega
  | b :: r, p, h => by have := brC_le h.2.2.2.2.2.2; omega
theorem brC_congr {A B A' B' : Nat → Int} {e : Nat} : ∀ {ifs : List LwI} {p : Nat}, (∀ q, p ≤ q → q < e → A' q = A q ∧ B' q = B q) → brC A B p ifs e → brC A' B' p ifs e
  | [], p, h, hc => hc
  | b :: r, p, h, hc => by
    obtain ⟨h1, h2, h3, h4, h5, h6, h7⟩ := hc
    have le := brC_le h7
    exact ⟨cdAt_congr (fun q q1 q2 => h q q1 (by omega)) h1, cdAt_congr (fun q q1 q2 => h q (by omega) (by omega)) h2, (h _ (by omega) (by omega)).1.trans h3, (h _ (by omega) (by omega)).2.trans h4, cdAt_congr (fun q q1 q2 => h q (by omega) (by omega)) h5, (h _ (by omega) (by omega)).1.trans h6, brC_congr (fun q q1 q2 => h q (by omega) q2) h7⟩
theorem brC_end {A B : Nat → Int} {x : List CI} {e e' : Nat} : ∀ {ifs : List LwI} {p : Nat}, brC A B p ifs e → lwC A B e [] x e' → lwC A B p ifs x e'
  | [], p, h, hc => by
    have h : e = p := h
    rw [h] at hc; exact hc
  | b :: r, p, h, hc => by
    obtain ⟨h1, h2, h3, h4, h5, h6, h7⟩ := h
    exact ⟨h1, h2, h3, h4, h5, h6, brC_end h7 hc⟩
theorem brC_snoc {A B : Nat → Int} {e e' : Nat} {b : LwI} : ∀ {ifs : List LwI} {p : Nat}, brC A B p ifs e → brC A B e [b] e' → brC A B p (ifs ++ [b]) e'
  | [], p, h, hc => by
    have h : e = p := h
    rw [h] at hc; exact hc
  | b' :: r, p, h, hc => by
    obtain ⟨h1, h2, h3, h4, h5, h6, h7⟩ := h
    exact ⟨h1, h2, h3, h4, h5, h6, brC_snoc h7 hc⟩
