/-! ===== a whole text ===== -/
/-- faults are 1 or 2; tokens go on -/
def snd' {α : Type} (r : ER α) (t : Nat) : Prop := (∀ c q, r = efl c q → c = 1 ∨ c = 2) ∧ ∀ t' a, r = eok t' a → t ≤ t'
theorem sn_fl {α : Type} {c q t : Nat} (h : c = 1 ∨ c = 2) : snd' (efl c q : ER α) t := ⟨fun c' q' e => by obtain ⟨rfl, rfl⟩ := efl_inj e; exact h, fun t' a e => (eok_fl e.symm).elim⟩
theorem sn_ok {α : Type} {t t' : Nat} {a : α} (h : t ≤ t') : snd' (eok t' a) t := ⟨fun c' q' e => (eok_fl e).elim, fun t'' a' e => by obtain ⟨rfl, rfl⟩ := eok_inj e; exact h⟩
theorem sn_b {α β : Type} {x : ER α} {g : Nat → α → ER β} {t : Nat} (hx : snd' x t) (hg : ∀ t1 a, t ≤ t1 → snd' (g t1 a) t1) : snd' (bnd x g) t := by
  rcases er_cases x with ⟨c, q, e⟩ | ⟨t1, a, e⟩
  · rw [e, bnd_fl]
    exact sn_fl (hx.1 c q e)
  · rw [e, bnd_ok]
    have h1 := hx.2 t1 a e
    have h2 := hg t1 a h1
    exact ⟨h2.1, fun t' a' e' => Nat.le_trans h1 (h2.2 t' a' e')⟩
theorem sn_le {α : Type} {x : ER α} {t t' : Nat} (h : snd' x t') (hle : t ≤ t') : snd' x t := ⟨h.1, fun t1 a e => Nat.le_trans hle (h.2 t1 a e)⟩
theorem andT_bnd (x : PR) (g : Nat → List CI → PR) : andT x g = bnd (x : ER (List CI)) g := by
  rcases pr_cases x with ⟨c, q, e⟩ | ⟨t, cs, e⟩
  · rw [e]; rfl
  · rw [e]; rfl
section SS
variable {K : Nat → Nat} {V : Nat → Int}
theorem sn_unit {rm : Bool} {rs : Nat → PR} (hs : rm = true → ∀ t, snd' (rs t : ER (List CI)) t) (t : Nat) : snd' (unitR K V rm rs t : ER (List CI)) t := by
  unfold unitR
  by_cases c1 : K t = 3
  · rw [if_pos c1]
    by_cases c : t < 400
    · rw [if_pos c]; exact sn_ok (by omega)
    · rw [if_neg c]; exact sn_fl (Or.inr rfl)
  rw [if_neg c1]
  by_cases c2 : 30 ≤ K t ∧ K t ≤ 38
  · rw [if_pos c2]
    by_cases c : t < 400
    · rw [if_pos c]; exact sn_ok (by omega)
    · rw [if_neg c]; exact sn_fl (Or.inr rfl)
  rw [if_neg c2]
  by_cases c3 : K t = 17
  · rw [if_pos c3]
    by_cases c : rm = true ∧ t < 400
    · rw [if_pos c, andT_bnd]
      refine sn_b (sn_le (hs c.1 (t + 1)) (by omega)) (fun t1 a h1 => ?_)
      by_cases z1 : K t1 = 18
      · rw [if_pos z1]
        by_cases z2 : t1 < 400
        · rw [if_pos z2]; exact sn_ok (by omega)
        · rw [if_neg z2]; exact sn_fl (Or.inr rfl)
      · rw [if_neg z1]; exact sn_fl (Or.inl rfl)
    · rw [if_neg c]; exact sn_fl (Or.inr rfl)
  rw [if_neg c3]
  exact sn_fl (Or.inl rfl)
theorem sn_loop {isop : Nat → Bool} {next : Nat → PR} (hn : ∀ t, snd' (next t : ER (List CI)) t) : ∀ (f t : Nat) (cs : List CI), snd' (loopR K isop next f t cs : ER (List CI)) t
  | 0, t, cs => sn_ok (Nat.le_refl _)
  | f + 1, t, cs => by
    rw [loopR]
    by_cases c : isop (K t) = true
    · rw [if_pos c]
      by_cases c2 : t < 400
      · rw [if_pos c2, andT_bnd]
        exact sn_b (sn_le (hn (t + 1)) (by omega)) (fun t1 a h1 => sn_loop hn f t1 _)
      · rw [if_neg c2]; exact sn_fl (Or.inr rfl)
    · rw [if_neg c]; exact sn_ok (Nat.le_refl _)
theorem sn_sumR {rm : Bool} {rs : Nat → PR} (hs : rm = true → ∀ t, snd' (rs t : ER (List CI)) t) (t : Nat) : snd' (sumR K V rm rs t : ER (List CI)) t := by
  have hp : ∀ t, snd' (partR K V rm rs t : ER (List CI)) t := fun t => by
    unfold partR
    rw [andT_bnd]
    exact sn_b (sn_unit hs t) (fun t1 a h1 => sn_loop (sn_unit hs) 401 t1 a)
  unfold sumR
  rw [andT_bnd]
  exact sn_b (hp t) (fun t1 a h1 => sn_loop hp 401 t1 a)
theorem sn_sumD : ∀ (dd t : Nat), snd' (sumD K V dd t : ER (List CI)) t
  | 0, t => sn_sumR (fun h => absurd h (by decide)) t
  | dd + 1, t => sn_sumR (fun _ => sn_sumD dd) t
theorem sn_tok (k t : Nat) : snd' (tokR K k t) t := by
  unfold tokR
  by_cases z1 : K t = k
  · rw [if_pos z1]
    by_cases z2 : t < 400
    · rw [if_pos z2]; exact sn_ok (by omega)
    · rw [if_neg z2]; exact sn_fl (Or.inr rfl)
  · rw [if_neg z1]; exact sn_fl (Or.inl rfl)
theorem sn_num {lo hi : Int} {wr : Option Nat} (t : Nat) : snd' (numR K V lo hi t wr) t := by
  unfold numR
  by_cases z1 : K t = 3
  · rw [if_pos z1]
    by_cases z2 : t < 400
    · rw [if_pos z2]; exact sn_ok (by omega)
    · rw [if_neg z2]; exact sn_fl (Or.inr rfl)
  · rw [if_neg z1]; exact sn_fl (Or.inl rfl)
theorem sn_if (t : Nat) : snd' (ifR K V t) t := by
  unfold ifR
  exact sn_b (sn_sumD 6 t) (fun t1 a h1 => sn_b (sn_tok 16 t1) (fun t2 _ h2 => sn_b (sn_sumD 6 t2) (fun t3 b h3 => sn_b (sn_tok 28 t3) (fun t4 _ h4 => sn_b (sn_sumD 6 t4) (fun t5 c h5 => sn_b (sn_tok 29 t5) (fun t6 _ h6 => sn_ok (Nat.le_refl _)))))))
theorem sn_lw : ∀ (n t : Nat) (acc : List LwI), snd' (lwR K V n t acc) t
  | 0, t, acc => by
    rw [lwR]
    by_cases c : K t = 27
    · rw [if_pos c]; exact sn_fl (Or.inr rfl)
    · rw [if_neg c]
      exact sn_b (sn_sumD 6 t) (fun t1 a h1 => sn_ok (Nat.le_refl _))
  | n + 1, t, acc => by
    rw [lwR]
    by_cases c : K t = 27
    · rw [if_pos c]
      by_cases c2 : t < 400
      · rw [if_pos c2]
        exact sn_b (sn_le (sn_if (t + 1)) (by omega)) (fun t1 a h1 => sn_lw n t1 _)
      · rw [if_neg c2]; exact sn_fl (Or.inr rfl)
    · rw [if_neg c]
      exact sn_b (sn_sumD 6 t) (fun t1 a h1 => sn_ok (Nat.le_refl _))
/-- numbers behind numbers; the token goes to a known place -/
theorem sn_bn {β : Type} {lo hi : Int} {wr : Option Nat} {t u : Nat} {g : Nat → Option Nat → ER β} (hg : ∀ t1 a, snd' (g t1 a) u) : snd' (bnd (numR K V lo hi t wr) g) u := by
  rcases er_cases (numR K V lo hi t wr) with ⟨c, q, e⟩ | ⟨t1, a, e⟩
  · rw [e, bnd_fl]
    exact sn_fl ((sn_num t).1 c q e)
  · rw [e, bnd_ok]; exact hg t1 a
theorem sn_bt {β : Type} {k t u : Nat} {g : Nat → Unit → ER β} (hg : ∀ t1 a, snd' (g t1 a) u) : snd' (bnd (tokR K k t) g) u := by
  rcases er_cases (tokR K k t) with ⟨c, q, e⟩ | ⟨t1, a, e⟩
  · rw [e, bnd_fl]
    exact sn_fl ((sn_tok k t).1 c q e)
  · rw [e, bnd_ok]; exact hg t1 a
theorem sn_tell (t : Nat) (w h sd : Int) (H : TH) (S : TS) (lw : Nat → LW) (wr : Option Nat) : snd' (tell1 K V t w h sd H S lw wr) (t + 1) := by
  unfold tell1
  by_cases c1 : K t = 20
  · rw [if_pos c1]
    by_cases c : t < 400
    · rw [if_pos c]
      exact sn_bn (fun _ _ => sn_bn (fun _ _ => sn_bt (fun _ _ => sn_ok (by omega))))
    · rw [if_neg c]; exact sn_fl (Or.inr rfl)
  rw [if_neg c1]
  by_cases c2 : K t = 21
  · rw [if_pos c2]
    by_cases c : H.1 < 12 ∧ t < 400
    · rw [if_pos c]
      exact sn_bn (fun _ _ => sn_bn (fun _ _ => sn_bt (fun _ _ => sn_ok (by omega))))
    · rw [if_neg c]; exact sn_fl (Or.inr rfl)
  rw [if_neg c2]
  by_cases c3 : K t = 22
  · rw [if_pos c3]
    by_cases c : S.1 < 18 ∧ t < 400
    · rw [if_pos c]
      exact sn_bn (fun _ _ => sn_bn (fun _ _ => sn_bn (fun _ _ => sn_bt (fun _ _ => sn_ok (by omega)))))
    · rw [if_neg c]; exact sn_fl (Or.inr rfl)
  rw [if_neg c3]
  by_cases c4 : 23 ≤ K t ∧ K t ≤ 25
  · rw [if_pos c4]
    by_cases c : t < 400
    · rw [if_pos c]
      exact sn_b (sn_tok 11 (t + 1)) (fun t1 _ h1 => sn_b (sn_lw 4 t1 []) (fun t2 l h2 => sn_b (sn_tok 10 t2) (fun t3 _ h3 => sn_ok (Nat.le_refl _))))
    · rw [if_neg c]; exact sn_fl (Or.inr rfl)
  rw [if_neg c4]
  by_cases c5 : K t = 26
  · rw [if_pos c5]
    by_cases c : t < 400
    · rw [if_pos c]
      exact sn_bn (fun _ _ => sn_bt (fun _ _ => sn_ok (by omega)))
    · rw [if_neg c]; exact sn_fl (Or.inr rfl)
  rw [if_neg c5]
  exact sn_fl (Or.inl rfl)
/-- a wrong number stays -/
theorem wrN_none {lo hi : Int} {i : Nat} {wr : Option Nat} (h : wrN V lo hi i wr = none) : wr = none ∧ lo ≤ V i ∧ V i ≤ hi := by
  unfold wrN at h
  by_cases c : wr = none ∧ (V i < lo ∨ hi < V i)
  · rw [if_pos c] at h; exact absurd h (by simp)
  · rw [if_neg c] at h
    have c' : ¬ (V i < lo ∨ hi < V i) := fun q => c ⟨h, q⟩
    exact ⟨h, by omega⟩
theorem num_b {β : Type} {lo hi : Int} {wr : Option Nat} {t t' : Nat} {b : β} {g : Nat → Option Nat → ER β} (h : bnd (numR K V lo hi t wr) g = eok t' b) : g (t + 1) (wrN V lo hi t wr) = eok t' b := by
  rcases er_cases (numR K V lo hi t wr) with ⟨c, q, e⟩ | ⟨t1, a, e⟩
  · rw [e, bnd_fl] at h; exact (eok_fl h.symm).elim
  · rw [e, bnd_ok] at h
    obtain ⟨rfl, rfl, _⟩ := numR_ok e
    exact h
theorem tok_b {β : Type} {k t t' : Nat} {b : β} {g : Nat → Unit → ER β} (h : bnd (tokR K k t) g = eok t' b) : ∃ t1, g t1 () = eok t' b := by
  rcases er_cases (tokR K k t) with ⟨c, q, e⟩ | ⟨t1, a, e⟩
  · rw [e, bnd_fl] at h; exact (eok_fl h.symm).elim
  · rw [e, bnd_ok] at h
    exact ⟨t1, h⟩
theorem tell_rg {t t' : Nat} {w h sd w' h' sd' : Int} {H H' : TH} {S S' : TS} {lw lw' : Nat → LW} {wr wr' : Option Nat} (e : tell1 K V t w h sd H S lw wr = eok t' (w', h', sd', H', S', lw', wr')) (hr : wr = none → rgX w h sd H S) (hn : wr' = none) : rgX w' h' sd' H' S' := by
  unfold tell1 at e
  by_cases c1 : K t = 20
  · rw [if_pos c1] at e
    by_cases c : t < 400
    · rw [if_pos c] at e
      obtain ⟨_, e⟩ := tok_b (num_b (num_b e))
      obtain ⟨_, e⟩ := eok_inj e
      simp only [Prod.mk.injEq] at e
      obtain ⟨rfl, rfl, rfl, rfl, rfl, rfl, rfl⟩ := e
      obtain ⟨n1, n2⟩ := wrN_none hn
      obtain ⟨n3, n4⟩ := wrN_none n1
      obtain ⟨r1, r2, r3, r4, r5, r6, r7, r8⟩ := hr n3
      exact ⟨by omega, by omega, by omega, by omega, r5, r6, r7, r8⟩
    · rw [if_neg c] at e; exact (eok_fl e.symm).elim
  rw [if_neg c1] at e
  by_cases c2 : K t = 21
  · rw [if_pos c2] at e
    by_cases c : H.1 < 12 ∧ t < 400
    · rw [if_pos c] at e
      obtain ⟨_, e⟩ := tok_b (num_b (num_b e))
      obtain ⟨_, e⟩ := eok_inj e
      simp only [Prod.mk.injEq] at e
      obtain ⟨rfl, rfl, rfl, rfl, rfl, rfl, rfl⟩ := e
      obtain ⟨n1, n2⟩ := wrN_none hn
      obtain ⟨n3, n4⟩ := wrN_none n1
      obtain ⟨r1, r2, r3, r4, r5, r6, r7, r8⟩ := hr n3
      refine ⟨r1, r2, r3, r4, r5, r6, fun i hi => ?_, r8⟩
      have hi : i < H.1 + 1 := hi
      show 0 ≤ rSet H.2.1 H.1 (V (t + 1)) i ∧ rSet H.2.1 H.1 (V (t + 1)) i ≤ 5 ∧ 0 ≤ rSet H.2.2 H.1 (V (t + 2)) i ∧ rSet H.2.2 H.1 (V (t + 2)) i ≤ 5
      by_cases ei : i = H.1
      · rw [ei, rSet_s, rSet_s]; omega
      · rw [rSet_n ei, rSet_n ei]; exact r7 i (by omega)
    · rw [if_neg c] at e; exact (eok_fl e.symm).elim
  rw [if_neg c2] at e
  by_cases c3 : K t = 22
  · rw [if_pos c3] at e
    by_cases c : S.1 < 18 ∧ t < 400
    · rw [if_pos c] at e
      obtain ⟨_, e⟩ := tok_b (num_b (num_b (num_b e)))
      obtain ⟨_, e⟩ := eok_inj e
      simp only [Prod.mk.injEq] at e
      obtain ⟨rfl, rfl, rfl, rfl, rfl, rfl, rfl⟩ := e
      obtain ⟨n1, n2⟩ := wrN_none hn
      obtain ⟨n3, n4⟩ := wrN_none n1
      obtain ⟨n5, n6⟩ := wrN_none n3
      obtain ⟨r1, r2, r3, r4, r5, r6, r7, r8⟩ := hr n5
      refine ⟨r1, r2, r3, r4, r5, r6, r7, fun i hi => ?_⟩
      have hi : i < S.1 + 1 := hi
      show 0 ≤ rSet S.2.1 S.1 (V (t + 1)) i ∧ rSet S.2.1 S.1 (V (t + 1)) i ≤ 5 ∧ 0 ≤ rSet S.2.2.1 S.1 (V (t + 2)) i ∧ rSet S.2.2.1 S.1 (V (t + 2)) i ≤ 5 ∧ 0 ≤ rSet S.2.2.2 S.1 (V (t + 3)) i ∧ rSet S.2.2.2 S.1 (V (t + 3)) i ≤ 1
      by_cases ei : i = S.1
      · rw [ei, rSet_s, rSet_s, rSet_s]; omega
      · rw [rSet_n ei, rSet_n ei, rSet_n ei]; exact r8 i (by omega)
    · rw [if_neg c] at e; exact (eok_fl e.symm).elim
  rw [if_neg c3] at e
  by_cases c4 : 23 ≤ K t ∧ K t ≤ 25
  · rw [if_pos c4] at e
    by_cases c : t < 400
    · rw [if_pos c] at e
      obtain ⟨t1, e⟩ := tok_b e
      rcases er_cases (lwR K V 4 t1 []) with ⟨c', q', e'⟩ | ⟨t2, l, e'⟩
      · rw [e', bnd_fl] at e; exact (eok_fl e.symm).elim
      · rw [e', bnd_ok] at e
        obtain ⟨_, e⟩ := tok_b e
        obtain ⟨_, e⟩ := eok_inj e
        simp only [Prod.mk.injEq] at e
        obtain ⟨rfl, rfl, rfl, rfl, rfl, _, rfl⟩ := e
        exact hr hn
    · rw [if_neg c] at e; exact (eok_fl e.symm).elim
  rw [if_neg c4] at e
  by_cases c5 : K t = 26
  · rw [if_pos c5] at e
    by_cases c : t < 400
    · rw [if_pos c] at e
      obtain ⟨_, e⟩ := tok_b (num_b e)
      obtain ⟨_, e⟩ := eok_inj e
      simp only [Prod.mk.injEq] at e
      obtain ⟨rfl, rfl, rfl, rfl, rfl, rfl, rfl⟩ := e
      obtain ⟨n1, n2⟩ := wrN_none hn
      obtain ⟨r1, r2, r3, r4, r5, r6, r7, r8⟩ := hr n1
      exact ⟨r1, r2, r3, r4, by omega, by omega, r7, r8⟩
    · rw [if_neg c] at e; exact (eok_fl e.symm).elim
  rw [if_neg c5] at e
  exact (eok_fl e.symm).elim
end SS
/-- all tells -/
def tlsR (K : Nat → Nat) (V : Nat → Int) : Nat → Nat → TX → ER TX
  | 0, t, x => eok t x
  | f + 1, t, x => if K t = 0 then eok t x else bnd (tell1 K V t x.1 x.2.1 x.2.2.1 x.2.2.2.1 x.2.2.2.2.1 x.2.2.2.2.2.1 x.2.2.2.2.2.2) (fun t' x' => tlsR K V f t' x')
def txI : TX := (4, 4, 0, (0, fun _ => 0, fun _ => 0), (0, fun _ => 0, fun _ => 0, fun _ => 0), dfLw, none)
