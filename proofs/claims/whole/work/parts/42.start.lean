/-! ===== where the law begins: the classes' numbers, the array classes, the two texts ===== -/
set_option maxRecDepth 1000000 in
theorem js_e0 : ((flatC (Jvm.Cond.and given_1 narrow_1)).drop 13).take 152 = (List.range 152).map (fun j => Cond.eq (.elem (.field (.string RX9 72) "java/lang/String" "value" "[B") (.int (Int32.ofNat j))) (.int ((jbyt.getD 0 []).getD j 0))) := rfl
set_option maxRecDepth 1000000 in
theorem js_e1 : ((flatC (Jvm.Cond.and given_1 narrow_1)).drop 169).take 9 = (List.range 9).map (fun j => Cond.eq (.elem (.field (.string RX9 61) "java/lang/String" "value" "[B") (.int (Int32.ofNat j))) (.int ((jbyt.getD 1 []).getD j 0))) := rfl
theorem js_el : ∀ i, i < 2 → ∀ j, j < jlen.getD i 0 → Cond.eq (.elem (.field (if i = 0 then .string RX9 72 else .string RX9 61) "java/lang/String" "value" "[B") (.int (Int32.ofNat j))) (.int ((jbyt.getD i []).getD j 0)) ∈ flatC (Jvm.Cond.and given_1 narrow_1) := by
  intro i hi j hj
  rcases (show i = 0 ∨ i = 1 by omega) with rfl | rfl
  · refine List.mem_of_mem_drop (i := 13) (List.mem_of_mem_take (i := 152) ?_)
    rw [js_e0]
    exact List.mem_map.mpr ⟨j, List.mem_range.mpr hj, rfl⟩
  · refine List.mem_of_mem_drop (i := 169) (List.mem_of_mem_take (i := 9) ?_)
    rw [js_e1]
    exact List.mem_map.mpr ⟨j, List.mem_range.mpr hj, rfl⟩
theorem js_ex : ∀ i, i < 2 → Cond.exactly (if i = 0 then .string RX9 72 else .string RX9 61) "java/lang/String" ∈ flatC (Jvm.Cond.and given_1 narrow_1) := by decide +kernel
theorem js_co : ∀ i, i < 2 → Cond.eq (.field (if i = 0 then .string RX9 72 else .string RX9 61) "java/lang/String" "coder" "B") (.int 0) ∈ flatC (Jvm.Cond.and given_1 narrow_1) := by decide +kernel
theorem js_ar : ∀ i, i < 2 → Cond.arrayOf (.field (if i = 0 then .string RX9 72 else .string RX9 61) "java/lang/String" "value" "[B") .byte ∈ flatC (Jvm.Cond.and given_1 narrow_1) := by decide +kernel
theorem js_le : ∀ i, i < 2 → Cond.eq (.length (.field (if i = 0 then .string RX9 72 else .string RX9 61) "java/lang/String" "value" "[B")) (.int (Int32.ofNat (jlen.getD i 0))) ∈ flatC (Jvm.Cond.and given_1 narrow_1) := by decide +kernel
theorem js_ne : Cond.not (Cond.eq (.string RX9 72) (.string RX9 61)) ∈ flatC (Jvm.Cond.and given_1 narrow_1) ∨ Cond.not (Cond.eq (.string RX9 61) (.string RX9 72)) ∈ flatC (Jvm.Cond.and given_1 narrow_1) := by decide +kernel
theorem js_cs : Cond.eq (.static "java/lang/String" "COMPACT_STRINGS" "Z") (.int 1) ∈ flatC (Jvm.Cond.and given_1 narrow_1) := by decide +kernel
theorem js_fo : Cond.isRef (.static "jdk/internal/util/Preconditions" "SIOOBE_FORMATTER" "Ljava/util/function/BiFunction;") ∈ flatC (Jvm.Cond.and given_1 narrow_1) := by decide +kernel
theorem js_cl {s : State} {args : Array Value} (hts : ∀ w ∈ lw_tbl, w.before args s = true) : ∀ k : Nat, ∃ cd : ClassId × (Nat → Nat), ∀ q : vw_C, vwCl[k]? = some q → u_Kn s q.1 q.2.1 q.2.2 cd.1 cd.2 := by
  intro k
  match k with
  | 0 =>
    obtain ⟨c, i, h⟩ := u_known (C := RX0) (T := TX0) (N := 4) (n := 4) hts (fun w hw => (List.mem_filter.mp (jw0 w hw)).1) (hts (.instantiable RX0 4) (List.mem_of_getElem? (i := 507) (by decide +kernel)))
    exact ⟨(c, i), fun q hq => by cases hq; exact h⟩
  | 1 =>
    obtain ⟨c, i, h⟩ := u_known (C := RX1) (T := TX1) (N := 5) (n := 5) hts (fun w hw => (List.mem_filter.mp (jw1 w hw)).1) (hts (.instantiable RX1 5) (List.mem_of_getElem? (i := 398) (by decide +kernel)))
    exact ⟨(c, i), fun q hq => by cases hq; exact h⟩
  | 2 =>
    obtain ⟨c, i, h⟩ := u_known (C := RX2) (T := TX2) (N := 5) (n := 5) hts (fun w hw => (List.mem_filter.mp (jw2 w hw)).1) (hts (.instantiable RX2 5) (List.mem_of_getElem? (i := 178) (by decide +kernel)))
    exact ⟨(c, i), fun q hq => by cases hq; exact h⟩
  | 3 =>
    obtain ⟨c, i, h⟩ := u_known (C := RX3) (T := TX3) (N := 9) (n := 9) hts (fun w hw => (List.mem_filter.mp (jw3 w hw)).1) (hts (.instantiable RX3 9) (List.mem_of_getElem? (i := 277) (by decide +kernel)))
    exact ⟨(c, i), fun q hq => by cases hq; exact h⟩
  | 4 =>
    obtain ⟨c, i, h⟩ := u_known (C := RX4) (T := TX4) (N := 8) (n := 8) hts (fun w hw => (List.mem_filter.mp (jw4 w hw)).1) (hts (.instantiable RX4 8) (List.mem_of_getElem? (i := 443) (by decide +kernel)))
    exact ⟨(c, i), fun q hq => by cases hq; exact h⟩
  | 5 =>
    obtain ⟨c, i, h⟩ := u_known (C := RX5) (T := TX5) (N := 4) (n := 4) hts (fun w hw => (List.mem_filter.mp (jw5 w hw)).1) (hts (.instantiable RX5 4) (List.mem_of_getElem? (i := 487) (by decide +kernel)))
    exact ⟨(c, i), fun q hq => by cases hq; exact h⟩
  | 6 =>
    obtain ⟨c, i, h⟩ := u_known (C := RX6) (T := TX6) (N := 10) (n := 10) hts (fun w hw => (List.mem_filter.mp (jw6 w hw)).1) (hts (.instantiable RX6 10) (List.mem_of_getElem? (i := 334) (by decide +kernel)))
    exact ⟨(c, i), fun q hq => by cases hq; exact h⟩
  | 7 =>
    obtain ⟨c, i, h⟩ := u_known (C := RX7) (T := TX7) (N := 2) (n := 2) hts (fun w hw => (List.mem_filter.mp (jw7 w hw)).1) (hts (.instantiable RX7 2) (List.mem_of_getElem? (i := 155) (by decide +kernel)))
    exact ⟨(c, i), fun q hq => by cases hq; exact h⟩
  | 8 =>
    obtain ⟨c, i, h⟩ := u_known (C := RX8) (T := TX8) (N := 13) (n := 13) hts (fun w hw => (List.mem_filter.mp (jw8 w hw)).1) (hts (.instantiable RX8 13) (List.mem_of_getElem? (i := 172) (by decide +kernel)))
    exact ⟨(c, i), fun q hq => by cases hq; exact h⟩
  | 9 =>
    obtain ⟨c, i, h⟩ := u_known (C := RX9) (T := TX9) (N := 5) (n := 5) hts (fun w hw => (List.mem_filter.mp (jw9 w hw)).1) (hts (.instantiable RX9 5) (List.mem_of_getElem? (i := 283) (by decide +kernel)))
    exact ⟨(c, i), fun q hq => by cases hq; exact h⟩
  | 10 =>
    obtain ⟨c, i, h⟩ := u_known (C := RX10) (T := TX10) (N := 3) (n := 3) hts (fun w hw => (List.mem_filter.mp (jw10 w hw)).1) (hts (.instantiable RX10 3) (List.mem_of_getElem? (i := 424) (by decide +kernel)))
    exact ⟨(c, i), fun q hq => by cases hq; exact h⟩
  | 11 =>
    obtain ⟨c, i, h⟩ := u_known (C := RX11) (T := TX11) (N := 14) (n := 14) hts (fun w hw => (List.mem_filter.mp (jw11 w hw)).1) (hts (.instantiable RX11 14) (List.mem_of_getElem? (i := 147) (by decide +kernel)))
    exact ⟨(c, i), fun q hq => by cases hq; exact h⟩
  | 12 =>
    obtain ⟨c, i, h⟩ := u_known (C := RX12) (T := TX12) (N := 68) (n := 68) hts (fun w hw => (List.mem_filter.mp (jw12 w hw)).1) (hts (.instantiable RX12 68) (List.mem_of_getElem? (i := 1335) (by decide +kernel)))
    exact ⟨(c, i), fun q hq => by cases hq; exact h⟩
  | k + 13 => exact ⟨(0, fun _ => 0), fun q hq => by simp [vwCl] at hq⟩
theorem js_arr {s : State} {args : Array Value} {ty : FieldType} (h : (Cond.arrayClass ty).before args s = true) : ∃ c : ClassId, ArrOfT s c ty ∧ s.vm.findClass ("[" ++ ty.toString) = some c := by
  obtain ⟨c, k, comp, h1, h2, h3⟩ := Cond.arrayClass_spec h
  exact ⟨c, fun n z => ⟨fun k h => (by cases h), k, h2, comp, h3⟩, h1⟩
theorem js_grid {s : State} {args : Array Value} (h : (Cond.arrayOver (.array .int)).before args s = true) : ∃ c : ClassId, ArrOfT s c (.array .int) ∧ s.vm.findClass ("[" ++ (FieldType.array .int).toString) = some c := by
  obtain ⟨comp, c, k, h1, h2, h3, h4⟩ := Cond.arrayOver_specA h
  exact ⟨c, fun n z => ⟨fun k h => (by cases h), k, h2, comp, h3⟩, h4⟩
theorem jstart {s : State} {b : Nat} (l : Launch) (hts : ∀ w ∈ lw_tbl, w.before #[Value.ref b] s = true) (hgv : (Jvm.Cond.and given_1 narrow_1).before #[Value.ref b] s = true) : ∃ E : jE, E.1 = l ∧ jb E = s.heap.size ∧ jOk E s := by
  have hs := flat_of_before _ hgv
  obtain ⟨cd, hcd⟩ := Classical.axiomOfChoice (js_cl hts)
  obtain ⟨c20, a20, f20⟩ := js_arr (hts (.arrayClass .int) (List.mem_of_getElem? (i := 199) (by decide +kernel)))
  obtain ⟨c21, a21, f21⟩ := js_arr (hts (.arrayClass .byte) (List.mem_of_getElem? (i := 170) (by decide +kernel)))
  obtain ⟨c22, a22, f22⟩ := js_arr (hts (.arrayClass .boolean) (List.mem_of_getElem? (i := 200) (by decide +kernel)))
  obtain ⟨c23, a23, f23⟩ := js_arr (hts (.arrayClass .long) (List.mem_of_getElem? (i := 1567) (by decide +kernel)))
  have wO : (Cond.arrayOver (.array .int)).before #[Value.ref b] s = true := hts _ (List.mem_of_getElem? (i := 449) (by decide +kernel))
  have wS : (Cond.arrayOver (.object RX6)).before #[Value.ref b] s = true := hts _ (List.mem_of_getElem? (i := 404) (by decide +kernel))
  obtain ⟨c24, a24, f24⟩ := js_grid wO
  obtain ⟨cm, c25, k25, g1, g2, g3, g4, g5⟩ := Cond.arrayOver_spec wS
  have hA : ∀ a : Nat, a < s.heap.size → ¬ s.heap.size ≤ a := fun a h => by omega
  obtain ⟨adK, adV, hS, hev⟩ := vk_Sof (N := 2) (tm := fun i => if i = 0 then .string RX9 72 else .string RX9 61) (len := jlen) (byt := jbyt) (A := fun q => s.heap.size ≤ q) (by decide +kernel) (fun i hi => hs _ (js_ex i hi)) (fun i hi => hs _ (js_co i hi)) (fun i hi => hs _ (js_ar i hi)) (fun i hi => hs _ (js_le i hi)) (fun i hi j hj => hs _ (js_el i hi j hj)) (fun i j hi hj hij => by
      rcases (show (i = 0 ∧ j = 1) ∨ (i = 1 ∧ j = 0) by omega) with ⟨rfl, rfl⟩ | ⟨rfl, rfl⟩
      · rcases js_ne with h | h
        · exact Or.inl (hs _ h)
        · exact Or.inr (hs _ h)
      · rcases js_ne with h | h
        · exact Or.inr (hs _ h)
        · exact Or.inl (hs _ h)) hA
  refine ⟨(l, (fun k => (cd k).1, fun k => (cd k).2), s.heap.size, (fun t => if t = 20 then c20 else if t = 21 then c21 else if t = 22 then c22 else if t = 23 then c23 else if t = 24 then c24 else c25), adK, adV), rfl, rfl, ⟨fun c q hq => hcd c q hq, fun k q hk => ?_⟩, Nat.le_refl _, ?_, ?_, hS, ?_, va_AO.of wS, wO, ?_⟩
  · match k, hk with
    | 0, hk => cases hk; exact ⟨a20, f20⟩
    | 1, hk => cases hk; exact ⟨a21, f21⟩
    | 2, hk => cases hk; exact ⟨a22, f22⟩
    | 3, hk => cases hk; exact ⟨a23, f23⟩
    | 4, hk => cases hk; exact ⟨a24, f24⟩
    | 5, hk => cases hk; exact ⟨fun n z => ⟨fun k h => (by cases h), k25, g3, cm, g4⟩, k25, cm, g3, g4, g1, g5⟩
    | k + 6, hk => simp [jtys] at hk
  · exact vk_R.of (hts (.stringRef RX9 72 jtx0) (List.mem_of_getElem? (i := 690) (by decide +kernel))) (hev 0 (by decide))
  · exact vk_R.of (hts (.stringRef RX9 61 jtx1) (List.mem_of_getElem? (i := 738) (by decide +kernel))) (hev 1 (by decide))
  · exact va_Zof (hts (.laysStatic "java/lang/String" "COMPACT_STRINGS" "Z") (List.mem_of_getElem? (i := 700) (by decide +kernel))) (hts (.initialized "java/lang/String") (List.mem_of_getElem? (i := 138) (by decide +kernel))) (va_eqt (hs _ js_cs)) hA
  · exact va_Zqof (hts (.laysStatic "jdk/internal/util/Preconditions" "SIOOBE_FORMATTER" "Ljava/util/function/BiFunction;") (List.mem_of_getElem? (i := 708) (by decide +kernel))) (hts (.initialized "jdk/internal/util/Preconditions") (List.mem_of_getElem? (i := 140) (by decide +kernel))) (hs _ js_fo) hA
/-- what is left: in pure words, the law's function answers 1 on every script -/
def jPure : Prop := ∀ (L : Nat) (xs : Nat → Int32), L ≤ 384 → ∃ M', f_L_law L xs jM0 = some (1, M')
theorem whole_pure (HP : jPure) {p : Program} {e : Env} {s : State} {m : MethodId} {below : List Frame} {meth : Method} {c : Code} (l : Launch) {b L : Nat} {xs : Nat → Int32} (hL : L ≤ 384) (C0 : lw_At p s m meth c b L xs) : W p l e room_1 s m #[Value.ref b] below meth c s.heap [] 0 0 (lw_Z below #[Value.ref b] s) (entryFrame m ([Value.ref b] : List Value).toArray 4) := by
  obtain ⟨hx, hb, hr, hml, hown, hts, hX, hbl, hlocks, hgv⟩ := id C0
  obtain ⟨E, rfl, hE, hOk⟩ := jstart l hts hgv
  obtain ⟨M', hM⟩ := HP L xs hL
  have hl := lv_entry ([.ref b]) (n := 4) (Nat.le_of_ble_eq_true rfl)
  rw [lg_entry_eq]
  refine c_L_law (E := E) (X := (p, e, room_1, s, m, #[Value.ref b], below, meth, c, lw_Z below #[Value.ref b] s)) hM rfl ⟨hx, hb, hml, hown, fun w hw => hts w (List.mem_filter.mp hw).1, hOk, ⟨Nat.le_of_ble_eq_true rfl, Nat.le_of_ble_eq_true rfl, Nat.le_of_ble_eq_true rfl, Nat.le_of_ble_eq_true rfl⟩, hlocks⟩ ⟨hX, hbl, ?_, by omega⟩ hr ⟨rfl, rfl, rfl, by decide, by decide, Nat.le_of_eq hE.symm⟩ s.heap [] _ ⟨?_, fun a ha => ?_⟩ va_S.rf hl
  · unfold jA
    rw [hE]
    omega
  · rw [hE]; rfl
  · exact absurd ha (Nat.not_lt_zero _)
