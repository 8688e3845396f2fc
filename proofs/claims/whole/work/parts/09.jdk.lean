/-! ===== contracts of the JDK's own methods: a class whose name isn't plain, a method that isn't native ===== -/
theorem jMet.ofF {E : jE} {y : MethodName} {cc : ByteArray} {nL : Nat} {ret : Option FieldType} {d mc ms : Nat} {as : List Value} {M M' : jMem} {rv : Option Value} (own : String) (ho : y.cls = own) (hy : plainFor y = true) (hlen : (lg_sl as).length ≤ nL) (lv : List (Nat × Value)) (hlv : lv_args 0 as = lv)
    (body : ∀ X : jX, jCx E X cc nL own d mc ms → jEnd E X mc ms rv M' → X.2.2.2.2.2.2.2.1.sig.returnType = ret → X.2.2.2.2.2.2.2.1.name = y.name → JW E X nL 0 0 M 0 lv []) : jMet E y cc nL ret d mc ms as M rv M' := by
  subst ho
  subst hlv
  unfold jMet Met
  refine MetFree.of_bodySF (code := cc) (maxLocals := nL) (ret := ret) hy ?_ ?_
  · intro args s m h hn
    obtain ⟨meth, c, h1, h2, h3, h4, h5, h6, -, -⟩ := Cond.code_spec hn (atoms_spec (ws := jws y cc nL ret) h _ List.mem_cons_self)
    exact ⟨meth, c, h1, h2, h3, h4, h5, h6⟩
  · intro p e s m args below meth c s₁ B hml hv _
    obtain ⟨rfl, hH, hOk⟩ := hv
    have hh0 : s₁.heap = s.heap := by rw [B.state]; rfl
    have hts := atoms_spec (ws := jws y cc nL ret) B.pre
    have hl := lv_entry as (n := nL) hlen
    have K := body (p, e, jrm d mc ms, s, m, as.toArray, below, meth, c, MQ below (jQc E rv M') as.toArray s mc ms (jA E)) ⟨B.exec, B.bytes, hml, findClass_of_methodNamed B.named, fun w hw => hts w (List.mem_cons_of_mem _ hw), hOk, ⟨Nat.le_refl _, Nat.le_refl _, Nat.le_refl _, Nat.le_refl _⟩, B.notSynchronized⟩ rfl B.returns (name_of_methodNamed B.named B.method).1 s.heap [] _ hH va_S.rf hl
    rw [← lg_entry_eq] at K
    obtain ⟨t, a1, o, b1, b2, b3⟩ := K s₁ hh0 (Stand.of_body B)
    exact ⟨t, o, a1, b1, b2, ⟨b3.1, b3.2⟩⟩
