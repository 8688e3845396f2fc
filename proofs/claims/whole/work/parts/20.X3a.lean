/-! ===== 20.X3a: by program ===== -/
def f_X3_refuse (th : Nat) (x1 : Int) (x2 : Int) (M : jMem) : Option (Int × jMem) :=
(jm_pI 3 7 M th x1).bind fun M1 =>
(jm_pI 3 8 M1 th x2).bind fun M2 =>
jm_z 0 M2
theorem D_X3_refuse : jDs cX3_refuse [(0, .aload_n 0, 1, 1), (1, .iload_n 1, 1, 2), (2, .putfield 40, 3, 5), (5, .aload_n 0, 1, 6), (6, .iload_n 2, 1, 7), (7, .putfield 28, 3, 10), (10, .iconst 0, 1, 11), (11, .ireturn, 1, 12)] := by unfold jDs; decide +kernel
set_option maxRecDepth 100000 in
set_option maxHeartbeats 4000000 in
theorem c_X3_refuse {E : jE} {th : Nat} {x1 : Int} {x2 : Int} {M : jMem} {r : Int} {M' : jMem} (h : f_X3_refuse th x1 x2 M = some (r, M')) : jMet E yX3_refuse cX3_refuse 3 (some .boolean) 2 0 0 [q_r E th, q_i x1, q_i x2] M (some (q_i r)) M' := by
  unfold f_X3_refuse at h
  refine jMet.of RX3 rfl (by decide +kernel) (Nat.le_of_ble_eq_true rfl) [(0, q_r E th), (1, q_i x1), (2, q_i x2)] rfl (fun X hC hE hr hn => ?_)
  refine jr_aload_n hC (D_X3_refuse.g 0 rfl) 0 rfl ?_
  refine jr_iload_n hC (D_X3_refuse.g 1 rfl) 1 rfl ?_
  refine jr_putI hC fl_X3_40 rfl (jnfin rfl) (D_X3_refuse.g 2 rfl) h (fun M1 _ h => ?_)
  refine jr_aload_n hC (D_X3_refuse.g 3 rfl) 0 rfl ?_
  refine jr_iload_n hC (D_X3_refuse.g 4 rfl) 2 rfl ?_
  refine jr_putI hC fl_X3_28 rfl (jnfin rfl) (D_X3_refuse.g 5 rfl) h (fun M2 _ h => ?_)
  refine jr_iconst hC (D_X3_refuse.g 6 rfl) ?_
  exact jr_zret hC (D_X3_refuse.g 7 rfl) hr hE h
def f_X3_accept (th : Nat) (x1 : Int) (M : jMem) : Option (Int × jMem) :=
jjq ((jm_gI 3 5 M th).bind fun v1 =>
jcall 3 M th (f_X3_refuse th 2 v1 M) fun v2 M3 =>
jm_z v2 M3) fun j_14 =>
if jd_wr x1 = 0 then (j_14 )
else ((jm_gI 3 3 M th).bind fun v4 =>
if jd_wr v4 < jd_wr 400 then ((jm_gI 3 3 M th).bind fun v5 =>
(jm_pI 3 3 M th (v5 + 1)).bind fun M6 =>
(jm_gR 3 1 M6 th).bind fun r7 =>
(jm_gI 3 3 M6 th).bind fun v8 =>
jcall 9 M6 r7 (f_X9_kindOf r7 v8 M6) fun v9 M10 =>
(jm_pI 3 4 M10 th v9).bind fun M11 =>
(jm_gR 3 1 M11 th).bind fun r12 =>
(jm_gI 3 3 M11 th).bind fun v13 =>
jcall 9 M11 r12 (f_X9_placeOf r12 v13 M11) fun v14 M15 =>
(jm_pI 3 5 M15 th v14).bind fun M16 =>
jm_z 1 M16)
else (j_14 ))
theorem D_X3_accept : jDs cX3_accept [(0, .iload_n 1, 1, 1), (1, .ifCond .eq 13, 3, 4), (4, .aload_n 0, 1, 5), (5, .getfield 46, 3, 8), (8, .sipush 400, 3, 11), (11, .if_icmp .lt 13, 3, 14), (14, .aload_n 0, 1, 15), (15, .iconst 2, 1, 16), (16, .aload_n 0, 1, 17), (17, .getfield 59, 3, 20), (20, .invokevirtual 66, 3, 23), (23, .ireturn, 1, 24), (24, .aload_n 0, 1, 25), (25, .dup, 1, 26), (26, .getfield 46, 3, 29), (29, .iconst 1, 1, 30), (30, .iadd, 1, 31), (31, .putfield 46, 3, 34), (34, .aload_n 0, 1, 35), (35, .aload_n 0, 1, 36), (36, .getfield 24, 3, 39), (39, .aload_n 0, 1, 40), (40, .getfield 46, 3, 43), (43, .invokevirtual 49, 3, 46), (46, .putfield 53, 3, 49), (49, .aload_n 0, 1, 50), (50, .aload_n 0, 1, 51), (51, .getfield 24, 3, 54), (54, .aload_n 0, 1, 55), (55, .getfield 46, 3, 58), (58, .invokevirtual 56, 3, 61), (61, .putfield 59, 3, 64), (64, .iconst 1, 1, 65), (65, .ireturn, 1, 66)] := by unfold jDs; decide +kernel
set_option maxRecDepth 100000 in
set_option maxHeartbeats 4000000 in
theorem c_X3_accept {E : jE} {th : Nat} {x1 : Int} {M : jMem} {r : Int} {M' : jMem} (h : f_X3_accept th x1 M = some (r, M')) : jMet E yX3_accept cX3_accept 2 (some .boolean) 3 0 0 [q_r E th, q_i x1] M (some (q_i r)) M' := by
  unfold f_X3_accept at h
  refine jMet.of RX3 rfl (by decide +kernel) (Nat.le_of_ble_eq_true rfl) [(0, q_r E th), (1, q_i x1)] rfl (fun X hC hE hr hn => ?_)
  refine jr_iload_n hC (D_X3_accept.g 0 rfl) 1 rfl ?_
  refine jr_join h (fun j => j = some (r, M') → JW E X 2 0 0 M 14 [(0, q_r E th)] []) ?_ ?_
  · intro  h
    refine jr_aload_n hC (D_X3_accept.g 6 rfl) 0 rfl ?_
    refine jr_iconst hC (D_X3_accept.g 7 rfl) ?_
    refine jr_aload_n hC (D_X3_accept.g 8 rfl) 0 rfl ?_
    refine jr_getI hC fl_X3_59 rfl (D_X3_accept.g 9 rfl) h (fun v1 h => ?_)
    refine jr_cVi hC cl_X3_66 ⟨rfl, by decide⟩ (D_X3_accept.g 10 rfl) [q_i 2, q_i v1] h (fun r M' e => c_X3_refuse e) rfl rfl ⟨by decide, by decide⟩ (Nat.le_of_ble_eq_true rfl) ⟨Nat.le_of_ble_eq_true rfl, Nat.le_of_ble_eq_true rfl⟩ (fun v2 M3 h => ?_)
    exact jr_zret hC (D_X3_accept.g 11 rfl) hr hE h
  intro j_14 hj_14 h
  refine jr_if_eq hC (D_X3_accept.g 1 rfl) 14 rfl h (fun h => ?_) (fun h => ?_)
  · refine jr_pick [0] rfl ?_
    exact hj_14  h
  refine jr_aload_n hC (D_X3_accept.g 2 rfl) 0 rfl ?_
  refine jr_getI hC fl_X3_46 rfl (D_X3_accept.g 3 rfl) h (fun v4 h => ?_)
  refine jr_sipush hC (D_X3_accept.g 4 rfl) sp_400 ?_
  refine jr_icmp_lt hC (D_X3_accept.g 5 rfl) 24 rfl h (fun h => ?_) (fun h => ?_)
  · refine jr_aload_n hC (D_X3_accept.g 12 rfl) 0 rfl ?_
    refine jr_dup hC (D_X3_accept.g 13 rfl) rfl ?_
    refine jr_getI hC fl_X3_46 rfl (D_X3_accept.g 14 rfl) h (fun v5 h => ?_)
    refine jr_iconst hC (D_X3_accept.g 15 rfl) ?_
    refine jr_iadd hC (D_X3_accept.g 16 rfl) ?_
    refine jr_putI hC fl_X3_46 rfl (jnfin rfl) (D_X3_accept.g 17 rfl) h (fun M6 _ h => ?_)
    refine jr_aload_n hC (D_X3_accept.g 18 rfl) 0 rfl ?_
    refine jr_aload_n hC (D_X3_accept.g 19 rfl) 0 rfl ?_
    refine jr_getR hC fl_X3_24 rfl (D_X3_accept.g 20 rfl) h (fun r7 h => ?_)
    refine jr_aload_n hC (D_X3_accept.g 21 rfl) 0 rfl ?_
    refine jr_getI hC fl_X3_46 rfl (D_X3_accept.g 22 rfl) h (fun v8 h => ?_)
    refine jr_cVi hC cl_X3_49 ⟨rfl, by decide⟩ (D_X3_accept.g 23 rfl) [q_i v8] h (fun r M' e => c_X9_kindOf e) rfl rfl ⟨by decide, by decide⟩ (Nat.le_of_ble_eq_true rfl) ⟨Nat.le_of_ble_eq_true rfl, Nat.le_of_ble_eq_true rfl⟩ (fun v9 M10 h => ?_)
    refine jr_putI hC fl_X3_53 rfl (jnfin rfl) (D_X3_accept.g 24 rfl) h (fun M11 _ h => ?_)
    refine jr_aload_n hC (D_X3_accept.g 25 rfl) 0 rfl ?_
    refine jr_aload_n hC (D_X3_accept.g 26 rfl) 0 rfl ?_
    refine jr_getR hC fl_X3_24 rfl (D_X3_accept.g 27 rfl) h (fun r12 h => ?_)
    refine jr_aload_n hC (D_X3_accept.g 28 rfl) 0 rfl ?_
    refine jr_getI hC fl_X3_46 rfl (D_X3_accept.g 29 rfl) h (fun v13 h => ?_)
    refine jr_cVi hC cl_X3_56 ⟨rfl, by decide⟩ (D_X3_accept.g 30 rfl) [q_i v13] h (fun r M' e => c_X9_placeOf e) rfl rfl ⟨by decide, by decide⟩ (Nat.le_of_ble_eq_true rfl) ⟨Nat.le_of_ble_eq_true rfl, Nat.le_of_ble_eq_true rfl⟩ (fun v14 M15 h => ?_)
    refine jr_putI hC fl_X3_59 rfl (jnfin rfl) (D_X3_accept.g 31 rfl) h (fun M16 _ h => ?_)
    refine jr_iconst hC (D_X3_accept.g 32 rfl) ?_
    exact jr_zret hC (D_X3_accept.g 33 rfl) hr hE h
  refine jr_pick [0] rfl ?_
  exact hj_14  h
def f_X3_acceptOf (th : Nat) (x1 : Int) (M : jMem) : Option (Int × jMem) :=
(jm_gI 3 4 M th).bind fun v1 =>
if jd_wr v1 = jd_wr x1 then (jcall 3 M th (f_X3_accept th 1 M) fun v2 M3 =>
jm_z v2 M3)
else ((jm_gI 3 5 M th).bind fun v4 =>
jcall 3 M th (f_X3_refuse th 1 v4 M) fun v5 M6 =>
jm_z v5 M6)
theorem D_X3_acceptOf : jDs cX3_acceptOf [(0, .aload_n 0, 1, 1), (1, .getfield 53, 3, 4), (4, .iload_n 1, 1, 5), (5, .if_icmp .ne 11, 3, 8), (8, .aload_n 0, 1, 9), (9, .iconst 1, 1, 10), (10, .invokevirtual 78, 3, 13), (13, .goto 12, 3, 16), (16, .aload_n 0, 1, 17), (17, .iconst 1, 1, 18), (18, .aload_n 0, 1, 19), (19, .getfield 59, 3, 22), (22, .invokevirtual 66, 3, 25), (25, .ireturn, 1, 26)] := by unfold jDs; decide +kernel
set_option maxRecDepth 100000 in
set_option maxHeartbeats 4000000 in
theorem c_X3_acceptOf {E : jE} {th : Nat} {x1 : Int} {M : jMem} {r : Int} {M' : jMem} (h : f_X3_acceptOf th x1 M = some (r, M')) : jMet E yX3_acceptOf cX3_acceptOf 2 (some .boolean) 4 0 0 [q_r E th, q_i x1] M (some (q_i r)) M' := by
  unfold f_X3_acceptOf at h
  refine jMet.of RX3 rfl (by decide +kernel) (Nat.le_of_ble_eq_true rfl) [(0, q_r E th), (1, q_i x1)] rfl (fun X hC hE hr hn => ?_)
  refine jr_aload_n hC (D_X3_acceptOf.g 0 rfl) 0 rfl ?_
  refine jr_getI hC fl_X3_53 rfl (D_X3_acceptOf.g 1 rfl) h (fun v1 h => ?_)
  refine jr_iload_n hC (D_X3_acceptOf.g 2 rfl) 1 rfl ?_
  refine jr_icmp_ne hC (D_X3_acceptOf.g 3 rfl) 16 rfl h (fun h => ?_) (fun h => ?_)
  · refine jr_aload_n hC (D_X3_acceptOf.g 4 rfl) 0 rfl ?_
    refine jr_iconst hC (D_X3_acceptOf.g 5 rfl) ?_
    refine jr_cVi hC cl_X3_78 ⟨rfl, by decide⟩ (D_X3_acceptOf.g 6 rfl) [q_i 1] h (fun r M' e => c_X3_accept e) rfl rfl ⟨by decide, by decide⟩ (Nat.le_of_ble_eq_true rfl) ⟨Nat.le_of_ble_eq_true rfl, Nat.le_of_ble_eq_true rfl⟩ (fun v2 M3 h => ?_)
    refine jr_goto hC (D_X3_acceptOf.g 7 rfl) 25 rfl ?_
    exact jr_zret hC (D_X3_acceptOf.g 13 rfl) hr hE h
  refine jr_aload_n hC (D_X3_acceptOf.g 8 rfl) 0 rfl ?_
  refine jr_iconst hC (D_X3_acceptOf.g 9 rfl) ?_
  refine jr_aload_n hC (D_X3_acceptOf.g 10 rfl) 0 rfl ?_
  refine jr_getI hC fl_X3_59 rfl (D_X3_acceptOf.g 11 rfl) h (fun v4 h => ?_)
  refine jr_cVi hC cl_X3_66 ⟨rfl, by decide⟩ (D_X3_acceptOf.g 12 rfl) [q_i 1, q_i v4] h (fun r M' e => c_X3_refuse e) rfl rfl ⟨by decide, by decide⟩ (Nat.le_of_ble_eq_true rfl) ⟨Nat.le_of_ble_eq_true rfl, Nat.le_of_ble_eq_true rfl⟩ (fun v5 M6 h => ?_)
  exact jr_zret hC (D_X3_acceptOf.g 13 rfl) hr hE h
def f_X3_takeNumber (th : Nat) (x1 : Int) (x2 : Int) (M : jMem) : Option (Int × jMem) :=
(jm_gR 3 1 M th).bind fun r1 =>
(jm_gI 3 3 M th).bind fun v2 =>
jcall 9 M r1 (f_X9_numberOf r1 v2 M) fun v3 M4 =>
(jm_gI 3 4 M4 th).bind fun v5 =>
jjq (fun (M_46 : jMem) =>
jcall 3 M_46 th (f_X3_acceptOf th 3 M_46) fun v6 M7 =>
jm_z v6 M7) fun j_46 =>
if jd_wr v5 = jd_wr 3 then ((jm_gI 3 6 M4 th).bind fun v8 =>
if jd_wr v8 = jd_wr (-1) then (jjq ((jm_gI 3 5 M4 th).bind fun v9 =>
(jm_pI 3 6 M4 th v9).bind fun M10 =>
j_46 M10) fun j_38 =>
if jd_wr v3 < jd_wr x1 then (j_38 )
else (if jd_wr v3 ≤ jd_wr x2 then (j_46 M4)
else (j_38 )))
else (j_46 M4))
else (j_46 M4)
theorem D_X3_takeNumber : jDs cX3_takeNumber [(0, .aload_n 0, 1, 1), (1, .getfield 24, 3, 4), (4, .aload_n 0, 1, 5), (5, .getfield 46, 3, 8), (8, .invokevirtual 107, 3, 11), (11, .istore_n 3, 1, 12), (12, .aload_n 0, 1, 13), (13, .getfield 53, 3, 16), (16, .iconst 3, 1, 17), (17, .if_icmp .ne 29, 3, 20), (20, .aload_n 0, 1, 21), (21, .getfield 37, 3, 24), (24, .iconst (-1), 1, 25), (25, .if_icmp .ne 21, 3, 28), (28, .iload_n 3, 1, 29), (29, .iload_n 1, 1, 30), (30, .if_icmp .lt 8, 3, 33), (33, .iload_n 3, 1, 34), (34, .iload_n 2, 1, 35), (35, .if_icmp .le 11, 3, 38), (38, .aload_n 0, 1, 39), (39, .aload_n 0, 1, 40), (40, .getfield 59, 3, 43), (43, .putfield 37, 3, 46), (46, .aload_n 0, 1, 47), (47, .iconst 3, 1, 48), (48, .invokevirtual 85, 3, 51), (51, .ireturn, 1, 52)] := by unfold jDs; decide +kernel
set_option maxRecDepth 100000 in
set_option maxHeartbeats 4000000 in
theorem c_X3_takeNumber {E : jE} {th : Nat} {x1 : Int} {x2 : Int} {M : jMem} {r : Int} {M' : jMem} (h : f_X3_takeNumber th x1 x2 M = some (r, M')) : jMet E yX3_takeNumber cX3_takeNumber 4 (some .boolean) 5 0 0 [q_r E th, q_i x1, q_i x2] M (some (q_i r)) M' := by
  unfold f_X3_takeNumber at h
  refine jMet.of RX3 rfl (by decide +kernel) (Nat.le_of_ble_eq_true rfl) [(0, q_r E th), (1, q_i x1), (2, q_i x2)] rfl (fun X hC hE hr hn => ?_)
  refine jr_aload_n hC (D_X3_takeNumber.g 0 rfl) 0 rfl ?_
  refine jr_getR hC fl_X3_24 rfl (D_X3_takeNumber.g 1 rfl) h (fun r1 h => ?_)
  refine jr_aload_n hC (D_X3_takeNumber.g 2 rfl) 0 rfl ?_
  refine jr_getI hC fl_X3_46 rfl (D_X3_takeNumber.g 3 rfl) h (fun v2 h => ?_)
  refine jr_cVi hC cl_X3_107 ⟨rfl, by decide⟩ (D_X3_takeNumber.g 4 rfl) [q_i v2] h (fun r M' e => c_X9_numberOf e) rfl rfl ⟨by decide, by decide⟩ (Nat.le_of_ble_eq_true rfl) ⟨Nat.le_of_ble_eq_true rfl, Nat.le_of_ble_eq_true rfl⟩ (fun v3 M4 h => ?_)
  refine jr_istore_n hC (D_X3_takeNumber.g 5 rfl) (by decide) rfl ?_
  refine jr_aload_n hC (D_X3_takeNumber.g 6 rfl) 1 rfl ?_
  refine jr_getI hC fl_X3_53 rfl (D_X3_takeNumber.g 7 rfl) h (fun v5 h => ?_)
  refine jr_iconst hC (D_X3_takeNumber.g 8 rfl) ?_
  refine jr_join h (fun j => ∀ (M_46 : jMem), j M_46 = some (r, M') → JW E X 4 0 0 M_46 46 [(0, q_r E th)] []) ?_ ?_
  · intro M_46 h
    refine jr_aload_n hC (D_X3_takeNumber.g 24 rfl) 0 rfl ?_
    refine jr_iconst hC (D_X3_takeNumber.g 25 rfl) ?_
    refine jr_cVi hC cl_X3_85 ⟨rfl, by decide⟩ (D_X3_takeNumber.g 26 rfl) [q_i 3] h (fun r M' e => c_X3_acceptOf e) rfl rfl ⟨by decide, by decide⟩ (Nat.le_of_ble_eq_true rfl) ⟨Nat.le_of_ble_eq_true rfl, Nat.le_of_ble_eq_true rfl⟩ (fun v6 M7 h => ?_)
    exact jr_zret hC (D_X3_takeNumber.g 27 rfl) hr hE h
  intro j_46 hj_46 h
  refine jr_icmp_ne hC (D_X3_takeNumber.g 9 rfl) 46 rfl h (fun h => ?_) (fun h => ?_)
  · refine jr_aload_n hC (D_X3_takeNumber.g 10 rfl) 1 rfl ?_
    refine jr_getI hC fl_X3_37 rfl (D_X3_takeNumber.g 11 rfl) h (fun v8 h => ?_)
    refine jr_iconst hC (D_X3_takeNumber.g 12 rfl) ?_
    refine jr_icmp_ne hC (D_X3_takeNumber.g 13 rfl) 46 rfl h (fun h => ?_) (fun h => ?_)
    · refine jr_iload_n hC (D_X3_takeNumber.g 14 rfl) 0 rfl ?_
      refine jr_iload_n hC (D_X3_takeNumber.g 15 rfl) 2 rfl ?_
      refine jr_join h (fun j => j = some (r, M') → JW E X 4 0 0 M4 38 [(0, q_r E th)] []) ?_ ?_
      · intro  h
        refine jr_aload_n hC (D_X3_takeNumber.g 20 rfl) 0 rfl ?_
        refine jr_aload_n hC (D_X3_takeNumber.g 21 rfl) 0 rfl ?_
        refine jr_getI hC fl_X3_59 rfl (D_X3_takeNumber.g 22 rfl) h (fun v9 h => ?_)
        refine jr_putI hC fl_X3_37 rfl (jnfin rfl) (D_X3_takeNumber.g 23 rfl) h (fun M10 _ h => ?_)
        exact hj_46 M10 h
      intro j_38 hj_38 h
      refine jr_icmp_lt hC (D_X3_takeNumber.g 16 rfl) 38 rfl h (fun h => ?_) (fun h => ?_)
      · refine jr_pick [1] rfl ?_
        exact hj_38  h
      refine jr_iload_n hC (D_X3_takeNumber.g 17 rfl) 0 rfl ?_
      refine jr_iload_n hC (D_X3_takeNumber.g 18 rfl) 3 rfl ?_
      refine jr_icmp_le hC (D_X3_takeNumber.g 19 rfl) 46 rfl h (fun h => ?_) (fun h => ?_)
      · refine jr_pick [1] rfl ?_
        exact hj_46 M4 h
      refine jr_pick [1] rfl ?_
      exact hj_38  h
    refine jr_pick [1] rfl ?_
    exact hj_46 M4 h
  refine jr_pick [1] rfl ?_
  exact hj_46 M4 h
def f_X3_numberBefore (th : Nat) (x1 : Int) (M : jMem) : Option (Int × jMem) :=
(jm_gR 3 1 M th).bind fun r1 =>
(jm_gI 3 3 M th).bind fun v2 =>
jcall 9 M r1 (f_X9_numberOf r1 (v2 - x1) M) fun v3 M4 =>
some (v3, M4)
theorem D_X3_numberBefore : jDs cX3_numberBefore [(0, .aload_n 0, 1, 1), (1, .getfield 24, 3, 4), (4, .aload_n 0, 1, 5), (5, .getfield 46, 3, 8), (8, .iload_n 1, 1, 9), (9, .isub, 1, 10), (10, .invokevirtual 107, 3, 13), (13, .ireturn, 1, 14)] := by unfold jDs; decide +kernel
set_option maxRecDepth 100000 in
set_option maxHeartbeats 4000000 in
theorem c_X3_numberBefore {E : jE} {th : Nat} {x1 : Int} {M : jMem} {r : Int} {M' : jMem} (h : f_X3_numberBefore th x1 M = some (r, M')) : jMet E yX3_numberBefore cX3_numberBefore 2 (some .int) 3 0 0 [q_r E th, q_i x1] M (some (q_i r)) M' := by
  unfold f_X3_numberBefore at h
  refine jMet.of RX3 rfl (by decide +kernel) (Nat.le_of_ble_eq_true rfl) [(0, q_r E th), (1, q_i x1)] rfl (fun X hC hE hr hn => ?_)
  refine jr_aload_n hC (D_X3_numberBefore.g 0 rfl) 0 rfl ?_
  refine jr_getR hC fl_X3_24 rfl (D_X3_numberBefore.g 1 rfl) h (fun r1 h => ?_)
  refine jr_aload_n hC (D_X3_numberBefore.g 2 rfl) 0 rfl ?_
  refine jr_getI hC fl_X3_46 rfl (D_X3_numberBefore.g 3 rfl) h (fun v2 h => ?_)
  refine jr_iload_n hC (D_X3_numberBefore.g 4 rfl) 1 rfl ?_
  refine jr_isub hC (D_X3_numberBefore.g 5 rfl) ?_
  refine jr_cVi hC cl_X3_107 ⟨rfl, by decide⟩ (D_X3_numberBefore.g 6 rfl) [q_i (v2 - x1)] h (fun r M' e => c_X9_numberOf e) rfl rfl ⟨by decide, by decide⟩ (Nat.le_of_ble_eq_true rfl) ⟨Nat.le_of_ble_eq_true rfl, Nat.le_of_ble_eq_true rfl⟩ (fun v3 M4 h => ?_)
  exact jr_iret hC (D_X3_numberBefore.g 7 rfl) hr hE h
def f_X3_takeSquare (th : Nat) (M : jMem) : Option (Int × jMem) :=
jcall 3 M th (f_X3_takeNumber th 2 6 M) fun v1 M2 =>
if jd_wr v1 = 0 then (jm_z 0 M2)
else (jcall 3 M2 th (f_X3_takeNumber th 2 6 M2) fun v3 M4 =>
if jd_wr v3 = 0 then (jm_z 0 M4)
else ((jm_gR 3 2 M4 th).bind fun r5 =>
jcall 3 M4 th (f_X3_numberBefore th 2 M4) fun v6 M7 =>
(jm_pI 8 0 M7 r5 v6).bind fun M8 =>
(jm_gR 3 2 M8 th).bind fun r9 =>
jcall 3 M8 th (f_X3_numberBefore th 1 M8) fun v10 M11 =>
(jm_pI 8 1 M11 r9 v10).bind fun M12 =>
jm_z 1 M12))
theorem D_X3_takeSquare : jDs cX3_takeSquare [(0, .aload_n 0, 1, 1), (1, .iconst 2, 1, 2), (2, .bipush 6, 2, 4), (4, .invokevirtual 110, 3, 7), (7, .ifCond .eq 13, 3, 10), (10, .aload_n 0, 1, 11), (11, .iconst 2, 1, 12), (12, .bipush 6, 2, 14), (14, .invokevirtual 110, 3, 17), (17, .ifCond .ne 5, 3, 20), (20, .iconst 0, 1, 21), (21, .ireturn, 1, 22), (22, .aload_n 0, 1, 23), (23, .getfield 15, 3, 26), (26, .aload_n 0, 1, 27), (27, .iconst 2, 1, 28), (28, .invokevirtual 113, 3, 31), (31, .putfield 116, 3, 34), (34, .aload_n 0, 1, 35), (35, .getfield 15, 3, 38), (38, .aload_n 0, 1, 39), (39, .iconst 1, 1, 40), (40, .invokevirtual 113, 3, 43), (43, .putfield 119, 3, 46), (46, .iconst 1, 1, 47), (47, .ireturn, 1, 48)] := by unfold jDs; decide +kernel
set_option maxRecDepth 100000 in
set_option maxHeartbeats 4000000 in
theorem c_X3_takeSquare {E : jE} {th : Nat} {M : jMem} {r : Int} {M' : jMem} (h : f_X3_takeSquare th M = some (r, M')) : jMet E yX3_takeSquare cX3_takeSquare 1 (some .boolean) 6 0 0 [q_r E th] M (some (q_i r)) M' := by
  unfold f_X3_takeSquare at h
  refine jMet.of RX3 rfl (by decide +kernel) (Nat.le_of_ble_eq_true rfl) [(0, q_r E th)] rfl (fun X hC hE hr hn => ?_)
  refine jr_aload_n hC (D_X3_takeSquare.g 0 rfl) 0 rfl ?_
  refine jr_iconst hC (D_X3_takeSquare.g 1 rfl) ?_
  refine jr_bipush hC (D_X3_takeSquare.g 2 rfl) bp_6 ?_
  refine jr_cVi hC cl_X3_110 ⟨rfl, by decide⟩ (D_X3_takeSquare.g 3 rfl) [q_i 2, q_i 6] h (fun r M' e => c_X3_takeNumber e) rfl rfl ⟨by decide, by decide⟩ (Nat.le_of_ble_eq_true rfl) ⟨Nat.le_of_ble_eq_true rfl, Nat.le_of_ble_eq_true rfl⟩ (fun v1 M2 h => ?_)
  refine jr_if_eq hC (D_X3_takeSquare.g 4 rfl) 20 rfl h (fun h => ?_) (fun h => ?_)
  · refine jr_iconst hC (D_X3_takeSquare.g 10 rfl) ?_
    exact jr_zret hC (D_X3_takeSquare.g 11 rfl) hr hE h
  refine jr_aload_n hC (D_X3_takeSquare.g 5 rfl) 0 rfl ?_
  refine jr_iconst hC (D_X3_takeSquare.g 6 rfl) ?_
  refine jr_bipush hC (D_X3_takeSquare.g 7 rfl) bp_6 ?_
  refine jr_cVi hC cl_X3_110 ⟨rfl, by decide⟩ (D_X3_takeSquare.g 8 rfl) [q_i 2, q_i 6] h (fun r M' e => c_X3_takeNumber e) rfl rfl ⟨by decide, by decide⟩ (Nat.le_of_ble_eq_true rfl) ⟨Nat.le_of_ble_eq_true rfl, Nat.le_of_ble_eq_true rfl⟩ (fun v3 M4 h => ?_)
  refine jr_if_ne hC (D_X3_takeSquare.g 9 rfl) 22 rfl h (fun h => ?_) (fun h => ?_)
  · refine jr_iconst hC (D_X3_takeSquare.g 10 rfl) ?_
    exact jr_zret hC (D_X3_takeSquare.g 11 rfl) hr hE h
  refine jr_aload_n hC (D_X3_takeSquare.g 12 rfl) 0 rfl ?_
  refine jr_getR hC fl_X3_15 rfl (D_X3_takeSquare.g 13 rfl) h (fun r5 h => ?_)
  refine jr_aload_n hC (D_X3_takeSquare.g 14 rfl) 0 rfl ?_
  refine jr_iconst hC (D_X3_takeSquare.g 15 rfl) ?_
  refine jr_cVi hC cl_X3_113 ⟨rfl, by decide⟩ (D_X3_takeSquare.g 16 rfl) [q_i 2] h (fun r M' e => c_X3_numberBefore e) rfl rfl ⟨by decide, by decide⟩ (Nat.le_of_ble_eq_true rfl) ⟨Nat.le_of_ble_eq_true rfl, Nat.le_of_ble_eq_true rfl⟩ (fun v6 M7 h => ?_)
  refine jr_putI hC fl_X3_116 rfl (jnfin rfl) (D_X3_takeSquare.g 17 rfl) h (fun M8 _ h => ?_)
  refine jr_aload_n hC (D_X3_takeSquare.g 18 rfl) 0 rfl ?_
  refine jr_getR hC fl_X3_15 rfl (D_X3_takeSquare.g 19 rfl) h (fun r9 h => ?_)
  refine jr_aload_n hC (D_X3_takeSquare.g 20 rfl) 0 rfl ?_
  refine jr_iconst hC (D_X3_takeSquare.g 21 rfl) ?_
  refine jr_cVi hC cl_X3_113 ⟨rfl, by decide⟩ (D_X3_takeSquare.g 22 rfl) [q_i 1] h (fun r M' e => c_X3_numberBefore e) rfl rfl ⟨by decide, by decide⟩ (Nat.le_of_ble_eq_true rfl) ⟨Nat.le_of_ble_eq_true rfl, Nat.le_of_ble_eq_true rfl⟩ (fun v10 M11 h => ?_)
  refine jr_putI hC fl_X3_119 rfl (jnfin rfl) (D_X3_takeSquare.g 23 rfl) h (fun M12 _ h => ?_)
  refine jr_iconst hC (D_X3_takeSquare.g 24 rfl) ?_
  exact jr_zret hC (D_X3_takeSquare.g 25 rfl) hr hE h
def f_X3_takeHole (th : Nat) (M : jMem) : Option (Int × jMem) :=
jcall 3 M th (f_X3_takeNumber th 0 5 M) fun v1 M2 =>
if jd_wr v1 = 0 then (jm_z 0 M2)
else (jcall 3 M2 th (f_X3_takeNumber th 0 5 M2) fun v3 M4 =>
if jd_wr v3 = 0 then (jm_z 0 M4)
else ((jm_gR 3 2 M4 th).bind fun r5 =>
jcall 3 M4 th (f_X3_numberBefore th 2 M4) fun v6 M7 =>
jcall 3 M7 th (f_X3_numberBefore th 1 M7) fun v8 M9 =>
jcall 8 M9 r5 (f_X8_addHole r5 v6 v8 M9) fun _ M11 =>
jm_z 1 M11))
theorem D_X3_takeHole : jDs cX3_takeHole [(0, .aload_n 0, 1, 1), (1, .iconst 0, 1, 2), (2, .iconst 5, 1, 3), (3, .invokevirtual 110, 3, 6), (6, .ifCond .eq 12, 3, 9), (9, .aload_n 0, 1, 10), (10, .iconst 0, 1, 11), (11, .iconst 5, 1, 12), (12, .invokevirtual 110, 3, 15), (15, .ifCond .ne 5, 3, 18), (18, .iconst 0, 1, 19), (19, .ireturn, 1, 20), (20, .aload_n 0, 1, 21), (21, .getfield 15, 3, 24), (24, .aload_n 0, 1, 25), (25, .iconst 2, 1, 26), (26, .invokevirtual 113, 3, 29), (29, .aload_n 0, 1, 30), (30, .iconst 1, 1, 31), (31, .invokevirtual 113, 3, 34), (34, .invokevirtual 122, 3, 37), (37, .iconst 1, 1, 38), (38, .ireturn, 1, 39)] := by unfold jDs; decide +kernel
set_option maxRecDepth 100000 in
set_option maxHeartbeats 4000000 in
theorem c_X3_takeHole {E : jE} {th : Nat} {M : jMem} {r : Int} {M' : jMem} (h : f_X3_takeHole th M = some (r, M')) : jMet E yX3_takeHole cX3_takeHole 1 (some .boolean) 6 0 0 [q_r E th] M (some (q_i r)) M' := by
  unfold f_X3_takeHole at h
  refine jMet.of RX3 rfl (by decide +kernel) (Nat.le_of_ble_eq_true rfl) [(0, q_r E th)] rfl (fun X hC hE hr hn => ?_)
  refine jr_aload_n hC (D_X3_takeHole.g 0 rfl) 0 rfl ?_
  refine jr_iconst hC (D_X3_takeHole.g 1 rfl) ?_
  refine jr_iconst hC (D_X3_takeHole.g 2 rfl) ?_
  refine jr_cVi hC cl_X3_110 ⟨rfl, by decide⟩ (D_X3_takeHole.g 3 rfl) [q_i 0, q_i 5] h (fun r M' e => c_X3_takeNumber e) rfl rfl ⟨by decide, by decide⟩ (Nat.le_of_ble_eq_true rfl) ⟨Nat.le_of_ble_eq_true rfl, Nat.le_of_ble_eq_true rfl⟩ (fun v1 M2 h => ?_)
  refine jr_if_eq hC (D_X3_takeHole.g 4 rfl) 18 rfl h (fun h => ?_) (fun h => ?_)
  · refine jr_iconst hC (D_X3_takeHole.g 10 rfl) ?_
    exact jr_zret hC (D_X3_takeHole.g 11 rfl) hr hE h
  refine jr_aload_n hC (D_X3_takeHole.g 5 rfl) 0 rfl ?_
  refine jr_iconst hC (D_X3_takeHole.g 6 rfl) ?_
  refine jr_iconst hC (D_X3_takeHole.g 7 rfl) ?_
  refine jr_cVi hC cl_X3_110 ⟨rfl, by decide⟩ (D_X3_takeHole.g 8 rfl) [q_i 0, q_i 5] h (fun r M' e => c_X3_takeNumber e) rfl rfl ⟨by decide, by decide⟩ (Nat.le_of_ble_eq_true rfl) ⟨Nat.le_of_ble_eq_true rfl, Nat.le_of_ble_eq_true rfl⟩ (fun v3 M4 h => ?_)
  refine jr_if_ne hC (D_X3_takeHole.g 9 rfl) 20 rfl h (fun h => ?_) (fun h => ?_)
  · refine jr_iconst hC (D_X3_takeHole.g 10 rfl) ?_
    exact jr_zret hC (D_X3_takeHole.g 11 rfl) hr hE h
  refine jr_aload_n hC (D_X3_takeHole.g 12 rfl) 0 rfl ?_
  refine jr_getR hC fl_X3_15 rfl (D_X3_takeHole.g 13 rfl) h (fun r5 h => ?_)
  refine jr_aload_n hC (D_X3_takeHole.g 14 rfl) 0 rfl ?_
  refine jr_iconst hC (D_X3_takeHole.g 15 rfl) ?_
  refine jr_cVi hC cl_X3_113 ⟨rfl, by decide⟩ (D_X3_takeHole.g 16 rfl) [q_i 2] h (fun r M' e => c_X3_numberBefore e) rfl rfl ⟨by decide, by decide⟩ (Nat.le_of_ble_eq_true rfl) ⟨Nat.le_of_ble_eq_true rfl, Nat.le_of_ble_eq_true rfl⟩ (fun v6 M7 h => ?_)
  refine jr_aload_n hC (D_X3_takeHole.g 17 rfl) 0 rfl ?_
  refine jr_iconst hC (D_X3_takeHole.g 18 rfl) ?_
  refine jr_cVi hC cl_X3_113 ⟨rfl, by decide⟩ (D_X3_takeHole.g 19 rfl) [q_i 1] h (fun r M' e => c_X3_numberBefore e) rfl rfl ⟨by decide, by decide⟩ (Nat.le_of_ble_eq_true rfl) ⟨Nat.le_of_ble_eq_true rfl, Nat.le_of_ble_eq_true rfl⟩ (fun v8 M9 h => ?_)
  refine jr_cVv hC cl_X3_122 ⟨rfl, by decide⟩ (D_X3_takeHole.g 20 rfl) [q_i v6, q_i v8] h (fun r M' e => c_X8_addHole e) rfl rfl ⟨by decide, by decide⟩ (Nat.le_of_ble_eq_true rfl) ⟨Nat.le_of_ble_eq_true rfl, Nat.le_of_ble_eq_true rfl⟩ (fun _ M11 h => ?_)
  refine jr_iconst hC (D_X3_takeHole.g 21 rfl) ?_
  exact jr_zret hC (D_X3_takeHole.g 22 rfl) hr hE h
def f_X3_takeStone (th : Nat) (M : jMem) : Option (Int × jMem) :=
jcall 3 M th (f_X3_takeNumber th 0 5 M) fun v1 M2 =>
if jd_wr v1 = 0 then (jm_z 0 M2)
else (jcall 3 M2 th (f_X3_takeNumber th 0 5 M2) fun v3 M4 =>
if jd_wr v3 = 0 then (jm_z 0 M4)
else (jcall 3 M4 th (f_X3_takeNumber th 0 1 M4) fun v5 M6 =>
if jd_wr v5 = 0 then (jm_z 0 M6)
else ((jm_gR 3 2 M6 th).bind fun r7 =>
jcall 3 M6 th (f_X3_numberBefore th 3 M6) fun v8 M9 =>
jcall 3 M9 th (f_X3_numberBefore th 2 M9) fun v10 M11 =>
jcall 3 M11 th (f_X3_numberBefore th 1 M11) fun v12 M13 =>
jcall 8 M13 r7 (f_X8_addStone r7 v8 v10 v12 M13) fun _ M15 =>
jm_z 1 M15)))
theorem D_X3_takeStone : jDs cX3_takeStone [(0, .aload_n 0, 1, 1), (1, .iconst 0, 1, 2), (2, .iconst 5, 1, 3), (3, .invokevirtual 110, 3, 6), (6, .ifCond .eq 21, 3, 9), (9, .aload_n 0, 1, 10), (10, .iconst 0, 1, 11), (11, .iconst 5, 1, 12), (12, .invokevirtual 110, 3, 15), (15, .ifCond .eq 12, 3, 18), (18, .aload_n 0, 1, 19), (19, .iconst 0, 1, 20), (20, .iconst 1, 1, 21), (21, .invokevirtual 110, 3, 24), (24, .ifCond .ne 5, 3, 27), (27, .iconst 0, 1, 28), (28, .ireturn, 1, 29), (29, .aload_n 0, 1, 30), (30, .getfield 15, 3, 33), (33, .aload_n 0, 1, 34), (34, .iconst 3, 1, 35), (35, .invokevirtual 113, 3, 38), (38, .aload_n 0, 1, 39), (39, .iconst 2, 1, 40), (40, .invokevirtual 113, 3, 43), (43, .aload_n 0, 1, 44), (44, .iconst 1, 1, 45), (45, .invokevirtual 113, 3, 48), (48, .invokevirtual 126, 3, 51), (51, .iconst 1, 1, 52), (52, .ireturn, 1, 53)] := by unfold jDs; decide +kernel
set_option maxRecDepth 100000 in
set_option maxHeartbeats 4000000 in
theorem c_X3_takeStone {E : jE} {th : Nat} {M : jMem} {r : Int} {M' : jMem} (h : f_X3_takeStone th M = some (r, M')) : jMet E yX3_takeStone cX3_takeStone 1 (some .boolean) 6 0 0 [q_r E th] M (some (q_i r)) M' := by
  unfold f_X3_takeStone at h
  refine jMet.of RX3 rfl (by decide +kernel) (Nat.le_of_ble_eq_true rfl) [(0, q_r E th)] rfl (fun X hC hE hr hn => ?_)
  refine jr_aload_n hC (D_X3_takeStone.g 0 rfl) 0 rfl ?_
  refine jr_iconst hC (D_X3_takeStone.g 1 rfl) ?_
  refine jr_iconst hC (D_X3_takeStone.g 2 rfl) ?_
  refine jr_cVi hC cl_X3_110 ⟨rfl, by decide⟩ (D_X3_takeStone.g 3 rfl) [q_i 0, q_i 5] h (fun r M' e => c_X3_takeNumber e) rfl rfl ⟨by decide, by decide⟩ (Nat.le_of_ble_eq_true rfl) ⟨Nat.le_of_ble_eq_true rfl, Nat.le_of_ble_eq_true rfl⟩ (fun v1 M2 h => ?_)
  refine jr_if_eq hC (D_X3_takeStone.g 4 rfl) 27 rfl h (fun h => ?_) (fun h => ?_)
  · refine jr_iconst hC (D_X3_takeStone.g 15 rfl) ?_
    exact jr_zret hC (D_X3_takeStone.g 16 rfl) hr hE h
  refine jr_aload_n hC (D_X3_takeStone.g 5 rfl) 0 rfl ?_
  refine jr_iconst hC (D_X3_takeStone.g 6 rfl) ?_
  refine jr_iconst hC (D_X3_takeStone.g 7 rfl) ?_
  refine jr_cVi hC cl_X3_110 ⟨rfl, by decide⟩ (D_X3_takeStone.g 8 rfl) [q_i 0, q_i 5] h (fun r M' e => c_X3_takeNumber e) rfl rfl ⟨by decide, by decide⟩ (Nat.le_of_ble_eq_true rfl) ⟨Nat.le_of_ble_eq_true rfl, Nat.le_of_ble_eq_true rfl⟩ (fun v3 M4 h => ?_)
  refine jr_if_eq hC (D_X3_takeStone.g 9 rfl) 27 rfl h (fun h => ?_) (fun h => ?_)
  · refine jr_iconst hC (D_X3_takeStone.g 15 rfl) ?_
    exact jr_zret hC (D_X3_takeStone.g 16 rfl) hr hE h
  refine jr_aload_n hC (D_X3_takeStone.g 10 rfl) 0 rfl ?_
  refine jr_iconst hC (D_X3_takeStone.g 11 rfl) ?_
  refine jr_iconst hC (D_X3_takeStone.g 12 rfl) ?_
  refine jr_cVi hC cl_X3_110 ⟨rfl, by decide⟩ (D_X3_takeStone.g 13 rfl) [q_i 0, q_i 1] h (fun r M' e => c_X3_takeNumber e) rfl rfl ⟨by decide, by decide⟩ (Nat.le_of_ble_eq_true rfl) ⟨Nat.le_of_ble_eq_true rfl, Nat.le_of_ble_eq_true rfl⟩ (fun v5 M6 h => ?_)
  refine jr_if_ne hC (D_X3_takeStone.g 14 rfl) 29 rfl h (fun h => ?_) (fun h => ?_)
  · refine jr_iconst hC (D_X3_takeStone.g 15 rfl) ?_
    exact jr_zret hC (D_X3_takeStone.g 16 rfl) hr hE h
  refine jr_aload_n hC (D_X3_takeStone.g 17 rfl) 0 rfl ?_
  refine jr_getR hC fl_X3_15 rfl (D_X3_takeStone.g 18 rfl) h (fun r7 h => ?_)
  refine jr_aload_n hC (D_X3_takeStone.g 19 rfl) 0 rfl ?_
  refine jr_iconst hC (D_X3_takeStone.g 20 rfl) ?_
  refine jr_cVi hC cl_X3_113 ⟨rfl, by decide⟩ (D_X3_takeStone.g 21 rfl) [q_i 3] h (fun r M' e => c_X3_numberBefore e) rfl rfl ⟨by decide, by decide⟩ (Nat.le_of_ble_eq_true rfl) ⟨Nat.le_of_ble_eq_true rfl, Nat.le_of_ble_eq_true rfl⟩ (fun v8 M9 h => ?_)
  refine jr_aload_n hC (D_X3_takeStone.g 22 rfl) 0 rfl ?_
  refine jr_iconst hC (D_X3_takeStone.g 23 rfl) ?_
  refine jr_cVi hC cl_X3_113 ⟨rfl, by decide⟩ (D_X3_takeStone.g 24 rfl) [q_i 2] h (fun r M' e => c_X3_numberBefore e) rfl rfl ⟨by decide, by decide⟩ (Nat.le_of_ble_eq_true rfl) ⟨Nat.le_of_ble_eq_true rfl, Nat.le_of_ble_eq_true rfl⟩ (fun v10 M11 h => ?_)
  refine jr_aload_n hC (D_X3_takeStone.g 25 rfl) 0 rfl ?_
  refine jr_iconst hC (D_X3_takeStone.g 26 rfl) ?_
  refine jr_cVi hC cl_X3_113 ⟨rfl, by decide⟩ (D_X3_takeStone.g 27 rfl) [q_i 1] h (fun r M' e => c_X3_numberBefore e) rfl rfl ⟨by decide, by decide⟩ (Nat.le_of_ble_eq_true rfl) ⟨Nat.le_of_ble_eq_true rfl, Nat.le_of_ble_eq_true rfl⟩ (fun v12 M13 h => ?_)
  refine jr_cVv hC cl_X3_126 ⟨rfl, by decide⟩ (D_X3_takeStone.g 28 rfl) [q_i v8, q_i v10, q_i v12] h (fun r M' e => c_X8_addStone e) rfl rfl ⟨by decide, by decide⟩ (Nat.le_of_ble_eq_true rfl) ⟨Nat.le_of_ble_eq_true rfl, Nat.le_of_ble_eq_true rfl⟩ (fun _ M15 h => ?_)
  refine jr_iconst hC (D_X3_takeStone.g 29 rfl) ?_
  exact jr_zret hC (D_X3_takeStone.g 30 rfl) hr hE h
def f_X3_takeUnit (rs : Nat → Int → jMem → Option (Int × jMem)) (th : Nat) (x1 : Int) (M : jMem) : Option (Int × jMem) :=
(jm_gI 3 4 M th).bind fun v1 =>
if jd_wr v1 = jd_wr 3 then ((jm_gR 3 2 M th).bind fun r2 =>
(jm_gR 8 12 M r2).bind fun r3 =>
(jm_gR 3 1 M th).bind fun r4 =>
(jm_gI 3 3 M th).bind fun v5 =>
jcall 9 M r4 (f_X9_numberOf r4 v5 M) fun v6 M7 =>
jcall 2 M7 r3 (f_X2_add r3 0 v6 M7) fun v8 M9 =>
jcall 3 M9 th (f_X3_accept th 1 M9) fun v10 M11 =>
jm_z v10 M11)
else ((jm_gI 3 4 M th).bind fun v12 =>
jjq ((jm_gI 3 4 M th).bind fun v13 =>
if jd_wr v13 = jd_wr 17 then (jjq (fun (z0_101 : Int) =>
jcall 3 M th (f_X3_accept th z0_101 M) fun v14 M15 =>
jjq (fun (M_130 : jMem) =>
jm_z 0 M_130) fun j_130 =>
if jd_wr v14 = 0 then (j_130 M15)
else (jcall 3 M15 th (rs th (x1 + 1) M15) fun v16 M17 =>
if jd_wr v16 = 0 then (j_130 M17)
else (jcall 3 M17 th (f_X3_acceptOf th 18 M17) fun v18 M19 =>
if jd_wr v18 = 0 then (j_130 M19)
else (jm_z 1 M19)))) fun j_101 =>
if jd_wr x1 < jd_wr 6 then (j_101 1)
else (j_101 0))
else ((jm_gI 3 5 M th).bind fun v20 =>
jcall 3 M th (f_X3_refuse th 1 v20 M) fun v21 M22 =>
jm_z v21 M22)) fun j_80 =>
if jd_wr v12 < jd_wr 30 then (j_80 )
else ((jm_gI 3 4 M th).bind fun v23 =>
if jd_wr v23 ≤ jd_wr 38 then ((jm_gR 3 2 M th).bind fun r24 =>
(jm_gR 8 12 M r24).bind fun r25 =>
(jm_gI 3 4 M th).bind fun v26 =>
jcall 2 M r25 (f_X2_add r25 1 (v26 - 30) M) fun v27 M28 =>
jcall 3 M28 th (f_X3_accept th 1 M28) fun v29 M30 =>
jm_z v29 M30)
else (j_80 )))
theorem D_X3_takeUnit : jDs cX3_takeUnit [(0, .aload_n 0, 1, 1), (1, .getfield 53, 3, 4), (4, .iconst 3, 1, 5), (5, .if_icmp .ne 32, 3, 8), (8, .aload_n 0, 1, 9), (9, .getfield 15, 3, 12), (12, .getfield 133, 3, 15), (15, .iconst 0, 1, 16), (16, .aload_n 0, 1, 17), (17, .getfield 24, 3, 20), (20, .aload_n 0, 1, 21), (21, .getfield 46, 3, 24), (24, .invokevirtual 107, 3, 27), (27, .invokevirtual 146, 3, 30), (30, .pop, 1, 31), (31, .aload_n 0, 1, 32), (32, .iconst 1, 1, 33), (33, .invokevirtual 78, 3, 36), (36, .ireturn, 1, 37), (37, .aload_n 0, 1, 38), (38, .getfield 53, 3, 41), (41, .bipush 30, 2, 43), (43, .if_icmp .lt 37, 3, 46), (46, .aload_n 0, 1, 47), (47, .getfield 53, 3, 50), (50, .bipush 38, 2, 52), (52, .if_icmp .gt 28, 3, 55), (55, .aload_n 0, 1, 56), (56, .getfield 15, 3, 59), (59, .getfield 133, 3, 62), (62, .iconst 1, 1, 63), (63, .aload_n 0, 1, 64), (64, .getfield 53, 3, 67), (67, .bipush 30, 2, 69), (69, .isub, 1, 70), (70, .invokevirtual 146, 3, 73), (73, .pop, 1, 74), (74, .aload_n 0, 1, 75), (75, .iconst 1, 1, 76), (76, .invokevirtual 78, 3, 79), (79, .ireturn, 1, 80), (80, .aload_n 0, 1, 81), (81, .getfield 53, 3, 84), (84, .bipush 17, 2, 86), (86, .if_icmp .ne 46, 3, 89), (89, .aload_n 0, 1, 90), (90, .iload_n 1, 1, 91), (91, .bipush 6, 2, 93), (93, .if_icmp .ge 7, 3, 96), (96, .iconst 1, 1, 97), (97, .goto 4, 3, 100), (100, .iconst 0, 1, 101), (101, .invokevirtual 78, 3, 104), (104, .ifCond .eq 26, 3, 107), (107, .aload_n 0, 1, 108), (108, .iload_n 1, 1, 109), (109, .iconst 1, 1, 110), (110, .iadd, 1, 111), (111, .invokevirtual 143, 3, 114), (114, .ifCond .eq 16, 3, 117), (117, .aload_n 0, 1, 118), (118, .bipush 18, 2, 120), (120, .invokevirtual 85, 3, 123), (123, .ifCond .eq 7, 3, 126), (126, .iconst 1, 1, 127), (127, .goto 4, 3, 130), (130, .iconst 0, 1, 131), (131, .ireturn, 1, 132), (132, .aload_n 0, 1, 133), (133, .iconst 1, 1, 134), (134, .aload_n 0, 1, 135), (135, .getfield 59, 3, 138), (138, .invokevirtual 66, 3, 141), (141, .ireturn, 1, 142)] := by unfold jDs; decide +kernel
set_option maxRecDepth 100000 in
set_option maxHeartbeats 4000000 in
theorem c_X3_takeUnit {E : jE} {rs : Nat → Int → jMem → Option (Int × jMem)} {dd : Nat} (hrs : ∀ {th : Nat} {x1 : Int} {M : jMem} {r : Int} {M' : jMem}, rs th x1 M = some (r, M') → jMet E yX3_takeSum cX3_takeSum 5 (some .boolean) dd 0 0 [q_r E th, q_i x1] M (some (q_i r)) M') {th : Nat} {x1 : Int} {M : jMem} {r : Int} {M' : jMem} (h : f_X3_takeUnit rs th x1 M = some (r, M')) : jMet E yX3_takeUnit cX3_takeUnit 2 (some .boolean) (dd + 6) 0 0 [q_r E th, q_i x1] M (some (q_i r)) M' := by
  unfold f_X3_takeUnit at h
  refine jMet.of RX3 rfl (by decide +kernel) (Nat.le_of_ble_eq_true rfl) [(0, q_r E th), (1, q_i x1)] rfl (fun X hC hE hr hn => ?_)
  refine jr_aload_n hC (D_X3_takeUnit.g 0 rfl) 0 rfl ?_
  refine jr_getI hC fl_X3_53 rfl (D_X3_takeUnit.g 1 rfl) h (fun v1 h => ?_)
  refine jr_iconst hC (D_X3_takeUnit.g 2 rfl) ?_
  refine jr_icmp_ne hC (D_X3_takeUnit.g 3 rfl) 37 rfl h (fun h => ?_) (fun h => ?_)
  · refine jr_aload_n hC (D_X3_takeUnit.g 4 rfl) 0 rfl ?_
    refine jr_getR hC fl_X3_15 rfl (D_X3_takeUnit.g 5 rfl) h (fun r2 h => ?_)
    refine jr_getR hC fl_X3_133 rfl (D_X3_takeUnit.g 6 rfl) h (fun r3 h => ?_)
    refine jr_iconst hC (D_X3_takeUnit.g 7 rfl) ?_
    refine jr_aload_n hC (D_X3_takeUnit.g 8 rfl) 0 rfl ?_
    refine jr_getR hC fl_X3_24 rfl (D_X3_takeUnit.g 9 rfl) h (fun r4 h => ?_)
    refine jr_aload_n hC (D_X3_takeUnit.g 10 rfl) 0 rfl ?_
    refine jr_getI hC fl_X3_46 rfl (D_X3_takeUnit.g 11 rfl) h (fun v5 h => ?_)
    refine jr_cVi hC cl_X3_107 ⟨rfl, by decide⟩ (D_X3_takeUnit.g 12 rfl) [q_i v5] h (fun r M' e => c_X9_numberOf e) rfl rfl ⟨by omega, by decide⟩ (Nat.le_of_ble_eq_true rfl) ⟨Nat.le_of_ble_eq_true rfl, Nat.le_of_ble_eq_true rfl⟩ (fun v6 M7 h => ?_)
    refine jr_cVi hC cl_X3_146 ⟨rfl, by decide⟩ (D_X3_takeUnit.g 13 rfl) [q_i 0, q_i v6] h (fun r M' e => c_X2_add e) rfl rfl ⟨by omega, by decide⟩ (Nat.le_of_ble_eq_true rfl) ⟨Nat.le_of_ble_eq_true rfl, Nat.le_of_ble_eq_true rfl⟩ (fun v8 M9 h => ?_)
    refine jr_pop hC (D_X3_takeUnit.g 14 rfl) rfl ?_
    refine jr_aload_n hC (D_X3_takeUnit.g 15 rfl) 0 rfl ?_
    refine jr_iconst hC (D_X3_takeUnit.g 16 rfl) ?_
    refine jr_cVi hC cl_X3_78 ⟨rfl, by decide⟩ (D_X3_takeUnit.g 17 rfl) [q_i 1] h (fun r M' e => c_X3_accept e) rfl rfl ⟨by omega, by decide⟩ (Nat.le_of_ble_eq_true rfl) ⟨Nat.le_of_ble_eq_true rfl, Nat.le_of_ble_eq_true rfl⟩ (fun v10 M11 h => ?_)
    exact jr_zret hC (D_X3_takeUnit.g 18 rfl) hr hE h
  refine jr_aload_n hC (D_X3_takeUnit.g 19 rfl) 0 rfl ?_
  refine jr_getI hC fl_X3_53 rfl (D_X3_takeUnit.g 20 rfl) h (fun v12 h => ?_)
  refine jr_bipush hC (D_X3_takeUnit.g 21 rfl) bp_30 ?_
  refine jr_join h (fun j => j = some (r, M') → JW E X 2 0 0 M 80 [(0, q_r E th), (1, q_i x1)] []) ?_ ?_
  · intro  h
    refine jr_aload_n hC (D_X3_takeUnit.g 41 rfl) 0 rfl ?_
    refine jr_getI hC fl_X3_53 rfl (D_X3_takeUnit.g 42 rfl) h (fun v13 h => ?_)
    refine jr_bipush hC (D_X3_takeUnit.g 43 rfl) bp_17 ?_
    refine jr_icmp_ne hC (D_X3_takeUnit.g 44 rfl) 132 rfl h (fun h => ?_) (fun h => ?_)
    · refine jr_aload_n hC (D_X3_takeUnit.g 45 rfl) 0 rfl ?_
      refine jr_iload_n hC (D_X3_takeUnit.g 46 rfl) 1 rfl ?_
      refine jr_bipush hC (D_X3_takeUnit.g 47 rfl) bp_6 ?_
      refine jr_join h (fun j => ∀ (z0_101 : Int), j z0_101 = some (r, M') → JW E X 2 0 0 M 101 [(0, q_r E th), (1, q_i x1)] [q_i z0_101, q_r E th]) ?_ ?_
      · intro z0_101 h
        refine jr_cVi hC cl_X3_78 ⟨rfl, by decide⟩ (D_X3_takeUnit.g 52 rfl) [q_i z0_101] h (fun r M' e => c_X3_accept e) rfl rfl ⟨by omega, by decide⟩ (Nat.le_of_ble_eq_true rfl) ⟨Nat.le_of_ble_eq_true rfl, Nat.le_of_ble_eq_true rfl⟩ (fun v14 M15 h => ?_)
        refine jr_join h (fun j => ∀ (M_130 : jMem), j M_130 = some (r, M') → JW E X 2 0 0 M_130 130 [] []) ?_ ?_
        · intro M_130 h
          refine jr_iconst hC (D_X3_takeUnit.g 66 rfl) ?_
          exact jr_zret hC (D_X3_takeUnit.g 67 rfl) hr hE h
        intro j_130 hj_130 h
        refine jr_if_eq hC (D_X3_takeUnit.g 53 rfl) 130 rfl h (fun h => ?_) (fun h => ?_)
        · refine jr_pick [] rfl ?_
          exact hj_130 M15 h
        refine jr_aload_n hC (D_X3_takeUnit.g 54 rfl) 0 rfl ?_
        refine jr_iload_n hC (D_X3_takeUnit.g 55 rfl) 1 rfl ?_
        refine jr_iconst hC (D_X3_takeUnit.g 56 rfl) ?_
        refine jr_iadd hC (D_X3_takeUnit.g 57 rfl) ?_
        refine jr_cVi hC cl_X3_143 ⟨rfl, by decide⟩ (D_X3_takeUnit.g 58 rfl) [q_i (x1 + 1)] h (fun r M' e => hrs e) rfl rfl ⟨by omega, by decide⟩ (Nat.le_of_ble_eq_true rfl) ⟨Nat.le_of_ble_eq_true rfl, Nat.le_of_ble_eq_true rfl⟩ (fun v16 M17 h => ?_)
        refine jr_if_eq hC (D_X3_takeUnit.g 59 rfl) 130 rfl h (fun h => ?_) (fun h => ?_)
        · refine jr_pick [] rfl ?_
          exact hj_130 M17 h
        refine jr_aload_n hC (D_X3_takeUnit.g 60 rfl) 0 rfl ?_
        refine jr_bipush hC (D_X3_takeUnit.g 61 rfl) bp_18 ?_
        refine jr_cVi hC cl_X3_85 ⟨rfl, by decide⟩ (D_X3_takeUnit.g 62 rfl) [q_i 18] h (fun r M' e => c_X3_acceptOf e) rfl rfl ⟨by omega, by decide⟩ (Nat.le_of_ble_eq_true rfl) ⟨Nat.le_of_ble_eq_true rfl, Nat.le_of_ble_eq_true rfl⟩ (fun v18 M19 h => ?_)
        refine jr_if_eq hC (D_X3_takeUnit.g 63 rfl) 130 rfl h (fun h => ?_) (fun h => ?_)
        · refine jr_pick [] rfl ?_
          exact hj_130 M19 h
        refine jr_iconst hC (D_X3_takeUnit.g 64 rfl) ?_
        refine jr_goto hC (D_X3_takeUnit.g 65 rfl) 131 rfl ?_
        exact jr_zret hC (D_X3_takeUnit.g 67 rfl) hr hE h
      intro j_101 hj_101 h
      refine jr_icmp_ge hC (D_X3_takeUnit.g 48 rfl) 100 rfl h (fun h => ?_) (fun h => ?_)
      · refine jr_iconst hC (D_X3_takeUnit.g 49 rfl) ?_
        refine jr_goto hC (D_X3_takeUnit.g 50 rfl) 101 rfl ?_
        exact hj_101 1 h
      refine jr_iconst hC (D_X3_takeUnit.g 51 rfl) ?_
      exact hj_101 0 h
    refine jr_aload_n hC (D_X3_takeUnit.g 68 rfl) 0 rfl ?_
    refine jr_iconst hC (D_X3_takeUnit.g 69 rfl) ?_
    refine jr_aload_n hC (D_X3_takeUnit.g 70 rfl) 0 rfl ?_
    refine jr_getI hC fl_X3_59 rfl (D_X3_takeUnit.g 71 rfl) h (fun v20 h => ?_)
    refine jr_cVi hC cl_X3_66 ⟨rfl, by decide⟩ (D_X3_takeUnit.g 72 rfl) [q_i 1, q_i v20] h (fun r M' e => c_X3_refuse e) rfl rfl ⟨by omega, by decide⟩ (Nat.le_of_ble_eq_true rfl) ⟨Nat.le_of_ble_eq_true rfl, Nat.le_of_ble_eq_true rfl⟩ (fun v21 M22 h => ?_)
    exact jr_zret hC (D_X3_takeUnit.g 73 rfl) hr hE h
  intro j_80 hj_80 h
  refine jr_icmp_lt hC (D_X3_takeUnit.g 22 rfl) 80 rfl h (fun h => ?_) (fun h => ?_)
  · exact hj_80  h
  refine jr_aload_n hC (D_X3_takeUnit.g 23 rfl) 0 rfl ?_
  refine jr_getI hC fl_X3_53 rfl (D_X3_takeUnit.g 24 rfl) h (fun v23 h => ?_)
  refine jr_bipush hC (D_X3_takeUnit.g 25 rfl) bp_38 ?_
  refine jr_icmp_gt hC (D_X3_takeUnit.g 26 rfl) 80 rfl h (fun h => ?_) (fun h => ?_)
  · refine jr_aload_n hC (D_X3_takeUnit.g 27 rfl) 0 rfl ?_
    refine jr_getR hC fl_X3_15 rfl (D_X3_takeUnit.g 28 rfl) h (fun r24 h => ?_)
    refine jr_getR hC fl_X3_133 rfl (D_X3_takeUnit.g 29 rfl) h (fun r25 h => ?_)
    refine jr_iconst hC (D_X3_takeUnit.g 30 rfl) ?_
    refine jr_aload_n hC (D_X3_takeUnit.g 31 rfl) 0 rfl ?_
    refine jr_getI hC fl_X3_53 rfl (D_X3_takeUnit.g 32 rfl) h (fun v26 h => ?_)
    refine jr_bipush hC (D_X3_takeUnit.g 33 rfl) bp_30 ?_
    refine jr_isub hC (D_X3_takeUnit.g 34 rfl) ?_
    refine jr_cVi hC cl_X3_146 ⟨rfl, by decide⟩ (D_X3_takeUnit.g 35 rfl) [q_i 1, q_i (v26 - 30)] h (fun r M' e => c_X2_add e) rfl rfl ⟨by omega, by decide⟩ (Nat.le_of_ble_eq_true rfl) ⟨Nat.le_of_ble_eq_true rfl, Nat.le_of_ble_eq_true rfl⟩ (fun v27 M28 h => ?_)
    refine jr_pop hC (D_X3_takeUnit.g 36 rfl) rfl ?_
    refine jr_aload_n hC (D_X3_takeUnit.g 37 rfl) 0 rfl ?_
    refine jr_iconst hC (D_X3_takeUnit.g 38 rfl) ?_
    refine jr_cVi hC cl_X3_78 ⟨rfl, by decide⟩ (D_X3_takeUnit.g 39 rfl) [q_i 1] h (fun r M' e => c_X3_accept e) rfl rfl ⟨by omega, by decide⟩ (Nat.le_of_ble_eq_true rfl) ⟨Nat.le_of_ble_eq_true rfl, Nat.le_of_ble_eq_true rfl⟩ (fun v29 M30 h => ?_)
    exact jr_zret hC (D_X3_takeUnit.g 40 rfl) hr hE h
  exact hj_80  h
def f_X3_takePart (rs : Nat → Int → jMem → Option (Int × jMem)) (th : Nat) (x1 : Int) (M : jMem) : Option (Int × jMem) :=
jcall 3 M th (f_X3_takeUnit rs th x1 M) fun v1 M2 =>
jlp3 (fun rec_8 (y2_8 : Int) (y3_8 : Int) (M_8 : jMem) =>
if jd_wr y3_8 ≤ jd_wr 400 then (if jd_wr y2_8 = 0 then (jm_z y2_8 M_8)
else ((jm_gI 3 4 M_8 th).bind fun v3 =>
jjq ((jm_gI 3 4 M_8 th).bind fun v4 =>
jcall 3 M_8 th (f_X3_accept th 1 M_8) fun v5 M6 =>
jjq (fun (z0_64 : Int) (M_64 : jMem) =>
(jm_gR 3 2 M_64 th).bind fun r7 =>
(jm_gR 8 12 M_64 r7).bind fun r8 =>
jcall 2 M_64 r8 (f_X2_add r8 v4 0 M_64) fun v9 M10 =>
rec_8 z0_64 (y3_8 + 1) M10) fun j_64 =>
jjq (fun (M_63 : jMem) =>
j_64 0 M_63) fun j_63 =>
if jd_wr v5 = 0 then (j_63 M6)
else (jcall 3 M6 th (f_X3_takeUnit rs th x1 M6) fun v11 M12 =>
if jd_wr v11 = 0 then (j_63 M12)
else (j_64 1 M12))) fun j_37 =>
if jd_wr v3 = jd_wr 14 then (j_37 )
else ((jm_gI 3 4 M_8 th).bind fun v13 =>
if jd_wr v13 = jd_wr 15 then (j_37 )
else (jm_z y2_8 M_8))))
else (jm_z y2_8 M_8)) jfuel v1 0 M2
theorem D_X3_takePart : jDs cX3_takePart [(0, .aload_n 0, 1, 1), (1, .iload_n 1, 1, 2), (2, .invokevirtual 156, 3, 5), (5, .istore_n 2, 1, 6), (6, .iconst 0, 1, 7), (7, .istore_n 3, 1, 8), (8, .iload_n 3, 1, 9), (9, .sipush 400, 3, 12), (12, .if_icmp .gt 73, 3, 15), (15, .iload_n 2, 1, 16), (16, .ifCond .eq 69, 3, 19), (19, .aload_n 0, 1, 20), (20, .getfield 53, 3, 23), (23, .bipush 14, 2, 25), (25, .if_icmp .eq 12, 3, 28), (28, .aload_n 0, 1, 29), (29, .getfield 53, 3, 32), (32, .bipush 15, 2, 34), (34, .if_icmp .ne 51, 3, 37), (37, .aload_n 0, 1, 38), (38, .getfield 53, 3, 41), (41, .istore 4, 2, 43), (43, .aload_n 0, 1, 44), (44, .iconst 1, 1, 45), (45, .invokevirtual 78, 3, 48), (48, .ifCond .eq 15, 3, 51), (51, .aload_n 0, 1, 52), (52, .iload_n 1, 1, 53), (53, .invokevirtual 156, 3, 56), (56, .ifCond .eq 7, 3, 59), (59, .iconst 1, 1, 60), (60, .goto 4, 3, 63), (63, .iconst 0, 1, 64), (64, .istore_n 2, 1, 65), (65, .aload_n 0, 1, 66), (66, .getfield 15, 3, 69), (69, .getfield 133, 3, 72), (72, .iload 4, 2, 74), (74, .iconst 0, 1, 75), (75, .invokevirtual 146, 3, 78), (78, .pop, 1, 79), (79, .iinc 3 1, 3, 82), (82, .goto (-74), 3, 85), (85, .iload_n 2, 1, 86), (86, .ireturn, 1, 87)] := by unfold jDs; decide +kernel
set_option maxRecDepth 100000 in
set_option maxHeartbeats 4000000 in
theorem c_X3_takePart {E : jE} {rs : Nat → Int → jMem → Option (Int × jMem)} {dd : Nat} (hrs : ∀ {th : Nat} {x1 : Int} {M : jMem} {r : Int} {M' : jMem}, rs th x1 M = some (r, M') → jMet E yX3_takeSum cX3_takeSum 5 (some .boolean) dd 0 0 [q_r E th, q_i x1] M (some (q_i r)) M') {th : Nat} {x1 : Int} {M : jMem} {r : Int} {M' : jMem} (h : f_X3_takePart rs th x1 M = some (r, M')) : jMet E yX3_takePart cX3_takePart 5 (some .boolean) (dd + 7) 0 0 [q_r E th, q_i x1] M (some (q_i r)) M' := by
  unfold f_X3_takePart at h
  refine jMet.of RX3 rfl (by decide +kernel) (Nat.le_of_ble_eq_true rfl) [(0, q_r E th), (1, q_i x1)] rfl (fun X hC hE hr hn => ?_)
  refine jr_aload_n hC (D_X3_takePart.g 0 rfl) 0 rfl ?_
  refine jr_iload_n hC (D_X3_takePart.g 1 rfl) 1 rfl ?_
  refine jr_cVi hC cl_X3_156 ⟨rfl, by decide⟩ (D_X3_takePart.g 2 rfl) [q_i x1] h (fun r M' e => c_X3_takeUnit hrs e) rfl rfl ⟨by omega, by decide⟩ (Nat.le_of_ble_eq_true rfl) ⟨Nat.le_of_ble_eq_true rfl, Nat.le_of_ble_eq_true rfl⟩ (fun v1 M2 h => ?_)
  refine jr_istore_n hC (D_X3_takePart.g 3 rfl) (by decide) rfl ?_
  refine jr_iconst hC (D_X3_takePart.g 4 rfl) ?_
  refine jr_istore_n hC (D_X3_takePart.g 5 rfl) (by decide) rfl ?_
  refine jr_pick [2, 3, 1, 0] rfl ?_
  refine jr_lp3 (fun (y2_8 : Int) (y3_8 : Int) (M_8 : jMem) => JW E X 5 0 0 M_8 8 [(0, q_r E th), (1, q_i x1), (2, q_i y2_8), (3, q_i y3_8)] []) ?_ jfuel v1 0 M2 h
  intro rec_8 hrec_8 y2_8 y3_8 M_8 h
  refine jr_iload_n hC (D_X3_takePart.g 6 rfl) 3 rfl ?_
  refine jr_sipush hC (D_X3_takePart.g 7 rfl) sp_400 ?_
  refine jr_icmp_gt hC (D_X3_takePart.g 8 rfl) 85 rfl h (fun h => ?_) (fun h => ?_)
  · refine jr_iload_n hC (D_X3_takePart.g 9 rfl) 2 rfl ?_
    refine jr_if_eq hC (D_X3_takePart.g 10 rfl) 85 rfl h (fun h => ?_) (fun h => ?_)
    · refine jr_iload_n hC (D_X3_takePart.g 43 rfl) 2 rfl ?_
      exact jr_zret hC (D_X3_takePart.g 44 rfl) hr hE h
    refine jr_aload_n hC (D_X3_takePart.g 11 rfl) 0 rfl ?_
    refine jr_getI hC fl_X3_53 rfl (D_X3_takePart.g 12 rfl) h (fun v3 h => ?_)
    refine jr_bipush hC (D_X3_takePart.g 13 rfl) bp_14 ?_
    refine jr_join h (fun j => j = some (r, M') → JW E X 5 0 0 M_8 37 [(0, q_r E th), (1, q_i x1), (3, q_i y3_8)] []) ?_ ?_
    · intro  h
      refine jr_aload_n hC (D_X3_takePart.g 19 rfl) 0 rfl ?_
      refine jr_getI hC fl_X3_53 rfl (D_X3_takePart.g 20 rfl) h (fun v4 h => ?_)
      refine jr_istore hC (D_X3_takePart.g 21 rfl) (by decide) rfl ?_
      refine jr_aload_n hC (D_X3_takePart.g 22 rfl) 1 rfl ?_
      refine jr_iconst hC (D_X3_takePart.g 23 rfl) ?_
      refine jr_cVi hC cl_X3_78 ⟨rfl, by decide⟩ (D_X3_takePart.g 24 rfl) [q_i 1] h (fun r M' e => c_X3_accept e) rfl rfl ⟨by omega, by decide⟩ (Nat.le_of_ble_eq_true rfl) ⟨Nat.le_of_ble_eq_true rfl, Nat.le_of_ble_eq_true rfl⟩ (fun v5 M6 h => ?_)
      refine jr_join h (fun j => ∀ (z0_64 : Int) (M_64 : jMem), j z0_64 M_64 = some (r, M') → JW E X 5 0 0 M_64 64 [(0, q_r E th), (1, q_i x1), (3, q_i y3_8), (4, q_i v4)] [q_i z0_64]) ?_ ?_
      · intro z0_64 M_64 h
        refine jr_istore_n hC (D_X3_takePart.g 33 rfl) (by decide) rfl ?_
        refine jr_aload_n hC (D_X3_takePart.g 34 rfl) 1 rfl ?_
        refine jr_getR hC fl_X3_15 rfl (D_X3_takePart.g 35 rfl) h (fun r7 h => ?_)
        refine jr_getR hC fl_X3_133 rfl (D_X3_takePart.g 36 rfl) h (fun r8 h => ?_)
        refine jr_iload hC (D_X3_takePart.g 37 rfl) 4 rfl ?_
        refine jr_iconst hC (D_X3_takePart.g 38 rfl) ?_
        refine jr_cVi hC cl_X3_146 ⟨rfl, by decide⟩ (D_X3_takePart.g 39 rfl) [q_i v4, q_i 0] h (fun r M' e => c_X2_add e) rfl rfl ⟨by omega, by decide⟩ (Nat.le_of_ble_eq_true rfl) ⟨Nat.le_of_ble_eq_true rfl, Nat.le_of_ble_eq_true rfl⟩ (fun v9 M10 h => ?_)
        refine jr_pop hC (D_X3_takePart.g 40 rfl) rfl ?_
        refine jr_iinc hC (D_X3_takePart.g 41 rfl) 3 rfl (by decide) rfl ?_
        refine jr_goto hC (D_X3_takePart.g 42 rfl) 8 rfl ?_
        refine jr_pick [2, 3, 1, 0] rfl ?_
        exact hrec_8 z0_64 (y3_8 + 1) M10 h
      intro j_64 hj_64 h
      refine jr_join h (fun j => ∀ (M_63 : jMem), j M_63 = some (r, M') → JW E X 5 0 0 M_63 63 [(0, q_r E th), (1, q_i x1), (3, q_i y3_8), (4, q_i v4)] []) ?_ ?_
      · intro M_63 h
        refine jr_iconst hC (D_X3_takePart.g 32 rfl) ?_
        exact hj_64 0 M_63 h
      intro j_63 hj_63 h
      refine jr_if_eq hC (D_X3_takePart.g 25 rfl) 63 rfl h (fun h => ?_) (fun h => ?_)
      · refine jr_pick [1, 2, 3, 0] rfl ?_
        exact hj_63 M6 h
      refine jr_aload_n hC (D_X3_takePart.g 26 rfl) 1 rfl ?_
      refine jr_iload_n hC (D_X3_takePart.g 27 rfl) 2 rfl ?_
      refine jr_cVi hC cl_X3_156 ⟨rfl, by decide⟩ (D_X3_takePart.g 28 rfl) [q_i x1] h (fun r M' e => c_X3_takeUnit hrs e) rfl rfl ⟨by omega, by decide⟩ (Nat.le_of_ble_eq_true rfl) ⟨Nat.le_of_ble_eq_true rfl, Nat.le_of_ble_eq_true rfl⟩ (fun v11 M12 h => ?_)
      refine jr_if_eq hC (D_X3_takePart.g 29 rfl) 63 rfl h (fun h => ?_) (fun h => ?_)
      · refine jr_pick [1, 2, 3, 0] rfl ?_
        exact hj_63 M12 h
      refine jr_iconst hC (D_X3_takePart.g 30 rfl) ?_
      refine jr_goto hC (D_X3_takePart.g 31 rfl) 64 rfl ?_
      refine jr_pick [1, 2, 3, 0] rfl ?_
      exact hj_64 1 M12 h
    intro j_37 hj_37 h
    refine jr_icmp_eq hC (D_X3_takePart.g 14 rfl) 37 rfl h (fun h => ?_) (fun h => ?_)
    · refine jr_pick [0, 1, 3] rfl ?_
      exact hj_37  h
    refine jr_aload_n hC (D_X3_takePart.g 15 rfl) 0 rfl ?_
    refine jr_getI hC fl_X3_53 rfl (D_X3_takePart.g 16 rfl) h (fun v13 h => ?_)
    refine jr_bipush hC (D_X3_takePart.g 17 rfl) bp_15 ?_
    refine jr_icmp_ne hC (D_X3_takePart.g 18 rfl) 85 rfl h (fun h => ?_) (fun h => ?_)
    · refine jr_pick [0, 1, 3] rfl ?_
      exact hj_37  h
    refine jr_iload_n hC (D_X3_takePart.g 43 rfl) 2 rfl ?_
    exact jr_zret hC (D_X3_takePart.g 44 rfl) hr hE h
  refine jr_iload_n hC (D_X3_takePart.g 43 rfl) 2 rfl ?_
  exact jr_zret hC (D_X3_takePart.g 44 rfl) hr hE h
def f_X3_takeSum (rs : Nat → Int → jMem → Option (Int × jMem)) (th : Nat) (x1 : Int) (M : jMem) : Option (Int × jMem) :=
jcall 3 M th (f_X3_takePart rs th x1 M) fun v1 M2 =>
jlp3 (fun rec_8 (y2_8 : Int) (y3_8 : Int) (M_8 : jMem) =>
if jd_wr y3_8 ≤ jd_wr 400 then (if jd_wr y2_8 = 0 then (jm_z y2_8 M_8)
else ((jm_gI 3 4 M_8 th).bind fun v3 =>
jjq ((jm_gI 3 4 M_8 th).bind fun v4 =>
jcall 3 M_8 th (f_X3_accept th 1 M_8) fun v5 M6 =>
jjq (fun (z0_64 : Int) (M_64 : jMem) =>
(jm_gR 3 2 M_64 th).bind fun r7 =>
(jm_gR 8 12 M_64 r7).bind fun r8 =>
jcall 2 M_64 r8 (f_X2_add r8 v4 0 M_64) fun v9 M10 =>
rec_8 z0_64 (y3_8 + 1) M10) fun j_64 =>
jjq (fun (M_63 : jMem) =>
j_64 0 M_63) fun j_63 =>
if jd_wr v5 = 0 then (j_63 M6)
else (jcall 3 M6 th (f_X3_takePart rs th x1 M6) fun v11 M12 =>
if jd_wr v11 = 0 then (j_63 M12)
else (j_64 1 M12))) fun j_37 =>
if jd_wr v3 = jd_wr 12 then (j_37 )
else ((jm_gI 3 4 M_8 th).bind fun v13 =>
if jd_wr v13 = jd_wr 13 then (j_37 )
else (jm_z y2_8 M_8))))
else (jm_z y2_8 M_8)) jfuel v1 0 M2
theorem D_X3_takeSum : jDs cX3_takeSum [(0, .aload_n 0, 1, 1), (1, .iload_n 1, 1, 2), (2, .invokevirtual 153, 3, 5), (5, .istore_n 2, 1, 6), (6, .iconst 0, 1, 7), (7, .istore_n 3, 1, 8), (8, .iload_n 3, 1, 9), (9, .sipush 400, 3, 12), (12, .if_icmp .gt 73, 3, 15), (15, .iload_n 2, 1, 16), (16, .ifCond .eq 69, 3, 19), (19, .aload_n 0, 1, 20), (20, .getfield 53, 3, 23), (23, .bipush 12, 2, 25), (25, .if_icmp .eq 12, 3, 28), (28, .aload_n 0, 1, 29), (29, .getfield 53, 3, 32), (32, .bipush 13, 2, 34), (34, .if_icmp .ne 51, 3, 37), (37, .aload_n 0, 1, 38), (38, .getfield 53, 3, 41), (41, .istore 4, 2, 43), (43, .aload_n 0, 1, 44), (44, .iconst 1, 1, 45), (45, .invokevirtual 78, 3, 48), (48, .ifCond .eq 15, 3, 51), (51, .aload_n 0, 1, 52), (52, .iload_n 1, 1, 53), (53, .invokevirtual 153, 3, 56), (56, .ifCond .eq 7, 3, 59), (59, .iconst 1, 1, 60), (60, .goto 4, 3, 63), (63, .iconst 0, 1, 64), (64, .istore_n 2, 1, 65), (65, .aload_n 0, 1, 66), (66, .getfield 15, 3, 69), (69, .getfield 133, 3, 72), (72, .iload 4, 2, 74), (74, .iconst 0, 1, 75), (75, .invokevirtual 146, 3, 78), (78, .pop, 1, 79), (79, .iinc 3 1, 3, 82), (82, .goto (-74), 3, 85), (85, .iload_n 2, 1, 86), (86, .ireturn, 1, 87)] := by unfold jDs; decide +kernel
set_option maxRecDepth 100000 in
set_option maxHeartbeats 4000000 in
theorem c_X3_takeSum {E : jE} {rs : Nat → Int → jMem → Option (Int × jMem)} {dd : Nat} (hrs : ∀ {th : Nat} {x1 : Int} {M : jMem} {r : Int} {M' : jMem}, rs th x1 M = some (r, M') → jMet E yX3_takeSum cX3_takeSum 5 (some .boolean) dd 0 0 [q_r E th, q_i x1] M (some (q_i r)) M') {th : Nat} {x1 : Int} {M : jMem} {r : Int} {M' : jMem} (h : f_X3_takeSum rs th x1 M = some (r, M')) : jMet E yX3_takeSum cX3_takeSum 5 (some .boolean) (dd + 8) 0 0 [q_r E th, q_i x1] M (some (q_i r)) M' := by
  unfold f_X3_takeSum at h
  refine jMet.of RX3 rfl (by decide +kernel) (Nat.le_of_ble_eq_true rfl) [(0, q_r E th), (1, q_i x1)] rfl (fun X hC hE hr hn => ?_)
  refine jr_aload_n hC (D_X3_takeSum.g 0 rfl) 0 rfl ?_
  refine jr_iload_n hC (D_X3_takeSum.g 1 rfl) 1 rfl ?_
  refine jr_cVi hC cl_X3_153 ⟨rfl, by decide⟩ (D_X3_takeSum.g 2 rfl) [q_i x1] h (fun r M' e => c_X3_takePart hrs e) rfl rfl ⟨by omega, by decide⟩ (Nat.le_of_ble_eq_true rfl) ⟨Nat.le_of_ble_eq_true rfl, Nat.le_of_ble_eq_true rfl⟩ (fun v1 M2 h => ?_)
  refine jr_istore_n hC (D_X3_takeSum.g 3 rfl) (by decide) rfl ?_
  refine jr_iconst hC (D_X3_takeSum.g 4 rfl) ?_
  refine jr_istore_n hC (D_X3_takeSum.g 5 rfl) (by decide) rfl ?_
  refine jr_pick [2, 3, 1, 0] rfl ?_
  refine jr_lp3 (fun (y2_8 : Int) (y3_8 : Int) (M_8 : jMem) => JW E X 5 0 0 M_8 8 [(0, q_r E th), (1, q_i x1), (2, q_i y2_8), (3, q_i y3_8)] []) ?_ jfuel v1 0 M2 h
  intro rec_8 hrec_8 y2_8 y3_8 M_8 h
  refine jr_iload_n hC (D_X3_takeSum.g 6 rfl) 3 rfl ?_
  refine jr_sipush hC (D_X3_takeSum.g 7 rfl) sp_400 ?_
  refine jr_icmp_gt hC (D_X3_takeSum.g 8 rfl) 85 rfl h (fun h => ?_) (fun h => ?_)
  · refine jr_iload_n hC (D_X3_takeSum.g 9 rfl) 2 rfl ?_
    refine jr_if_eq hC (D_X3_takeSum.g 10 rfl) 85 rfl h (fun h => ?_) (fun h => ?_)
    · refine jr_iload_n hC (D_X3_takeSum.g 43 rfl) 2 rfl ?_
      exact jr_zret hC (D_X3_takeSum.g 44 rfl) hr hE h
    refine jr_aload_n hC (D_X3_takeSum.g 11 rfl) 0 rfl ?_
    refine jr_getI hC fl_X3_53 rfl (D_X3_takeSum.g 12 rfl) h (fun v3 h => ?_)
    refine jr_bipush hC (D_X3_takeSum.g 13 rfl) bp_12 ?_
    refine jr_join h (fun j => j = some (r, M') → JW E X 5 0 0 M_8 37 [(0, q_r E th), (1, q_i x1), (3, q_i y3_8)] []) ?_ ?_
    · intro  h
      refine jr_aload_n hC (D_X3_takeSum.g 19 rfl) 0 rfl ?_
      refine jr_getI hC fl_X3_53 rfl (D_X3_takeSum.g 20 rfl) h (fun v4 h => ?_)
      refine jr_istore hC (D_X3_takeSum.g 21 rfl) (by decide) rfl ?_
      refine jr_aload_n hC (D_X3_takeSum.g 22 rfl) 1 rfl ?_
      refine jr_iconst hC (D_X3_takeSum.g 23 rfl) ?_
      refine jr_cVi hC cl_X3_78 ⟨rfl, by decide⟩ (D_X3_takeSum.g 24 rfl) [q_i 1] h (fun r M' e => c_X3_accept e) rfl rfl ⟨by omega, by decide⟩ (Nat.le_of_ble_eq_true rfl) ⟨Nat.le_of_ble_eq_true rfl, Nat.le_of_ble_eq_true rfl⟩ (fun v5 M6 h => ?_)
      refine jr_join h (fun j => ∀ (z0_64 : Int) (M_64 : jMem), j z0_64 M_64 = some (r, M') → JW E X 5 0 0 M_64 64 [(0, q_r E th), (1, q_i x1), (3, q_i y3_8), (4, q_i v4)] [q_i z0_64]) ?_ ?_
      · intro z0_64 M_64 h
        refine jr_istore_n hC (D_X3_takeSum.g 33 rfl) (by decide) rfl ?_
        refine jr_aload_n hC (D_X3_takeSum.g 34 rfl) 1 rfl ?_
        refine jr_getR hC fl_X3_15 rfl (D_X3_takeSum.g 35 rfl) h (fun r7 h => ?_)
        refine jr_getR hC fl_X3_133 rfl (D_X3_takeSum.g 36 rfl) h (fun r8 h => ?_)
        refine jr_iload hC (D_X3_takeSum.g 37 rfl) 4 rfl ?_
        refine jr_iconst hC (D_X3_takeSum.g 38 rfl) ?_
        refine jr_cVi hC cl_X3_146 ⟨rfl, by decide⟩ (D_X3_takeSum.g 39 rfl) [q_i v4, q_i 0] h (fun r M' e => c_X2_add e) rfl rfl ⟨by omega, by decide⟩ (Nat.le_of_ble_eq_true rfl) ⟨Nat.le_of_ble_eq_true rfl, Nat.le_of_ble_eq_true rfl⟩ (fun v9 M10 h => ?_)
        refine jr_pop hC (D_X3_takeSum.g 40 rfl) rfl ?_
        refine jr_iinc hC (D_X3_takeSum.g 41 rfl) 3 rfl (by decide) rfl ?_
        refine jr_goto hC (D_X3_takeSum.g 42 rfl) 8 rfl ?_
        refine jr_pick [2, 3, 1, 0] rfl ?_
        exact hrec_8 z0_64 (y3_8 + 1) M10 h
      intro j_64 hj_64 h
      refine jr_join h (fun j => ∀ (M_63 : jMem), j M_63 = some (r, M') → JW E X 5 0 0 M_63 63 [(0, q_r E th), (1, q_i x1), (3, q_i y3_8), (4, q_i v4)] []) ?_ ?_
      · intro M_63 h
        refine jr_iconst hC (D_X3_takeSum.g 32 rfl) ?_
        exact hj_64 0 M_63 h
      intro j_63 hj_63 h
      refine jr_if_eq hC (D_X3_takeSum.g 25 rfl) 63 rfl h (fun h => ?_) (fun h => ?_)
      · refine jr_pick [1, 2, 3, 0] rfl ?_
        exact hj_63 M6 h
      refine jr_aload_n hC (D_X3_takeSum.g 26 rfl) 1 rfl ?_
      refine jr_iload_n hC (D_X3_takeSum.g 27 rfl) 2 rfl ?_
      refine jr_cVi hC cl_X3_153 ⟨rfl, by decide⟩ (D_X3_takeSum.g 28 rfl) [q_i x1] h (fun r M' e => c_X3_takePart hrs e) rfl rfl ⟨by omega, by decide⟩ (Nat.le_of_ble_eq_true rfl) ⟨Nat.le_of_ble_eq_true rfl, Nat.le_of_ble_eq_true rfl⟩ (fun v11 M12 h => ?_)
      refine jr_if_eq hC (D_X3_takeSum.g 29 rfl) 63 rfl h (fun h => ?_) (fun h => ?_)
      · refine jr_pick [1, 2, 3, 0] rfl ?_
        exact hj_63 M12 h
      refine jr_iconst hC (D_X3_takeSum.g 30 rfl) ?_
      refine jr_goto hC (D_X3_takeSum.g 31 rfl) 64 rfl ?_
      refine jr_pick [1, 2, 3, 0] rfl ?_
      exact hj_64 1 M12 h
    intro j_37 hj_37 h
    refine jr_icmp_eq hC (D_X3_takeSum.g 14 rfl) 37 rfl h (fun h => ?_) (fun h => ?_)
    · refine jr_pick [0, 1, 3] rfl ?_
      exact hj_37  h
    refine jr_aload_n hC (D_X3_takeSum.g 15 rfl) 0 rfl ?_
    refine jr_getI hC fl_X3_53 rfl (D_X3_takeSum.g 16 rfl) h (fun v13 h => ?_)
    refine jr_bipush hC (D_X3_takeSum.g 17 rfl) bp_13 ?_
    refine jr_icmp_ne hC (D_X3_takeSum.g 18 rfl) 85 rfl h (fun h => ?_) (fun h => ?_)
    · refine jr_pick [0, 1, 3] rfl ?_
      exact hj_37  h
    refine jr_iload_n hC (D_X3_takeSum.g 43 rfl) 2 rfl ?_
    exact jr_zret hC (D_X3_takeSum.g 44 rfl) hr hE h
  refine jr_iload_n hC (D_X3_takeSum.g 43 rfl) 2 rfl ?_
  exact jr_zret hC (D_X3_takeSum.g 44 rfl) hr hE h
/-- takeSum, n brackets deep at most -/
def f_X3_takeSumN : Nat → Nat → Int → jMem → Option (Int × jMem)
  | 0 => fun _ _ _ => none
  | n + 1 => fun th x1 M => f_X3_takeSum (f_X3_takeSumN n) th x1 M
theorem c_X3_takeSumN {E : jE} (n : Nat) : ∀ {th : Nat} {x1 : Int} {M : jMem} {r : Int} {M' : jMem}, f_X3_takeSumN n th x1 M = some (r, M') → jMet E yX3_takeSum cX3_takeSum 5 (some .boolean) (8 * n) 0 0 [q_r E th, q_i x1] M (some (q_i r)) M' := by
  induction n with
  | zero => intro th x1 M r M' h; cases h
  | succ n ih => intro th x1 M r M' h; exact c_X3_takeSum ih h
def f_X3_takeSumT (th : Nat) (x1 : Int) (M : jMem) : Option (Int × jMem) := f_X3_takeSumN 8 th x1 M
theorem c_X3_takeSumT {E : jE} {th : Nat} {x1 : Int} {M : jMem} {r : Int} {M' : jMem} (h : f_X3_takeSumT th x1 M = some (r, M')) : jMet E yX3_takeSum cX3_takeSum 5 (some .boolean) 64 0 0 [q_r E th, q_i x1] M (some (q_i r)) M' := c_X3_takeSumN 8 h
def f_X3_takeLaw (th : Nat) (x1 : Int) (M : jMem) : Option (Int × jMem) :=
jcall 3 M th (f_X3_acceptOf th 11 M) fun v1 M2 =>
if jd_wr v1 = 0 then (jm_z 0 M2)
else ((jm_gR 3 2 M2 th).bind fun r3 =>
(jm_gR 8 12 M2 r3).bind fun r4 =>
jcall 2 M2 r4 (f_X2_begin r4 x1 M2) fun _ M6 =>
jlp2 (fun rec_24 (y2_24 : Int) (M_24 : jMem) =>
(jm_gI 3 4 M_24 th).bind fun v7 =>
jjq (jcall 3 M_24 th (f_X3_takeSumT th 0 M_24) fun v8 M9 =>
if jd_wr v8 = 0 then (jm_z 0 M9)
else ((jm_gR 3 2 M9 th).bind fun r10 =>
(jm_gR 8 12 M9 r10).bind fun r11 =>
jcall 2 M9 r11 (f_X2_add r11 3 0 M9) fun v12 M13 =>
jm_z 1 M13)) fun j_153 =>
if jd_wr v7 = jd_wr 27 then (if jd_wr y2_24 ≤ jd_wr 4 then (jjq (fun (z0_49 : Int) =>
jcall 3 M_24 th (f_X3_accept th z0_49 M_24) fun v14 M15 =>
if jd_wr v14 = 0 then (jm_z 0 M15)
else (jcall 3 M15 th (f_X3_takeSumT th 0 M15) fun v16 M17 =>
if jd_wr v16 = 0 then (jm_z 0 M17)
else (jcall 3 M17 th (f_X3_acceptOf th 16 M17) fun v18 M19 =>
if jd_wr v18 = 0 then (jm_z 0 M19)
else (jcall 3 M19 th (f_X3_takeSumT th 0 M19) fun v20 M21 =>
if jd_wr v20 = 0 then (jm_z 0 M21)
else (jcall 3 M21 th (f_X3_acceptOf th 28 M21) fun v22 M23 =>
if jd_wr v22 = 0 then (jm_z 0 M23)
else ((jm_gR 3 2 M23 th).bind fun r24 =>
(jm_gR 8 12 M23 r24).bind fun r25 =>
jcall 2 M23 r25 (f_X2_add r25 2 (-1) M23) fun v26 M27 =>
jcall 3 M27 th (f_X3_takeSumT th 0 M27) fun v28 M29 =>
if jd_wr v28 = 0 then (jm_z 0 M29)
else (jcall 3 M29 th (f_X3_acceptOf th 29 M29) fun v30 M31 =>
if jd_wr v30 = 0 then (jm_z 0 M31)
else ((jm_gR 3 2 M31 th).bind fun r32 =>
(jm_gR 8 12 M31 r32).bind fun r33 =>
jcall 2 M31 r33 (f_X2_add r33 3 0 M31) fun v34 M35 =>
(jm_gR 3 2 M35 th).bind fun r36 =>
(jm_gR 8 12 M35 r36).bind fun r37 =>
jcall 2 M35 r37 (f_X2_aimHere r37 v26 M35) fun _ M39 =>
rec_24 (y2_24 + 1) M39)))))))) fun j_49 =>
if jd_wr y2_24 < jd_wr 4 then (j_49 1)
else (j_49 0))
else (j_153 ))
else (j_153 )) jfuel 0 M6)
theorem D_X3_takeLaw : jDs cX3_takeLaw [(0, .aload_n 0, 1, 1), (1, .bipush 11, 2, 3), (3, .invokevirtual 85, 3, 6), (6, .ifCond .ne 5, 3, 9), (9, .iconst 0, 1, 10), (10, .ireturn, 1, 11), (11, .aload_n 0, 1, 12), (12, .getfield 15, 3, 15), (15, .getfield 133, 3, 18), (18, .iload_n 1, 1, 19), (19, .invokevirtual 137, 3, 22), (22, .iconst 0, 1, 23), (23, .istore_n 2, 1, 24), (24, .aload_n 0, 1, 25), (25, .getfield 53, 3, 28), (28, .bipush 27, 2, 30), (30, .if_icmp .ne 123, 3, 33), (33, .iload_n 2, 1, 34), (34, .iconst 4, 1, 35), (35, .if_icmp .gt 118, 3, 38), (38, .aload_n 0, 1, 39), (39, .iload_n 2, 1, 40), (40, .iconst 4, 1, 41), (41, .if_icmp .ge 7, 3, 44), (44, .iconst 1, 1, 45), (45, .goto 4, 3, 48), (48, .iconst 0, 1, 49), (49, .invokevirtual 78, 3, 52), (52, .ifCond .eq 37, 3, 55), (55, .aload_n 0, 1, 56), (56, .iconst 0, 1, 57), (57, .invokevirtual 143, 3, 60), (60, .ifCond .eq 29, 3, 63), (63, .aload_n 0, 1, 64), (64, .bipush 16, 2, 66), (66, .invokevirtual 85, 3, 69), (69, .ifCond .eq 20, 3, 72), (72, .aload_n 0, 1, 73), (73, .iconst 0, 1, 74), (74, .invokevirtual 143, 3, 77), (77, .ifCond .eq 12, 3, 80), (80, .aload_n 0, 1, 81), (81, .bipush 28, 2, 83), (83, .invokevirtual 85, 3, 86), (86, .ifCond .ne 5, 3, 89), (89, .iconst 0, 1, 90), (90, .ireturn, 1, 91), (91, .aload_n 0, 1, 92), (92, .getfield 15, 3, 95), (95, .getfield 133, 3, 98), (98, .iconst 2, 1, 99), (99, .iconst (-1), 1, 100), (100, .invokevirtual 146, 3, 103), (103, .istore_n 3, 1, 104), (104, .aload_n 0, 1, 105), (105, .iconst 0, 1, 106), (106, .invokevirtual 143, 3, 109), (109, .ifCond .eq 12, 3, 112), (112, .aload_n 0, 1, 113), (113, .bipush 29, 2, 115), (115, .invokevirtual 85, 3, 118), (118, .ifCond .ne 5, 3, 121), (121, .iconst 0, 1, 122), (122, .ireturn, 1, 123), (123, .aload_n 0, 1, 124), (124, .getfield 15, 3, 127), (127, .getfield 133, 3, 130), (130, .iconst 3, 1, 131), (131, .iconst 0, 1, 132), (132, .invokevirtual 146, 3, 135), (135, .pop, 1, 136), (136, .aload_n 0, 1, 137), (137, .getfield 15, 3, 140), (140, .getfield 133, 3, 143), (143, .iload_n 3, 1, 144), (144, .invokevirtual 150, 3, 147), (147, .iinc 2 1, 3, 150), (150, .goto (-126), 3, 153), (153, .aload_n 0, 1, 154), (154, .iconst 0, 1, 155), (155, .invokevirtual 143, 3, 158), (158, .ifCond .ne 5, 3, 161), (161, .iconst 0, 1, 162), (162, .ireturn, 1, 163), (163, .aload_n 0, 1, 164), (164, .getfield 15, 3, 167), (167, .getfield 133, 3, 170), (170, .iconst 3, 1, 171), (171, .iconst 0, 1, 172), (172, .invokevirtual 146, 3, 175), (175, .pop, 1, 176), (176, .iconst 1, 1, 177), (177, .ireturn, 1, 178)] := by unfold jDs; decide +kernel
set_option maxRecDepth 100000 in
set_option maxHeartbeats 4000000 in
theorem c_X3_takeLaw {E : jE} {th : Nat} {x1 : Int} {M : jMem} {r : Int} {M' : jMem} (h : f_X3_takeLaw th x1 M = some (r, M')) : jMet E yX3_takeLaw cX3_takeLaw 4 (some .boolean) 65 0 0 [q_r E th, q_i x1] M (some (q_i r)) M' := by
  unfold f_X3_takeLaw at h
  refine jMet.of RX3 rfl (by decide +kernel) (Nat.le_of_ble_eq_true rfl) [(0, q_r E th), (1, q_i x1)] rfl (fun X hC hE hr hn => ?_)
  refine jr_aload_n hC (D_X3_takeLaw.g 0 rfl) 0 rfl ?_
  refine jr_bipush hC (D_X3_takeLaw.g 1 rfl) bp_11 ?_
  refine jr_cVi hC cl_X3_85 ⟨rfl, by decide⟩ (D_X3_takeLaw.g 2 rfl) [q_i 11] h (fun r M' e => c_X3_acceptOf e) rfl rfl ⟨by decide, by decide⟩ (Nat.le_of_ble_eq_true rfl) ⟨Nat.le_of_ble_eq_true rfl, Nat.le_of_ble_eq_true rfl⟩ (fun v1 M2 h => ?_)
  refine jr_if_ne hC (D_X3_takeLaw.g 3 rfl) 11 rfl h (fun h => ?_) (fun h => ?_)
  · refine jr_iconst hC (D_X3_takeLaw.g 4 rfl) ?_
    exact jr_zret hC (D_X3_takeLaw.g 5 rfl) hr hE h
  refine jr_aload_n hC (D_X3_takeLaw.g 6 rfl) 0 rfl ?_
  refine jr_getR hC fl_X3_15 rfl (D_X3_takeLaw.g 7 rfl) h (fun r3 h => ?_)
  refine jr_getR hC fl_X3_133 rfl (D_X3_takeLaw.g 8 rfl) h (fun r4 h => ?_)
  refine jr_iload_n hC (D_X3_takeLaw.g 9 rfl) 1 rfl ?_
  refine jr_cVv hC cl_X3_137 ⟨rfl, by decide⟩ (D_X3_takeLaw.g 10 rfl) [q_i x1] h (fun r M' e => c_X2_begin e) rfl rfl ⟨by decide, by decide⟩ (Nat.le_of_ble_eq_true rfl) ⟨Nat.le_of_ble_eq_true rfl, Nat.le_of_ble_eq_true rfl⟩ (fun _ M6 h => ?_)
  refine jr_iconst hC (D_X3_takeLaw.g 11 rfl) ?_
  refine jr_istore_n hC (D_X3_takeLaw.g 12 rfl) (by decide) rfl ?_
  refine jr_pick [1, 0] rfl ?_
  refine jr_lp2 (fun (y2_24 : Int) (M_24 : jMem) => JW E X 4 0 0 M_24 24 [(0, q_r E th), (2, q_i y2_24)] []) ?_ jfuel 0 M6 h
  intro rec_24 hrec_24 y2_24 M_24 h
  refine jr_aload_n hC (D_X3_takeLaw.g 13 rfl) 0 rfl ?_
  refine jr_getI hC fl_X3_53 rfl (D_X3_takeLaw.g 14 rfl) h (fun v7 h => ?_)
  refine jr_bipush hC (D_X3_takeLaw.g 15 rfl) bp_27 ?_
  refine jr_join h (fun j => j = some (r, M') → JW E X 4 0 0 M_24 153 [(0, q_r E th)] []) ?_ ?_
  · intro  h
    refine jr_aload_n hC (D_X3_takeLaw.g 78 rfl) 0 rfl ?_
    refine jr_iconst hC (D_X3_takeLaw.g 79 rfl) ?_
    refine jr_cVi hC cl_X3_143 ⟨rfl, by decide⟩ (D_X3_takeLaw.g 80 rfl) [q_i 0] h (fun r M' e => c_X3_takeSumT e) rfl rfl ⟨by decide, by decide⟩ (Nat.le_of_ble_eq_true rfl) ⟨Nat.le_of_ble_eq_true rfl, Nat.le_of_ble_eq_true rfl⟩ (fun v8 M9 h => ?_)
    refine jr_if_ne hC (D_X3_takeLaw.g 81 rfl) 163 rfl h (fun h => ?_) (fun h => ?_)
    · refine jr_iconst hC (D_X3_takeLaw.g 82 rfl) ?_
      exact jr_zret hC (D_X3_takeLaw.g 83 rfl) hr hE h
    refine jr_aload_n hC (D_X3_takeLaw.g 84 rfl) 0 rfl ?_
    refine jr_getR hC fl_X3_15 rfl (D_X3_takeLaw.g 85 rfl) h (fun r10 h => ?_)
    refine jr_getR hC fl_X3_133 rfl (D_X3_takeLaw.g 86 rfl) h (fun r11 h => ?_)
    refine jr_iconst hC (D_X3_takeLaw.g 87 rfl) ?_
    refine jr_iconst hC (D_X3_takeLaw.g 88 rfl) ?_
    refine jr_cVi hC cl_X3_146 ⟨rfl, by decide⟩ (D_X3_takeLaw.g 89 rfl) [q_i 3, q_i 0] h (fun r M' e => c_X2_add e) rfl rfl ⟨by decide, by decide⟩ (Nat.le_of_ble_eq_true rfl) ⟨Nat.le_of_ble_eq_true rfl, Nat.le_of_ble_eq_true rfl⟩ (fun v12 M13 h => ?_)
    refine jr_pop hC (D_X3_takeLaw.g 90 rfl) rfl ?_
    refine jr_iconst hC (D_X3_takeLaw.g 91 rfl) ?_
    exact jr_zret hC (D_X3_takeLaw.g 92 rfl) hr hE h
  intro j_153 hj_153 h
  refine jr_icmp_ne hC (D_X3_takeLaw.g 16 rfl) 153 rfl h (fun h => ?_) (fun h => ?_)
  · refine jr_iload_n hC (D_X3_takeLaw.g 17 rfl) 1 rfl ?_
    refine jr_iconst hC (D_X3_takeLaw.g 18 rfl) ?_
    refine jr_icmp_gt hC (D_X3_takeLaw.g 19 rfl) 153 rfl h (fun h => ?_) (fun h => ?_)
    · refine jr_aload_n hC (D_X3_takeLaw.g 20 rfl) 0 rfl ?_
      refine jr_iload_n hC (D_X3_takeLaw.g 21 rfl) 1 rfl ?_
      refine jr_iconst hC (D_X3_takeLaw.g 22 rfl) ?_
      refine jr_join h (fun j => ∀ (z0_49 : Int), j z0_49 = some (r, M') → JW E X 4 0 0 M_24 49 [(0, q_r E th), (2, q_i y2_24)] [q_i z0_49, q_r E th]) ?_ ?_
      · intro z0_49 h
        refine jr_cVi hC cl_X3_78 ⟨rfl, by decide⟩ (D_X3_takeLaw.g 27 rfl) [q_i z0_49] h (fun r M' e => c_X3_accept e) rfl rfl ⟨by decide, by decide⟩ (Nat.le_of_ble_eq_true rfl) ⟨Nat.le_of_ble_eq_true rfl, Nat.le_of_ble_eq_true rfl⟩ (fun v14 M15 h => ?_)
        refine jr_if_eq hC (D_X3_takeLaw.g 28 rfl) 89 rfl h (fun h => ?_) (fun h => ?_)
        · refine jr_iconst hC (D_X3_takeLaw.g 45 rfl) ?_
          exact jr_zret hC (D_X3_takeLaw.g 46 rfl) hr hE h
        refine jr_aload_n hC (D_X3_takeLaw.g 29 rfl) 0 rfl ?_
        refine jr_iconst hC (D_X3_takeLaw.g 30 rfl) ?_
        refine jr_cVi hC cl_X3_143 ⟨rfl, by decide⟩ (D_X3_takeLaw.g 31 rfl) [q_i 0] h (fun r M' e => c_X3_takeSumT e) rfl rfl ⟨by decide, by decide⟩ (Nat.le_of_ble_eq_true rfl) ⟨Nat.le_of_ble_eq_true rfl, Nat.le_of_ble_eq_true rfl⟩ (fun v16 M17 h => ?_)
        refine jr_if_eq hC (D_X3_takeLaw.g 32 rfl) 89 rfl h (fun h => ?_) (fun h => ?_)
        · refine jr_iconst hC (D_X3_takeLaw.g 45 rfl) ?_
          exact jr_zret hC (D_X3_takeLaw.g 46 rfl) hr hE h
        refine jr_aload_n hC (D_X3_takeLaw.g 33 rfl) 0 rfl ?_
        refine jr_bipush hC (D_X3_takeLaw.g 34 rfl) bp_16 ?_
        refine jr_cVi hC cl_X3_85 ⟨rfl, by decide⟩ (D_X3_takeLaw.g 35 rfl) [q_i 16] h (fun r M' e => c_X3_acceptOf e) rfl rfl ⟨by decide, by decide⟩ (Nat.le_of_ble_eq_true rfl) ⟨Nat.le_of_ble_eq_true rfl, Nat.le_of_ble_eq_true rfl⟩ (fun v18 M19 h => ?_)
        refine jr_if_eq hC (D_X3_takeLaw.g 36 rfl) 89 rfl h (fun h => ?_) (fun h => ?_)
        · refine jr_iconst hC (D_X3_takeLaw.g 45 rfl) ?_
          exact jr_zret hC (D_X3_takeLaw.g 46 rfl) hr hE h
        refine jr_aload_n hC (D_X3_takeLaw.g 37 rfl) 0 rfl ?_
        refine jr_iconst hC (D_X3_takeLaw.g 38 rfl) ?_
        refine jr_cVi hC cl_X3_143 ⟨rfl, by decide⟩ (D_X3_takeLaw.g 39 rfl) [q_i 0] h (fun r M' e => c_X3_takeSumT e) rfl rfl ⟨by decide, by decide⟩ (Nat.le_of_ble_eq_true rfl) ⟨Nat.le_of_ble_eq_true rfl, Nat.le_of_ble_eq_true rfl⟩ (fun v20 M21 h => ?_)
        refine jr_if_eq hC (D_X3_takeLaw.g 40 rfl) 89 rfl h (fun h => ?_) (fun h => ?_)
        · refine jr_iconst hC (D_X3_takeLaw.g 45 rfl) ?_
          exact jr_zret hC (D_X3_takeLaw.g 46 rfl) hr hE h
        refine jr_aload_n hC (D_X3_takeLaw.g 41 rfl) 0 rfl ?_
        refine jr_bipush hC (D_X3_takeLaw.g 42 rfl) bp_28 ?_
        refine jr_cVi hC cl_X3_85 ⟨rfl, by decide⟩ (D_X3_takeLaw.g 43 rfl) [q_i 28] h (fun r M' e => c_X3_acceptOf e) rfl rfl ⟨by decide, by decide⟩ (Nat.le_of_ble_eq_true rfl) ⟨Nat.le_of_ble_eq_true rfl, Nat.le_of_ble_eq_true rfl⟩ (fun v22 M23 h => ?_)
        refine jr_if_ne hC (D_X3_takeLaw.g 44 rfl) 91 rfl h (fun h => ?_) (fun h => ?_)
        · refine jr_iconst hC (D_X3_takeLaw.g 45 rfl) ?_
          exact jr_zret hC (D_X3_takeLaw.g 46 rfl) hr hE h
        refine jr_aload_n hC (D_X3_takeLaw.g 47 rfl) 0 rfl ?_
        refine jr_getR hC fl_X3_15 rfl (D_X3_takeLaw.g 48 rfl) h (fun r24 h => ?_)
        refine jr_getR hC fl_X3_133 rfl (D_X3_takeLaw.g 49 rfl) h (fun r25 h => ?_)
        refine jr_iconst hC (D_X3_takeLaw.g 50 rfl) ?_
        refine jr_iconst hC (D_X3_takeLaw.g 51 rfl) ?_
        refine jr_cVi hC cl_X3_146 ⟨rfl, by decide⟩ (D_X3_takeLaw.g 52 rfl) [q_i 2, q_i (-1)] h (fun r M' e => c_X2_add e) rfl rfl ⟨by decide, by decide⟩ (Nat.le_of_ble_eq_true rfl) ⟨Nat.le_of_ble_eq_true rfl, Nat.le_of_ble_eq_true rfl⟩ (fun v26 M27 h => ?_)
        refine jr_istore_n hC (D_X3_takeLaw.g 53 rfl) (by decide) rfl ?_
        refine jr_aload_n hC (D_X3_takeLaw.g 54 rfl) 1 rfl ?_
        refine jr_iconst hC (D_X3_takeLaw.g 55 rfl) ?_
        refine jr_cVi hC cl_X3_143 ⟨rfl, by decide⟩ (D_X3_takeLaw.g 56 rfl) [q_i 0] h (fun r M' e => c_X3_takeSumT e) rfl rfl ⟨by decide, by decide⟩ (Nat.le_of_ble_eq_true rfl) ⟨Nat.le_of_ble_eq_true rfl, Nat.le_of_ble_eq_true rfl⟩ (fun v28 M29 h => ?_)
        refine jr_if_eq hC (D_X3_takeLaw.g 57 rfl) 121 rfl h (fun h => ?_) (fun h => ?_)
        · refine jr_iconst hC (D_X3_takeLaw.g 62 rfl) ?_
          exact jr_zret hC (D_X3_takeLaw.g 63 rfl) hr hE h
        refine jr_aload_n hC (D_X3_takeLaw.g 58 rfl) 1 rfl ?_
        refine jr_bipush hC (D_X3_takeLaw.g 59 rfl) bp_29 ?_
        refine jr_cVi hC cl_X3_85 ⟨rfl, by decide⟩ (D_X3_takeLaw.g 60 rfl) [q_i 29] h (fun r M' e => c_X3_acceptOf e) rfl rfl ⟨by decide, by decide⟩ (Nat.le_of_ble_eq_true rfl) ⟨Nat.le_of_ble_eq_true rfl, Nat.le_of_ble_eq_true rfl⟩ (fun v30 M31 h => ?_)
        refine jr_if_ne hC (D_X3_takeLaw.g 61 rfl) 123 rfl h (fun h => ?_) (fun h => ?_)
        · refine jr_iconst hC (D_X3_takeLaw.g 62 rfl) ?_
          exact jr_zret hC (D_X3_takeLaw.g 63 rfl) hr hE h
        refine jr_aload_n hC (D_X3_takeLaw.g 64 rfl) 1 rfl ?_
        refine jr_getR hC fl_X3_15 rfl (D_X3_takeLaw.g 65 rfl) h (fun r32 h => ?_)
        refine jr_getR hC fl_X3_133 rfl (D_X3_takeLaw.g 66 rfl) h (fun r33 h => ?_)
        refine jr_iconst hC (D_X3_takeLaw.g 67 rfl) ?_
        refine jr_iconst hC (D_X3_takeLaw.g 68 rfl) ?_
        refine jr_cVi hC cl_X3_146 ⟨rfl, by decide⟩ (D_X3_takeLaw.g 69 rfl) [q_i 3, q_i 0] h (fun r M' e => c_X2_add e) rfl rfl ⟨by decide, by decide⟩ (Nat.le_of_ble_eq_true rfl) ⟨Nat.le_of_ble_eq_true rfl, Nat.le_of_ble_eq_true rfl⟩ (fun v34 M35 h => ?_)
        refine jr_pop hC (D_X3_takeLaw.g 70 rfl) rfl ?_
        refine jr_aload_n hC (D_X3_takeLaw.g 71 rfl) 1 rfl ?_
        refine jr_getR hC fl_X3_15 rfl (D_X3_takeLaw.g 72 rfl) h (fun r36 h => ?_)
        refine jr_getR hC fl_X3_133 rfl (D_X3_takeLaw.g 73 rfl) h (fun r37 h => ?_)
        refine jr_iload_n hC (D_X3_takeLaw.g 74 rfl) 0 rfl ?_
        refine jr_cVv hC cl_X3_150 ⟨rfl, by decide⟩ (D_X3_takeLaw.g 75 rfl) [q_i v26] h (fun r M' e => c_X2_aimHere e) rfl rfl ⟨by decide, by decide⟩ (Nat.le_of_ble_eq_true rfl) ⟨Nat.le_of_ble_eq_true rfl, Nat.le_of_ble_eq_true rfl⟩ (fun _ M39 h => ?_)
        refine jr_iinc hC (D_X3_takeLaw.g 76 rfl) 2 rfl (by decide) rfl ?_
        refine jr_goto hC (D_X3_takeLaw.g 77 rfl) 24 rfl ?_
        refine jr_pick [2, 0] rfl ?_
        exact hrec_24 (y2_24 + 1) M39 h
      intro j_49 hj_49 h
      refine jr_icmp_ge hC (D_X3_takeLaw.g 23 rfl) 48 rfl h (fun h => ?_) (fun h => ?_)
      · refine jr_iconst hC (D_X3_takeLaw.g 24 rfl) ?_
        refine jr_goto hC (D_X3_takeLaw.g 25 rfl) 49 rfl ?_
        exact hj_49 1 h
      refine jr_iconst hC (D_X3_takeLaw.g 26 rfl) ?_
      exact hj_49 0 h
    refine jr_pick [0] rfl ?_
    exact hj_153  h
  refine jr_pick [0] rfl ?_
  exact hj_153  h
def f_X3_takeSeed (th : Nat) (M : jMem) : Option (Int × jMem) :=
jcall 3 M th (f_X3_takeNumber th 0 9999 M) fun v1 M2 =>
if jd_wr v1 = 0 then (jm_z 0 M2)
else ((jm_gR 3 2 M2 th).bind fun r3 =>
jcall 3 M2 th (f_X3_numberBefore th 1 M2) fun v4 M5 =>
(jm_pI 8 2 M5 r3 v4).bind fun M6 =>
jm_z 1 M6)
theorem D_X3_takeSeed : jDs cX3_takeSeed [(0, .aload_n 0, 1, 1), (1, .iconst 0, 1, 2), (2, .sipush 9999, 3, 5), (5, .invokevirtual 110, 3, 8), (8, .ifCond .ne 5, 3, 11), (11, .iconst 0, 1, 12), (12, .ireturn, 1, 13), (13, .aload_n 0, 1, 14), (14, .getfield 15, 3, 17), (17, .aload_n 0, 1, 18), (18, .iconst 1, 1, 19), (19, .invokevirtual 113, 3, 22), (22, .putfield 130, 3, 25), (25, .iconst 1, 1, 26), (26, .ireturn, 1, 27)] := by unfold jDs; decide +kernel
set_option maxRecDepth 100000 in
set_option maxHeartbeats 4000000 in
theorem c_X3_takeSeed {E : jE} {th : Nat} {M : jMem} {r : Int} {M' : jMem} (h : f_X3_takeSeed th M = some (r, M')) : jMet E yX3_takeSeed cX3_takeSeed 1 (some .boolean) 6 0 0 [q_r E th] M (some (q_i r)) M' := by
  unfold f_X3_takeSeed at h
  refine jMet.of RX3 rfl (by decide +kernel) (Nat.le_of_ble_eq_true rfl) [(0, q_r E th)] rfl (fun X hC hE hr hn => ?_)
  refine jr_aload_n hC (D_X3_takeSeed.g 0 rfl) 0 rfl ?_
  refine jr_iconst hC (D_X3_takeSeed.g 1 rfl) ?_
  refine jr_sipush hC (D_X3_takeSeed.g 2 rfl) sp_9999 ?_
  refine jr_cVi hC cl_X3_110 ⟨rfl, by decide⟩ (D_X3_takeSeed.g 3 rfl) [q_i 0, q_i 9999] h (fun r M' e => c_X3_takeNumber e) rfl rfl ⟨by decide, by decide⟩ (Nat.le_of_ble_eq_true rfl) ⟨Nat.le_of_ble_eq_true rfl, Nat.le_of_ble_eq_true rfl⟩ (fun v1 M2 h => ?_)
  refine jr_if_ne hC (D_X3_takeSeed.g 4 rfl) 13 rfl h (fun h => ?_) (fun h => ?_)
  · refine jr_iconst hC (D_X3_takeSeed.g 5 rfl) ?_
    exact jr_zret hC (D_X3_takeSeed.g 6 rfl) hr hE h
  refine jr_aload_n hC (D_X3_takeSeed.g 7 rfl) 0 rfl ?_
  refine jr_getR hC fl_X3_15 rfl (D_X3_takeSeed.g 8 rfl) h (fun r3 h => ?_)
  refine jr_aload_n hC (D_X3_takeSeed.g 9 rfl) 0 rfl ?_
  refine jr_iconst hC (D_X3_takeSeed.g 10 rfl) ?_
  refine jr_cVi hC cl_X3_113 ⟨rfl, by decide⟩ (D_X3_takeSeed.g 11 rfl) [q_i 1] h (fun r M' e => c_X3_numberBefore e) rfl rfl ⟨by decide, by decide⟩ (Nat.le_of_ble_eq_true rfl) ⟨Nat.le_of_ble_eq_true rfl, Nat.le_of_ble_eq_true rfl⟩ (fun v4 M5 h => ?_)
  refine jr_putI hC fl_X3_130 rfl (jnfin rfl) (D_X3_takeSeed.g 12 rfl) h (fun M6 _ h => ?_)
  refine jr_iconst hC (D_X3_takeSeed.g 13 rfl) ?_
  exact jr_zret hC (D_X3_takeSeed.g 14 rfl) hr hE h
def f_X3_takeTell (th : Nat) (M : jMem) : Option (Int × jMem) :=
(jm_gI 3 4 M th).bind fun v1 =>
if jd_wr v1 = jd_wr 20 then (jcall 3 M th (f_X3_accept th 1 M) fun v2 M3 =>
jjq (fun (M_39 : jMem) =>
jm_z 0 M_39) fun j_39 =>
if jd_wr v2 = 0 then (j_39 M3)
else (jcall 3 M3 th (f_X3_takeSquare th M3) fun v4 M5 =>
if jd_wr v4 = 0 then (j_39 M5)
else (jcall 3 M5 th (f_X3_acceptOf th 10 M5) fun v6 M7 =>
if jd_wr v6 = 0 then (j_39 M7)
else (jm_z 1 M7))))
else (if jd_wr v1 = jd_wr 21 then ((jm_gR 3 2 M th).bind fun r8 =>
(jm_gI 8 3 M r8).bind fun v9 =>
jjq (fun (z0_65 : Int) =>
jcall 3 M th (f_X3_accept th z0_65 M) fun v10 M11 =>
jjq (fun (M_91 : jMem) =>
jm_z 0 M_91) fun j_91 =>
if jd_wr v10 = 0 then (j_91 M11)
else (jcall 3 M11 th (f_X3_takeHole th M11) fun v12 M13 =>
if jd_wr v12 = 0 then (j_91 M13)
else (jcall 3 M13 th (f_X3_acceptOf th 10 M13) fun v14 M15 =>
if jd_wr v14 = 0 then (j_91 M15)
else (jm_z 1 M15)))) fun j_65 =>
if jd_wr v9 < jd_wr 12 then (j_65 1)
else (j_65 0))
else (if jd_wr v1 = jd_wr 22 then ((jm_gR 3 2 M th).bind fun r16 =>
(jm_gI 8 4 M r16).bind fun v17 =>
jjq (fun (z0_117 : Int) =>
jcall 3 M th (f_X3_accept th z0_117 M) fun v18 M19 =>
jjq (fun (M_143 : jMem) =>
jm_z 0 M_143) fun j_143 =>
if jd_wr v18 = 0 then (j_143 M19)
else (jcall 3 M19 th (f_X3_takeStone th M19) fun v20 M21 =>
if jd_wr v20 = 0 then (j_143 M21)
else (jcall 3 M21 th (f_X3_acceptOf th 10 M21) fun v22 M23 =>
if jd_wr v22 = 0 then (j_143 M23)
else (jm_z 1 M23)))) fun j_117 =>
if jd_wr v17 < jd_wr 18 then (j_117 1)
else (j_117 0))
else (jjq (if jd_wr v1 = jd_wr 26 then (jcall 3 M th (f_X3_accept th 1 M) fun v24 M25 =>
jjq (fun (M_225 : jMem) =>
jm_z 0 M_225) fun j_225 =>
if jd_wr v24 = 0 then (j_225 M25)
else (jcall 3 M25 th (f_X3_takeSeed th M25) fun v26 M27 =>
if jd_wr v26 = 0 then (j_225 M27)
else (jcall 3 M27 th (f_X3_acceptOf th 10 M27) fun v28 M29 =>
if jd_wr v28 = 0 then (j_225 M29)
else (jm_z 1 M29))))
else ((jm_gI 3 5 M th).bind fun v30 =>
jcall 3 M th (f_X3_refuse th 1 v30 M) fun v31 M32 =>
jm_z v31 M32)) fun j_191 =>
if jd_wr v1 < jd_wr 23 then (j_191 )
else (if jd_wr v1 ≤ jd_wr 25 then (jcall 3 M th (f_X3_accept th 1 M) fun v33 M34 =>
jjq (fun (M_189 : jMem) =>
jm_z 0 M_189) fun j_189 =>
if jd_wr v33 = 0 then (j_189 M34)
else (jcall 3 M34 th (f_X3_takeLaw th (v1 - 23) M34) fun v35 M36 =>
if jd_wr v35 = 0 then (j_189 M36)
else (jcall 3 M36 th (f_X3_acceptOf th 10 M36) fun v37 M38 =>
if jd_wr v37 = 0 then (j_189 M38)
else (jm_z 1 M38))))
else (j_191 )))))
theorem D_X3_takeTell : jDs cX3_takeTell [(0, .aload_n 0, 1, 1), (1, .getfield 53, 3, 4), (4, .istore_n 1, 1, 5), (5, .iload_n 1, 1, 6), (6, .bipush 20, 2, 8), (8, .if_icmp .ne 33, 3, 11), (11, .aload_n 0, 1, 12), (12, .iconst 1, 1, 13), (13, .invokevirtual 78, 3, 16), (16, .ifCond .eq 23, 3, 19), (19, .aload_n 0, 1, 20), (20, .invokevirtual 82, 3, 23), (23, .ifCond .eq 16, 3, 26), (26, .aload_n 0, 1, 27), (27, .bipush 10, 2, 29), (29, .invokevirtual 85, 3, 32), (32, .ifCond .eq 7, 3, 35), (35, .iconst 1, 1, 36), (36, .goto 4, 3, 39), (39, .iconst 0, 1, 40), (40, .ireturn, 1, 41), (41, .iload_n 1, 1, 42), (42, .bipush 21, 2, 44), (44, .if_icmp .ne 49, 3, 47), (47, .aload_n 0, 1, 48), (48, .aload_n 0, 1, 49), (49, .getfield 15, 3, 52), (52, .getfield 89, 3, 55), (55, .bipush 12, 2, 57), (57, .if_icmp .ge 7, 3, 60), (60, .iconst 1, 1, 61), (61, .goto 4, 3, 64), (64, .iconst 0, 1, 65), (65, .invokevirtual 78, 3, 68), (68, .ifCond .eq 23, 3, 71), (71, .aload_n 0, 1, 72), (72, .invokevirtual 92, 3, 75), (75, .ifCond .eq 16, 3, 78), (78, .aload_n 0, 1, 79), (79, .bipush 10, 2, 81), (81, .invokevirtual 85, 3, 84), (84, .ifCond .eq 7, 3, 87), (87, .iconst 1, 1, 88), (88, .goto 4, 3, 91), (91, .iconst 0, 1, 92), (92, .ireturn, 1, 93), (93, .iload_n 1, 1, 94), (94, .bipush 22, 2, 96), (96, .if_icmp .ne 49, 3, 99), (99, .aload_n 0, 1, 100), (100, .aload_n 0, 1, 101), (101, .getfield 15, 3, 104), (104, .getfield 95, 3, 107), (107, .bipush 18, 2, 109), (109, .if_icmp .ge 7, 3, 112), (112, .iconst 1, 1, 113), (113, .goto 4, 3, 116), (116, .iconst 0, 1, 117), (117, .invokevirtual 78, 3, 120), (120, .ifCond .eq 23, 3, 123), (123, .aload_n 0, 1, 124), (124, .invokevirtual 98, 3, 127), (127, .ifCond .eq 16, 3, 130), (130, .aload_n 0, 1, 131), (131, .bipush 10, 2, 133), (133, .invokevirtual 85, 3, 136), (136, .ifCond .eq 7, 3, 139), (139, .iconst 1, 1, 140), (140, .goto 4, 3, 143), (143, .iconst 0, 1, 144), (144, .ireturn, 1, 145), (145, .iload_n 1, 1, 146), (146, .bipush 23, 2, 148), (148, .if_icmp .lt 43, 3, 151), (151, .iload_n 1, 1, 152), (152, .bipush 25, 2, 154), (154, .if_icmp .gt 37, 3, 157), (157, .aload_n 0, 1, 158), (158, .iconst 1, 1, 159), (159, .invokevirtual 78, 3, 162), (162, .ifCond .eq 27, 3, 165), (165, .aload_n 0, 1, 166), (166, .iload_n 1, 1, 167), (167, .bipush 23, 2, 169), (169, .isub, 1, 170), (170, .invokevirtual 101, 3, 173), (173, .ifCond .eq 16, 3, 176), (176, .aload_n 0, 1, 177), (177, .bipush 10, 2, 179), (179, .invokevirtual 85, 3, 182), (182, .ifCond .eq 7, 3, 185), (185, .iconst 1, 1, 186), (186, .goto 4, 3, 189), (189, .iconst 0, 1, 190), (190, .ireturn, 1, 191), (191, .iload_n 1, 1, 192), (192, .bipush 26, 2, 194), (194, .if_icmp .ne 33, 3, 197), (197, .aload_n 0, 1, 198), (198, .iconst 1, 1, 199), (199, .invokevirtual 78, 3, 202), (202, .ifCond .eq 23, 3, 205), (205, .aload_n 0, 1, 206), (206, .invokevirtual 104, 3, 209), (209, .ifCond .eq 16, 3, 212), (212, .aload_n 0, 1, 213), (213, .bipush 10, 2, 215), (215, .invokevirtual 85, 3, 218), (218, .ifCond .eq 7, 3, 221), (221, .iconst 1, 1, 222), (222, .goto 4, 3, 225), (225, .iconst 0, 1, 226), (226, .ireturn, 1, 227), (227, .aload_n 0, 1, 228), (228, .iconst 1, 1, 229), (229, .aload_n 0, 1, 230), (230, .getfield 59, 3, 233), (233, .invokevirtual 66, 3, 236), (236, .ireturn, 1, 237)] := by unfold jDs; decide +kernel
set_option maxRecDepth 100000 in
set_option maxHeartbeats 4000000 in
theorem c_X3_takeTell {E : jE} {th : Nat} {M : jMem} {r : Int} {M' : jMem} (h : f_X3_takeTell th M = some (r, M')) : jMet E yX3_takeTell cX3_takeTell 2 (some .boolean) 66 0 0 [q_r E th] M (some (q_i r)) M' := by
  unfold f_X3_takeTell at h
  refine jMet.of RX3 rfl (by decide +kernel) (Nat.le_of_ble_eq_true rfl) [(0, q_r E th)] rfl (fun X hC hE hr hn => ?_)
  refine jr_aload_n hC (D_X3_takeTell.g 0 rfl) 0 rfl ?_
  refine jr_getI hC fl_X3_53 rfl (D_X3_takeTell.g 1 rfl) h (fun v1 h => ?_)
  refine jr_istore_n hC (D_X3_takeTell.g 2 rfl) (by decide) rfl ?_
  refine jr_iload_n hC (D_X3_takeTell.g 3 rfl) 0 rfl ?_
  refine jr_bipush hC (D_X3_takeTell.g 4 rfl) bp_20 ?_
  refine jr_icmp_ne hC (D_X3_takeTell.g 5 rfl) 41 rfl h (fun h => ?_) (fun h => ?_)
  · refine jr_aload_n hC (D_X3_takeTell.g 6 rfl) 1 rfl ?_
    refine jr_iconst hC (D_X3_takeTell.g 7 rfl) ?_
    refine jr_cVi hC cl_X3_78 ⟨rfl, by decide⟩ (D_X3_takeTell.g 8 rfl) [q_i 1] h (fun r M' e => c_X3_accept e) rfl rfl ⟨by decide, by decide⟩ (Nat.le_of_ble_eq_true rfl) ⟨Nat.le_of_ble_eq_true rfl, Nat.le_of_ble_eq_true rfl⟩ (fun v2 M3 h => ?_)
    refine jr_join h (fun j => ∀ (M_39 : jMem), j M_39 = some (r, M') → JW E X 2 0 0 M_39 39 [] []) ?_ ?_
    · intro M_39 h
      refine jr_iconst hC (D_X3_takeTell.g 19 rfl) ?_
      exact jr_zret hC (D_X3_takeTell.g 20 rfl) hr hE h
    intro j_39 hj_39 h
    refine jr_if_eq hC (D_X3_takeTell.g 9 rfl) 39 rfl h (fun h => ?_) (fun h => ?_)
    · refine jr_pick [] rfl ?_
      exact hj_39 M3 h
    refine jr_aload_n hC (D_X3_takeTell.g 10 rfl) 1 rfl ?_
    refine jr_cVi hC cl_X3_82 ⟨rfl, by decide⟩ (D_X3_takeTell.g 11 rfl) [] h (fun r M' e => c_X3_takeSquare e) rfl rfl ⟨by decide, by decide⟩ (Nat.le_of_ble_eq_true rfl) ⟨Nat.le_of_ble_eq_true rfl, Nat.le_of_ble_eq_true rfl⟩ (fun v4 M5 h => ?_)
    refine jr_if_eq hC (D_X3_takeTell.g 12 rfl) 39 rfl h (fun h => ?_) (fun h => ?_)
    · refine jr_pick [] rfl ?_
      exact hj_39 M5 h
    refine jr_aload_n hC (D_X3_takeTell.g 13 rfl) 1 rfl ?_
    refine jr_bipush hC (D_X3_takeTell.g 14 rfl) bp_10 ?_
    refine jr_cVi hC cl_X3_85 ⟨rfl, by decide⟩ (D_X3_takeTell.g 15 rfl) [q_i 10] h (fun r M' e => c_X3_acceptOf e) rfl rfl ⟨by decide, by decide⟩ (Nat.le_of_ble_eq_true rfl) ⟨Nat.le_of_ble_eq_true rfl, Nat.le_of_ble_eq_true rfl⟩ (fun v6 M7 h => ?_)
    refine jr_if_eq hC (D_X3_takeTell.g 16 rfl) 39 rfl h (fun h => ?_) (fun h => ?_)
    · refine jr_pick [] rfl ?_
      exact hj_39 M7 h
    refine jr_iconst hC (D_X3_takeTell.g 17 rfl) ?_
    refine jr_goto hC (D_X3_takeTell.g 18 rfl) 40 rfl ?_
    exact jr_zret hC (D_X3_takeTell.g 20 rfl) hr hE h
  refine jr_iload_n hC (D_X3_takeTell.g 21 rfl) 0 rfl ?_
  refine jr_bipush hC (D_X3_takeTell.g 22 rfl) bp_21 ?_
  refine jr_icmp_ne hC (D_X3_takeTell.g 23 rfl) 93 rfl h (fun h => ?_) (fun h => ?_)
  · refine jr_aload_n hC (D_X3_takeTell.g 24 rfl) 1 rfl ?_
    refine jr_aload_n hC (D_X3_takeTell.g 25 rfl) 1 rfl ?_
    refine jr_getR hC fl_X3_15 rfl (D_X3_takeTell.g 26 rfl) h (fun r8 h => ?_)
    refine jr_getI hC fl_X3_89 rfl (D_X3_takeTell.g 27 rfl) h (fun v9 h => ?_)
    refine jr_bipush hC (D_X3_takeTell.g 28 rfl) bp_12 ?_
    refine jr_join h (fun j => ∀ (z0_65 : Int), j z0_65 = some (r, M') → JW E X 2 0 0 M 65 [(0, q_r E th)] [q_i z0_65, q_r E th]) ?_ ?_
    · intro z0_65 h
      refine jr_cVi hC cl_X3_78 ⟨rfl, by decide⟩ (D_X3_takeTell.g 33 rfl) [q_i z0_65] h (fun r M' e => c_X3_accept e) rfl rfl ⟨by decide, by decide⟩ (Nat.le_of_ble_eq_true rfl) ⟨Nat.le_of_ble_eq_true rfl, Nat.le_of_ble_eq_true rfl⟩ (fun v10 M11 h => ?_)
      refine jr_join h (fun j => ∀ (M_91 : jMem), j M_91 = some (r, M') → JW E X 2 0 0 M_91 91 [] []) ?_ ?_
      · intro M_91 h
        refine jr_iconst hC (D_X3_takeTell.g 44 rfl) ?_
        exact jr_zret hC (D_X3_takeTell.g 45 rfl) hr hE h
      intro j_91 hj_91 h
      refine jr_if_eq hC (D_X3_takeTell.g 34 rfl) 91 rfl h (fun h => ?_) (fun h => ?_)
      · refine jr_pick [] rfl ?_
        exact hj_91 M11 h
      refine jr_aload_n hC (D_X3_takeTell.g 35 rfl) 0 rfl ?_
      refine jr_cVi hC cl_X3_92 ⟨rfl, by decide⟩ (D_X3_takeTell.g 36 rfl) [] h (fun r M' e => c_X3_takeHole e) rfl rfl ⟨by decide, by decide⟩ (Nat.le_of_ble_eq_true rfl) ⟨Nat.le_of_ble_eq_true rfl, Nat.le_of_ble_eq_true rfl⟩ (fun v12 M13 h => ?_)
      refine jr_if_eq hC (D_X3_takeTell.g 37 rfl) 91 rfl h (fun h => ?_) (fun h => ?_)
      · refine jr_pick [] rfl ?_
        exact hj_91 M13 h
      refine jr_aload_n hC (D_X3_takeTell.g 38 rfl) 0 rfl ?_
      refine jr_bipush hC (D_X3_takeTell.g 39 rfl) bp_10 ?_
      refine jr_cVi hC cl_X3_85 ⟨rfl, by decide⟩ (D_X3_takeTell.g 40 rfl) [q_i 10] h (fun r M' e => c_X3_acceptOf e) rfl rfl ⟨by decide, by decide⟩ (Nat.le_of_ble_eq_true rfl) ⟨Nat.le_of_ble_eq_true rfl, Nat.le_of_ble_eq_true rfl⟩ (fun v14 M15 h => ?_)
      refine jr_if_eq hC (D_X3_takeTell.g 41 rfl) 91 rfl h (fun h => ?_) (fun h => ?_)
      · refine jr_pick [] rfl ?_
        exact hj_91 M15 h
      refine jr_iconst hC (D_X3_takeTell.g 42 rfl) ?_
      refine jr_goto hC (D_X3_takeTell.g 43 rfl) 92 rfl ?_
      exact jr_zret hC (D_X3_takeTell.g 45 rfl) hr hE h
    intro j_65 hj_65 h
    refine jr_icmp_ge hC (D_X3_takeTell.g 29 rfl) 64 rfl h (fun h => ?_) (fun h => ?_)
    · refine jr_iconst hC (D_X3_takeTell.g 30 rfl) ?_
      refine jr_goto hC (D_X3_takeTell.g 31 rfl) 65 rfl ?_
      refine jr_pick [1] rfl ?_
      exact hj_65 1 h
    refine jr_iconst hC (D_X3_takeTell.g 32 rfl) ?_
    refine jr_pick [1] rfl ?_
    exact hj_65 0 h
  refine jr_iload_n hC (D_X3_takeTell.g 46 rfl) 0 rfl ?_
  refine jr_bipush hC (D_X3_takeTell.g 47 rfl) bp_22 ?_
  refine jr_icmp_ne hC (D_X3_takeTell.g 48 rfl) 145 rfl h (fun h => ?_) (fun h => ?_)
  · refine jr_aload_n hC (D_X3_takeTell.g 49 rfl) 1 rfl ?_
    refine jr_aload_n hC (D_X3_takeTell.g 50 rfl) 1 rfl ?_
    refine jr_getR hC fl_X3_15 rfl (D_X3_takeTell.g 51 rfl) h (fun r16 h => ?_)
    refine jr_getI hC fl_X3_95 rfl (D_X3_takeTell.g 52 rfl) h (fun v17 h => ?_)
    refine jr_bipush hC (D_X3_takeTell.g 53 rfl) bp_18 ?_
    refine jr_join h (fun j => ∀ (z0_117 : Int), j z0_117 = some (r, M') → JW E X 2 0 0 M 117 [(0, q_r E th)] [q_i z0_117, q_r E th]) ?_ ?_
    · intro z0_117 h
      refine jr_cVi hC cl_X3_78 ⟨rfl, by decide⟩ (D_X3_takeTell.g 58 rfl) [q_i z0_117] h (fun r M' e => c_X3_accept e) rfl rfl ⟨by decide, by decide⟩ (Nat.le_of_ble_eq_true rfl) ⟨Nat.le_of_ble_eq_true rfl, Nat.le_of_ble_eq_true rfl⟩ (fun v18 M19 h => ?_)
      refine jr_join h (fun j => ∀ (M_143 : jMem), j M_143 = some (r, M') → JW E X 2 0 0 M_143 143 [] []) ?_ ?_
      · intro M_143 h
        refine jr_iconst hC (D_X3_takeTell.g 69 rfl) ?_
        exact jr_zret hC (D_X3_takeTell.g 70 rfl) hr hE h
      intro j_143 hj_143 h
      refine jr_if_eq hC (D_X3_takeTell.g 59 rfl) 143 rfl h (fun h => ?_) (fun h => ?_)
      · refine jr_pick [] rfl ?_
        exact hj_143 M19 h
      refine jr_aload_n hC (D_X3_takeTell.g 60 rfl) 0 rfl ?_
      refine jr_cVi hC cl_X3_98 ⟨rfl, by decide⟩ (D_X3_takeTell.g 61 rfl) [] h (fun r M' e => c_X3_takeStone e) rfl rfl ⟨by decide, by decide⟩ (Nat.le_of_ble_eq_true rfl) ⟨Nat.le_of_ble_eq_true rfl, Nat.le_of_ble_eq_true rfl⟩ (fun v20 M21 h => ?_)
      refine jr_if_eq hC (D_X3_takeTell.g 62 rfl) 143 rfl h (fun h => ?_) (fun h => ?_)
      · refine jr_pick [] rfl ?_
        exact hj_143 M21 h
      refine jr_aload_n hC (D_X3_takeTell.g 63 rfl) 0 rfl ?_
      refine jr_bipush hC (D_X3_takeTell.g 64 rfl) bp_10 ?_
      refine jr_cVi hC cl_X3_85 ⟨rfl, by decide⟩ (D_X3_takeTell.g 65 rfl) [q_i 10] h (fun r M' e => c_X3_acceptOf e) rfl rfl ⟨by decide, by decide⟩ (Nat.le_of_ble_eq_true rfl) ⟨Nat.le_of_ble_eq_true rfl, Nat.le_of_ble_eq_true rfl⟩ (fun v22 M23 h => ?_)
      refine jr_if_eq hC (D_X3_takeTell.g 66 rfl) 143 rfl h (fun h => ?_) (fun h => ?_)
      · refine jr_pick [] rfl ?_
        exact hj_143 M23 h
      refine jr_iconst hC (D_X3_takeTell.g 67 rfl) ?_
      refine jr_goto hC (D_X3_takeTell.g 68 rfl) 144 rfl ?_
      exact jr_zret hC (D_X3_takeTell.g 70 rfl) hr hE h
    intro j_117 hj_117 h
    refine jr_icmp_ge hC (D_X3_takeTell.g 54 rfl) 116 rfl h (fun h => ?_) (fun h => ?_)
    · refine jr_iconst hC (D_X3_takeTell.g 55 rfl) ?_
      refine jr_goto hC (D_X3_takeTell.g 56 rfl) 117 rfl ?_
      refine jr_pick [1] rfl ?_
      exact hj_117 1 h
    refine jr_iconst hC (D_X3_takeTell.g 57 rfl) ?_
    refine jr_pick [1] rfl ?_
    exact hj_117 0 h
  refine jr_iload_n hC (D_X3_takeTell.g 71 rfl) 0 rfl ?_
  refine jr_bipush hC (D_X3_takeTell.g 72 rfl) bp_23 ?_
  refine jr_join h (fun j => j = some (r, M') → JW E X 2 0 0 M 191 [(0, q_r E th), (1, q_i v1)] []) ?_ ?_
  · intro  h
    refine jr_iload_n hC (D_X3_takeTell.g 95 rfl) 1 rfl ?_
    refine jr_bipush hC (D_X3_takeTell.g 96 rfl) bp_26 ?_
    refine jr_icmp_ne hC (D_X3_takeTell.g 97 rfl) 227 rfl h (fun h => ?_) (fun h => ?_)
    · refine jr_aload_n hC (D_X3_takeTell.g 98 rfl) 0 rfl ?_
      refine jr_iconst hC (D_X3_takeTell.g 99 rfl) ?_
      refine jr_cVi hC cl_X3_78 ⟨rfl, by decide⟩ (D_X3_takeTell.g 100 rfl) [q_i 1] h (fun r M' e => c_X3_accept e) rfl rfl ⟨by decide, by decide⟩ (Nat.le_of_ble_eq_true rfl) ⟨Nat.le_of_ble_eq_true rfl, Nat.le_of_ble_eq_true rfl⟩ (fun v24 M25 h => ?_)
      refine jr_join h (fun j => ∀ (M_225 : jMem), j M_225 = some (r, M') → JW E X 2 0 0 M_225 225 [] []) ?_ ?_
      · intro M_225 h
        refine jr_iconst hC (D_X3_takeTell.g 111 rfl) ?_
        exact jr_zret hC (D_X3_takeTell.g 112 rfl) hr hE h
      intro j_225 hj_225 h
      refine jr_if_eq hC (D_X3_takeTell.g 101 rfl) 225 rfl h (fun h => ?_) (fun h => ?_)
      · refine jr_pick [] rfl ?_
        exact hj_225 M25 h
      refine jr_aload_n hC (D_X3_takeTell.g 102 rfl) 0 rfl ?_
      refine jr_cVi hC cl_X3_104 ⟨rfl, by decide⟩ (D_X3_takeTell.g 103 rfl) [] h (fun r M' e => c_X3_takeSeed e) rfl rfl ⟨by decide, by decide⟩ (Nat.le_of_ble_eq_true rfl) ⟨Nat.le_of_ble_eq_true rfl, Nat.le_of_ble_eq_true rfl⟩ (fun v26 M27 h => ?_)
      refine jr_if_eq hC (D_X3_takeTell.g 104 rfl) 225 rfl h (fun h => ?_) (fun h => ?_)
      · refine jr_pick [] rfl ?_
        exact hj_225 M27 h
      refine jr_aload_n hC (D_X3_takeTell.g 105 rfl) 0 rfl ?_
      refine jr_bipush hC (D_X3_takeTell.g 106 rfl) bp_10 ?_
      refine jr_cVi hC cl_X3_85 ⟨rfl, by decide⟩ (D_X3_takeTell.g 107 rfl) [q_i 10] h (fun r M' e => c_X3_acceptOf e) rfl rfl ⟨by decide, by decide⟩ (Nat.le_of_ble_eq_true rfl) ⟨Nat.le_of_ble_eq_true rfl, Nat.le_of_ble_eq_true rfl⟩ (fun v28 M29 h => ?_)
      refine jr_if_eq hC (D_X3_takeTell.g 108 rfl) 225 rfl h (fun h => ?_) (fun h => ?_)
      · refine jr_pick [] rfl ?_
        exact hj_225 M29 h
      refine jr_iconst hC (D_X3_takeTell.g 109 rfl) ?_
      refine jr_goto hC (D_X3_takeTell.g 110 rfl) 226 rfl ?_
      exact jr_zret hC (D_X3_takeTell.g 112 rfl) hr hE h
    refine jr_aload_n hC (D_X3_takeTell.g 113 rfl) 0 rfl ?_
    refine jr_iconst hC (D_X3_takeTell.g 114 rfl) ?_
    refine jr_aload_n hC (D_X3_takeTell.g 115 rfl) 0 rfl ?_
    refine jr_getI hC fl_X3_59 rfl (D_X3_takeTell.g 116 rfl) h (fun v30 h => ?_)
    refine jr_cVi hC cl_X3_66 ⟨rfl, by decide⟩ (D_X3_takeTell.g 117 rfl) [q_i 1, q_i v30] h (fun r M' e => c_X3_refuse e) rfl rfl ⟨by decide, by decide⟩ (Nat.le_of_ble_eq_true rfl) ⟨Nat.le_of_ble_eq_true rfl, Nat.le_of_ble_eq_true rfl⟩ (fun v31 M32 h => ?_)
    exact jr_zret hC (D_X3_takeTell.g 118 rfl) hr hE h
  intro j_191 hj_191 h
  refine jr_icmp_lt hC (D_X3_takeTell.g 73 rfl) 191 rfl h (fun h => ?_) (fun h => ?_)
  · refine jr_pick [1, 0] rfl ?_
    exact hj_191  h
  refine jr_iload_n hC (D_X3_takeTell.g 74 rfl) 0 rfl ?_
  refine jr_bipush hC (D_X3_takeTell.g 75 rfl) bp_25 ?_
  refine jr_icmp_gt hC (D_X3_takeTell.g 76 rfl) 191 rfl h (fun h => ?_) (fun h => ?_)
  · refine jr_aload_n hC (D_X3_takeTell.g 77 rfl) 1 rfl ?_
    refine jr_iconst hC (D_X3_takeTell.g 78 rfl) ?_
    refine jr_cVi hC cl_X3_78 ⟨rfl, by decide⟩ (D_X3_takeTell.g 79 rfl) [q_i 1] h (fun r M' e => c_X3_accept e) rfl rfl ⟨by decide, by decide⟩ (Nat.le_of_ble_eq_true rfl) ⟨Nat.le_of_ble_eq_true rfl, Nat.le_of_ble_eq_true rfl⟩ (fun v33 M34 h => ?_)
    refine jr_join h (fun j => ∀ (M_189 : jMem), j M_189 = some (r, M') → JW E X 2 0 0 M_189 189 [] []) ?_ ?_
    · intro M_189 h
      refine jr_iconst hC (D_X3_takeTell.g 93 rfl) ?_
      exact jr_zret hC (D_X3_takeTell.g 94 rfl) hr hE h
    intro j_189 hj_189 h
    refine jr_if_eq hC (D_X3_takeTell.g 80 rfl) 189 rfl h (fun h => ?_) (fun h => ?_)
    · refine jr_pick [] rfl ?_
      exact hj_189 M34 h
    refine jr_aload_n hC (D_X3_takeTell.g 81 rfl) 1 rfl ?_
    refine jr_iload_n hC (D_X3_takeTell.g 82 rfl) 0 rfl ?_
    refine jr_bipush hC (D_X3_takeTell.g 83 rfl) bp_23 ?_
    refine jr_isub hC (D_X3_takeTell.g 84 rfl) ?_
    refine jr_cVi hC cl_X3_101 ⟨rfl, by decide⟩ (D_X3_takeTell.g 85 rfl) [q_i (v1 - 23)] h (fun r M' e => c_X3_takeLaw e) rfl rfl ⟨by decide, by decide⟩ (Nat.le_of_ble_eq_true rfl) ⟨Nat.le_of_ble_eq_true rfl, Nat.le_of_ble_eq_true rfl⟩ (fun v35 M36 h => ?_)
    refine jr_if_eq hC (D_X3_takeTell.g 86 rfl) 189 rfl h (fun h => ?_) (fun h => ?_)
    · refine jr_pick [] rfl ?_
      exact hj_189 M36 h
    refine jr_aload_n hC (D_X3_takeTell.g 87 rfl) 1 rfl ?_
    refine jr_bipush hC (D_X3_takeTell.g 88 rfl) bp_10 ?_
    refine jr_cVi hC cl_X3_85 ⟨rfl, by decide⟩ (D_X3_takeTell.g 89 rfl) [q_i 10] h (fun r M' e => c_X3_acceptOf e) rfl rfl ⟨by decide, by decide⟩ (Nat.le_of_ble_eq_true rfl) ⟨Nat.le_of_ble_eq_true rfl, Nat.le_of_ble_eq_true rfl⟩ (fun v37 M38 h => ?_)
    refine jr_if_eq hC (D_X3_takeTell.g 90 rfl) 189 rfl h (fun h => ?_) (fun h => ?_)
    · refine jr_pick [] rfl ?_
      exact hj_189 M38 h
    refine jr_iconst hC (D_X3_takeTell.g 91 rfl) ?_
    refine jr_goto hC (D_X3_takeTell.g 92 rfl) 190 rfl ?_
    exact jr_zret hC (D_X3_takeTell.g 94 rfl) hr hE h
  refine jr_pick [1, 0] rfl ?_
  exact hj_191  h
def f_X3_parse (th : Nat) (a1 : Nat) (M : jMem) : Option (Int × jMem) :=
(jm_pR 3 2 M th a1).bind fun M1 =>
(jm_gR 3 2 M1 th).bind fun r2 =>
jcall 8 M1 r2 (f_X8_clear r2 M1) fun _ M4 =>
(jm_pI 3 6 M4 th (-1)).bind fun M5 =>
(jm_pI 3 7 M5 th 0).bind fun M6 =>
(jm_pI 3 8 M6 th (-1)).bind fun M7 =>
(jm_gR 3 1 M7 th).bind fun r8 =>
jcall 9 M7 r8 (f_X9_cutAll r8 M7) fun _ M10 =>
(jm_pI 3 3 M10 th 0).bind fun M11 =>
(jm_gR 3 1 M11 th).bind fun r12 =>
(jm_gI 3 3 M11 th).bind fun v13 =>
jcall 9 M11 r12 (f_X9_kindOf r12 v13 M11) fun v14 M15 =>
(jm_pI 3 4 M15 th v14).bind fun M16 =>
(jm_gR 3 1 M16 th).bind fun r17 =>
(jm_gI 3 3 M16 th).bind fun v18 =>
jcall 9 M16 r17 (f_X9_placeOf r17 v18 M16) fun v19 M20 =>
(jm_pI 3 5 M20 th v19).bind fun M21 =>
jlp2 (fun rec_71 (y2_71 : Int) (M_71 : jMem) =>
jjq ((jm_gI 3 7 M_71 th).bind fun v22 =>
jjq (fun (M_128 : jMem) =>
(jm_gI 3 7 M_128 th).bind fun v23 =>
jjq (fun (M_159 : jMem) =>
(jm_gI 3 7 M_159 th).bind fun v24 =>
some (v24, M_159)) fun j_159 =>
if jd_wr v23 = 0 then ((jm_gR 3 2 M_128 th).bind fun r25 =>
jcall 8 M_128 r25 (f_X8_fitsSquare r25 M_128) fun v26 M27 =>
if jd_wr v26 = 0 then ((jm_gR 3 0 M27 th).bind fun r28 =>
(jm_gI 7 1 M27 r28).bind fun v29 =>
jcall 3 M27 th (f_X3_refuse th 6 v29 M27) fun v30 M31 =>
j_159 M31)
else (j_159 M27))
else (j_159 M_128)) fun j_128 =>
if jd_wr v22 = 0 then ((jm_gI 3 6 M_71 th).bind fun v32 =>
if jd_wr v32 = jd_wr (-1) then (j_128 M_71)
else ((jm_gI 3 6 M_71 th).bind fun v33 =>
jcall 3 M_71 th (f_X3_refuse th 5 v33 M_71) fun v34 M35 =>
j_128 M35))
else (j_128 M_71)) fun j_103 =>
if jd_wr y2_71 ≤ jd_wr 400 then ((jm_gI 3 4 M_71 th).bind fun v36 =>
if jd_wr v36 = 0 then (j_103 )
else ((jm_gI 3 7 M_71 th).bind fun v37 =>
if jd_wr v37 = 0 then (jcall 3 M_71 th (f_X3_takeTell th M_71) fun v38 M39 =>
rec_71 (y2_71 + 1) M39)
else (j_103 )))
else (j_103 )) jfuel 0 M21
theorem D_X3_parse : jDs cX3_parse [(0, .aload_n 0, 1, 1), (1, .aload_n 1, 1, 2), (2, .putfield 15, 3, 5), (5, .aload_n 0, 1, 6), (6, .getfield 15, 3, 9), (9, .invokevirtual 32, 3, 12), (12, .aload_n 0, 1, 13), (13, .iconst (-1), 1, 14), (14, .putfield 37, 3, 17), (17, .aload_n 0, 1, 18), (18, .iconst 0, 1, 19), (19, .putfield 40, 3, 22), (22, .aload_n 0, 1, 23), (23, .iconst (-1), 1, 24), (24, .putfield 28, 3, 27), (27, .aload_n 0, 1, 28), (28, .getfield 24, 3, 31), (31, .invokevirtual 43, 3, 34), (34, .aload_n 0, 1, 35), (35, .iconst 0, 1, 36), (36, .putfield 46, 3, 39), (39, .aload_n 0, 1, 40), (40, .aload_n 0, 1, 41), (41, .getfield 24, 3, 44), (44, .aload_n 0, 1, 45), (45, .getfield 46, 3, 48), (48, .invokevirtual 49, 3, 51), (51, .putfield 53, 3, 54), (54, .aload_n 0, 1, 55), (55, .aload_n 0, 1, 56), (56, .getfield 24, 3, 59), (59, .aload_n 0, 1, 60), (60, .getfield 46, 3, 63), (63, .invokevirtual 56, 3, 66), (66, .putfield 59, 3, 69), (69, .iconst 0, 1, 70), (70, .istore_n 2, 1, 71), (71, .iload_n 2, 1, 72), (72, .sipush 400, 3, 75), (75, .if_icmp .gt 28, 3, 78), (78, .aload_n 0, 1, 79), (79, .getfield 53, 3, 82), (82, .ifCond .eq 21, 3, 85), (85, .aload_n 0, 1, 86), (86, .getfield 40, 3, 89), (89, .ifCond .ne 14, 3, 92), (92, .aload_n 0, 1, 93), (93, .invokevirtual 62, 3, 96), (96, .pop, 1, 97), (97, .iinc 2 1, 3, 100), (100, .goto (-29), 3, 103), (103, .aload_n 0, 1, 104), (104, .getfield 40, 3, 107), (107, .ifCond .ne 21, 3, 110), (110, .aload_n 0, 1, 111), (111, .getfield 37, 3, 114), (114, .iconst (-1), 1, 115), (115, .if_icmp .eq 13, 3, 118), (118, .aload_n 0, 1, 119), (119, .iconst 5, 1, 120), (120, .aload_n 0, 1, 121), (121, .getfield 37, 3, 124), (124, .invokevirtual 66, 3, 127), (127, .pop, 1, 128), (128, .aload_n 0, 1, 129), (129, .getfield 40, 3, 132), (132, .ifCond .ne 27, 3, 135), (135, .aload_n 0, 1, 136), (136, .getfield 15, 3, 139), (139, .invokevirtual 70, 3, 142), (142, .ifCond .ne 17, 3, 145), (145, .aload_n 0, 1, 146), (146, .bipush 6, 2, 148), (148, .aload_n 0, 1, 149), (149, .getfield 9, 3, 152), (152, .getfield 73, 3, 155), (155, .invokevirtual 66, 3, 158), (158, .pop, 1, 159), (159, .aload_n 0, 1, 160), (160, .getfield 40, 3, 163), (163, .ireturn, 1, 164)] := by unfold jDs; decide +kernel
set_option maxRecDepth 100000 in
set_option maxHeartbeats 4000000 in
theorem c_X3_parse {E : jE} {th : Nat} {a1 : Nat} {M : jMem} {r : Int} {M' : jMem} (h : f_X3_parse th a1 M = some (r, M')) : jMet E yX3_parse cX3_parse 3 (some .int) 67 0 0 [q_r E th, q_r E a1] M (some (q_i r)) M' := by
  unfold f_X3_parse at h
  refine jMet.of RX3 rfl (by decide +kernel) (Nat.le_of_ble_eq_true rfl) [(0, q_r E th), (1, q_r E a1)] rfl (fun X hC hE hr hn => ?_)
  refine jr_aload_n hC (D_X3_parse.g 0 rfl) 0 rfl ?_
  refine jr_aload_n hC (D_X3_parse.g 1 rfl) 1 rfl ?_
  refine jr_putR hC fl_X3_15 rfl (jnfin2 rfl) (D_X3_parse.g 2 rfl) h (fun M1 _ h => ?_)
  refine jr_aload_n hC (D_X3_parse.g 3 rfl) 0 rfl ?_
  refine jr_getR hC fl_X3_15 rfl (D_X3_parse.g 4 rfl) h (fun r2 h => ?_)
  refine jr_cVv hC cl_X3_32 ⟨rfl, by decide⟩ (D_X3_parse.g 5 rfl) [] h (fun r M' e => c_X8_clear e) rfl rfl ⟨by decide, by decide⟩ (Nat.le_of_ble_eq_true rfl) ⟨Nat.le_of_ble_eq_true rfl, Nat.le_of_ble_eq_true rfl⟩ (fun _ M4 h => ?_)
  refine jr_aload_n hC (D_X3_parse.g 6 rfl) 0 rfl ?_
  refine jr_iconst hC (D_X3_parse.g 7 rfl) ?_
  refine jr_putI hC fl_X3_37 rfl (jnfin rfl) (D_X3_parse.g 8 rfl) h (fun M5 _ h => ?_)
  refine jr_aload_n hC (D_X3_parse.g 9 rfl) 0 rfl ?_
  refine jr_iconst hC (D_X3_parse.g 10 rfl) ?_
  refine jr_putI hC fl_X3_40 rfl (jnfin rfl) (D_X3_parse.g 11 rfl) h (fun M6 _ h => ?_)
  refine jr_aload_n hC (D_X3_parse.g 12 rfl) 0 rfl ?_
  refine jr_iconst hC (D_X3_parse.g 13 rfl) ?_
  refine jr_putI hC fl_X3_28 rfl (jnfin rfl) (D_X3_parse.g 14 rfl) h (fun M7 _ h => ?_)
  refine jr_aload_n hC (D_X3_parse.g 15 rfl) 0 rfl ?_
  refine jr_getR hC fl_X3_24 rfl (D_X3_parse.g 16 rfl) h (fun r8 h => ?_)
  refine jr_cVv hC cl_X3_43 ⟨rfl, by decide⟩ (D_X3_parse.g 17 rfl) [] h (fun r M' e => c_X9_cutAll e) rfl rfl ⟨by decide, by decide⟩ (Nat.le_of_ble_eq_true rfl) ⟨Nat.le_of_ble_eq_true rfl, Nat.le_of_ble_eq_true rfl⟩ (fun _ M10 h => ?_)
  refine jr_aload_n hC (D_X3_parse.g 18 rfl) 0 rfl ?_
  refine jr_iconst hC (D_X3_parse.g 19 rfl) ?_
  refine jr_putI hC fl_X3_46 rfl (jnfin rfl) (D_X3_parse.g 20 rfl) h (fun M11 _ h => ?_)
  refine jr_aload_n hC (D_X3_parse.g 21 rfl) 0 rfl ?_
  refine jr_aload_n hC (D_X3_parse.g 22 rfl) 0 rfl ?_
  refine jr_getR hC fl_X3_24 rfl (D_X3_parse.g 23 rfl) h (fun r12 h => ?_)
  refine jr_aload_n hC (D_X3_parse.g 24 rfl) 0 rfl ?_
  refine jr_getI hC fl_X3_46 rfl (D_X3_parse.g 25 rfl) h (fun v13 h => ?_)
  refine jr_cVi hC cl_X3_49 ⟨rfl, by decide⟩ (D_X3_parse.g 26 rfl) [q_i v13] h (fun r M' e => c_X9_kindOf e) rfl rfl ⟨by decide, by decide⟩ (Nat.le_of_ble_eq_true rfl) ⟨Nat.le_of_ble_eq_true rfl, Nat.le_of_ble_eq_true rfl⟩ (fun v14 M15 h => ?_)
  refine jr_putI hC fl_X3_53 rfl (jnfin rfl) (D_X3_parse.g 27 rfl) h (fun M16 _ h => ?_)
  refine jr_aload_n hC (D_X3_parse.g 28 rfl) 0 rfl ?_
  refine jr_aload_n hC (D_X3_parse.g 29 rfl) 0 rfl ?_
  refine jr_getR hC fl_X3_24 rfl (D_X3_parse.g 30 rfl) h (fun r17 h => ?_)
  refine jr_aload_n hC (D_X3_parse.g 31 rfl) 0 rfl ?_
  refine jr_getI hC fl_X3_46 rfl (D_X3_parse.g 32 rfl) h (fun v18 h => ?_)
  refine jr_cVi hC cl_X3_56 ⟨rfl, by decide⟩ (D_X3_parse.g 33 rfl) [q_i v18] h (fun r M' e => c_X9_placeOf e) rfl rfl ⟨by decide, by decide⟩ (Nat.le_of_ble_eq_true rfl) ⟨Nat.le_of_ble_eq_true rfl, Nat.le_of_ble_eq_true rfl⟩ (fun v19 M20 h => ?_)
  refine jr_putI hC fl_X3_59 rfl (jnfin rfl) (D_X3_parse.g 34 rfl) h (fun M21 _ h => ?_)
  refine jr_iconst hC (D_X3_parse.g 35 rfl) ?_
  refine jr_istore_n hC (D_X3_parse.g 36 rfl) (by decide) rfl ?_
  refine jr_pick [1, 0] rfl ?_
  refine jr_lp2 (fun (y2_71 : Int) (M_71 : jMem) => JW E X 3 0 0 M_71 71 [(0, q_r E th), (2, q_i y2_71)] []) ?_ jfuel 0 M21 h
  intro rec_71 hrec_71 y2_71 M_71 h
  refine jr_iload_n hC (D_X3_parse.g 37 rfl) 1 rfl ?_
  refine jr_sipush hC (D_X3_parse.g 38 rfl) sp_400 ?_
  refine jr_join h (fun j => j = some (r, M') → JW E X 3 0 0 M_71 103 [(0, q_r E th)] []) ?_ ?_
  · intro  h
    refine jr_aload_n hC (D_X3_parse.g 51 rfl) 0 rfl ?_
    refine jr_getI hC fl_X3_40 rfl (D_X3_parse.g 52 rfl) h (fun v22 h => ?_)
    refine jr_join h (fun j => ∀ (M_128 : jMem), j M_128 = some (r, M') → JW E X 3 0 0 M_128 128 [(0, q_r E th)] []) ?_ ?_
    · intro M_128 h
      refine jr_aload_n hC (D_X3_parse.g 64 rfl) 0 rfl ?_
      refine jr_getI hC fl_X3_40 rfl (D_X3_parse.g 65 rfl) h (fun v23 h => ?_)
      refine jr_join h (fun j => ∀ (M_159 : jMem), j M_159 = some (r, M') → JW E X 3 0 0 M_159 159 [(0, q_r E th)] []) ?_ ?_
      · intro M_159 h
        refine jr_aload_n hC (D_X3_parse.g 78 rfl) 0 rfl ?_
        refine jr_getI hC fl_X3_40 rfl (D_X3_parse.g 79 rfl) h (fun v24 h => ?_)
        exact jr_iret hC (D_X3_parse.g 80 rfl) hr hE h
      intro j_159 hj_159 h
      refine jr_if_ne hC (D_X3_parse.g 66 rfl) 159 rfl h (fun h => ?_) (fun h => ?_)
      · refine jr_aload_n hC (D_X3_parse.g 67 rfl) 0 rfl ?_
        refine jr_getR hC fl_X3_15 rfl (D_X3_parse.g 68 rfl) h (fun r25 h => ?_)
        refine jr_cVi hC cl_X3_70 ⟨rfl, by decide⟩ (D_X3_parse.g 69 rfl) [] h (fun r M' e => c_X8_fitsSquare e) rfl rfl ⟨by decide, by decide⟩ (Nat.le_of_ble_eq_true rfl) ⟨Nat.le_of_ble_eq_true rfl, Nat.le_of_ble_eq_true rfl⟩ (fun v26 M27 h => ?_)
        refine jr_if_ne hC (D_X3_parse.g 70 rfl) 159 rfl h (fun h => ?_) (fun h => ?_)
        · refine jr_aload_n hC (D_X3_parse.g 71 rfl) 0 rfl ?_
          refine jr_bipush hC (D_X3_parse.g 72 rfl) bp_6 ?_
          refine jr_aload_n hC (D_X3_parse.g 73 rfl) 0 rfl ?_
          refine jr_getR hC fl_X3_9 rfl (D_X3_parse.g 74 rfl) h (fun r28 h => ?_)
          refine jr_getI hC fl_X3_73 rfl (D_X3_parse.g 75 rfl) h (fun v29 h => ?_)
          refine jr_cVi hC cl_X3_66 ⟨rfl, by decide⟩ (D_X3_parse.g 76 rfl) [q_i 6, q_i v29] h (fun r M' e => c_X3_refuse e) rfl rfl ⟨by decide, by decide⟩ (Nat.le_of_ble_eq_true rfl) ⟨Nat.le_of_ble_eq_true rfl, Nat.le_of_ble_eq_true rfl⟩ (fun v30 M31 h => ?_)
          refine jr_pop hC (D_X3_parse.g 77 rfl) rfl ?_
          exact hj_159 M31 h
        exact hj_159 M27 h
      exact hj_159 M_128 h
    intro j_128 hj_128 h
    refine jr_if_ne hC (D_X3_parse.g 53 rfl) 128 rfl h (fun h => ?_) (fun h => ?_)
    · refine jr_aload_n hC (D_X3_parse.g 54 rfl) 0 rfl ?_
      refine jr_getI hC fl_X3_37 rfl (D_X3_parse.g 55 rfl) h (fun v32 h => ?_)
      refine jr_iconst hC (D_X3_parse.g 56 rfl) ?_
      refine jr_icmp_eq hC (D_X3_parse.g 57 rfl) 128 rfl h (fun h => ?_) (fun h => ?_)
      · exact hj_128 M_71 h
      refine jr_aload_n hC (D_X3_parse.g 58 rfl) 0 rfl ?_
      refine jr_iconst hC (D_X3_parse.g 59 rfl) ?_
      refine jr_aload_n hC (D_X3_parse.g 60 rfl) 0 rfl ?_
      refine jr_getI hC fl_X3_37 rfl (D_X3_parse.g 61 rfl) h (fun v33 h => ?_)
      refine jr_cVi hC cl_X3_66 ⟨rfl, by decide⟩ (D_X3_parse.g 62 rfl) [q_i 5, q_i v33] h (fun r M' e => c_X3_refuse e) rfl rfl ⟨by decide, by decide⟩ (Nat.le_of_ble_eq_true rfl) ⟨Nat.le_of_ble_eq_true rfl, Nat.le_of_ble_eq_true rfl⟩ (fun v34 M35 h => ?_)
      refine jr_pop hC (D_X3_parse.g 63 rfl) rfl ?_
      exact hj_128 M35 h
    exact hj_128 M_71 h
  intro j_103 hj_103 h
  refine jr_icmp_gt hC (D_X3_parse.g 39 rfl) 103 rfl h (fun h => ?_) (fun h => ?_)
  · refine jr_aload_n hC (D_X3_parse.g 40 rfl) 0 rfl ?_
    refine jr_getI hC fl_X3_53 rfl (D_X3_parse.g 41 rfl) h (fun v36 h => ?_)
    refine jr_if_eq hC (D_X3_parse.g 42 rfl) 103 rfl h (fun h => ?_) (fun h => ?_)
    · refine jr_pick [0] rfl ?_
      exact hj_103  h
    refine jr_aload_n hC (D_X3_parse.g 43 rfl) 0 rfl ?_
    refine jr_getI hC fl_X3_40 rfl (D_X3_parse.g 44 rfl) h (fun v37 h => ?_)
    refine jr_if_ne hC (D_X3_parse.g 45 rfl) 103 rfl h (fun h => ?_) (fun h => ?_)
    · refine jr_aload_n hC (D_X3_parse.g 46 rfl) 0 rfl ?_
      refine jr_cVi hC cl_X3_62 ⟨rfl, by decide⟩ (D_X3_parse.g 47 rfl) [] h (fun r M' e => c_X3_takeTell e) rfl rfl ⟨by decide, by decide⟩ (Nat.le_of_ble_eq_true rfl) ⟨Nat.le_of_ble_eq_true rfl, Nat.le_of_ble_eq_true rfl⟩ (fun v38 M39 h => ?_)
      refine jr_pop hC (D_X3_parse.g 48 rfl) rfl ?_
      refine jr_iinc hC (D_X3_parse.g 49 rfl) 1 rfl (by decide) rfl ?_
      refine jr_goto hC (D_X3_parse.g 50 rfl) 71 rfl ?_
      refine jr_pick [1, 0] rfl ?_
      exact hrec_71 (y2_71 + 1) M39 h
    refine jr_pick [0] rfl ?_
    exact hj_103  h
  refine jr_pick [0] rfl ?_
  exact hj_103  h
