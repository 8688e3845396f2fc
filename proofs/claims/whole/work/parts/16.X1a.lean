/-! ===== 16.X1a: by program ===== -/
def f_X1_clear (th : Nat) (M : jMem) : Option (Int × jMem) :=
(jm_pI 1 4 M th 0).bind fun M1 =>
jlp2 (fun rec_7 (y1_7 : Int) (M_7 : jMem) =>
if jd_wr y1_7 < jd_wr 3 then ((jm_gR 1 2 M_7 th).bind fun r2 =>
(jm_st 22 M_7 r2 y1_7 (jd_z 0)).bind fun M3 =>
rec_7 (y1_7 + 1) M3)
else (some (0, M_7))) jfuel 0 M1
theorem D_X1_clear : jDs cX1_clear [(0, .aload_n 0, 1, 1), (1, .iconst 0, 1, 2), (2, .putfield 25, 3, 5), (5, .iconst 0, 1, 6), (6, .istore_n 1, 1, 7), (7, .iload_n 1, 1, 8), (8, .iconst 3, 1, 9), (9, .if_icmp .ge 16, 3, 12), (12, .aload_n 0, 1, 13), (13, .getfield 21, 3, 16), (16, .iload_n 1, 1, 17), (17, .iconst 0, 1, 18), (18, .bastore, 1, 19), (19, .iinc 1 1, 3, 22), (22, .goto (-15), 3, 25), (25, .return_, 1, 26)] := by unfold jDs; decide +kernel
set_option maxRecDepth 100000 in
set_option maxHeartbeats 4000000 in
theorem c_X1_clear {E : jE} {th : Nat} {M : jMem} {r : Int} {M' : jMem} (h : f_X1_clear th M = some (r, M')) : jMet E yX1_clear cX1_clear 2 (none) 2 0 0 [q_r E th] M (none) M' := by
  unfold f_X1_clear at h
  refine jMet.of RX1 rfl (by decide +kernel) (Nat.le_of_ble_eq_true rfl) [(0, q_r E th)] rfl (fun X hC hE hr hn => ?_)
  refine jr_aload_n hC (D_X1_clear.g 0 rfl) 0 rfl ?_
  refine jr_iconst hC (D_X1_clear.g 1 rfl) ?_
  refine jr_putI hC fl_X1_25 rfl (jnfin rfl) (D_X1_clear.g 2 rfl) h (fun M1 _ h => ?_)
  refine jr_iconst hC (D_X1_clear.g 3 rfl) ?_
  refine jr_istore_n hC (D_X1_clear.g 4 rfl) (by decide) rfl ?_
  refine jr_pick [1, 0] rfl ?_
  refine jr_lp2 (fun (y1_7 : Int) (M_7 : jMem) => JW E X 2 0 0 M_7 7 [(0, q_r E th), (1, q_i y1_7)] []) ?_ jfuel 0 M1 h
  intro rec_7 hrec_7 y1_7 M_7 h
  refine jr_iload_n hC (D_X1_clear.g 5 rfl) 1 rfl ?_
  refine jr_iconst hC (D_X1_clear.g 6 rfl) ?_
  refine jr_icmp_ge hC (D_X1_clear.g 7 rfl) 25 rfl h (fun h => ?_) (fun h => ?_)
  · refine jr_aload_n hC (D_X1_clear.g 8 rfl) 0 rfl ?_
    refine jr_getR hC fl_X1_21 rfl (D_X1_clear.g 9 rfl) h (fun r2 h => ?_)
    refine jr_iload_n hC (D_X1_clear.g 10 rfl) 1 rfl ?_
    refine jr_iconst hC (D_X1_clear.g 11 rfl) ?_
    refine jr_zast hC (D_X1_clear.g 12 rfl) h (fun M3 _ h => ?_)
    refine jr_iinc hC (D_X1_clear.g 13 rfl) 1 rfl (by decide) rfl ?_
    refine jr_goto hC (D_X1_clear.g 14 rfl) 7 rfl ?_
    refine jr_pick [1, 0] rfl ?_
    exact hrec_7 (y1_7 + 1) M3 h
  exact jr_vret hC (D_X1_clear.g 15 rfl) hr hE h
def f_X1_keepForUndo (th : Nat) (a1 : Nat) (M : jMem) : Option (Int × jMem) :=
(jm_gI 1 3 M th).bind fun v1 =>
(jm_rm (v1 + 1) 40).bind fun v2 =>
(jm_pI 1 3 M th v2).bind fun M3 =>
(jm_gR 1 0 M3 th).bind fun r4 =>
(jm_gI 1 3 M3 th).bind fun v5 =>
(jm_ldR 25 M3 r4 v5).bind fun r6 =>
jcall 6 M3 r6 (f_X6_copyOf r6 a1 M3) fun _ M8 =>
(jm_gI 1 4 M8 th).bind fun v9 =>
jbd (f_J9_min_7cf53 (v9 + 1) 40 M8) fun v10 M11 =>
(jm_pI 1 4 M11 th v10).bind fun M12 =>
some (0, M12)
theorem D_X1_keepForUndo : jDs cX1_keepForUndo [(0, .aload_n 0, 1, 1), (1, .aload_n 0, 1, 2), (2, .getfield 29, 3, 5), (5, .iconst 1, 1, 6), (6, .iadd, 1, 7), (7, .bipush 40, 2, 9), (9, .irem, 1, 10), (10, .putfield 29, 3, 13), (13, .aload_n 0, 1, 14), (14, .getfield 11, 3, 17), (17, .aload_n 0, 1, 18), (18, .getfield 29, 3, 21), (21, .aaload, 1, 22), (22, .aload_n 1, 1, 23), (23, .invokevirtual 32, 3, 26), (26, .aload_n 0, 1, 27), (27, .aload_n 0, 1, 28), (28, .getfield 25, 3, 31), (31, .iconst 1, 1, 32), (32, .iadd, 1, 33), (33, .bipush 40, 2, 35), (35, .invokestatic 36, 3, 38), (38, .putfield 25, 3, 41), (41, .return_, 1, 42)] := by unfold jDs; decide +kernel
set_option maxRecDepth 100000 in
set_option maxHeartbeats 4000000 in
theorem c_X1_keepForUndo {E : jE} {th : Nat} {a1 : Nat} {M : jMem} {r : Int} {M' : jMem} (h : f_X1_keepForUndo th a1 M = some (r, M')) : jMet E yX1_keepForUndo cX1_keepForUndo 2 (none) 3 0 0 [q_r E th, q_r E a1] M (none) M' := by
  unfold f_X1_keepForUndo at h
  refine jMet.of RX1 rfl (by decide +kernel) (Nat.le_of_ble_eq_true rfl) [(0, q_r E th), (1, q_r E a1)] rfl (fun X hC hE hr hn => ?_)
  refine jr_aload_n hC (D_X1_keepForUndo.g 0 rfl) 0 rfl ?_
  refine jr_aload_n hC (D_X1_keepForUndo.g 1 rfl) 0 rfl ?_
  refine jr_getI hC fl_X1_29 rfl (D_X1_keepForUndo.g 2 rfl) h (fun v1 h => ?_)
  refine jr_iconst hC (D_X1_keepForUndo.g 3 rfl) ?_
  refine jr_iadd hC (D_X1_keepForUndo.g 4 rfl) ?_
  refine jr_bipush hC (D_X1_keepForUndo.g 5 rfl) bp_40 ?_
  refine jr_irem hC (D_X1_keepForUndo.g 6 rfl) h (fun v2 _ h => ?_)
  refine jr_putI hC fl_X1_29 rfl (jnfin rfl) (D_X1_keepForUndo.g 7 rfl) h (fun M3 _ h => ?_)
  refine jr_aload_n hC (D_X1_keepForUndo.g 8 rfl) 0 rfl ?_
  refine jr_getR hC fl_X1_11 rfl (D_X1_keepForUndo.g 9 rfl) h (fun r4 h => ?_)
  refine jr_aload_n hC (D_X1_keepForUndo.g 10 rfl) 0 rfl ?_
  refine jr_getI hC fl_X1_29 rfl (D_X1_keepForUndo.g 11 rfl) h (fun v5 h => ?_)
  refine jr_aald hC 25 5 rfl (by decide) (D_X1_keepForUndo.g 12 rfl) h (fun r6 h => ?_)
  refine jr_aload_n hC (D_X1_keepForUndo.g 13 rfl) 1 rfl ?_
  refine jr_cVv hC cl_X1_32 ⟨rfl, by decide⟩ (D_X1_keepForUndo.g 14 rfl) [q_r E a1] h (fun r M' e => c_X6_copyOf e) rfl rfl ⟨by decide, by decide⟩ (Nat.le_of_ble_eq_true rfl) ⟨Nat.le_of_ble_eq_true rfl, Nat.le_of_ble_eq_true rfl⟩ (fun _ M8 h => ?_)
  refine jr_aload_n hC (D_X1_keepForUndo.g 15 rfl) 0 rfl ?_
  refine jr_aload_n hC (D_X1_keepForUndo.g 16 rfl) 0 rfl ?_
  refine jr_getI hC fl_X1_25 rfl (D_X1_keepForUndo.g 17 rfl) h (fun v9 h => ?_)
  refine jr_iconst hC (D_X1_keepForUndo.g 18 rfl) ?_
  refine jr_iadd hC (D_X1_keepForUndo.g 19 rfl) ?_
  refine jr_bipush hC (D_X1_keepForUndo.g 20 rfl) bp_40 ?_
  refine jr_cSi hC cl_X1_36 (D_X1_keepForUndo.g 21 rfl) [q_i (v9 + 1), q_i 40] h (fun r M' e => c_J9_min_7cf53 e) rfl rfl ⟨by decide, by decide⟩ (Nat.le_of_ble_eq_true rfl) ⟨Nat.le_of_ble_eq_true rfl, Nat.le_of_ble_eq_true rfl⟩ (fun v10 M11 h => ?_)
  refine jr_putI hC fl_X1_25 rfl (jnfin rfl) (D_X1_keepForUndo.g 22 rfl) h (fun M12 _ h => ?_)
  exact jr_vret hC (D_X1_keepForUndo.g 23 rfl) hr hE h
def f_X1_giveBack (th : Nat) (a1 : Nat) (M : jMem) : Option (Int × jMem) :=
(jm_gI 1 4 M th).bind fun v1 =>
if jd_wr v1 = 0 then (jm_z 0 M)
else ((jm_gR 1 0 M th).bind fun r2 =>
(jm_gI 1 3 M th).bind fun v3 =>
(jm_ldR 25 M r2 v3).bind fun r4 =>
jcall 6 M a1 (f_X6_copyOf a1 r4 M) fun _ M6 =>
(jm_gI 1 3 M6 th).bind fun v7 =>
(jm_rm ((v7 + 40) - 1) 40).bind fun v8 =>
(jm_pI 1 3 M6 th v8).bind fun M9 =>
(jm_gI 1 4 M9 th).bind fun v10 =>
(jm_pI 1 4 M9 th (v10 - 1)).bind fun M11 =>
jm_z 1 M11)
theorem D_X1_giveBack : jDs cX1_giveBack [(0, .aload_n 0, 1, 1), (1, .getfield 25, 3, 4), (4, .ifCond .ne 5, 3, 7), (7, .iconst 0, 1, 8), (8, .ireturn, 1, 9), (9, .aload_n 1, 1, 10), (10, .aload_n 0, 1, 11), (11, .getfield 11, 3, 14), (14, .aload_n 0, 1, 15), (15, .getfield 29, 3, 18), (18, .aaload, 1, 19), (19, .invokevirtual 32, 3, 22), (22, .aload_n 0, 1, 23), (23, .aload_n 0, 1, 24), (24, .getfield 29, 3, 27), (27, .bipush 40, 2, 29), (29, .iadd, 1, 30), (30, .iconst 1, 1, 31), (31, .isub, 1, 32), (32, .bipush 40, 2, 34), (34, .irem, 1, 35), (35, .putfield 29, 3, 38), (38, .aload_n 0, 1, 39), (39, .dup, 1, 40), (40, .getfield 25, 3, 43), (43, .iconst 1, 1, 44), (44, .isub, 1, 45), (45, .putfield 25, 3, 48), (48, .iconst 1, 1, 49), (49, .ireturn, 1, 50)] := by unfold jDs; decide +kernel
set_option maxRecDepth 100000 in
set_option maxHeartbeats 4000000 in
theorem c_X1_giveBack {E : jE} {th : Nat} {a1 : Nat} {M : jMem} {r : Int} {M' : jMem} (h : f_X1_giveBack th a1 M = some (r, M')) : jMet E yX1_giveBack cX1_giveBack 2 (some .boolean) 3 0 0 [q_r E th, q_r E a1] M (some (q_i r)) M' := by
  unfold f_X1_giveBack at h
  refine jMet.of RX1 rfl (by decide +kernel) (Nat.le_of_ble_eq_true rfl) [(0, q_r E th), (1, q_r E a1)] rfl (fun X hC hE hr hn => ?_)
  refine jr_aload_n hC (D_X1_giveBack.g 0 rfl) 0 rfl ?_
  refine jr_getI hC fl_X1_25 rfl (D_X1_giveBack.g 1 rfl) h (fun v1 h => ?_)
  refine jr_if_ne hC (D_X1_giveBack.g 2 rfl) 9 rfl h (fun h => ?_) (fun h => ?_)
  · refine jr_iconst hC (D_X1_giveBack.g 3 rfl) ?_
    exact jr_zret hC (D_X1_giveBack.g 4 rfl) hr hE h
  refine jr_aload_n hC (D_X1_giveBack.g 5 rfl) 1 rfl ?_
  refine jr_aload_n hC (D_X1_giveBack.g 6 rfl) 0 rfl ?_
  refine jr_getR hC fl_X1_11 rfl (D_X1_giveBack.g 7 rfl) h (fun r2 h => ?_)
  refine jr_aload_n hC (D_X1_giveBack.g 8 rfl) 0 rfl ?_
  refine jr_getI hC fl_X1_29 rfl (D_X1_giveBack.g 9 rfl) h (fun v3 h => ?_)
  refine jr_aald hC 25 5 rfl (by decide) (D_X1_giveBack.g 10 rfl) h (fun r4 h => ?_)
  refine jr_cVv hC cl_X1_32 ⟨rfl, by decide⟩ (D_X1_giveBack.g 11 rfl) [q_r E r4] h (fun r M' e => c_X6_copyOf e) rfl rfl ⟨by decide, by decide⟩ (Nat.le_of_ble_eq_true rfl) ⟨Nat.le_of_ble_eq_true rfl, Nat.le_of_ble_eq_true rfl⟩ (fun _ M6 h => ?_)
  refine jr_aload_n hC (D_X1_giveBack.g 12 rfl) 0 rfl ?_
  refine jr_aload_n hC (D_X1_giveBack.g 13 rfl) 0 rfl ?_
  refine jr_getI hC fl_X1_29 rfl (D_X1_giveBack.g 14 rfl) h (fun v7 h => ?_)
  refine jr_bipush hC (D_X1_giveBack.g 15 rfl) bp_40 ?_
  refine jr_iadd hC (D_X1_giveBack.g 16 rfl) ?_
  refine jr_iconst hC (D_X1_giveBack.g 17 rfl) ?_
  refine jr_isub hC (D_X1_giveBack.g 18 rfl) ?_
  refine jr_bipush hC (D_X1_giveBack.g 19 rfl) bp_40 ?_
  refine jr_irem hC (D_X1_giveBack.g 20 rfl) h (fun v8 _ h => ?_)
  refine jr_putI hC fl_X1_29 rfl (jnfin rfl) (D_X1_giveBack.g 21 rfl) h (fun M9 _ h => ?_)
  refine jr_aload_n hC (D_X1_giveBack.g 22 rfl) 0 rfl ?_
  refine jr_dup hC (D_X1_giveBack.g 23 rfl) rfl ?_
  refine jr_getI hC fl_X1_25 rfl (D_X1_giveBack.g 24 rfl) h (fun v10 h => ?_)
  refine jr_iconst hC (D_X1_giveBack.g 25 rfl) ?_
  refine jr_isub hC (D_X1_giveBack.g 26 rfl) ?_
  refine jr_putI hC fl_X1_25 rfl (jnfin rfl) (D_X1_giveBack.g 27 rfl) h (fun M11 _ h => ?_)
  refine jr_iconst hC (D_X1_giveBack.g 28 rfl) ?_
  exact jr_zret hC (D_X1_giveBack.g 29 rfl) hr hE h
def f_X1_putIntoSlot (th : Nat) (x1 : Int) (a2 : Nat) (M : jMem) : Option (Int × jMem) :=
if jd_wr x1 < 0 then (jm_z 0 M)
else (if jd_wr x1 < jd_wr 3 then ((jm_gR 1 1 M th).bind fun r1 =>
(jm_ldR 25 M r1 x1).bind fun r2 =>
jcall 6 M r2 (f_X6_copyOf r2 a2 M) fun _ M4 =>
(jm_gR 1 2 M4 th).bind fun r5 =>
(jm_st 22 M4 r5 x1 (jd_z 1)).bind fun M6 =>
jm_z 1 M6)
else (jm_z 0 M))
theorem D_X1_putIntoSlot : jDs cX1_putIntoSlot [(0, .iload_n 1, 1, 1), (1, .ifCond .lt 8, 3, 4), (4, .iload_n 1, 1, 5), (5, .iconst 3, 1, 6), (6, .if_icmp .lt 5, 3, 9), (9, .iconst 0, 1, 10), (10, .ireturn, 1, 11), (11, .aload_n 0, 1, 12), (12, .getfield 18, 3, 15), (15, .iload_n 1, 1, 16), (16, .aaload, 1, 17), (17, .aload_n 2, 1, 18), (18, .invokevirtual 32, 3, 21), (21, .aload_n 0, 1, 22), (22, .getfield 21, 3, 25), (25, .iload_n 1, 1, 26), (26, .iconst 1, 1, 27), (27, .bastore, 1, 28), (28, .iconst 1, 1, 29), (29, .ireturn, 1, 30)] := by unfold jDs; decide +kernel
set_option maxRecDepth 100000 in
set_option maxHeartbeats 4000000 in
theorem c_X1_putIntoSlot {E : jE} {th : Nat} {x1 : Int} {a2 : Nat} {M : jMem} {r : Int} {M' : jMem} (h : f_X1_putIntoSlot th x1 a2 M = some (r, M')) : jMet E yX1_putIntoSlot cX1_putIntoSlot 3 (some .boolean) 3 0 0 [q_r E th, q_i x1, q_r E a2] M (some (q_i r)) M' := by
  unfold f_X1_putIntoSlot at h
  refine jMet.of RX1 rfl (by decide +kernel) (Nat.le_of_ble_eq_true rfl) [(0, q_r E th), (1, q_i x1), (2, q_r E a2)] rfl (fun X hC hE hr hn => ?_)
  refine jr_iload_n hC (D_X1_putIntoSlot.g 0 rfl) 1 rfl ?_
  refine jr_if_lt hC (D_X1_putIntoSlot.g 1 rfl) 9 rfl h (fun h => ?_) (fun h => ?_)
  · refine jr_iconst hC (D_X1_putIntoSlot.g 5 rfl) ?_
    exact jr_zret hC (D_X1_putIntoSlot.g 6 rfl) hr hE h
  refine jr_iload_n hC (D_X1_putIntoSlot.g 2 rfl) 1 rfl ?_
  refine jr_iconst hC (D_X1_putIntoSlot.g 3 rfl) ?_
  refine jr_icmp_lt hC (D_X1_putIntoSlot.g 4 rfl) 11 rfl h (fun h => ?_) (fun h => ?_)
  · refine jr_aload_n hC (D_X1_putIntoSlot.g 7 rfl) 0 rfl ?_
    refine jr_getR hC fl_X1_18 rfl (D_X1_putIntoSlot.g 8 rfl) h (fun r1 h => ?_)
    refine jr_iload_n hC (D_X1_putIntoSlot.g 9 rfl) 1 rfl ?_
    refine jr_aald hC 25 5 rfl (by decide) (D_X1_putIntoSlot.g 10 rfl) h (fun r2 h => ?_)
    refine jr_aload_n hC (D_X1_putIntoSlot.g 11 rfl) 2 rfl ?_
    refine jr_cVv hC cl_X1_32 ⟨rfl, by decide⟩ (D_X1_putIntoSlot.g 12 rfl) [q_r E a2] h (fun r M' e => c_X6_copyOf e) rfl rfl ⟨by decide, by decide⟩ (Nat.le_of_ble_eq_true rfl) ⟨Nat.le_of_ble_eq_true rfl, Nat.le_of_ble_eq_true rfl⟩ (fun _ M4 h => ?_)
    refine jr_aload_n hC (D_X1_putIntoSlot.g 13 rfl) 0 rfl ?_
    refine jr_getR hC fl_X1_21 rfl (D_X1_putIntoSlot.g 14 rfl) h (fun r5 h => ?_)
    refine jr_iload_n hC (D_X1_putIntoSlot.g 15 rfl) 1 rfl ?_
    refine jr_iconst hC (D_X1_putIntoSlot.g 16 rfl) ?_
    refine jr_zast hC (D_X1_putIntoSlot.g 17 rfl) h (fun M6 _ h => ?_)
    refine jr_iconst hC (D_X1_putIntoSlot.g 18 rfl) ?_
    exact jr_zret hC (D_X1_putIntoSlot.g 19 rfl) hr hE h
  refine jr_iconst hC (D_X1_putIntoSlot.g 5 rfl) ?_
  exact jr_zret hC (D_X1_putIntoSlot.g 6 rfl) hr hE h
def f_X1_takeFromSlot (th : Nat) (x1 : Int) (a2 : Nat) (M : jMem) : Option (Int × jMem) :=
if jd_wr x1 < 0 then (jm_z 0 M)
else (if jd_wr x1 < jd_wr 3 then ((jm_gR 1 2 M th).bind fun r1 =>
(jm_ld 22 M r1 x1).bind fun v2 =>
if jd_wr v2 = 0 then (jm_z 0 M)
else ((jm_gR 1 1 M th).bind fun r3 =>
(jm_ldR 25 M r3 x1).bind fun r4 =>
jcall 6 M a2 (f_X6_copyOf a2 r4 M) fun _ M6 =>
(jm_pI 1 4 M6 th 0).bind fun M7 =>
jm_z 1 M7))
else (jm_z 0 M))
theorem D_X1_takeFromSlot : jDs cX1_takeFromSlot [(0, .iload_n 1, 1, 1), (1, .ifCond .lt 17, 3, 4), (4, .iload_n 1, 1, 5), (5, .iconst 3, 1, 6), (6, .if_icmp .ge 12, 3, 9), (9, .aload_n 0, 1, 10), (10, .getfield 21, 3, 13), (13, .iload_n 1, 1, 14), (14, .baload, 1, 15), (15, .ifCond .ne 5, 3, 18), (18, .iconst 0, 1, 19), (19, .ireturn, 1, 20), (20, .aload_n 2, 1, 21), (21, .aload_n 0, 1, 22), (22, .getfield 18, 3, 25), (25, .iload_n 1, 1, 26), (26, .aaload, 1, 27), (27, .invokevirtual 32, 3, 30), (30, .aload_n 0, 1, 31), (31, .iconst 0, 1, 32), (32, .putfield 25, 3, 35), (35, .iconst 1, 1, 36), (36, .ireturn, 1, 37)] := by unfold jDs; decide +kernel
set_option maxRecDepth 100000 in
set_option maxHeartbeats 4000000 in
theorem c_X1_takeFromSlot {E : jE} {th : Nat} {x1 : Int} {a2 : Nat} {M : jMem} {r : Int} {M' : jMem} (h : f_X1_takeFromSlot th x1 a2 M = some (r, M')) : jMet E yX1_takeFromSlot cX1_takeFromSlot 3 (some .boolean) 3 0 0 [q_r E th, q_i x1, q_r E a2] M (some (q_i r)) M' := by
  unfold f_X1_takeFromSlot at h
  refine jMet.of RX1 rfl (by decide +kernel) (Nat.le_of_ble_eq_true rfl) [(0, q_r E th), (1, q_i x1), (2, q_r E a2)] rfl (fun X hC hE hr hn => ?_)
  refine jr_iload_n hC (D_X1_takeFromSlot.g 0 rfl) 1 rfl ?_
  refine jr_if_lt hC (D_X1_takeFromSlot.g 1 rfl) 18 rfl h (fun h => ?_) (fun h => ?_)
  · refine jr_iconst hC (D_X1_takeFromSlot.g 10 rfl) ?_
    exact jr_zret hC (D_X1_takeFromSlot.g 11 rfl) hr hE h
  refine jr_iload_n hC (D_X1_takeFromSlot.g 2 rfl) 1 rfl ?_
  refine jr_iconst hC (D_X1_takeFromSlot.g 3 rfl) ?_
  refine jr_icmp_ge hC (D_X1_takeFromSlot.g 4 rfl) 18 rfl h (fun h => ?_) (fun h => ?_)
  · refine jr_aload_n hC (D_X1_takeFromSlot.g 5 rfl) 0 rfl ?_
    refine jr_getR hC fl_X1_21 rfl (D_X1_takeFromSlot.g 6 rfl) h (fun r1 h => ?_)
    refine jr_iload_n hC (D_X1_takeFromSlot.g 7 rfl) 1 rfl ?_
    refine jr_zald hC (D_X1_takeFromSlot.g 8 rfl) h (fun v2 h => ?_)
    refine jr_if_ne hC (D_X1_takeFromSlot.g 9 rfl) 20 rfl h (fun h => ?_) (fun h => ?_)
    · refine jr_iconst hC (D_X1_takeFromSlot.g 10 rfl) ?_
      exact jr_zret hC (D_X1_takeFromSlot.g 11 rfl) hr hE h
    refine jr_aload_n hC (D_X1_takeFromSlot.g 12 rfl) 2 rfl ?_
    refine jr_aload_n hC (D_X1_takeFromSlot.g 13 rfl) 0 rfl ?_
    refine jr_getR hC fl_X1_18 rfl (D_X1_takeFromSlot.g 14 rfl) h (fun r3 h => ?_)
    refine jr_iload_n hC (D_X1_takeFromSlot.g 15 rfl) 1 rfl ?_
    refine jr_aald hC 25 5 rfl (by decide) (D_X1_takeFromSlot.g 16 rfl) h (fun r4 h => ?_)
    refine jr_cVv hC cl_X1_32 ⟨rfl, by decide⟩ (D_X1_takeFromSlot.g 17 rfl) [q_r E r4] h (fun r M' e => c_X6_copyOf e) rfl rfl ⟨by decide, by decide⟩ (Nat.le_of_ble_eq_true rfl) ⟨Nat.le_of_ble_eq_true rfl, Nat.le_of_ble_eq_true rfl⟩ (fun _ M6 h => ?_)
    refine jr_aload_n hC (D_X1_takeFromSlot.g 18 rfl) 0 rfl ?_
    refine jr_iconst hC (D_X1_takeFromSlot.g 19 rfl) ?_
    refine jr_putI hC fl_X1_25 rfl (jnfin rfl) (D_X1_takeFromSlot.g 20 rfl) h (fun M7 _ h => ?_)
    refine jr_iconst hC (D_X1_takeFromSlot.g 21 rfl) ?_
    exact jr_zret hC (D_X1_takeFromSlot.g 22 rfl) hr hE h
  refine jr_iconst hC (D_X1_takeFromSlot.g 10 rfl) ?_
  exact jr_zret hC (D_X1_takeFromSlot.g 11 rfl) hr hE h
def f_X1_slotsInUse (th : Nat) (M : jMem) : Option (Int × jMem) :=
jlp2 (fun rec_4 (y1_4 : Int) (y2_4 : Int) =>
if jd_wr y2_4 < jd_wr 3 then ((jm_gR 1 2 M th).bind fun r1 =>
(jm_ld 22 M r1 y2_4).bind fun v2 =>
jjq (fun (y1_21 : Int) =>
rec_4 y1_21 (y2_4 + 1)) fun j_21 =>
if jd_wr v2 = 0 then (j_21 y1_4)
else (j_21 (y1_4 + 1)))
else (some (y1_4, M))) jfuel 0 0
theorem D_X1_slotsInUse : jDs cX1_slotsInUse [(0, .iconst 0, 1, 1), (1, .istore_n 1, 1, 2), (2, .iconst 0, 1, 3), (3, .istore_n 2, 1, 4), (4, .iload_n 2, 1, 5), (5, .iconst 3, 1, 6), (6, .if_icmp .ge 21, 3, 9), (9, .aload_n 0, 1, 10), (10, .getfield 21, 3, 13), (13, .iload_n 2, 1, 14), (14, .baload, 1, 15), (15, .ifCond .eq 6, 3, 18), (18, .iinc 1 1, 3, 21), (21, .iinc 2 1, 3, 24), (24, .goto (-20), 3, 27), (27, .iload_n 1, 1, 28), (28, .ireturn, 1, 29)] := by unfold jDs; decide +kernel
set_option maxRecDepth 100000 in
set_option maxHeartbeats 4000000 in
theorem c_X1_slotsInUse {E : jE} {th : Nat} {M : jMem} {r : Int} {M' : jMem} (h : f_X1_slotsInUse th M = some (r, M')) : jMet E yX1_slotsInUse cX1_slotsInUse 3 (some .int) 2 0 0 [q_r E th] M (some (q_i r)) M' := by
  unfold f_X1_slotsInUse at h
  refine jMet.of RX1 rfl (by decide +kernel) (Nat.le_of_ble_eq_true rfl) [(0, q_r E th)] rfl (fun X hC hE hr hn => ?_)
  refine jr_iconst hC (D_X1_slotsInUse.g 0 rfl) ?_
  refine jr_istore_n hC (D_X1_slotsInUse.g 1 rfl) (by decide) rfl ?_
  refine jr_iconst hC (D_X1_slotsInUse.g 2 rfl) ?_
  refine jr_istore_n hC (D_X1_slotsInUse.g 3 rfl) (by decide) rfl ?_
  refine jr_pick [2, 1, 0] rfl ?_
  refine jr_lp2 (fun (y1_4 : Int) (y2_4 : Int) => JW E X 3 0 0 M 4 [(0, q_r E th), (1, q_i y1_4), (2, q_i y2_4)] []) ?_ jfuel 0 0 h
  intro rec_4 hrec_4 y1_4 y2_4 h
  refine jr_iload_n hC (D_X1_slotsInUse.g 4 rfl) 2 rfl ?_
  refine jr_iconst hC (D_X1_slotsInUse.g 5 rfl) ?_
  refine jr_icmp_ge hC (D_X1_slotsInUse.g 6 rfl) 27 rfl h (fun h => ?_) (fun h => ?_)
  · refine jr_aload_n hC (D_X1_slotsInUse.g 7 rfl) 0 rfl ?_
    refine jr_getR hC fl_X1_21 rfl (D_X1_slotsInUse.g 8 rfl) h (fun r1 h => ?_)
    refine jr_iload_n hC (D_X1_slotsInUse.g 9 rfl) 2 rfl ?_
    refine jr_zald hC (D_X1_slotsInUse.g 10 rfl) h (fun v2 h => ?_)
    refine jr_join h (fun j => ∀ (y1_21 : Int), j y1_21 = some (r, M') → JW E X 3 0 0 M 21 [(0, q_r E th), (1, q_i y1_21), (2, q_i y2_4)] []) ?_ ?_
    · intro y1_21 h
      refine jr_iinc hC (D_X1_slotsInUse.g 13 rfl) 2 rfl (by decide) rfl ?_
      refine jr_goto hC (D_X1_slotsInUse.g 14 rfl) 4 rfl ?_
      refine jr_pick [1, 2, 0] rfl ?_
      exact hrec_4 y1_21 (y2_4 + 1) h
    intro j_21 hj_21 h
    refine jr_if_eq hC (D_X1_slotsInUse.g 11 rfl) 21 rfl h (fun h => ?_) (fun h => ?_)
    · exact hj_21 y1_4 h
    refine jr_iinc hC (D_X1_slotsInUse.g 12 rfl) 1 rfl (by decide) rfl ?_
    refine jr_pick [1, 0, 2] rfl ?_
    exact hj_21 (y1_4 + 1) h
  refine jr_iload_n hC (D_X1_slotsInUse.g 15 rfl) 1 rfl ?_
  exact jr_iret hC (D_X1_slotsInUse.g 16 rfl) hr hE h
