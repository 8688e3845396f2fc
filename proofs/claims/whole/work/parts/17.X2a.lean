/-! ===== 17.X2a: by program ===== -/
def f_X2_begin (th : Nat) (x1 : Int) (M : jMem) : Option (Int × jMem) :=
(jm_gR 2 2 M th).bind fun r1 =>
(jm_gI 2 4 M th).bind fun v2 =>
(jm_st 20 M r1 x1 v2).bind fun M3 =>
some (0, M3)
theorem D_X2_begin : jDs cX2_begin [(0, .aload_n 0, 1, 1), (1, .getfield 18, 3, 4), (4, .iload_n 1, 1, 5), (5, .aload_n 0, 1, 6), (6, .getfield 24, 3, 9), (9, .iastore, 1, 10), (10, .return_, 1, 11)] := by unfold jDs; decide +kernel
set_option maxRecDepth 100000 in
set_option maxHeartbeats 4000000 in
theorem c_X2_begin {E : jE} {th : Nat} {x1 : Int} {M : jMem} {r : Int} {M' : jMem} (h : f_X2_begin th x1 M = some (r, M')) : jMet E yX2_begin cX2_begin 2 (none) 2 0 0 [q_r E th, q_i x1] M (none) M' := by
  unfold f_X2_begin at h
  refine jMet.of RX2 rfl (by decide +kernel) (Nat.le_of_ble_eq_true rfl) [(0, q_r E th), (1, q_i x1)] rfl (fun X hC hE hr hn => ?_)
  refine jr_aload_n hC (D_X2_begin.g 0 rfl) 0 rfl ?_
  refine jr_getR hC fl_X2_18 rfl (D_X2_begin.g 1 rfl) h (fun r1 h => ?_)
  refine jr_iload_n hC (D_X2_begin.g 2 rfl) 1 rfl ?_
  refine jr_aload_n hC (D_X2_begin.g 3 rfl) 0 rfl ?_
  refine jr_getI hC fl_X2_24 rfl (D_X2_begin.g 4 rfl) h (fun v2 h => ?_)
  refine jr_iast hC (D_X2_begin.g 5 rfl) h (fun M3 _ h => ?_)
  exact jr_vret hC (D_X2_begin.g 6 rfl) hr hE h
def f_X2_add (th : Nat) (x1 : Int) (x2 : Int) (M : jMem) : Option (Int × jMem) :=
(jm_gI 2 4 M th).bind fun v1 =>
if jd_wr v1 < jd_wr 404 then ((jm_gR 2 0 M th).bind fun r2 =>
(jm_gI 2 4 M th).bind fun v3 =>
(jm_st 20 M r2 v3 x1).bind fun M4 =>
(jm_gR 2 1 M4 th).bind fun r5 =>
(jm_gI 2 4 M4 th).bind fun v6 =>
(jm_st 20 M4 r5 v6 x2).bind fun M7 =>
(jm_gI 2 4 M7 th).bind fun v8 =>
(jm_pI 2 4 M7 th (v8 + 1)).bind fun M9 =>
(jm_gI 2 4 M9 th).bind fun v10 =>
some ((v10 - 1), M9))
else (some ((-1), M))
theorem D_X2_add : jDs cX2_add [(0, .aload_n 0, 1, 1), (1, .getfield 24, 3, 4), (4, .sipush 404, 3, 7), (7, .if_icmp .lt 5, 3, 10), (10, .iconst (-1), 1, 11), (11, .ireturn, 1, 12), (12, .aload_n 0, 1, 13), (13, .getfield 11, 3, 16), (16, .aload_n 0, 1, 17), (17, .getfield 24, 3, 20), (20, .iload_n 1, 1, 21), (21, .iastore, 1, 22), (22, .aload_n 0, 1, 23), (23, .getfield 15, 3, 26), (26, .aload_n 0, 1, 27), (27, .getfield 24, 3, 30), (30, .iload_n 2, 1, 31), (31, .iastore, 1, 32), (32, .aload_n 0, 1, 33), (33, .dup, 1, 34), (34, .getfield 24, 3, 37), (37, .iconst 1, 1, 38), (38, .iadd, 1, 39), (39, .putfield 24, 3, 42), (42, .aload_n 0, 1, 43), (43, .getfield 24, 3, 46), (46, .iconst 1, 1, 47), (47, .isub, 1, 48), (48, .ireturn, 1, 49)] := by unfold jDs; decide +kernel
set_option maxRecDepth 100000 in
set_option maxHeartbeats 4000000 in
theorem c_X2_add {E : jE} {th : Nat} {x1 : Int} {x2 : Int} {M : jMem} {r : Int} {M' : jMem} (h : f_X2_add th x1 x2 M = some (r, M')) : jMet E yX2_add cX2_add 3 (some .int) 2 0 0 [q_r E th, q_i x1, q_i x2] M (some (q_i r)) M' := by
  unfold f_X2_add at h
  refine jMet.of RX2 rfl (by decide +kernel) (Nat.le_of_ble_eq_true rfl) [(0, q_r E th), (1, q_i x1), (2, q_i x2)] rfl (fun X hC hE hr hn => ?_)
  refine jr_aload_n hC (D_X2_add.g 0 rfl) 0 rfl ?_
  refine jr_getI hC fl_X2_24 rfl (D_X2_add.g 1 rfl) h (fun v1 h => ?_)
  refine jr_sipush hC (D_X2_add.g 2 rfl) sp_404 ?_
  refine jr_icmp_lt hC (D_X2_add.g 3 rfl) 12 rfl h (fun h => ?_) (fun h => ?_)
  · refine jr_aload_n hC (D_X2_add.g 6 rfl) 0 rfl ?_
    refine jr_getR hC fl_X2_11 rfl (D_X2_add.g 7 rfl) h (fun r2 h => ?_)
    refine jr_aload_n hC (D_X2_add.g 8 rfl) 0 rfl ?_
    refine jr_getI hC fl_X2_24 rfl (D_X2_add.g 9 rfl) h (fun v3 h => ?_)
    refine jr_iload_n hC (D_X2_add.g 10 rfl) 1 rfl ?_
    refine jr_iast hC (D_X2_add.g 11 rfl) h (fun M4 _ h => ?_)
    refine jr_aload_n hC (D_X2_add.g 12 rfl) 0 rfl ?_
    refine jr_getR hC fl_X2_15 rfl (D_X2_add.g 13 rfl) h (fun r5 h => ?_)
    refine jr_aload_n hC (D_X2_add.g 14 rfl) 0 rfl ?_
    refine jr_getI hC fl_X2_24 rfl (D_X2_add.g 15 rfl) h (fun v6 h => ?_)
    refine jr_iload_n hC (D_X2_add.g 16 rfl) 2 rfl ?_
    refine jr_iast hC (D_X2_add.g 17 rfl) h (fun M7 _ h => ?_)
    refine jr_aload_n hC (D_X2_add.g 18 rfl) 0 rfl ?_
    refine jr_dup hC (D_X2_add.g 19 rfl) rfl ?_
    refine jr_getI hC fl_X2_24 rfl (D_X2_add.g 20 rfl) h (fun v8 h => ?_)
    refine jr_iconst hC (D_X2_add.g 21 rfl) ?_
    refine jr_iadd hC (D_X2_add.g 22 rfl) ?_
    refine jr_putI hC fl_X2_24 rfl (jnfin rfl) (D_X2_add.g 23 rfl) h (fun M9 _ h => ?_)
    refine jr_aload_n hC (D_X2_add.g 24 rfl) 0 rfl ?_
    refine jr_getI hC fl_X2_24 rfl (D_X2_add.g 25 rfl) h (fun v10 h => ?_)
    refine jr_iconst hC (D_X2_add.g 26 rfl) ?_
    refine jr_isub hC (D_X2_add.g 27 rfl) ?_
    exact jr_iret hC (D_X2_add.g 28 rfl) hr hE h
  refine jr_iconst hC (D_X2_add.g 4 rfl) ?_
  exact jr_iret hC (D_X2_add.g 5 rfl) hr hE h
def f_X2_clear (th : Nat) (M : jMem) : Option (Int × jMem) :=
(jm_pI 2 4 M th 0).bind fun M1 =>
jcall 2 M1 th (f_X2_begin th 0 M1) fun _ M3 =>
jcall 2 M3 th (f_X2_add th 0 1 M3) fun v4 M5 =>
jcall 2 M5 th (f_X2_add th 3 0 M5) fun v6 M7 =>
jcall 2 M7 th (f_X2_begin th 1 M7) fun _ M9 =>
jcall 2 M9 th (f_X2_begin th 2 M9) fun _ M11 =>
jcall 2 M11 th (f_X2_add th 0 0 M11) fun v12 M13 =>
jcall 2 M13 th (f_X2_add th 3 0 M13) fun v14 M15 =>
some (0, M15)
theorem D_X2_clear : jDs cX2_clear [(0, .aload_n 0, 1, 1), (1, .iconst 0, 1, 2), (2, .putfield 24, 3, 5), (5, .aload_n 0, 1, 6), (6, .iconst 0, 1, 7), (7, .invokevirtual 28, 3, 10), (10, .aload_n 0, 1, 11), (11, .iconst 0, 1, 12), (12, .iconst 1, 1, 13), (13, .invokevirtual 32, 3, 16), (16, .pop, 1, 17), (17, .aload_n 0, 1, 18), (18, .iconst 3, 1, 19), (19, .iconst 0, 1, 20), (20, .invokevirtual 32, 3, 23), (23, .pop, 1, 24), (24, .aload_n 0, 1, 25), (25, .iconst 1, 1, 26), (26, .invokevirtual 28, 3, 29), (29, .aload_n 0, 1, 30), (30, .iconst 2, 1, 31), (31, .invokevirtual 28, 3, 34), (34, .aload_n 0, 1, 35), (35, .iconst 0, 1, 36), (36, .iconst 0, 1, 37), (37, .invokevirtual 32, 3, 40), (40, .pop, 1, 41), (41, .aload_n 0, 1, 42), (42, .iconst 3, 1, 43), (43, .iconst 0, 1, 44), (44, .invokevirtual 32, 3, 47), (47, .pop, 1, 48), (48, .return_, 1, 49)] := by unfold jDs; decide +kernel
set_option maxRecDepth 100000 in
set_option maxHeartbeats 4000000 in
theorem c_X2_clear {E : jE} {th : Nat} {M : jMem} {r : Int} {M' : jMem} (h : f_X2_clear th M = some (r, M')) : jMet E yX2_clear cX2_clear 1 (none) 3 0 0 [q_r E th] M (none) M' := by
  unfold f_X2_clear at h
  refine jMet.of RX2 rfl (by decide +kernel) (Nat.le_of_ble_eq_true rfl) [(0, q_r E th)] rfl (fun X hC hE hr hn => ?_)
  refine jr_aload_n hC (D_X2_clear.g 0 rfl) 0 rfl ?_
  refine jr_iconst hC (D_X2_clear.g 1 rfl) ?_
  refine jr_putI hC fl_X2_24 rfl (jnfin rfl) (D_X2_clear.g 2 rfl) h (fun M1 _ h => ?_)
  refine jr_aload_n hC (D_X2_clear.g 3 rfl) 0 rfl ?_
  refine jr_iconst hC (D_X2_clear.g 4 rfl) ?_
  refine jr_cVv hC cl_X2_28 ⟨rfl, by decide⟩ (D_X2_clear.g 5 rfl) [q_i 0] h (fun r M' e => c_X2_begin e) rfl rfl ⟨by decide, by decide⟩ (Nat.le_of_ble_eq_true rfl) ⟨Nat.le_of_ble_eq_true rfl, Nat.le_of_ble_eq_true rfl⟩ (fun _ M3 h => ?_)
  refine jr_aload_n hC (D_X2_clear.g 6 rfl) 0 rfl ?_
  refine jr_iconst hC (D_X2_clear.g 7 rfl) ?_
  refine jr_iconst hC (D_X2_clear.g 8 rfl) ?_
  refine jr_cVi hC cl_X2_32 ⟨rfl, by decide⟩ (D_X2_clear.g 9 rfl) [q_i 0, q_i 1] h (fun r M' e => c_X2_add e) rfl rfl ⟨by decide, by decide⟩ (Nat.le_of_ble_eq_true rfl) ⟨Nat.le_of_ble_eq_true rfl, Nat.le_of_ble_eq_true rfl⟩ (fun v4 M5 h => ?_)
  refine jr_pop hC (D_X2_clear.g 10 rfl) rfl ?_
  refine jr_aload_n hC (D_X2_clear.g 11 rfl) 0 rfl ?_
  refine jr_iconst hC (D_X2_clear.g 12 rfl) ?_
  refine jr_iconst hC (D_X2_clear.g 13 rfl) ?_
  refine jr_cVi hC cl_X2_32 ⟨rfl, by decide⟩ (D_X2_clear.g 14 rfl) [q_i 3, q_i 0] h (fun r M' e => c_X2_add e) rfl rfl ⟨by decide, by decide⟩ (Nat.le_of_ble_eq_true rfl) ⟨Nat.le_of_ble_eq_true rfl, Nat.le_of_ble_eq_true rfl⟩ (fun v6 M7 h => ?_)
  refine jr_pop hC (D_X2_clear.g 15 rfl) rfl ?_
  refine jr_aload_n hC (D_X2_clear.g 16 rfl) 0 rfl ?_
  refine jr_iconst hC (D_X2_clear.g 17 rfl) ?_
  refine jr_cVv hC cl_X2_28 ⟨rfl, by decide⟩ (D_X2_clear.g 18 rfl) [q_i 1] h (fun r M' e => c_X2_begin e) rfl rfl ⟨by decide, by decide⟩ (Nat.le_of_ble_eq_true rfl) ⟨Nat.le_of_ble_eq_true rfl, Nat.le_of_ble_eq_true rfl⟩ (fun _ M9 h => ?_)
  refine jr_aload_n hC (D_X2_clear.g 19 rfl) 0 rfl ?_
  refine jr_iconst hC (D_X2_clear.g 20 rfl) ?_
  refine jr_cVv hC cl_X2_28 ⟨rfl, by decide⟩ (D_X2_clear.g 21 rfl) [q_i 2] h (fun r M' e => c_X2_begin e) rfl rfl ⟨by decide, by decide⟩ (Nat.le_of_ble_eq_true rfl) ⟨Nat.le_of_ble_eq_true rfl, Nat.le_of_ble_eq_true rfl⟩ (fun _ M11 h => ?_)
  refine jr_aload_n hC (D_X2_clear.g 22 rfl) 0 rfl ?_
  refine jr_iconst hC (D_X2_clear.g 23 rfl) ?_
  refine jr_iconst hC (D_X2_clear.g 24 rfl) ?_
  refine jr_cVi hC cl_X2_32 ⟨rfl, by decide⟩ (D_X2_clear.g 25 rfl) [q_i 0, q_i 0] h (fun r M' e => c_X2_add e) rfl rfl ⟨by decide, by decide⟩ (Nat.le_of_ble_eq_true rfl) ⟨Nat.le_of_ble_eq_true rfl, Nat.le_of_ble_eq_true rfl⟩ (fun v12 M13 h => ?_)
  refine jr_pop hC (D_X2_clear.g 26 rfl) rfl ?_
  refine jr_aload_n hC (D_X2_clear.g 27 rfl) 0 rfl ?_
  refine jr_iconst hC (D_X2_clear.g 28 rfl) ?_
  refine jr_iconst hC (D_X2_clear.g 29 rfl) ?_
  refine jr_cVi hC cl_X2_32 ⟨rfl, by decide⟩ (D_X2_clear.g 30 rfl) [q_i 3, q_i 0] h (fun r M' e => c_X2_add e) rfl rfl ⟨by decide, by decide⟩ (Nat.le_of_ble_eq_true rfl) ⟨Nat.le_of_ble_eq_true rfl, Nat.le_of_ble_eq_true rfl⟩ (fun v14 M15 h => ?_)
  refine jr_pop hC (D_X2_clear.g 31 rfl) rfl ?_
  exact jr_vret hC (D_X2_clear.g 32 rfl) hr hE h
def f_X2_aimHere (th : Nat) (x1 : Int) (M : jMem) : Option (Int × jMem) :=
if jd_wr x1 < 0 then (some (0, M))
else ((jm_gI 2 4 M th).bind fun v1 =>
if jd_wr x1 < jd_wr v1 then ((jm_gR 2 1 M th).bind fun r2 =>
(jm_gI 2 4 M th).bind fun v3 =>
(jm_st 20 M r2 x1 v3).bind fun M4 =>
some (0, M4))
else (some (0, M)))
theorem D_X2_aimHere : jDs cX2_aimHere [(0, .iload_n 1, 1, 1), (1, .ifCond .lt 21, 3, 4), (4, .iload_n 1, 1, 5), (5, .aload_n 0, 1, 6), (6, .getfield 24, 3, 9), (9, .if_icmp .ge 13, 3, 12), (12, .aload_n 0, 1, 13), (13, .getfield 15, 3, 16), (16, .iload_n 1, 1, 17), (17, .aload_n 0, 1, 18), (18, .getfield 24, 3, 21), (21, .iastore, 1, 22), (22, .return_, 1, 23)] := by unfold jDs; decide +kernel
set_option maxRecDepth 100000 in
set_option maxHeartbeats 4000000 in
theorem c_X2_aimHere {E : jE} {th : Nat} {x1 : Int} {M : jMem} {r : Int} {M' : jMem} (h : f_X2_aimHere th x1 M = some (r, M')) : jMet E yX2_aimHere cX2_aimHere 2 (none) 2 0 0 [q_r E th, q_i x1] M (none) M' := by
  unfold f_X2_aimHere at h
  refine jMet.of RX2 rfl (by decide +kernel) (Nat.le_of_ble_eq_true rfl) [(0, q_r E th), (1, q_i x1)] rfl (fun X hC hE hr hn => ?_)
  refine jr_iload_n hC (D_X2_aimHere.g 0 rfl) 1 rfl ?_
  refine jr_if_lt hC (D_X2_aimHere.g 1 rfl) 22 rfl h (fun h => ?_) (fun h => ?_)
  · exact jr_vret hC (D_X2_aimHere.g 12 rfl) hr hE h
  refine jr_iload_n hC (D_X2_aimHere.g 2 rfl) 1 rfl ?_
  refine jr_aload_n hC (D_X2_aimHere.g 3 rfl) 0 rfl ?_
  refine jr_getI hC fl_X2_24 rfl (D_X2_aimHere.g 4 rfl) h (fun v1 h => ?_)
  refine jr_icmp_ge hC (D_X2_aimHere.g 5 rfl) 22 rfl h (fun h => ?_) (fun h => ?_)
  · refine jr_aload_n hC (D_X2_aimHere.g 6 rfl) 0 rfl ?_
    refine jr_getR hC fl_X2_15 rfl (D_X2_aimHere.g 7 rfl) h (fun r2 h => ?_)
    refine jr_iload_n hC (D_X2_aimHere.g 8 rfl) 1 rfl ?_
    refine jr_aload_n hC (D_X2_aimHere.g 9 rfl) 0 rfl ?_
    refine jr_getI hC fl_X2_24 rfl (D_X2_aimHere.g 10 rfl) h (fun v3 h => ?_)
    refine jr_iast hC (D_X2_aimHere.g 11 rfl) h (fun M4 _ h => ?_)
    exact jr_vret hC (D_X2_aimHere.g 12 rfl) hr hE h
  exact jr_vret hC (D_X2_aimHere.g 12 rfl) hr hE h
def f_X2_variable (x0 : Int) (a1 : Nat) (x2 : Int) (x3 : Int) (M : jMem) : Option (Int × jMem) :=
if jd_wr x0 = 0 then ((jm_gR 6 1 M a1).bind fun r1 =>
(jm_ld 22 M r1 x2).bind fun v2 =>
if jd_wr v2 = 0 then (some (0, M))
else (some (1, M)))
else if jd_wr x0 = 1 then ((jm_gR 6 0 M a1).bind fun r3 =>
(jm_ld 20 M r3 x2).bind fun v4 =>
(jm_gI 6 5 M a1).bind fun v5 =>
jbd (f_X4_columnOf v4 v5 M) fun v6 M7 =>
some (v6, M7))
else if jd_wr x0 = 2 then ((jm_gR 6 0 M a1).bind fun r8 =>
(jm_ld 20 M r8 x2).bind fun v9 =>
(jm_gI 6 5 M a1).bind fun v10 =>
jbd (f_X4_rowOf v9 v10 M) fun v11 M12 =>
some (v11, M12))
else if jd_wr x0 = 3 then ((jm_gR 6 2 M a1).bind fun r13 =>
(jm_ld 20 M r13 x2).bind fun v14 =>
some (v14, M))
else if jd_wr x0 = 4 then ((jm_gR 6 3 M a1).bind fun r15 =>
(jm_ld 20 M r15 x2).bind fun v16 =>
some (v16, M))
else if jd_wr x0 = 5 then ((jm_gI 6 7 M a1).bind fun v17 =>
some (v17, M))
else if jd_wr x0 = 6 then (some (x2, M))
else if jd_wr x0 = 7 then ((jm_gI 6 6 M a1).bind fun v18 =>
some (v18, M))
else (some (x3, M))
theorem D_X2_variable : jDs cX2_variable [(0, .iload_n 0, 1, 1), (1, .tableswitch 116 0 7 #[47, 62, 76, 90, 97, 104, 109, 111], 47, 48), (48, .aload_n 1, 1, 49), (49, .getfield 57, 3, 52), (52, .iload_n 2, 1, 53), (53, .baload, 1, 54), (54, .ifCond .eq 7, 3, 57), (57, .iconst 1, 1, 58), (58, .goto 4, 3, 61), (61, .iconst 0, 1, 62), (62, .ireturn, 1, 63), (63, .aload_n 1, 1, 64), (64, .getfield 63, 3, 67), (67, .iload_n 2, 1, 68), (68, .iaload, 1, 69), (69, .aload_n 1, 1, 70), (70, .getfield 66, 3, 73), (73, .invokestatic 69, 3, 76), (76, .ireturn, 1, 77), (77, .aload_n 1, 1, 78), (78, .getfield 63, 3, 81), (81, .iload_n 2, 1, 82), (82, .iaload, 1, 83), (83, .aload_n 1, 1, 84), (84, .getfield 66, 3, 87), (87, .invokestatic 74, 3, 90), (90, .ireturn, 1, 91), (91, .aload_n 1, 1, 92), (92, .getfield 77, 3, 95), (95, .iload_n 2, 1, 96), (96, .iaload, 1, 97), (97, .ireturn, 1, 98), (98, .aload_n 1, 1, 99), (99, .getfield 80, 3, 102), (102, .iload_n 2, 1, 103), (103, .iaload, 1, 104), (104, .ireturn, 1, 105), (105, .aload_n 1, 1, 106), (106, .getfield 83, 3, 109), (109, .ireturn, 1, 110), (110, .iload_n 2, 1, 111), (111, .ireturn, 1, 112), (112, .aload_n 1, 1, 113), (113, .getfield 86, 3, 116), (116, .ireturn, 1, 117), (117, .iload_n 3, 1, 118), (118, .ireturn, 1, 119)] := by unfold jDs; decide +kernel
set_option maxRecDepth 100000 in
set_option maxHeartbeats 4000000 in
theorem c_X2_variable {E : jE} {x0 : Int} {a1 : Nat} {x2 : Int} {x3 : Int} {M : jMem} {r : Int} {M' : jMem} (h : f_X2_variable x0 a1 x2 x3 M = some (r, M')) : jMet E yX2_variable cX2_variable 4 (some .int) 3 0 0 [q_i x0, q_r E a1, q_i x2, q_i x3] M (some (q_i r)) M' := by
  unfold f_X2_variable at h
  refine jMet.of RX2 rfl (by decide +kernel) (Nat.le_of_ble_eq_true rfl) [(0, q_i x0), (1, q_r E a1), (2, q_i x2), (3, q_i x3)] rfl (fun X hC hE hr hn => ?_)
  refine jr_iload_n hC (D_X2_variable.g 0 rfl) 0 rfl ?_
  by_cases c_0 : jd_wr x0 = 0
  · have h := jif_t h c_0
    refine jr_tswIn hC (D_X2_variable.g 1 rfl) 0 c_0 (by decide) rfl 48 rfl ?_
    refine jr_aload_n hC (D_X2_variable.g 2 rfl) 1 rfl ?_
    refine jr_getR hC fl_X2_57 rfl (D_X2_variable.g 3 rfl) h (fun r1 h => ?_)
    refine jr_iload_n hC (D_X2_variable.g 4 rfl) 2 rfl ?_
    refine jr_zald hC (D_X2_variable.g 5 rfl) h (fun v2 h => ?_)
    refine jr_if_eq hC (D_X2_variable.g 6 rfl) 61 rfl h (fun h => ?_) (fun h => ?_)
    · refine jr_iconst hC (D_X2_variable.g 9 rfl) ?_
      exact jr_iret hC (D_X2_variable.g 10 rfl) hr hE h
    refine jr_iconst hC (D_X2_variable.g 7 rfl) ?_
    refine jr_goto hC (D_X2_variable.g 8 rfl) 62 rfl ?_
    exact jr_iret hC (D_X2_variable.g 10 rfl) hr hE h
  replace h := jif_f h c_0
  by_cases c_1 : jd_wr x0 = 1
  · have h := jif_t h c_1
    refine jr_tswIn hC (D_X2_variable.g 1 rfl) 1 c_1 (by decide) rfl 63 rfl ?_
    refine jr_aload_n hC (D_X2_variable.g 11 rfl) 1 rfl ?_
    refine jr_getR hC fl_X2_63 rfl (D_X2_variable.g 12 rfl) h (fun r3 h => ?_)
    refine jr_iload_n hC (D_X2_variable.g 13 rfl) 2 rfl ?_
    refine jr_iald hC (D_X2_variable.g 14 rfl) h (fun v4 h => ?_)
    refine jr_aload_n hC (D_X2_variable.g 15 rfl) 1 rfl ?_
    refine jr_getI hC fl_X2_66 rfl (D_X2_variable.g 16 rfl) h (fun v5 h => ?_)
    refine jr_cSi hC cl_X2_69 (D_X2_variable.g 17 rfl) [q_i v4, q_i v5] h (fun r M' e => c_X4_columnOf e) rfl rfl ⟨by decide, by decide⟩ (Nat.le_of_ble_eq_true rfl) ⟨Nat.le_of_ble_eq_true rfl, Nat.le_of_ble_eq_true rfl⟩ (fun v6 M7 h => ?_)
    exact jr_iret hC (D_X2_variable.g 18 rfl) hr hE h
  replace h := jif_f h c_1
  by_cases c_2 : jd_wr x0 = 2
  · have h := jif_t h c_2
    refine jr_tswIn hC (D_X2_variable.g 1 rfl) 2 c_2 (by decide) rfl 77 rfl ?_
    refine jr_aload_n hC (D_X2_variable.g 19 rfl) 1 rfl ?_
    refine jr_getR hC fl_X2_63 rfl (D_X2_variable.g 20 rfl) h (fun r8 h => ?_)
    refine jr_iload_n hC (D_X2_variable.g 21 rfl) 2 rfl ?_
    refine jr_iald hC (D_X2_variable.g 22 rfl) h (fun v9 h => ?_)
    refine jr_aload_n hC (D_X2_variable.g 23 rfl) 1 rfl ?_
    refine jr_getI hC fl_X2_66 rfl (D_X2_variable.g 24 rfl) h (fun v10 h => ?_)
    refine jr_cSi hC cl_X2_74 (D_X2_variable.g 25 rfl) [q_i v9, q_i v10] h (fun r M' e => c_X4_rowOf e) rfl rfl ⟨by decide, by decide⟩ (Nat.le_of_ble_eq_true rfl) ⟨Nat.le_of_ble_eq_true rfl, Nat.le_of_ble_eq_true rfl⟩ (fun v11 M12 h => ?_)
    exact jr_iret hC (D_X2_variable.g 26 rfl) hr hE h
  replace h := jif_f h c_2
  by_cases c_3 : jd_wr x0 = 3
  · have h := jif_t h c_3
    refine jr_tswIn hC (D_X2_variable.g 1 rfl) 3 c_3 (by decide) rfl 91 rfl ?_
    refine jr_aload_n hC (D_X2_variable.g 27 rfl) 1 rfl ?_
    refine jr_getR hC fl_X2_77 rfl (D_X2_variable.g 28 rfl) h (fun r13 h => ?_)
    refine jr_iload_n hC (D_X2_variable.g 29 rfl) 2 rfl ?_
    refine jr_iald hC (D_X2_variable.g 30 rfl) h (fun v14 h => ?_)
    exact jr_iret hC (D_X2_variable.g 31 rfl) hr hE h
  replace h := jif_f h c_3
  by_cases c_4 : jd_wr x0 = 4
  · have h := jif_t h c_4
    refine jr_tswIn hC (D_X2_variable.g 1 rfl) 4 c_4 (by decide) rfl 98 rfl ?_
    refine jr_aload_n hC (D_X2_variable.g 32 rfl) 1 rfl ?_
    refine jr_getR hC fl_X2_80 rfl (D_X2_variable.g 33 rfl) h (fun r15 h => ?_)
    refine jr_iload_n hC (D_X2_variable.g 34 rfl) 2 rfl ?_
    refine jr_iald hC (D_X2_variable.g 35 rfl) h (fun v16 h => ?_)
    exact jr_iret hC (D_X2_variable.g 36 rfl) hr hE h
  replace h := jif_f h c_4
  by_cases c_5 : jd_wr x0 = 5
  · have h := jif_t h c_5
    refine jr_tswIn hC (D_X2_variable.g 1 rfl) 5 c_5 (by decide) rfl 105 rfl ?_
    refine jr_aload_n hC (D_X2_variable.g 37 rfl) 1 rfl ?_
    refine jr_getI hC fl_X2_83 rfl (D_X2_variable.g 38 rfl) h (fun v17 h => ?_)
    exact jr_iret hC (D_X2_variable.g 39 rfl) hr hE h
  replace h := jif_f h c_5
  by_cases c_6 : jd_wr x0 = 6
  · have h := jif_t h c_6
    refine jr_tswIn hC (D_X2_variable.g 1 rfl) 6 c_6 (by decide) rfl 110 rfl ?_
    refine jr_iload_n hC (D_X2_variable.g 40 rfl) 2 rfl ?_
    exact jr_iret hC (D_X2_variable.g 41 rfl) hr hE h
  replace h := jif_f h c_6
  by_cases c_7 : jd_wr x0 = 7
  · have h := jif_t h c_7
    refine jr_tswIn hC (D_X2_variable.g 1 rfl) 7 c_7 (by decide) rfl 112 rfl ?_
    refine jr_aload_n hC (D_X2_variable.g 42 rfl) 1 rfl ?_
    refine jr_getI hC fl_X2_86 rfl (D_X2_variable.g 43 rfl) h (fun v18 h => ?_)
    exact jr_iret hC (D_X2_variable.g 44 rfl) hr hE h
  replace h := jif_f h c_7
  refine jr_tswOut hC (D_X2_variable.g 1 rfl) (by omega) 117 rfl ?_
  refine jr_iload_n hC (D_X2_variable.g 45 rfl) 3 rfl ?_
  exact jr_iret hC (D_X2_variable.g 46 rfl) hr hE h
def f_X2_joined (x0 : Int) (x1 : Int) (x2 : Int) (M : jMem) : Option (Int × jMem) :=
if jd_wr x0 = 12 then (some ((x1 + x2), M))
else if jd_wr x0 = 13 then (some ((x1 - x2), M))
else if jd_wr x0 = 14 then (some ((x1 * x2), M))
else (if jd_wr x2 = 0 then (some (0, M))
else ((jm_dv x1 x2).bind fun v1 =>
some (v1, M)))
theorem D_X2_joined : jDs cX2_joined [(0, .iload_n 0, 1, 1), (1, .tableswitch 39 12 14 #[27, 31, 35], 27, 28), (28, .iload_n 1, 1, 29), (29, .iload_n 2, 1, 30), (30, .iadd, 1, 31), (31, .ireturn, 1, 32), (32, .iload_n 1, 1, 33), (33, .iload_n 2, 1, 34), (34, .isub, 1, 35), (35, .ireturn, 1, 36), (36, .iload_n 1, 1, 37), (37, .iload_n 2, 1, 38), (38, .imul, 1, 39), (39, .ireturn, 1, 40), (40, .iload_n 2, 1, 41), (41, .ifCond .ne 7, 3, 44), (44, .iconst 0, 1, 45), (45, .goto 6, 3, 48), (48, .iload_n 1, 1, 49), (49, .iload_n 2, 1, 50), (50, .idiv, 1, 51), (51, .ireturn, 1, 52)] := by unfold jDs; decide +kernel
set_option maxRecDepth 100000 in
set_option maxHeartbeats 4000000 in
theorem c_X2_joined {E : jE} {x0 : Int} {x1 : Int} {x2 : Int} {M : jMem} {r : Int} {M' : jMem} (h : f_X2_joined x0 x1 x2 M = some (r, M')) : jMet E yX2_joined cX2_joined 3 (some .int) 2 0 0 [q_i x0, q_i x1, q_i x2] M (some (q_i r)) M' := by
  unfold f_X2_joined at h
  refine jMet.of RX2 rfl (by decide +kernel) (Nat.le_of_ble_eq_true rfl) [(0, q_i x0), (1, q_i x1), (2, q_i x2)] rfl (fun X hC hE hr hn => ?_)
  refine jr_iload_n hC (D_X2_joined.g 0 rfl) 0 rfl ?_
  by_cases c_0 : jd_wr x0 = 12
  · have h := jif_t h c_0
    refine jr_tswIn hC (D_X2_joined.g 1 rfl) 0 c_0 (by decide) rfl 28 rfl ?_
    refine jr_iload_n hC (D_X2_joined.g 2 rfl) 1 rfl ?_
    refine jr_iload_n hC (D_X2_joined.g 3 rfl) 2 rfl ?_
    refine jr_iadd hC (D_X2_joined.g 4 rfl) ?_
    exact jr_iret hC (D_X2_joined.g 5 rfl) hr hE h
  replace h := jif_f h c_0
  by_cases c_1 : jd_wr x0 = 13
  · have h := jif_t h c_1
    refine jr_tswIn hC (D_X2_joined.g 1 rfl) 1 c_1 (by decide) rfl 32 rfl ?_
    refine jr_iload_n hC (D_X2_joined.g 6 rfl) 1 rfl ?_
    refine jr_iload_n hC (D_X2_joined.g 7 rfl) 2 rfl ?_
    refine jr_isub hC (D_X2_joined.g 8 rfl) ?_
    exact jr_iret hC (D_X2_joined.g 9 rfl) hr hE h
  replace h := jif_f h c_1
  by_cases c_2 : jd_wr x0 = 14
  · have h := jif_t h c_2
    refine jr_tswIn hC (D_X2_joined.g 1 rfl) 2 c_2 (by decide) rfl 36 rfl ?_
    refine jr_iload_n hC (D_X2_joined.g 10 rfl) 1 rfl ?_
    refine jr_iload_n hC (D_X2_joined.g 11 rfl) 2 rfl ?_
    refine jr_imul hC (D_X2_joined.g 12 rfl) ?_
    exact jr_iret hC (D_X2_joined.g 13 rfl) hr hE h
  replace h := jif_f h c_2
  refine jr_tswOut hC (D_X2_joined.g 1 rfl) (by omega) 40 rfl ?_
  refine jr_iload_n hC (D_X2_joined.g 14 rfl) 2 rfl ?_
  refine jr_if_ne hC (D_X2_joined.g 15 rfl) 48 rfl h (fun h => ?_) (fun h => ?_)
  · refine jr_iconst hC (D_X2_joined.g 16 rfl) ?_
    refine jr_goto hC (D_X2_joined.g 17 rfl) 51 rfl ?_
    exact jr_iret hC (D_X2_joined.g 21 rfl) hr hE h
  refine jr_iload_n hC (D_X2_joined.g 18 rfl) 1 rfl ?_
  refine jr_iload_n hC (D_X2_joined.g 19 rfl) 2 rfl ?_
  refine jr_idiv hC (D_X2_joined.g 20 rfl) h (fun v1 _ h => ?_)
  exact jr_iret hC (D_X2_joined.g 21 rfl) hr hE h
def f_X2_worth (th : Nat) (x1 : Int) (a2 : Nat) (x3 : Int) (x4 : Int) (M : jMem) : Option (Int × jMem) :=
(jm_gR 2 2 M th).bind fun r1 =>
(jm_ld 20 M r1 x1).bind fun v2 =>
jlp4 (fun rec_14 (y5_14 : Int) (y6_14 : Int) (y7_14 : Int) (M_14 : jMem) =>
if jd_wr y7_14 < jd_wr 404 then (if jd_wr y5_14 < 0 then (some (0, M_14))
else ((jm_gI 2 4 M_14 th).bind fun v3 =>
if jd_wr y5_14 < jd_wr v3 then ((jm_gR 2 0 M_14 th).bind fun r4 =>
(jm_ld 20 M_14 r4 y5_14).bind fun v5 =>
(jm_gR 2 1 M_14 th).bind fun r6 =>
(jm_ld 20 M_14 r6 y5_14).bind fun v7 =>
if jd_wr v5 = jd_wr 3 then (if jd_wr y6_14 ≤ 0 then (some (0, M_14))
else ((jm_gR 2 3 M_14 th).bind fun r8 =>
(jm_ld 20 M_14 r8 (y6_14 - 1)).bind fun v9 =>
some (v9, M_14)))
else (jjq (fun (y5_223 : Int) (y6_223 : Int) (M_223 : jMem) =>
rec_14 y5_223 y6_223 (y7_14 + 1) M_223) fun j_223 =>
jjq (if jd_wr y6_14 < jd_wr 32 then ((jm_gR 2 3 M_14 th).bind fun r10 =>
jjq (fun (z0_127 : Int) (M_127 : jMem) =>
(jm_st 20 M_127 r10 y6_14 z0_127).bind fun M11 =>
j_223 (y5_14 + 1) (y6_14 + 1) M11) fun j_127 =>
if jd_wr v5 = 0 then (j_127 v7 M_14)
else (jbd (f_X2_variable v7 a2 x3 x4 M_14) fun v12 M13 =>
j_127 v12 M13))
else (some (0, M_14))) fun j_93 =>
if jd_wr v5 = 0 then (j_93 )
else (if jd_wr v5 = jd_wr 1 then (j_93 )
else (if jd_wr y6_14 < jd_wr 2 then (some (0, M_14))
else ((jm_gR 2 3 M_14 th).bind fun r14 =>
(jm_ld 20 M_14 r14 (y6_14 + (-2))).bind fun v15 =>
(jm_gR 2 3 M_14 th).bind fun r16 =>
(jm_ld 20 M_14 r16 ((y6_14 + (-2)) + 1)).bind fun v17 =>
if jd_wr v5 = jd_wr 2 then (jjq (fun (z0_185 : Int) =>
j_223 z0_185 (y6_14 + (-2)) M_14) fun j_185 =>
if jd_wr v15 < jd_wr v17 then (j_185 (y5_14 + 1))
else (j_185 v7))
else (jjq ((jm_gR 2 3 M_14 th).bind fun r18 =>
jbd (f_X2_joined v5 v15 v17 M_14) fun v19 M20 =>
(jm_st 20 M20 r18 (y6_14 + (-2)) v19).bind fun M21 =>
j_223 (y5_14 + 1) ((y6_14 + (-2)) + 1) M21) fun j_204 =>
if jd_wr v5 = jd_wr 15 then (if jd_wr v17 = 0 then (some (0, M_14))
else (j_204 ))
else (j_204 )))))))
else (some (0, M_14))))
else (some (0, M_14))) jfuel v2 0 0 M
theorem D_X2_worth : jDs cX2_worth [(0, .aload_n 0, 1, 1), (1, .getfield 18, 3, 4), (4, .iload_n 1, 1, 5), (5, .iaload, 1, 6), (6, .istore 5, 2, 8), (8, .iconst 0, 1, 9), (9, .istore 6, 2, 11), (11, .iconst 0, 1, 12), (12, .istore 7, 2, 14), (14, .iload 7, 2, 16), (16, .sipush 404, 3, 19), (19, .if_icmp .ge 210, 3, 22), (22, .iload 5, 2, 24), (24, .ifCond .lt 205, 3, 27), (27, .iload 5, 2, 29), (29, .aload_n 0, 1, 30), (30, .getfield 24, 3, 33), (33, .if_icmp .ge 196, 3, 36), (36, .aload_n 0, 1, 37), (37, .getfield 11, 3, 40), (40, .iload 5, 2, 42), (42, .iaload, 1, 43), (43, .istore 8, 2, 45), (45, .aload_n 0, 1, 46), (46, .getfield 15, 3, 49), (49, .iload 5, 2, 51), (51, .iaload, 1, 52), (52, .istore 9, 2, 54), (54, .iinc 5 1, 3, 57), (57, .iload 8, 2, 59), (59, .iconst 3, 1, 60), (60, .if_icmp .ne 22, 3, 63), (63, .iload 6, 2, 65), (65, .ifCond .le 15, 3, 68), (68, .aload_n 0, 1, 69), (69, .getfield 21, 3, 72), (72, .iload 6, 2, 74), (74, .iconst 1, 1, 75), (75, .isub, 1, 76), (76, .iaload, 1, 77), (77, .goto 4, 3, 80), (80, .iconst 0, 1, 81), (81, .ireturn, 1, 82), (82, .iload 8, 2, 84), (84, .ifCond .eq 9, 3, 87), (87, .iload 8, 2, 89), (89, .iconst 1, 1, 90), (90, .if_icmp .ne 44, 3, 93), (93, .iload 6, 2, 95), (95, .bipush 32, 2, 97), (97, .if_icmp .lt 5, 3, 100), (100, .iconst 0, 1, 101), (101, .ireturn, 1, 102), (102, .aload_n 0, 1, 103), (103, .getfield 21, 3, 106), (106, .iload 6, 2, 108), (108, .iload 8, 2, 110), (110, .ifCond .ne 8, 3, 113), (113, .iload 9, 2, 115), (115, .goto 12, 3, 118), (118, .iload 9, 2, 120), (120, .aload_n 2, 1, 121), (121, .iload_n 3, 1, 122), (122, .iload 4, 2, 124), (124, .invokestatic 48, 3, 127), (127, .iastore, 1, 128), (128, .iinc 6 1, 3, 131), (131, .goto 92, 3, 134), (134, .iload 6, 2, 136), (136, .iconst 2, 1, 137), (137, .if_icmp .ge 5, 3, 140), (140, .iconst 0, 1, 141), (141, .ireturn, 1, 142), (142, .iinc 6 (-2), 3, 145), (145, .aload_n 0, 1, 146), (146, .getfield 21, 3, 149), (149, .iload 6, 2, 151), (151, .iaload, 1, 152), (152, .istore 10, 2, 154), (154, .aload_n 0, 1, 155), (155, .getfield 21, 3, 158), (158, .iload 6, 2, 160), (160, .iconst 1, 1, 161), (161, .iadd, 1, 162), (162, .iaload, 1, 163), (163, .istore 11, 2, 165), (165, .iload 8, 2, 167), (167, .iconst 2, 1, 168), (168, .if_icmp .ne 22, 3, 171), (171, .iload 10, 2, 173), (173, .iload 11, 2, 175), (175, .if_icmp .ge 8, 3, 178), (178, .iload 5, 2, 180), (180, .goto 5, 3, 183), (183, .iload 9, 2, 185), (185, .istore 5, 2, 187), (187, .goto 36, 3, 190), (190, .iload 8, 2, 192), (192, .bipush 15, 2, 194), (194, .if_icmp .ne 10, 3, 197), (197, .iload 11, 2, 199), (199, .ifCond .ne 5, 3, 202), (202, .iconst 0, 1, 203), (203, .ireturn, 1, 204), (204, .aload_n 0, 1, 205), (205, .getfield 21, 3, 208), (208, .iload 6, 2, 210), (210, .iload 8, 2, 212), (212, .iload 10, 2, 214), (214, .iload 11, 2, 216), (216, .invokestatic 53, 3, 219), (219, .iastore, 1, 220), (220, .iinc 6 1, 3, 223), (223, .iinc 7 1, 3, 226), (226, .goto (-212), 3, 229), (229, .iconst 0, 1, 230), (230, .ireturn, 1, 231)] := by unfold jDs; decide +kernel
set_option maxRecDepth 100000 in
set_option maxHeartbeats 4000000 in
theorem c_X2_worth {E : jE} {th : Nat} {x1 : Int} {a2 : Nat} {x3 : Int} {x4 : Int} {M : jMem} {r : Int} {M' : jMem} (h : f_X2_worth th x1 a2 x3 x4 M = some (r, M')) : jMet E yX2_worth cX2_worth 12 (some .int) 4 0 0 [q_r E th, q_i x1, q_r E a2, q_i x3, q_i x4] M (some (q_i r)) M' := by
  unfold f_X2_worth at h
  refine jMet.of RX2 rfl (by decide +kernel) (Nat.le_of_ble_eq_true rfl) [(0, q_r E th), (1, q_i x1), (2, q_r E a2), (3, q_i x3), (4, q_i x4)] rfl (fun X hC hE hr hn => ?_)
  refine jr_aload_n hC (D_X2_worth.g 0 rfl) 0 rfl ?_
  refine jr_getR hC fl_X2_18 rfl (D_X2_worth.g 1 rfl) h (fun r1 h => ?_)
  refine jr_iload_n hC (D_X2_worth.g 2 rfl) 1 rfl ?_
  refine jr_iald hC (D_X2_worth.g 3 rfl) h (fun v2 h => ?_)
  refine jr_istore hC (D_X2_worth.g 4 rfl) (by decide) rfl ?_
  refine jr_iconst hC (D_X2_worth.g 5 rfl) ?_
  refine jr_istore hC (D_X2_worth.g 6 rfl) (by decide) rfl ?_
  refine jr_iconst hC (D_X2_worth.g 7 rfl) ?_
  refine jr_istore hC (D_X2_worth.g 8 rfl) (by decide) rfl ?_
  refine jr_pick [3, 5, 6, 7, 2, 1, 0] rfl ?_
  refine jr_lp4 (fun (y5_14 : Int) (y6_14 : Int) (y7_14 : Int) (M_14 : jMem) => JW E X 12 0 0 M_14 14 [(0, q_r E th), (2, q_r E a2), (3, q_i x3), (4, q_i x4), (5, q_i y5_14), (6, q_i y6_14), (7, q_i y7_14)] []) ?_ jfuel v2 0 0 M h
  intro rec_14 hrec_14 y5_14 y6_14 y7_14 M_14 h
  refine jr_iload hC (D_X2_worth.g 9 rfl) 6 rfl ?_
  refine jr_sipush hC (D_X2_worth.g 10 rfl) sp_404 ?_
  refine jr_icmp_ge hC (D_X2_worth.g 11 rfl) 229 rfl h (fun h => ?_) (fun h => ?_)
  · refine jr_iload hC (D_X2_worth.g 12 rfl) 4 rfl ?_
    refine jr_if_lt hC (D_X2_worth.g 13 rfl) 229 rfl h (fun h => ?_) (fun h => ?_)
    · refine jr_iconst hC (D_X2_worth.g 115 rfl) ?_
      exact jr_iret hC (D_X2_worth.g 116 rfl) hr hE h
    refine jr_iload hC (D_X2_worth.g 14 rfl) 4 rfl ?_
    refine jr_aload_n hC (D_X2_worth.g 15 rfl) 0 rfl ?_
    refine jr_getI hC fl_X2_24 rfl (D_X2_worth.g 16 rfl) h (fun v3 h => ?_)
    refine jr_icmp_ge hC (D_X2_worth.g 17 rfl) 229 rfl h (fun h => ?_) (fun h => ?_)
    · refine jr_aload_n hC (D_X2_worth.g 18 rfl) 0 rfl ?_
      refine jr_getR hC fl_X2_11 rfl (D_X2_worth.g 19 rfl) h (fun r4 h => ?_)
      refine jr_iload hC (D_X2_worth.g 20 rfl) 4 rfl ?_
      refine jr_iald hC (D_X2_worth.g 21 rfl) h (fun v5 h => ?_)
      refine jr_istore hC (D_X2_worth.g 22 rfl) (by decide) rfl ?_
      refine jr_aload_n hC (D_X2_worth.g 23 rfl) 1 rfl ?_
      refine jr_getR hC fl_X2_15 rfl (D_X2_worth.g 24 rfl) h (fun r6 h => ?_)
      refine jr_iload hC (D_X2_worth.g 25 rfl) 5 rfl ?_
      refine jr_iald hC (D_X2_worth.g 26 rfl) h (fun v7 h => ?_)
      refine jr_istore hC (D_X2_worth.g 27 rfl) (by decide) rfl ?_
      refine jr_iinc hC (D_X2_worth.g 28 rfl) 6 rfl (by decide) rfl ?_
      refine jr_iload hC (D_X2_worth.g 29 rfl) 2 rfl ?_
      refine jr_iconst hC (D_X2_worth.g 30 rfl) ?_
      refine jr_icmp_ne hC (D_X2_worth.g 31 rfl) 82 rfl h (fun h => ?_) (fun h => ?_)
      · refine jr_iload hC (D_X2_worth.g 32 rfl) 7 rfl ?_
        refine jr_if_le hC (D_X2_worth.g 33 rfl) 80 rfl h (fun h => ?_) (fun h => ?_)
        · refine jr_iconst hC (D_X2_worth.g 41 rfl) ?_
          exact jr_iret hC (D_X2_worth.g 42 rfl) hr hE h
        refine jr_aload_n hC (D_X2_worth.g 34 rfl) 3 rfl ?_
        refine jr_getR hC fl_X2_21 rfl (D_X2_worth.g 35 rfl) h (fun r8 h => ?_)
        refine jr_iload hC (D_X2_worth.g 36 rfl) 7 rfl ?_
        refine jr_iconst hC (D_X2_worth.g 37 rfl) ?_
        refine jr_isub hC (D_X2_worth.g 38 rfl) ?_
        refine jr_iald hC (D_X2_worth.g 39 rfl) h (fun v9 h => ?_)
        refine jr_goto hC (D_X2_worth.g 40 rfl) 81 rfl ?_
        exact jr_iret hC (D_X2_worth.g 42 rfl) hr hE h
      refine jr_iload hC (D_X2_worth.g 43 rfl) 2 rfl ?_
      refine jr_join h (fun j => ∀ (y5_223 : Int) (y6_223 : Int) (M_223 : jMem), j y5_223 y6_223 M_223 = some (r, M') → JW E X 12 0 0 M_223 223 [(0, q_r E th), (2, q_r E a2), (3, q_i x3), (4, q_i x4), (5, q_i y5_223), (6, q_i y6_223), (7, q_i y7_14)] []) ?_ ?_
      · intro y5_223 y6_223 M_223 h
        refine jr_iinc hC (D_X2_worth.g 113 rfl) 6 rfl (by decide) rfl ?_
        refine jr_goto hC (D_X2_worth.g 114 rfl) 14 rfl ?_
        refine jr_pick [1, 2, 3, 4, 5, 6, 0] rfl ?_
        exact hrec_14 y5_223 y6_223 (y7_14 + 1) M_223 h
      intro j_223 hj_223 h
      refine jr_join h (fun j => j = some (r, M') → JW E X 12 0 0 M_14 93 [(0, q_r E th), (2, q_r E a2), (3, q_i x3), (4, q_i x4), (5, q_i (y5_14 + 1)), (6, q_i y6_14), (7, q_i y7_14), (8, q_i v5), (9, q_i v7)] []) ?_ ?_
      · intro  h
        refine jr_iload hC (D_X2_worth.g 48 rfl) 5 rfl ?_
        refine jr_bipush hC (D_X2_worth.g 49 rfl) bp_32 ?_
        refine jr_icmp_lt hC (D_X2_worth.g 50 rfl) 102 rfl h (fun h => ?_) (fun h => ?_)
        · refine jr_aload_n hC (D_X2_worth.g 53 rfl) 0 rfl ?_
          refine jr_getR hC fl_X2_21 rfl (D_X2_worth.g 54 rfl) h (fun r10 h => ?_)
          refine jr_iload hC (D_X2_worth.g 55 rfl) 5 rfl ?_
          refine jr_iload hC (D_X2_worth.g 56 rfl) 7 rfl ?_
          refine jr_join h (fun j => ∀ (z0_127 : Int) (M_127 : jMem), j z0_127 M_127 = some (r, M') → JW E X 12 0 0 M_127 127 [(0, q_r E th), (2, q_r E a2), (3, q_i x3), (4, q_i x4), (5, q_i (y5_14 + 1)), (6, q_i y6_14), (7, q_i y7_14)] [q_i z0_127, q_i y6_14, q_r E r10]) ?_ ?_
          · intro z0_127 M_127 h
            refine jr_iast hC (D_X2_worth.g 65 rfl) h (fun M11 _ h => ?_)
            refine jr_iinc hC (D_X2_worth.g 66 rfl) 5 rfl (by decide) rfl ?_
            refine jr_goto hC (D_X2_worth.g 67 rfl) 223 rfl ?_
            refine jr_pick [1, 2, 3, 4, 5, 0, 6] rfl ?_
            exact hj_223 (y5_14 + 1) (y6_14 + 1) M11 h
          intro j_127 hj_127 h
          refine jr_if_ne hC (D_X2_worth.g 57 rfl) 118 rfl h (fun h => ?_) (fun h => ?_)
          · refine jr_iload hC (D_X2_worth.g 58 rfl) 8 rfl ?_
            refine jr_goto hC (D_X2_worth.g 59 rfl) 127 rfl ?_
            refine jr_pick [0, 1, 2, 3, 4, 5, 6] rfl ?_
            exact hj_127 v7 M_14 h
          refine jr_iload hC (D_X2_worth.g 60 rfl) 8 rfl ?_
          refine jr_aload_n hC (D_X2_worth.g 61 rfl) 1 rfl ?_
          refine jr_iload_n hC (D_X2_worth.g 62 rfl) 2 rfl ?_
          refine jr_iload hC (D_X2_worth.g 63 rfl) 3 rfl ?_
          refine jr_cSi hC cl_X2_48 (D_X2_worth.g 64 rfl) [q_i v7, q_r E a2, q_i x3, q_i x4] h (fun r M' e => c_X2_variable e) rfl rfl ⟨by decide, by decide⟩ (Nat.le_of_ble_eq_true rfl) ⟨Nat.le_of_ble_eq_true rfl, Nat.le_of_ble_eq_true rfl⟩ (fun v12 M13 h => ?_)
          refine jr_pick [0, 1, 2, 3, 4, 5, 6] rfl ?_
          exact hj_127 v12 M13 h
        refine jr_iconst hC (D_X2_worth.g 51 rfl) ?_
        exact jr_iret hC (D_X2_worth.g 52 rfl) hr hE h
      intro j_93 hj_93 h
      refine jr_if_eq hC (D_X2_worth.g 44 rfl) 93 rfl h (fun h => ?_) (fun h => ?_)
      · refine jr_pick [3, 4, 5, 6, 0, 7, 8, 2, 1] rfl ?_
        exact hj_93  h
      refine jr_iload hC (D_X2_worth.g 45 rfl) 2 rfl ?_
      refine jr_iconst hC (D_X2_worth.g 46 rfl) ?_
      refine jr_icmp_ne hC (D_X2_worth.g 47 rfl) 134 rfl h (fun h => ?_) (fun h => ?_)
      · refine jr_pick [3, 4, 5, 6, 0, 7, 8, 2, 1] rfl ?_
        exact hj_93  h
      refine jr_iload hC (D_X2_worth.g 68 rfl) 7 rfl ?_
      refine jr_iconst hC (D_X2_worth.g 69 rfl) ?_
      refine jr_icmp_ge hC (D_X2_worth.g 70 rfl) 142 rfl h (fun h => ?_) (fun h => ?_)
      · refine jr_iconst hC (D_X2_worth.g 71 rfl) ?_
        exact jr_iret hC (D_X2_worth.g 72 rfl) hr hE h
      refine jr_iinc hC (D_X2_worth.g 73 rfl) 7 rfl (by decide) rfl ?_
      refine jr_aload_n hC (D_X2_worth.g 74 rfl) 4 rfl ?_
      refine jr_getR hC fl_X2_21 rfl (D_X2_worth.g 75 rfl) h (fun r14 h => ?_)
      refine jr_iload hC (D_X2_worth.g 76 rfl) 0 rfl ?_
      refine jr_iald hC (D_X2_worth.g 77 rfl) h (fun v15 h => ?_)
      refine jr_istore hC (D_X2_worth.g 78 rfl) (by decide) rfl ?_
      refine jr_aload_n hC (D_X2_worth.g 79 rfl) 5 rfl ?_
      refine jr_getR hC fl_X2_21 rfl (D_X2_worth.g 80 rfl) h (fun r16 h => ?_)
      refine jr_iload hC (D_X2_worth.g 81 rfl) 1 rfl ?_
      refine jr_iconst hC (D_X2_worth.g 82 rfl) ?_
      refine jr_iadd hC (D_X2_worth.g 83 rfl) ?_
      refine jr_iald hC (D_X2_worth.g 84 rfl) h (fun v17 h => ?_)
      refine jr_istore hC (D_X2_worth.g 85 rfl) (by decide) rfl ?_
      refine jr_iload hC (D_X2_worth.g 86 rfl) 5 rfl ?_
      refine jr_iconst hC (D_X2_worth.g 87 rfl) ?_
      refine jr_icmp_ne hC (D_X2_worth.g 88 rfl) 190 rfl h (fun h => ?_) (fun h => ?_)
      · refine jr_iload hC (D_X2_worth.g 89 rfl) 1 rfl ?_
        refine jr_iload hC (D_X2_worth.g 90 rfl) 0 rfl ?_
        refine jr_join h (fun j => ∀ (z0_185 : Int), j z0_185 = some (r, M') → JW E X 12 0 0 M_14 185 [(0, q_r E th), (2, q_r E a2), (3, q_i x3), (4, q_i x4), (6, q_i (y6_14 + (-2))), (7, q_i y7_14)] [q_i z0_185]) ?_ ?_
        · intro z0_185 h
          refine jr_istore hC (D_X2_worth.g 95 rfl) (by decide) rfl ?_
          refine jr_goto hC (D_X2_worth.g 96 rfl) 223 rfl ?_
          refine jr_pick [1, 2, 3, 4, 0, 5, 6] rfl ?_
          exact hj_223 z0_185 (y6_14 + (-2)) M_14 h
        intro j_185 hj_185 h
        refine jr_icmp_ge hC (D_X2_worth.g 91 rfl) 183 rfl h (fun h => ?_) (fun h => ?_)
        · refine jr_iload hC (D_X2_worth.g 92 rfl) 3 rfl ?_
          refine jr_goto hC (D_X2_worth.g 93 rfl) 185 rfl ?_
          refine jr_pick [6, 7, 8, 9, 2, 10] rfl ?_
          exact hj_185 (y5_14 + 1) h
        refine jr_iload hC (D_X2_worth.g 94 rfl) 4 rfl ?_
        refine jr_pick [6, 7, 8, 9, 2, 10] rfl ?_
        exact hj_185 v7 h
      refine jr_iload hC (D_X2_worth.g 97 rfl) 5 rfl ?_
      refine jr_bipush hC (D_X2_worth.g 98 rfl) bp_15 ?_
      refine jr_join h (fun j => j = some (r, M') → JW E X 12 0 0 M_14 204 [(0, q_r E th), (2, q_r E a2), (3, q_i x3), (4, q_i x4), (5, q_i (y5_14 + 1)), (6, q_i (y6_14 + (-2))), (7, q_i y7_14), (8, q_i v5), (10, q_i v15), (11, q_i v17)] []) ?_ ?_
      · intro  h
        refine jr_aload_n hC (D_X2_worth.g 104 rfl) 0 rfl ?_
        refine jr_getR hC fl_X2_21 rfl (D_X2_worth.g 105 rfl) h (fun r18 h => ?_)
        refine jr_iload hC (D_X2_worth.g 106 rfl) 5 rfl ?_
        refine jr_iload hC (D_X2_worth.g 107 rfl) 7 rfl ?_
        refine jr_iload hC (D_X2_worth.g 108 rfl) 8 rfl ?_
        refine jr_iload hC (D_X2_worth.g 109 rfl) 9 rfl ?_
        refine jr_cSi hC cl_X2_53 (D_X2_worth.g 110 rfl) [q_i v5, q_i v15, q_i v17] h (fun r M' e => c_X2_joined e) rfl rfl ⟨by decide, by decide⟩ (Nat.le_of_ble_eq_true rfl) ⟨Nat.le_of_ble_eq_true rfl, Nat.le_of_ble_eq_true rfl⟩ (fun v19 M20 h => ?_)
        refine jr_iast hC (D_X2_worth.g 111 rfl) h (fun M21 _ h => ?_)
        refine jr_iinc hC (D_X2_worth.g 112 rfl) 5 rfl (by decide) rfl ?_
        refine jr_pick [1, 2, 3, 4, 5, 0, 6] rfl ?_
        exact hj_223 (y5_14 + 1) ((y6_14 + (-2)) + 1) M21 h
      intro j_204 hj_204 h
      refine jr_icmp_ne hC (D_X2_worth.g 99 rfl) 204 rfl h (fun h => ?_) (fun h => ?_)
      · refine jr_iload hC (D_X2_worth.g 100 rfl) 0 rfl ?_
        refine jr_if_ne hC (D_X2_worth.g 101 rfl) 204 rfl h (fun h => ?_) (fun h => ?_)
        · refine jr_iconst hC (D_X2_worth.g 102 rfl) ?_
          exact jr_iret hC (D_X2_worth.g 103 rfl) hr hE h
        refine jr_pick [6, 7, 8, 9, 3, 2, 10, 5, 1, 0] rfl ?_
        exact hj_204  h
      refine jr_pick [6, 7, 8, 9, 3, 2, 10, 5, 1, 0] rfl ?_
      exact hj_204  h
    refine jr_iconst hC (D_X2_worth.g 115 rfl) ?_
    exact jr_iret hC (D_X2_worth.g 116 rfl) hr hE h
  refine jr_iconst hC (D_X2_worth.g 115 rfl) ?_
  exact jr_iret hC (D_X2_worth.g 116 rfl) hr hE h
def f_X2_held (th : Nat) (x1 : Int) (a2 : Nat) (x3 : Int) (x4 : Int) (M : jMem) : Option (Int × jMem) :=
jjq (fun (z0_12 : Int) =>
jcall 2 M th (f_X2_worth th x1 a2 x3 x4 M) fun v1 M2 =>
jbd (f_J9_min_7cf53 z0_12 v1 M2) fun v3 M4 =>
jbd (f_J9_max_7cf53 0 v3 M4) fun v5 M6 =>
some (v5, M6)) fun j_12 =>
if jd_wr x1 = jd_wr 1 then (j_12 100)
else (j_12 99)
theorem D_X2_held : jDs cX2_held [(0, .iload_n 1, 1, 1), (1, .iconst 1, 1, 2), (2, .if_icmp .ne 8, 3, 5), (5, .bipush 100, 2, 7), (7, .goto 5, 3, 10), (10, .bipush 99, 2, 12), (12, .istore 5, 2, 14), (14, .iconst 0, 1, 15), (15, .iload 5, 2, 17), (17, .aload_n 0, 1, 18), (18, .iload_n 1, 1, 19), (19, .aload_n 2, 1, 20), (20, .iload_n 3, 1, 21), (21, .iload 4, 2, 23), (23, .invokevirtual 36, 3, 26), (26, .invokestatic 40, 3, 29), (29, .invokestatic 45, 3, 32), (32, .ireturn, 1, 33)] := by unfold jDs; decide +kernel
set_option maxRecDepth 100000 in
set_option maxHeartbeats 4000000 in
theorem c_X2_held {E : jE} {th : Nat} {x1 : Int} {a2 : Nat} {x3 : Int} {x4 : Int} {M : jMem} {r : Int} {M' : jMem} (h : f_X2_held th x1 a2 x3 x4 M = some (r, M')) : jMet E yX2_held cX2_held 6 (some .int) 5 0 0 [q_r E th, q_i x1, q_r E a2, q_i x3, q_i x4] M (some (q_i r)) M' := by
  unfold f_X2_held at h
  refine jMet.of RX2 rfl (by decide +kernel) (Nat.le_of_ble_eq_true rfl) [(0, q_r E th), (1, q_i x1), (2, q_r E a2), (3, q_i x3), (4, q_i x4)] rfl (fun X hC hE hr hn => ?_)
  refine jr_iload_n hC (D_X2_held.g 0 rfl) 1 rfl ?_
  refine jr_iconst hC (D_X2_held.g 1 rfl) ?_
  refine jr_join h (fun j => ∀ (z0_12 : Int), j z0_12 = some (r, M') → JW E X 6 0 0 M 12 [(0, q_r E th), (1, q_i x1), (2, q_r E a2), (3, q_i x3), (4, q_i x4)] [q_i z0_12]) ?_ ?_
  · intro z0_12 h
    refine jr_istore hC (D_X2_held.g 6 rfl) (by decide) rfl ?_
    refine jr_iconst hC (D_X2_held.g 7 rfl) ?_
    refine jr_iload hC (D_X2_held.g 8 rfl) 0 rfl ?_
    refine jr_aload_n hC (D_X2_held.g 9 rfl) 1 rfl ?_
    refine jr_iload_n hC (D_X2_held.g 10 rfl) 2 rfl ?_
    refine jr_aload_n hC (D_X2_held.g 11 rfl) 3 rfl ?_
    refine jr_iload_n hC (D_X2_held.g 12 rfl) 4 rfl ?_
    refine jr_iload hC (D_X2_held.g 13 rfl) 5 rfl ?_
    refine jr_cVi hC cl_X2_36 ⟨rfl, by decide⟩ (D_X2_held.g 14 rfl) [q_i x1, q_r E a2, q_i x3, q_i x4] h (fun r M' e => c_X2_worth e) rfl rfl ⟨by decide, by decide⟩ (Nat.le_of_ble_eq_true rfl) ⟨Nat.le_of_ble_eq_true rfl, Nat.le_of_ble_eq_true rfl⟩ (fun v1 M2 h => ?_)
    refine jr_cSi hC cl_X2_40 (D_X2_held.g 15 rfl) [q_i z0_12, q_i v1] h (fun r M' e => c_J9_min_7cf53 e) rfl rfl ⟨by decide, by decide⟩ (Nat.le_of_ble_eq_true rfl) ⟨Nat.le_of_ble_eq_true rfl, Nat.le_of_ble_eq_true rfl⟩ (fun v3 M4 h => ?_)
    refine jr_cSi hC cl_X2_45 (D_X2_held.g 16 rfl) [q_i 0, q_i v3] h (fun r M' e => c_J9_max_7cf53 e) rfl rfl ⟨by decide, by decide⟩ (Nat.le_of_ble_eq_true rfl) ⟨Nat.le_of_ble_eq_true rfl, Nat.le_of_ble_eq_true rfl⟩ (fun v5 M6 h => ?_)
    exact jr_iret hC (D_X2_held.g 17 rfl) hr hE h
  intro j_12 hj_12 h
  refine jr_icmp_ne hC (D_X2_held.g 2 rfl) 10 rfl h (fun h => ?_) (fun h => ?_)
  · refine jr_bipush hC (D_X2_held.g 3 rfl) bp_100 ?_
    refine jr_goto hC (D_X2_held.g 4 rfl) 12 rfl ?_
    exact hj_12 100 h
  refine jr_bipush hC (D_X2_held.g 5 rfl) bp_99 ?_
  exact hj_12 99 h
