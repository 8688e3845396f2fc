/-! ===== 18.X8a: by program ===== -/
def f_X8_clear (th : Nat) (M : jMem) : Option (Int × jMem) :=
(jm_pI 8 0 M th 4).bind fun M1 =>
(jm_pI 8 1 M1 th 4).bind fun M2 =>
(jm_pI 8 2 M2 th 0).bind fun M3 =>
(jm_pI 8 3 M3 th 0).bind fun M4 =>
(jm_pI 8 4 M4 th 0).bind fun M5 =>
jlp2 (fun rec_27 (y1_27 : Int) (M_27 : jMem) =>
if jd_wr y1_27 < jd_wr 36 then ((jm_gR 8 10 M_27 th).bind fun r6 =>
(jm_st 22 M_27 r6 y1_27 (jd_z 0)).bind fun M7 =>
(jm_gR 8 11 M7 th).bind fun r8 =>
(jm_st 22 M7 r8 y1_27 (jd_z 0)).bind fun M9 =>
rec_27 (y1_27 + 1) M9)
else ((jm_gR 8 12 M_27 th).bind fun r10 =>
jcall 2 M_27 r10 (f_X2_clear r10 M_27) fun _ M12 =>
some (0, M12))) jfuel 0 M5
theorem D_X8_clear : jDs cX8_clear [(0, .aload_n 0, 1, 1), (1, .iconst 4, 1, 2), (2, .putfield 44, 3, 5), (5, .aload_n 0, 1, 6), (6, .iconst 4, 1, 7), (7, .putfield 48, 3, 10), (10, .aload_n 0, 1, 11), (11, .iconst 0, 1, 12), (12, .putfield 51, 3, 15), (15, .aload_n 0, 1, 16), (16, .iconst 0, 1, 17), (17, .putfield 54, 3, 20), (20, .aload_n 0, 1, 21), (21, .iconst 0, 1, 22), (22, .putfield 57, 3, 25), (25, .iconst 0, 1, 26), (26, .istore_n 1, 1, 27), (27, .iload_n 1, 1, 28), (28, .bipush 36, 2, 30), (30, .if_icmp .ge 23, 3, 33), (33, .aload_n 0, 1, 34), (34, .getfield 27, 3, 37), (37, .iload_n 1, 1, 38), (38, .iconst 0, 1, 39), (39, .bastore, 1, 40), (40, .aload_n 0, 1, 41), (41, .getfield 31, 3, 44), (44, .iload_n 1, 1, 45), (45, .iconst 0, 1, 46), (46, .bastore, 1, 47), (47, .iinc 1 1, 3, 50), (50, .goto (-23), 3, 53), (53, .aload_n 0, 1, 54), (54, .getfield 37, 3, 57), (57, .invokevirtual 60, 3, 60), (60, .return_, 1, 61)] := by unfold jDs; decide +kernel
set_option maxRecDepth 100000 in
set_option maxHeartbeats 4000000 in
theorem c_X8_clear {E : jE} {th : Nat} {M : jMem} {r : Int} {M' : jMem} (h : f_X8_clear th M = some (r, M')) : jMet E yX8_clear cX8_clear 2 (none) 4 0 0 [q_r E th] M (none) M' := by
  unfold f_X8_clear at h
  refine jMet.of RX8 rfl (by decide +kernel) (Nat.le_of_ble_eq_true rfl) [(0, q_r E th)] rfl (fun X hC hE hr hn => ?_)
  refine jr_aload_n hC (D_X8_clear.g 0 rfl) 0 rfl ?_
  refine jr_iconst hC (D_X8_clear.g 1 rfl) ?_
  refine jr_putI hC fl_X8_44 rfl (jnfin rfl) (D_X8_clear.g 2 rfl) h (fun M1 _ h => ?_)
  refine jr_aload_n hC (D_X8_clear.g 3 rfl) 0 rfl ?_
  refine jr_iconst hC (D_X8_clear.g 4 rfl) ?_
  refine jr_putI hC fl_X8_48 rfl (jnfin rfl) (D_X8_clear.g 5 rfl) h (fun M2 _ h => ?_)
  refine jr_aload_n hC (D_X8_clear.g 6 rfl) 0 rfl ?_
  refine jr_iconst hC (D_X8_clear.g 7 rfl) ?_
  refine jr_putI hC fl_X8_51 rfl (jnfin rfl) (D_X8_clear.g 8 rfl) h (fun M3 _ h => ?_)
  refine jr_aload_n hC (D_X8_clear.g 9 rfl) 0 rfl ?_
  refine jr_iconst hC (D_X8_clear.g 10 rfl) ?_
  refine jr_putI hC fl_X8_54 rfl (jnfin rfl) (D_X8_clear.g 11 rfl) h (fun M4 _ h => ?_)
  refine jr_aload_n hC (D_X8_clear.g 12 rfl) 0 rfl ?_
  refine jr_iconst hC (D_X8_clear.g 13 rfl) ?_
  refine jr_putI hC fl_X8_57 rfl (jnfin rfl) (D_X8_clear.g 14 rfl) h (fun M5 _ h => ?_)
  refine jr_iconst hC (D_X8_clear.g 15 rfl) ?_
  refine jr_istore_n hC (D_X8_clear.g 16 rfl) (by decide) rfl ?_
  refine jr_pick [1, 0] rfl ?_
  refine jr_lp2 (fun (y1_27 : Int) (M_27 : jMem) => JW E X 2 0 0 M_27 27 [(0, q_r E th), (1, q_i y1_27)] []) ?_ jfuel 0 M5 h
  intro rec_27 hrec_27 y1_27 M_27 h
  refine jr_iload_n hC (D_X8_clear.g 17 rfl) 1 rfl ?_
  refine jr_bipush hC (D_X8_clear.g 18 rfl) bp_36 ?_
  refine jr_icmp_ge hC (D_X8_clear.g 19 rfl) 53 rfl h (fun h => ?_) (fun h => ?_)
  · refine jr_aload_n hC (D_X8_clear.g 20 rfl) 0 rfl ?_
    refine jr_getR hC fl_X8_27 rfl (D_X8_clear.g 21 rfl) h (fun r6 h => ?_)
    refine jr_iload_n hC (D_X8_clear.g 22 rfl) 1 rfl ?_
    refine jr_iconst hC (D_X8_clear.g 23 rfl) ?_
    refine jr_zast hC (D_X8_clear.g 24 rfl) h (fun M7 _ h => ?_)
    refine jr_aload_n hC (D_X8_clear.g 25 rfl) 0 rfl ?_
    refine jr_getR hC fl_X8_31 rfl (D_X8_clear.g 26 rfl) h (fun r8 h => ?_)
    refine jr_iload_n hC (D_X8_clear.g 27 rfl) 1 rfl ?_
    refine jr_iconst hC (D_X8_clear.g 28 rfl) ?_
    refine jr_zast hC (D_X8_clear.g 29 rfl) h (fun M9 _ h => ?_)
    refine jr_iinc hC (D_X8_clear.g 30 rfl) 1 rfl (by decide) rfl ?_
    refine jr_goto hC (D_X8_clear.g 31 rfl) 27 rfl ?_
    refine jr_pick [1, 0] rfl ?_
    exact hrec_27 (y1_27 + 1) M9 h
  refine jr_aload_n hC (D_X8_clear.g 32 rfl) 0 rfl ?_
  refine jr_getR hC fl_X8_37 rfl (D_X8_clear.g 33 rfl) h (fun r10 h => ?_)
  refine jr_cVv hC cl_X8_60 ⟨rfl, by decide⟩ (D_X8_clear.g 34 rfl) [] h (fun r M' e => c_X2_clear e) rfl rfl ⟨by decide, by decide⟩ (Nat.le_of_ble_eq_true rfl) ⟨Nat.le_of_ble_eq_true rfl, Nat.le_of_ble_eq_true rfl⟩ (fun _ M12 h => ?_)
  exact jr_vret hC (D_X8_clear.g 35 rfl) hr hE h
def f_X8_addHole (th : Nat) (x1 : Int) (x2 : Int) (M : jMem) : Option (Int × jMem) :=
(jm_gI 8 3 M th).bind fun v1 =>
if jd_wr v1 < jd_wr 12 then ((jm_gR 8 5 M th).bind fun r2 =>
(jm_gI 8 3 M th).bind fun v3 =>
(jm_st 20 M r2 v3 x1).bind fun M4 =>
(jm_gR 8 6 M4 th).bind fun r5 =>
(jm_gI 8 3 M4 th).bind fun v6 =>
(jm_st 20 M4 r5 v6 x2).bind fun M7 =>
(jm_gI 8 3 M7 th).bind fun v8 =>
(jm_pI 8 3 M7 th (v8 + 1)).bind fun M9 =>
some (0, M9))
else (some (0, M))
theorem D_X8_addHole : jDs cX8_addHole [(0, .aload_n 0, 1, 1), (1, .getfield 54, 3, 4), (4, .bipush 12, 2, 6), (6, .if_icmp .ge 33, 3, 9), (9, .aload_n 0, 1, 10), (10, .getfield 9, 3, 13), (13, .aload_n 0, 1, 14), (14, .getfield 54, 3, 17), (17, .iload_n 1, 1, 18), (18, .iastore, 1, 19), (19, .aload_n 0, 1, 20), (20, .getfield 15, 3, 23), (23, .aload_n 0, 1, 24), (24, .getfield 54, 3, 27), (27, .iload_n 2, 1, 28), (28, .iastore, 1, 29), (29, .aload_n 0, 1, 30), (30, .dup, 1, 31), (31, .getfield 54, 3, 34), (34, .iconst 1, 1, 35), (35, .iadd, 1, 36), (36, .putfield 54, 3, 39), (39, .return_, 1, 40)] := by unfold jDs; decide +kernel
set_option maxRecDepth 100000 in
set_option maxHeartbeats 4000000 in
theorem c_X8_addHole {E : jE} {th : Nat} {x1 : Int} {x2 : Int} {M : jMem} {r : Int} {M' : jMem} (h : f_X8_addHole th x1 x2 M = some (r, M')) : jMet E yX8_addHole cX8_addHole 3 (none) 2 0 0 [q_r E th, q_i x1, q_i x2] M (none) M' := by
  unfold f_X8_addHole at h
  refine jMet.of RX8 rfl (by decide +kernel) (Nat.le_of_ble_eq_true rfl) [(0, q_r E th), (1, q_i x1), (2, q_i x2)] rfl (fun X hC hE hr hn => ?_)
  refine jr_aload_n hC (D_X8_addHole.g 0 rfl) 0 rfl ?_
  refine jr_getI hC fl_X8_54 rfl (D_X8_addHole.g 1 rfl) h (fun v1 h => ?_)
  refine jr_bipush hC (D_X8_addHole.g 2 rfl) bp_12 ?_
  refine jr_icmp_ge hC (D_X8_addHole.g 3 rfl) 39 rfl h (fun h => ?_) (fun h => ?_)
  · refine jr_aload_n hC (D_X8_addHole.g 4 rfl) 0 rfl ?_
    refine jr_getR hC fl_X8_9 rfl (D_X8_addHole.g 5 rfl) h (fun r2 h => ?_)
    refine jr_aload_n hC (D_X8_addHole.g 6 rfl) 0 rfl ?_
    refine jr_getI hC fl_X8_54 rfl (D_X8_addHole.g 7 rfl) h (fun v3 h => ?_)
    refine jr_iload_n hC (D_X8_addHole.g 8 rfl) 1 rfl ?_
    refine jr_iast hC (D_X8_addHole.g 9 rfl) h (fun M4 _ h => ?_)
    refine jr_aload_n hC (D_X8_addHole.g 10 rfl) 0 rfl ?_
    refine jr_getR hC fl_X8_15 rfl (D_X8_addHole.g 11 rfl) h (fun r5 h => ?_)
    refine jr_aload_n hC (D_X8_addHole.g 12 rfl) 0 rfl ?_
    refine jr_getI hC fl_X8_54 rfl (D_X8_addHole.g 13 rfl) h (fun v6 h => ?_)
    refine jr_iload_n hC (D_X8_addHole.g 14 rfl) 2 rfl ?_
    refine jr_iast hC (D_X8_addHole.g 15 rfl) h (fun M7 _ h => ?_)
    refine jr_aload_n hC (D_X8_addHole.g 16 rfl) 0 rfl ?_
    refine jr_dup hC (D_X8_addHole.g 17 rfl) rfl ?_
    refine jr_getI hC fl_X8_54 rfl (D_X8_addHole.g 18 rfl) h (fun v8 h => ?_)
    refine jr_iconst hC (D_X8_addHole.g 19 rfl) ?_
    refine jr_iadd hC (D_X8_addHole.g 20 rfl) ?_
    refine jr_putI hC fl_X8_54 rfl (jnfin rfl) (D_X8_addHole.g 21 rfl) h (fun M9 _ h => ?_)
    exact jr_vret hC (D_X8_addHole.g 22 rfl) hr hE h
  exact jr_vret hC (D_X8_addHole.g 22 rfl) hr hE h
def f_X8_addStone (th : Nat) (x1 : Int) (x2 : Int) (x3 : Int) (M : jMem) : Option (Int × jMem) :=
(jm_gI 8 4 M th).bind fun v1 =>
if jd_wr v1 < jd_wr 18 then ((jm_gR 8 7 M th).bind fun r2 =>
(jm_gI 8 4 M th).bind fun v3 =>
(jm_st 20 M r2 v3 x1).bind fun M4 =>
(jm_gR 8 8 M4 th).bind fun r5 =>
(jm_gI 8 4 M4 th).bind fun v6 =>
(jm_st 20 M4 r5 v6 x2).bind fun M7 =>
(jm_gR 8 9 M7 th).bind fun r8 =>
(jm_gI 8 4 M7 th).bind fun v9 =>
(jm_st 20 M7 r8 v9 x3).bind fun M10 =>
(jm_gI 8 4 M10 th).bind fun v11 =>
(jm_pI 8 4 M10 th (v11 + 1)).bind fun M12 =>
some (0, M12))
else (some (0, M))
theorem D_X8_addStone : jDs cX8_addStone [(0, .aload_n 0, 1, 1), (1, .getfield 57, 3, 4), (4, .bipush 18, 2, 6), (6, .if_icmp .ge 43, 3, 9), (9, .aload_n 0, 1, 10), (10, .getfield 18, 3, 13), (13, .aload_n 0, 1, 14), (14, .getfield 57, 3, 17), (17, .iload_n 1, 1, 18), (18, .iastore, 1, 19), (19, .aload_n 0, 1, 20), (20, .getfield 21, 3, 23), (23, .aload_n 0, 1, 24), (24, .getfield 57, 3, 27), (27, .iload_n 2, 1, 28), (28, .iastore, 1, 29), (29, .aload_n 0, 1, 30), (30, .getfield 24, 3, 33), (33, .aload_n 0, 1, 34), (34, .getfield 57, 3, 37), (37, .iload_n 3, 1, 38), (38, .iastore, 1, 39), (39, .aload_n 0, 1, 40), (40, .dup, 1, 41), (41, .getfield 57, 3, 44), (44, .iconst 1, 1, 45), (45, .iadd, 1, 46), (46, .putfield 57, 3, 49), (49, .return_, 1, 50)] := by unfold jDs; decide +kernel
set_option maxRecDepth 100000 in
set_option maxHeartbeats 4000000 in
theorem c_X8_addStone {E : jE} {th : Nat} {x1 : Int} {x2 : Int} {x3 : Int} {M : jMem} {r : Int} {M' : jMem} (h : f_X8_addStone th x1 x2 x3 M = some (r, M')) : jMet E yX8_addStone cX8_addStone 4 (none) 2 0 0 [q_r E th, q_i x1, q_i x2, q_i x3] M (none) M' := by
  unfold f_X8_addStone at h
  refine jMet.of RX8 rfl (by decide +kernel) (Nat.le_of_ble_eq_true rfl) [(0, q_r E th), (1, q_i x1), (2, q_i x2), (3, q_i x3)] rfl (fun X hC hE hr hn => ?_)
  refine jr_aload_n hC (D_X8_addStone.g 0 rfl) 0 rfl ?_
  refine jr_getI hC fl_X8_57 rfl (D_X8_addStone.g 1 rfl) h (fun v1 h => ?_)
  refine jr_bipush hC (D_X8_addStone.g 2 rfl) bp_18 ?_
  refine jr_icmp_ge hC (D_X8_addStone.g 3 rfl) 49 rfl h (fun h => ?_) (fun h => ?_)
  · refine jr_aload_n hC (D_X8_addStone.g 4 rfl) 0 rfl ?_
    refine jr_getR hC fl_X8_18 rfl (D_X8_addStone.g 5 rfl) h (fun r2 h => ?_)
    refine jr_aload_n hC (D_X8_addStone.g 6 rfl) 0 rfl ?_
    refine jr_getI hC fl_X8_57 rfl (D_X8_addStone.g 7 rfl) h (fun v3 h => ?_)
    refine jr_iload_n hC (D_X8_addStone.g 8 rfl) 1 rfl ?_
    refine jr_iast hC (D_X8_addStone.g 9 rfl) h (fun M4 _ h => ?_)
    refine jr_aload_n hC (D_X8_addStone.g 10 rfl) 0 rfl ?_
    refine jr_getR hC fl_X8_21 rfl (D_X8_addStone.g 11 rfl) h (fun r5 h => ?_)
    refine jr_aload_n hC (D_X8_addStone.g 12 rfl) 0 rfl ?_
    refine jr_getI hC fl_X8_57 rfl (D_X8_addStone.g 13 rfl) h (fun v6 h => ?_)
    refine jr_iload_n hC (D_X8_addStone.g 14 rfl) 2 rfl ?_
    refine jr_iast hC (D_X8_addStone.g 15 rfl) h (fun M7 _ h => ?_)
    refine jr_aload_n hC (D_X8_addStone.g 16 rfl) 0 rfl ?_
    refine jr_getR hC fl_X8_24 rfl (D_X8_addStone.g 17 rfl) h (fun r8 h => ?_)
    refine jr_aload_n hC (D_X8_addStone.g 18 rfl) 0 rfl ?_
    refine jr_getI hC fl_X8_57 rfl (D_X8_addStone.g 19 rfl) h (fun v9 h => ?_)
    refine jr_iload_n hC (D_X8_addStone.g 20 rfl) 3 rfl ?_
    refine jr_iast hC (D_X8_addStone.g 21 rfl) h (fun M10 _ h => ?_)
    refine jr_aload_n hC (D_X8_addStone.g 22 rfl) 0 rfl ?_
    refine jr_dup hC (D_X8_addStone.g 23 rfl) rfl ?_
    refine jr_getI hC fl_X8_57 rfl (D_X8_addStone.g 24 rfl) h (fun v11 h => ?_)
    refine jr_iconst hC (D_X8_addStone.g 25 rfl) ?_
    refine jr_iadd hC (D_X8_addStone.g 26 rfl) ?_
    refine jr_putI hC fl_X8_57 rfl (jnfin rfl) (D_X8_addStone.g 27 rfl) h (fun M12 _ h => ?_)
    exact jr_vret hC (D_X8_addStone.g 28 rfl) hr hE h
  exact jr_vret hC (D_X8_addStone.g 28 rfl) hr hE h
def f_X8_mark (th : Nat) (x1 : Int) (x2 : Int) (M : jMem) : Option (Int × jMem) :=
if jd_wr x1 < 0 then (jm_z 0 M)
else ((jm_gI 8 0 M th).bind fun v1 =>
if jd_wr x1 < jd_wr v1 then (if jd_wr x2 < 0 then (jm_z 0 M)
else ((jm_gI 8 1 M th).bind fun v2 =>
if jd_wr x2 < jd_wr v2 then ((jm_gR 8 11 M th).bind fun r3 =>
(jm_gI 8 0 M th).bind fun v4 =>
(jm_ld 22 M r3 ((v4 * x2) + x1)).bind fun v5 =>
if jd_wr v5 = 0 then ((jm_gR 8 11 M th).bind fun r6 =>
(jm_gI 8 0 M th).bind fun v7 =>
(jm_st 22 M r6 ((v7 * x2) + x1) (jd_z 1)).bind fun M8 =>
jm_z 1 M8)
else (jm_z 0 M))
else (jm_z 0 M)))
else (jm_z 0 M))
theorem D_X8_mark : jDs cX8_mark [(0, .iload_n 1, 1, 1), (1, .ifCond .lt 39, 3, 4), (4, .iload_n 1, 1, 5), (5, .aload_n 0, 1, 6), (6, .getfield 44, 3, 9), (9, .if_icmp .ge 31, 3, 12), (12, .iload_n 2, 1, 13), (13, .ifCond .lt 27, 3, 16), (16, .iload_n 2, 1, 17), (17, .aload_n 0, 1, 18), (18, .getfield 48, 3, 21), (21, .if_icmp .ge 19, 3, 24), (24, .aload_n 0, 1, 25), (25, .getfield 31, 3, 28), (28, .aload_n 0, 1, 29), (29, .getfield 44, 3, 32), (32, .iload_n 2, 1, 33), (33, .imul, 1, 34), (34, .iload_n 1, 1, 35), (35, .iadd, 1, 36), (36, .baload, 1, 37), (37, .ifCond .eq 5, 3, 40), (40, .iconst 0, 1, 41), (41, .ireturn, 1, 42), (42, .aload_n 0, 1, 43), (43, .getfield 31, 3, 46), (46, .aload_n 0, 1, 47), (47, .getfield 44, 3, 50), (50, .iload_n 2, 1, 51), (51, .imul, 1, 52), (52, .iload_n 1, 1, 53), (53, .iadd, 1, 54), (54, .iconst 1, 1, 55), (55, .bastore, 1, 56), (56, .iconst 1, 1, 57), (57, .ireturn, 1, 58)] := by unfold jDs; decide +kernel
set_option maxRecDepth 100000 in
set_option maxHeartbeats 4000000 in
theorem c_X8_mark {E : jE} {th : Nat} {x1 : Int} {x2 : Int} {M : jMem} {r : Int} {M' : jMem} (h : f_X8_mark th x1 x2 M = some (r, M')) : jMet E yX8_mark cX8_mark 3 (some .boolean) 2 0 0 [q_r E th, q_i x1, q_i x2] M (some (q_i r)) M' := by
  unfold f_X8_mark at h
  refine jMet.of RX8 rfl (by decide +kernel) (Nat.le_of_ble_eq_true rfl) [(0, q_r E th), (1, q_i x1), (2, q_i x2)] rfl (fun X hC hE hr hn => ?_)
  refine jr_iload_n hC (D_X8_mark.g 0 rfl) 1 rfl ?_
  refine jr_if_lt hC (D_X8_mark.g 1 rfl) 40 rfl h (fun h => ?_) (fun h => ?_)
  · refine jr_iconst hC (D_X8_mark.g 22 rfl) ?_
    exact jr_zret hC (D_X8_mark.g 23 rfl) hr hE h
  refine jr_iload_n hC (D_X8_mark.g 2 rfl) 1 rfl ?_
  refine jr_aload_n hC (D_X8_mark.g 3 rfl) 0 rfl ?_
  refine jr_getI hC fl_X8_44 rfl (D_X8_mark.g 4 rfl) h (fun v1 h => ?_)
  refine jr_icmp_ge hC (D_X8_mark.g 5 rfl) 40 rfl h (fun h => ?_) (fun h => ?_)
  · refine jr_iload_n hC (D_X8_mark.g 6 rfl) 2 rfl ?_
    refine jr_if_lt hC (D_X8_mark.g 7 rfl) 40 rfl h (fun h => ?_) (fun h => ?_)
    · refine jr_iconst hC (D_X8_mark.g 22 rfl) ?_
      exact jr_zret hC (D_X8_mark.g 23 rfl) hr hE h
    refine jr_iload_n hC (D_X8_mark.g 8 rfl) 2 rfl ?_
    refine jr_aload_n hC (D_X8_mark.g 9 rfl) 0 rfl ?_
    refine jr_getI hC fl_X8_48 rfl (D_X8_mark.g 10 rfl) h (fun v2 h => ?_)
    refine jr_icmp_ge hC (D_X8_mark.g 11 rfl) 40 rfl h (fun h => ?_) (fun h => ?_)
    · refine jr_aload_n hC (D_X8_mark.g 12 rfl) 0 rfl ?_
      refine jr_getR hC fl_X8_31 rfl (D_X8_mark.g 13 rfl) h (fun r3 h => ?_)
      refine jr_aload_n hC (D_X8_mark.g 14 rfl) 0 rfl ?_
      refine jr_getI hC fl_X8_44 rfl (D_X8_mark.g 15 rfl) h (fun v4 h => ?_)
      refine jr_iload_n hC (D_X8_mark.g 16 rfl) 2 rfl ?_
      refine jr_imul hC (D_X8_mark.g 17 rfl) ?_
      refine jr_iload_n hC (D_X8_mark.g 18 rfl) 1 rfl ?_
      refine jr_iadd hC (D_X8_mark.g 19 rfl) ?_
      refine jr_zald hC (D_X8_mark.g 20 rfl) h (fun v5 h => ?_)
      refine jr_if_eq hC (D_X8_mark.g 21 rfl) 42 rfl h (fun h => ?_) (fun h => ?_)
      · refine jr_aload_n hC (D_X8_mark.g 24 rfl) 0 rfl ?_
        refine jr_getR hC fl_X8_31 rfl (D_X8_mark.g 25 rfl) h (fun r6 h => ?_)
        refine jr_aload_n hC (D_X8_mark.g 26 rfl) 0 rfl ?_
        refine jr_getI hC fl_X8_44 rfl (D_X8_mark.g 27 rfl) h (fun v7 h => ?_)
        refine jr_iload_n hC (D_X8_mark.g 28 rfl) 2 rfl ?_
        refine jr_imul hC (D_X8_mark.g 29 rfl) ?_
        refine jr_iload_n hC (D_X8_mark.g 30 rfl) 1 rfl ?_
        refine jr_iadd hC (D_X8_mark.g 31 rfl) ?_
        refine jr_iconst hC (D_X8_mark.g 32 rfl) ?_
        refine jr_zast hC (D_X8_mark.g 33 rfl) h (fun M8 _ h => ?_)
        refine jr_iconst hC (D_X8_mark.g 34 rfl) ?_
        exact jr_zret hC (D_X8_mark.g 35 rfl) hr hE h
      refine jr_iconst hC (D_X8_mark.g 22 rfl) ?_
      exact jr_zret hC (D_X8_mark.g 23 rfl) hr hE h
    refine jr_iconst hC (D_X8_mark.g 22 rfl) ?_
    exact jr_zret hC (D_X8_mark.g 23 rfl) hr hE h
  refine jr_iconst hC (D_X8_mark.g 22 rfl) ?_
  exact jr_zret hC (D_X8_mark.g 23 rfl) hr hE h
def f_X8_fitsSquare (th : Nat) (M : jMem) : Option (Int × jMem) :=
jlp2 (fun rec_2 (y1_2 : Int) (M_2 : jMem) =>
(jm_gI 8 3 M_2 th).bind fun v1 =>
if jd_wr y1_2 < jd_wr v1 then ((jm_gR 8 5 M_2 th).bind fun r2 =>
(jm_ld 20 M_2 r2 y1_2).bind fun v3 =>
(jm_gR 8 6 M_2 th).bind fun r4 =>
(jm_ld 20 M_2 r4 y1_2).bind fun v5 =>
jcall 8 M_2 th (f_X8_mark th v3 v5 M_2) fun v6 M7 =>
if jd_wr v6 = 0 then (jm_z 0 M7)
else ((jm_gR 8 10 M7 th).bind fun r8 =>
(jm_gI 8 0 M7 th).bind fun v9 =>
(jm_gR 8 6 M7 th).bind fun r10 =>
(jm_ld 20 M7 r10 y1_2).bind fun v11 =>
(jm_gR 8 5 M7 th).bind fun r12 =>
(jm_ld 20 M7 r12 y1_2).bind fun v13 =>
(jm_st 22 M7 r8 ((v9 * v11) + v13) (jd_z 1)).bind fun M14 =>
rec_2 (y1_2 + 1) M14))
else (jlp2 (fun rec_63 (y1_63 : Int) (M_63 : jMem) =>
(jm_gI 8 4 M_63 th).bind fun v15 =>
if jd_wr y1_63 < jd_wr v15 then ((jm_gR 8 9 M_63 th).bind fun r16 =>
(jm_ld 20 M_63 r16 y1_63).bind fun v17 =>
jjq (fun (z0_85 : Int) =>
(jm_gR 8 7 M_63 th).bind fun r18 =>
(jm_ld 20 M_63 r18 y1_63).bind fun v19 =>
(jm_gR 8 8 M_63 th).bind fun r20 =>
(jm_ld 20 M_63 r20 y1_63).bind fun v21 =>
jcall 8 M_63 th (f_X8_mark th v19 v21 M_63) fun v22 M23 =>
if jd_wr v22 = 0 then (jm_z 0 M23)
else ((jm_gR 8 7 M23 th).bind fun r24 =>
(jm_ld 20 M23 r24 y1_63).bind fun v25 =>
(jm_gR 8 8 M23 th).bind fun r26 =>
(jm_ld 20 M23 r26 y1_63).bind fun v27 =>
jcall 8 M23 th (f_X8_mark th (v25 + z0_85) ((v27 + 1) - z0_85) M23) fun v28 M29 =>
if jd_wr v28 = 0 then (jm_z 0 M29)
else (rec_63 (y1_63 + 1) M29))) fun j_85 =>
if jd_wr v17 = 0 then (j_85 1)
else (j_85 0))
else (jm_z 1 M_63)) jfuel 0 M_2)) jfuel 0 M
theorem D_X8_fitsSquare : jDs cX8_fitsSquare [(0, .iconst 0, 1, 1), (1, .istore_n 1, 1, 2), (2, .iload_n 1, 1, 3), (3, .aload_n 0, 1, 4), (4, .getfield 54, 3, 7), (7, .if_icmp .ge 54, 3, 10), (10, .aload_n 0, 1, 11), (11, .aload_n 0, 1, 12), (12, .getfield 9, 3, 15), (15, .iload_n 1, 1, 16), (16, .iaload, 1, 17), (17, .aload_n 0, 1, 18), (18, .getfield 15, 3, 21), (21, .iload_n 1, 1, 22), (22, .iaload, 1, 23), (23, .invokevirtual 61, 3, 26), (26, .ifCond .ne 5, 3, 29), (29, .iconst 0, 1, 30), (30, .ireturn, 1, 31), (31, .aload_n 0, 1, 32), (32, .getfield 27, 3, 35), (35, .aload_n 0, 1, 36), (36, .getfield 44, 3, 39), (39, .aload_n 0, 1, 40), (40, .getfield 15, 3, 43), (43, .iload_n 1, 1, 44), (44, .iaload, 1, 45), (45, .imul, 1, 46), (46, .aload_n 0, 1, 47), (47, .getfield 9, 3, 50), (50, .iload_n 1, 1, 51), (51, .iaload, 1, 52), (52, .iadd, 1, 53), (53, .iconst 1, 1, 54), (54, .bastore, 1, 55), (55, .iinc 1 1, 3, 58), (58, .goto (-56), 3, 61), (61, .iconst 0, 1, 62), (62, .istore_n 1, 1, 63), (63, .iload_n 1, 1, 64), (64, .aload_n 0, 1, 65), (65, .getfield 57, 3, 68), (68, .if_icmp .ge 70, 3, 71), (71, .aload_n 0, 1, 72), (72, .getfield 24, 3, 75), (75, .iload_n 1, 1, 76), (76, .iaload, 1, 77), (77, .ifCond .ne 7, 3, 80), (80, .iconst 1, 1, 81), (81, .goto 4, 3, 84), (84, .iconst 0, 1, 85), (85, .istore_n 2, 1, 86), (86, .aload_n 0, 1, 87), (87, .aload_n 0, 1, 88), (88, .getfield 18, 3, 91), (91, .iload_n 1, 1, 92), (92, .iaload, 1, 93), (93, .aload_n 0, 1, 94), (94, .getfield 21, 3, 97), (97, .iload_n 1, 1, 98), (98, .iaload, 1, 99), (99, .invokevirtual 61, 3, 102), (102, .ifCond .eq 28, 3, 105), (105, .aload_n 0, 1, 106), (106, .aload_n 0, 1, 107), (107, .getfield 18, 3, 110), (110, .iload_n 1, 1, 111), (111, .iaload, 1, 112), (112, .iload_n 2, 1, 113), (113, .iadd, 1, 114), (114, .aload_n 0, 1, 115), (115, .getfield 21, 3, 118), (118, .iload_n 1, 1, 119), (119, .iaload, 1, 120), (120, .iconst 1, 1, 121), (121, .iadd, 1, 122), (122, .iload_n 2, 1, 123), (123, .isub, 1, 124), (124, .invokevirtual 61, 3, 127), (127, .ifCond .ne 5, 3, 130), (130, .iconst 0, 1, 131), (131, .ireturn, 1, 132), (132, .iinc 1 1, 3, 135), (135, .goto (-72), 3, 138), (138, .iconst 1, 1, 139), (139, .ireturn, 1, 140)] := by unfold jDs; decide +kernel
set_option maxRecDepth 100000 in
set_option maxHeartbeats 4000000 in
theorem c_X8_fitsSquare {E : jE} {th : Nat} {M : jMem} {r : Int} {M' : jMem} (h : f_X8_fitsSquare th M = some (r, M')) : jMet E yX8_fitsSquare cX8_fitsSquare 3 (some .boolean) 3 0 0 [q_r E th] M (some (q_i r)) M' := by
  unfold f_X8_fitsSquare at h
  refine jMet.of RX8 rfl (by decide +kernel) (Nat.le_of_ble_eq_true rfl) [(0, q_r E th)] rfl (fun X hC hE hr hn => ?_)
  refine jr_iconst hC (D_X8_fitsSquare.g 0 rfl) ?_
  refine jr_istore_n hC (D_X8_fitsSquare.g 1 rfl) (by decide) rfl ?_
  refine jr_pick [1, 0] rfl ?_
  refine jr_lp2 (fun (y1_2 : Int) (M_2 : jMem) => JW E X 3 0 0 M_2 2 [(0, q_r E th), (1, q_i y1_2)] []) ?_ jfuel 0 M h
  intro rec_2 hrec_2 y1_2 M_2 h
  refine jr_iload_n hC (D_X8_fitsSquare.g 2 rfl) 1 rfl ?_
  refine jr_aload_n hC (D_X8_fitsSquare.g 3 rfl) 0 rfl ?_
  refine jr_getI hC fl_X8_54 rfl (D_X8_fitsSquare.g 4 rfl) h (fun v1 h => ?_)
  refine jr_icmp_ge hC (D_X8_fitsSquare.g 5 rfl) 61 rfl h (fun h => ?_) (fun h => ?_)
  · refine jr_aload_n hC (D_X8_fitsSquare.g 6 rfl) 0 rfl ?_
    refine jr_aload_n hC (D_X8_fitsSquare.g 7 rfl) 0 rfl ?_
    refine jr_getR hC fl_X8_9 rfl (D_X8_fitsSquare.g 8 rfl) h (fun r2 h => ?_)
    refine jr_iload_n hC (D_X8_fitsSquare.g 9 rfl) 1 rfl ?_
    refine jr_iald hC (D_X8_fitsSquare.g 10 rfl) h (fun v3 h => ?_)
    refine jr_aload_n hC (D_X8_fitsSquare.g 11 rfl) 0 rfl ?_
    refine jr_getR hC fl_X8_15 rfl (D_X8_fitsSquare.g 12 rfl) h (fun r4 h => ?_)
    refine jr_iload_n hC (D_X8_fitsSquare.g 13 rfl) 1 rfl ?_
    refine jr_iald hC (D_X8_fitsSquare.g 14 rfl) h (fun v5 h => ?_)
    refine jr_cVi hC cl_X8_61 ⟨rfl, by decide⟩ (D_X8_fitsSquare.g 15 rfl) [q_i v3, q_i v5] h (fun r M' e => c_X8_mark e) rfl rfl ⟨by decide, by decide⟩ (Nat.le_of_ble_eq_true rfl) ⟨Nat.le_of_ble_eq_true rfl, Nat.le_of_ble_eq_true rfl⟩ (fun v6 M7 h => ?_)
    refine jr_if_ne hC (D_X8_fitsSquare.g 16 rfl) 31 rfl h (fun h => ?_) (fun h => ?_)
    · refine jr_iconst hC (D_X8_fitsSquare.g 17 rfl) ?_
      exact jr_zret hC (D_X8_fitsSquare.g 18 rfl) hr hE h
    refine jr_aload_n hC (D_X8_fitsSquare.g 19 rfl) 0 rfl ?_
    refine jr_getR hC fl_X8_27 rfl (D_X8_fitsSquare.g 20 rfl) h (fun r8 h => ?_)
    refine jr_aload_n hC (D_X8_fitsSquare.g 21 rfl) 0 rfl ?_
    refine jr_getI hC fl_X8_44 rfl (D_X8_fitsSquare.g 22 rfl) h (fun v9 h => ?_)
    refine jr_aload_n hC (D_X8_fitsSquare.g 23 rfl) 0 rfl ?_
    refine jr_getR hC fl_X8_15 rfl (D_X8_fitsSquare.g 24 rfl) h (fun r10 h => ?_)
    refine jr_iload_n hC (D_X8_fitsSquare.g 25 rfl) 1 rfl ?_
    refine jr_iald hC (D_X8_fitsSquare.g 26 rfl) h (fun v11 h => ?_)
    refine jr_imul hC (D_X8_fitsSquare.g 27 rfl) ?_
    refine jr_aload_n hC (D_X8_fitsSquare.g 28 rfl) 0 rfl ?_
    refine jr_getR hC fl_X8_9 rfl (D_X8_fitsSquare.g 29 rfl) h (fun r12 h => ?_)
    refine jr_iload_n hC (D_X8_fitsSquare.g 30 rfl) 1 rfl ?_
    refine jr_iald hC (D_X8_fitsSquare.g 31 rfl) h (fun v13 h => ?_)
    refine jr_iadd hC (D_X8_fitsSquare.g 32 rfl) ?_
    refine jr_iconst hC (D_X8_fitsSquare.g 33 rfl) ?_
    refine jr_zast hC (D_X8_fitsSquare.g 34 rfl) h (fun M14 _ h => ?_)
    refine jr_iinc hC (D_X8_fitsSquare.g 35 rfl) 1 rfl (by decide) rfl ?_
    refine jr_goto hC (D_X8_fitsSquare.g 36 rfl) 2 rfl ?_
    refine jr_pick [1, 0] rfl ?_
    exact hrec_2 (y1_2 + 1) M14 h
  refine jr_iconst hC (D_X8_fitsSquare.g 37 rfl) ?_
  refine jr_istore_n hC (D_X8_fitsSquare.g 38 rfl) (by decide) rfl ?_
  refine jr_pick [1, 0] rfl ?_
  refine jr_lp2 (fun (y1_63 : Int) (M_63 : jMem) => JW E X 3 0 0 M_63 63 [(0, q_r E th), (1, q_i y1_63)] []) ?_ jfuel 0 M_2 h
  intro rec_63 hrec_63 y1_63 M_63 h
  refine jr_iload_n hC (D_X8_fitsSquare.g 39 rfl) 1 rfl ?_
  refine jr_aload_n hC (D_X8_fitsSquare.g 40 rfl) 0 rfl ?_
  refine jr_getI hC fl_X8_57 rfl (D_X8_fitsSquare.g 41 rfl) h (fun v15 h => ?_)
  refine jr_icmp_ge hC (D_X8_fitsSquare.g 42 rfl) 138 rfl h (fun h => ?_) (fun h => ?_)
  · refine jr_aload_n hC (D_X8_fitsSquare.g 43 rfl) 0 rfl ?_
    refine jr_getR hC fl_X8_24 rfl (D_X8_fitsSquare.g 44 rfl) h (fun r16 h => ?_)
    refine jr_iload_n hC (D_X8_fitsSquare.g 45 rfl) 1 rfl ?_
    refine jr_iald hC (D_X8_fitsSquare.g 46 rfl) h (fun v17 h => ?_)
    refine jr_join h (fun j => ∀ (z0_85 : Int), j z0_85 = some (r, M') → JW E X 3 0 0 M_63 85 [(0, q_r E th), (1, q_i y1_63)] [q_i z0_85]) ?_ ?_
    · intro z0_85 h
      refine jr_istore_n hC (D_X8_fitsSquare.g 51 rfl) (by decide) rfl ?_
      refine jr_aload_n hC (D_X8_fitsSquare.g 52 rfl) 1 rfl ?_
      refine jr_aload_n hC (D_X8_fitsSquare.g 53 rfl) 1 rfl ?_
      refine jr_getR hC fl_X8_18 rfl (D_X8_fitsSquare.g 54 rfl) h (fun r18 h => ?_)
      refine jr_iload_n hC (D_X8_fitsSquare.g 55 rfl) 2 rfl ?_
      refine jr_iald hC (D_X8_fitsSquare.g 56 rfl) h (fun v19 h => ?_)
      refine jr_aload_n hC (D_X8_fitsSquare.g 57 rfl) 1 rfl ?_
      refine jr_getR hC fl_X8_21 rfl (D_X8_fitsSquare.g 58 rfl) h (fun r20 h => ?_)
      refine jr_iload_n hC (D_X8_fitsSquare.g 59 rfl) 2 rfl ?_
      refine jr_iald hC (D_X8_fitsSquare.g 60 rfl) h (fun v21 h => ?_)
      refine jr_cVi hC cl_X8_61 ⟨rfl, by decide⟩ (D_X8_fitsSquare.g 61 rfl) [q_i v19, q_i v21] h (fun r M' e => c_X8_mark e) rfl rfl ⟨by decide, by decide⟩ (Nat.le_of_ble_eq_true rfl) ⟨Nat.le_of_ble_eq_true rfl, Nat.le_of_ble_eq_true rfl⟩ (fun v22 M23 h => ?_)
      refine jr_if_eq hC (D_X8_fitsSquare.g 62 rfl) 130 rfl h (fun h => ?_) (fun h => ?_)
      · refine jr_iconst hC (D_X8_fitsSquare.g 80 rfl) ?_
        exact jr_zret hC (D_X8_fitsSquare.g 81 rfl) hr hE h
      refine jr_aload_n hC (D_X8_fitsSquare.g 63 rfl) 1 rfl ?_
      refine jr_aload_n hC (D_X8_fitsSquare.g 64 rfl) 1 rfl ?_
      refine jr_getR hC fl_X8_18 rfl (D_X8_fitsSquare.g 65 rfl) h (fun r24 h => ?_)
      refine jr_iload_n hC (D_X8_fitsSquare.g 66 rfl) 2 rfl ?_
      refine jr_iald hC (D_X8_fitsSquare.g 67 rfl) h (fun v25 h => ?_)
      refine jr_iload_n hC (D_X8_fitsSquare.g 68 rfl) 0 rfl ?_
      refine jr_iadd hC (D_X8_fitsSquare.g 69 rfl) ?_
      refine jr_aload_n hC (D_X8_fitsSquare.g 70 rfl) 1 rfl ?_
      refine jr_getR hC fl_X8_21 rfl (D_X8_fitsSquare.g 71 rfl) h (fun r26 h => ?_)
      refine jr_iload_n hC (D_X8_fitsSquare.g 72 rfl) 2 rfl ?_
      refine jr_iald hC (D_X8_fitsSquare.g 73 rfl) h (fun v27 h => ?_)
      refine jr_iconst hC (D_X8_fitsSquare.g 74 rfl) ?_
      refine jr_iadd hC (D_X8_fitsSquare.g 75 rfl) ?_
      refine jr_iload_n hC (D_X8_fitsSquare.g 76 rfl) 0 rfl ?_
      refine jr_isub hC (D_X8_fitsSquare.g 77 rfl) ?_
      refine jr_cVi hC cl_X8_61 ⟨rfl, by decide⟩ (D_X8_fitsSquare.g 78 rfl) [q_i (v25 + z0_85), q_i ((v27 + 1) - z0_85)] h (fun r M' e => c_X8_mark e) rfl rfl ⟨by decide, by decide⟩ (Nat.le_of_ble_eq_true rfl) ⟨Nat.le_of_ble_eq_true rfl, Nat.le_of_ble_eq_true rfl⟩ (fun v28 M29 h => ?_)
      refine jr_if_ne hC (D_X8_fitsSquare.g 79 rfl) 132 rfl h (fun h => ?_) (fun h => ?_)
      · refine jr_iconst hC (D_X8_fitsSquare.g 80 rfl) ?_
        exact jr_zret hC (D_X8_fitsSquare.g 81 rfl) hr hE h
      refine jr_iinc hC (D_X8_fitsSquare.g 82 rfl) 2 rfl (by decide) rfl ?_
      refine jr_goto hC (D_X8_fitsSquare.g 83 rfl) 63 rfl ?_
      refine jr_pick [2, 0] rfl ?_
      exact hrec_63 (y1_63 + 1) M29 h
    intro j_85 hj_85 h
    refine jr_if_ne hC (D_X8_fitsSquare.g 47 rfl) 84 rfl h (fun h => ?_) (fun h => ?_)
    · refine jr_iconst hC (D_X8_fitsSquare.g 48 rfl) ?_
      refine jr_goto hC (D_X8_fitsSquare.g 49 rfl) 85 rfl ?_
      exact hj_85 1 h
    refine jr_iconst hC (D_X8_fitsSquare.g 50 rfl) ?_
    exact hj_85 0 h
  refine jr_iconst hC (D_X8_fitsSquare.g 84 rfl) ?_
  exact jr_zret hC (D_X8_fitsSquare.g 85 rfl) hr hE h
def f_X8_cells (th : Nat) (M : jMem) : Option (Int × jMem) :=
(jm_gI 8 0 M th).bind fun v1 =>
(jm_gI 8 1 M th).bind fun v2 =>
some ((v1 * v2), M)
theorem D_X8_cells : jDs cX8_cells [(0, .aload_n 0, 1, 1), (1, .getfield 44, 3, 4), (4, .aload_n 0, 1, 5), (5, .getfield 48, 3, 8), (8, .imul, 1, 9), (9, .ireturn, 1, 10)] := by unfold jDs; decide +kernel
set_option maxRecDepth 100000 in
set_option maxHeartbeats 4000000 in
theorem c_X8_cells {E : jE} {th : Nat} {M : jMem} {r : Int} {M' : jMem} (h : f_X8_cells th M = some (r, M')) : jMet E yX8_cells cX8_cells 1 (some .int) 2 0 0 [q_r E th] M (some (q_i r)) M' := by
  unfold f_X8_cells at h
  refine jMet.of RX8 rfl (by decide +kernel) (Nat.le_of_ble_eq_true rfl) [(0, q_r E th)] rfl (fun X hC hE hr hn => ?_)
  refine jr_aload_n hC (D_X8_cells.g 0 rfl) 0 rfl ?_
  refine jr_getI hC fl_X8_44 rfl (D_X8_cells.g 1 rfl) h (fun v1 h => ?_)
  refine jr_aload_n hC (D_X8_cells.g 2 rfl) 0 rfl ?_
  refine jr_getI hC fl_X8_48 rfl (D_X8_cells.g 3 rfl) h (fun v2 h => ?_)
  refine jr_imul hC (D_X8_cells.g 4 rfl) ?_
  exact jr_iret hC (D_X8_cells.g 5 rfl) hr hE h
def f_X8_hasCell (th : Nat) (x1 : Int) (M : jMem) : Option (Int × jMem) :=
jjq (jm_z 0 M) fun j_21 =>
if jd_wr x1 < 0 then (j_21 )
else ((jm_gI 8 0 M th).bind fun v1 =>
(jm_gI 8 1 M th).bind fun v2 =>
if jd_wr x1 < jd_wr (v1 * v2) then (jm_z 1 M)
else (j_21 ))
theorem D_X8_hasCell : jDs cX8_hasCell [(0, .iload_n 1, 1, 1), (1, .ifCond .lt 20, 3, 4), (4, .iload_n 1, 1, 5), (5, .aload_n 0, 1, 6), (6, .getfield 44, 3, 9), (9, .aload_n 0, 1, 10), (10, .getfield 48, 3, 13), (13, .imul, 1, 14), (14, .if_icmp .ge 7, 3, 17), (17, .iconst 1, 1, 18), (18, .goto 4, 3, 21), (21, .iconst 0, 1, 22), (22, .ireturn, 1, 23)] := by unfold jDs; decide +kernel
set_option maxRecDepth 100000 in
set_option maxHeartbeats 4000000 in
theorem c_X8_hasCell {E : jE} {th : Nat} {x1 : Int} {M : jMem} {r : Int} {M' : jMem} (h : f_X8_hasCell th x1 M = some (r, M')) : jMet E yX8_hasCell cX8_hasCell 2 (some .boolean) 2 0 0 [q_r E th, q_i x1] M (some (q_i r)) M' := by
  unfold f_X8_hasCell at h
  refine jMet.of RX8 rfl (by decide +kernel) (Nat.le_of_ble_eq_true rfl) [(0, q_r E th), (1, q_i x1)] rfl (fun X hC hE hr hn => ?_)
  refine jr_iload_n hC (D_X8_hasCell.g 0 rfl) 1 rfl ?_
  refine jr_join h (fun j => j = some (r, M') → JW E X 2 0 0 M 21 [] []) ?_ ?_
  · intro  h
    refine jr_iconst hC (D_X8_hasCell.g 11 rfl) ?_
    exact jr_zret hC (D_X8_hasCell.g 12 rfl) hr hE h
  intro j_21 hj_21 h
  refine jr_if_lt hC (D_X8_hasCell.g 1 rfl) 21 rfl h (fun h => ?_) (fun h => ?_)
  · refine jr_pick [] rfl ?_
    exact hj_21  h
  refine jr_iload_n hC (D_X8_hasCell.g 2 rfl) 1 rfl ?_
  refine jr_aload_n hC (D_X8_hasCell.g 3 rfl) 0 rfl ?_
  refine jr_getI hC fl_X8_44 rfl (D_X8_hasCell.g 4 rfl) h (fun v1 h => ?_)
  refine jr_aload_n hC (D_X8_hasCell.g 5 rfl) 0 rfl ?_
  refine jr_getI hC fl_X8_48 rfl (D_X8_hasCell.g 6 rfl) h (fun v2 h => ?_)
  refine jr_imul hC (D_X8_hasCell.g 7 rfl) ?_
  refine jr_icmp_ge hC (D_X8_hasCell.g 8 rfl) 21 rfl h (fun h => ?_) (fun h => ?_)
  · refine jr_iconst hC (D_X8_hasCell.g 9 rfl) ?_
    refine jr_goto hC (D_X8_hasCell.g 10 rfl) 22 rfl ?_
    exact jr_zret hC (D_X8_hasCell.g 12 rfl) hr hE h
  refine jr_pick [] rfl ?_
  exact hj_21  h
def f_X8_isOpen (th : Nat) (x1 : Int) (M : jMem) : Option (Int × jMem) :=
jcall 8 M th (f_X8_hasCell th x1 M) fun v1 M2 =>
jjq (jm_z 0 M2) fun j_21 =>
if jd_wr v1 = 0 then (j_21 )
else ((jm_gR 8 10 M2 th).bind fun r3 =>
(jm_ld 22 M2 r3 x1).bind fun v4 =>
if jd_wr v4 = 0 then (jm_z 1 M2)
else (j_21 ))
theorem D_X8_isOpen : jDs cX8_isOpen [(0, .aload_n 0, 1, 1), (1, .iload_n 1, 1, 2), (2, .invokevirtual 65, 3, 5), (5, .ifCond .eq 16, 3, 8), (8, .aload_n 0, 1, 9), (9, .getfield 27, 3, 12), (12, .iload_n 1, 1, 13), (13, .baload, 1, 14), (14, .ifCond .ne 7, 3, 17), (17, .iconst 1, 1, 18), (18, .goto 4, 3, 21), (21, .iconst 0, 1, 22), (22, .ireturn, 1, 23)] := by unfold jDs; decide +kernel
set_option maxRecDepth 100000 in
set_option maxHeartbeats 4000000 in
theorem c_X8_isOpen {E : jE} {th : Nat} {x1 : Int} {M : jMem} {r : Int} {M' : jMem} (h : f_X8_isOpen th x1 M = some (r, M')) : jMet E yX8_isOpen cX8_isOpen 2 (some .boolean) 3 0 0 [q_r E th, q_i x1] M (some (q_i r)) M' := by
  unfold f_X8_isOpen at h
  refine jMet.of RX8 rfl (by decide +kernel) (Nat.le_of_ble_eq_true rfl) [(0, q_r E th), (1, q_i x1)] rfl (fun X hC hE hr hn => ?_)
  refine jr_aload_n hC (D_X8_isOpen.g 0 rfl) 0 rfl ?_
  refine jr_iload_n hC (D_X8_isOpen.g 1 rfl) 1 rfl ?_
  refine jr_cVi hC cl_X8_65 ⟨rfl, by decide⟩ (D_X8_isOpen.g 2 rfl) [q_i x1] h (fun r M' e => c_X8_hasCell e) rfl rfl ⟨by decide, by decide⟩ (Nat.le_of_ble_eq_true rfl) ⟨Nat.le_of_ble_eq_true rfl, Nat.le_of_ble_eq_true rfl⟩ (fun v1 M2 h => ?_)
  refine jr_join h (fun j => j = some (r, M') → JW E X 2 0 0 M2 21 [] []) ?_ ?_
  · intro  h
    refine jr_iconst hC (D_X8_isOpen.g 11 rfl) ?_
    exact jr_zret hC (D_X8_isOpen.g 12 rfl) hr hE h
  intro j_21 hj_21 h
  refine jr_if_eq hC (D_X8_isOpen.g 3 rfl) 21 rfl h (fun h => ?_) (fun h => ?_)
  · refine jr_pick [] rfl ?_
    exact hj_21  h
  refine jr_aload_n hC (D_X8_isOpen.g 4 rfl) 0 rfl ?_
  refine jr_getR hC fl_X8_27 rfl (D_X8_isOpen.g 5 rfl) h (fun r3 h => ?_)
  refine jr_iload_n hC (D_X8_isOpen.g 6 rfl) 1 rfl ?_
  refine jr_zald hC (D_X8_isOpen.g 7 rfl) h (fun v4 h => ?_)
  refine jr_if_ne hC (D_X8_isOpen.g 8 rfl) 21 rfl h (fun h => ?_) (fun h => ?_)
  · refine jr_iconst hC (D_X8_isOpen.g 9 rfl) ?_
    refine jr_goto hC (D_X8_isOpen.g 10 rfl) 22 rfl ?_
    exact jr_zret hC (D_X8_isOpen.g 12 rfl) hr hE h
  refine jr_pick [] rfl ?_
  exact hj_21  h
def f_X8_hasRight (th : Nat) (x1 : Int) (M : jMem) : Option (Int × jMem) :=
(jm_gI 8 0 M th).bind fun v1 =>
jbd (f_X4_columnOf x1 v1 M) fun v2 M3 =>
(jm_gI 8 0 M3 th).bind fun v4 =>
if jd_wr (v2 + 1) < jd_wr v4 then (jm_z 1 M3)
else (jm_z 0 M3)
theorem D_X8_hasRight : jDs cX8_hasRight [(0, .iload_n 1, 1, 1), (1, .aload_n 0, 1, 2), (2, .getfield 44, 3, 5), (5, .invokestatic 69, 3, 8), (8, .iconst 1, 1, 9), (9, .iadd, 1, 10), (10, .aload_n 0, 1, 11), (11, .getfield 44, 3, 14), (14, .if_icmp .ge 7, 3, 17), (17, .iconst 1, 1, 18), (18, .goto 4, 3, 21), (21, .iconst 0, 1, 22), (22, .ireturn, 1, 23)] := by unfold jDs; decide +kernel
set_option maxRecDepth 100000 in
set_option maxHeartbeats 4000000 in
theorem c_X8_hasRight {E : jE} {th : Nat} {x1 : Int} {M : jMem} {r : Int} {M' : jMem} (h : f_X8_hasRight th x1 M = some (r, M')) : jMet E yX8_hasRight cX8_hasRight 2 (some .boolean) 3 0 0 [q_r E th, q_i x1] M (some (q_i r)) M' := by
  unfold f_X8_hasRight at h
  refine jMet.of RX8 rfl (by decide +kernel) (Nat.le_of_ble_eq_true rfl) [(0, q_r E th), (1, q_i x1)] rfl (fun X hC hE hr hn => ?_)
  refine jr_iload_n hC (D_X8_hasRight.g 0 rfl) 1 rfl ?_
  refine jr_aload_n hC (D_X8_hasRight.g 1 rfl) 0 rfl ?_
  refine jr_getI hC fl_X8_44 rfl (D_X8_hasRight.g 2 rfl) h (fun v1 h => ?_)
  refine jr_cSi hC cl_X8_69 (D_X8_hasRight.g 3 rfl) [q_i x1, q_i v1] h (fun r M' e => c_X4_columnOf e) rfl rfl ⟨by decide, by decide⟩ (Nat.le_of_ble_eq_true rfl) ⟨Nat.le_of_ble_eq_true rfl, Nat.le_of_ble_eq_true rfl⟩ (fun v2 M3 h => ?_)
  refine jr_iconst hC (D_X8_hasRight.g 4 rfl) ?_
  refine jr_iadd hC (D_X8_hasRight.g 5 rfl) ?_
  refine jr_aload_n hC (D_X8_hasRight.g 6 rfl) 0 rfl ?_
  refine jr_getI hC fl_X8_44 rfl (D_X8_hasRight.g 7 rfl) h (fun v4 h => ?_)
  refine jr_icmp_ge hC (D_X8_hasRight.g 8 rfl) 21 rfl h (fun h => ?_) (fun h => ?_)
  · refine jr_iconst hC (D_X8_hasRight.g 9 rfl) ?_
    refine jr_goto hC (D_X8_hasRight.g 10 rfl) 22 rfl ?_
    exact jr_zret hC (D_X8_hasRight.g 12 rfl) hr hE h
  refine jr_iconst hC (D_X8_hasRight.g 11 rfl) ?_
  exact jr_zret hC (D_X8_hasRight.g 12 rfl) hr hE h
def f_X8_hasBelow (th : Nat) (x1 : Int) (M : jMem) : Option (Int × jMem) :=
(jm_gI 8 0 M th).bind fun v1 =>
jbd (f_X4_rowOf x1 v1 M) fun v2 M3 =>
(jm_gI 8 1 M3 th).bind fun v4 =>
if jd_wr (v2 + 1) < jd_wr v4 then (jm_z 1 M3)
else (jm_z 0 M3)
theorem D_X8_hasBelow : jDs cX8_hasBelow [(0, .iload_n 1, 1, 1), (1, .aload_n 0, 1, 2), (2, .getfield 44, 3, 5), (5, .invokestatic 75, 3, 8), (8, .iconst 1, 1, 9), (9, .iadd, 1, 10), (10, .aload_n 0, 1, 11), (11, .getfield 48, 3, 14), (14, .if_icmp .ge 7, 3, 17), (17, .iconst 1, 1, 18), (18, .goto 4, 3, 21), (21, .iconst 0, 1, 22), (22, .ireturn, 1, 23)] := by unfold jDs; decide +kernel
set_option maxRecDepth 100000 in
set_option maxHeartbeats 4000000 in
theorem c_X8_hasBelow {E : jE} {th : Nat} {x1 : Int} {M : jMem} {r : Int} {M' : jMem} (h : f_X8_hasBelow th x1 M = some (r, M')) : jMet E yX8_hasBelow cX8_hasBelow 2 (some .boolean) 3 0 0 [q_r E th, q_i x1] M (some (q_i r)) M' := by
  unfold f_X8_hasBelow at h
  refine jMet.of RX8 rfl (by decide +kernel) (Nat.le_of_ble_eq_true rfl) [(0, q_r E th), (1, q_i x1)] rfl (fun X hC hE hr hn => ?_)
  refine jr_iload_n hC (D_X8_hasBelow.g 0 rfl) 1 rfl ?_
  refine jr_aload_n hC (D_X8_hasBelow.g 1 rfl) 0 rfl ?_
  refine jr_getI hC fl_X8_44 rfl (D_X8_hasBelow.g 2 rfl) h (fun v1 h => ?_)
  refine jr_cSi hC cl_X8_75 (D_X8_hasBelow.g 3 rfl) [q_i x1, q_i v1] h (fun r M' e => c_X4_rowOf e) rfl rfl ⟨by decide, by decide⟩ (Nat.le_of_ble_eq_true rfl) ⟨Nat.le_of_ble_eq_true rfl, Nat.le_of_ble_eq_true rfl⟩ (fun v2 M3 h => ?_)
  refine jr_iconst hC (D_X8_hasBelow.g 4 rfl) ?_
  refine jr_iadd hC (D_X8_hasBelow.g 5 rfl) ?_
  refine jr_aload_n hC (D_X8_hasBelow.g 6 rfl) 0 rfl ?_
  refine jr_getI hC fl_X8_48 rfl (D_X8_hasBelow.g 7 rfl) h (fun v4 h => ?_)
  refine jr_icmp_ge hC (D_X8_hasBelow.g 8 rfl) 21 rfl h (fun h => ?_) (fun h => ?_)
  · refine jr_iconst hC (D_X8_hasBelow.g 9 rfl) ?_
    refine jr_goto hC (D_X8_hasBelow.g 10 rfl) 22 rfl ?_
    exact jr_zret hC (D_X8_hasBelow.g 12 rfl) hr hE h
  refine jr_iconst hC (D_X8_hasBelow.g 11 rfl) ?_
  exact jr_zret hC (D_X8_hasBelow.g 12 rfl) hr hE h
def f_X8_isBlack (th : Nat) (x1 : Int) (M : jMem) : Option (Int × jMem) :=
(jm_gI 8 0 M th).bind fun v1 =>
jbd (f_X4_rowOf x1 v1 M) fun v2 M3 =>
(jm_gI 8 0 M3 th).bind fun v4 =>
jbd (f_X4_columnOf x1 v4 M3) fun v5 M6 =>
(jm_rm (v2 + v5) 2).bind fun v7 =>
if jd_wr v7 = 0 then (jm_z 1 M6)
else (jm_z 0 M6)
theorem D_X8_isBlack : jDs cX8_isBlack [(0, .iload_n 1, 1, 1), (1, .aload_n 0, 1, 2), (2, .getfield 44, 3, 5), (5, .invokestatic 75, 3, 8), (8, .iload_n 1, 1, 9), (9, .aload_n 0, 1, 10), (10, .getfield 44, 3, 13), (13, .invokestatic 69, 3, 16), (16, .iadd, 1, 17), (17, .iconst 2, 1, 18), (18, .irem, 1, 19), (19, .ifCond .ne 7, 3, 22), (22, .iconst 1, 1, 23), (23, .goto 4, 3, 26), (26, .iconst 0, 1, 27), (27, .ireturn, 1, 28)] := by unfold jDs; decide +kernel
set_option maxRecDepth 100000 in
set_option maxHeartbeats 4000000 in
theorem c_X8_isBlack {E : jE} {th : Nat} {x1 : Int} {M : jMem} {r : Int} {M' : jMem} (h : f_X8_isBlack th x1 M = some (r, M')) : jMet E yX8_isBlack cX8_isBlack 2 (some .boolean) 3 0 0 [q_r E th, q_i x1] M (some (q_i r)) M' := by
  unfold f_X8_isBlack at h
  refine jMet.of RX8 rfl (by decide +kernel) (Nat.le_of_ble_eq_true rfl) [(0, q_r E th), (1, q_i x1)] rfl (fun X hC hE hr hn => ?_)
  refine jr_iload_n hC (D_X8_isBlack.g 0 rfl) 1 rfl ?_
  refine jr_aload_n hC (D_X8_isBlack.g 1 rfl) 0 rfl ?_
  refine jr_getI hC fl_X8_44 rfl (D_X8_isBlack.g 2 rfl) h (fun v1 h => ?_)
  refine jr_cSi hC cl_X8_75 (D_X8_isBlack.g 3 rfl) [q_i x1, q_i v1] h (fun r M' e => c_X4_rowOf e) rfl rfl ⟨by decide, by decide⟩ (Nat.le_of_ble_eq_true rfl) ⟨Nat.le_of_ble_eq_true rfl, Nat.le_of_ble_eq_true rfl⟩ (fun v2 M3 h => ?_)
  refine jr_iload_n hC (D_X8_isBlack.g 4 rfl) 1 rfl ?_
  refine jr_aload_n hC (D_X8_isBlack.g 5 rfl) 0 rfl ?_
  refine jr_getI hC fl_X8_44 rfl (D_X8_isBlack.g 6 rfl) h (fun v4 h => ?_)
  refine jr_cSi hC cl_X8_69 (D_X8_isBlack.g 7 rfl) [q_i x1, q_i v4] h (fun r M' e => c_X4_columnOf e) rfl rfl ⟨by decide, by decide⟩ (Nat.le_of_ble_eq_true rfl) ⟨Nat.le_of_ble_eq_true rfl, Nat.le_of_ble_eq_true rfl⟩ (fun v5 M6 h => ?_)
  refine jr_iadd hC (D_X8_isBlack.g 8 rfl) ?_
  refine jr_iconst hC (D_X8_isBlack.g 9 rfl) ?_
  refine jr_irem hC (D_X8_isBlack.g 10 rfl) h (fun v7 _ h => ?_)
  refine jr_if_ne hC (D_X8_isBlack.g 11 rfl) 26 rfl h (fun h => ?_) (fun h => ?_)
  · refine jr_iconst hC (D_X8_isBlack.g 12 rfl) ?_
    refine jr_goto hC (D_X8_isBlack.g 13 rfl) 27 rfl ?_
    exact jr_zret hC (D_X8_isBlack.g 15 rfl) hr hE h
  refine jr_iconst hC (D_X8_isBlack.g 14 rfl) ?_
  exact jr_zret hC (D_X8_isBlack.g 15 rfl) hr hE h
