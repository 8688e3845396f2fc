/-! ===== 22.X0a: by program ===== -/
def f_X0_climb (a0 : Nat) (x1 : Int) (x2 : Int) (a3 : Nat) (M : jMem) : Option (Int × jMem) :=
(jm_st 20 M a3 0 (0 - (jd_and x1 1))).bind fun M1 =>
jlp3 (fun rec_14 (y4_14 : Int) (y5_14 : Int) (M_14 : jMem) =>
(jm_gI 4 5 M_14 a0).bind fun v2 =>
if jd_wr y5_14 < jd_wr v2 then (jcall 4 M_14 a0 (f_X4_bit a0 y5_14 M_14) fun v3 M4 =>
jjq (fun (z0_40 : Int) =>
(jm_rm (y5_14 + x1) 2).bind fun v5 =>
jjq (fun (z0_61 : Int) =>
(jm_st 20 M4 a3 (y5_14 + 1) (y4_14 + z0_61)).bind fun M6 =>
rec_14 (y4_14 + z0_61) (y5_14 + 1) M6) fun j_61 =>
if jd_wr v5 = 0 then (j_61 z0_40)
else (j_61 (0 - z0_40))) fun j_40 =>
if jd_wr (jd_and x2 v3) = 0 then (j_40 1)
else (j_40 (-3)))
else (some (0, M_14))) jfuel (0 - (jd_and x1 1)) 0 M1
theorem D_X0_climb : jDs cX0_climb [(0, .iload_n 1, 1, 1), (1, .iconst 1, 1, 2), (2, .iand, 1, 3), (3, .ineg, 1, 4), (4, .istore 4, 2, 6), (6, .aload_n 3, 1, 7), (7, .iconst 0, 1, 8), (8, .iload 4, 2, 10), (10, .iastore, 1, 11), (11, .iconst 0, 1, 12), (12, .istore 5, 2, 14), (14, .iload 5, 2, 16), (16, .aload_n 0, 1, 17), (17, .getfield 26, 3, 20), (20, .if_icmp .ge 58, 3, 23), (23, .iload_n 2, 1, 24), (24, .aload_n 0, 1, 25), (25, .iload 5, 2, 27), (27, .invokevirtual 32, 3, 30), (30, .iand, 1, 31), (31, .ifCond .eq 8, 3, 34), (34, .bipush (-3), 2, 36), (36, .goto 4, 3, 39), (39, .iconst 1, 1, 40), (40, .istore 6, 2, 42), (42, .iload 4, 2, 44), (44, .iload 5, 2, 46), (46, .iload_n 1, 1, 47), (47, .iadd, 1, 48), (48, .iconst 2, 1, 49), (49, .irem, 1, 50), (50, .ifCond .ne 8, 3, 53), (53, .iload 6, 2, 55), (55, .goto 6, 3, 58), (58, .iload 6, 2, 60), (60, .ineg, 1, 61), (61, .iadd, 1, 62), (62, .istore 4, 2, 64), (64, .aload_n 3, 1, 65), (65, .iload 5, 2, 67), (67, .iconst 1, 1, 68), (68, .iadd, 1, 69), (69, .iload 4, 2, 71), (71, .iastore, 1, 72), (72, .iinc 5 1, 3, 75), (75, .goto (-61), 3, 78), (78, .return_, 1, 79)] := by unfold jDs; decide +kernel
set_option maxRecDepth 100000 in
set_option maxHeartbeats 4000000 in
theorem c_X0_climb {E : jE} {a0 : Nat} {x1 : Int} {x2 : Int} {a3 : Nat} {M : jMem} {r : Int} {M' : jMem} (h : f_X0_climb a0 x1 x2 a3 M = some (r, M')) : jMet E yX0_climb cX0_climb 7 (none) 3 0 0 [q_r E a0, q_i x1, q_i x2, q_r E a3] M (none) M' := by
  unfold f_X0_climb at h
  refine jMet.of RX0 rfl (by decide +kernel) (Nat.le_of_ble_eq_true rfl) [(0, q_r E a0), (1, q_i x1), (2, q_i x2), (3, q_r E a3)] rfl (fun X hC hE hr hn => ?_)
  refine jr_iload_n hC (D_X0_climb.g 0 rfl) 1 rfl ?_
  refine jr_iconst hC (D_X0_climb.g 1 rfl) ?_
  refine jr_iand hC (D_X0_climb.g 2 rfl) ?_
  refine jr_ineg hC (D_X0_climb.g 3 rfl) ?_
  refine jr_istore hC (D_X0_climb.g 4 rfl) (by decide) rfl ?_
  refine jr_aload_n hC (D_X0_climb.g 5 rfl) 4 rfl ?_
  refine jr_iconst hC (D_X0_climb.g 6 rfl) ?_
  refine jr_iload hC (D_X0_climb.g 7 rfl) 0 rfl ?_
  refine jr_iast hC (D_X0_climb.g 8 rfl) h (fun M1 _ h => ?_)
  refine jr_iconst hC (D_X0_climb.g 9 rfl) ?_
  refine jr_istore hC (D_X0_climb.g 10 rfl) (by decide) rfl ?_
  refine jr_pick [2, 3, 4, 5, 1, 0] rfl ?_
  refine jr_lp3 (fun (y4_14 : Int) (y5_14 : Int) (M_14 : jMem) => JW E X 7 0 0 M_14 14 [(0, q_r E a0), (1, q_i x1), (2, q_i x2), (3, q_r E a3), (4, q_i y4_14), (5, q_i y5_14)] []) ?_ jfuel (0 - (jd_and x1 1)) 0 M1 h
  intro rec_14 hrec_14 y4_14 y5_14 M_14 h
  refine jr_iload hC (D_X0_climb.g 11 rfl) 5 rfl ?_
  refine jr_aload_n hC (D_X0_climb.g 12 rfl) 0 rfl ?_
  refine jr_getI hC fl_X0_26 rfl (D_X0_climb.g 13 rfl) h (fun v2 h => ?_)
  refine jr_icmp_ge hC (D_X0_climb.g 14 rfl) 78 rfl h (fun h => ?_) (fun h => ?_)
  · refine jr_iload_n hC (D_X0_climb.g 15 rfl) 2 rfl ?_
    refine jr_aload_n hC (D_X0_climb.g 16 rfl) 0 rfl ?_
    refine jr_iload hC (D_X0_climb.g 17 rfl) 5 rfl ?_
    refine jr_cVi hC cl_X0_32 ⟨rfl, by decide⟩ (D_X0_climb.g 18 rfl) [q_i y5_14] h (fun r M' e => c_X4_bit e) rfl rfl ⟨by decide, by decide⟩ (Nat.le_of_ble_eq_true rfl) ⟨Nat.le_of_ble_eq_true rfl, Nat.le_of_ble_eq_true rfl⟩ (fun v3 M4 h => ?_)
    refine jr_iand hC (D_X0_climb.g 19 rfl) ?_
    refine jr_join h (fun j => ∀ (z0_40 : Int), j z0_40 = some (r, M') → JW E X 7 0 0 M4 40 [(0, q_r E a0), (1, q_i x1), (2, q_i x2), (3, q_r E a3), (4, q_i y4_14), (5, q_i y5_14)] [q_i z0_40]) ?_ ?_
    · intro z0_40 h
      refine jr_istore hC (D_X0_climb.g 24 rfl) (by decide) rfl ?_
      refine jr_iload hC (D_X0_climb.g 25 rfl) 5 rfl ?_
      refine jr_iload hC (D_X0_climb.g 26 rfl) 6 rfl ?_
      refine jr_iload_n hC (D_X0_climb.g 27 rfl) 2 rfl ?_
      refine jr_iadd hC (D_X0_climb.g 28 rfl) ?_
      refine jr_iconst hC (D_X0_climb.g 29 rfl) ?_
      refine jr_irem hC (D_X0_climb.g 30 rfl) h (fun v5 _ h => ?_)
      refine jr_join h (fun j => ∀ (z0_61 : Int), j z0_61 = some (r, M') → JW E X 7 0 0 M4 61 [(0, q_r E a0), (1, q_i x1), (2, q_i x2), (3, q_r E a3), (5, q_i y5_14)] [q_i z0_61, q_i y4_14]) ?_ ?_
      · intro z0_61 h
        refine jr_iadd hC (D_X0_climb.g 36 rfl) ?_
        refine jr_istore hC (D_X0_climb.g 37 rfl) (by decide) rfl ?_
        refine jr_aload_n hC (D_X0_climb.g 38 rfl) 4 rfl ?_
        refine jr_iload hC (D_X0_climb.g 39 rfl) 5 rfl ?_
        refine jr_iconst hC (D_X0_climb.g 40 rfl) ?_
        refine jr_iadd hC (D_X0_climb.g 41 rfl) ?_
        refine jr_iload hC (D_X0_climb.g 42 rfl) 0 rfl ?_
        refine jr_iast hC (D_X0_climb.g 43 rfl) h (fun M6 _ h => ?_)
        refine jr_iinc hC (D_X0_climb.g 44 rfl) 5 rfl (by decide) rfl ?_
        refine jr_goto hC (D_X0_climb.g 45 rfl) 14 rfl ?_
        refine jr_pick [2, 3, 4, 5, 1, 0] rfl ?_
        exact hrec_14 (y4_14 + z0_61) (y5_14 + 1) M6 h
      intro j_61 hj_61 h
      refine jr_if_ne hC (D_X0_climb.g 31 rfl) 58 rfl h (fun h => ?_) (fun h => ?_)
      · refine jr_iload hC (D_X0_climb.g 32 rfl) 0 rfl ?_
        refine jr_goto hC (D_X0_climb.g 33 rfl) 61 rfl ?_
        refine jr_pick [1, 2, 3, 4, 6] rfl ?_
        exact hj_61 z0_40 h
      refine jr_iload hC (D_X0_climb.g 34 rfl) 0 rfl ?_
      refine jr_ineg hC (D_X0_climb.g 35 rfl) ?_
      refine jr_pick [1, 2, 3, 4, 6] rfl ?_
      exact hj_61 (0 - z0_40) h
    intro j_40 hj_40 h
    refine jr_if_eq hC (D_X0_climb.g 20 rfl) 39 rfl h (fun h => ?_) (fun h => ?_)
    · refine jr_iconst hC (D_X0_climb.g 23 rfl) ?_
      exact hj_40 1 h
    refine jr_bipush hC (D_X0_climb.g 21 rfl) bp_m3 ?_
    refine jr_goto hC (D_X0_climb.g 22 rfl) 40 rfl ?_
    exact hj_40 (-3) h
  exact jr_vret hC (D_X0_climb.g 46 rfl) hr hE h
def f_X0_hillAt (th : Nat) (a1 : Nat) (x2 : Int) (x3 : Int) (x4 : Int) (M : jMem) : Option (Int × jMem) :=
(jm_gR 0 2 M th).bind fun r1 =>
jbd (f_X0_climb a1 x3 x4 r1 M) fun _ M3 =>
(jm_gR 0 2 M3 th).bind fun r4 =>
(jm_ld 20 M3 r4 x2).bind fun v5 =>
some (v5, M3)
theorem D_X0_hillAt : jDs cX0_hillAt [(0, .aload_n 1, 1, 1), (1, .iload_n 3, 1, 2), (2, .iload 4, 2, 4), (4, .aload_n 0, 1, 5), (5, .getfield 19, 3, 8), (8, .invokestatic 36, 3, 11), (11, .aload_n 0, 1, 12), (12, .getfield 19, 3, 15), (15, .iload_n 2, 1, 16), (16, .iaload, 1, 17), (17, .ireturn, 1, 18)] := by unfold jDs; decide +kernel
set_option maxRecDepth 100000 in
set_option maxHeartbeats 4000000 in
theorem c_X0_hillAt {E : jE} {th : Nat} {a1 : Nat} {x2 : Int} {x3 : Int} {x4 : Int} {M : jMem} {r : Int} {M' : jMem} (h : f_X0_hillAt th a1 x2 x3 x4 M = some (r, M')) : jMet E yX0_hillAt cX0_hillAt 5 (some .int) 4 0 0 [q_r E th, q_r E a1, q_i x2, q_i x3, q_i x4] M (some (q_i r)) M' := by
  unfold f_X0_hillAt at h
  refine jMet.of RX0 rfl (by decide +kernel) (Nat.le_of_ble_eq_true rfl) [(0, q_r E th), (1, q_r E a1), (2, q_i x2), (3, q_i x3), (4, q_i x4)] rfl (fun X hC hE hr hn => ?_)
  refine jr_aload_n hC (D_X0_hillAt.g 0 rfl) 1 rfl ?_
  refine jr_iload_n hC (D_X0_hillAt.g 1 rfl) 3 rfl ?_
  refine jr_iload hC (D_X0_hillAt.g 2 rfl) 4 rfl ?_
  refine jr_aload_n hC (D_X0_hillAt.g 3 rfl) 0 rfl ?_
  refine jr_getR hC fl_X0_19 rfl (D_X0_hillAt.g 4 rfl) h (fun r1 h => ?_)
  refine jr_cSv hC cl_X0_36 (D_X0_hillAt.g 5 rfl) [q_r E a1, q_i x3, q_i x4, q_r E r1] h (fun r M' e => c_X0_climb e) rfl rfl ⟨by decide, by decide⟩ (Nat.le_of_ble_eq_true rfl) ⟨Nat.le_of_ble_eq_true rfl, Nat.le_of_ble_eq_true rfl⟩ (fun _ M3 h => ?_)
  refine jr_aload_n hC (D_X0_hillAt.g 6 rfl) 0 rfl ?_
  refine jr_getR hC fl_X0_19 rfl (D_X0_hillAt.g 7 rfl) h (fun r4 h => ?_)
  refine jr_iload_n hC (D_X0_hillAt.g 8 rfl) 2 rfl ?_
  refine jr_iald hC (D_X0_hillAt.g 9 rfl) h (fun v5 h => ?_)
  exact jr_iret hC (D_X0_hillAt.g 10 rfl) hr hE h
def f_X0_apartInRow (th : Nat) (a1 : Nat) (x2 : Int) (x3 : Int) (M : jMem) : Option (Int × jMem) :=
(jm_gR 0 2 M th).bind fun r1 =>
jbd (f_X0_climb a1 x2 x3 r1 M) fun _ M3 =>
jlp3 (fun rec_16 (y4_16 : Int) (y5_16 : Int) (M_16 : jMem) =>
(jm_gI 4 5 M_16 a1).bind fun v4 =>
if jd_wr y5_16 ≤ jd_wr v4 then ((jm_gR 0 2 M_16 th).bind fun r5 =>
(jm_ld 20 M_16 r5 y5_16).bind fun v6 =>
(jm_gR 0 3 M_16 th).bind fun r7 =>
(jm_ld 20 M_16 r7 y5_16).bind fun v8 =>
jbd (f_J9_abs_0f7a4 (v6 - v8) M_16) fun v9 M10 =>
rec_16 (y4_16 + v9) (y5_16 + 1) M10)
else (some (y4_16, M_16))) jfuel 0 0 M3
theorem D_X0_apartInRow : jDs cX0_apartInRow [(0, .aload_n 1, 1, 1), (1, .iload_n 2, 1, 2), (2, .iload_n 3, 1, 3), (3, .aload_n 0, 1, 4), (4, .getfield 19, 3, 7), (7, .invokestatic 36, 3, 10), (10, .iconst 0, 1, 11), (11, .istore 4, 2, 13), (13, .iconst 0, 1, 14), (14, .istore 5, 2, 16), (16, .iload 5, 2, 18), (18, .aload_n 1, 1, 19), (19, .getfield 26, 3, 22), (22, .if_icmp .gt 32, 3, 25), (25, .iload 4, 2, 27), (27, .aload_n 0, 1, 28), (28, .getfield 19, 3, 31), (31, .iload 5, 2, 33), (33, .iaload, 1, 34), (34, .aload_n 0, 1, 35), (35, .getfield 23, 3, 38), (38, .iload 5, 2, 40), (40, .iaload, 1, 41), (41, .isub, 1, 42), (42, .invokestatic 40, 3, 45), (45, .iadd, 1, 46), (46, .istore 4, 2, 48), (48, .iinc 5 1, 3, 51), (51, .goto (-35), 3, 54), (54, .iload 4, 2, 56), (56, .ireturn, 1, 57)] := by unfold jDs; decide +kernel
set_option maxRecDepth 100000 in
set_option maxHeartbeats 4000000 in
theorem c_X0_apartInRow {E : jE} {th : Nat} {a1 : Nat} {x2 : Int} {x3 : Int} {M : jMem} {r : Int} {M' : jMem} (h : f_X0_apartInRow th a1 x2 x3 M = some (r, M')) : jMet E yX0_apartInRow cX0_apartInRow 6 (some .int) 4 0 0 [q_r E th, q_r E a1, q_i x2, q_i x3] M (some (q_i r)) M' := by
  unfold f_X0_apartInRow at h
  refine jMet.of RX0 rfl (by decide +kernel) (Nat.le_of_ble_eq_true rfl) [(0, q_r E th), (1, q_r E a1), (2, q_i x2), (3, q_i x3)] rfl (fun X hC hE hr hn => ?_)
  refine jr_aload_n hC (D_X0_apartInRow.g 0 rfl) 1 rfl ?_
  refine jr_iload_n hC (D_X0_apartInRow.g 1 rfl) 2 rfl ?_
  refine jr_iload_n hC (D_X0_apartInRow.g 2 rfl) 3 rfl ?_
  refine jr_aload_n hC (D_X0_apartInRow.g 3 rfl) 0 rfl ?_
  refine jr_getR hC fl_X0_19 rfl (D_X0_apartInRow.g 4 rfl) h (fun r1 h => ?_)
  refine jr_cSv hC cl_X0_36 (D_X0_apartInRow.g 5 rfl) [q_r E a1, q_i x2, q_i x3, q_r E r1] h (fun r M' e => c_X0_climb e) rfl rfl ⟨by decide, by decide⟩ (Nat.le_of_ble_eq_true rfl) ⟨Nat.le_of_ble_eq_true rfl, Nat.le_of_ble_eq_true rfl⟩ (fun _ M3 h => ?_)
  refine jr_iconst hC (D_X0_apartInRow.g 6 rfl) ?_
  refine jr_istore hC (D_X0_apartInRow.g 7 rfl) (by decide) rfl ?_
  refine jr_iconst hC (D_X0_apartInRow.g 8 rfl) ?_
  refine jr_istore hC (D_X0_apartInRow.g 9 rfl) (by decide) rfl ?_
  refine jr_pick [2, 3, 1, 0] rfl ?_
  refine jr_lp3 (fun (y4_16 : Int) (y5_16 : Int) (M_16 : jMem) => JW E X 6 0 0 M_16 16 [(0, q_r E th), (1, q_r E a1), (4, q_i y4_16), (5, q_i y5_16)] []) ?_ jfuel 0 0 M3 h
  intro rec_16 hrec_16 y4_16 y5_16 M_16 h
  refine jr_iload hC (D_X0_apartInRow.g 10 rfl) 3 rfl ?_
  refine jr_aload_n hC (D_X0_apartInRow.g 11 rfl) 1 rfl ?_
  refine jr_getI hC fl_X0_26 rfl (D_X0_apartInRow.g 12 rfl) h (fun v4 h => ?_)
  refine jr_icmp_gt hC (D_X0_apartInRow.g 13 rfl) 54 rfl h (fun h => ?_) (fun h => ?_)
  · refine jr_iload hC (D_X0_apartInRow.g 14 rfl) 2 rfl ?_
    refine jr_aload_n hC (D_X0_apartInRow.g 15 rfl) 0 rfl ?_
    refine jr_getR hC fl_X0_19 rfl (D_X0_apartInRow.g 16 rfl) h (fun r5 h => ?_)
    refine jr_iload hC (D_X0_apartInRow.g 17 rfl) 3 rfl ?_
    refine jr_iald hC (D_X0_apartInRow.g 18 rfl) h (fun v6 h => ?_)
    refine jr_aload_n hC (D_X0_apartInRow.g 19 rfl) 0 rfl ?_
    refine jr_getR hC fl_X0_23 rfl (D_X0_apartInRow.g 20 rfl) h (fun r7 h => ?_)
    refine jr_iload hC (D_X0_apartInRow.g 21 rfl) 3 rfl ?_
    refine jr_iald hC (D_X0_apartInRow.g 22 rfl) h (fun v8 h => ?_)
    refine jr_isub hC (D_X0_apartInRow.g 23 rfl) ?_
    refine jr_cSi hC cl_X0_40 (D_X0_apartInRow.g 24 rfl) [q_i (v6 - v8)] h (fun r M' e => c_J9_abs_0f7a4 e) rfl rfl ⟨by decide, by decide⟩ (Nat.le_of_ble_eq_true rfl) ⟨Nat.le_of_ble_eq_true rfl, Nat.le_of_ble_eq_true rfl⟩ (fun v9 M10 h => ?_)
    refine jr_iadd hC (D_X0_apartInRow.g 25 rfl) ?_
    refine jr_istore hC (D_X0_apartInRow.g 26 rfl) (by decide) rfl ?_
    refine jr_iinc hC (D_X0_apartInRow.g 27 rfl) 3 rfl (by decide) rfl ?_
    refine jr_goto hC (D_X0_apartInRow.g 28 rfl) 16 rfl ?_
    refine jr_pick [2, 3, 1, 0] rfl ?_
    exact hrec_16 (y4_16 + v9) (y5_16 + 1) M10 h
  refine jr_iload hC (D_X0_apartInRow.g 29 rfl) 2 rfl ?_
  exact jr_iret hC (D_X0_apartInRow.g 30 rfl) hr hE h
def f_X0_apart (th : Nat) (a1 : Nat) (a2 : Nat) (a3 : Nat) (M : jMem) : Option (Int × jMem) :=
jlp3 (fun rec_6 (y4_6 : Int) (y5_6 : Int) (M_6 : jMem) =>
(jm_gI 4 6 M_6 a1).bind fun v1 =>
if jd_wr y5_6 ≤ jd_wr v1 then ((jm_ld 20 M_6 a3 y5_6).bind fun v2 =>
(jm_gR 0 3 M_6 th).bind fun r3 =>
jbd (f_X0_climb a1 y5_6 v2 r3 M_6) fun _ M5 =>
(jm_ld 20 M5 a2 y5_6).bind fun v6 =>
jcall 0 M5 th (f_X0_apartInRow th a1 y5_6 v6 M5) fun v7 M8 =>
rec_6 (y4_6 + v7) (y5_6 + 1) M8)
else (some (y4_6, M_6))) jfuel 0 0 M
theorem D_X0_apart : jDs cX0_apart [(0, .iconst 0, 1, 1), (1, .istore 4, 2, 3), (3, .iconst 0, 1, 4), (4, .istore 5, 2, 6), (6, .iload 5, 2, 8), (8, .aload_n 1, 1, 9), (9, .getfield 45, 3, 12), (12, .if_icmp .gt 39, 3, 15), (15, .aload_n 1, 1, 16), (16, .iload 5, 2, 18), (18, .aload_n 3, 1, 19), (19, .iload 5, 2, 21), (21, .iaload, 1, 22), (22, .aload_n 0, 1, 23), (23, .getfield 23, 3, 26), (26, .invokestatic 36, 3, 29), (29, .iload 4, 2, 31), (31, .aload_n 0, 1, 32), (32, .aload_n 1, 1, 33), (33, .iload 5, 2, 35), (35, .aload_n 2, 1, 36), (36, .iload 5, 2, 38), (38, .iaload, 1, 39), (39, .invokevirtual 48, 3, 42), (42, .iadd, 1, 43), (43, .istore 4, 2, 45), (45, .iinc 5 1, 3, 48), (48, .goto (-42), 3, 51), (51, .iload 4, 2, 53), (53, .ireturn, 1, 54)] := by unfold jDs; decide +kernel
set_option maxRecDepth 100000 in
set_option maxHeartbeats 4000000 in
theorem c_X0_apart {E : jE} {th : Nat} {a1 : Nat} {a2 : Nat} {a3 : Nat} {M : jMem} {r : Int} {M' : jMem} (h : f_X0_apart th a1 a2 a3 M = some (r, M')) : jMet E yX0_apart cX0_apart 6 (some .int) 5 0 0 [q_r E th, q_r E a1, q_r E a2, q_r E a3] M (some (q_i r)) M' := by
  unfold f_X0_apart at h
  refine jMet.of RX0 rfl (by decide +kernel) (Nat.le_of_ble_eq_true rfl) [(0, q_r E th), (1, q_r E a1), (2, q_r E a2), (3, q_r E a3)] rfl (fun X hC hE hr hn => ?_)
  refine jr_iconst hC (D_X0_apart.g 0 rfl) ?_
  refine jr_istore hC (D_X0_apart.g 1 rfl) (by decide) rfl ?_
  refine jr_iconst hC (D_X0_apart.g 2 rfl) ?_
  refine jr_istore hC (D_X0_apart.g 3 rfl) (by decide) rfl ?_
  refine jr_pick [2, 3, 4, 5, 1, 0] rfl ?_
  refine jr_lp3 (fun (y4_6 : Int) (y5_6 : Int) (M_6 : jMem) => JW E X 6 0 0 M_6 6 [(0, q_r E th), (1, q_r E a1), (2, q_r E a2), (3, q_r E a3), (4, q_i y4_6), (5, q_i y5_6)] []) ?_ jfuel 0 0 M h
  intro rec_6 hrec_6 y4_6 y5_6 M_6 h
  refine jr_iload hC (D_X0_apart.g 4 rfl) 5 rfl ?_
  refine jr_aload_n hC (D_X0_apart.g 5 rfl) 1 rfl ?_
  refine jr_getI hC fl_X0_45 rfl (D_X0_apart.g 6 rfl) h (fun v1 h => ?_)
  refine jr_icmp_gt hC (D_X0_apart.g 7 rfl) 51 rfl h (fun h => ?_) (fun h => ?_)
  · refine jr_aload_n hC (D_X0_apart.g 8 rfl) 1 rfl ?_
    refine jr_iload hC (D_X0_apart.g 9 rfl) 5 rfl ?_
    refine jr_aload_n hC (D_X0_apart.g 10 rfl) 3 rfl ?_
    refine jr_iload hC (D_X0_apart.g 11 rfl) 5 rfl ?_
    refine jr_iald hC (D_X0_apart.g 12 rfl) h (fun v2 h => ?_)
    refine jr_aload_n hC (D_X0_apart.g 13 rfl) 0 rfl ?_
    refine jr_getR hC fl_X0_23 rfl (D_X0_apart.g 14 rfl) h (fun r3 h => ?_)
    refine jr_cSv hC cl_X0_36 (D_X0_apart.g 15 rfl) [q_r E a1, q_i y5_6, q_i v2, q_r E r3] h (fun r M' e => c_X0_climb e) rfl rfl ⟨by decide, by decide⟩ (Nat.le_of_ble_eq_true rfl) ⟨Nat.le_of_ble_eq_true rfl, Nat.le_of_ble_eq_true rfl⟩ (fun _ M5 h => ?_)
    refine jr_iload hC (D_X0_apart.g 16 rfl) 4 rfl ?_
    refine jr_aload_n hC (D_X0_apart.g 17 rfl) 0 rfl ?_
    refine jr_aload_n hC (D_X0_apart.g 18 rfl) 1 rfl ?_
    refine jr_iload hC (D_X0_apart.g 19 rfl) 5 rfl ?_
    refine jr_aload_n hC (D_X0_apart.g 20 rfl) 2 rfl ?_
    refine jr_iload hC (D_X0_apart.g 21 rfl) 5 rfl ?_
    refine jr_iald hC (D_X0_apart.g 22 rfl) h (fun v6 h => ?_)
    refine jr_cVi hC cl_X0_48 ⟨rfl, by decide⟩ (D_X0_apart.g 23 rfl) [q_r E a1, q_i y5_6, q_i v6] h (fun r M' e => c_X0_apartInRow e) rfl rfl ⟨by decide, by decide⟩ (Nat.le_of_ble_eq_true rfl) ⟨Nat.le_of_ble_eq_true rfl, Nat.le_of_ble_eq_true rfl⟩ (fun v7 M8 h => ?_)
    refine jr_iadd hC (D_X0_apart.g 24 rfl) ?_
    refine jr_istore hC (D_X0_apart.g 25 rfl) (by decide) rfl ?_
    refine jr_iinc hC (D_X0_apart.g 26 rfl) 5 rfl (by decide) rfl ?_
    refine jr_goto hC (D_X0_apart.g 27 rfl) 6 rfl ?_
    refine jr_pick [2, 3, 4, 5, 1, 0] rfl ?_
    exact hrec_6 (y4_6 + v7) (y5_6 + 1) M8 h
  refine jr_iload hC (D_X0_apart.g 28 rfl) 4 rfl ?_
  exact jr_iret hC (D_X0_apart.g 29 rfl) hr hE h
def f_X0_weighFar (th : Nat) (a1 : Nat) (a2 : Nat) (M : jMem) : Option (Int × jMem) :=
jlp2 (fun rec_2 (y3_2 : Int) (M_2 : jMem) =>
(jm_gI 4 6 M_2 a1).bind fun v1 =>
if jd_wr y3_2 ≤ jd_wr v1 then ((jm_ld 20 M_2 a2 y3_2).bind fun v2 =>
(jm_gR 0 3 M_2 th).bind fun r3 =>
jbd (f_X0_climb a1 y3_2 v2 r3 M_2) fun _ M5 =>
jlp2 (fun rec_25 (y4_25 : Int) (M_25 : jMem) =>
(jm_gI 4 7 M_25 a1).bind fun v6 =>
if jd_wr y4_25 ≤ jd_wr v6 then ((jm_gR 0 0 M_25 th).bind fun r7 =>
(jm_ldR 24 M_25 r7 y3_2).bind fun r8 =>
jcall 0 M_25 th (f_X0_apartInRow th a1 y3_2 y4_25 M_25) fun v9 M10 =>
(jm_st 20 M10 r8 y4_25 v9).bind fun M11 =>
rec_25 (y4_25 + 1) M11)
else (rec_2 (y3_2 + 1) M_25)) jfuel 0 M5)
else (some (0, M_2))) jfuel 0 M
theorem D_X0_weighFar : jDs cX0_weighFar [(0, .iconst 0, 1, 1), (1, .istore_n 3, 1, 2), (2, .iload_n 3, 1, 3), (3, .aload_n 1, 1, 4), (4, .getfield 45, 3, 7), (7, .if_icmp .gt 56, 3, 10), (10, .aload_n 1, 1, 11), (11, .iload_n 3, 1, 12), (12, .aload_n 2, 1, 13), (13, .iload_n 3, 1, 14), (14, .iaload, 1, 15), (15, .aload_n 0, 1, 16), (16, .getfield 23, 3, 19), (19, .invokestatic 36, 3, 22), (22, .iconst 0, 1, 23), (23, .istore 4, 2, 25), (25, .iload 4, 2, 27), (27, .aload_n 1, 1, 28), (28, .getfield 52, 3, 31), (31, .if_icmp .gt 26, 3, 34), (34, .aload_n 0, 1, 35), (35, .getfield 11, 3, 38), (38, .iload_n 3, 1, 39), (39, .aaload, 1, 40), (40, .iload 4, 2, 42), (42, .aload_n 0, 1, 43), (43, .aload_n 1, 1, 44), (44, .iload_n 3, 1, 45), (45, .iload 4, 2, 47), (47, .invokevirtual 48, 3, 50), (50, .iastore, 1, 51), (51, .iinc 4 1, 3, 54), (54, .goto (-29), 3, 57), (57, .iinc 3 1, 3, 60), (60, .goto (-58), 3, 63), (63, .return_, 1, 64)] := by unfold jDs; decide +kernel
set_option maxRecDepth 100000 in
set_option maxHeartbeats 4000000 in
theorem c_X0_weighFar {E : jE} {th : Nat} {a1 : Nat} {a2 : Nat} {M : jMem} {r : Int} {M' : jMem} (h : f_X0_weighFar th a1 a2 M = some (r, M')) : jMet E yX0_weighFar cX0_weighFar 5 (none) 5 0 0 [q_r E th, q_r E a1, q_r E a2] M (none) M' := by
  unfold f_X0_weighFar at h
  refine jMet.of RX0 rfl (by decide +kernel) (Nat.le_of_ble_eq_true rfl) [(0, q_r E th), (1, q_r E a1), (2, q_r E a2)] rfl (fun X hC hE hr hn => ?_)
  refine jr_iconst hC (D_X0_weighFar.g 0 rfl) ?_
  refine jr_istore_n hC (D_X0_weighFar.g 1 rfl) (by decide) rfl ?_
  refine jr_pick [1, 2, 3, 0] rfl ?_
  refine jr_lp2 (fun (y3_2 : Int) (M_2 : jMem) => JW E X 5 0 0 M_2 2 [(0, q_r E th), (1, q_r E a1), (2, q_r E a2), (3, q_i y3_2)] []) ?_ jfuel 0 M h
  intro rec_2 hrec_2 y3_2 M_2 h
  refine jr_iload_n hC (D_X0_weighFar.g 2 rfl) 3 rfl ?_
  refine jr_aload_n hC (D_X0_weighFar.g 3 rfl) 1 rfl ?_
  refine jr_getI hC fl_X0_45 rfl (D_X0_weighFar.g 4 rfl) h (fun v1 h => ?_)
  refine jr_icmp_gt hC (D_X0_weighFar.g 5 rfl) 63 rfl h (fun h => ?_) (fun h => ?_)
  · refine jr_aload_n hC (D_X0_weighFar.g 6 rfl) 1 rfl ?_
    refine jr_iload_n hC (D_X0_weighFar.g 7 rfl) 3 rfl ?_
    refine jr_aload_n hC (D_X0_weighFar.g 8 rfl) 2 rfl ?_
    refine jr_iload_n hC (D_X0_weighFar.g 9 rfl) 3 rfl ?_
    refine jr_iald hC (D_X0_weighFar.g 10 rfl) h (fun v2 h => ?_)
    refine jr_aload_n hC (D_X0_weighFar.g 11 rfl) 0 rfl ?_
    refine jr_getR hC fl_X0_23 rfl (D_X0_weighFar.g 12 rfl) h (fun r3 h => ?_)
    refine jr_cSv hC cl_X0_36 (D_X0_weighFar.g 13 rfl) [q_r E a1, q_i y3_2, q_i v2, q_r E r3] h (fun r M' e => c_X0_climb e) rfl rfl ⟨by decide, by decide⟩ (Nat.le_of_ble_eq_true rfl) ⟨Nat.le_of_ble_eq_true rfl, Nat.le_of_ble_eq_true rfl⟩ (fun _ M5 h => ?_)
    refine jr_iconst hC (D_X0_weighFar.g 14 rfl) ?_
    refine jr_istore hC (D_X0_weighFar.g 15 rfl) (by decide) rfl ?_
    refine jr_pick [1, 2, 3, 4, 0] rfl ?_
    refine jr_lp2 (fun (y4_25 : Int) (M_25 : jMem) => JW E X 5 0 0 M_25 25 [(0, q_r E th), (1, q_r E a1), (2, q_r E a2), (3, q_i y3_2), (4, q_i y4_25)] []) ?_ jfuel 0 M5 h
    intro rec_25 hrec_25 y4_25 M_25 h
    refine jr_iload hC (D_X0_weighFar.g 16 rfl) 4 rfl ?_
    refine jr_aload_n hC (D_X0_weighFar.g 17 rfl) 1 rfl ?_
    refine jr_getI hC fl_X0_52 rfl (D_X0_weighFar.g 18 rfl) h (fun v6 h => ?_)
    refine jr_icmp_gt hC (D_X0_weighFar.g 19 rfl) 57 rfl h (fun h => ?_) (fun h => ?_)
    · refine jr_aload_n hC (D_X0_weighFar.g 20 rfl) 0 rfl ?_
      refine jr_getR hC fl_X0_11 rfl (D_X0_weighFar.g 21 rfl) h (fun r7 h => ?_)
      refine jr_iload_n hC (D_X0_weighFar.g 22 rfl) 3 rfl ?_
      refine jr_aald hC 24 4 rfl (by decide) (D_X0_weighFar.g 23 rfl) h (fun r8 h => ?_)
      refine jr_iload hC (D_X0_weighFar.g 24 rfl) 4 rfl ?_
      refine jr_aload_n hC (D_X0_weighFar.g 25 rfl) 0 rfl ?_
      refine jr_aload_n hC (D_X0_weighFar.g 26 rfl) 1 rfl ?_
      refine jr_iload_n hC (D_X0_weighFar.g 27 rfl) 3 rfl ?_
      refine jr_iload hC (D_X0_weighFar.g 28 rfl) 4 rfl ?_
      refine jr_cVi hC cl_X0_48 ⟨rfl, by decide⟩ (D_X0_weighFar.g 29 rfl) [q_r E a1, q_i y3_2, q_i y4_25] h (fun r M' e => c_X0_apartInRow e) rfl rfl ⟨by decide, by decide⟩ (Nat.le_of_ble_eq_true rfl) ⟨Nat.le_of_ble_eq_true rfl, Nat.le_of_ble_eq_true rfl⟩ (fun v9 M10 h => ?_)
      refine jr_iast hC (D_X0_weighFar.g 30 rfl) h (fun M11 _ h => ?_)
      refine jr_iinc hC (D_X0_weighFar.g 31 rfl) 4 rfl (by decide) rfl ?_
      refine jr_goto hC (D_X0_weighFar.g 32 rfl) 25 rfl ?_
      refine jr_pick [1, 2, 3, 4, 0] rfl ?_
      exact hrec_25 (y4_25 + 1) M11 h
    refine jr_iinc hC (D_X0_weighFar.g 33 rfl) 3 rfl (by decide) rfl ?_
    refine jr_goto hC (D_X0_weighFar.g 34 rfl) 2 rfl ?_
    refine jr_pick [1, 2, 3, 0] rfl ?_
    exact hrec_2 (y3_2 + 1) M_25 h
  exact jr_vret hC (D_X0_weighFar.g 35 rfl) hr hE h
def f_X0_weighLow (th : Nat) (a1 : Nat) (M : jMem) : Option (Int × jMem) :=
jlp2 (fun rec_2 (y2_2 : Int) (M_2 : jMem) =>
(jm_gI 4 6 M_2 a1).bind fun v1 =>
if jd_wr y2_2 ≤ jd_wr v1 then (jlp2 (fun rec_12 (y3_12 : Int) (M_12 : jMem) =>
(jm_gI 4 7 M_12 a1).bind fun v2 =>
if jd_wr y3_12 ≤ jd_wr v2 then ((jm_gR 0 2 M_12 th).bind fun r3 =>
jbd (f_X0_climb a1 y2_2 y3_12 r3 M_12) fun _ M5 =>
jlp2 (fun rec_36 (y4_36 : Int) (y5_36 : Int) =>
(jm_gI 4 5 M5 a1).bind fun v6 =>
if jd_wr y5_36 ≤ jd_wr v6 then ((jm_gR 0 2 M5 th).bind fun r7 =>
(jm_ld 20 M5 r7 y5_36).bind fun v8 =>
rec_36 (y4_36 + v8) (y5_36 + 1))
else ((jm_gR 0 0 M5 th).bind fun r9 =>
(jm_ldR 24 M5 r9 y2_2).bind fun r10 =>
(jm_st 20 M5 r10 y3_12 (0 - y4_36)).bind fun M11 =>
rec_12 (y3_12 + 1) M11)) jfuel 0 0)
else (rec_2 (y2_2 + 1) M_12)) jfuel 0 M_2)
else (some (0, M_2))) jfuel 0 M
theorem D_X0_weighLow : jDs cX0_weighLow [(0, .iconst 0, 1, 1), (1, .istore_n 2, 1, 2), (2, .iload_n 2, 1, 3), (3, .aload_n 1, 1, 4), (4, .getfield 45, 3, 7), (7, .if_icmp .gt 79, 3, 10), (10, .iconst 0, 1, 11), (11, .istore_n 3, 1, 12), (12, .iload_n 3, 1, 13), (13, .aload_n 1, 1, 14), (14, .getfield 52, 3, 17), (17, .if_icmp .gt 63, 3, 20), (20, .aload_n 1, 1, 21), (21, .iload_n 2, 1, 22), (22, .iload_n 3, 1, 23), (23, .aload_n 0, 1, 24), (24, .getfield 19, 3, 27), (27, .invokestatic 36, 3, 30), (30, .iconst 0, 1, 31), (31, .istore 4, 2, 33), (33, .iconst 0, 1, 34), (34, .istore 5, 2, 36), (36, .iload 5, 2, 38), (38, .aload_n 1, 1, 39), (39, .getfield 26, 3, 42), (42, .if_icmp .gt 21, 3, 45), (45, .iload 4, 2, 47), (47, .aload_n 0, 1, 48), (48, .getfield 19, 3, 51), (51, .iload 5, 2, 53), (53, .iaload, 1, 54), (54, .iadd, 1, 55), (55, .istore 4, 2, 57), (57, .iinc 5 1, 3, 60), (60, .goto (-24), 3, 63), (63, .aload_n 0, 1, 64), (64, .getfield 11, 3, 67), (67, .iload_n 2, 1, 68), (68, .aaload, 1, 69), (69, .iload_n 3, 1, 70), (70, .iload 4, 2, 72), (72, .ineg, 1, 73), (73, .iastore, 1, 74), (74, .iinc 3 1, 3, 77), (77, .goto (-65), 3, 80), (80, .iinc 2 1, 3, 83), (83, .goto (-81), 3, 86), (86, .return_, 1, 87)] := by unfold jDs; decide +kernel
set_option maxRecDepth 100000 in
set_option maxHeartbeats 4000000 in
theorem c_X0_weighLow {E : jE} {th : Nat} {a1 : Nat} {M : jMem} {r : Int} {M' : jMem} (h : f_X0_weighLow th a1 M = some (r, M')) : jMet E yX0_weighLow cX0_weighLow 6 (none) 4 0 0 [q_r E th, q_r E a1] M (none) M' := by
  unfold f_X0_weighLow at h
  refine jMet.of RX0 rfl (by decide +kernel) (Nat.le_of_ble_eq_true rfl) [(0, q_r E th), (1, q_r E a1)] rfl (fun X hC hE hr hn => ?_)
  refine jr_iconst hC (D_X0_weighLow.g 0 rfl) ?_
  refine jr_istore_n hC (D_X0_weighLow.g 1 rfl) (by decide) rfl ?_
  refine jr_pick [1, 2, 0] rfl ?_
  refine jr_lp2 (fun (y2_2 : Int) (M_2 : jMem) => JW E X 6 0 0 M_2 2 [(0, q_r E th), (1, q_r E a1), (2, q_i y2_2)] []) ?_ jfuel 0 M h
  intro rec_2 hrec_2 y2_2 M_2 h
  refine jr_iload_n hC (D_X0_weighLow.g 2 rfl) 2 rfl ?_
  refine jr_aload_n hC (D_X0_weighLow.g 3 rfl) 1 rfl ?_
  refine jr_getI hC fl_X0_45 rfl (D_X0_weighLow.g 4 rfl) h (fun v1 h => ?_)
  refine jr_icmp_gt hC (D_X0_weighLow.g 5 rfl) 86 rfl h (fun h => ?_) (fun h => ?_)
  · refine jr_iconst hC (D_X0_weighLow.g 6 rfl) ?_
    refine jr_istore_n hC (D_X0_weighLow.g 7 rfl) (by decide) rfl ?_
    refine jr_pick [1, 2, 3, 0] rfl ?_
    refine jr_lp2 (fun (y3_12 : Int) (M_12 : jMem) => JW E X 6 0 0 M_12 12 [(0, q_r E th), (1, q_r E a1), (2, q_i y2_2), (3, q_i y3_12)] []) ?_ jfuel 0 M_2 h
    intro rec_12 hrec_12 y3_12 M_12 h
    refine jr_iload_n hC (D_X0_weighLow.g 8 rfl) 3 rfl ?_
    refine jr_aload_n hC (D_X0_weighLow.g 9 rfl) 1 rfl ?_
    refine jr_getI hC fl_X0_52 rfl (D_X0_weighLow.g 10 rfl) h (fun v2 h => ?_)
    refine jr_icmp_gt hC (D_X0_weighLow.g 11 rfl) 80 rfl h (fun h => ?_) (fun h => ?_)
    · refine jr_aload_n hC (D_X0_weighLow.g 12 rfl) 1 rfl ?_
      refine jr_iload_n hC (D_X0_weighLow.g 13 rfl) 2 rfl ?_
      refine jr_iload_n hC (D_X0_weighLow.g 14 rfl) 3 rfl ?_
      refine jr_aload_n hC (D_X0_weighLow.g 15 rfl) 0 rfl ?_
      refine jr_getR hC fl_X0_19 rfl (D_X0_weighLow.g 16 rfl) h (fun r3 h => ?_)
      refine jr_cSv hC cl_X0_36 (D_X0_weighLow.g 17 rfl) [q_r E a1, q_i y2_2, q_i y3_12, q_r E r3] h (fun r M' e => c_X0_climb e) rfl rfl ⟨by decide, by decide⟩ (Nat.le_of_ble_eq_true rfl) ⟨Nat.le_of_ble_eq_true rfl, Nat.le_of_ble_eq_true rfl⟩ (fun _ M5 h => ?_)
      refine jr_iconst hC (D_X0_weighLow.g 18 rfl) ?_
      refine jr_istore hC (D_X0_weighLow.g 19 rfl) (by decide) rfl ?_
      refine jr_iconst hC (D_X0_weighLow.g 20 rfl) ?_
      refine jr_istore hC (D_X0_weighLow.g 21 rfl) (by decide) rfl ?_
      refine jr_pick [2, 3, 4, 5, 1, 0] rfl ?_
      refine jr_lp2 (fun (y4_36 : Int) (y5_36 : Int) => JW E X 6 0 0 M5 36 [(0, q_r E th), (1, q_r E a1), (2, q_i y2_2), (3, q_i y3_12), (4, q_i y4_36), (5, q_i y5_36)] []) ?_ jfuel 0 0 h
      intro rec_36 hrec_36 y4_36 y5_36 h
      refine jr_iload hC (D_X0_weighLow.g 22 rfl) 5 rfl ?_
      refine jr_aload_n hC (D_X0_weighLow.g 23 rfl) 1 rfl ?_
      refine jr_getI hC fl_X0_26 rfl (D_X0_weighLow.g 24 rfl) h (fun v6 h => ?_)
      refine jr_icmp_gt hC (D_X0_weighLow.g 25 rfl) 63 rfl h (fun h => ?_) (fun h => ?_)
      · refine jr_iload hC (D_X0_weighLow.g 26 rfl) 4 rfl ?_
        refine jr_aload_n hC (D_X0_weighLow.g 27 rfl) 0 rfl ?_
        refine jr_getR hC fl_X0_19 rfl (D_X0_weighLow.g 28 rfl) h (fun r7 h => ?_)
        refine jr_iload hC (D_X0_weighLow.g 29 rfl) 5 rfl ?_
        refine jr_iald hC (D_X0_weighLow.g 30 rfl) h (fun v8 h => ?_)
        refine jr_iadd hC (D_X0_weighLow.g 31 rfl) ?_
        refine jr_istore hC (D_X0_weighLow.g 32 rfl) (by decide) rfl ?_
        refine jr_iinc hC (D_X0_weighLow.g 33 rfl) 5 rfl (by decide) rfl ?_
        refine jr_goto hC (D_X0_weighLow.g 34 rfl) 36 rfl ?_
        refine jr_pick [2, 3, 4, 5, 1, 0] rfl ?_
        exact hrec_36 (y4_36 + v8) (y5_36 + 1) h
      refine jr_aload_n hC (D_X0_weighLow.g 35 rfl) 0 rfl ?_
      refine jr_getR hC fl_X0_11 rfl (D_X0_weighLow.g 36 rfl) h (fun r9 h => ?_)
      refine jr_iload_n hC (D_X0_weighLow.g 37 rfl) 2 rfl ?_
      refine jr_aald hC 24 4 rfl (by decide) (D_X0_weighLow.g 38 rfl) h (fun r10 h => ?_)
      refine jr_iload_n hC (D_X0_weighLow.g 39 rfl) 3 rfl ?_
      refine jr_iload hC (D_X0_weighLow.g 40 rfl) 4 rfl ?_
      refine jr_ineg hC (D_X0_weighLow.g 41 rfl) ?_
      refine jr_iast hC (D_X0_weighLow.g 42 rfl) h (fun M11 _ h => ?_)
      refine jr_iinc hC (D_X0_weighLow.g 43 rfl) 3 rfl (by decide) rfl ?_
      refine jr_goto hC (D_X0_weighLow.g 44 rfl) 12 rfl ?_
      refine jr_pick [1, 2, 3, 0] rfl ?_
      exact hrec_12 (y3_12 + 1) M11 h
    refine jr_iinc hC (D_X0_weighLow.g 45 rfl) 2 rfl (by decide) rfl ?_
    refine jr_goto hC (D_X0_weighLow.g 46 rfl) 2 rfl ?_
    refine jr_pick [1, 2, 0] rfl ?_
    exact hrec_2 (y2_2 + 1) M_12 h
  exact jr_vret hC (D_X0_weighLow.g 47 rfl) hr hE h
def f_X0_bestPart (th : Nat) (a1 : Nat) (x2 : Int) (x3 : Int) (M : jMem) : Option (Int × jMem) :=
jcall 4 M a1 (f_X4_roomBelow a1 x2 x3 M) fun v1 M2 =>
jlp5 (fun rec_21 (y5_21 : Int) (y6_21 : Int) (y7_21 : Int) (y8_21 : Int) (M_21 : jMem) =>
if jd_wr y7_21 = jd_wr (-1) then (some (y5_21, M_21))
else (if jd_wr y8_21 < jd_wr 64 then ((jm_gR 0 1 M_21 th).bind fun r3 =>
(jm_ldR 24 M_21 r3 (x2 + 1)).bind fun r4 =>
(jm_ld 20 M_21 r4 y7_21).bind fun v5 =>
jjq (fun (y5_78 : Int) (y6_78 : Int) (M_78 : jMem) =>
jbd (f_X4_partAfter y7_21 v1 M_78) fun v6 M7 =>
rec_21 y5_78 y6_78 v6 (y8_21 + 1) M7) fun j_78 =>
if jd_wr v5 ≤ jd_wr y6_21 then (j_78 y5_21 y6_21 M_21)
else (jcall 4 M_21 a1 (f_X4_fills a1 x2 x3 y7_21 M_21) fun v8 M9 =>
if jd_wr v8 = 0 then (j_78 y5_21 y6_21 M9)
else ((jm_gR 0 1 M9 th).bind fun r10 =>
(jm_ldR 24 M9 r10 (x2 + 1)).bind fun r11 =>
(jm_ld 20 M9 r11 y7_21).bind fun v12 =>
j_78 y7_21 v12 M9)))
else (some (y5_21, M_21)))) jfuel (-1) (-1000000) 0 0 M2
theorem D_X0_bestPart : jDs cX0_bestPart [(0, .aload_n 1, 1, 1), (1, .iload_n 2, 1, 2), (2, .iload_n 3, 1, 3), (3, .invokevirtual 72, 3, 6), (6, .istore 4, 2, 8), (8, .iconst (-1), 1, 9), (9, .istore 5, 2, 11), (11, .ldc 55, 2, 13), (13, .istore 6, 2, 15), (15, .iconst 0, 1, 16), (16, .istore 7, 2, 18), (18, .iconst 0, 1, 19), (19, .istore 8, 2, 21), (21, .iload 7, 2, 23), (23, .iconst (-1), 1, 24), (24, .if_icmp .eq 69, 3, 27), (27, .iload 8, 2, 29), (29, .bipush 64, 2, 31), (31, .if_icmp .ge 62, 3, 34), (34, .aload_n 0, 1, 35), (35, .getfield 16, 3, 38), (38, .iload_n 2, 1, 39), (39, .iconst 1, 1, 40), (40, .iadd, 1, 41), (41, .aaload, 1, 42), (42, .iload 7, 2, 44), (44, .iaload, 1, 45), (45, .iload 6, 2, 47), (47, .if_icmp .le 31, 3, 50), (50, .aload_n 1, 1, 51), (51, .iload_n 2, 1, 52), (52, .iload_n 3, 1, 53), (53, .iload 7, 2, 55), (55, .invokevirtual 75, 3, 58), (58, .ifCond .eq 20, 3, 61), (61, .iload 7, 2, 63), (63, .istore 5, 2, 65), (65, .aload_n 0, 1, 66), (66, .getfield 16, 3, 69), (69, .iload_n 2, 1, 70), (70, .iconst 1, 1, 71), (71, .iadd, 1, 72), (72, .aaload, 1, 73), (73, .iload 7, 2, 75), (75, .iaload, 1, 76), (76, .istore 6, 2, 78), (78, .iload 7, 2, 80), (80, .iload 4, 2, 82), (82, .invokestatic 79, 3, 85), (85, .istore 7, 2, 87), (87, .iinc 8 1, 3, 90), (90, .goto (-69), 3, 93), (93, .iload 5, 2, 95), (95, .ireturn, 1, 96)] := by unfold jDs; decide +kernel
set_option maxRecDepth 100000 in
set_option maxHeartbeats 4000000 in
theorem c_X0_bestPart {E : jE} {th : Nat} {a1 : Nat} {x2 : Int} {x3 : Int} {M : jMem} {r : Int} {M' : jMem} (h : f_X0_bestPart th a1 x2 x3 M = some (r, M')) : jMet E yX0_bestPart cX0_bestPart 9 (some .int) 4 0 0 [q_r E th, q_r E a1, q_i x2, q_i x3] M (some (q_i r)) M' := by
  unfold f_X0_bestPart at h
  refine jMet.of RX0 rfl (by decide +kernel) (Nat.le_of_ble_eq_true rfl) [(0, q_r E th), (1, q_r E a1), (2, q_i x2), (3, q_i x3)] rfl (fun X hC hE hr hn => ?_)
  refine jr_aload_n hC (D_X0_bestPart.g 0 rfl) 1 rfl ?_
  refine jr_iload_n hC (D_X0_bestPart.g 1 rfl) 2 rfl ?_
  refine jr_iload_n hC (D_X0_bestPart.g 2 rfl) 3 rfl ?_
  refine jr_cVi hC cl_X0_72 ⟨rfl, by decide⟩ (D_X0_bestPart.g 3 rfl) [q_i x2, q_i x3] h (fun r M' e => c_X4_roomBelow e) rfl rfl ⟨by decide, by decide⟩ (Nat.le_of_ble_eq_true rfl) ⟨Nat.le_of_ble_eq_true rfl, Nat.le_of_ble_eq_true rfl⟩ (fun v1 M2 h => ?_)
  refine jr_istore hC (D_X0_bestPart.g 4 rfl) (by decide) rfl ?_
  refine jr_iconst hC (D_X0_bestPart.g 5 rfl) ?_
  refine jr_istore hC (D_X0_bestPart.g 6 rfl) (by decide) rfl ?_
  refine jr_ldc hC (-1000000) (jt_in (i := 1218) (by decide +kernel) rfl) (D_X0_bestPart.g 7 rfl) ?_
  refine jr_istore hC (D_X0_bestPart.g 8 rfl) (by decide) rfl ?_
  refine jr_iconst hC (D_X0_bestPart.g 9 rfl) ?_
  refine jr_istore hC (D_X0_bestPart.g 10 rfl) (by decide) rfl ?_
  refine jr_iconst hC (D_X0_bestPart.g 11 rfl) ?_
  refine jr_istore hC (D_X0_bestPart.g 12 rfl) (by decide) rfl ?_
  refine jr_pick [5, 6, 7, 8, 4, 3, 2, 1, 0] rfl ?_
  refine jr_lp5 (fun (y5_21 : Int) (y6_21 : Int) (y7_21 : Int) (y8_21 : Int) (M_21 : jMem) => JW E X 9 0 0 M_21 21 [(0, q_r E th), (1, q_r E a1), (2, q_i x2), (3, q_i x3), (4, q_i v1), (5, q_i y5_21), (6, q_i y6_21), (7, q_i y7_21), (8, q_i y8_21)] []) ?_ jfuel (-1) (-1000000) 0 0 M2 h
  intro rec_21 hrec_21 y5_21 y6_21 y7_21 y8_21 M_21 h
  refine jr_iload hC (D_X0_bestPart.g 13 rfl) 7 rfl ?_
  refine jr_iconst hC (D_X0_bestPart.g 14 rfl) ?_
  refine jr_icmp_eq hC (D_X0_bestPart.g 15 rfl) 93 rfl h (fun h => ?_) (fun h => ?_)
  · refine jr_iload hC (D_X0_bestPart.g 52 rfl) 5 rfl ?_
    exact jr_iret hC (D_X0_bestPart.g 53 rfl) hr hE h
  refine jr_iload hC (D_X0_bestPart.g 16 rfl) 8 rfl ?_
  refine jr_bipush hC (D_X0_bestPart.g 17 rfl) bp_64 ?_
  refine jr_icmp_ge hC (D_X0_bestPart.g 18 rfl) 93 rfl h (fun h => ?_) (fun h => ?_)
  · refine jr_aload_n hC (D_X0_bestPart.g 19 rfl) 0 rfl ?_
    refine jr_getR hC fl_X0_16 rfl (D_X0_bestPart.g 20 rfl) h (fun r3 h => ?_)
    refine jr_iload_n hC (D_X0_bestPart.g 21 rfl) 2 rfl ?_
    refine jr_iconst hC (D_X0_bestPart.g 22 rfl) ?_
    refine jr_iadd hC (D_X0_bestPart.g 23 rfl) ?_
    refine jr_aald hC 24 4 rfl (by decide) (D_X0_bestPart.g 24 rfl) h (fun r4 h => ?_)
    refine jr_iload hC (D_X0_bestPart.g 25 rfl) 7 rfl ?_
    refine jr_iald hC (D_X0_bestPart.g 26 rfl) h (fun v5 h => ?_)
    refine jr_iload hC (D_X0_bestPart.g 27 rfl) 6 rfl ?_
    refine jr_join h (fun j => ∀ (y5_78 : Int) (y6_78 : Int) (M_78 : jMem), j y5_78 y6_78 M_78 = some (r, M') → JW E X 9 0 0 M_78 78 [(0, q_r E th), (1, q_r E a1), (2, q_i x2), (3, q_i x3), (4, q_i v1), (5, q_i y5_78), (6, q_i y6_78), (7, q_i y7_21), (8, q_i y8_21)] []) ?_ ?_
    · intro y5_78 y6_78 M_78 h
      refine jr_iload hC (D_X0_bestPart.g 46 rfl) 7 rfl ?_
      refine jr_iload hC (D_X0_bestPart.g 47 rfl) 4 rfl ?_
      refine jr_cSi hC cl_X0_79 (D_X0_bestPart.g 48 rfl) [q_i y7_21, q_i v1] h (fun r M' e => c_X4_partAfter e) rfl rfl ⟨by decide, by decide⟩ (Nat.le_of_ble_eq_true rfl) ⟨Nat.le_of_ble_eq_true rfl, Nat.le_of_ble_eq_true rfl⟩ (fun v6 M7 h => ?_)
      refine jr_istore hC (D_X0_bestPart.g 49 rfl) (by decide) rfl ?_
      refine jr_iinc hC (D_X0_bestPart.g 50 rfl) 8 rfl (by decide) rfl ?_
      refine jr_goto hC (D_X0_bestPart.g 51 rfl) 21 rfl ?_
      refine jr_pick [2, 3, 4, 5, 6, 7, 8, 1, 0] rfl ?_
      exact hrec_21 y5_78 y6_78 v6 (y8_21 + 1) M7 h
    intro j_78 hj_78 h
    refine jr_icmp_le hC (D_X0_bestPart.g 28 rfl) 78 rfl h (fun h => ?_) (fun h => ?_)
    · exact hj_78 y5_21 y6_21 M_21 h
    refine jr_aload_n hC (D_X0_bestPart.g 29 rfl) 1 rfl ?_
    refine jr_iload_n hC (D_X0_bestPart.g 30 rfl) 2 rfl ?_
    refine jr_iload_n hC (D_X0_bestPart.g 31 rfl) 3 rfl ?_
    refine jr_iload hC (D_X0_bestPart.g 32 rfl) 7 rfl ?_
    refine jr_cVi hC cl_X0_75 ⟨rfl, by decide⟩ (D_X0_bestPart.g 33 rfl) [q_i x2, q_i x3, q_i y7_21] h (fun r M' e => c_X4_fills e) rfl rfl ⟨by decide, by decide⟩ (Nat.le_of_ble_eq_true rfl) ⟨Nat.le_of_ble_eq_true rfl, Nat.le_of_ble_eq_true rfl⟩ (fun v8 M9 h => ?_)
    refine jr_if_eq hC (D_X0_bestPart.g 34 rfl) 78 rfl h (fun h => ?_) (fun h => ?_)
    · exact hj_78 y5_21 y6_21 M9 h
    refine jr_iload hC (D_X0_bestPart.g 35 rfl) 7 rfl ?_
    refine jr_istore hC (D_X0_bestPart.g 36 rfl) (by decide) rfl ?_
    refine jr_aload_n hC (D_X0_bestPart.g 37 rfl) 1 rfl ?_
    refine jr_getR hC fl_X0_16 rfl (D_X0_bestPart.g 38 rfl) h (fun r10 h => ?_)
    refine jr_iload_n hC (D_X0_bestPart.g 39 rfl) 3 rfl ?_
    refine jr_iconst hC (D_X0_bestPart.g 40 rfl) ?_
    refine jr_iadd hC (D_X0_bestPart.g 41 rfl) ?_
    refine jr_aald hC 24 4 rfl (by decide) (D_X0_bestPart.g 42 rfl) h (fun r11 h => ?_)
    refine jr_iload hC (D_X0_bestPart.g 43 rfl) 7 rfl ?_
    refine jr_iald hC (D_X0_bestPart.g 44 rfl) h (fun v12 h => ?_)
    refine jr_istore hC (D_X0_bestPart.g 45 rfl) (by decide) rfl ?_
    refine jr_pick [2, 3, 4, 5, 6, 1, 0, 7, 8] rfl ?_
    exact hj_78 y7_21 v12 M9 h
  refine jr_iload hC (D_X0_bestPart.g 52 rfl) 5 rfl ?_
  exact jr_iret hC (D_X0_bestPart.g 53 rfl) hr hE h
def f_X0_choose (th : Nat) (a1 : Nat) (a2 : Nat) (M : jMem) : Option (Int × jMem) :=
(jm_gR 0 1 M th).bind fun r1 =>
(jm_gI 4 6 M a1).bind fun v2 =>
(jm_ldR 24 M r1 v2).bind fun r3 =>
jbd (f_J7_fill_53178 r3 (-1000000) M) fun _ M5 =>
(jm_gR 0 1 M5 th).bind fun r6 =>
(jm_gI 4 6 M5 a1).bind fun v7 =>
(jm_ldR 24 M5 r6 v7).bind fun r8 =>
(jm_gR 0 0 M5 th).bind fun r9 =>
(jm_gI 4 6 M5 a1).bind fun v10 =>
(jm_ldR 24 M5 r9 v10).bind fun r11 =>
(jm_ld 20 M5 r11 0).bind fun v12 =>
(jm_st 20 M5 r8 0 v12).bind fun M13 =>
(jm_gI 4 6 M13 a1).bind fun v14 =>
jlp2 (fun rec_43 (y3_43 : Int) (M_43 : jMem) =>
if jd_wr y3_43 < 0 then (jbd (f_J7_fill_53178 a2 0 M_43) fun _ M16 =>
jlp2 (fun rec_145 (y3_145 : Int) (M_145 : jMem) =>
(jm_gI 4 6 M_145 a1).bind fun v17 =>
if jd_wr y3_145 < jd_wr v17 then ((jm_ld 20 M_145 a2 y3_145).bind fun v18 =>
jcall 0 M_145 th (f_X0_bestPart th a1 y3_145 v18 M_145) fun v19 M20 =>
jbd (f_J9_max_7cf53 0 v19 M20) fun v21 M22 =>
(jm_st 20 M22 a2 (y3_145 + 1) v21).bind fun M23 =>
rec_145 (y3_145 + 1) M23)
else ((jm_gR 0 1 M_145 th).bind fun r24 =>
(jm_ldR 24 M_145 r24 0).bind fun r25 =>
(jm_ld 20 M_145 r25 0).bind fun v26 =>
some (v26, M_145))) jfuel 0 M16)
else (jlp2 (fun rec_50 (y4_50 : Int) (M_50 : jMem) =>
(jm_gI 4 7 M_50 a1).bind fun v27 =>
if jd_wr y4_50 ≤ jd_wr v27 then ((jm_gR 4 4 M_50 a1).bind fun r28 =>
(jm_ldR 24 M_50 r28 y3_43).bind fun r29 =>
(jm_ld 20 M_50 r29 y4_50).bind fun v30 =>
jjq (fun (z0_83 : Int) (M_83 : jMem) =>
(jm_gR 0 1 M_83 th).bind fun r31 =>
(jm_ldR 24 M_83 r31 y3_43).bind fun r32 =>
jjq (fun (z0_125 : Int) =>
(jm_st 20 M_83 r32 y4_50 z0_125).bind fun M33 =>
rec_50 (y4_50 + 1) M33) fun j_125 =>
if jd_wr z0_83 = jd_wr (-1) then (j_125 (-1000000))
else ((jm_gR 0 0 M_83 th).bind fun r34 =>
(jm_ldR 24 M_83 r34 y3_43).bind fun r35 =>
(jm_ld 20 M_83 r35 y4_50).bind fun v36 =>
(jm_gR 0 1 M_83 th).bind fun r37 =>
(jm_ldR 24 M_83 r37 (y3_43 + 1)).bind fun r38 =>
(jm_ld 20 M_83 r38 z0_83).bind fun v39 =>
j_125 (v36 + v39))) fun j_83 =>
if jd_wr v30 ≤ 0 then (j_83 (-1) M_50)
else (jcall 0 M_50 th (f_X0_bestPart th a1 y3_43 y4_50 M_50) fun v40 M41 =>
j_83 v40 M41))
else (rec_43 (y3_43 + (-1)) M_50)) jfuel 0 M_43)) jfuel (v14 - 1) M13
theorem D_X0_choose : jDs cX0_choose [(0, .aload_n 0, 1, 1), (1, .getfield 16, 3, 4), (4, .aload_n 1, 1, 5), (5, .getfield 45, 3, 8), (8, .aaload, 1, 9), (9, .ldc 55, 2, 11), (11, .invokestatic 56, 3, 14), (14, .aload_n 0, 1, 15), (15, .getfield 16, 3, 18), (18, .aload_n 1, 1, 19), (19, .getfield 45, 3, 22), (22, .aaload, 1, 23), (23, .iconst 0, 1, 24), (24, .aload_n 0, 1, 25), (25, .getfield 11, 3, 28), (28, .aload_n 1, 1, 29), (29, .getfield 45, 3, 32), (32, .aaload, 1, 33), (33, .iconst 0, 1, 34), (34, .iaload, 1, 35), (35, .iastore, 1, 36), (36, .aload_n 1, 1, 37), (37, .getfield 45, 3, 40), (40, .iconst 1, 1, 41), (41, .isub, 1, 42), (42, .istore_n 3, 1, 43), (43, .iload_n 3, 1, 44), (44, .ifCond .lt 94, 3, 47), (47, .iconst 0, 1, 48), (48, .istore 4, 2, 50), (50, .iload 4, 2, 52), (52, .aload_n 1, 1, 53), (53, .getfield 52, 3, 56), (56, .if_icmp .gt 76, 3, 59), (59, .aload_n 1, 1, 60), (60, .getfield 62, 3, 63), (63, .iload_n 3, 1, 64), (64, .aaload, 1, 65), (65, .iload 4, 2, 67), (67, .iaload, 1, 68), (68, .ifCond .le 14, 3, 71), (71, .aload_n 0, 1, 72), (72, .aload_n 1, 1, 73), (73, .iload_n 3, 1, 74), (74, .iload 4, 2, 76), (76, .invokevirtual 65, 3, 79), (79, .goto 4, 3, 82), (82, .iconst (-1), 1, 83), (83, .istore 5, 2, 85), (85, .aload_n 0, 1, 86), (86, .getfield 16, 3, 89), (89, .iload_n 3, 1, 90), (90, .aaload, 1, 91), (91, .iload 4, 2, 93), (93, .iload 5, 2, 95), (95, .iconst (-1), 1, 96), (96, .if_icmp .ne 8, 3, 99), (99, .ldc 55, 2, 101), (101, .goto 24, 3, 104), (104, .aload_n 0, 1, 105), (105, .getfield 11, 3, 108), (108, .iload_n 3, 1, 109), (109, .aaload, 1, 110), (110, .iload 4, 2, 112), (112, .iaload, 1, 113), (113, .aload_n 0, 1, 114), (114, .getfield 16, 3, 117), (117, .iload_n 3, 1, 118), (118, .iconst 1, 1, 119), (119, .iadd, 1, 120), (120, .aaload, 1, 121), (121, .iload 5, 2, 123), (123, .iaload, 1, 124), (124, .iadd, 1, 125), (125, .iastore, 1, 126), (126, .iinc 4 1, 3, 129), (129, .goto (-79), 3, 132), (132, .iinc 3 (-1), 3, 135), (135, .goto (-92), 3, 138), (138, .aload_n 2, 1, 139), (139, .iconst 0, 1, 140), (140, .invokestatic 56, 3, 143), (143, .iconst 0, 1, 144), (144, .istore_n 3, 1, 145), (145, .iload_n 3, 1, 146), (146, .aload_n 1, 1, 147), (147, .getfield 45, 3, 150), (150, .if_icmp .ge 27, 3, 153), (153, .aload_n 2, 1, 154), (154, .iload_n 3, 1, 155), (155, .iconst 1, 1, 156), (156, .iadd, 1, 157), (157, .iconst 0, 1, 158), (158, .aload_n 0, 1, 159), (159, .aload_n 1, 1, 160), (160, .iload_n 3, 1, 161), (161, .aload_n 2, 1, 162), (162, .iload_n 3, 1, 163), (163, .iaload, 1, 164), (164, .invokevirtual 65, 3, 167), (167, .invokestatic 68, 3, 170), (170, .iastore, 1, 171), (171, .iinc 3 1, 3, 174), (174, .goto (-29), 3, 177), (177, .aload_n 0, 1, 178), (178, .getfield 16, 3, 181), (181, .iconst 0, 1, 182), (182, .aaload, 1, 183), (183, .iconst 0, 1, 184), (184, .iaload, 1, 185), (185, .ireturn, 1, 186)] := by unfold jDs; decide +kernel
set_option maxRecDepth 100000 in
set_option maxHeartbeats 4000000 in
theorem c_X0_choose {E : jE} {th : Nat} {a1 : Nat} {a2 : Nat} {M : jMem} {r : Int} {M' : jMem} (h : f_X0_choose th a1 a2 M = some (r, M')) : jMet E yX0_choose cX0_choose 6 (some .int) 5 0 0 [q_r E th, q_r E a1, q_r E a2] M (some (q_i r)) M' := by
  unfold f_X0_choose at h
  refine jMet.of RX0 rfl (by decide +kernel) (Nat.le_of_ble_eq_true rfl) [(0, q_r E th), (1, q_r E a1), (2, q_r E a2)] rfl (fun X hC hE hr hn => ?_)
  refine jr_aload_n hC (D_X0_choose.g 0 rfl) 0 rfl ?_
  refine jr_getR hC fl_X0_16 rfl (D_X0_choose.g 1 rfl) h (fun r1 h => ?_)
  refine jr_aload_n hC (D_X0_choose.g 2 rfl) 1 rfl ?_
  refine jr_getI hC fl_X0_45 rfl (D_X0_choose.g 3 rfl) h (fun v2 h => ?_)
  refine jr_aald hC 24 4 rfl (by decide) (D_X0_choose.g 4 rfl) h (fun r3 h => ?_)
  refine jr_ldc hC (-1000000) (jt_in (i := 1218) (by decide +kernel) rfl) (D_X0_choose.g 5 rfl) ?_
  refine jr_cSv hC cl_X0_56 (D_X0_choose.g 6 rfl) [q_r E r3, q_i (-1000000)] h (fun r M' e => c_J7_fill_53178 e) rfl rfl ⟨by decide, by decide⟩ (Nat.le_of_ble_eq_true rfl) ⟨Nat.le_of_ble_eq_true rfl, Nat.le_of_ble_eq_true rfl⟩ (fun _ M5 h => ?_)
  refine jr_aload_n hC (D_X0_choose.g 7 rfl) 0 rfl ?_
  refine jr_getR hC fl_X0_16 rfl (D_X0_choose.g 8 rfl) h (fun r6 h => ?_)
  refine jr_aload_n hC (D_X0_choose.g 9 rfl) 1 rfl ?_
  refine jr_getI hC fl_X0_45 rfl (D_X0_choose.g 10 rfl) h (fun v7 h => ?_)
  refine jr_aald hC 24 4 rfl (by decide) (D_X0_choose.g 11 rfl) h (fun r8 h => ?_)
  refine jr_iconst hC (D_X0_choose.g 12 rfl) ?_
  refine jr_aload_n hC (D_X0_choose.g 13 rfl) 0 rfl ?_
  refine jr_getR hC fl_X0_11 rfl (D_X0_choose.g 14 rfl) h (fun r9 h => ?_)
  refine jr_aload_n hC (D_X0_choose.g 15 rfl) 1 rfl ?_
  refine jr_getI hC fl_X0_45 rfl (D_X0_choose.g 16 rfl) h (fun v10 h => ?_)
  refine jr_aald hC 24 4 rfl (by decide) (D_X0_choose.g 17 rfl) h (fun r11 h => ?_)
  refine jr_iconst hC (D_X0_choose.g 18 rfl) ?_
  refine jr_iald hC (D_X0_choose.g 19 rfl) h (fun v12 h => ?_)
  refine jr_iast hC (D_X0_choose.g 20 rfl) h (fun M13 _ h => ?_)
  refine jr_aload_n hC (D_X0_choose.g 21 rfl) 1 rfl ?_
  refine jr_getI hC fl_X0_45 rfl (D_X0_choose.g 22 rfl) h (fun v14 h => ?_)
  refine jr_iconst hC (D_X0_choose.g 23 rfl) ?_
  refine jr_isub hC (D_X0_choose.g 24 rfl) ?_
  refine jr_istore_n hC (D_X0_choose.g 25 rfl) (by decide) rfl ?_
  refine jr_pick [1, 2, 3, 0] rfl ?_
  refine jr_lp2 (fun (y3_43 : Int) (M_43 : jMem) => JW E X 6 0 0 M_43 43 [(0, q_r E th), (1, q_r E a1), (2, q_r E a2), (3, q_i y3_43)] []) ?_ jfuel (v14 - 1) M13 h
  intro rec_43 hrec_43 y3_43 M_43 h
  refine jr_iload_n hC (D_X0_choose.g 26 rfl) 3 rfl ?_
  refine jr_if_lt hC (D_X0_choose.g 27 rfl) 138 rfl h (fun h => ?_) (fun h => ?_)
  · refine jr_aload_n hC (D_X0_choose.g 79 rfl) 2 rfl ?_
    refine jr_iconst hC (D_X0_choose.g 80 rfl) ?_
    refine jr_cSv hC cl_X0_56 (D_X0_choose.g 81 rfl) [q_r E a2, q_i 0] h (fun r M' e => c_J7_fill_53178 e) rfl rfl ⟨by decide, by decide⟩ (Nat.le_of_ble_eq_true rfl) ⟨Nat.le_of_ble_eq_true rfl, Nat.le_of_ble_eq_true rfl⟩ (fun _ M16 h => ?_)
    refine jr_iconst hC (D_X0_choose.g 82 rfl) ?_
    refine jr_istore_n hC (D_X0_choose.g 83 rfl) (by decide) rfl ?_
    refine jr_pick [1, 2, 3, 0] rfl ?_
    refine jr_lp2 (fun (y3_145 : Int) (M_145 : jMem) => JW E X 6 0 0 M_145 145 [(0, q_r E th), (1, q_r E a1), (2, q_r E a2), (3, q_i y3_145)] []) ?_ jfuel 0 M16 h
    intro rec_145 hrec_145 y3_145 M_145 h
    refine jr_iload_n hC (D_X0_choose.g 84 rfl) 3 rfl ?_
    refine jr_aload_n hC (D_X0_choose.g 85 rfl) 1 rfl ?_
    refine jr_getI hC fl_X0_45 rfl (D_X0_choose.g 86 rfl) h (fun v17 h => ?_)
    refine jr_icmp_ge hC (D_X0_choose.g 87 rfl) 177 rfl h (fun h => ?_) (fun h => ?_)
    · refine jr_aload_n hC (D_X0_choose.g 88 rfl) 2 rfl ?_
      refine jr_iload_n hC (D_X0_choose.g 89 rfl) 3 rfl ?_
      refine jr_iconst hC (D_X0_choose.g 90 rfl) ?_
      refine jr_iadd hC (D_X0_choose.g 91 rfl) ?_
      refine jr_iconst hC (D_X0_choose.g 92 rfl) ?_
      refine jr_aload_n hC (D_X0_choose.g 93 rfl) 0 rfl ?_
      refine jr_aload_n hC (D_X0_choose.g 94 rfl) 1 rfl ?_
      refine jr_iload_n hC (D_X0_choose.g 95 rfl) 3 rfl ?_
      refine jr_aload_n hC (D_X0_choose.g 96 rfl) 2 rfl ?_
      refine jr_iload_n hC (D_X0_choose.g 97 rfl) 3 rfl ?_
      refine jr_iald hC (D_X0_choose.g 98 rfl) h (fun v18 h => ?_)
      refine jr_cVi hC cl_X0_65 ⟨rfl, by decide⟩ (D_X0_choose.g 99 rfl) [q_r E a1, q_i y3_145, q_i v18] h (fun r M' e => c_X0_bestPart e) rfl rfl ⟨by decide, by decide⟩ (Nat.le_of_ble_eq_true rfl) ⟨Nat.le_of_ble_eq_true rfl, Nat.le_of_ble_eq_true rfl⟩ (fun v19 M20 h => ?_)
      refine jr_cSi hC cl_X0_68 (D_X0_choose.g 100 rfl) [q_i 0, q_i v19] h (fun r M' e => c_J9_max_7cf53 e) rfl rfl ⟨by decide, by decide⟩ (Nat.le_of_ble_eq_true rfl) ⟨Nat.le_of_ble_eq_true rfl, Nat.le_of_ble_eq_true rfl⟩ (fun v21 M22 h => ?_)
      refine jr_iast hC (D_X0_choose.g 101 rfl) h (fun M23 _ h => ?_)
      refine jr_iinc hC (D_X0_choose.g 102 rfl) 3 rfl (by decide) rfl ?_
      refine jr_goto hC (D_X0_choose.g 103 rfl) 145 rfl ?_
      refine jr_pick [1, 2, 3, 0] rfl ?_
      exact hrec_145 (y3_145 + 1) M23 h
    refine jr_aload_n hC (D_X0_choose.g 104 rfl) 0 rfl ?_
    refine jr_getR hC fl_X0_16 rfl (D_X0_choose.g 105 rfl) h (fun r24 h => ?_)
    refine jr_iconst hC (D_X0_choose.g 106 rfl) ?_
    refine jr_aald hC 24 4 rfl (by decide) (D_X0_choose.g 107 rfl) h (fun r25 h => ?_)
    refine jr_iconst hC (D_X0_choose.g 108 rfl) ?_
    refine jr_iald hC (D_X0_choose.g 109 rfl) h (fun v26 h => ?_)
    exact jr_iret hC (D_X0_choose.g 110 rfl) hr hE h
  refine jr_iconst hC (D_X0_choose.g 28 rfl) ?_
  refine jr_istore hC (D_X0_choose.g 29 rfl) (by decide) rfl ?_
  refine jr_pick [1, 2, 3, 4, 0] rfl ?_
  refine jr_lp2 (fun (y4_50 : Int) (M_50 : jMem) => JW E X 6 0 0 M_50 50 [(0, q_r E th), (1, q_r E a1), (2, q_r E a2), (3, q_i y3_43), (4, q_i y4_50)] []) ?_ jfuel 0 M_43 h
  intro rec_50 hrec_50 y4_50 M_50 h
  refine jr_iload hC (D_X0_choose.g 30 rfl) 4 rfl ?_
  refine jr_aload_n hC (D_X0_choose.g 31 rfl) 1 rfl ?_
  refine jr_getI hC fl_X0_52 rfl (D_X0_choose.g 32 rfl) h (fun v27 h => ?_)
  refine jr_icmp_gt hC (D_X0_choose.g 33 rfl) 132 rfl h (fun h => ?_) (fun h => ?_)
  · refine jr_aload_n hC (D_X0_choose.g 34 rfl) 1 rfl ?_
    refine jr_getR hC fl_X0_62 rfl (D_X0_choose.g 35 rfl) h (fun r28 h => ?_)
    refine jr_iload_n hC (D_X0_choose.g 36 rfl) 3 rfl ?_
    refine jr_aald hC 24 4 rfl (by decide) (D_X0_choose.g 37 rfl) h (fun r29 h => ?_)
    refine jr_iload hC (D_X0_choose.g 38 rfl) 4 rfl ?_
    refine jr_iald hC (D_X0_choose.g 39 rfl) h (fun v30 h => ?_)
    refine jr_join h (fun j => ∀ (z0_83 : Int) (M_83 : jMem), j z0_83 M_83 = some (r, M') → JW E X 6 0 0 M_83 83 [(0, q_r E th), (1, q_r E a1), (2, q_r E a2), (3, q_i y3_43), (4, q_i y4_50)] [q_i z0_83]) ?_ ?_
    · intro z0_83 M_83 h
      refine jr_istore hC (D_X0_choose.g 48 rfl) (by decide) rfl ?_
      refine jr_aload_n hC (D_X0_choose.g 49 rfl) 1 rfl ?_
      refine jr_getR hC fl_X0_16 rfl (D_X0_choose.g 50 rfl) h (fun r31 h => ?_)
      refine jr_iload_n hC (D_X0_choose.g 51 rfl) 4 rfl ?_
      refine jr_aald hC 24 4 rfl (by decide) (D_X0_choose.g 52 rfl) h (fun r32 h => ?_)
      refine jr_iload hC (D_X0_choose.g 53 rfl) 5 rfl ?_
      refine jr_iload hC (D_X0_choose.g 54 rfl) 0 rfl ?_
      refine jr_iconst hC (D_X0_choose.g 55 rfl) ?_
      refine jr_join h (fun j => ∀ (z0_125 : Int), j z0_125 = some (r, M') → JW E X 6 0 0 M_83 125 [(0, q_r E th), (1, q_r E a1), (2, q_r E a2), (3, q_i y3_43), (4, q_i y4_50)] [q_i z0_125, q_i y4_50, q_r E r32]) ?_ ?_
      · intro z0_125 h
        refine jr_iast hC (D_X0_choose.g 74 rfl) h (fun M33 _ h => ?_)
        refine jr_iinc hC (D_X0_choose.g 75 rfl) 4 rfl (by decide) rfl ?_
        refine jr_goto hC (D_X0_choose.g 76 rfl) 50 rfl ?_
        refine jr_pick [1, 2, 3, 4, 0] rfl ?_
        exact hrec_50 (y4_50 + 1) M33 h
      intro j_125 hj_125 h
      refine jr_icmp_ne hC (D_X0_choose.g 56 rfl) 104 rfl h (fun h => ?_) (fun h => ?_)
      · refine jr_ldc hC (-1000000) (jt_in (i := 1218) (by decide +kernel) rfl) (D_X0_choose.g 57 rfl) ?_
        refine jr_goto hC (D_X0_choose.g 58 rfl) 125 rfl ?_
        refine jr_pick [1, 2, 3, 4, 5] rfl ?_
        exact hj_125 (-1000000) h
      refine jr_aload_n hC (D_X0_choose.g 59 rfl) 1 rfl ?_
      refine jr_getR hC fl_X0_11 rfl (D_X0_choose.g 60 rfl) h (fun r34 h => ?_)
      refine jr_iload_n hC (D_X0_choose.g 61 rfl) 4 rfl ?_
      refine jr_aald hC 24 4 rfl (by decide) (D_X0_choose.g 62 rfl) h (fun r35 h => ?_)
      refine jr_iload hC (D_X0_choose.g 63 rfl) 5 rfl ?_
      refine jr_iald hC (D_X0_choose.g 64 rfl) h (fun v36 h => ?_)
      refine jr_aload_n hC (D_X0_choose.g 65 rfl) 1 rfl ?_
      refine jr_getR hC fl_X0_16 rfl (D_X0_choose.g 66 rfl) h (fun r37 h => ?_)
      refine jr_iload_n hC (D_X0_choose.g 67 rfl) 4 rfl ?_
      refine jr_iconst hC (D_X0_choose.g 68 rfl) ?_
      refine jr_iadd hC (D_X0_choose.g 69 rfl) ?_
      refine jr_aald hC 24 4 rfl (by decide) (D_X0_choose.g 70 rfl) h (fun r38 h => ?_)
      refine jr_iload hC (D_X0_choose.g 71 rfl) 0 rfl ?_
      refine jr_iald hC (D_X0_choose.g 72 rfl) h (fun v39 h => ?_)
      refine jr_iadd hC (D_X0_choose.g 73 rfl) ?_
      refine jr_pick [1, 2, 3, 4, 5] rfl ?_
      exact hj_125 (v36 + v39) h
    intro j_83 hj_83 h
    refine jr_if_le hC (D_X0_choose.g 40 rfl) 82 rfl h (fun h => ?_) (fun h => ?_)
    · refine jr_iconst hC (D_X0_choose.g 47 rfl) ?_
      exact hj_83 (-1) M_50 h
    refine jr_aload_n hC (D_X0_choose.g 41 rfl) 0 rfl ?_
    refine jr_aload_n hC (D_X0_choose.g 42 rfl) 1 rfl ?_
    refine jr_iload_n hC (D_X0_choose.g 43 rfl) 3 rfl ?_
    refine jr_iload hC (D_X0_choose.g 44 rfl) 4 rfl ?_
    refine jr_cVi hC cl_X0_65 ⟨rfl, by decide⟩ (D_X0_choose.g 45 rfl) [q_r E a1, q_i y3_43, q_i y4_50] h (fun r M' e => c_X0_bestPart e) rfl rfl ⟨by decide, by decide⟩ (Nat.le_of_ble_eq_true rfl) ⟨Nat.le_of_ble_eq_true rfl, Nat.le_of_ble_eq_true rfl⟩ (fun v40 M41 h => ?_)
    refine jr_goto hC (D_X0_choose.g 46 rfl) 83 rfl ?_
    exact hj_83 v40 M41 h
  refine jr_iinc hC (D_X0_choose.g 77 rfl) 3 rfl (by decide) rfl ?_
  refine jr_goto hC (D_X0_choose.g 78 rfl) 43 rfl ?_
  refine jr_pick [1, 2, 3, 0] rfl ?_
  exact hrec_43 (y3_43 + (-1)) M_50 h
def f_X0_fewestClosedOn (th : Nat) (a1 : Nat) (x2 : Int) (x3 : Int) (M : jMem) : Option (Int × jMem) :=
jcall 4 M a1 (f_X4_roomBelow a1 x2 x3 M) fun v1 M2 =>
jlp4 (fun rec_18 (y5_18 : Int) (y6_18 : Int) (y7_18 : Int) (M_18 : jMem) =>
if jd_wr y6_18 = jd_wr (-1) then (some (y5_18, M_18))
else (if jd_wr y7_18 < jd_wr 64 then (jcall 4 M_18 a1 (f_X4_lonelyCells a1 x2 x3 y6_18 M_18) fun v3 M4 =>
(jm_gR 0 1 M4 th).bind fun r5 =>
(jm_ldR 24 M4 r5 (x2 + 1)).bind fun r6 =>
(jm_ld 20 M4 r6 y6_18).bind fun v7 =>
jbd (f_J9_min_7cf53 y5_18 (v3 + v7) M4) fun v8 M9 =>
jbd (f_X4_partAfter y6_18 v1 M9) fun v10 M11 =>
rec_18 v8 v10 (y7_18 + 1) M11)
else (some (y5_18, M_18)))) jfuel 36 0 0 M2
theorem D_X0_fewestClosedOn : jDs cX0_fewestClosedOn [(0, .aload_n 1, 1, 1), (1, .iload_n 2, 1, 2), (2, .iload_n 3, 1, 3), (3, .invokevirtual 72, 3, 6), (6, .istore 4, 2, 8), (8, .bipush 36, 2, 10), (10, .istore 5, 2, 12), (12, .iconst 0, 1, 13), (13, .istore 6, 2, 15), (15, .iconst 0, 1, 16), (16, .istore 7, 2, 18), (18, .iload 6, 2, 20), (20, .iconst (-1), 1, 21), (21, .if_icmp .eq 52, 3, 24), (24, .iload 7, 2, 26), (26, .bipush 64, 2, 28), (28, .if_icmp .ge 45, 3, 31), (31, .iload 5, 2, 33), (33, .aload_n 1, 1, 34), (34, .iload_n 2, 1, 35), (35, .iload_n 3, 1, 36), (36, .iload 6, 2, 38), (38, .invokevirtual 89, 3, 41), (41, .aload_n 0, 1, 42), (42, .getfield 16, 3, 45), (45, .iload_n 2, 1, 46), (46, .iconst 1, 1, 47), (47, .iadd, 1, 48), (48, .aaload, 1, 49), (49, .iload 6, 2, 51), (51, .iaload, 1, 52), (52, .iadd, 1, 53), (53, .invokestatic 93, 3, 56), (56, .istore 5, 2, 58), (58, .iload 6, 2, 60), (60, .iload 4, 2, 62), (62, .invokestatic 79, 3, 65), (65, .istore 6, 2, 67), (67, .iinc 7 1, 3, 70), (70, .goto (-52), 3, 73), (73, .iload 5, 2, 75), (75, .ireturn, 1, 76)] := by unfold jDs; decide +kernel
set_option maxRecDepth 100000 in
set_option maxHeartbeats 4000000 in
theorem c_X0_fewestClosedOn {E : jE} {th : Nat} {a1 : Nat} {x2 : Int} {x3 : Int} {M : jMem} {r : Int} {M' : jMem} (h : f_X0_fewestClosedOn th a1 x2 x3 M = some (r, M')) : jMet E yX0_fewestClosedOn cX0_fewestClosedOn 8 (some .int) 3 0 0 [q_r E th, q_r E a1, q_i x2, q_i x3] M (some (q_i r)) M' := by
  unfold f_X0_fewestClosedOn at h
  refine jMet.of RX0 rfl (by decide +kernel) (Nat.le_of_ble_eq_true rfl) [(0, q_r E th), (1, q_r E a1), (2, q_i x2), (3, q_i x3)] rfl (fun X hC hE hr hn => ?_)
  refine jr_aload_n hC (D_X0_fewestClosedOn.g 0 rfl) 1 rfl ?_
  refine jr_iload_n hC (D_X0_fewestClosedOn.g 1 rfl) 2 rfl ?_
  refine jr_iload_n hC (D_X0_fewestClosedOn.g 2 rfl) 3 rfl ?_
  refine jr_cVi hC cl_X0_72 ⟨rfl, by decide⟩ (D_X0_fewestClosedOn.g 3 rfl) [q_i x2, q_i x3] h (fun r M' e => c_X4_roomBelow e) rfl rfl ⟨by decide, by decide⟩ (Nat.le_of_ble_eq_true rfl) ⟨Nat.le_of_ble_eq_true rfl, Nat.le_of_ble_eq_true rfl⟩ (fun v1 M2 h => ?_)
  refine jr_istore hC (D_X0_fewestClosedOn.g 4 rfl) (by decide) rfl ?_
  refine jr_bipush hC (D_X0_fewestClosedOn.g 5 rfl) bp_36 ?_
  refine jr_istore hC (D_X0_fewestClosedOn.g 6 rfl) (by decide) rfl ?_
  refine jr_iconst hC (D_X0_fewestClosedOn.g 7 rfl) ?_
  refine jr_istore hC (D_X0_fewestClosedOn.g 8 rfl) (by decide) rfl ?_
  refine jr_iconst hC (D_X0_fewestClosedOn.g 9 rfl) ?_
  refine jr_istore hC (D_X0_fewestClosedOn.g 10 rfl) (by decide) rfl ?_
  refine jr_pick [4, 5, 6, 7, 3, 2, 1, 0] rfl ?_
  refine jr_lp4 (fun (y5_18 : Int) (y6_18 : Int) (y7_18 : Int) (M_18 : jMem) => JW E X 8 0 0 M_18 18 [(0, q_r E th), (1, q_r E a1), (2, q_i x2), (3, q_i x3), (4, q_i v1), (5, q_i y5_18), (6, q_i y6_18), (7, q_i y7_18)] []) ?_ jfuel 36 0 0 M2 h
  intro rec_18 hrec_18 y5_18 y6_18 y7_18 M_18 h
  refine jr_iload hC (D_X0_fewestClosedOn.g 11 rfl) 6 rfl ?_
  refine jr_iconst hC (D_X0_fewestClosedOn.g 12 rfl) ?_
  refine jr_icmp_eq hC (D_X0_fewestClosedOn.g 13 rfl) 73 rfl h (fun h => ?_) (fun h => ?_)
  · refine jr_iload hC (D_X0_fewestClosedOn.g 40 rfl) 5 rfl ?_
    exact jr_iret hC (D_X0_fewestClosedOn.g 41 rfl) hr hE h
  refine jr_iload hC (D_X0_fewestClosedOn.g 14 rfl) 7 rfl ?_
  refine jr_bipush hC (D_X0_fewestClosedOn.g 15 rfl) bp_64 ?_
  refine jr_icmp_ge hC (D_X0_fewestClosedOn.g 16 rfl) 73 rfl h (fun h => ?_) (fun h => ?_)
  · refine jr_iload hC (D_X0_fewestClosedOn.g 17 rfl) 5 rfl ?_
    refine jr_aload_n hC (D_X0_fewestClosedOn.g 18 rfl) 1 rfl ?_
    refine jr_iload_n hC (D_X0_fewestClosedOn.g 19 rfl) 2 rfl ?_
    refine jr_iload_n hC (D_X0_fewestClosedOn.g 20 rfl) 3 rfl ?_
    refine jr_iload hC (D_X0_fewestClosedOn.g 21 rfl) 6 rfl ?_
    refine jr_cVi hC cl_X0_89 ⟨rfl, by decide⟩ (D_X0_fewestClosedOn.g 22 rfl) [q_i x2, q_i x3, q_i y6_18] h (fun r M' e => c_X4_lonelyCells e) rfl rfl ⟨by decide, by decide⟩ (Nat.le_of_ble_eq_true rfl) ⟨Nat.le_of_ble_eq_true rfl, Nat.le_of_ble_eq_true rfl⟩ (fun v3 M4 h => ?_)
    refine jr_aload_n hC (D_X0_fewestClosedOn.g 23 rfl) 0 rfl ?_
    refine jr_getR hC fl_X0_16 rfl (D_X0_fewestClosedOn.g 24 rfl) h (fun r5 h => ?_)
    refine jr_iload_n hC (D_X0_fewestClosedOn.g 25 rfl) 2 rfl ?_
    refine jr_iconst hC (D_X0_fewestClosedOn.g 26 rfl) ?_
    refine jr_iadd hC (D_X0_fewestClosedOn.g 27 rfl) ?_
    refine jr_aald hC 24 4 rfl (by decide) (D_X0_fewestClosedOn.g 28 rfl) h (fun r6 h => ?_)
    refine jr_iload hC (D_X0_fewestClosedOn.g 29 rfl) 6 rfl ?_
    refine jr_iald hC (D_X0_fewestClosedOn.g 30 rfl) h (fun v7 h => ?_)
    refine jr_iadd hC (D_X0_fewestClosedOn.g 31 rfl) ?_
    refine jr_cSi hC cl_X0_93 (D_X0_fewestClosedOn.g 32 rfl) [q_i y5_18, q_i (v3 + v7)] h (fun r M' e => c_J9_min_7cf53 e) rfl rfl ⟨by decide, by decide⟩ (Nat.le_of_ble_eq_true rfl) ⟨Nat.le_of_ble_eq_true rfl, Nat.le_of_ble_eq_true rfl⟩ (fun v8 M9 h => ?_)
    refine jr_istore hC (D_X0_fewestClosedOn.g 33 rfl) (by decide) rfl ?_
    refine jr_iload hC (D_X0_fewestClosedOn.g 34 rfl) 6 rfl ?_
    refine jr_iload hC (D_X0_fewestClosedOn.g 35 rfl) 5 rfl ?_
    refine jr_cSi hC cl_X0_79 (D_X0_fewestClosedOn.g 36 rfl) [q_i y6_18, q_i v1] h (fun r M' e => c_X4_partAfter e) rfl rfl ⟨by decide, by decide⟩ (Nat.le_of_ble_eq_true rfl) ⟨Nat.le_of_ble_eq_true rfl, Nat.le_of_ble_eq_true rfl⟩ (fun v10 M11 h => ?_)
    refine jr_istore hC (D_X0_fewestClosedOn.g 37 rfl) (by decide) rfl ?_
    refine jr_iinc hC (D_X0_fewestClosedOn.g 38 rfl) 7 rfl (by decide) rfl ?_
    refine jr_goto hC (D_X0_fewestClosedOn.g 39 rfl) 18 rfl ?_
    refine jr_pick [3, 4, 5, 6, 7, 2, 1, 0] rfl ?_
    exact hrec_18 v8 v10 (y7_18 + 1) M11 h
  refine jr_iload hC (D_X0_fewestClosedOn.g 40 rfl) 5 rfl ?_
  exact jr_iret hC (D_X0_fewestClosedOn.g 41 rfl) hr hE h
def f_X0_fewestClosed (th : Nat) (a1 : Nat) (M : jMem) : Option (Int × jMem) :=
(jm_gR 0 1 M th).bind fun r1 =>
(jm_gI 4 6 M a1).bind fun v2 =>
(jm_ldR 24 M r1 v2).bind fun r3 =>
jbd (f_J7_fill_53178 r3 0 M) fun _ M5 =>
(jm_gI 4 6 M5 a1).bind fun v6 =>
jlp2 (fun rec_20 (y2_20 : Int) (M_20 : jMem) =>
if jd_wr y2_20 < 0 then ((jm_gR 0 1 M_20 th).bind fun r7 =>
(jm_ldR 24 M_20 r7 0).bind fun r8 =>
(jm_ld 20 M_20 r8 0).bind fun v9 =>
some (v9, M_20))
else (jlp2 (fun rec_26 (y3_26 : Int) (M_26 : jMem) =>
(jm_gI 4 7 M_26 a1).bind fun v10 =>
if jd_wr y3_26 ≤ jd_wr v10 then ((jm_gR 0 1 M_26 th).bind fun r11 =>
(jm_ldR 24 M_26 r11 y2_20).bind fun r12 =>
jcall 4 M_26 a1 (f_X4_canReach a1 y2_20 y3_26 M_26) fun v13 M14 =>
jjq (fun (z0_61 : Int) (M_61 : jMem) =>
(jm_st 20 M_61 r12 y3_26 z0_61).bind fun M15 =>
rec_26 (y3_26 + 1) M15) fun j_61 =>
if jd_wr v13 = 0 then (j_61 0 M14)
else (jcall 0 M14 th (f_X0_fewestClosedOn th a1 y2_20 y3_26 M14) fun v16 M17 =>
j_61 v16 M17))
else (rec_20 (y2_20 + (-1)) M_26)) jfuel 0 M_20)) jfuel (v6 - 1) M5
theorem D_X0_fewestClosed : jDs cX0_fewestClosed [(0, .aload_n 0, 1, 1), (1, .getfield 16, 3, 4), (4, .aload_n 1, 1, 5), (5, .getfield 45, 3, 8), (8, .aaload, 1, 9), (9, .iconst 0, 1, 10), (10, .invokestatic 56, 3, 13), (13, .aload_n 1, 1, 14), (14, .getfield 45, 3, 17), (17, .iconst 1, 1, 18), (18, .isub, 1, 19), (19, .istore_n 2, 1, 20), (20, .iload_n 2, 1, 21), (21, .ifCond .lt 53, 3, 24), (24, .iconst 0, 1, 25), (25, .istore_n 3, 1, 26), (26, .iload_n 3, 1, 27), (27, .aload_n 1, 1, 28), (28, .getfield 52, 3, 31), (31, .if_icmp .gt 37, 3, 34), (34, .aload_n 0, 1, 35), (35, .getfield 16, 3, 38), (38, .iload_n 2, 1, 39), (39, .aaload, 1, 40), (40, .iload_n 3, 1, 41), (41, .aload_n 1, 1, 42), (42, .iload_n 2, 1, 43), (43, .iload_n 3, 1, 44), (44, .invokevirtual 82, 3, 47), (47, .ifCond .eq 13, 3, 50), (50, .aload_n 0, 1, 51), (51, .aload_n 1, 1, 52), (52, .iload_n 2, 1, 53), (53, .iload_n 3, 1, 54), (54, .invokevirtual 86, 3, 57), (57, .goto 4, 3, 60), (60, .iconst 0, 1, 61), (61, .iastore, 1, 62), (62, .iinc 3 1, 3, 65), (65, .goto (-39), 3, 68), (68, .iinc 2 (-1), 3, 71), (71, .goto (-51), 3, 74), (74, .aload_n 0, 1, 75), (75, .getfield 16, 3, 78), (78, .iconst 0, 1, 79), (79, .aaload, 1, 80), (80, .iconst 0, 1, 81), (81, .iaload, 1, 82), (82, .ireturn, 1, 83)] := by unfold jDs; decide +kernel
set_option maxRecDepth 100000 in
set_option maxHeartbeats 4000000 in
theorem c_X0_fewestClosed {E : jE} {th : Nat} {a1 : Nat} {M : jMem} {r : Int} {M' : jMem} (h : f_X0_fewestClosed th a1 M = some (r, M')) : jMet E yX0_fewestClosed cX0_fewestClosed 4 (some .int) 4 0 0 [q_r E th, q_r E a1] M (some (q_i r)) M' := by
  unfold f_X0_fewestClosed at h
  refine jMet.of RX0 rfl (by decide +kernel) (Nat.le_of_ble_eq_true rfl) [(0, q_r E th), (1, q_r E a1)] rfl (fun X hC hE hr hn => ?_)
  refine jr_aload_n hC (D_X0_fewestClosed.g 0 rfl) 0 rfl ?_
  refine jr_getR hC fl_X0_16 rfl (D_X0_fewestClosed.g 1 rfl) h (fun r1 h => ?_)
  refine jr_aload_n hC (D_X0_fewestClosed.g 2 rfl) 1 rfl ?_
  refine jr_getI hC fl_X0_45 rfl (D_X0_fewestClosed.g 3 rfl) h (fun v2 h => ?_)
  refine jr_aald hC 24 4 rfl (by decide) (D_X0_fewestClosed.g 4 rfl) h (fun r3 h => ?_)
  refine jr_iconst hC (D_X0_fewestClosed.g 5 rfl) ?_
  refine jr_cSv hC cl_X0_56 (D_X0_fewestClosed.g 6 rfl) [q_r E r3, q_i 0] h (fun r M' e => c_J7_fill_53178 e) rfl rfl ⟨by decide, by decide⟩ (Nat.le_of_ble_eq_true rfl) ⟨Nat.le_of_ble_eq_true rfl, Nat.le_of_ble_eq_true rfl⟩ (fun _ M5 h => ?_)
  refine jr_aload_n hC (D_X0_fewestClosed.g 7 rfl) 1 rfl ?_
  refine jr_getI hC fl_X0_45 rfl (D_X0_fewestClosed.g 8 rfl) h (fun v6 h => ?_)
  refine jr_iconst hC (D_X0_fewestClosed.g 9 rfl) ?_
  refine jr_isub hC (D_X0_fewestClosed.g 10 rfl) ?_
  refine jr_istore_n hC (D_X0_fewestClosed.g 11 rfl) (by decide) rfl ?_
  refine jr_pick [1, 2, 0] rfl ?_
  refine jr_lp2 (fun (y2_20 : Int) (M_20 : jMem) => JW E X 4 0 0 M_20 20 [(0, q_r E th), (1, q_r E a1), (2, q_i y2_20)] []) ?_ jfuel (v6 - 1) M5 h
  intro rec_20 hrec_20 y2_20 M_20 h
  refine jr_iload_n hC (D_X0_fewestClosed.g 12 rfl) 2 rfl ?_
  refine jr_if_lt hC (D_X0_fewestClosed.g 13 rfl) 74 rfl h (fun h => ?_) (fun h => ?_)
  · refine jr_aload_n hC (D_X0_fewestClosed.g 42 rfl) 0 rfl ?_
    refine jr_getR hC fl_X0_16 rfl (D_X0_fewestClosed.g 43 rfl) h (fun r7 h => ?_)
    refine jr_iconst hC (D_X0_fewestClosed.g 44 rfl) ?_
    refine jr_aald hC 24 4 rfl (by decide) (D_X0_fewestClosed.g 45 rfl) h (fun r8 h => ?_)
    refine jr_iconst hC (D_X0_fewestClosed.g 46 rfl) ?_
    refine jr_iald hC (D_X0_fewestClosed.g 47 rfl) h (fun v9 h => ?_)
    exact jr_iret hC (D_X0_fewestClosed.g 48 rfl) hr hE h
  refine jr_iconst hC (D_X0_fewestClosed.g 14 rfl) ?_
  refine jr_istore_n hC (D_X0_fewestClosed.g 15 rfl) (by decide) rfl ?_
  refine jr_pick [1, 2, 3, 0] rfl ?_
  refine jr_lp2 (fun (y3_26 : Int) (M_26 : jMem) => JW E X 4 0 0 M_26 26 [(0, q_r E th), (1, q_r E a1), (2, q_i y2_20), (3, q_i y3_26)] []) ?_ jfuel 0 M_20 h
  intro rec_26 hrec_26 y3_26 M_26 h
  refine jr_iload_n hC (D_X0_fewestClosed.g 16 rfl) 3 rfl ?_
  refine jr_aload_n hC (D_X0_fewestClosed.g 17 rfl) 1 rfl ?_
  refine jr_getI hC fl_X0_52 rfl (D_X0_fewestClosed.g 18 rfl) h (fun v10 h => ?_)
  refine jr_icmp_gt hC (D_X0_fewestClosed.g 19 rfl) 68 rfl h (fun h => ?_) (fun h => ?_)
  · refine jr_aload_n hC (D_X0_fewestClosed.g 20 rfl) 0 rfl ?_
    refine jr_getR hC fl_X0_16 rfl (D_X0_fewestClosed.g 21 rfl) h (fun r11 h => ?_)
    refine jr_iload_n hC (D_X0_fewestClosed.g 22 rfl) 2 rfl ?_
    refine jr_aald hC 24 4 rfl (by decide) (D_X0_fewestClosed.g 23 rfl) h (fun r12 h => ?_)
    refine jr_iload_n hC (D_X0_fewestClosed.g 24 rfl) 3 rfl ?_
    refine jr_aload_n hC (D_X0_fewestClosed.g 25 rfl) 1 rfl ?_
    refine jr_iload_n hC (D_X0_fewestClosed.g 26 rfl) 2 rfl ?_
    refine jr_iload_n hC (D_X0_fewestClosed.g 27 rfl) 3 rfl ?_
    refine jr_cVi hC cl_X0_82 ⟨rfl, by decide⟩ (D_X0_fewestClosed.g 28 rfl) [q_i y2_20, q_i y3_26] h (fun r M' e => c_X4_canReach e) rfl rfl ⟨by decide, by decide⟩ (Nat.le_of_ble_eq_true rfl) ⟨Nat.le_of_ble_eq_true rfl, Nat.le_of_ble_eq_true rfl⟩ (fun v13 M14 h => ?_)
    refine jr_join h (fun j => ∀ (z0_61 : Int) (M_61 : jMem), j z0_61 M_61 = some (r, M') → JW E X 4 0 0 M_61 61 [(0, q_r E th), (1, q_r E a1), (2, q_i y2_20), (3, q_i y3_26)] [q_i z0_61, q_i y3_26, q_r E r12]) ?_ ?_
    · intro z0_61 M_61 h
      refine jr_iast hC (D_X0_fewestClosed.g 37 rfl) h (fun M15 _ h => ?_)
      refine jr_iinc hC (D_X0_fewestClosed.g 38 rfl) 3 rfl (by decide) rfl ?_
      refine jr_goto hC (D_X0_fewestClosed.g 39 rfl) 26 rfl ?_
      refine jr_pick [1, 2, 3, 0] rfl ?_
      exact hrec_26 (y3_26 + 1) M15 h
    intro j_61 hj_61 h
    refine jr_if_eq hC (D_X0_fewestClosed.g 29 rfl) 60 rfl h (fun h => ?_) (fun h => ?_)
    · refine jr_iconst hC (D_X0_fewestClosed.g 36 rfl) ?_
      exact hj_61 0 M14 h
    refine jr_aload_n hC (D_X0_fewestClosed.g 30 rfl) 0 rfl ?_
    refine jr_aload_n hC (D_X0_fewestClosed.g 31 rfl) 1 rfl ?_
    refine jr_iload_n hC (D_X0_fewestClosed.g 32 rfl) 2 rfl ?_
    refine jr_iload_n hC (D_X0_fewestClosed.g 33 rfl) 3 rfl ?_
    refine jr_cVi hC cl_X0_86 ⟨rfl, by decide⟩ (D_X0_fewestClosed.g 34 rfl) [q_r E a1, q_i y2_20, q_i y3_26] h (fun r M' e => c_X0_fewestClosedOn e) rfl rfl ⟨by decide, by decide⟩ (Nat.le_of_ble_eq_true rfl) ⟨Nat.le_of_ble_eq_true rfl, Nat.le_of_ble_eq_true rfl⟩ (fun v16 M17 h => ?_)
    refine jr_goto hC (D_X0_fewestClosed.g 35 rfl) 61 rfl ?_
    exact hj_61 v16 M17 h
  refine jr_iinc hC (D_X0_fewestClosed.g 40 rfl) 2 rfl (by decide) rfl ?_
  refine jr_goto hC (D_X0_fewestClosed.g 41 rfl) 20 rfl ?_
  refine jr_pick [1, 2, 0] rfl ?_
  exact hrec_20 (y2_20 + (-1)) M_26 h
