/-! ===== 21.X4a: by program ===== -/
def f_X4_countOddRuns (x0 : Int) (M : jMem) : Option (Int × jMem) :=
jlp3 (fun rec_6 (y1_6 : Int) (y2_6 : Int) (y3_6 : Int) =>
if jd_wr y3_6 ≤ jd_wr 6 then (jjq (fun (y1_34 : Int) (y2_34 : Int) =>
rec_6 y1_34 y2_34 (y3_6 + 1)) fun j_34 =>
if jd_wr (jd_and (jd_shr x0 y3_6) 1) = 0 then (j_34 (y1_6 + (jd_and y2_6 1)) 0)
else (j_34 y1_6 (y2_6 + 1)))
else (some (y1_6, M))) jfuel 0 0 0
theorem D_X4_countOddRuns : jDs cX4_countOddRuns [(0, .iconst 0, 1, 1), (1, .istore_n 1, 1, 2), (2, .iconst 0, 1, 3), (3, .istore_n 2, 1, 4), (4, .iconst 0, 1, 5), (5, .istore_n 3, 1, 6), (6, .iload_n 3, 1, 7), (7, .bipush 6, 2, 9), (9, .if_icmp .gt 31, 3, 12), (12, .iload_n 0, 1, 13), (13, .iload_n 3, 1, 14), (14, .ishr, 1, 15), (15, .iconst 1, 1, 16), (16, .iand, 1, 17), (17, .ifCond .eq 9, 3, 20), (20, .iinc 2 1, 3, 23), (23, .goto 11, 3, 26), (26, .iload_n 1, 1, 27), (27, .iload_n 2, 1, 28), (28, .iconst 1, 1, 29), (29, .iand, 1, 30), (30, .iadd, 1, 31), (31, .istore_n 1, 1, 32), (32, .iconst 0, 1, 33), (33, .istore_n 2, 1, 34), (34, .iinc 3 1, 3, 37), (37, .goto (-31), 3, 40), (40, .iload_n 1, 1, 41), (41, .ireturn, 1, 42)] := by unfold jDs; decide +kernel
set_option maxRecDepth 100000 in
set_option maxHeartbeats 4000000 in
theorem c_X4_countOddRuns {E : jE} {x0 : Int} {M : jMem} {r : Int} {M' : jMem} (h : f_X4_countOddRuns x0 M = some (r, M')) : jMet E yX4_countOddRuns cX4_countOddRuns 4 (some .int) 2 0 0 [q_i x0] M (some (q_i r)) M' := by
  unfold f_X4_countOddRuns at h
  refine jMet.of RX4 rfl (by decide +kernel) (Nat.le_of_ble_eq_true rfl) [(0, q_i x0)] rfl (fun X hC hE hr hn => ?_)
  refine jr_iconst hC (D_X4_countOddRuns.g 0 rfl) ?_
  refine jr_istore_n hC (D_X4_countOddRuns.g 1 rfl) (by decide) rfl ?_
  refine jr_iconst hC (D_X4_countOddRuns.g 2 rfl) ?_
  refine jr_istore_n hC (D_X4_countOddRuns.g 3 rfl) (by decide) rfl ?_
  refine jr_iconst hC (D_X4_countOddRuns.g 4 rfl) ?_
  refine jr_istore_n hC (D_X4_countOddRuns.g 5 rfl) (by decide) rfl ?_
  refine jr_pick [3, 2, 1, 0] rfl ?_
  refine jr_lp3 (fun (y1_6 : Int) (y2_6 : Int) (y3_6 : Int) => JW E X 4 0 0 M 6 [(0, q_i x0), (1, q_i y1_6), (2, q_i y2_6), (3, q_i y3_6)] []) ?_ jfuel 0 0 0 h
  intro rec_6 hrec_6 y1_6 y2_6 y3_6 h
  refine jr_iload_n hC (D_X4_countOddRuns.g 6 rfl) 3 rfl ?_
  refine jr_bipush hC (D_X4_countOddRuns.g 7 rfl) bp_6 ?_
  refine jr_icmp_gt hC (D_X4_countOddRuns.g 8 rfl) 40 rfl h (fun h => ?_) (fun h => ?_)
  · refine jr_iload_n hC (D_X4_countOddRuns.g 9 rfl) 0 rfl ?_
    refine jr_iload_n hC (D_X4_countOddRuns.g 10 rfl) 3 rfl ?_
    refine jr_ishr hC (D_X4_countOddRuns.g 11 rfl) ?_
    refine jr_iconst hC (D_X4_countOddRuns.g 12 rfl) ?_
    refine jr_iand hC (D_X4_countOddRuns.g 13 rfl) ?_
    refine jr_join h (fun j => ∀ (y1_34 : Int) (y2_34 : Int), j y1_34 y2_34 = some (r, M') → JW E X 4 0 0 M 34 [(0, q_i x0), (1, q_i y1_34), (2, q_i y2_34), (3, q_i y3_6)] []) ?_ ?_
    · intro y1_34 y2_34 h
      refine jr_iinc hC (D_X4_countOddRuns.g 25 rfl) 3 rfl (by decide) rfl ?_
      refine jr_goto hC (D_X4_countOddRuns.g 26 rfl) 6 rfl ?_
      refine jr_pick [1, 2, 3, 0] rfl ?_
      exact hrec_6 y1_34 y2_34 (y3_6 + 1) h
    intro j_34 hj_34 h
    refine jr_if_eq hC (D_X4_countOddRuns.g 14 rfl) 26 rfl h (fun h => ?_) (fun h => ?_)
    · refine jr_iload_n hC (D_X4_countOddRuns.g 17 rfl) 1 rfl ?_
      refine jr_iload_n hC (D_X4_countOddRuns.g 18 rfl) 2 rfl ?_
      refine jr_iconst hC (D_X4_countOddRuns.g 19 rfl) ?_
      refine jr_iand hC (D_X4_countOddRuns.g 20 rfl) ?_
      refine jr_iadd hC (D_X4_countOddRuns.g 21 rfl) ?_
      refine jr_istore_n hC (D_X4_countOddRuns.g 22 rfl) (by decide) rfl ?_
      refine jr_iconst hC (D_X4_countOddRuns.g 23 rfl) ?_
      refine jr_istore_n hC (D_X4_countOddRuns.g 24 rfl) (by decide) rfl ?_
      refine jr_pick [2, 1, 0, 3] rfl ?_
      exact hj_34 (y1_6 + (jd_and y2_6 1)) 0 h
    refine jr_iinc hC (D_X4_countOddRuns.g 15 rfl) 2 rfl (by decide) rfl ?_
    refine jr_goto hC (D_X4_countOddRuns.g 16 rfl) 34 rfl ?_
    refine jr_pick [1, 2, 0, 3] rfl ?_
    exact hj_34 y1_6 (y2_6 + 1) h
  refine jr_iload_n hC (D_X4_countOddRuns.g 27 rfl) 1 rfl ?_
  exact jr_iret hC (D_X4_countOddRuns.g 28 rfl) hr hE h
def f_X4_bit (th : Nat) (x1 : Int) (M : jMem) : Option (Int × jMem) :=
(jm_gI 4 5 M th).bind fun v1 =>
some ((jd_shl 1 ((v1 - 1) - x1)), M)
theorem D_X4_bit : jDs cX4_bit [(0, .iconst 1, 1, 1), (1, .aload_n 0, 1, 2), (2, .getfield 39, 3, 5), (5, .iconst 1, 1, 6), (6, .isub, 1, 7), (7, .iload_n 1, 1, 8), (8, .isub, 1, 9), (9, .ishl, 1, 10), (10, .ireturn, 1, 11)] := by unfold jDs; decide +kernel
set_option maxRecDepth 100000 in
set_option maxHeartbeats 4000000 in
theorem c_X4_bit {E : jE} {th : Nat} {x1 : Int} {M : jMem} {r : Int} {M' : jMem} (h : f_X4_bit th x1 M = some (r, M')) : jMet E yX4_bit cX4_bit 2 (some .int) 2 0 0 [q_r E th, q_i x1] M (some (q_i r)) M' := by
  unfold f_X4_bit at h
  refine jMet.of RX4 rfl (by decide +kernel) (Nat.le_of_ble_eq_true rfl) [(0, q_r E th), (1, q_i x1)] rfl (fun X hC hE hr hn => ?_)
  refine jr_iconst hC (D_X4_bit.g 0 rfl) ?_
  refine jr_aload_n hC (D_X4_bit.g 1 rfl) 0 rfl ?_
  refine jr_getI hC fl_X4_39 rfl (D_X4_bit.g 2 rfl) h (fun v1 h => ?_)
  refine jr_iconst hC (D_X4_bit.g 3 rfl) ?_
  refine jr_isub hC (D_X4_bit.g 4 rfl) ?_
  refine jr_iload_n hC (D_X4_bit.g 5 rfl) 1 rfl ?_
  refine jr_isub hC (D_X4_bit.g 6 rfl) ?_
  refine jr_ishl hC (D_X4_bit.g 7 rfl) ?_
  exact jr_iret hC (D_X4_bit.g 8 rfl) hr hE h
def f_X4_close (th : Nat) (x1 : Int) (M : jMem) : Option (Int × jMem) :=
(jm_gR 4 0 M th).bind fun r1 =>
(jm_gI 4 5 M th).bind fun v2 =>
jbd (f_X4_rowOf x1 v2 M) fun v3 M4 =>
(jm_ld 20 M4 r1 v3).bind fun v5 =>
(jm_gI 4 5 M4 th).bind fun v6 =>
jbd (f_X4_columnOf x1 v6 M4) fun v7 M8 =>
jcall 4 M8 th (f_X4_bit th v7 M8) fun v9 M10 =>
(jm_st 20 M10 r1 v3 (jd_or v5 v9)).bind fun M11 =>
some (0, M11)
theorem D_X4_close : jDs cX4_close [(0, .aload_n 0, 1, 1), (1, .getfield 9, 3, 4), (4, .iload_n 1, 1, 5), (5, .aload_n 0, 1, 6), (6, .getfield 39, 3, 9), (9, .invokestatic 59, 3, 12), (12, .dup2, 1, 13), (13, .iaload, 1, 14), (14, .aload_n 0, 1, 15), (15, .iload_n 1, 1, 16), (16, .aload_n 0, 1, 17), (17, .getfield 39, 3, 20), (20, .invokestatic 63, 3, 23), (23, .invokevirtual 66, 3, 26), (26, .ior, 1, 27), (27, .iastore, 1, 28), (28, .return_, 1, 29)] := by unfold jDs; decide +kernel
set_option maxRecDepth 100000 in
set_option maxHeartbeats 4000000 in
theorem c_X4_close {E : jE} {th : Nat} {x1 : Int} {M : jMem} {r : Int} {M' : jMem} (h : f_X4_close th x1 M = some (r, M')) : jMet E yX4_close cX4_close 2 (none) 3 0 0 [q_r E th, q_i x1] M (none) M' := by
  unfold f_X4_close at h
  refine jMet.of RX4 rfl (by decide +kernel) (Nat.le_of_ble_eq_true rfl) [(0, q_r E th), (1, q_i x1)] rfl (fun X hC hE hr hn => ?_)
  refine jr_aload_n hC (D_X4_close.g 0 rfl) 0 rfl ?_
  refine jr_getR hC fl_X4_9 rfl (D_X4_close.g 1 rfl) h (fun r1 h => ?_)
  refine jr_iload_n hC (D_X4_close.g 2 rfl) 1 rfl ?_
  refine jr_aload_n hC (D_X4_close.g 3 rfl) 0 rfl ?_
  refine jr_getI hC fl_X4_39 rfl (D_X4_close.g 4 rfl) h (fun v2 h => ?_)
  refine jr_cSi hC cl_X4_59 (D_X4_close.g 5 rfl) [q_i x1, q_i v2] h (fun r M' e => c_X4_rowOf e) rfl rfl ⟨by decide, by decide⟩ (Nat.le_of_ble_eq_true rfl) ⟨Nat.le_of_ble_eq_true rfl, Nat.le_of_ble_eq_true rfl⟩ (fun v3 M4 h => ?_)
  refine jr_dup2 hC (D_X4_close.g 6 rfl) rfl rfl ?_
  refine jr_iald hC (D_X4_close.g 7 rfl) h (fun v5 h => ?_)
  refine jr_aload_n hC (D_X4_close.g 8 rfl) 0 rfl ?_
  refine jr_iload_n hC (D_X4_close.g 9 rfl) 1 rfl ?_
  refine jr_aload_n hC (D_X4_close.g 10 rfl) 0 rfl ?_
  refine jr_getI hC fl_X4_39 rfl (D_X4_close.g 11 rfl) h (fun v6 h => ?_)
  refine jr_cSi hC cl_X4_63 (D_X4_close.g 12 rfl) [q_i x1, q_i v6] h (fun r M' e => c_X4_columnOf e) rfl rfl ⟨by decide, by decide⟩ (Nat.le_of_ble_eq_true rfl) ⟨Nat.le_of_ble_eq_true rfl, Nat.le_of_ble_eq_true rfl⟩ (fun v7 M8 h => ?_)
  refine jr_cVi hC cl_X4_66 ⟨rfl, by decide⟩ (D_X4_close.g 13 rfl) [q_i v7] h (fun r M' e => c_X4_bit e) rfl rfl ⟨by decide, by decide⟩ (Nat.le_of_ble_eq_true rfl) ⟨Nat.le_of_ble_eq_true rfl, Nat.le_of_ble_eq_true rfl⟩ (fun v9 M10 h => ?_)
  refine jr_ior hC (D_X4_close.g 14 rfl) ?_
  refine jr_iast hC (D_X4_close.g 15 rfl) h (fun M11 _ h => ?_)
  exact jr_vret hC (D_X4_close.g 16 rfl) hr hE h
def f_X4_begin (th : Nat) (a1 : Nat) (M : jMem) : Option (Int × jMem) :=
(jm_gI 8 0 M a1).bind fun v1 =>
(jm_pI 4 5 M th v1).bind fun M2 =>
(jm_gI 8 1 M2 a1).bind fun v3 =>
(jm_pI 4 6 M2 th v3).bind fun M4 =>
(jm_gI 4 5 M4 th).bind fun v5 =>
(jm_pI 4 7 M4 th ((jd_shl 1 v5) - 1)).bind fun M6 =>
jlp2 (fun rec_30 (y2_30 : Int) (M_30 : jMem) =>
if jd_wr y2_30 < jd_wr 7 then ((jm_gR 4 0 M_30 th).bind fun r7 =>
(jm_gI 4 6 M_30 th).bind fun v8 =>
jjq (fun (z0_57 : Int) =>
(jm_st 20 M_30 r7 y2_30 z0_57).bind fun M9 =>
(jm_gR 4 1 M9 th).bind fun r10 =>
(jm_st 20 M9 r10 y2_30 0).bind fun M11 =>
(jm_gR 4 2 M11 th).bind fun r12 =>
(jm_st 20 M11 r12 y2_30 0).bind fun M13 =>
rec_30 (y2_30 + 1) M13) fun j_57 =>
if jd_wr y2_30 < jd_wr v8 then (j_57 0)
else ((jm_gI 4 7 M_30 th).bind fun v14 =>
j_57 v14))
else (jlp2 (fun rec_80 (y2_80 : Int) (M_80 : jMem) =>
jcall 8 M_80 a1 (f_X8_cells a1 M_80) fun v15 M16 =>
if jd_wr y2_80 < jd_wr v15 then ((jm_gR 8 10 M16 a1).bind fun r17 =>
(jm_ld 22 M16 r17 y2_80).bind fun v18 =>
jjq (fun (M_102 : jMem) =>
rec_80 (y2_80 + 1) M_102) fun j_102 =>
if jd_wr v18 = 0 then (j_102 M16)
else (jcall 4 M16 th (f_X4_close th y2_80 M16) fun _ M20 =>
j_102 M20))
else (some (0, M16))) jfuel 0 M_30)) jfuel 0 M6
theorem D_X4_begin : jDs cX4_begin [(0, .aload_n 0, 1, 1), (1, .aload_n 1, 1, 2), (2, .getfield 33, 3, 5), (5, .putfield 39, 3, 8), (8, .aload_n 0, 1, 9), (9, .aload_n 1, 1, 10), (10, .getfield 40, 3, 13), (13, .putfield 43, 3, 16), (16, .aload_n 0, 1, 17), (17, .iconst 1, 1, 18), (18, .aload_n 0, 1, 19), (19, .getfield 39, 3, 22), (22, .ishl, 1, 23), (23, .iconst 1, 1, 24), (24, .isub, 1, 25), (25, .putfield 44, 3, 28), (28, .iconst 0, 1, 29), (29, .istore_n 2, 1, 30), (30, .iload_n 2, 1, 31), (31, .bipush 7, 2, 33), (33, .if_icmp .ge 45, 3, 36), (36, .aload_n 0, 1, 37), (37, .getfield 9, 3, 40), (40, .iload_n 2, 1, 41), (41, .iload_n 2, 1, 42), (42, .aload_n 0, 1, 43), (43, .getfield 43, 3, 46), (46, .if_icmp .ge 7, 3, 49), (49, .iconst 0, 1, 50), (50, .goto 7, 3, 53), (53, .aload_n 0, 1, 54), (54, .getfield 44, 3, 57), (57, .iastore, 1, 58), (58, .aload_n 0, 1, 59), (59, .getfield 15, 3, 62), (62, .iload_n 2, 1, 63), (63, .iconst 0, 1, 64), (64, .iastore, 1, 65), (65, .aload_n 0, 1, 66), (66, .getfield 18, 3, 69), (69, .iload_n 2, 1, 70), (70, .iconst 0, 1, 71), (71, .iastore, 1, 72), (72, .iinc 2 1, 3, 75), (75, .goto (-45), 3, 78), (78, .iconst 0, 1, 79), (79, .istore_n 2, 1, 80), (80, .iload_n 2, 1, 81), (81, .aload_n 1, 1, 82), (82, .invokevirtual 47, 3, 85), (85, .if_icmp .ge 23, 3, 88), (88, .aload_n 1, 1, 89), (89, .getfield 51, 3, 92), (92, .iload_n 2, 1, 93), (93, .baload, 1, 94), (94, .ifCond .eq 8, 3, 97), (97, .aload_n 0, 1, 98), (98, .iload_n 2, 1, 99), (99, .invokevirtual 55, 3, 102), (102, .iinc 2 1, 3, 105), (105, .goto (-25), 3, 108), (108, .return_, 1, 109)] := by unfold jDs; decide +kernel
set_option maxRecDepth 100000 in
set_option maxHeartbeats 4000000 in
theorem c_X4_begin {E : jE} {th : Nat} {a1 : Nat} {M : jMem} {r : Int} {M' : jMem} (h : f_X4_begin th a1 M = some (r, M')) : jMet E yX4_begin cX4_begin 3 (none) 4 0 0 [q_r E th, q_r E a1] M (none) M' := by
  unfold f_X4_begin at h
  refine jMet.of RX4 rfl (by decide +kernel) (Nat.le_of_ble_eq_true rfl) [(0, q_r E th), (1, q_r E a1)] rfl (fun X hC hE hr hn => ?_)
  refine jr_aload_n hC (D_X4_begin.g 0 rfl) 0 rfl ?_
  refine jr_aload_n hC (D_X4_begin.g 1 rfl) 1 rfl ?_
  refine jr_getI hC fl_X4_33 rfl (D_X4_begin.g 2 rfl) h (fun v1 h => ?_)
  refine jr_putI hC fl_X4_39 rfl (jnfin rfl) (D_X4_begin.g 3 rfl) h (fun M2 _ h => ?_)
  refine jr_aload_n hC (D_X4_begin.g 4 rfl) 0 rfl ?_
  refine jr_aload_n hC (D_X4_begin.g 5 rfl) 1 rfl ?_
  refine jr_getI hC fl_X4_40 rfl (D_X4_begin.g 6 rfl) h (fun v3 h => ?_)
  refine jr_putI hC fl_X4_43 rfl (jnfin rfl) (D_X4_begin.g 7 rfl) h (fun M4 _ h => ?_)
  refine jr_aload_n hC (D_X4_begin.g 8 rfl) 0 rfl ?_
  refine jr_iconst hC (D_X4_begin.g 9 rfl) ?_
  refine jr_aload_n hC (D_X4_begin.g 10 rfl) 0 rfl ?_
  refine jr_getI hC fl_X4_39 rfl (D_X4_begin.g 11 rfl) h (fun v5 h => ?_)
  refine jr_ishl hC (D_X4_begin.g 12 rfl) ?_
  refine jr_iconst hC (D_X4_begin.g 13 rfl) ?_
  refine jr_isub hC (D_X4_begin.g 14 rfl) ?_
  refine jr_putI hC fl_X4_44 rfl (jnfin rfl) (D_X4_begin.g 15 rfl) h (fun M6 _ h => ?_)
  refine jr_iconst hC (D_X4_begin.g 16 rfl) ?_
  refine jr_istore_n hC (D_X4_begin.g 17 rfl) (by decide) rfl ?_
  refine jr_pick [1, 2, 0] rfl ?_
  refine jr_lp2 (fun (y2_30 : Int) (M_30 : jMem) => JW E X 3 0 0 M_30 30 [(0, q_r E th), (1, q_r E a1), (2, q_i y2_30)] []) ?_ jfuel 0 M6 h
  intro rec_30 hrec_30 y2_30 M_30 h
  refine jr_iload_n hC (D_X4_begin.g 18 rfl) 2 rfl ?_
  refine jr_bipush hC (D_X4_begin.g 19 rfl) bp_7 ?_
  refine jr_icmp_ge hC (D_X4_begin.g 20 rfl) 78 rfl h (fun h => ?_) (fun h => ?_)
  · refine jr_aload_n hC (D_X4_begin.g 21 rfl) 0 rfl ?_
    refine jr_getR hC fl_X4_9 rfl (D_X4_begin.g 22 rfl) h (fun r7 h => ?_)
    refine jr_iload_n hC (D_X4_begin.g 23 rfl) 2 rfl ?_
    refine jr_iload_n hC (D_X4_begin.g 24 rfl) 2 rfl ?_
    refine jr_aload_n hC (D_X4_begin.g 25 rfl) 0 rfl ?_
    refine jr_getI hC fl_X4_43 rfl (D_X4_begin.g 26 rfl) h (fun v8 h => ?_)
    refine jr_join h (fun j => ∀ (z0_57 : Int), j z0_57 = some (r, M') → JW E X 3 0 0 M_30 57 [(0, q_r E th), (1, q_r E a1), (2, q_i y2_30)] [q_i z0_57, q_i y2_30, q_r E r7]) ?_ ?_
    · intro z0_57 h
      refine jr_iast hC (D_X4_begin.g 32 rfl) h (fun M9 _ h => ?_)
      refine jr_aload_n hC (D_X4_begin.g 33 rfl) 0 rfl ?_
      refine jr_getR hC fl_X4_15 rfl (D_X4_begin.g 34 rfl) h (fun r10 h => ?_)
      refine jr_iload_n hC (D_X4_begin.g 35 rfl) 2 rfl ?_
      refine jr_iconst hC (D_X4_begin.g 36 rfl) ?_
      refine jr_iast hC (D_X4_begin.g 37 rfl) h (fun M11 _ h => ?_)
      refine jr_aload_n hC (D_X4_begin.g 38 rfl) 0 rfl ?_
      refine jr_getR hC fl_X4_18 rfl (D_X4_begin.g 39 rfl) h (fun r12 h => ?_)
      refine jr_iload_n hC (D_X4_begin.g 40 rfl) 2 rfl ?_
      refine jr_iconst hC (D_X4_begin.g 41 rfl) ?_
      refine jr_iast hC (D_X4_begin.g 42 rfl) h (fun M13 _ h => ?_)
      refine jr_iinc hC (D_X4_begin.g 43 rfl) 2 rfl (by decide) rfl ?_
      refine jr_goto hC (D_X4_begin.g 44 rfl) 30 rfl ?_
      refine jr_pick [1, 2, 0] rfl ?_
      exact hrec_30 (y2_30 + 1) M13 h
    intro j_57 hj_57 h
    refine jr_icmp_ge hC (D_X4_begin.g 27 rfl) 53 rfl h (fun h => ?_) (fun h => ?_)
    · refine jr_iconst hC (D_X4_begin.g 28 rfl) ?_
      refine jr_goto hC (D_X4_begin.g 29 rfl) 57 rfl ?_
      exact hj_57 0 h
    refine jr_aload_n hC (D_X4_begin.g 30 rfl) 0 rfl ?_
    refine jr_getI hC fl_X4_44 rfl (D_X4_begin.g 31 rfl) h (fun v14 h => ?_)
    exact hj_57 v14 h
  refine jr_iconst hC (D_X4_begin.g 45 rfl) ?_
  refine jr_istore_n hC (D_X4_begin.g 46 rfl) (by decide) rfl ?_
  refine jr_pick [1, 2, 0] rfl ?_
  refine jr_lp2 (fun (y2_80 : Int) (M_80 : jMem) => JW E X 3 0 0 M_80 80 [(0, q_r E th), (1, q_r E a1), (2, q_i y2_80)] []) ?_ jfuel 0 M_30 h
  intro rec_80 hrec_80 y2_80 M_80 h
  refine jr_iload_n hC (D_X4_begin.g 47 rfl) 2 rfl ?_
  refine jr_aload_n hC (D_X4_begin.g 48 rfl) 1 rfl ?_
  refine jr_cVi hC cl_X4_47 ⟨rfl, by decide⟩ (D_X4_begin.g 49 rfl) [] h (fun r M' e => c_X8_cells e) rfl rfl ⟨by decide, by decide⟩ (Nat.le_of_ble_eq_true rfl) ⟨Nat.le_of_ble_eq_true rfl, Nat.le_of_ble_eq_true rfl⟩ (fun v15 M16 h => ?_)
  refine jr_icmp_ge hC (D_X4_begin.g 50 rfl) 108 rfl h (fun h => ?_) (fun h => ?_)
  · refine jr_aload_n hC (D_X4_begin.g 51 rfl) 1 rfl ?_
    refine jr_getR hC fl_X4_51 rfl (D_X4_begin.g 52 rfl) h (fun r17 h => ?_)
    refine jr_iload_n hC (D_X4_begin.g 53 rfl) 2 rfl ?_
    refine jr_zald hC (D_X4_begin.g 54 rfl) h (fun v18 h => ?_)
    refine jr_join h (fun j => ∀ (M_102 : jMem), j M_102 = some (r, M') → JW E X 3 0 0 M_102 102 [(0, q_r E th), (1, q_r E a1), (2, q_i y2_80)] []) ?_ ?_
    · intro M_102 h
      refine jr_iinc hC (D_X4_begin.g 59 rfl) 2 rfl (by decide) rfl ?_
      refine jr_goto hC (D_X4_begin.g 60 rfl) 80 rfl ?_
      refine jr_pick [1, 2, 0] rfl ?_
      exact hrec_80 (y2_80 + 1) M_102 h
    intro j_102 hj_102 h
    refine jr_if_eq hC (D_X4_begin.g 55 rfl) 102 rfl h (fun h => ?_) (fun h => ?_)
    · exact hj_102 M16 h
    refine jr_aload_n hC (D_X4_begin.g 56 rfl) 0 rfl ?_
    refine jr_iload_n hC (D_X4_begin.g 57 rfl) 2 rfl ?_
    refine jr_cVv hC cl_X4_55 ⟨rfl, by decide⟩ (D_X4_begin.g 58 rfl) [q_i y2_80] h (fun r M' e => c_X4_close e) rfl rfl ⟨by decide, by decide⟩ (Nat.le_of_ble_eq_true rfl) ⟨Nat.le_of_ble_eq_true rfl, Nat.le_of_ble_eq_true rfl⟩ (fun _ M20 h => ?_)
    exact hj_102 M20 h
  exact jr_vret hC (D_X4_begin.g 61 rfl) hr hE h
def f_X4_isDown (th : Nat) (a1 : Nat) (x2 : Int) (M : jMem) : Option (Int × jMem) :=
(jm_gI 4 5 M th).bind fun v1 =>
jbd (f_X4_rowOf x2 v1 M) fun v2 M3 =>
(jm_ld 20 M3 a1 (v2 + 1)).bind fun v4 =>
(jm_gI 4 5 M3 th).bind fun v5 =>
jbd (f_X4_columnOf x2 v5 M3) fun v6 M7 =>
jcall 4 M7 th (f_X4_bit th v6 M7) fun v8 M9 =>
if jd_wr (jd_and v4 v8) = 0 then (jm_z 0 M9)
else (jm_z 1 M9)
theorem D_X4_isDown : jDs cX4_isDown [(0, .aload_n 1, 1, 1), (1, .iload_n 2, 1, 2), (2, .aload_n 0, 1, 3), (3, .getfield 39, 3, 6), (6, .invokestatic 59, 3, 9), (9, .iconst 1, 1, 10), (10, .iadd, 1, 11), (11, .iaload, 1, 12), (12, .aload_n 0, 1, 13), (13, .iload_n 2, 1, 14), (14, .aload_n 0, 1, 15), (15, .getfield 39, 3, 18), (18, .invokestatic 63, 3, 21), (21, .invokevirtual 66, 3, 24), (24, .iand, 1, 25), (25, .ifCond .eq 7, 3, 28), (28, .iconst 1, 1, 29), (29, .goto 4, 3, 32), (32, .iconst 0, 1, 33), (33, .ireturn, 1, 34)] := by unfold jDs; decide +kernel
set_option maxRecDepth 100000 in
set_option maxHeartbeats 4000000 in
theorem c_X4_isDown {E : jE} {th : Nat} {a1 : Nat} {x2 : Int} {M : jMem} {r : Int} {M' : jMem} (h : f_X4_isDown th a1 x2 M = some (r, M')) : jMet E yX4_isDown cX4_isDown 3 (some .boolean) 3 0 0 [q_r E th, q_r E a1, q_i x2] M (some (q_i r)) M' := by
  unfold f_X4_isDown at h
  refine jMet.of RX4 rfl (by decide +kernel) (Nat.le_of_ble_eq_true rfl) [(0, q_r E th), (1, q_r E a1), (2, q_i x2)] rfl (fun X hC hE hr hn => ?_)
  refine jr_aload_n hC (D_X4_isDown.g 0 rfl) 1 rfl ?_
  refine jr_iload_n hC (D_X4_isDown.g 1 rfl) 2 rfl ?_
  refine jr_aload_n hC (D_X4_isDown.g 2 rfl) 0 rfl ?_
  refine jr_getI hC fl_X4_39 rfl (D_X4_isDown.g 3 rfl) h (fun v1 h => ?_)
  refine jr_cSi hC cl_X4_59 (D_X4_isDown.g 4 rfl) [q_i x2, q_i v1] h (fun r M' e => c_X4_rowOf e) rfl rfl ⟨by decide, by decide⟩ (Nat.le_of_ble_eq_true rfl) ⟨Nat.le_of_ble_eq_true rfl, Nat.le_of_ble_eq_true rfl⟩ (fun v2 M3 h => ?_)
  refine jr_iconst hC (D_X4_isDown.g 5 rfl) ?_
  refine jr_iadd hC (D_X4_isDown.g 6 rfl) ?_
  refine jr_iald hC (D_X4_isDown.g 7 rfl) h (fun v4 h => ?_)
  refine jr_aload_n hC (D_X4_isDown.g 8 rfl) 0 rfl ?_
  refine jr_iload_n hC (D_X4_isDown.g 9 rfl) 2 rfl ?_
  refine jr_aload_n hC (D_X4_isDown.g 10 rfl) 0 rfl ?_
  refine jr_getI hC fl_X4_39 rfl (D_X4_isDown.g 11 rfl) h (fun v5 h => ?_)
  refine jr_cSi hC cl_X4_63 (D_X4_isDown.g 12 rfl) [q_i x2, q_i v5] h (fun r M' e => c_X4_columnOf e) rfl rfl ⟨by decide, by decide⟩ (Nat.le_of_ble_eq_true rfl) ⟨Nat.le_of_ble_eq_true rfl, Nat.le_of_ble_eq_true rfl⟩ (fun v6 M7 h => ?_)
  refine jr_cVi hC cl_X4_66 ⟨rfl, by decide⟩ (D_X4_isDown.g 13 rfl) [q_i v6] h (fun r M' e => c_X4_bit e) rfl rfl ⟨by decide, by decide⟩ (Nat.le_of_ble_eq_true rfl) ⟨Nat.le_of_ble_eq_true rfl, Nat.le_of_ble_eq_true rfl⟩ (fun v8 M9 h => ?_)
  refine jr_iand hC (D_X4_isDown.g 14 rfl) ?_
  refine jr_if_eq hC (D_X4_isDown.g 15 rfl) 32 rfl h (fun h => ?_) (fun h => ?_)
  · refine jr_iconst hC (D_X4_isDown.g 18 rfl) ?_
    exact jr_zret hC (D_X4_isDown.g 19 rfl) hr hE h
  refine jr_iconst hC (D_X4_isDown.g 16 rfl) ?_
  refine jr_goto hC (D_X4_isDown.g 17 rfl) 33 rfl ?_
  exact jr_zret hC (D_X4_isDown.g 19 rfl) hr hE h
def f_X4_drawDown (th : Nat) (a1 : Nat) (x2 : Int) (M : jMem) : Option (Int × jMem) :=
(jm_gI 4 5 M th).bind fun v1 =>
jbd (f_X4_rowOf x2 v1 M) fun v2 M3 =>
(jm_ld 20 M3 a1 (v2 + 1)).bind fun v4 =>
(jm_gI 4 5 M3 th).bind fun v5 =>
jbd (f_X4_columnOf x2 v5 M3) fun v6 M7 =>
jcall 4 M7 th (f_X4_bit th v6 M7) fun v8 M9 =>
(jm_st 20 M9 a1 (v2 + 1) (jd_or v4 v8)).bind fun M10 =>
some (0, M10)
theorem D_X4_drawDown : jDs cX4_drawDown [(0, .aload_n 1, 1, 1), (1, .iload_n 2, 1, 2), (2, .aload_n 0, 1, 3), (3, .getfield 39, 3, 6), (6, .invokestatic 59, 3, 9), (9, .iconst 1, 1, 10), (10, .iadd, 1, 11), (11, .dup2, 1, 12), (12, .iaload, 1, 13), (13, .aload_n 0, 1, 14), (14, .iload_n 2, 1, 15), (15, .aload_n 0, 1, 16), (16, .getfield 39, 3, 19), (19, .invokestatic 63, 3, 22), (22, .invokevirtual 66, 3, 25), (25, .ior, 1, 26), (26, .iastore, 1, 27), (27, .return_, 1, 28)] := by unfold jDs; decide +kernel
set_option maxRecDepth 100000 in
set_option maxHeartbeats 4000000 in
theorem c_X4_drawDown {E : jE} {th : Nat} {a1 : Nat} {x2 : Int} {M : jMem} {r : Int} {M' : jMem} (h : f_X4_drawDown th a1 x2 M = some (r, M')) : jMet E yX4_drawDown cX4_drawDown 3 (none) 3 0 0 [q_r E th, q_r E a1, q_i x2] M (none) M' := by
  unfold f_X4_drawDown at h
  refine jMet.of RX4 rfl (by decide +kernel) (Nat.le_of_ble_eq_true rfl) [(0, q_r E th), (1, q_r E a1), (2, q_i x2)] rfl (fun X hC hE hr hn => ?_)
  refine jr_aload_n hC (D_X4_drawDown.g 0 rfl) 1 rfl ?_
  refine jr_iload_n hC (D_X4_drawDown.g 1 rfl) 2 rfl ?_
  refine jr_aload_n hC (D_X4_drawDown.g 2 rfl) 0 rfl ?_
  refine jr_getI hC fl_X4_39 rfl (D_X4_drawDown.g 3 rfl) h (fun v1 h => ?_)
  refine jr_cSi hC cl_X4_59 (D_X4_drawDown.g 4 rfl) [q_i x2, q_i v1] h (fun r M' e => c_X4_rowOf e) rfl rfl ⟨by decide, by decide⟩ (Nat.le_of_ble_eq_true rfl) ⟨Nat.le_of_ble_eq_true rfl, Nat.le_of_ble_eq_true rfl⟩ (fun v2 M3 h => ?_)
  refine jr_iconst hC (D_X4_drawDown.g 5 rfl) ?_
  refine jr_iadd hC (D_X4_drawDown.g 6 rfl) ?_
  refine jr_dup2 hC (D_X4_drawDown.g 7 rfl) rfl rfl ?_
  refine jr_iald hC (D_X4_drawDown.g 8 rfl) h (fun v4 h => ?_)
  refine jr_aload_n hC (D_X4_drawDown.g 9 rfl) 0 rfl ?_
  refine jr_iload_n hC (D_X4_drawDown.g 10 rfl) 2 rfl ?_
  refine jr_aload_n hC (D_X4_drawDown.g 11 rfl) 0 rfl ?_
  refine jr_getI hC fl_X4_39 rfl (D_X4_drawDown.g 12 rfl) h (fun v5 h => ?_)
  refine jr_cSi hC cl_X4_63 (D_X4_drawDown.g 13 rfl) [q_i x2, q_i v5] h (fun r M' e => c_X4_columnOf e) rfl rfl ⟨by decide, by decide⟩ (Nat.le_of_ble_eq_true rfl) ⟨Nat.le_of_ble_eq_true rfl, Nat.le_of_ble_eq_true rfl⟩ (fun v6 M7 h => ?_)
  refine jr_cVi hC cl_X4_66 ⟨rfl, by decide⟩ (D_X4_drawDown.g 14 rfl) [q_i v6] h (fun r M' e => c_X4_bit e) rfl rfl ⟨by decide, by decide⟩ (Nat.le_of_ble_eq_true rfl) ⟨Nat.le_of_ble_eq_true rfl, Nat.le_of_ble_eq_true rfl⟩ (fun v8 M9 h => ?_)
  refine jr_ior hC (D_X4_drawDown.g 15 rfl) ?_
  refine jr_iast hC (D_X4_drawDown.g 16 rfl) h (fun M10 _ h => ?_)
  exact jr_vret hC (D_X4_drawDown.g 17 rfl) hr hE h
def f_X4_bind (th : Nat) (x1 : Int) (x2 : Int) (M : jMem) : Option (Int × jMem) :=
(jm_gI 4 5 M th).bind fun v1 =>
jbd (f_X4_rowOf x1 v1 M) fun v2 M3 =>
(jm_gI 4 5 M3 th).bind fun v4 =>
jbd (f_X4_columnOf x1 v4 M3) fun v5 M6 =>
jcall 4 M6 th (f_X4_bit th v5 M6) fun v7 M8 =>
if jd_wr x2 = 0 then ((jm_gR 4 2 M8 th).bind fun r9 =>
(jm_ld 20 M8 r9 v2).bind fun v10 =>
(jm_st 20 M8 r9 v2 (jd_or v10 v7)).bind fun M11 =>
some (0, M11))
else ((jm_gR 4 1 M8 th).bind fun r12 =>
(jm_ld 20 M8 r12 v2).bind fun v13 =>
(jm_st 20 M8 r12 v2 (jd_or v13 v7)).bind fun M14 =>
some (0, M14))
theorem D_X4_bind : jDs cX4_bind [(0, .iload_n 1, 1, 1), (1, .aload_n 0, 1, 2), (2, .getfield 39, 3, 5), (5, .invokestatic 59, 3, 8), (8, .istore_n 3, 1, 9), (9, .aload_n 0, 1, 10), (10, .iload_n 1, 1, 11), (11, .aload_n 0, 1, 12), (12, .getfield 39, 3, 15), (15, .invokestatic 63, 3, 18), (18, .invokevirtual 66, 3, 21), (21, .istore 4, 2, 23), (23, .iload_n 2, 1, 24), (24, .ifCond .eq 17, 3, 27), (27, .aload_n 0, 1, 28), (28, .getfield 15, 3, 31), (31, .iload_n 3, 1, 32), (32, .dup2, 1, 33), (33, .iaload, 1, 34), (34, .iload 4, 2, 36), (36, .ior, 1, 37), (37, .iastore, 1, 38), (38, .goto 14, 3, 41), (41, .aload_n 0, 1, 42), (42, .getfield 18, 3, 45), (45, .iload_n 3, 1, 46), (46, .dup2, 1, 47), (47, .iaload, 1, 48), (48, .iload 4, 2, 50), (50, .ior, 1, 51), (51, .iastore, 1, 52), (52, .return_, 1, 53)] := by unfold jDs; decide +kernel
set_option maxRecDepth 100000 in
set_option maxHeartbeats 4000000 in
theorem c_X4_bind {E : jE} {th : Nat} {x1 : Int} {x2 : Int} {M : jMem} {r : Int} {M' : jMem} (h : f_X4_bind th x1 x2 M = some (r, M')) : jMet E yX4_bind cX4_bind 5 (none) 3 0 0 [q_r E th, q_i x1, q_i x2] M (none) M' := by
  unfold f_X4_bind at h
  refine jMet.of RX4 rfl (by decide +kernel) (Nat.le_of_ble_eq_true rfl) [(0, q_r E th), (1, q_i x1), (2, q_i x2)] rfl (fun X hC hE hr hn => ?_)
  refine jr_iload_n hC (D_X4_bind.g 0 rfl) 1 rfl ?_
  refine jr_aload_n hC (D_X4_bind.g 1 rfl) 0 rfl ?_
  refine jr_getI hC fl_X4_39 rfl (D_X4_bind.g 2 rfl) h (fun v1 h => ?_)
  refine jr_cSi hC cl_X4_59 (D_X4_bind.g 3 rfl) [q_i x1, q_i v1] h (fun r M' e => c_X4_rowOf e) rfl rfl ⟨by decide, by decide⟩ (Nat.le_of_ble_eq_true rfl) ⟨Nat.le_of_ble_eq_true rfl, Nat.le_of_ble_eq_true rfl⟩ (fun v2 M3 h => ?_)
  refine jr_istore_n hC (D_X4_bind.g 4 rfl) (by decide) rfl ?_
  refine jr_aload_n hC (D_X4_bind.g 5 rfl) 1 rfl ?_
  refine jr_iload_n hC (D_X4_bind.g 6 rfl) 2 rfl ?_
  refine jr_aload_n hC (D_X4_bind.g 7 rfl) 1 rfl ?_
  refine jr_getI hC fl_X4_39 rfl (D_X4_bind.g 8 rfl) h (fun v4 h => ?_)
  refine jr_cSi hC cl_X4_63 (D_X4_bind.g 9 rfl) [q_i x1, q_i v4] h (fun r M' e => c_X4_columnOf e) rfl rfl ⟨by decide, by decide⟩ (Nat.le_of_ble_eq_true rfl) ⟨Nat.le_of_ble_eq_true rfl, Nat.le_of_ble_eq_true rfl⟩ (fun v5 M6 h => ?_)
  refine jr_cVi hC cl_X4_66 ⟨rfl, by decide⟩ (D_X4_bind.g 10 rfl) [q_i v5] h (fun r M' e => c_X4_bit e) rfl rfl ⟨by decide, by decide⟩ (Nat.le_of_ble_eq_true rfl) ⟨Nat.le_of_ble_eq_true rfl, Nat.le_of_ble_eq_true rfl⟩ (fun v7 M8 h => ?_)
  refine jr_istore hC (D_X4_bind.g 11 rfl) (by decide) rfl ?_
  refine jr_iload_n hC (D_X4_bind.g 12 rfl) 4 rfl ?_
  refine jr_if_eq hC (D_X4_bind.g 13 rfl) 41 rfl h (fun h => ?_) (fun h => ?_)
  · refine jr_aload_n hC (D_X4_bind.g 23 rfl) 2 rfl ?_
    refine jr_getR hC fl_X4_18 rfl (D_X4_bind.g 24 rfl) h (fun r9 h => ?_)
    refine jr_iload_n hC (D_X4_bind.g 25 rfl) 1 rfl ?_
    refine jr_dup2 hC (D_X4_bind.g 26 rfl) rfl rfl ?_
    refine jr_iald hC (D_X4_bind.g 27 rfl) h (fun v10 h => ?_)
    refine jr_iload hC (D_X4_bind.g 28 rfl) 0 rfl ?_
    refine jr_ior hC (D_X4_bind.g 29 rfl) ?_
    refine jr_iast hC (D_X4_bind.g 30 rfl) h (fun M11 _ h => ?_)
    exact jr_vret hC (D_X4_bind.g 31 rfl) hr hE h
  refine jr_aload_n hC (D_X4_bind.g 14 rfl) 2 rfl ?_
  refine jr_getR hC fl_X4_15 rfl (D_X4_bind.g 15 rfl) h (fun r12 h => ?_)
  refine jr_iload_n hC (D_X4_bind.g 16 rfl) 1 rfl ?_
  refine jr_dup2 hC (D_X4_bind.g 17 rfl) rfl rfl ?_
  refine jr_iald hC (D_X4_bind.g 18 rfl) h (fun v13 h => ?_)
  refine jr_iload hC (D_X4_bind.g 19 rfl) 0 rfl ?_
  refine jr_ior hC (D_X4_bind.g 20 rfl) ?_
  refine jr_iast hC (D_X4_bind.g 21 rfl) h (fun M14 _ h => ?_)
  refine jr_goto hC (D_X4_bind.g 22 rfl) 52 rfl ?_
  exact jr_vret hC (D_X4_bind.g 31 rfl) hr hE h
def f_X4_isClosed (th : Nat) (x1 : Int) (x2 : Int) (M : jMem) : Option (Int × jMem) :=
(jm_gR 4 0 M th).bind fun r1 =>
(jm_ld 20 M r1 x2).bind fun v2 =>
jcall 4 M th (f_X4_bit th x1 M) fun v3 M4 =>
if jd_wr (jd_and v2 v3) = 0 then (jm_z 0 M4)
else (jm_z 1 M4)
theorem D_X4_isClosed : jDs cX4_isClosed [(0, .aload_n 0, 1, 1), (1, .getfield 9, 3, 4), (4, .iload_n 2, 1, 5), (5, .iaload, 1, 6), (6, .aload_n 0, 1, 7), (7, .iload_n 1, 1, 8), (8, .invokevirtual 66, 3, 11), (11, .iand, 1, 12), (12, .ifCond .eq 7, 3, 15), (15, .iconst 1, 1, 16), (16, .goto 4, 3, 19), (19, .iconst 0, 1, 20), (20, .ireturn, 1, 21)] := by unfold jDs; decide +kernel
set_option maxRecDepth 100000 in
set_option maxHeartbeats 4000000 in
theorem c_X4_isClosed {E : jE} {th : Nat} {x1 : Int} {x2 : Int} {M : jMem} {r : Int} {M' : jMem} (h : f_X4_isClosed th x1 x2 M = some (r, M')) : jMet E yX4_isClosed cX4_isClosed 3 (some .boolean) 3 0 0 [q_r E th, q_i x1, q_i x2] M (some (q_i r)) M' := by
  unfold f_X4_isClosed at h
  refine jMet.of RX4 rfl (by decide +kernel) (Nat.le_of_ble_eq_true rfl) [(0, q_r E th), (1, q_i x1), (2, q_i x2)] rfl (fun X hC hE hr hn => ?_)
  refine jr_aload_n hC (D_X4_isClosed.g 0 rfl) 0 rfl ?_
  refine jr_getR hC fl_X4_9 rfl (D_X4_isClosed.g 1 rfl) h (fun r1 h => ?_)
  refine jr_iload_n hC (D_X4_isClosed.g 2 rfl) 2 rfl ?_
  refine jr_iald hC (D_X4_isClosed.g 3 rfl) h (fun v2 h => ?_)
  refine jr_aload_n hC (D_X4_isClosed.g 4 rfl) 0 rfl ?_
  refine jr_iload_n hC (D_X4_isClosed.g 5 rfl) 1 rfl ?_
  refine jr_cVi hC cl_X4_66 ⟨rfl, by decide⟩ (D_X4_isClosed.g 6 rfl) [q_i x1] h (fun r M' e => c_X4_bit e) rfl rfl ⟨by decide, by decide⟩ (Nat.le_of_ble_eq_true rfl) ⟨Nat.le_of_ble_eq_true rfl, Nat.le_of_ble_eq_true rfl⟩ (fun v3 M4 h => ?_)
  refine jr_iand hC (D_X4_isClosed.g 7 rfl) ?_
  refine jr_if_eq hC (D_X4_isClosed.g 8 rfl) 19 rfl h (fun h => ?_) (fun h => ?_)
  · refine jr_iconst hC (D_X4_isClosed.g 11 rfl) ?_
    exact jr_zret hC (D_X4_isClosed.g 12 rfl) hr hE h
  refine jr_iconst hC (D_X4_isClosed.g 9 rfl) ?_
  refine jr_goto hC (D_X4_isClosed.g 10 rfl) 20 rfl ?_
  exact jr_zret hC (D_X4_isClosed.g 12 rfl) hr hE h
def f_X4_roomBelow (th : Nat) (x1 : Int) (x2 : Int) (M : jMem) : Option (Int × jMem) :=
(jm_gI 4 7 M th).bind fun v1 =>
(jm_gR 4 0 M th).bind fun r2 =>
(jm_ld 20 M r2 x1).bind fun v3 =>
(jm_gR 4 0 M th).bind fun r4 =>
(jm_ld 20 M r4 (x1 + 1)).bind fun v5 =>
(jm_gR 4 1 M th).bind fun r6 =>
(jm_ld 20 M r6 x1).bind fun v7 =>
(jm_gR 4 1 M th).bind fun r8 =>
(jm_ld 20 M r8 (x1 + 1)).bind fun v9 =>
some ((jd_and v1 (jd_xor (jd_or (jd_or (jd_or (jd_or v3 v5) v7) v9) x2) (-1))), M)
theorem D_X4_roomBelow : jDs cX4_roomBelow [(0, .aload_n 0, 1, 1), (1, .getfield 44, 3, 4), (4, .aload_n 0, 1, 5), (5, .getfield 9, 3, 8), (8, .iload_n 1, 1, 9), (9, .iaload, 1, 10), (10, .aload_n 0, 1, 11), (11, .getfield 9, 3, 14), (14, .iload_n 1, 1, 15), (15, .iconst 1, 1, 16), (16, .iadd, 1, 17), (17, .iaload, 1, 18), (18, .ior, 1, 19), (19, .aload_n 0, 1, 20), (20, .getfield 15, 3, 23), (23, .iload_n 1, 1, 24), (24, .iaload, 1, 25), (25, .ior, 1, 26), (26, .aload_n 0, 1, 27), (27, .getfield 15, 3, 30), (30, .iload_n 1, 1, 31), (31, .iconst 1, 1, 32), (32, .iadd, 1, 33), (33, .iaload, 1, 34), (34, .ior, 1, 35), (35, .iload_n 2, 1, 36), (36, .ior, 1, 37), (37, .iconst (-1), 1, 38), (38, .ixor, 1, 39), (39, .iand, 1, 40), (40, .ireturn, 1, 41)] := by unfold jDs; decide +kernel
set_option maxRecDepth 100000 in
set_option maxHeartbeats 4000000 in
theorem c_X4_roomBelow {E : jE} {th : Nat} {x1 : Int} {x2 : Int} {M : jMem} {r : Int} {M' : jMem} (h : f_X4_roomBelow th x1 x2 M = some (r, M')) : jMet E yX4_roomBelow cX4_roomBelow 3 (some .int) 2 0 0 [q_r E th, q_i x1, q_i x2] M (some (q_i r)) M' := by
  unfold f_X4_roomBelow at h
  refine jMet.of RX4 rfl (by decide +kernel) (Nat.le_of_ble_eq_true rfl) [(0, q_r E th), (1, q_i x1), (2, q_i x2)] rfl (fun X hC hE hr hn => ?_)
  refine jr_aload_n hC (D_X4_roomBelow.g 0 rfl) 0 rfl ?_
  refine jr_getI hC fl_X4_44 rfl (D_X4_roomBelow.g 1 rfl) h (fun v1 h => ?_)
  refine jr_aload_n hC (D_X4_roomBelow.g 2 rfl) 0 rfl ?_
  refine jr_getR hC fl_X4_9 rfl (D_X4_roomBelow.g 3 rfl) h (fun r2 h => ?_)
  refine jr_iload_n hC (D_X4_roomBelow.g 4 rfl) 1 rfl ?_
  refine jr_iald hC (D_X4_roomBelow.g 5 rfl) h (fun v3 h => ?_)
  refine jr_aload_n hC (D_X4_roomBelow.g 6 rfl) 0 rfl ?_
  refine jr_getR hC fl_X4_9 rfl (D_X4_roomBelow.g 7 rfl) h (fun r4 h => ?_)
  refine jr_iload_n hC (D_X4_roomBelow.g 8 rfl) 1 rfl ?_
  refine jr_iconst hC (D_X4_roomBelow.g 9 rfl) ?_
  refine jr_iadd hC (D_X4_roomBelow.g 10 rfl) ?_
  refine jr_iald hC (D_X4_roomBelow.g 11 rfl) h (fun v5 h => ?_)
  refine jr_ior hC (D_X4_roomBelow.g 12 rfl) ?_
  refine jr_aload_n hC (D_X4_roomBelow.g 13 rfl) 0 rfl ?_
  refine jr_getR hC fl_X4_15 rfl (D_X4_roomBelow.g 14 rfl) h (fun r6 h => ?_)
  refine jr_iload_n hC (D_X4_roomBelow.g 15 rfl) 1 rfl ?_
  refine jr_iald hC (D_X4_roomBelow.g 16 rfl) h (fun v7 h => ?_)
  refine jr_ior hC (D_X4_roomBelow.g 17 rfl) ?_
  refine jr_aload_n hC (D_X4_roomBelow.g 18 rfl) 0 rfl ?_
  refine jr_getR hC fl_X4_15 rfl (D_X4_roomBelow.g 19 rfl) h (fun r8 h => ?_)
  refine jr_iload_n hC (D_X4_roomBelow.g 20 rfl) 1 rfl ?_
  refine jr_iconst hC (D_X4_roomBelow.g 21 rfl) ?_
  refine jr_iadd hC (D_X4_roomBelow.g 22 rfl) ?_
  refine jr_iald hC (D_X4_roomBelow.g 23 rfl) h (fun v9 h => ?_)
  refine jr_ior hC (D_X4_roomBelow.g 24 rfl) ?_
  refine jr_iload_n hC (D_X4_roomBelow.g 25 rfl) 2 rfl ?_
  refine jr_ior hC (D_X4_roomBelow.g 26 rfl) ?_
  refine jr_iconst hC (D_X4_roomBelow.g 27 rfl) ?_
  refine jr_ixor hC (D_X4_roomBelow.g 28 rfl) ?_
  refine jr_iand hC (D_X4_roomBelow.g 29 rfl) ?_
  exact jr_iret hC (D_X4_roomBelow.g 30 rfl) hr hE h
def f_X4_canReach (th : Nat) (x1 : Int) (x2 : Int) (M : jMem) : Option (Int × jMem) :=
jjq (fun (z0_16 : Int) (M_16 : jMem) =>
if jd_wr (jd_and x2 (jd_xor z0_16 (-1))) = 0 then (jm_z 1 M_16)
else (jm_z 0 M_16)) fun j_16 =>
if jd_wr x1 = 0 then (j_16 0 M)
else (jcall 4 M th (f_X4_roomBelow th (x1 - 1) 0 M) fun v1 M2 =>
j_16 v1 M2)
theorem D_X4_canReach : jDs cX4_canReach [(0, .iload_n 1, 1, 1), (1, .ifCond .ne 7, 3, 4), (4, .iconst 0, 1, 5), (5, .goto 11, 3, 8), (8, .aload_n 0, 1, 9), (9, .iload_n 1, 1, 10), (10, .iconst 1, 1, 11), (11, .isub, 1, 12), (12, .iconst 0, 1, 13), (13, .invokevirtual 69, 3, 16), (16, .istore_n 3, 1, 17), (17, .iload_n 2, 1, 18), (18, .iload_n 3, 1, 19), (19, .iconst (-1), 1, 20), (20, .ixor, 1, 21), (21, .iand, 1, 22), (22, .ifCond .ne 7, 3, 25), (25, .iconst 1, 1, 26), (26, .goto 4, 3, 29), (29, .iconst 0, 1, 30), (30, .ireturn, 1, 31)] := by unfold jDs; decide +kernel
set_option maxRecDepth 100000 in
set_option maxHeartbeats 4000000 in
theorem c_X4_canReach {E : jE} {th : Nat} {x1 : Int} {x2 : Int} {M : jMem} {r : Int} {M' : jMem} (h : f_X4_canReach th x1 x2 M = some (r, M')) : jMet E yX4_canReach cX4_canReach 4 (some .boolean) 3 0 0 [q_r E th, q_i x1, q_i x2] M (some (q_i r)) M' := by
  unfold f_X4_canReach at h
  refine jMet.of RX4 rfl (by decide +kernel) (Nat.le_of_ble_eq_true rfl) [(0, q_r E th), (1, q_i x1), (2, q_i x2)] rfl (fun X hC hE hr hn => ?_)
  refine jr_iload_n hC (D_X4_canReach.g 0 rfl) 1 rfl ?_
  refine jr_join h (fun j => ∀ (z0_16 : Int) (M_16 : jMem), j z0_16 M_16 = some (r, M') → JW E X 4 0 0 M_16 16 [(2, q_i x2)] [q_i z0_16]) ?_ ?_
  · intro z0_16 M_16 h
    refine jr_istore_n hC (D_X4_canReach.g 10 rfl) (by decide) rfl ?_
    refine jr_iload_n hC (D_X4_canReach.g 11 rfl) 1 rfl ?_
    refine jr_iload_n hC (D_X4_canReach.g 12 rfl) 0 rfl ?_
    refine jr_iconst hC (D_X4_canReach.g 13 rfl) ?_
    refine jr_ixor hC (D_X4_canReach.g 14 rfl) ?_
    refine jr_iand hC (D_X4_canReach.g 15 rfl) ?_
    refine jr_if_ne hC (D_X4_canReach.g 16 rfl) 29 rfl h (fun h => ?_) (fun h => ?_)
    · refine jr_iconst hC (D_X4_canReach.g 17 rfl) ?_
      refine jr_goto hC (D_X4_canReach.g 18 rfl) 30 rfl ?_
      exact jr_zret hC (D_X4_canReach.g 20 rfl) hr hE h
    refine jr_iconst hC (D_X4_canReach.g 19 rfl) ?_
    exact jr_zret hC (D_X4_canReach.g 20 rfl) hr hE h
  intro j_16 hj_16 h
  refine jr_if_ne hC (D_X4_canReach.g 1 rfl) 8 rfl h (fun h => ?_) (fun h => ?_)
  · refine jr_iconst hC (D_X4_canReach.g 2 rfl) ?_
    refine jr_goto hC (D_X4_canReach.g 3 rfl) 16 rfl ?_
    refine jr_pick [2] rfl ?_
    exact hj_16 0 M h
  refine jr_aload_n hC (D_X4_canReach.g 4 rfl) 0 rfl ?_
  refine jr_iload_n hC (D_X4_canReach.g 5 rfl) 1 rfl ?_
  refine jr_iconst hC (D_X4_canReach.g 6 rfl) ?_
  refine jr_isub hC (D_X4_canReach.g 7 rfl) ?_
  refine jr_iconst hC (D_X4_canReach.g 8 rfl) ?_
  refine jr_cVi hC cl_X4_69 ⟨rfl, by decide⟩ (D_X4_canReach.g 9 rfl) [q_i (x1 - 1), q_i 0] h (fun r M' e => c_X4_roomBelow e) rfl rfl ⟨by decide, by decide⟩ (Nat.le_of_ble_eq_true rfl) ⟨Nat.le_of_ble_eq_true rfl, Nat.le_of_ble_eq_true rfl⟩ (fun v1 M2 h => ?_)
  refine jr_pick [2] rfl ?_
  exact hj_16 v1 M2 h
def f_X4_partAfter (x0 : Int) (x1 : Int) (M : jMem) : Option (Int × jMem) :=
if jd_wr (jd_and (x0 - x1) x1) = 0 then (some ((-1), M))
else (some ((jd_and (x0 - x1) x1), M))
theorem D_X4_partAfter : jDs cX4_partAfter [(0, .iload_n 0, 1, 1), (1, .iload_n 1, 1, 2), (2, .isub, 1, 3), (3, .iload_n 1, 1, 4), (4, .iand, 1, 5), (5, .istore_n 2, 1, 6), (6, .iload_n 2, 1, 7), (7, .ifCond .ne 7, 3, 10), (10, .iconst (-1), 1, 11), (11, .goto 4, 3, 14), (14, .iload_n 2, 1, 15), (15, .ireturn, 1, 16)] := by unfold jDs; decide +kernel
set_option maxRecDepth 100000 in
set_option maxHeartbeats 4000000 in
theorem c_X4_partAfter {E : jE} {x0 : Int} {x1 : Int} {M : jMem} {r : Int} {M' : jMem} (h : f_X4_partAfter x0 x1 M = some (r, M')) : jMet E yX4_partAfter cX4_partAfter 3 (some .int) 2 0 0 [q_i x0, q_i x1] M (some (q_i r)) M' := by
  unfold f_X4_partAfter at h
  refine jMet.of RX4 rfl (by decide +kernel) (Nat.le_of_ble_eq_true rfl) [(0, q_i x0), (1, q_i x1)] rfl (fun X hC hE hr hn => ?_)
  refine jr_iload_n hC (D_X4_partAfter.g 0 rfl) 0 rfl ?_
  refine jr_iload_n hC (D_X4_partAfter.g 1 rfl) 1 rfl ?_
  refine jr_isub hC (D_X4_partAfter.g 2 rfl) ?_
  refine jr_iload_n hC (D_X4_partAfter.g 3 rfl) 1 rfl ?_
  refine jr_iand hC (D_X4_partAfter.g 4 rfl) ?_
  refine jr_istore_n hC (D_X4_partAfter.g 5 rfl) (by decide) rfl ?_
  refine jr_iload_n hC (D_X4_partAfter.g 6 rfl) 0 rfl ?_
  refine jr_if_ne hC (D_X4_partAfter.g 7 rfl) 14 rfl h (fun h => ?_) (fun h => ?_)
  · refine jr_iconst hC (D_X4_partAfter.g 8 rfl) ?_
    refine jr_goto hC (D_X4_partAfter.g 9 rfl) 15 rfl ?_
    exact jr_iret hC (D_X4_partAfter.g 11 rfl) hr hE h
  refine jr_iload_n hC (D_X4_partAfter.g 10 rfl) 0 rfl ?_
  exact jr_iret hC (D_X4_partAfter.g 11 rfl) hr hE h
def f_X4_lonelyCells (th : Nat) (x1 : Int) (x2 : Int) (x3 : Int) (M : jMem) : Option (Int × jMem) :=
(jm_gR 4 3 M th).bind fun r1 =>
(jm_gI 4 7 M th).bind fun v2 =>
(jm_gR 4 0 M th).bind fun r3 =>
(jm_ld 20 M r3 x1).bind fun v4 =>
(jm_ld 20 M r1 (jd_and v2 (jd_xor (jd_or (jd_or v4 x2) x3) (-1)))).bind fun v5 =>
some (v5, M)
theorem D_X4_lonelyCells : jDs cX4_lonelyCells [(0, .aload_n 0, 1, 1), (1, .getfield 26, 3, 4), (4, .aload_n 0, 1, 5), (5, .getfield 44, 3, 8), (8, .aload_n 0, 1, 9), (9, .getfield 9, 3, 12), (12, .iload_n 1, 1, 13), (13, .iaload, 1, 14), (14, .iload_n 2, 1, 15), (15, .ior, 1, 16), (16, .iload_n 3, 1, 17), (17, .ior, 1, 18), (18, .iconst (-1), 1, 19), (19, .ixor, 1, 20), (20, .iand, 1, 21), (21, .iaload, 1, 22), (22, .ireturn, 1, 23)] := by unfold jDs; decide +kernel
set_option maxRecDepth 100000 in
set_option maxHeartbeats 4000000 in
theorem c_X4_lonelyCells {E : jE} {th : Nat} {x1 : Int} {x2 : Int} {x3 : Int} {M : jMem} {r : Int} {M' : jMem} (h : f_X4_lonelyCells th x1 x2 x3 M = some (r, M')) : jMet E yX4_lonelyCells cX4_lonelyCells 4 (some .int) 2 0 0 [q_r E th, q_i x1, q_i x2, q_i x3] M (some (q_i r)) M' := by
  unfold f_X4_lonelyCells at h
  refine jMet.of RX4 rfl (by decide +kernel) (Nat.le_of_ble_eq_true rfl) [(0, q_r E th), (1, q_i x1), (2, q_i x2), (3, q_i x3)] rfl (fun X hC hE hr hn => ?_)
  refine jr_aload_n hC (D_X4_lonelyCells.g 0 rfl) 0 rfl ?_
  refine jr_getR hC fl_X4_26 rfl (D_X4_lonelyCells.g 1 rfl) h (fun r1 h => ?_)
  refine jr_aload_n hC (D_X4_lonelyCells.g 2 rfl) 0 rfl ?_
  refine jr_getI hC fl_X4_44 rfl (D_X4_lonelyCells.g 3 rfl) h (fun v2 h => ?_)
  refine jr_aload_n hC (D_X4_lonelyCells.g 4 rfl) 0 rfl ?_
  refine jr_getR hC fl_X4_9 rfl (D_X4_lonelyCells.g 5 rfl) h (fun r3 h => ?_)
  refine jr_iload_n hC (D_X4_lonelyCells.g 6 rfl) 1 rfl ?_
  refine jr_iald hC (D_X4_lonelyCells.g 7 rfl) h (fun v4 h => ?_)
  refine jr_iload_n hC (D_X4_lonelyCells.g 8 rfl) 2 rfl ?_
  refine jr_ior hC (D_X4_lonelyCells.g 9 rfl) ?_
  refine jr_iload_n hC (D_X4_lonelyCells.g 10 rfl) 3 rfl ?_
  refine jr_ior hC (D_X4_lonelyCells.g 11 rfl) ?_
  refine jr_iconst hC (D_X4_lonelyCells.g 12 rfl) ?_
  refine jr_ixor hC (D_X4_lonelyCells.g 13 rfl) ?_
  refine jr_iand hC (D_X4_lonelyCells.g 14 rfl) ?_
  refine jr_iald hC (D_X4_lonelyCells.g 15 rfl) h (fun v5 h => ?_)
  exact jr_iret hC (D_X4_lonelyCells.g 16 rfl) hr hE h
def f_X4_fills (th : Nat) (x1 : Int) (x2 : Int) (x3 : Int) (M : jMem) : Option (Int × jMem) :=
(jm_gR 4 2 M th).bind fun r1 =>
(jm_ld 20 M r1 x1).bind fun v2 =>
jjq (fun (M_29 : jMem) =>
jm_z 0 M_29) fun j_29 =>
if jd_wr (jd_and v2 (jd_xor (jd_or x2 x3) (-1))) = 0 then (jcall 4 M th (f_X4_lonelyCells th x1 x2 x3 M) fun v3 M4 =>
if jd_wr v3 = 0 then (jm_z 1 M4)
else (j_29 M4))
else (j_29 M)
theorem D_X4_fills : jDs cX4_fills [(0, .aload_n 0, 1, 1), (1, .getfield 18, 3, 4), (4, .iload_n 1, 1, 5), (5, .iaload, 1, 6), (6, .iload_n 2, 1, 7), (7, .iload_n 3, 1, 8), (8, .ior, 1, 9), (9, .iconst (-1), 1, 10), (10, .ixor, 1, 11), (11, .iand, 1, 12), (12, .ifCond .ne 17, 3, 15), (15, .aload_n 0, 1, 16), (16, .iload_n 1, 1, 17), (17, .iload_n 2, 1, 18), (18, .iload_n 3, 1, 19), (19, .invokevirtual 72, 3, 22), (22, .ifCond .ne 7, 3, 25), (25, .iconst 1, 1, 26), (26, .goto 4, 3, 29), (29, .iconst 0, 1, 30), (30, .ireturn, 1, 31)] := by unfold jDs; decide +kernel
set_option maxRecDepth 100000 in
set_option maxHeartbeats 4000000 in
theorem c_X4_fills {E : jE} {th : Nat} {x1 : Int} {x2 : Int} {x3 : Int} {M : jMem} {r : Int} {M' : jMem} (h : f_X4_fills th x1 x2 x3 M = some (r, M')) : jMet E yX4_fills cX4_fills 4 (some .boolean) 3 0 0 [q_r E th, q_i x1, q_i x2, q_i x3] M (some (q_i r)) M' := by
  unfold f_X4_fills at h
  refine jMet.of RX4 rfl (by decide +kernel) (Nat.le_of_ble_eq_true rfl) [(0, q_r E th), (1, q_i x1), (2, q_i x2), (3, q_i x3)] rfl (fun X hC hE hr hn => ?_)
  refine jr_aload_n hC (D_X4_fills.g 0 rfl) 0 rfl ?_
  refine jr_getR hC fl_X4_18 rfl (D_X4_fills.g 1 rfl) h (fun r1 h => ?_)
  refine jr_iload_n hC (D_X4_fills.g 2 rfl) 1 rfl ?_
  refine jr_iald hC (D_X4_fills.g 3 rfl) h (fun v2 h => ?_)
  refine jr_iload_n hC (D_X4_fills.g 4 rfl) 2 rfl ?_
  refine jr_iload_n hC (D_X4_fills.g 5 rfl) 3 rfl ?_
  refine jr_ior hC (D_X4_fills.g 6 rfl) ?_
  refine jr_iconst hC (D_X4_fills.g 7 rfl) ?_
  refine jr_ixor hC (D_X4_fills.g 8 rfl) ?_
  refine jr_iand hC (D_X4_fills.g 9 rfl) ?_
  refine jr_join h (fun j => ∀ (M_29 : jMem), j M_29 = some (r, M') → JW E X 4 0 0 M_29 29 [] []) ?_ ?_
  · intro M_29 h
    refine jr_iconst hC (D_X4_fills.g 19 rfl) ?_
    exact jr_zret hC (D_X4_fills.g 20 rfl) hr hE h
  intro j_29 hj_29 h
  refine jr_if_ne hC (D_X4_fills.g 10 rfl) 29 rfl h (fun h => ?_) (fun h => ?_)
  · refine jr_aload_n hC (D_X4_fills.g 11 rfl) 0 rfl ?_
    refine jr_iload_n hC (D_X4_fills.g 12 rfl) 1 rfl ?_
    refine jr_iload_n hC (D_X4_fills.g 13 rfl) 2 rfl ?_
    refine jr_iload_n hC (D_X4_fills.g 14 rfl) 3 rfl ?_
    refine jr_cVi hC cl_X4_72 ⟨rfl, by decide⟩ (D_X4_fills.g 15 rfl) [q_i x1, q_i x2, q_i x3] h (fun r M' e => c_X4_lonelyCells e) rfl rfl ⟨by decide, by decide⟩ (Nat.le_of_ble_eq_true rfl) ⟨Nat.le_of_ble_eq_true rfl, Nat.le_of_ble_eq_true rfl⟩ (fun v3 M4 h => ?_)
    refine jr_if_ne hC (D_X4_fills.g 16 rfl) 29 rfl h (fun h => ?_) (fun h => ?_)
    · refine jr_iconst hC (D_X4_fills.g 17 rfl) ?_
      refine jr_goto hC (D_X4_fills.g 18 rfl) 30 rfl ?_
      exact jr_zret hC (D_X4_fills.g 20 rfl) hr hE h
    refine jr_pick [] rfl ?_
    exact hj_29 M4 h
  refine jr_pick [] rfl ?_
  exact hj_29 M h
def f_X4_waysOn (th : Nat) (x1 : Int) (x2 : Int) (M : jMem) : Option (Int × jMem) :=
jcall 4 M th (f_X4_roomBelow th x1 x2 M) fun v1 M2 =>
jlp4 (fun rec_16 (y4_16 : Int) (y5_16 : Int) (y6_16 : Int) (M_16 : jMem) =>
if jd_wr y5_16 = jd_wr (-1) then (some (y4_16, M_16))
else (if jd_wr y6_16 < jd_wr 64 then ((jm_gR 4 4 M_16 th).bind fun r3 =>
(jm_ldR 24 M_16 r3 (x1 + 1)).bind fun r4 =>
(jm_ld 20 M_16 r4 y5_16).bind fun v5 =>
jjq (fun (y4_70 : Int) (M_70 : jMem) =>
jbd (f_X4_partAfter y5_16 v1 M_70) fun v6 M7 =>
rec_16 y4_70 v6 (y6_16 + 1) M7) fun j_70 =>
if jd_wr v5 ≤ 0 then (j_70 y4_16 M_16)
else (jcall 4 M_16 th (f_X4_fills th x1 x2 y5_16 M_16) fun v8 M9 =>
if jd_wr v8 = 0 then (j_70 y4_16 M9)
else ((jm_gR 4 4 M9 th).bind fun r10 =>
(jm_ldR 24 M9 r10 (x1 + 1)).bind fun r11 =>
(jm_ld 20 M9 r11 y5_16).bind fun v12 =>
j_70 (y4_16 + v12) M9)))
else (some (y4_16, M_16)))) jfuel 0 0 0 M2
theorem D_X4_waysOn : jDs cX4_waysOn [(0, .aload_n 0, 1, 1), (1, .iload_n 1, 1, 2), (2, .iload_n 2, 1, 3), (3, .invokevirtual 69, 3, 6), (6, .istore_n 3, 1, 7), (7, .iconst 0, 1, 8), (8, .istore 4, 2, 10), (10, .iconst 0, 1, 11), (11, .istore 5, 2, 13), (13, .iconst 0, 1, 14), (14, .istore 6, 2, 16), (16, .iload 5, 2, 18), (18, .iconst (-1), 1, 19), (19, .if_icmp .eq 65, 3, 22), (22, .iload 6, 2, 24), (24, .bipush 64, 2, 26), (26, .if_icmp .ge 58, 3, 29), (29, .aload_n 0, 1, 30), (30, .getfield 23, 3, 33), (33, .iload_n 1, 1, 34), (34, .iconst 1, 1, 35), (35, .iadd, 1, 36), (36, .aaload, 1, 37), (37, .iload 5, 2, 39), (39, .iaload, 1, 40), (40, .ifCond .le 30, 3, 43), (43, .aload_n 0, 1, 44), (44, .iload_n 1, 1, 45), (45, .iload_n 2, 1, 46), (46, .iload 5, 2, 48), (48, .invokevirtual 83, 3, 51), (51, .ifCond .eq 19, 3, 54), (54, .iload 4, 2, 56), (56, .aload_n 0, 1, 57), (57, .getfield 23, 3, 60), (60, .iload_n 1, 1, 61), (61, .iconst 1, 1, 62), (62, .iadd, 1, 63), (63, .aaload, 1, 64), (64, .iload 5, 2, 66), (66, .iaload, 1, 67), (67, .iadd, 1, 68), (68, .istore 4, 2, 70), (70, .iload 5, 2, 72), (72, .iload_n 3, 1, 73), (73, .invokestatic 87, 3, 76), (76, .istore 5, 2, 78), (78, .iinc 6 1, 3, 81), (81, .goto (-65), 3, 84), (84, .iload 4, 2, 86), (86, .ireturn, 1, 87)] := by unfold jDs; decide +kernel
set_option maxRecDepth 100000 in
set_option maxHeartbeats 4000000 in
theorem c_X4_waysOn {E : jE} {th : Nat} {x1 : Int} {x2 : Int} {M : jMem} {r : Int} {M' : jMem} (h : f_X4_waysOn th x1 x2 M = some (r, M')) : jMet E yX4_waysOn cX4_waysOn 7 (some .int) 4 0 0 [q_r E th, q_i x1, q_i x2] M (some (q_i r)) M' := by
  unfold f_X4_waysOn at h
  refine jMet.of RX4 rfl (by decide +kernel) (Nat.le_of_ble_eq_true rfl) [(0, q_r E th), (1, q_i x1), (2, q_i x2)] rfl (fun X hC hE hr hn => ?_)
  refine jr_aload_n hC (D_X4_waysOn.g 0 rfl) 0 rfl ?_
  refine jr_iload_n hC (D_X4_waysOn.g 1 rfl) 1 rfl ?_
  refine jr_iload_n hC (D_X4_waysOn.g 2 rfl) 2 rfl ?_
  refine jr_cVi hC cl_X4_69 ⟨rfl, by decide⟩ (D_X4_waysOn.g 3 rfl) [q_i x1, q_i x2] h (fun r M' e => c_X4_roomBelow e) rfl rfl ⟨by decide, by decide⟩ (Nat.le_of_ble_eq_true rfl) ⟨Nat.le_of_ble_eq_true rfl, Nat.le_of_ble_eq_true rfl⟩ (fun v1 M2 h => ?_)
  refine jr_istore_n hC (D_X4_waysOn.g 4 rfl) (by decide) rfl ?_
  refine jr_iconst hC (D_X4_waysOn.g 5 rfl) ?_
  refine jr_istore hC (D_X4_waysOn.g 6 rfl) (by decide) rfl ?_
  refine jr_iconst hC (D_X4_waysOn.g 7 rfl) ?_
  refine jr_istore hC (D_X4_waysOn.g 8 rfl) (by decide) rfl ?_
  refine jr_iconst hC (D_X4_waysOn.g 9 rfl) ?_
  refine jr_istore hC (D_X4_waysOn.g 10 rfl) (by decide) rfl ?_
  refine jr_pick [4, 5, 6, 3, 2, 1, 0] rfl ?_
  refine jr_lp4 (fun (y4_16 : Int) (y5_16 : Int) (y6_16 : Int) (M_16 : jMem) => JW E X 7 0 0 M_16 16 [(0, q_r E th), (1, q_i x1), (2, q_i x2), (3, q_i v1), (4, q_i y4_16), (5, q_i y5_16), (6, q_i y6_16)] []) ?_ jfuel 0 0 0 M2 h
  intro rec_16 hrec_16 y4_16 y5_16 y6_16 M_16 h
  refine jr_iload hC (D_X4_waysOn.g 11 rfl) 5 rfl ?_
  refine jr_iconst hC (D_X4_waysOn.g 12 rfl) ?_
  refine jr_icmp_eq hC (D_X4_waysOn.g 13 rfl) 84 rfl h (fun h => ?_) (fun h => ?_)
  · refine jr_iload hC (D_X4_waysOn.g 49 rfl) 4 rfl ?_
    exact jr_iret hC (D_X4_waysOn.g 50 rfl) hr hE h
  refine jr_iload hC (D_X4_waysOn.g 14 rfl) 6 rfl ?_
  refine jr_bipush hC (D_X4_waysOn.g 15 rfl) bp_64 ?_
  refine jr_icmp_ge hC (D_X4_waysOn.g 16 rfl) 84 rfl h (fun h => ?_) (fun h => ?_)
  · refine jr_aload_n hC (D_X4_waysOn.g 17 rfl) 0 rfl ?_
    refine jr_getR hC fl_X4_23 rfl (D_X4_waysOn.g 18 rfl) h (fun r3 h => ?_)
    refine jr_iload_n hC (D_X4_waysOn.g 19 rfl) 1 rfl ?_
    refine jr_iconst hC (D_X4_waysOn.g 20 rfl) ?_
    refine jr_iadd hC (D_X4_waysOn.g 21 rfl) ?_
    refine jr_aald hC 24 4 rfl (by decide) (D_X4_waysOn.g 22 rfl) h (fun r4 h => ?_)
    refine jr_iload hC (D_X4_waysOn.g 23 rfl) 5 rfl ?_
    refine jr_iald hC (D_X4_waysOn.g 24 rfl) h (fun v5 h => ?_)
    refine jr_join h (fun j => ∀ (y4_70 : Int) (M_70 : jMem), j y4_70 M_70 = some (r, M') → JW E X 7 0 0 M_70 70 [(0, q_r E th), (1, q_i x1), (2, q_i x2), (3, q_i v1), (4, q_i y4_70), (5, q_i y5_16), (6, q_i y6_16)] []) ?_ ?_
    · intro y4_70 M_70 h
      refine jr_iload hC (D_X4_waysOn.g 43 rfl) 5 rfl ?_
      refine jr_iload_n hC (D_X4_waysOn.g 44 rfl) 3 rfl ?_
      refine jr_cSi hC cl_X4_87 (D_X4_waysOn.g 45 rfl) [q_i y5_16, q_i v1] h (fun r M' e => c_X4_partAfter e) rfl rfl ⟨by decide, by decide⟩ (Nat.le_of_ble_eq_true rfl) ⟨Nat.le_of_ble_eq_true rfl, Nat.le_of_ble_eq_true rfl⟩ (fun v6 M7 h => ?_)
      refine jr_istore hC (D_X4_waysOn.g 46 rfl) (by decide) rfl ?_
      refine jr_iinc hC (D_X4_waysOn.g 47 rfl) 6 rfl (by decide) rfl ?_
      refine jr_goto hC (D_X4_waysOn.g 48 rfl) 16 rfl ?_
      refine jr_pick [2, 3, 4, 5, 6, 1, 0] rfl ?_
      exact hrec_16 y4_70 v6 (y6_16 + 1) M7 h
    intro j_70 hj_70 h
    refine jr_if_le hC (D_X4_waysOn.g 25 rfl) 70 rfl h (fun h => ?_) (fun h => ?_)
    · exact hj_70 y4_16 M_16 h
    refine jr_aload_n hC (D_X4_waysOn.g 26 rfl) 0 rfl ?_
    refine jr_iload_n hC (D_X4_waysOn.g 27 rfl) 1 rfl ?_
    refine jr_iload_n hC (D_X4_waysOn.g 28 rfl) 2 rfl ?_
    refine jr_iload hC (D_X4_waysOn.g 29 rfl) 5 rfl ?_
    refine jr_cVi hC cl_X4_83 ⟨rfl, by decide⟩ (D_X4_waysOn.g 30 rfl) [q_i x1, q_i x2, q_i y5_16] h (fun r M' e => c_X4_fills e) rfl rfl ⟨by decide, by decide⟩ (Nat.le_of_ble_eq_true rfl) ⟨Nat.le_of_ble_eq_true rfl, Nat.le_of_ble_eq_true rfl⟩ (fun v8 M9 h => ?_)
    refine jr_if_eq hC (D_X4_waysOn.g 31 rfl) 70 rfl h (fun h => ?_) (fun h => ?_)
    · exact hj_70 y4_16 M9 h
    refine jr_iload hC (D_X4_waysOn.g 32 rfl) 4 rfl ?_
    refine jr_aload_n hC (D_X4_waysOn.g 33 rfl) 0 rfl ?_
    refine jr_getR hC fl_X4_23 rfl (D_X4_waysOn.g 34 rfl) h (fun r10 h => ?_)
    refine jr_iload_n hC (D_X4_waysOn.g 35 rfl) 1 rfl ?_
    refine jr_iconst hC (D_X4_waysOn.g 36 rfl) ?_
    refine jr_iadd hC (D_X4_waysOn.g 37 rfl) ?_
    refine jr_aald hC 24 4 rfl (by decide) (D_X4_waysOn.g 38 rfl) h (fun r11 h => ?_)
    refine jr_iload hC (D_X4_waysOn.g 39 rfl) 5 rfl ?_
    refine jr_iald hC (D_X4_waysOn.g 40 rfl) h (fun v12 h => ?_)
    refine jr_iadd hC (D_X4_waysOn.g 41 rfl) ?_
    refine jr_istore hC (D_X4_waysOn.g 42 rfl) (by decide) rfl ?_
    refine jr_pick [1, 2, 3, 4, 0, 5, 6] rfl ?_
    exact hj_70 (y4_16 + v12) M9 h
  refine jr_iload hC (D_X4_waysOn.g 49 rfl) 4 rfl ?_
  exact jr_iret hC (D_X4_waysOn.g 50 rfl) hr hE h
def f_X4_countWays (th : Nat) (M : jMem) : Option (Int × jMem) :=
jlp2 (fun rec_2 (y1_2 : Int) (M_2 : jMem) =>
(jm_gI 4 7 M_2 th).bind fun v1 =>
if jd_wr y1_2 ≤ jd_wr v1 then ((jm_gR 4 4 M_2 th).bind fun r2 =>
(jm_gI 4 6 M_2 th).bind fun v3 =>
(jm_ldR 24 M_2 r2 v3).bind fun r4 =>
jjq (fun (z0_29 : Int) =>
(jm_st 20 M_2 r4 y1_2 z0_29).bind fun M5 =>
rec_2 (y1_2 + 1) M5) fun j_29 =>
if jd_wr y1_2 = 0 then (j_29 1)
else (j_29 0))
else ((jm_gI 4 6 M_2 th).bind fun v6 =>
jlp2 (fun rec_43 (y1_43 : Int) (M_43 : jMem) =>
if jd_wr y1_43 < 0 then (some (0, M_43))
else (jlp2 (fun rec_49 (y2_49 : Int) (M_49 : jMem) =>
(jm_gI 4 7 M_49 th).bind fun v7 =>
if jd_wr y2_49 ≤ jd_wr v7 then ((jm_gR 4 4 M_49 th).bind fun r8 =>
(jm_ldR 24 M_49 r8 y1_43).bind fun r9 =>
jcall 4 M_49 th (f_X4_canReach th y1_43 y2_49 M_49) fun v10 M11 =>
jjq (fun (z0_83 : Int) (M_83 : jMem) =>
(jm_st 20 M_83 r9 y2_49 z0_83).bind fun M12 =>
rec_49 (y2_49 + 1) M12) fun j_83 =>
if jd_wr v10 = 0 then (j_83 0 M11)
else (jcall 4 M11 th (f_X4_waysOn th y1_43 y2_49 M11) fun v13 M14 =>
j_83 v13 M14))
else (rec_43 (y1_43 + (-1)) M_49)) jfuel 0 M_43)) jfuel (v6 - 1) M_2)) jfuel 0 M
theorem D_X4_countWays : jDs cX4_countWays [(0, .iconst 0, 1, 1), (1, .istore_n 1, 1, 2), (2, .iload_n 1, 1, 3), (3, .aload_n 0, 1, 4), (4, .getfield 44, 3, 7), (7, .if_icmp .gt 29, 3, 10), (10, .aload_n 0, 1, 11), (11, .getfield 23, 3, 14), (14, .aload_n 0, 1, 15), (15, .getfield 43, 3, 18), (18, .aaload, 1, 19), (19, .iload_n 1, 1, 20), (20, .iload_n 1, 1, 21), (21, .ifCond .ne 7, 3, 24), (24, .iconst 1, 1, 25), (25, .goto 4, 3, 28), (28, .iconst 0, 1, 29), (29, .iastore, 1, 30), (30, .iinc 1 1, 3, 33), (33, .goto (-31), 3, 36), (36, .aload_n 0, 1, 37), (37, .getfield 43, 3, 40), (40, .iconst 1, 1, 41), (41, .isub, 1, 42), (42, .istore_n 1, 1, 43), (43, .iload_n 1, 1, 44), (44, .ifCond .lt 52, 3, 47), (47, .iconst 0, 1, 48), (48, .istore_n 2, 1, 49), (49, .iload_n 2, 1, 50), (50, .aload_n 0, 1, 51), (51, .getfield 44, 3, 54), (54, .if_icmp .gt 36, 3, 57), (57, .aload_n 0, 1, 58), (58, .getfield 23, 3, 61), (61, .iload_n 1, 1, 62), (62, .aaload, 1, 63), (63, .iload_n 2, 1, 64), (64, .aload_n 0, 1, 65), (65, .iload_n 1, 1, 66), (66, .iload_n 2, 1, 67), (67, .invokevirtual 76, 3, 70), (70, .ifCond .eq 12, 3, 73), (73, .aload_n 0, 1, 74), (74, .iload_n 1, 1, 75), (75, .iload_n 2, 1, 76), (76, .invokevirtual 80, 3, 79), (79, .goto 4, 3, 82), (82, .iconst 0, 1, 83), (83, .iastore, 1, 84), (84, .iinc 2 1, 3, 87), (87, .goto (-38), 3, 90), (90, .iinc 1 (-1), 3, 93), (93, .goto (-50), 3, 96), (96, .return_, 1, 97)] := by unfold jDs; decide +kernel
set_option maxRecDepth 100000 in
set_option maxHeartbeats 4000000 in
theorem c_X4_countWays {E : jE} {th : Nat} {M : jMem} {r : Int} {M' : jMem} (h : f_X4_countWays th M = some (r, M')) : jMet E yX4_countWays cX4_countWays 3 (none) 5 0 0 [q_r E th] M (none) M' := by
  unfold f_X4_countWays at h
  refine jMet.of RX4 rfl (by decide +kernel) (Nat.le_of_ble_eq_true rfl) [(0, q_r E th)] rfl (fun X hC hE hr hn => ?_)
  refine jr_iconst hC (D_X4_countWays.g 0 rfl) ?_
  refine jr_istore_n hC (D_X4_countWays.g 1 rfl) (by decide) rfl ?_
  refine jr_pick [1, 0] rfl ?_
  refine jr_lp2 (fun (y1_2 : Int) (M_2 : jMem) => JW E X 3 0 0 M_2 2 [(0, q_r E th), (1, q_i y1_2)] []) ?_ jfuel 0 M h
  intro rec_2 hrec_2 y1_2 M_2 h
  refine jr_iload_n hC (D_X4_countWays.g 2 rfl) 1 rfl ?_
  refine jr_aload_n hC (D_X4_countWays.g 3 rfl) 0 rfl ?_
  refine jr_getI hC fl_X4_44 rfl (D_X4_countWays.g 4 rfl) h (fun v1 h => ?_)
  refine jr_icmp_gt hC (D_X4_countWays.g 5 rfl) 36 rfl h (fun h => ?_) (fun h => ?_)
  · refine jr_aload_n hC (D_X4_countWays.g 6 rfl) 0 rfl ?_
    refine jr_getR hC fl_X4_23 rfl (D_X4_countWays.g 7 rfl) h (fun r2 h => ?_)
    refine jr_aload_n hC (D_X4_countWays.g 8 rfl) 0 rfl ?_
    refine jr_getI hC fl_X4_43 rfl (D_X4_countWays.g 9 rfl) h (fun v3 h => ?_)
    refine jr_aald hC 24 4 rfl (by decide) (D_X4_countWays.g 10 rfl) h (fun r4 h => ?_)
    refine jr_iload_n hC (D_X4_countWays.g 11 rfl) 1 rfl ?_
    refine jr_iload_n hC (D_X4_countWays.g 12 rfl) 1 rfl ?_
    refine jr_join h (fun j => ∀ (z0_29 : Int), j z0_29 = some (r, M') → JW E X 3 0 0 M_2 29 [(0, q_r E th), (1, q_i y1_2)] [q_i z0_29, q_i y1_2, q_r E r4]) ?_ ?_
    · intro z0_29 h
      refine jr_iast hC (D_X4_countWays.g 17 rfl) h (fun M5 _ h => ?_)
      refine jr_iinc hC (D_X4_countWays.g 18 rfl) 1 rfl (by decide) rfl ?_
      refine jr_goto hC (D_X4_countWays.g 19 rfl) 2 rfl ?_
      refine jr_pick [1, 0] rfl ?_
      exact hrec_2 (y1_2 + 1) M5 h
    intro j_29 hj_29 h
    refine jr_if_ne hC (D_X4_countWays.g 13 rfl) 28 rfl h (fun h => ?_) (fun h => ?_)
    · refine jr_iconst hC (D_X4_countWays.g 14 rfl) ?_
      refine jr_goto hC (D_X4_countWays.g 15 rfl) 29 rfl ?_
      exact hj_29 1 h
    refine jr_iconst hC (D_X4_countWays.g 16 rfl) ?_
    exact hj_29 0 h
  refine jr_aload_n hC (D_X4_countWays.g 20 rfl) 0 rfl ?_
  refine jr_getI hC fl_X4_43 rfl (D_X4_countWays.g 21 rfl) h (fun v6 h => ?_)
  refine jr_iconst hC (D_X4_countWays.g 22 rfl) ?_
  refine jr_isub hC (D_X4_countWays.g 23 rfl) ?_
  refine jr_istore_n hC (D_X4_countWays.g 24 rfl) (by decide) rfl ?_
  refine jr_pick [1, 0] rfl ?_
  refine jr_lp2 (fun (y1_43 : Int) (M_43 : jMem) => JW E X 3 0 0 M_43 43 [(0, q_r E th), (1, q_i y1_43)] []) ?_ jfuel (v6 - 1) M_2 h
  intro rec_43 hrec_43 y1_43 M_43 h
  refine jr_iload_n hC (D_X4_countWays.g 25 rfl) 1 rfl ?_
  refine jr_if_lt hC (D_X4_countWays.g 26 rfl) 96 rfl h (fun h => ?_) (fun h => ?_)
  · exact jr_vret hC (D_X4_countWays.g 54 rfl) hr hE h
  refine jr_iconst hC (D_X4_countWays.g 27 rfl) ?_
  refine jr_istore_n hC (D_X4_countWays.g 28 rfl) (by decide) rfl ?_
  refine jr_pick [1, 2, 0] rfl ?_
  refine jr_lp2 (fun (y2_49 : Int) (M_49 : jMem) => JW E X 3 0 0 M_49 49 [(0, q_r E th), (1, q_i y1_43), (2, q_i y2_49)] []) ?_ jfuel 0 M_43 h
  intro rec_49 hrec_49 y2_49 M_49 h
  refine jr_iload_n hC (D_X4_countWays.g 29 rfl) 2 rfl ?_
  refine jr_aload_n hC (D_X4_countWays.g 30 rfl) 0 rfl ?_
  refine jr_getI hC fl_X4_44 rfl (D_X4_countWays.g 31 rfl) h (fun v7 h => ?_)
  refine jr_icmp_gt hC (D_X4_countWays.g 32 rfl) 90 rfl h (fun h => ?_) (fun h => ?_)
  · refine jr_aload_n hC (D_X4_countWays.g 33 rfl) 0 rfl ?_
    refine jr_getR hC fl_X4_23 rfl (D_X4_countWays.g 34 rfl) h (fun r8 h => ?_)
    refine jr_iload_n hC (D_X4_countWays.g 35 rfl) 1 rfl ?_
    refine jr_aald hC 24 4 rfl (by decide) (D_X4_countWays.g 36 rfl) h (fun r9 h => ?_)
    refine jr_iload_n hC (D_X4_countWays.g 37 rfl) 2 rfl ?_
    refine jr_aload_n hC (D_X4_countWays.g 38 rfl) 0 rfl ?_
    refine jr_iload_n hC (D_X4_countWays.g 39 rfl) 1 rfl ?_
    refine jr_iload_n hC (D_X4_countWays.g 40 rfl) 2 rfl ?_
    refine jr_cVi hC cl_X4_76 ⟨rfl, by decide⟩ (D_X4_countWays.g 41 rfl) [q_i y1_43, q_i y2_49] h (fun r M' e => c_X4_canReach e) rfl rfl ⟨by decide, by decide⟩ (Nat.le_of_ble_eq_true rfl) ⟨Nat.le_of_ble_eq_true rfl, Nat.le_of_ble_eq_true rfl⟩ (fun v10 M11 h => ?_)
    refine jr_join h (fun j => ∀ (z0_83 : Int) (M_83 : jMem), j z0_83 M_83 = some (r, M') → JW E X 3 0 0 M_83 83 [(0, q_r E th), (1, q_i y1_43), (2, q_i y2_49)] [q_i z0_83, q_i y2_49, q_r E r9]) ?_ ?_
    · intro z0_83 M_83 h
      refine jr_iast hC (D_X4_countWays.g 49 rfl) h (fun M12 _ h => ?_)
      refine jr_iinc hC (D_X4_countWays.g 50 rfl) 2 rfl (by decide) rfl ?_
      refine jr_goto hC (D_X4_countWays.g 51 rfl) 49 rfl ?_
      refine jr_pick [1, 2, 0] rfl ?_
      exact hrec_49 (y2_49 + 1) M12 h
    intro j_83 hj_83 h
    refine jr_if_eq hC (D_X4_countWays.g 42 rfl) 82 rfl h (fun h => ?_) (fun h => ?_)
    · refine jr_iconst hC (D_X4_countWays.g 48 rfl) ?_
      exact hj_83 0 M11 h
    refine jr_aload_n hC (D_X4_countWays.g 43 rfl) 0 rfl ?_
    refine jr_iload_n hC (D_X4_countWays.g 44 rfl) 1 rfl ?_
    refine jr_iload_n hC (D_X4_countWays.g 45 rfl) 2 rfl ?_
    refine jr_cVi hC cl_X4_80 ⟨rfl, by decide⟩ (D_X4_countWays.g 46 rfl) [q_i y1_43, q_i y2_49] h (fun r M' e => c_X4_waysOn e) rfl rfl ⟨by decide, by decide⟩ (Nat.le_of_ble_eq_true rfl) ⟨Nat.le_of_ble_eq_true rfl, Nat.le_of_ble_eq_true rfl⟩ (fun v13 M14 h => ?_)
    refine jr_goto hC (D_X4_countWays.g 47 rfl) 83 rfl ?_
    exact hj_83 v13 M14 h
  refine jr_iinc hC (D_X4_countWays.g 52 rfl) 1 rfl (by decide) rfl ?_
  refine jr_goto hC (D_X4_countWays.g 53 rfl) 43 rfl ?_
  refine jr_pick [1, 0] rfl ?_
  exact hrec_43 (y1_43 + (-1)) M_49 h
def f_X4_total (th : Nat) (M : jMem) : Option (Int × jMem) :=
(jm_gR 4 4 M th).bind fun r1 =>
(jm_ldR 24 M r1 0).bind fun r2 =>
(jm_ld 20 M r2 0).bind fun v3 =>
some (v3, M)
theorem D_X4_total : jDs cX4_total [(0, .aload_n 0, 1, 1), (1, .getfield 23, 3, 4), (4, .iconst 0, 1, 5), (5, .aaload, 1, 6), (6, .iconst 0, 1, 7), (7, .iaload, 1, 8), (8, .ireturn, 1, 9)] := by unfold jDs; decide +kernel
set_option maxRecDepth 100000 in
set_option maxHeartbeats 4000000 in
theorem c_X4_total {E : jE} {th : Nat} {M : jMem} {r : Int} {M' : jMem} (h : f_X4_total th M = some (r, M')) : jMet E yX4_total cX4_total 1 (some .int) 2 0 0 [q_r E th] M (some (q_i r)) M' := by
  unfold f_X4_total at h
  refine jMet.of RX4 rfl (by decide +kernel) (Nat.le_of_ble_eq_true rfl) [(0, q_r E th)] rfl (fun X hC hE hr hn => ?_)
  refine jr_aload_n hC (D_X4_total.g 0 rfl) 0 rfl ?_
  refine jr_getR hC fl_X4_23 rfl (D_X4_total.g 1 rfl) h (fun r1 h => ?_)
  refine jr_iconst hC (D_X4_total.g 2 rfl) ?_
  refine jr_aald hC 24 4 rfl (by decide) (D_X4_total.g 3 rfl) h (fun r2 h => ?_)
  refine jr_iconst hC (D_X4_total.g 4 rfl) ?_
  refine jr_iald hC (D_X4_total.g 5 rfl) h (fun v3 h => ?_)
  exact jr_iret hC (D_X4_total.g 6 rfl) hr hE h
def f_X4_lineAt (th : Nat) (x1 : Int) (a2 : Nat) (M : jMem) : Option (Int × jMem) :=
jbd (f_J7_fill_53178 a2 0 M) fun _ M2 =>
jlp3 (fun rec_10 (y3_10 : Int) (y4_10 : Int) (M_10 : jMem) =>
(jm_gI 4 6 M_10 th).bind fun v3 =>
if jd_wr y4_10 < jd_wr v3 then ((jm_ld 20 M_10 a2 y4_10).bind fun v4 =>
jcall 4 M_10 th (f_X4_roomBelow th y4_10 v4 M_10) fun v5 M6 =>
jlp4 (fun rec_37 (y3_37 : Int) (y6_37 : Int) (y7_37 : Int) (M_37 : jMem) =>
jjq (fun (M_120 : jMem) =>
rec_10 y3_37 (y4_10 + 1) M_120) fun j_120 =>
if jd_wr y6_37 = jd_wr (-1) then (j_120 M_37)
else (if jd_wr y7_37 < jd_wr 64 then ((jm_ld 20 M_37 a2 y4_10).bind fun v7 =>
jcall 4 M_37 th (f_X4_fills th y4_10 v7 y6_37 M_37) fun v8 M9 =>
jjq (fun (z0_81 : Int) =>
if jd_wr y3_37 < jd_wr z0_81 then ((jm_st 20 M9 a2 (y4_10 + 1) y6_37).bind fun M10 =>
j_120 M10)
else (jbd (f_X4_partAfter y6_37 v5 M9) fun v11 M12 =>
rec_37 (y3_37 - z0_81) v11 (y7_37 + 1) M12)) fun j_81 =>
if jd_wr v8 = 0 then (j_81 0)
else ((jm_gR 4 4 M9 th).bind fun r13 =>
(jm_ldR 24 M9 r13 (y4_10 + 1)).bind fun r14 =>
(jm_ld 20 M9 r14 y6_37).bind fun v15 =>
j_81 v15))
else (j_120 M_37))) jfuel y3_10 0 0 M6)
else (some (0, M_10))) jfuel x1 0 M2
theorem D_X4_lineAt : jDs cX4_lineAt [(0, .iload_n 1, 1, 1), (1, .istore_n 3, 1, 2), (2, .aload_n 2, 1, 3), (3, .iconst 0, 1, 4), (4, .invokestatic 90, 3, 7), (7, .iconst 0, 1, 8), (8, .istore 4, 2, 10), (10, .iload 4, 2, 12), (12, .aload_n 0, 1, 13), (13, .getfield 43, 3, 16), (16, .if_icmp .ge 110, 3, 19), (19, .aload_n 0, 1, 20), (20, .iload 4, 2, 22), (22, .aload_n 2, 1, 23), (23, .iload 4, 2, 25), (25, .iaload, 1, 26), (26, .invokevirtual 69, 3, 29), (29, .istore 5, 2, 31), (31, .iconst 0, 1, 32), (32, .istore 6, 2, 34), (34, .iconst 0, 1, 35), (35, .istore 7, 2, 37), (37, .iload 6, 2, 39), (39, .iconst (-1), 1, 40), (40, .if_icmp .eq 80, 3, 43), (43, .iload 7, 2, 45), (45, .bipush 64, 2, 47), (47, .if_icmp .ge 73, 3, 50), (50, .aload_n 0, 1, 51), (51, .iload 4, 2, 53), (53, .aload_n 2, 1, 54), (54, .iload 4, 2, 56), (56, .iaload, 1, 57), (57, .iload 6, 2, 59), (59, .invokevirtual 83, 3, 62), (62, .ifCond .eq 18, 3, 65), (65, .aload_n 0, 1, 66), (66, .getfield 23, 3, 69), (69, .iload 4, 2, 71), (71, .iconst 1, 1, 72), (72, .iadd, 1, 73), (73, .aaload, 1, 74), (74, .iload 6, 2, 76), (76, .iaload, 1, 77), (77, .goto 4, 3, 80), (80, .iconst 0, 1, 81), (81, .istore 8, 2, 83), (83, .iload_n 3, 1, 84), (84, .iload 8, 2, 86), (86, .if_icmp .ge 14, 3, 89), (89, .aload_n 2, 1, 90), (90, .iload 4, 2, 92), (92, .iconst 1, 1, 93), (93, .iadd, 1, 94), (94, .iload 6, 2, 96), (96, .iastore, 1, 97), (97, .goto 23, 3, 100), (100, .iload_n 3, 1, 101), (101, .iload 8, 2, 103), (103, .isub, 1, 104), (104, .istore_n 3, 1, 105), (105, .iload 6, 2, 107), (107, .iload 5, 2, 109), (109, .invokestatic 87, 3, 112), (112, .istore 6, 2, 114), (114, .iinc 7 1, 3, 117), (117, .goto (-80), 3, 120), (120, .iinc 4 1, 3, 123), (123, .goto (-113), 3, 126), (126, .return_, 1, 127)] := by unfold jDs; decide +kernel
set_option maxRecDepth 100000 in
set_option maxHeartbeats 4000000 in
theorem c_X4_lineAt {E : jE} {th : Nat} {x1 : Int} {a2 : Nat} {M : jMem} {r : Int} {M' : jMem} (h : f_X4_lineAt th x1 a2 M = some (r, M')) : jMet E yX4_lineAt cX4_lineAt 9 (none) 4 0 0 [q_r E th, q_i x1, q_r E a2] M (none) M' := by
  unfold f_X4_lineAt at h
  refine jMet.of RX4 rfl (by decide +kernel) (Nat.le_of_ble_eq_true rfl) [(0, q_r E th), (1, q_i x1), (2, q_r E a2)] rfl (fun X hC hE hr hn => ?_)
  refine jr_iload_n hC (D_X4_lineAt.g 0 rfl) 1 rfl ?_
  refine jr_istore_n hC (D_X4_lineAt.g 1 rfl) (by decide) rfl ?_
  refine jr_aload_n hC (D_X4_lineAt.g 2 rfl) 3 rfl ?_
  refine jr_iconst hC (D_X4_lineAt.g 3 rfl) ?_
  refine jr_cSv hC cl_X4_90 (D_X4_lineAt.g 4 rfl) [q_r E a2, q_i 0] h (fun r M' e => c_J7_fill_53178 e) rfl rfl ⟨by decide, by decide⟩ (Nat.le_of_ble_eq_true rfl) ⟨Nat.le_of_ble_eq_true rfl, Nat.le_of_ble_eq_true rfl⟩ (fun _ M2 h => ?_)
  refine jr_iconst hC (D_X4_lineAt.g 5 rfl) ?_
  refine jr_istore hC (D_X4_lineAt.g 6 rfl) (by decide) rfl ?_
  refine jr_pick [2, 4, 1, 0] rfl ?_
  refine jr_lp3 (fun (y3_10 : Int) (y4_10 : Int) (M_10 : jMem) => JW E X 9 0 0 M_10 10 [(0, q_r E th), (2, q_r E a2), (3, q_i y3_10), (4, q_i y4_10)] []) ?_ jfuel x1 0 M2 h
  intro rec_10 hrec_10 y3_10 y4_10 M_10 h
  refine jr_iload hC (D_X4_lineAt.g 7 rfl) 3 rfl ?_
  refine jr_aload_n hC (D_X4_lineAt.g 8 rfl) 0 rfl ?_
  refine jr_getI hC fl_X4_43 rfl (D_X4_lineAt.g 9 rfl) h (fun v3 h => ?_)
  refine jr_icmp_ge hC (D_X4_lineAt.g 10 rfl) 126 rfl h (fun h => ?_) (fun h => ?_)
  · refine jr_aload_n hC (D_X4_lineAt.g 11 rfl) 0 rfl ?_
    refine jr_iload hC (D_X4_lineAt.g 12 rfl) 3 rfl ?_
    refine jr_aload_n hC (D_X4_lineAt.g 13 rfl) 1 rfl ?_
    refine jr_iload hC (D_X4_lineAt.g 14 rfl) 3 rfl ?_
    refine jr_iald hC (D_X4_lineAt.g 15 rfl) h (fun v4 h => ?_)
    refine jr_cVi hC cl_X4_69 ⟨rfl, by decide⟩ (D_X4_lineAt.g 16 rfl) [q_i y4_10, q_i v4] h (fun r M' e => c_X4_roomBelow e) rfl rfl ⟨by decide, by decide⟩ (Nat.le_of_ble_eq_true rfl) ⟨Nat.le_of_ble_eq_true rfl, Nat.le_of_ble_eq_true rfl⟩ (fun v5 M6 h => ?_)
    refine jr_istore hC (D_X4_lineAt.g 17 rfl) (by decide) rfl ?_
    refine jr_iconst hC (D_X4_lineAt.g 18 rfl) ?_
    refine jr_istore hC (D_X4_lineAt.g 19 rfl) (by decide) rfl ?_
    refine jr_iconst hC (D_X4_lineAt.g 20 rfl) ?_
    refine jr_istore hC (D_X4_lineAt.g 21 rfl) (by decide) rfl ?_
    refine jr_pick [3, 4, 5, 6, 2, 1, 0] rfl ?_
    refine jr_lp4 (fun (y3_37 : Int) (y6_37 : Int) (y7_37 : Int) (M_37 : jMem) => JW E X 9 0 0 M_37 37 [(0, q_r E th), (2, q_r E a2), (3, q_i y3_37), (4, q_i y4_10), (5, q_i v5), (6, q_i y6_37), (7, q_i y7_37)] []) ?_ jfuel y3_10 0 0 M6 h
    intro rec_37 hrec_37 y3_37 y6_37 y7_37 M_37 h
    refine jr_iload hC (D_X4_lineAt.g 22 rfl) 5 rfl ?_
    refine jr_iconst hC (D_X4_lineAt.g 23 rfl) ?_
    refine jr_join h (fun j => ∀ (M_120 : jMem), j M_120 = some (r, M') → JW E X 9 0 0 M_120 120 [(0, q_r E th), (2, q_r E a2), (3, q_i y3_37), (4, q_i y4_10)] []) ?_ ?_
    · intro M_120 h
      refine jr_iinc hC (D_X4_lineAt.g 67 rfl) 3 rfl (by decide) rfl ?_
      refine jr_goto hC (D_X4_lineAt.g 68 rfl) 10 rfl ?_
      refine jr_pick [1, 2, 3, 0] rfl ?_
      exact hrec_10 y3_37 (y4_10 + 1) M_120 h
    intro j_120 hj_120 h
    refine jr_icmp_eq hC (D_X4_lineAt.g 24 rfl) 120 rfl h (fun h => ?_) (fun h => ?_)
    · refine jr_pick [0, 1, 2, 3] rfl ?_
      exact hj_120 M_37 h
    refine jr_iload hC (D_X4_lineAt.g 25 rfl) 6 rfl ?_
    refine jr_bipush hC (D_X4_lineAt.g 26 rfl) bp_64 ?_
    refine jr_icmp_ge hC (D_X4_lineAt.g 27 rfl) 120 rfl h (fun h => ?_) (fun h => ?_)
    · refine jr_aload_n hC (D_X4_lineAt.g 28 rfl) 0 rfl ?_
      refine jr_iload hC (D_X4_lineAt.g 29 rfl) 3 rfl ?_
      refine jr_aload_n hC (D_X4_lineAt.g 30 rfl) 1 rfl ?_
      refine jr_iload hC (D_X4_lineAt.g 31 rfl) 3 rfl ?_
      refine jr_iald hC (D_X4_lineAt.g 32 rfl) h (fun v7 h => ?_)
      refine jr_iload hC (D_X4_lineAt.g 33 rfl) 5 rfl ?_
      refine jr_cVi hC cl_X4_83 ⟨rfl, by decide⟩ (D_X4_lineAt.g 34 rfl) [q_i y4_10, q_i v7, q_i y6_37] h (fun r M' e => c_X4_fills e) rfl rfl ⟨by decide, by decide⟩ (Nat.le_of_ble_eq_true rfl) ⟨Nat.le_of_ble_eq_true rfl, Nat.le_of_ble_eq_true rfl⟩ (fun v8 M9 h => ?_)
      refine jr_join h (fun j => ∀ (z0_81 : Int), j z0_81 = some (r, M') → JW E X 9 0 0 M9 81 [(0, q_r E th), (2, q_r E a2), (3, q_i y3_37), (4, q_i y4_10), (5, q_i v5), (6, q_i y6_37), (7, q_i y7_37)] [q_i z0_81]) ?_ ?_
      · intro z0_81 h
        refine jr_istore hC (D_X4_lineAt.g 46 rfl) (by decide) rfl ?_
        refine jr_iload_n hC (D_X4_lineAt.g 47 rfl) 3 rfl ?_
        refine jr_iload hC (D_X4_lineAt.g 48 rfl) 0 rfl ?_
        refine jr_icmp_ge hC (D_X4_lineAt.g 49 rfl) 100 rfl h (fun h => ?_) (fun h => ?_)
        · refine jr_aload_n hC (D_X4_lineAt.g 50 rfl) 2 rfl ?_
          refine jr_iload hC (D_X4_lineAt.g 51 rfl) 4 rfl ?_
          refine jr_iconst hC (D_X4_lineAt.g 52 rfl) ?_
          refine jr_iadd hC (D_X4_lineAt.g 53 rfl) ?_
          refine jr_iload hC (D_X4_lineAt.g 54 rfl) 6 rfl ?_
          refine jr_iast hC (D_X4_lineAt.g 55 rfl) h (fun M10 _ h => ?_)
          refine jr_goto hC (D_X4_lineAt.g 56 rfl) 120 rfl ?_
          refine jr_pick [1, 2, 3, 4] rfl ?_
          exact hj_120 M10 h
        refine jr_iload_n hC (D_X4_lineAt.g 57 rfl) 3 rfl ?_
        refine jr_iload hC (D_X4_lineAt.g 58 rfl) 0 rfl ?_
        refine jr_isub hC (D_X4_lineAt.g 59 rfl) ?_
        refine jr_istore_n hC (D_X4_lineAt.g 60 rfl) (by decide) rfl ?_
        refine jr_iload hC (D_X4_lineAt.g 61 rfl) 6 rfl ?_
        refine jr_iload hC (D_X4_lineAt.g 62 rfl) 5 rfl ?_
        refine jr_cSi hC cl_X4_87 (D_X4_lineAt.g 63 rfl) [q_i y6_37, q_i v5] h (fun r M' e => c_X4_partAfter e) rfl rfl ⟨by decide, by decide⟩ (Nat.le_of_ble_eq_true rfl) ⟨Nat.le_of_ble_eq_true rfl, Nat.le_of_ble_eq_true rfl⟩ (fun v11 M12 h => ?_)
        refine jr_istore hC (D_X4_lineAt.g 64 rfl) (by decide) rfl ?_
        refine jr_iinc hC (D_X4_lineAt.g 65 rfl) 7 rfl (by decide) rfl ?_
        refine jr_goto hC (D_X4_lineAt.g 66 rfl) 37 rfl ?_
        refine jr_pick [4, 5, 2, 6, 7, 1, 0] rfl ?_
        exact hrec_37 (y3_37 - z0_81) v11 (y7_37 + 1) M12 h
      intro j_81 hj_81 h
      refine jr_if_eq hC (D_X4_lineAt.g 35 rfl) 80 rfl h (fun h => ?_) (fun h => ?_)
      · refine jr_iconst hC (D_X4_lineAt.g 45 rfl) ?_
        exact hj_81 0 h
      refine jr_aload_n hC (D_X4_lineAt.g 36 rfl) 0 rfl ?_
      refine jr_getR hC fl_X4_23 rfl (D_X4_lineAt.g 37 rfl) h (fun r13 h => ?_)
      refine jr_iload hC (D_X4_lineAt.g 38 rfl) 3 rfl ?_
      refine jr_iconst hC (D_X4_lineAt.g 39 rfl) ?_
      refine jr_iadd hC (D_X4_lineAt.g 40 rfl) ?_
      refine jr_aald hC 24 4 rfl (by decide) (D_X4_lineAt.g 41 rfl) h (fun r14 h => ?_)
      refine jr_iload hC (D_X4_lineAt.g 42 rfl) 5 rfl ?_
      refine jr_iald hC (D_X4_lineAt.g 43 rfl) h (fun v15 h => ?_)
      refine jr_goto hC (D_X4_lineAt.g 44 rfl) 81 rfl ?_
      exact hj_81 v15 h
    refine jr_pick [0, 1, 2, 3] rfl ?_
    exact hj_120 M_37 h
  exact jr_vret hC (D_X4_lineAt.g 69 rfl) hr hE h
def f_X4_numberOf (th : Nat) (a1 : Nat) (M : jMem) : Option (Int × jMem) :=
jlp3 (fun rec_4 (y2_4 : Int) (y3_4 : Int) (M_4 : jMem) =>
(jm_gI 4 6 M_4 th).bind fun v1 =>
if jd_wr y3_4 < jd_wr v1 then ((jm_ld 20 M_4 a1 y3_4).bind fun v2 =>
jcall 4 M_4 th (f_X4_roomBelow th y3_4 v2 M_4) fun v3 M4 =>
jlp4 (fun rec_28 (y2_28 : Int) (y5_28 : Int) (y6_28 : Int) (M_28 : jMem) =>
jjq (rec_4 y2_28 (y3_4 + 1) M_28) fun j_93 =>
if jd_wr y5_28 = jd_wr (-1) then (j_93 )
else ((jm_ld 20 M_28 a1 (y3_4 + 1)).bind fun v5 =>
if jd_wr y5_28 < jd_wr v5 then (if jd_wr y6_28 < jd_wr 64 then ((jm_ld 20 M_28 a1 y3_4).bind fun v6 =>
jcall 4 M_28 th (f_X4_fills th y3_4 v6 y5_28 M_28) fun v7 M8 =>
jjq (fun (y2_78 : Int) =>
jbd (f_X4_partAfter y5_28 v3 M8) fun v9 M10 =>
rec_28 y2_78 v9 (y6_28 + 1) M10) fun j_78 =>
if jd_wr v7 = 0 then (j_78 y2_28)
else ((jm_gR 4 4 M8 th).bind fun r11 =>
(jm_ldR 24 M8 r11 (y3_4 + 1)).bind fun r12 =>
(jm_ld 20 M8 r12 y5_28).bind fun v13 =>
j_78 (y2_28 + v13)))
else (j_93 ))
else (j_93 ))) jfuel y2_4 0 0 M4)
else (some (y2_4, M_4))) jfuel 0 0 M
theorem D_X4_numberOf : jDs cX4_numberOf [(0, .iconst 0, 1, 1), (1, .istore_n 2, 1, 2), (2, .iconst 0, 1, 3), (3, .istore_n 3, 1, 4), (4, .iload_n 3, 1, 5), (5, .aload_n 0, 1, 6), (6, .getfield 43, 3, 9), (9, .if_icmp .ge 90, 3, 12), (12, .aload_n 0, 1, 13), (13, .iload_n 3, 1, 14), (14, .aload_n 1, 1, 15), (15, .iload_n 3, 1, 16), (16, .iaload, 1, 17), (17, .invokevirtual 69, 3, 20), (20, .istore 4, 2, 22), (22, .iconst 0, 1, 23), (23, .istore 5, 2, 25), (25, .iconst 0, 1, 26), (26, .istore 6, 2, 28), (28, .iload 5, 2, 30), (30, .iconst (-1), 1, 31), (31, .if_icmp .eq 62, 3, 34), (34, .iload 5, 2, 36), (36, .aload_n 1, 1, 37), (37, .iload_n 3, 1, 38), (38, .iconst 1, 1, 39), (39, .iadd, 1, 40), (40, .iaload, 1, 41), (41, .if_icmp .ge 52, 3, 44), (44, .iload 6, 2, 46), (46, .bipush 64, 2, 48), (48, .if_icmp .ge 45, 3, 51), (51, .aload_n 0, 1, 52), (52, .iload_n 3, 1, 53), (53, .aload_n 1, 1, 54), (54, .iload_n 3, 1, 55), (55, .iaload, 1, 56), (56, .iload 5, 2, 58), (58, .invokevirtual 83, 3, 61), (61, .ifCond .eq 17, 3, 64), (64, .iload_n 2, 1, 65), (65, .aload_n 0, 1, 66), (66, .getfield 23, 3, 69), (69, .iload_n 3, 1, 70), (70, .iconst 1, 1, 71), (71, .iadd, 1, 72), (72, .aaload, 1, 73), (73, .iload 5, 2, 75), (75, .iaload, 1, 76), (76, .iadd, 1, 77), (77, .istore_n 2, 1, 78), (78, .iload 5, 2, 80), (80, .iload 4, 2, 82), (82, .invokestatic 87, 3, 85), (85, .istore 5, 2, 87), (87, .iinc 6 1, 3, 90), (90, .goto (-62), 3, 93), (93, .iinc 3 1, 3, 96), (96, .goto (-92), 3, 99), (99, .iload_n 2, 1, 100), (100, .ireturn, 1, 101)] := by unfold jDs; decide +kernel
set_option maxRecDepth 100000 in
set_option maxHeartbeats 4000000 in
theorem c_X4_numberOf {E : jE} {th : Nat} {a1 : Nat} {M : jMem} {r : Int} {M' : jMem} (h : f_X4_numberOf th a1 M = some (r, M')) : jMet E yX4_numberOf cX4_numberOf 7 (some .int) 4 0 0 [q_r E th, q_r E a1] M (some (q_i r)) M' := by
  unfold f_X4_numberOf at h
  refine jMet.of RX4 rfl (by decide +kernel) (Nat.le_of_ble_eq_true rfl) [(0, q_r E th), (1, q_r E a1)] rfl (fun X hC hE hr hn => ?_)
  refine jr_iconst hC (D_X4_numberOf.g 0 rfl) ?_
  refine jr_istore_n hC (D_X4_numberOf.g 1 rfl) (by decide) rfl ?_
  refine jr_iconst hC (D_X4_numberOf.g 2 rfl) ?_
  refine jr_istore_n hC (D_X4_numberOf.g 3 rfl) (by decide) rfl ?_
  refine jr_pick [2, 3, 1, 0] rfl ?_
  refine jr_lp3 (fun (y2_4 : Int) (y3_4 : Int) (M_4 : jMem) => JW E X 7 0 0 M_4 4 [(0, q_r E th), (1, q_r E a1), (2, q_i y2_4), (3, q_i y3_4)] []) ?_ jfuel 0 0 M h
  intro rec_4 hrec_4 y2_4 y3_4 M_4 h
  refine jr_iload_n hC (D_X4_numberOf.g 4 rfl) 3 rfl ?_
  refine jr_aload_n hC (D_X4_numberOf.g 5 rfl) 0 rfl ?_
  refine jr_getI hC fl_X4_43 rfl (D_X4_numberOf.g 6 rfl) h (fun v1 h => ?_)
  refine jr_icmp_ge hC (D_X4_numberOf.g 7 rfl) 99 rfl h (fun h => ?_) (fun h => ?_)
  · refine jr_aload_n hC (D_X4_numberOf.g 8 rfl) 0 rfl ?_
    refine jr_iload_n hC (D_X4_numberOf.g 9 rfl) 3 rfl ?_
    refine jr_aload_n hC (D_X4_numberOf.g 10 rfl) 1 rfl ?_
    refine jr_iload_n hC (D_X4_numberOf.g 11 rfl) 3 rfl ?_
    refine jr_iald hC (D_X4_numberOf.g 12 rfl) h (fun v2 h => ?_)
    refine jr_cVi hC cl_X4_69 ⟨rfl, by decide⟩ (D_X4_numberOf.g 13 rfl) [q_i y3_4, q_i v2] h (fun r M' e => c_X4_roomBelow e) rfl rfl ⟨by decide, by decide⟩ (Nat.le_of_ble_eq_true rfl) ⟨Nat.le_of_ble_eq_true rfl, Nat.le_of_ble_eq_true rfl⟩ (fun v3 M4 h => ?_)
    refine jr_istore hC (D_X4_numberOf.g 14 rfl) (by decide) rfl ?_
    refine jr_iconst hC (D_X4_numberOf.g 15 rfl) ?_
    refine jr_istore hC (D_X4_numberOf.g 16 rfl) (by decide) rfl ?_
    refine jr_iconst hC (D_X4_numberOf.g 17 rfl) ?_
    refine jr_istore hC (D_X4_numberOf.g 18 rfl) (by decide) rfl ?_
    refine jr_pick [3, 4, 5, 6, 2, 1, 0] rfl ?_
    refine jr_lp4 (fun (y2_28 : Int) (y5_28 : Int) (y6_28 : Int) (M_28 : jMem) => JW E X 7 0 0 M_28 28 [(0, q_r E th), (1, q_r E a1), (2, q_i y2_28), (3, q_i y3_4), (4, q_i v3), (5, q_i y5_28), (6, q_i y6_28)] []) ?_ jfuel y2_4 0 0 M4 h
    intro rec_28 hrec_28 y2_28 y5_28 y6_28 M_28 h
    refine jr_iload hC (D_X4_numberOf.g 19 rfl) 5 rfl ?_
    refine jr_iconst hC (D_X4_numberOf.g 20 rfl) ?_
    refine jr_join h (fun j => j = some (r, M') → JW E X 7 0 0 M_28 93 [(0, q_r E th), (1, q_r E a1), (2, q_i y2_28), (3, q_i y3_4)] []) ?_ ?_
    · intro  h
      refine jr_iinc hC (D_X4_numberOf.g 57 rfl) 3 rfl (by decide) rfl ?_
      refine jr_goto hC (D_X4_numberOf.g 58 rfl) 4 rfl ?_
      refine jr_pick [1, 2, 3, 0] rfl ?_
      exact hrec_4 y2_28 (y3_4 + 1) M_28 h
    intro j_93 hj_93 h
    refine jr_icmp_eq hC (D_X4_numberOf.g 21 rfl) 93 rfl h (fun h => ?_) (fun h => ?_)
    · refine jr_pick [0, 1, 2, 3] rfl ?_
      exact hj_93  h
    refine jr_iload hC (D_X4_numberOf.g 22 rfl) 5 rfl ?_
    refine jr_aload_n hC (D_X4_numberOf.g 23 rfl) 1 rfl ?_
    refine jr_iload_n hC (D_X4_numberOf.g 24 rfl) 3 rfl ?_
    refine jr_iconst hC (D_X4_numberOf.g 25 rfl) ?_
    refine jr_iadd hC (D_X4_numberOf.g 26 rfl) ?_
    refine jr_iald hC (D_X4_numberOf.g 27 rfl) h (fun v5 h => ?_)
    refine jr_icmp_ge hC (D_X4_numberOf.g 28 rfl) 93 rfl h (fun h => ?_) (fun h => ?_)
    · refine jr_iload hC (D_X4_numberOf.g 29 rfl) 6 rfl ?_
      refine jr_bipush hC (D_X4_numberOf.g 30 rfl) bp_64 ?_
      refine jr_icmp_ge hC (D_X4_numberOf.g 31 rfl) 93 rfl h (fun h => ?_) (fun h => ?_)
      · refine jr_aload_n hC (D_X4_numberOf.g 32 rfl) 0 rfl ?_
        refine jr_iload_n hC (D_X4_numberOf.g 33 rfl) 3 rfl ?_
        refine jr_aload_n hC (D_X4_numberOf.g 34 rfl) 1 rfl ?_
        refine jr_iload_n hC (D_X4_numberOf.g 35 rfl) 3 rfl ?_
        refine jr_iald hC (D_X4_numberOf.g 36 rfl) h (fun v6 h => ?_)
        refine jr_iload hC (D_X4_numberOf.g 37 rfl) 5 rfl ?_
        refine jr_cVi hC cl_X4_83 ⟨rfl, by decide⟩ (D_X4_numberOf.g 38 rfl) [q_i y3_4, q_i v6, q_i y5_28] h (fun r M' e => c_X4_fills e) rfl rfl ⟨by decide, by decide⟩ (Nat.le_of_ble_eq_true rfl) ⟨Nat.le_of_ble_eq_true rfl, Nat.le_of_ble_eq_true rfl⟩ (fun v7 M8 h => ?_)
        refine jr_join h (fun j => ∀ (y2_78 : Int), j y2_78 = some (r, M') → JW E X 7 0 0 M8 78 [(0, q_r E th), (1, q_r E a1), (2, q_i y2_78), (3, q_i y3_4), (4, q_i v3), (5, q_i y5_28), (6, q_i y6_28)] []) ?_ ?_
        · intro y2_78 h
          refine jr_iload hC (D_X4_numberOf.g 51 rfl) 5 rfl ?_
          refine jr_iload hC (D_X4_numberOf.g 52 rfl) 4 rfl ?_
          refine jr_cSi hC cl_X4_87 (D_X4_numberOf.g 53 rfl) [q_i y5_28, q_i v3] h (fun r M' e => c_X4_partAfter e) rfl rfl ⟨by decide, by decide⟩ (Nat.le_of_ble_eq_true rfl) ⟨Nat.le_of_ble_eq_true rfl, Nat.le_of_ble_eq_true rfl⟩ (fun v9 M10 h => ?_)
          refine jr_istore hC (D_X4_numberOf.g 54 rfl) (by decide) rfl ?_
          refine jr_iinc hC (D_X4_numberOf.g 55 rfl) 6 rfl (by decide) rfl ?_
          refine jr_goto hC (D_X4_numberOf.g 56 rfl) 28 rfl ?_
          refine jr_pick [2, 3, 4, 5, 6, 1, 0] rfl ?_
          exact hrec_28 y2_78 v9 (y6_28 + 1) M10 h
        intro j_78 hj_78 h
        refine jr_if_eq hC (D_X4_numberOf.g 39 rfl) 78 rfl h (fun h => ?_) (fun h => ?_)
        · exact hj_78 y2_28 h
        refine jr_iload_n hC (D_X4_numberOf.g 40 rfl) 2 rfl ?_
        refine jr_aload_n hC (D_X4_numberOf.g 41 rfl) 0 rfl ?_
        refine jr_getR hC fl_X4_23 rfl (D_X4_numberOf.g 42 rfl) h (fun r11 h => ?_)
        refine jr_iload_n hC (D_X4_numberOf.g 43 rfl) 3 rfl ?_
        refine jr_iconst hC (D_X4_numberOf.g 44 rfl) ?_
        refine jr_iadd hC (D_X4_numberOf.g 45 rfl) ?_
        refine jr_aald hC 24 4 rfl (by decide) (D_X4_numberOf.g 46 rfl) h (fun r12 h => ?_)
        refine jr_iload hC (D_X4_numberOf.g 47 rfl) 5 rfl ?_
        refine jr_iald hC (D_X4_numberOf.g 48 rfl) h (fun v13 h => ?_)
        refine jr_iadd hC (D_X4_numberOf.g 49 rfl) ?_
        refine jr_istore_n hC (D_X4_numberOf.g 50 rfl) (by decide) rfl ?_
        refine jr_pick [1, 2, 0, 3, 4, 5, 6] rfl ?_
        exact hj_78 (y2_28 + v13) h
      refine jr_pick [0, 1, 2, 3] rfl ?_
      exact hj_93  h
    refine jr_pick [0, 1, 2, 3] rfl ?_
    exact hj_93  h
  refine jr_iload_n hC (D_X4_numberOf.g 59 rfl) 2 rfl ?_
  exact jr_iret hC (D_X4_numberOf.g 60 rfl) hr hE h
