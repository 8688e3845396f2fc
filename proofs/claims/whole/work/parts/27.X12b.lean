/-! ===== 27.X12b: by program ===== -/
def f_X12_takes (th : Nat) (x1 : Int) (x2 : Int) (M : jMem) : Option (Int × jMem) :=
(jm_gR 12 20 M th).bind fun r1 =>
(jm_gI 12 19 M th).bind fun v2 =>
(jm_ld 20 M r1 v2).bind fun v3 =>
if jd_wr x1 < jd_wr v3 then ((jm_gR 12 21 M th).bind fun r4 =>
(jm_gI 12 19 M th).bind fun v5 =>
(jm_ld 20 M r4 v5).bind fun v6 =>
if jd_wr x2 < jd_wr v6 then ((jm_gR 12 41 M th).bind fun r7 =>
(jm_ld 22 M r7 ((6 * x2) + x1)).bind fun v8 =>
if jd_wr v8 = 0 then ((jm_gR 12 41 M th).bind fun r9 =>
(jm_st 22 M r9 ((6 * x2) + x1) (jd_z 1)).bind fun M10 =>
jm_z 1 M10)
else (jm_z 0 M))
else (jm_z 0 M))
else (jm_z 0 M)
theorem D_X12_takes : jDs cX12_takes [(0, .iload_n 1, 1, 1), (1, .aload_n 0, 1, 2), (2, .getfield 40, 3, 5), (5, .aload_n 0, 1, 6), (6, .getfield 248, 3, 9), (9, .iaload, 1, 10), (10, .if_icmp .ge 30, 3, 13), (13, .iload_n 2, 1, 14), (14, .aload_n 0, 1, 15), (15, .getfield 43, 3, 18), (18, .aload_n 0, 1, 19), (19, .getfield 248, 3, 22), (22, .iaload, 1, 23), (23, .if_icmp .ge 17, 3, 26), (26, .aload_n 0, 1, 27), (27, .getfield 98, 3, 30), (30, .bipush 6, 2, 32), (32, .iload_n 2, 1, 33), (33, .imul, 1, 34), (34, .iload_n 1, 1, 35), (35, .iadd, 1, 36), (36, .baload, 1, 37), (37, .ifCond .eq 5, 3, 40), (40, .iconst 0, 1, 41), (41, .ireturn, 1, 42), (42, .aload_n 0, 1, 43), (43, .getfield 98, 3, 46), (46, .bipush 6, 2, 48), (48, .iload_n 2, 1, 49), (49, .imul, 1, 50), (50, .iload_n 1, 1, 51), (51, .iadd, 1, 52), (52, .iconst 1, 1, 53), (53, .bastore, 1, 54), (54, .iconst 1, 1, 55), (55, .ireturn, 1, 56)] := by unfold jDs; decide +kernel
set_option maxRecDepth 100000 in
set_option maxHeartbeats 4000000 in
theorem c_X12_takes {E : jE} {th : Nat} {x1 : Int} {x2 : Int} {M : jMem} {r : Int} {M' : jMem} (h : f_X12_takes th x1 x2 M = some (r, M')) : jMet E yX12_takes cX12_takes 3 (some .boolean) 2 0 0 [q_r E th, q_i x1, q_i x2] M (some (q_i r)) M' := by
  unfold f_X12_takes at h
  refine jMet.of RX12 rfl (by decide +kernel) (Nat.le_of_ble_eq_true rfl) [(0, q_r E th), (1, q_i x1), (2, q_i x2)] rfl (fun X hC hE hr hn => ?_)
  refine jr_iload_n hC (D_X12_takes.g 0 rfl) 1 rfl ?_
  refine jr_aload_n hC (D_X12_takes.g 1 rfl) 0 rfl ?_
  refine jr_getR hC fl_X12_40 rfl (D_X12_takes.g 2 rfl) h (fun r1 h => ?_)
  refine jr_aload_n hC (D_X12_takes.g 3 rfl) 0 rfl ?_
  refine jr_getI hC fl_X12_248 rfl (D_X12_takes.g 4 rfl) h (fun v2 h => ?_)
  refine jr_iald hC (D_X12_takes.g 5 rfl) h (fun v3 h => ?_)
  refine jr_icmp_ge hC (D_X12_takes.g 6 rfl) 40 rfl h (fun h => ?_) (fun h => ?_)
  · refine jr_iload_n hC (D_X12_takes.g 7 rfl) 2 rfl ?_
    refine jr_aload_n hC (D_X12_takes.g 8 rfl) 0 rfl ?_
    refine jr_getR hC fl_X12_43 rfl (D_X12_takes.g 9 rfl) h (fun r4 h => ?_)
    refine jr_aload_n hC (D_X12_takes.g 10 rfl) 0 rfl ?_
    refine jr_getI hC fl_X12_248 rfl (D_X12_takes.g 11 rfl) h (fun v5 h => ?_)
    refine jr_iald hC (D_X12_takes.g 12 rfl) h (fun v6 h => ?_)
    refine jr_icmp_ge hC (D_X12_takes.g 13 rfl) 40 rfl h (fun h => ?_) (fun h => ?_)
    · refine jr_aload_n hC (D_X12_takes.g 14 rfl) 0 rfl ?_
      refine jr_getR hC fl_X12_98 rfl (D_X12_takes.g 15 rfl) h (fun r7 h => ?_)
      refine jr_bipush hC (D_X12_takes.g 16 rfl) bp_6 ?_
      refine jr_iload_n hC (D_X12_takes.g 17 rfl) 2 rfl ?_
      refine jr_imul hC (D_X12_takes.g 18 rfl) ?_
      refine jr_iload_n hC (D_X12_takes.g 19 rfl) 1 rfl ?_
      refine jr_iadd hC (D_X12_takes.g 20 rfl) ?_
      refine jr_zald hC (D_X12_takes.g 21 rfl) h (fun v8 h => ?_)
      refine jr_if_eq hC (D_X12_takes.g 22 rfl) 42 rfl h (fun h => ?_) (fun h => ?_)
      · refine jr_aload_n hC (D_X12_takes.g 25 rfl) 0 rfl ?_
        refine jr_getR hC fl_X12_98 rfl (D_X12_takes.g 26 rfl) h (fun r9 h => ?_)
        refine jr_bipush hC (D_X12_takes.g 27 rfl) bp_6 ?_
        refine jr_iload_n hC (D_X12_takes.g 28 rfl) 2 rfl ?_
        refine jr_imul hC (D_X12_takes.g 29 rfl) ?_
        refine jr_iload_n hC (D_X12_takes.g 30 rfl) 1 rfl ?_
        refine jr_iadd hC (D_X12_takes.g 31 rfl) ?_
        refine jr_iconst hC (D_X12_takes.g 32 rfl) ?_
        refine jr_zast hC (D_X12_takes.g 33 rfl) h (fun M10 _ h => ?_)
        refine jr_iconst hC (D_X12_takes.g 34 rfl) ?_
        exact jr_zret hC (D_X12_takes.g 35 rfl) hr hE h
      refine jr_iconst hC (D_X12_takes.g 23 rfl) ?_
      exact jr_zret hC (D_X12_takes.g 24 rfl) hr hE h
    refine jr_iconst hC (D_X12_takes.g 23 rfl) ?_
    exact jr_zret hC (D_X12_takes.g 24 rfl) hr hE h
  refine jr_iconst hC (D_X12_takes.g 23 rfl) ?_
  exact jr_zret hC (D_X12_takes.g 24 rfl) hr hE h
def f_X12_isSquare (th : Nat) (M : jMem) : Option (Int × jMem) :=
jlp2 (fun rec_2 (y1_2 : Int) (M_2 : jMem) =>
if jd_wr y1_2 < jd_wr 36 then ((jm_gR 12 41 M_2 th).bind fun r1 =>
(jm_st 22 M_2 r1 y1_2 (jd_z 0)).bind fun M2 =>
rec_2 (y1_2 + 1) M2)
else ((jm_gI 12 19 M_2 th).bind fun v3 =>
jlp2 (fun rec_29 (y1_29 : Int) (M_29 : jMem) =>
(jm_gI 12 19 M_29 th).bind fun v4 =>
(jm_gR 12 22 M_29 th).bind fun r5 =>
(jm_gI 12 19 M_29 th).bind fun v6 =>
(jm_ld 20 M_29 r5 v6).bind fun v7 =>
if jd_wr y1_29 < jd_wr ((12 * v4) + v7) then ((jm_gR 12 23 M_29 th).bind fun r8 =>
(jm_ld 20 M_29 r8 y1_29).bind fun v9 =>
(jm_gR 12 24 M_29 th).bind fun r10 =>
(jm_ld 20 M_29 r10 y1_29).bind fun v11 =>
jcall 12 M_29 th (f_X12_takes th v9 v11 M_29) fun v12 M13 =>
if jd_wr v12 = 0 then (jm_z 0 M13)
else (rec_29 (y1_29 + 1) M13))
else ((jm_gI 12 19 M_29 th).bind fun v14 =>
jlp2 (fun rec_85 (y1_85 : Int) (M_85 : jMem) =>
(jm_gI 12 19 M_85 th).bind fun v15 =>
(jm_gR 12 25 M_85 th).bind fun r16 =>
(jm_gI 12 19 M_85 th).bind fun v17 =>
(jm_ld 20 M_85 r16 v17).bind fun v18 =>
if jd_wr y1_85 < jd_wr ((18 * v15) + v18) then ((jm_gR 12 28 M_85 th).bind fun r19 =>
(jm_ld 20 M_85 r19 y1_85).bind fun v20 =>
(jm_gR 12 26 M_85 th).bind fun r21 =>
(jm_ld 20 M_85 r21 y1_85).bind fun v22 =>
(jm_gR 12 27 M_85 th).bind fun r23 =>
(jm_ld 20 M_85 r23 y1_85).bind fun v24 =>
jcall 12 M_85 th (f_X12_takes th v22 v24 M_85) fun v25 M26 =>
if jd_wr v25 = 0 then (jm_z 0 M26)
else ((jm_gR 12 26 M26 th).bind fun r27 =>
(jm_ld 20 M26 r27 y1_85).bind fun v28 =>
(jm_gR 12 27 M26 th).bind fun r29 =>
(jm_ld 20 M26 r29 y1_85).bind fun v30 =>
jcall 12 M26 th (f_X12_takes th ((v28 + 1) - v20) (v30 + v20) M26) fun v31 M32 =>
if jd_wr v31 = 0 then (jm_z 0 M32)
else (rec_85 (y1_85 + 1) M32)))
else (jm_z 1 M_85)) jfuel (18 * v14) M_29)) jfuel (12 * v3) M_2)) jfuel 0 M
theorem D_X12_isSquare : jDs cX12_isSquare [(0, .iconst 0, 1, 1), (1, .istore_n 1, 1, 2), (2, .iload_n 1, 1, 3), (3, .bipush 36, 2, 5), (5, .if_icmp .ge 16, 3, 8), (8, .aload_n 0, 1, 9), (9, .getfield 98, 3, 12), (12, .iload_n 1, 1, 13), (13, .iconst 0, 1, 14), (14, .bastore, 1, 15), (15, .iinc 1 1, 3, 18), (18, .goto (-16), 3, 21), (21, .bipush 12, 2, 23), (23, .aload_n 0, 1, 24), (24, .getfield 248, 3, 27), (27, .imul, 1, 28), (28, .istore_n 1, 1, 29), (29, .iload_n 1, 1, 30), (30, .bipush 12, 2, 32), (32, .aload_n 0, 1, 33), (33, .getfield 248, 3, 36), (36, .imul, 1, 37), (37, .aload_n 0, 1, 38), (38, .getfield 46, 3, 41), (41, .aload_n 0, 1, 42), (42, .getfield 248, 3, 45), (45, .iaload, 1, 46), (46, .iadd, 1, 47), (47, .if_icmp .ge 30, 3, 50), (50, .aload_n 0, 1, 51), (51, .aload_n 0, 1, 52), (52, .getfield 49, 3, 55), (55, .iload_n 1, 1, 56), (56, .iaload, 1, 57), (57, .aload_n 0, 1, 58), (58, .getfield 52, 3, 61), (61, .iload_n 1, 1, 62), (62, .iaload, 1, 63), (63, .invokevirtual 274, 3, 66), (66, .ifCond .ne 5, 3, 69), (69, .iconst 0, 1, 70), (70, .ireturn, 1, 71), (71, .iinc 1 1, 3, 74), (74, .goto (-45), 3, 77), (77, .bipush 18, 2, 79), (79, .aload_n 0, 1, 80), (80, .getfield 248, 3, 83), (83, .imul, 1, 84), (84, .istore_n 1, 1, 85), (85, .iload_n 1, 1, 86), (86, .bipush 18, 2, 88), (88, .aload_n 0, 1, 89), (89, .getfield 248, 3, 92), (92, .imul, 1, 93), (93, .aload_n 0, 1, 94), (94, .getfield 55, 3, 97), (97, .aload_n 0, 1, 98), (98, .getfield 248, 3, 101), (101, .iaload, 1, 102), (102, .iadd, 1, 103), (103, .if_icmp .ge 62, 3, 106), (106, .aload_n 0, 1, 107), (107, .getfield 64, 3, 110), (110, .iload_n 1, 1, 111), (111, .iaload, 1, 112), (112, .istore_n 2, 1, 113), (113, .aload_n 0, 1, 114), (114, .aload_n 0, 1, 115), (115, .getfield 58, 3, 118), (118, .iload_n 1, 1, 119), (119, .iaload, 1, 120), (120, .aload_n 0, 1, 121), (121, .getfield 61, 3, 124), (124, .iload_n 1, 1, 125), (125, .iaload, 1, 126), (126, .invokevirtual 274, 3, 129), (129, .ifCond .eq 28, 3, 132), (132, .aload_n 0, 1, 133), (133, .aload_n 0, 1, 134), (134, .getfield 58, 3, 137), (137, .iload_n 1, 1, 138), (138, .iaload, 1, 139), (139, .iconst 1, 1, 140), (140, .iadd, 1, 141), (141, .iload_n 2, 1, 142), (142, .isub, 1, 143), (143, .aload_n 0, 1, 144), (144, .getfield 61, 3, 147), (147, .iload_n 1, 1, 148), (148, .iaload, 1, 149), (149, .iload_n 2, 1, 150), (150, .iadd, 1, 151), (151, .invokevirtual 274, 3, 154), (154, .ifCond .ne 5, 3, 157), (157, .iconst 0, 1, 158), (158, .ireturn, 1, 159), (159, .iinc 1 1, 3, 162), (162, .goto (-77), 3, 165), (165, .iconst 1, 1, 166), (166, .ireturn, 1, 167)] := by unfold jDs; decide +kernel
set_option maxRecDepth 100000 in
set_option maxHeartbeats 4000000 in
theorem c_X12_isSquare {E : jE} {th : Nat} {M : jMem} {r : Int} {M' : jMem} (h : f_X12_isSquare th M = some (r, M')) : jMet E yX12_isSquare cX12_isSquare 3 (some .boolean) 3 0 0 [q_r E th] M (some (q_i r)) M' := by
  unfold f_X12_isSquare at h
  refine jMet.of RX12 rfl (by decide +kernel) (Nat.le_of_ble_eq_true rfl) [(0, q_r E th)] rfl (fun X hC hE hr hn => ?_)
  refine jr_iconst hC (D_X12_isSquare.g 0 rfl) ?_
  refine jr_istore_n hC (D_X12_isSquare.g 1 rfl) (by decide) rfl ?_
  refine jr_pick [1, 0] rfl ?_
  refine jr_lp2 (fun (y1_2 : Int) (M_2 : jMem) => JW E X 3 0 0 M_2 2 [(0, q_r E th), (1, q_i y1_2)] []) ?_ jfuel 0 M h
  intro rec_2 hrec_2 y1_2 M_2 h
  refine jr_iload_n hC (D_X12_isSquare.g 2 rfl) 1 rfl ?_
  refine jr_bipush hC (D_X12_isSquare.g 3 rfl) bp_36 ?_
  refine jr_icmp_ge hC (D_X12_isSquare.g 4 rfl) 21 rfl h (fun h => ?_) (fun h => ?_)
  · refine jr_aload_n hC (D_X12_isSquare.g 5 rfl) 0 rfl ?_
    refine jr_getR hC fl_X12_98 rfl (D_X12_isSquare.g 6 rfl) h (fun r1 h => ?_)
    refine jr_iload_n hC (D_X12_isSquare.g 7 rfl) 1 rfl ?_
    refine jr_iconst hC (D_X12_isSquare.g 8 rfl) ?_
    refine jr_zast hC (D_X12_isSquare.g 9 rfl) h (fun M2 _ h => ?_)
    refine jr_iinc hC (D_X12_isSquare.g 10 rfl) 1 rfl (by decide) rfl ?_
    refine jr_goto hC (D_X12_isSquare.g 11 rfl) 2 rfl ?_
    refine jr_pick [1, 0] rfl ?_
    exact hrec_2 (y1_2 + 1) M2 h
  refine jr_bipush hC (D_X12_isSquare.g 12 rfl) bp_12 ?_
  refine jr_aload_n hC (D_X12_isSquare.g 13 rfl) 0 rfl ?_
  refine jr_getI hC fl_X12_248 rfl (D_X12_isSquare.g 14 rfl) h (fun v3 h => ?_)
  refine jr_imul hC (D_X12_isSquare.g 15 rfl) ?_
  refine jr_istore_n hC (D_X12_isSquare.g 16 rfl) (by decide) rfl ?_
  refine jr_pick [1, 0] rfl ?_
  refine jr_lp2 (fun (y1_29 : Int) (M_29 : jMem) => JW E X 3 0 0 M_29 29 [(0, q_r E th), (1, q_i y1_29)] []) ?_ jfuel (12 * v3) M_2 h
  intro rec_29 hrec_29 y1_29 M_29 h
  refine jr_iload_n hC (D_X12_isSquare.g 17 rfl) 1 rfl ?_
  refine jr_bipush hC (D_X12_isSquare.g 18 rfl) bp_12 ?_
  refine jr_aload_n hC (D_X12_isSquare.g 19 rfl) 0 rfl ?_
  refine jr_getI hC fl_X12_248 rfl (D_X12_isSquare.g 20 rfl) h (fun v4 h => ?_)
  refine jr_imul hC (D_X12_isSquare.g 21 rfl) ?_
  refine jr_aload_n hC (D_X12_isSquare.g 22 rfl) 0 rfl ?_
  refine jr_getR hC fl_X12_46 rfl (D_X12_isSquare.g 23 rfl) h (fun r5 h => ?_)
  refine jr_aload_n hC (D_X12_isSquare.g 24 rfl) 0 rfl ?_
  refine jr_getI hC fl_X12_248 rfl (D_X12_isSquare.g 25 rfl) h (fun v6 h => ?_)
  refine jr_iald hC (D_X12_isSquare.g 26 rfl) h (fun v7 h => ?_)
  refine jr_iadd hC (D_X12_isSquare.g 27 rfl) ?_
  refine jr_icmp_ge hC (D_X12_isSquare.g 28 rfl) 77 rfl h (fun h => ?_) (fun h => ?_)
  · refine jr_aload_n hC (D_X12_isSquare.g 29 rfl) 0 rfl ?_
    refine jr_aload_n hC (D_X12_isSquare.g 30 rfl) 0 rfl ?_
    refine jr_getR hC fl_X12_49 rfl (D_X12_isSquare.g 31 rfl) h (fun r8 h => ?_)
    refine jr_iload_n hC (D_X12_isSquare.g 32 rfl) 1 rfl ?_
    refine jr_iald hC (D_X12_isSquare.g 33 rfl) h (fun v9 h => ?_)
    refine jr_aload_n hC (D_X12_isSquare.g 34 rfl) 0 rfl ?_
    refine jr_getR hC fl_X12_52 rfl (D_X12_isSquare.g 35 rfl) h (fun r10 h => ?_)
    refine jr_iload_n hC (D_X12_isSquare.g 36 rfl) 1 rfl ?_
    refine jr_iald hC (D_X12_isSquare.g 37 rfl) h (fun v11 h => ?_)
    refine jr_cVi hC cl_X12_274 ⟨rfl, by decide⟩ (D_X12_isSquare.g 38 rfl) [q_i v9, q_i v11] h (fun r M' e => c_X12_takes e) rfl rfl ⟨by decide, by decide⟩ (Nat.le_of_ble_eq_true rfl) ⟨Nat.le_of_ble_eq_true rfl, Nat.le_of_ble_eq_true rfl⟩ (fun v12 M13 h => ?_)
    refine jr_if_ne hC (D_X12_isSquare.g 39 rfl) 71 rfl h (fun h => ?_) (fun h => ?_)
    · refine jr_iconst hC (D_X12_isSquare.g 40 rfl) ?_
      exact jr_zret hC (D_X12_isSquare.g 41 rfl) hr hE h
    refine jr_iinc hC (D_X12_isSquare.g 42 rfl) 1 rfl (by decide) rfl ?_
    refine jr_goto hC (D_X12_isSquare.g 43 rfl) 29 rfl ?_
    refine jr_pick [1, 0] rfl ?_
    exact hrec_29 (y1_29 + 1) M13 h
  refine jr_bipush hC (D_X12_isSquare.g 44 rfl) bp_18 ?_
  refine jr_aload_n hC (D_X12_isSquare.g 45 rfl) 0 rfl ?_
  refine jr_getI hC fl_X12_248 rfl (D_X12_isSquare.g 46 rfl) h (fun v14 h => ?_)
  refine jr_imul hC (D_X12_isSquare.g 47 rfl) ?_
  refine jr_istore_n hC (D_X12_isSquare.g 48 rfl) (by decide) rfl ?_
  refine jr_pick [1, 0] rfl ?_
  refine jr_lp2 (fun (y1_85 : Int) (M_85 : jMem) => JW E X 3 0 0 M_85 85 [(0, q_r E th), (1, q_i y1_85)] []) ?_ jfuel (18 * v14) M_29 h
  intro rec_85 hrec_85 y1_85 M_85 h
  refine jr_iload_n hC (D_X12_isSquare.g 49 rfl) 1 rfl ?_
  refine jr_bipush hC (D_X12_isSquare.g 50 rfl) bp_18 ?_
  refine jr_aload_n hC (D_X12_isSquare.g 51 rfl) 0 rfl ?_
  refine jr_getI hC fl_X12_248 rfl (D_X12_isSquare.g 52 rfl) h (fun v15 h => ?_)
  refine jr_imul hC (D_X12_isSquare.g 53 rfl) ?_
  refine jr_aload_n hC (D_X12_isSquare.g 54 rfl) 0 rfl ?_
  refine jr_getR hC fl_X12_55 rfl (D_X12_isSquare.g 55 rfl) h (fun r16 h => ?_)
  refine jr_aload_n hC (D_X12_isSquare.g 56 rfl) 0 rfl ?_
  refine jr_getI hC fl_X12_248 rfl (D_X12_isSquare.g 57 rfl) h (fun v17 h => ?_)
  refine jr_iald hC (D_X12_isSquare.g 58 rfl) h (fun v18 h => ?_)
  refine jr_iadd hC (D_X12_isSquare.g 59 rfl) ?_
  refine jr_icmp_ge hC (D_X12_isSquare.g 60 rfl) 165 rfl h (fun h => ?_) (fun h => ?_)
  · refine jr_aload_n hC (D_X12_isSquare.g 61 rfl) 0 rfl ?_
    refine jr_getR hC fl_X12_64 rfl (D_X12_isSquare.g 62 rfl) h (fun r19 h => ?_)
    refine jr_iload_n hC (D_X12_isSquare.g 63 rfl) 1 rfl ?_
    refine jr_iald hC (D_X12_isSquare.g 64 rfl) h (fun v20 h => ?_)
    refine jr_istore_n hC (D_X12_isSquare.g 65 rfl) (by decide) rfl ?_
    refine jr_aload_n hC (D_X12_isSquare.g 66 rfl) 1 rfl ?_
    refine jr_aload_n hC (D_X12_isSquare.g 67 rfl) 1 rfl ?_
    refine jr_getR hC fl_X12_58 rfl (D_X12_isSquare.g 68 rfl) h (fun r21 h => ?_)
    refine jr_iload_n hC (D_X12_isSquare.g 69 rfl) 2 rfl ?_
    refine jr_iald hC (D_X12_isSquare.g 70 rfl) h (fun v22 h => ?_)
    refine jr_aload_n hC (D_X12_isSquare.g 71 rfl) 1 rfl ?_
    refine jr_getR hC fl_X12_61 rfl (D_X12_isSquare.g 72 rfl) h (fun r23 h => ?_)
    refine jr_iload_n hC (D_X12_isSquare.g 73 rfl) 2 rfl ?_
    refine jr_iald hC (D_X12_isSquare.g 74 rfl) h (fun v24 h => ?_)
    refine jr_cVi hC cl_X12_274 ⟨rfl, by decide⟩ (D_X12_isSquare.g 75 rfl) [q_i v22, q_i v24] h (fun r M' e => c_X12_takes e) rfl rfl ⟨by decide, by decide⟩ (Nat.le_of_ble_eq_true rfl) ⟨Nat.le_of_ble_eq_true rfl, Nat.le_of_ble_eq_true rfl⟩ (fun v25 M26 h => ?_)
    refine jr_if_eq hC (D_X12_isSquare.g 76 rfl) 157 rfl h (fun h => ?_) (fun h => ?_)
    · refine jr_iconst hC (D_X12_isSquare.g 94 rfl) ?_
      exact jr_zret hC (D_X12_isSquare.g 95 rfl) hr hE h
    refine jr_aload_n hC (D_X12_isSquare.g 77 rfl) 1 rfl ?_
    refine jr_aload_n hC (D_X12_isSquare.g 78 rfl) 1 rfl ?_
    refine jr_getR hC fl_X12_58 rfl (D_X12_isSquare.g 79 rfl) h (fun r27 h => ?_)
    refine jr_iload_n hC (D_X12_isSquare.g 80 rfl) 2 rfl ?_
    refine jr_iald hC (D_X12_isSquare.g 81 rfl) h (fun v28 h => ?_)
    refine jr_iconst hC (D_X12_isSquare.g 82 rfl) ?_
    refine jr_iadd hC (D_X12_isSquare.g 83 rfl) ?_
    refine jr_iload_n hC (D_X12_isSquare.g 84 rfl) 0 rfl ?_
    refine jr_isub hC (D_X12_isSquare.g 85 rfl) ?_
    refine jr_aload_n hC (D_X12_isSquare.g 86 rfl) 1 rfl ?_
    refine jr_getR hC fl_X12_61 rfl (D_X12_isSquare.g 87 rfl) h (fun r29 h => ?_)
    refine jr_iload_n hC (D_X12_isSquare.g 88 rfl) 2 rfl ?_
    refine jr_iald hC (D_X12_isSquare.g 89 rfl) h (fun v30 h => ?_)
    refine jr_iload_n hC (D_X12_isSquare.g 90 rfl) 0 rfl ?_
    refine jr_iadd hC (D_X12_isSquare.g 91 rfl) ?_
    refine jr_cVi hC cl_X12_274 ⟨rfl, by decide⟩ (D_X12_isSquare.g 92 rfl) [q_i ((v28 + 1) - v20), q_i (v30 + v20)] h (fun r M' e => c_X12_takes e) rfl rfl ⟨by decide, by decide⟩ (Nat.le_of_ble_eq_true rfl) ⟨Nat.le_of_ble_eq_true rfl, Nat.le_of_ble_eq_true rfl⟩ (fun v31 M32 h => ?_)
    refine jr_if_ne hC (D_X12_isSquare.g 93 rfl) 159 rfl h (fun h => ?_) (fun h => ?_)
    · refine jr_iconst hC (D_X12_isSquare.g 94 rfl) ?_
      exact jr_zret hC (D_X12_isSquare.g 95 rfl) hr hE h
    refine jr_iinc hC (D_X12_isSquare.g 96 rfl) 2 rfl (by decide) rfl ?_
    refine jr_goto hC (D_X12_isSquare.g 97 rfl) 85 rfl ?_
    refine jr_pick [2, 0] rfl ?_
    exact hrec_85 (y1_85 + 1) M32 h
  refine jr_iconst hC (D_X12_isSquare.g 98 rfl) ?_
  exact jr_zret hC (D_X12_isSquare.g 99 rfl) hr hE h
def f_X12_read (th : Nat) (M : jMem) : Option (Int × jMem) :=
(jm_gI 12 2 M th).bind fun v1 =>
(jm_pI 12 4 M th v1).bind fun M2 =>
jlp2 (fun rec_10 (y1_10 : Int) (M_10 : jMem) =>
(jm_gI 12 4 M_10 th).bind fun v3 =>
if jd_wr y1_10 < jd_wr v3 then ((jm_gR 12 3 M_10 th).bind fun r4 =>
(jm_gR 12 1 M_10 th).bind fun r5 =>
(jm_ld 21 M_10 r5 y1_10).bind fun v6 =>
(jm_st 21 M_10 r4 y1_10 (jd_b v6)).bind fun M7 =>
rec_10 (y1_10 + 1) M7)
else ((jm_pI 12 2 M_10 th 0).bind fun M8 =>
jcall 12 M8 th (f_X12_cut th M8) fun _ M10 =>
(jm_pI 12 11 M10 th 0).bind fun M11 =>
(jm_pI 12 12 M11 th 0).bind fun M12 =>
(jm_pI 12 13 M12 th 0).bind fun M13 =>
(jm_pI 12 15 M13 th 0).bind fun M14 =>
(jm_gI 12 18 M14 th).bind fun v15 =>
(jm_pI 12 19 M14 th (1 - v15)).bind fun M16 =>
(jm_gI 12 19 M16 th).bind fun v17 =>
jcall 12 M16 th (f_X12_plain th v17 M16) fun _ M19 =>
(jm_gI 12 19 M19 th).bind fun v20 =>
(jm_pI 12 32 M19 th (130 * v20)).bind fun M21 =>
(jm_gI 12 19 M21 th).bind fun v22 =>
(jm_pI 12 38 M21 th (420 * v22)).bind fun M23 =>
jlp1 (fun rec_107 (M_107 : jMem) =>
(jm_gI 12 13 M_107 th).bind fun v24 =>
jjq (fun (M_129 : jMem) =>
(jm_gI 12 13 M_129 th).bind fun v25 =>
jjq (fun (M_160 : jMem) =>
(jm_gI 12 13 M_160 th).bind fun v26 =>
jjq (fun (z0_190 : Int) =>
(jm_pI 12 17 M_160 th z0_190).bind fun M27 =>
(jm_gI 12 13 M27 th).bind fun v28 =>
if jd_wr v28 ≤ 0 then ((jm_gI 12 15 M27 th).bind fun v29 =>
if jd_wr v29 ≤ 0 then ((jm_gI 12 19 M27 th).bind fun v30 =>
(jm_pI 12 18 M27 th v30).bind fun M31 =>
jcall 12 M31 th (f_X12_begins th M31) fun _ M33 =>
jcall 12 M33 th (f_X12_keepsRow th M33) fun _ M35 =>
(jm_pI 12 53 M35 th 0).bind fun M36 =>
(jm_pI 12 63 M36 th 0).bind fun M37 =>
jlp2 (fun rec_245 (y1_245 : Int) (M_245 : jMem) =>
if jd_wr y1_245 < jd_wr 3 then ((jm_gR 12 66 M_245 th).bind fun r38 =>
(jm_st 22 M_245 r38 y1_245 (jd_z 0)).bind fun M39 =>
rec_245 (y1_245 + 1) M39)
else (some (0, M_245))) jfuel 0 M37)
else ((jm_gI 12 15 M27 th).bind fun v40 =>
some (v40, M27)))
else ((jm_gI 12 13 M27 th).bind fun v41 =>
some (v41, M27))) fun j_190 =>
if jd_wr v26 ≤ 0 then ((jm_gI 12 15 M_160 th).bind fun v42 =>
if jd_wr v42 ≤ 0 then (j_190 (-1))
else ((jm_gI 12 16 M_160 th).bind fun v43 =>
j_190 v43))
else ((jm_gI 12 14 M_160 th).bind fun v44 =>
j_190 v44)) fun j_160 =>
if jd_wr v25 = 0 then ((jm_gI 12 15 M_129 th).bind fun v45 =>
if jd_wr v45 = 0 then (jcall 12 M_129 th (f_X12_isSquare th M_129) fun v46 M47 =>
if jd_wr v46 = 0 then ((jm_gI 12 11 M47 th).bind fun v48 =>
jcall 12 M47 th (f_X12_wrong th 6 v48 M47) fun _ M50 =>
j_160 M50)
else (j_160 M47))
else (j_160 M_129))
else (j_160 M_129)) fun j_129 =>
if jd_wr v24 = 0 then (jcall 12 M_107 th (f_X12_is th 0 M_107) fun v51 M52 =>
if jd_wr v51 = 0 then (jcall 12 M52 th (f_X12_tellOne th M52) fun _ M54 =>
rec_107 M54)
else (j_129 M52))
else (j_129 M_107)) jfuel M23)) jfuel 0 M2
theorem D_X12_read : jDs cX12_read [(0, .aload_n 0, 1, 1), (1, .aload_n 0, 1, 2), (2, .getfield 178, 3, 5), (5, .putfield 184, 3, 8), (8, .iconst 0, 1, 9), (9, .istore_n 1, 1, 10), (10, .iload_n 1, 1, 11), (11, .aload_n 0, 1, 12), (12, .getfield 184, 3, 15), (15, .if_icmp .ge 21, 3, 18), (18, .aload_n 0, 1, 19), (19, .getfield 17, 3, 22), (22, .iload_n 1, 1, 23), (23, .aload_n 0, 1, 24), (24, .getfield 13, 3, 27), (27, .iload_n 1, 1, 28), (28, .baload, 1, 29), (29, .bastore, 1, 30), (30, .iinc 1 1, 3, 33), (33, .goto (-23), 3, 36), (36, .aload_n 0, 1, 37), (37, .iconst 0, 1, 38), (38, .putfield 178, 3, 41), (41, .aload_n 0, 1, 42), (42, .invokevirtual 239, 3, 45), (45, .aload_n 0, 1, 46), (46, .iconst 0, 1, 47), (47, .putfield 218, 3, 50), (50, .aload_n 0, 1, 51), (51, .iconst 0, 1, 52), (52, .putfield 242, 3, 55), (55, .aload_n 0, 1, 56), (56, .iconst 0, 1, 57), (57, .putfield 215, 3, 60), (60, .aload_n 0, 1, 61), (61, .iconst 0, 1, 62), (62, .putfield 224, 3, 65), (65, .aload_n 0, 1, 66), (66, .iconst 1, 1, 67), (67, .aload_n 0, 1, 68), (68, .getfield 245, 3, 71), (71, .isub, 1, 72), (72, .putfield 248, 3, 75), (75, .aload_n 0, 1, 76), (76, .aload_n 0, 1, 77), (77, .getfield 248, 3, 80), (80, .invokevirtual 164, 3, 83), (83, .aload_n 0, 1, 84), (84, .sipush 130, 3, 87), (87, .aload_n 0, 1, 88), (88, .getfield 248, 3, 91), (91, .imul, 1, 92), (92, .putfield 251, 3, 95), (95, .aload_n 0, 1, 96), (96, .sipush 420, 3, 99), (99, .aload_n 0, 1, 100), (100, .getfield 248, 3, 103), (103, .imul, 1, 104), (104, .putfield 254, 3, 107), (107, .aload_n 0, 1, 108), (108, .getfield 215, 3, 111), (111, .ifCond .ne 18, 3, 114), (114, .aload_n 0, 1, 115), (115, .iconst 0, 1, 116), (116, .invokevirtual 233, 3, 119), (119, .ifCond .ne 10, 3, 122), (122, .aload_n 0, 1, 123), (123, .invokevirtual 257, 3, 126), (126, .goto (-19), 3, 129), (129, .aload_n 0, 1, 130), (130, .getfield 215, 3, 133), (133, .ifCond .ne 27, 3, 136), (136, .aload_n 0, 1, 137), (137, .getfield 224, 3, 140), (140, .ifCond .ne 20, 3, 143), (143, .aload_n 0, 1, 144), (144, .invokevirtual 260, 3, 147), (147, .ifCond .ne 13, 3, 150), (150, .aload_n 0, 1, 151), (151, .bipush 6, 2, 153), (153, .aload_n 0, 1, 154), (154, .getfield 218, 3, 157), (157, .invokevirtual 264, 3, 160), (160, .aload_n 0, 1, 161), (161, .aload_n 0, 1, 162), (162, .getfield 215, 3, 165), (165, .ifCond .le 10, 3, 168), (168, .aload_n 0, 1, 169), (169, .getfield 221, 3, 172), (172, .goto 18, 3, 175), (175, .aload_n 0, 1, 176), (176, .getfield 224, 3, 179), (179, .ifCond .le 10, 3, 182), (182, .aload_n 0, 1, 183), (183, .getfield 227, 3, 186), (186, .goto 4, 3, 189), (189, .iconst (-1), 1, 190), (190, .putfield 37, 3, 193), (193, .aload_n 0, 1, 194), (194, .getfield 215, 3, 197), (197, .ifCond .le 8, 3, 200), (200, .aload_n 0, 1, 201), (201, .getfield 215, 3, 204), (204, .ireturn, 1, 205), (205, .aload_n 0, 1, 206), (206, .getfield 224, 3, 209), (209, .ifCond .le 8, 3, 212), (212, .aload_n 0, 1, 213), (213, .getfield 224, 3, 216), (216, .ireturn, 1, 217), (217, .aload_n 0, 1, 218), (218, .aload_n 0, 1, 219), (219, .getfield 248, 3, 222), (222, .putfield 245, 3, 225), (225, .aload_n 0, 1, 226), (226, .invokevirtual 172, 3, 229), (229, .aload_n 0, 1, 230), (230, .invokevirtual 175, 3, 233), (233, .aload_n 0, 1, 234), (234, .iconst 0, 1, 235), (235, .putfield 268, 3, 238), (238, .aload_n 0, 1, 239), (239, .iconst 0, 1, 240), (240, .putfield 271, 3, 243), (243, .iconst 0, 1, 244), (244, .istore_n 1, 1, 245), (245, .iload_n 1, 1, 246), (246, .iconst 3, 1, 247), (247, .if_icmp .ge 16, 3, 250), (250, .aload_n 0, 1, 251), (251, .getfield 158, 3, 254), (254, .iload_n 1, 1, 255), (255, .iconst 0, 1, 256), (256, .bastore, 1, 257), (257, .iinc 1 1, 3, 260), (260, .goto (-15), 3, 263), (263, .iconst 0, 1, 264), (264, .ireturn, 1, 265)] := by unfold jDs; decide +kernel
set_option maxRecDepth 100000 in
set_option maxHeartbeats 4000000 in
theorem c_X12_read {E : jE} {th : Nat} {M : jMem} {r : Int} {M' : jMem} (h : f_X12_read th M = some (r, M')) : jMet E yX12_read cX12_read 2 (some .int) 9 0 0 [q_r E th] M (some (q_i r)) M' := by
  unfold f_X12_read at h
  refine jMet.of RX12 rfl (by decide +kernel) (Nat.le_of_ble_eq_true rfl) [(0, q_r E th)] rfl (fun X hC hE hr hn => ?_)
  refine jr_aload_n hC (D_X12_read.g 0 rfl) 0 rfl ?_
  refine jr_aload_n hC (D_X12_read.g 1 rfl) 0 rfl ?_
  refine jr_getI hC fl_X12_178 rfl (D_X12_read.g 2 rfl) h (fun v1 h => ?_)
  refine jr_putI hC fl_X12_184 rfl (jnfin rfl) (D_X12_read.g 3 rfl) h (fun M2 _ h => ?_)
  refine jr_iconst hC (D_X12_read.g 4 rfl) ?_
  refine jr_istore_n hC (D_X12_read.g 5 rfl) (by decide) rfl ?_
  refine jr_pick [1, 0] rfl ?_
  refine jr_lp2 (fun (y1_10 : Int) (M_10 : jMem) => JW E X 2 0 0 M_10 10 [(0, q_r E th), (1, q_i y1_10)] []) ?_ jfuel 0 M2 h
  intro rec_10 hrec_10 y1_10 M_10 h
  refine jr_iload_n hC (D_X12_read.g 6 rfl) 1 rfl ?_
  refine jr_aload_n hC (D_X12_read.g 7 rfl) 0 rfl ?_
  refine jr_getI hC fl_X12_184 rfl (D_X12_read.g 8 rfl) h (fun v3 h => ?_)
  refine jr_icmp_ge hC (D_X12_read.g 9 rfl) 36 rfl h (fun h => ?_) (fun h => ?_)
  · refine jr_aload_n hC (D_X12_read.g 10 rfl) 0 rfl ?_
    refine jr_getR hC fl_X12_17 rfl (D_X12_read.g 11 rfl) h (fun r4 h => ?_)
    refine jr_iload_n hC (D_X12_read.g 12 rfl) 1 rfl ?_
    refine jr_aload_n hC (D_X12_read.g 13 rfl) 0 rfl ?_
    refine jr_getR hC fl_X12_13 rfl (D_X12_read.g 14 rfl) h (fun r5 h => ?_)
    refine jr_iload_n hC (D_X12_read.g 15 rfl) 1 rfl ?_
    refine jr_bald hC (D_X12_read.g 16 rfl) h (fun v6 h => ?_)
    refine jr_bast hC (D_X12_read.g 17 rfl) h (fun M7 _ h => ?_)
    refine jr_iinc hC (D_X12_read.g 18 rfl) 1 rfl (by decide) rfl ?_
    refine jr_goto hC (D_X12_read.g 19 rfl) 10 rfl ?_
    refine jr_pick [1, 0] rfl ?_
    exact hrec_10 (y1_10 + 1) M7 h
  refine jr_aload_n hC (D_X12_read.g 20 rfl) 0 rfl ?_
  refine jr_iconst hC (D_X12_read.g 21 rfl) ?_
  refine jr_putI hC fl_X12_178 rfl (jnfin rfl) (D_X12_read.g 22 rfl) h (fun M8 _ h => ?_)
  refine jr_aload_n hC (D_X12_read.g 23 rfl) 0 rfl ?_
  refine jr_cVv hC cl_X12_239 ⟨rfl, by decide⟩ (D_X12_read.g 24 rfl) [] h (fun r M' e => c_X12_cut e) rfl rfl ⟨by decide, by decide⟩ (Nat.le_of_ble_eq_true rfl) ⟨Nat.le_of_ble_eq_true rfl, Nat.le_of_ble_eq_true rfl⟩ (fun _ M10 h => ?_)
  refine jr_aload_n hC (D_X12_read.g 25 rfl) 0 rfl ?_
  refine jr_iconst hC (D_X12_read.g 26 rfl) ?_
  refine jr_putI hC fl_X12_218 rfl (jnfin rfl) (D_X12_read.g 27 rfl) h (fun M11 _ h => ?_)
  refine jr_aload_n hC (D_X12_read.g 28 rfl) 0 rfl ?_
  refine jr_iconst hC (D_X12_read.g 29 rfl) ?_
  refine jr_putI hC fl_X12_242 rfl (jnfin rfl) (D_X12_read.g 30 rfl) h (fun M12 _ h => ?_)
  refine jr_aload_n hC (D_X12_read.g 31 rfl) 0 rfl ?_
  refine jr_iconst hC (D_X12_read.g 32 rfl) ?_
  refine jr_putI hC fl_X12_215 rfl (jnfin rfl) (D_X12_read.g 33 rfl) h (fun M13 _ h => ?_)
  refine jr_aload_n hC (D_X12_read.g 34 rfl) 0 rfl ?_
  refine jr_iconst hC (D_X12_read.g 35 rfl) ?_
  refine jr_putI hC fl_X12_224 rfl (jnfin rfl) (D_X12_read.g 36 rfl) h (fun M14 _ h => ?_)
  refine jr_aload_n hC (D_X12_read.g 37 rfl) 0 rfl ?_
  refine jr_iconst hC (D_X12_read.g 38 rfl) ?_
  refine jr_aload_n hC (D_X12_read.g 39 rfl) 0 rfl ?_
  refine jr_getI hC fl_X12_245 rfl (D_X12_read.g 40 rfl) h (fun v15 h => ?_)
  refine jr_isub hC (D_X12_read.g 41 rfl) ?_
  refine jr_putI hC fl_X12_248 rfl (jnfin rfl) (D_X12_read.g 42 rfl) h (fun M16 _ h => ?_)
  refine jr_aload_n hC (D_X12_read.g 43 rfl) 0 rfl ?_
  refine jr_aload_n hC (D_X12_read.g 44 rfl) 0 rfl ?_
  refine jr_getI hC fl_X12_248 rfl (D_X12_read.g 45 rfl) h (fun v17 h => ?_)
  refine jr_cVv hC cl_X12_164 ⟨rfl, by decide⟩ (D_X12_read.g 46 rfl) [q_i v17] h (fun r M' e => c_X12_plain e) rfl rfl ⟨by decide, by decide⟩ (Nat.le_of_ble_eq_true rfl) ⟨Nat.le_of_ble_eq_true rfl, Nat.le_of_ble_eq_true rfl⟩ (fun _ M19 h => ?_)
  refine jr_aload_n hC (D_X12_read.g 47 rfl) 0 rfl ?_
  refine jr_sipush hC (D_X12_read.g 48 rfl) sp_130 ?_
  refine jr_aload_n hC (D_X12_read.g 49 rfl) 0 rfl ?_
  refine jr_getI hC fl_X12_248 rfl (D_X12_read.g 50 rfl) h (fun v20 h => ?_)
  refine jr_imul hC (D_X12_read.g 51 rfl) ?_
  refine jr_putI hC fl_X12_251 rfl (jnfin rfl) (D_X12_read.g 52 rfl) h (fun M21 _ h => ?_)
  refine jr_aload_n hC (D_X12_read.g 53 rfl) 0 rfl ?_
  refine jr_sipush hC (D_X12_read.g 54 rfl) sp_420 ?_
  refine jr_aload_n hC (D_X12_read.g 55 rfl) 0 rfl ?_
  refine jr_getI hC fl_X12_248 rfl (D_X12_read.g 56 rfl) h (fun v22 h => ?_)
  refine jr_imul hC (D_X12_read.g 57 rfl) ?_
  refine jr_putI hC fl_X12_254 rfl (jnfin rfl) (D_X12_read.g 58 rfl) h (fun M23 _ h => ?_)
  refine jr_pick [0] rfl ?_
  refine jr_lp1 (fun (M_107 : jMem) => JW E X 2 0 0 M_107 107 [(0, q_r E th)] []) ?_ jfuel M23 h
  intro rec_107 hrec_107 M_107 h
  refine jr_aload_n hC (D_X12_read.g 59 rfl) 0 rfl ?_
  refine jr_getI hC fl_X12_215 rfl (D_X12_read.g 60 rfl) h (fun v24 h => ?_)
  refine jr_join h (fun j => ∀ (M_129 : jMem), j M_129 = some (r, M') → JW E X 2 0 0 M_129 129 [(0, q_r E th)] []) ?_ ?_
  · intro M_129 h
    refine jr_aload_n hC (D_X12_read.g 69 rfl) 0 rfl ?_
    refine jr_getI hC fl_X12_215 rfl (D_X12_read.g 70 rfl) h (fun v25 h => ?_)
    refine jr_join h (fun j => ∀ (M_160 : jMem), j M_160 = some (r, M') → JW E X 2 0 0 M_160 160 [(0, q_r E th)] []) ?_ ?_
    · intro M_160 h
      refine jr_aload_n hC (D_X12_read.g 83 rfl) 0 rfl ?_
      refine jr_aload_n hC (D_X12_read.g 84 rfl) 0 rfl ?_
      refine jr_getI hC fl_X12_215 rfl (D_X12_read.g 85 rfl) h (fun v26 h => ?_)
      refine jr_join h (fun j => ∀ (z0_190 : Int), j z0_190 = some (r, M') → JW E X 2 0 0 M_160 190 [(0, q_r E th)] [q_i z0_190, q_r E th]) ?_ ?_
      · intro z0_190 h
        refine jr_putI hC fl_X12_37 rfl (jnfin rfl) (D_X12_read.g 97 rfl) h (fun M27 _ h => ?_)
        refine jr_aload_n hC (D_X12_read.g 98 rfl) 0 rfl ?_
        refine jr_getI hC fl_X12_215 rfl (D_X12_read.g 99 rfl) h (fun v28 h => ?_)
        refine jr_if_le hC (D_X12_read.g 100 rfl) 205 rfl h (fun h => ?_) (fun h => ?_)
        · refine jr_aload_n hC (D_X12_read.g 104 rfl) 0 rfl ?_
          refine jr_getI hC fl_X12_224 rfl (D_X12_read.g 105 rfl) h (fun v29 h => ?_)
          refine jr_if_le hC (D_X12_read.g 106 rfl) 217 rfl h (fun h => ?_) (fun h => ?_)
          · refine jr_aload_n hC (D_X12_read.g 110 rfl) 0 rfl ?_
            refine jr_aload_n hC (D_X12_read.g 111 rfl) 0 rfl ?_
            refine jr_getI hC fl_X12_248 rfl (D_X12_read.g 112 rfl) h (fun v30 h => ?_)
            refine jr_putI hC fl_X12_245 rfl (jnfin rfl) (D_X12_read.g 113 rfl) h (fun M31 _ h => ?_)
            refine jr_aload_n hC (D_X12_read.g 114 rfl) 0 rfl ?_
            refine jr_cVv hC cl_X12_172 ⟨rfl, by decide⟩ (D_X12_read.g 115 rfl) [] h (fun r M' e => c_X12_begins e) rfl rfl ⟨by decide, by decide⟩ (Nat.le_of_ble_eq_true rfl) ⟨Nat.le_of_ble_eq_true rfl, Nat.le_of_ble_eq_true rfl⟩ (fun _ M33 h => ?_)
            refine jr_aload_n hC (D_X12_read.g 116 rfl) 0 rfl ?_
            refine jr_cVv hC cl_X12_175 ⟨rfl, by decide⟩ (D_X12_read.g 117 rfl) [] h (fun r M' e => c_X12_keepsRow e) rfl rfl ⟨by decide, by decide⟩ (Nat.le_of_ble_eq_true rfl) ⟨Nat.le_of_ble_eq_true rfl, Nat.le_of_ble_eq_true rfl⟩ (fun _ M35 h => ?_)
            refine jr_aload_n hC (D_X12_read.g 118 rfl) 0 rfl ?_
            refine jr_iconst hC (D_X12_read.g 119 rfl) ?_
            refine jr_putI hC fl_X12_268 rfl (jnfin rfl) (D_X12_read.g 120 rfl) h (fun M36 _ h => ?_)
            refine jr_aload_n hC (D_X12_read.g 121 rfl) 0 rfl ?_
            refine jr_iconst hC (D_X12_read.g 122 rfl) ?_
            refine jr_putI hC fl_X12_271 rfl (jnfin rfl) (D_X12_read.g 123 rfl) h (fun M37 _ h => ?_)
            refine jr_iconst hC (D_X12_read.g 124 rfl) ?_
            refine jr_istore_n hC (D_X12_read.g 125 rfl) (by decide) rfl ?_
            refine jr_pick [1, 0] rfl ?_
            refine jr_lp2 (fun (y1_245 : Int) (M_245 : jMem) => JW E X 2 0 0 M_245 245 [(0, q_r E th), (1, q_i y1_245)] []) ?_ jfuel 0 M37 h
            intro rec_245 hrec_245 y1_245 M_245 h
            refine jr_iload_n hC (D_X12_read.g 126 rfl) 1 rfl ?_
            refine jr_iconst hC (D_X12_read.g 127 rfl) ?_
            refine jr_icmp_ge hC (D_X12_read.g 128 rfl) 263 rfl h (fun h => ?_) (fun h => ?_)
            · refine jr_aload_n hC (D_X12_read.g 129 rfl) 0 rfl ?_
              refine jr_getR hC fl_X12_158 rfl (D_X12_read.g 130 rfl) h (fun r38 h => ?_)
              refine jr_iload_n hC (D_X12_read.g 131 rfl) 1 rfl ?_
              refine jr_iconst hC (D_X12_read.g 132 rfl) ?_
              refine jr_zast hC (D_X12_read.g 133 rfl) h (fun M39 _ h => ?_)
              refine jr_iinc hC (D_X12_read.g 134 rfl) 1 rfl (by decide) rfl ?_
              refine jr_goto hC (D_X12_read.g 135 rfl) 245 rfl ?_
              refine jr_pick [1, 0] rfl ?_
              exact hrec_245 (y1_245 + 1) M39 h
            refine jr_iconst hC (D_X12_read.g 136 rfl) ?_
            exact jr_iret hC (D_X12_read.g 137 rfl) hr hE h
          refine jr_aload_n hC (D_X12_read.g 107 rfl) 0 rfl ?_
          refine jr_getI hC fl_X12_224 rfl (D_X12_read.g 108 rfl) h (fun v40 h => ?_)
          exact jr_iret hC (D_X12_read.g 109 rfl) hr hE h
        refine jr_aload_n hC (D_X12_read.g 101 rfl) 0 rfl ?_
        refine jr_getI hC fl_X12_215 rfl (D_X12_read.g 102 rfl) h (fun v41 h => ?_)
        exact jr_iret hC (D_X12_read.g 103 rfl) hr hE h
      intro j_190 hj_190 h
      refine jr_if_le hC (D_X12_read.g 86 rfl) 175 rfl h (fun h => ?_) (fun h => ?_)
      · refine jr_aload_n hC (D_X12_read.g 90 rfl) 0 rfl ?_
        refine jr_getI hC fl_X12_224 rfl (D_X12_read.g 91 rfl) h (fun v42 h => ?_)
        refine jr_if_le hC (D_X12_read.g 92 rfl) 189 rfl h (fun h => ?_) (fun h => ?_)
        · refine jr_iconst hC (D_X12_read.g 96 rfl) ?_
          exact hj_190 (-1) h
        refine jr_aload_n hC (D_X12_read.g 93 rfl) 0 rfl ?_
        refine jr_getI hC fl_X12_227 rfl (D_X12_read.g 94 rfl) h (fun v43 h => ?_)
        refine jr_goto hC (D_X12_read.g 95 rfl) 190 rfl ?_
        exact hj_190 v43 h
      refine jr_aload_n hC (D_X12_read.g 87 rfl) 0 rfl ?_
      refine jr_getI hC fl_X12_221 rfl (D_X12_read.g 88 rfl) h (fun v44 h => ?_)
      refine jr_goto hC (D_X12_read.g 89 rfl) 190 rfl ?_
      exact hj_190 v44 h
    intro j_160 hj_160 h
    refine jr_if_ne hC (D_X12_read.g 71 rfl) 160 rfl h (fun h => ?_) (fun h => ?_)
    · refine jr_aload_n hC (D_X12_read.g 72 rfl) 0 rfl ?_
      refine jr_getI hC fl_X12_224 rfl (D_X12_read.g 73 rfl) h (fun v45 h => ?_)
      refine jr_if_ne hC (D_X12_read.g 74 rfl) 160 rfl h (fun h => ?_) (fun h => ?_)
      · refine jr_aload_n hC (D_X12_read.g 75 rfl) 0 rfl ?_
        refine jr_cVi hC cl_X12_260 ⟨rfl, by decide⟩ (D_X12_read.g 76 rfl) [] h (fun r M' e => c_X12_isSquare e) rfl rfl ⟨by decide, by decide⟩ (Nat.le_of_ble_eq_true rfl) ⟨Nat.le_of_ble_eq_true rfl, Nat.le_of_ble_eq_true rfl⟩ (fun v46 M47 h => ?_)
        refine jr_if_ne hC (D_X12_read.g 77 rfl) 160 rfl h (fun h => ?_) (fun h => ?_)
        · refine jr_aload_n hC (D_X12_read.g 78 rfl) 0 rfl ?_
          refine jr_bipush hC (D_X12_read.g 79 rfl) bp_6 ?_
          refine jr_aload_n hC (D_X12_read.g 80 rfl) 0 rfl ?_
          refine jr_getI hC fl_X12_218 rfl (D_X12_read.g 81 rfl) h (fun v48 h => ?_)
          refine jr_cVv hC cl_X12_264 ⟨rfl, by decide⟩ (D_X12_read.g 82 rfl) [q_i 6, q_i v48] h (fun r M' e => c_X12_wrong e) rfl rfl ⟨by decide, by decide⟩ (Nat.le_of_ble_eq_true rfl) ⟨Nat.le_of_ble_eq_true rfl, Nat.le_of_ble_eq_true rfl⟩ (fun _ M50 h => ?_)
          exact hj_160 M50 h
        exact hj_160 M47 h
      exact hj_160 M_129 h
    exact hj_160 M_129 h
  intro j_129 hj_129 h
  refine jr_if_ne hC (D_X12_read.g 61 rfl) 129 rfl h (fun h => ?_) (fun h => ?_)
  · refine jr_aload_n hC (D_X12_read.g 62 rfl) 0 rfl ?_
    refine jr_iconst hC (D_X12_read.g 63 rfl) ?_
    refine jr_cVi hC cl_X12_233 ⟨rfl, by decide⟩ (D_X12_read.g 64 rfl) [q_i 0] h (fun r M' e => c_X12_is e) rfl rfl ⟨by decide, by decide⟩ (Nat.le_of_ble_eq_true rfl) ⟨Nat.le_of_ble_eq_true rfl, Nat.le_of_ble_eq_true rfl⟩ (fun v51 M52 h => ?_)
    refine jr_if_ne hC (D_X12_read.g 65 rfl) 129 rfl h (fun h => ?_) (fun h => ?_)
    · refine jr_aload_n hC (D_X12_read.g 66 rfl) 0 rfl ?_
      refine jr_cVv hC cl_X12_257 ⟨rfl, by decide⟩ (D_X12_read.g 67 rfl) [] h (fun r M' e => c_X12_tellOne e) rfl rfl ⟨by decide, by decide⟩ (Nat.le_of_ble_eq_true rfl) ⟨Nat.le_of_ble_eq_true rfl, Nat.le_of_ble_eq_true rfl⟩ (fun _ M54 h => ?_)
      refine jr_goto hC (D_X12_read.g 68 rfl) 107 rfl ?_
      exact hrec_107 M54 h
    exact hj_129 M52 h
  exact hj_129 M_107 h
def f_X12_place (th : Nat) (M : jMem) : Option (Int × jMem) :=
(jm_gI 12 17 M th).bind fun v1 =>
some (v1, M)
theorem D_X12_place : jDs cX12_place [(0, .aload_n 0, 1, 1), (1, .getfield 37, 3, 4), (4, .ireturn, 1, 5)] := by unfold jDs; decide +kernel
set_option maxRecDepth 100000 in
set_option maxHeartbeats 4000000 in
theorem c_X12_place {E : jE} {th : Nat} {M : jMem} {r : Int} {M' : jMem} (h : f_X12_place th M = some (r, M')) : jMet E yX12_place cX12_place 1 (some .int) 2 0 0 [q_r E th] M (some (q_i r)) M' := by
  unfold f_X12_place at h
  refine jMet.of RX12 rfl (by decide +kernel) (Nat.le_of_ble_eq_true rfl) [(0, q_r E th)] rfl (fun X hC hE hr hn => ?_)
  refine jr_aload_n hC (D_X12_place.g 0 rfl) 0 rfl ?_
  refine jr_getI hC fl_X12_37 rfl (D_X12_place.g 1 rfl) h (fun v1 h => ?_)
  exact jr_iret hC (D_X12_place.g 2 rfl) hr hE h
def f_X12_termOf (th : Nat) (x1 : Int) (x2 : Int) (M : jMem) : Option (Int × jMem) :=
jlp3 (fun rec_5 (y3_5 : Int) (y4_5 : Int) (M_5 : jMem) =>
if jd_wr y4_5 < jd_wr x2 then ((jm_gR 12 39 M_5 th).bind fun r1 =>
(jm_ld 20 M_5 r1 y4_5).bind fun v2 =>
jjq (fun (y3_159 : Int) (M_159 : jMem) =>
rec_5 y3_159 (y4_5 + 1) M_159) fun j_159 =>
if jd_wr v2 < jd_wr 2 then ((jm_gR 12 45 M_5 th).bind fun r3 =>
jjq (fun (z0_58 : Int) =>
(jm_st 20 M_5 r3 y3_5 z0_58).bind fun M4 =>
j_159 (y3_5 + 1) M4) fun j_58 =>
if jd_wr v2 = 0 then ((jm_gR 12 40 M_5 th).bind fun r5 =>
(jm_ld 20 M_5 r5 y4_5).bind fun v6 =>
j_58 v6)
else ((jm_gR 12 44 M_5 th).bind fun r7 =>
(jm_gR 12 40 M_5 th).bind fun r8 =>
(jm_ld 20 M_5 r8 y4_5).bind fun v9 =>
(jm_ld 20 M_5 r7 v9).bind fun v10 =>
j_58 v10))
else ((jm_gR 12 45 M_5 th).bind fun r11 =>
(jm_ld 20 M_5 r11 ((y3_5 + (-1)) - 1)).bind fun v12 =>
(jm_gR 12 45 M_5 th).bind fun r13 =>
(jm_ld 20 M_5 r13 (y3_5 + (-1))).bind fun v14 =>
jjq ((jm_gR 12 45 M_5 th).bind fun r15 =>
jjq (fun (z0_158 : Int) =>
(jm_st 20 M_5 r15 ((y3_5 + (-1)) - 1) z0_158).bind fun M16 =>
j_159 (y3_5 + (-1)) M16) fun j_158 =>
if jd_wr v2 = jd_wr 2 then (j_158 (v12 + v14))
else (if jd_wr v2 = jd_wr 3 then (j_158 (v12 - v14))
else (if jd_wr v2 = jd_wr 4 then (j_158 (v12 * v14))
else ((jm_dv v12 v14).bind fun v17 =>
j_158 v17)))) fun j_104 =>
if jd_wr v2 = jd_wr 5 then (if jd_wr v14 = 0 then ((jm_pZ 12 46 M_5 th 1).bind fun M18 =>
some (0, M18))
else (j_104 ))
else (j_104 )))
else ((jm_gR 12 45 M_5 th).bind fun r19 =>
(jm_ld 20 M_5 r19 0).bind fun v20 =>
some (v20, M_5))) jfuel 0 x1 M
theorem D_X12_termOf : jDs cX12_termOf [(0, .iconst 0, 1, 1), (1, .istore_n 3, 1, 2), (2, .iload_n 1, 1, 3), (3, .istore 4, 2, 5), (5, .iload 4, 2, 7), (7, .iload_n 2, 1, 8), (8, .if_icmp .ge 157, 3, 11), (11, .aload_n 0, 1, 12), (12, .getfield 92, 3, 15), (15, .iload 4, 2, 17), (17, .iaload, 1, 18), (18, .istore 5, 2, 20), (20, .iload 5, 2, 22), (22, .iconst 2, 1, 23), (23, .if_icmp .ge 42, 3, 26), (26, .aload_n 0, 1, 27), (27, .getfield 107, 3, 30), (30, .iload_n 3, 1, 31), (31, .iload 5, 2, 33), (33, .ifCond .ne 13, 3, 36), (36, .aload_n 0, 1, 37), (37, .getfield 95, 3, 40), (40, .iload 4, 2, 42), (42, .iaload, 1, 43), (43, .goto 15, 3, 46), (46, .aload_n 0, 1, 47), (47, .getfield 104, 3, 50), (50, .aload_n 0, 1, 51), (51, .getfield 95, 3, 54), (54, .iload 4, 2, 56), (56, .iaload, 1, 57), (57, .iaload, 1, 58), (58, .iastore, 1, 59), (59, .iinc 3 1, 3, 62), (62, .goto 97, 3, 65), (65, .iinc 3 (-1), 3, 68), (68, .aload_n 0, 1, 69), (69, .getfield 107, 3, 72), (72, .iload_n 3, 1, 73), (73, .iconst 1, 1, 74), (74, .isub, 1, 75), (75, .iaload, 1, 76), (76, .istore 6, 2, 78), (78, .aload_n 0, 1, 79), (79, .getfield 107, 3, 82), (82, .iload_n 3, 1, 83), (83, .iaload, 1, 84), (84, .istore 7, 2, 86), (86, .iload 5, 2, 88), (88, .iconst 5, 1, 89), (89, .if_icmp .ne 15, 3, 92), (92, .iload 7, 2, 94), (94, .ifCond .ne 10, 3, 97), (97, .aload_n 0, 1, 98), (98, .iconst 1, 1, 99), (99, .putfield 310, 3, 102), (102, .iconst 0, 1, 103), (103, .ireturn, 1, 104), (104, .aload_n 0, 1, 105), (105, .getfield 107, 3, 108), (108, .iload_n 3, 1, 109), (109, .iconst 1, 1, 110), (110, .isub, 1, 111), (111, .iload 5, 2, 113), (113, .iconst 2, 1, 114), (114, .if_icmp .ne 11, 3, 117), (117, .iload 6, 2, 119), (119, .iload 7, 2, 121), (121, .iadd, 1, 122), (122, .goto 36, 3, 125), (125, .iload 5, 2, 127), (127, .iconst 3, 1, 128), (128, .if_icmp .ne 11, 3, 131), (131, .iload 6, 2, 133), (133, .iload 7, 2, 135), (135, .isub, 1, 136), (136, .goto 22, 3, 139), (139, .iload 5, 2, 141), (141, .iconst 4, 1, 142), (142, .if_icmp .ne 11, 3, 145), (145, .iload 6, 2, 147), (147, .iload 7, 2, 149), (149, .imul, 1, 150), (150, .goto 8, 3, 153), (153, .iload 6, 2, 155), (155, .iload 7, 2, 157), (157, .idiv, 1, 158), (158, .iastore, 1, 159), (159, .iinc 4 1, 3, 162), (162, .goto (-157), 3, 165), (165, .aload_n 0, 1, 166), (166, .getfield 107, 3, 169), (169, .iconst 0, 1, 170), (170, .iaload, 1, 171), (171, .ireturn, 1, 172)] := by unfold jDs; decide +kernel
set_option maxRecDepth 100000 in
set_option maxHeartbeats 4000000 in
theorem c_X12_termOf {E : jE} {th : Nat} {x1 : Int} {x2 : Int} {M : jMem} {r : Int} {M' : jMem} (h : f_X12_termOf th x1 x2 M = some (r, M')) : jMet E yX12_termOf cX12_termOf 8 (some .int) 2 0 0 [q_r E th, q_i x1, q_i x2] M (some (q_i r)) M' := by
  unfold f_X12_termOf at h
  refine jMet.of RX12 rfl (by decide +kernel) (Nat.le_of_ble_eq_true rfl) [(0, q_r E th), (1, q_i x1), (2, q_i x2)] rfl (fun X hC hE hr hn => ?_)
  refine jr_iconst hC (D_X12_termOf.g 0 rfl) ?_
  refine jr_istore_n hC (D_X12_termOf.g 1 rfl) (by decide) rfl ?_
  refine jr_iload_n hC (D_X12_termOf.g 2 rfl) 2 rfl ?_
  refine jr_istore hC (D_X12_termOf.g 3 rfl) (by decide) rfl ?_
  refine jr_pick [2, 4, 1, 0] rfl ?_
  refine jr_lp3 (fun (y3_5 : Int) (y4_5 : Int) (M_5 : jMem) => JW E X 8 0 0 M_5 5 [(0, q_r E th), (2, q_i x2), (3, q_i y3_5), (4, q_i y4_5)] []) ?_ jfuel 0 x1 M h
  intro rec_5 hrec_5 y3_5 y4_5 M_5 h
  refine jr_iload hC (D_X12_termOf.g 4 rfl) 3 rfl ?_
  refine jr_iload_n hC (D_X12_termOf.g 5 rfl) 1 rfl ?_
  refine jr_icmp_ge hC (D_X12_termOf.g 6 rfl) 165 rfl h (fun h => ?_) (fun h => ?_)
  · refine jr_aload_n hC (D_X12_termOf.g 7 rfl) 0 rfl ?_
    refine jr_getR hC fl_X12_92 rfl (D_X12_termOf.g 8 rfl) h (fun r1 h => ?_)
    refine jr_iload hC (D_X12_termOf.g 9 rfl) 3 rfl ?_
    refine jr_iald hC (D_X12_termOf.g 10 rfl) h (fun v2 h => ?_)
    refine jr_istore hC (D_X12_termOf.g 11 rfl) (by decide) rfl ?_
    refine jr_iload hC (D_X12_termOf.g 12 rfl) 0 rfl ?_
    refine jr_iconst hC (D_X12_termOf.g 13 rfl) ?_
    refine jr_join h (fun j => ∀ (y3_159 : Int) (M_159 : jMem), j y3_159 M_159 = some (r, M') → JW E X 8 0 0 M_159 159 [(0, q_r E th), (2, q_i x2), (3, q_i y3_159), (4, q_i y4_5)] []) ?_ ?_
    · intro y3_159 M_159 h
      refine jr_iinc hC (D_X12_termOf.g 88 rfl) 3 rfl (by decide) rfl ?_
      refine jr_goto hC (D_X12_termOf.g 89 rfl) 5 rfl ?_
      refine jr_pick [1, 2, 3, 0] rfl ?_
      exact hrec_5 y3_159 (y4_5 + 1) M_159 h
    intro j_159 hj_159 h
    refine jr_icmp_ge hC (D_X12_termOf.g 14 rfl) 65 rfl h (fun h => ?_) (fun h => ?_)
    · refine jr_aload_n hC (D_X12_termOf.g 15 rfl) 1 rfl ?_
      refine jr_getR hC fl_X12_107 rfl (D_X12_termOf.g 16 rfl) h (fun r3 h => ?_)
      refine jr_iload_n hC (D_X12_termOf.g 17 rfl) 3 rfl ?_
      refine jr_iload hC (D_X12_termOf.g 18 rfl) 0 rfl ?_
      refine jr_join h (fun j => ∀ (z0_58 : Int), j z0_58 = some (r, M') → JW E X 8 0 0 M_5 58 [(0, q_r E th), (2, q_i x2), (3, q_i y3_5), (4, q_i y4_5)] [q_i z0_58, q_i y3_5, q_r E r3]) ?_ ?_
      · intro z0_58 h
        refine jr_iast hC (D_X12_termOf.g 32 rfl) h (fun M4 _ h => ?_)
        refine jr_iinc hC (D_X12_termOf.g 33 rfl) 2 rfl (by decide) rfl ?_
        refine jr_goto hC (D_X12_termOf.g 34 rfl) 159 rfl ?_
        refine jr_pick [1, 2, 0, 3] rfl ?_
        exact hj_159 (y3_5 + 1) M4 h
      intro j_58 hj_58 h
      refine jr_if_ne hC (D_X12_termOf.g 19 rfl) 46 rfl h (fun h => ?_) (fun h => ?_)
      · refine jr_aload_n hC (D_X12_termOf.g 20 rfl) 1 rfl ?_
        refine jr_getR hC fl_X12_95 rfl (D_X12_termOf.g 21 rfl) h (fun r5 h => ?_)
        refine jr_iload hC (D_X12_termOf.g 22 rfl) 4 rfl ?_
        refine jr_iald hC (D_X12_termOf.g 23 rfl) h (fun v6 h => ?_)
        refine jr_goto hC (D_X12_termOf.g 24 rfl) 58 rfl ?_
        refine jr_pick [1, 2, 3, 4] rfl ?_
        exact hj_58 v6 h
      refine jr_aload_n hC (D_X12_termOf.g 25 rfl) 1 rfl ?_
      refine jr_getR hC fl_X12_104 rfl (D_X12_termOf.g 26 rfl) h (fun r7 h => ?_)
      refine jr_aload_n hC (D_X12_termOf.g 27 rfl) 1 rfl ?_
      refine jr_getR hC fl_X12_95 rfl (D_X12_termOf.g 28 rfl) h (fun r8 h => ?_)
      refine jr_iload hC (D_X12_termOf.g 29 rfl) 4 rfl ?_
      refine jr_iald hC (D_X12_termOf.g 30 rfl) h (fun v9 h => ?_)
      refine jr_iald hC (D_X12_termOf.g 31 rfl) h (fun v10 h => ?_)
      refine jr_pick [1, 2, 3, 4] rfl ?_
      exact hj_58 v10 h
    refine jr_iinc hC (D_X12_termOf.g 35 rfl) 3 rfl (by decide) rfl ?_
    refine jr_aload_n hC (D_X12_termOf.g 36 rfl) 2 rfl ?_
    refine jr_getR hC fl_X12_107 rfl (D_X12_termOf.g 37 rfl) h (fun r11 h => ?_)
    refine jr_iload_n hC (D_X12_termOf.g 38 rfl) 0 rfl ?_
    refine jr_iconst hC (D_X12_termOf.g 39 rfl) ?_
    refine jr_isub hC (D_X12_termOf.g 40 rfl) ?_
    refine jr_iald hC (D_X12_termOf.g 41 rfl) h (fun v12 h => ?_)
    refine jr_istore hC (D_X12_termOf.g 42 rfl) (by decide) rfl ?_
    refine jr_aload_n hC (D_X12_termOf.g 43 rfl) 3 rfl ?_
    refine jr_getR hC fl_X12_107 rfl (D_X12_termOf.g 44 rfl) h (fun r13 h => ?_)
    refine jr_iload_n hC (D_X12_termOf.g 45 rfl) 1 rfl ?_
    refine jr_iald hC (D_X12_termOf.g 46 rfl) h (fun v14 h => ?_)
    refine jr_istore hC (D_X12_termOf.g 47 rfl) (by decide) rfl ?_
    refine jr_iload hC (D_X12_termOf.g 48 rfl) 3 rfl ?_
    refine jr_iconst hC (D_X12_termOf.g 49 rfl) ?_
    refine jr_join h (fun j => j = some (r, M') → JW E X 8 0 0 M_5 104 [(0, q_r E th), (2, q_i x2), (3, q_i (y3_5 + (-1))), (4, q_i y4_5), (5, q_i v2), (6, q_i v12), (7, q_i v14)] []) ?_ ?_
    · intro  h
      refine jr_aload_n hC (D_X12_termOf.g 58 rfl) 0 rfl ?_
      refine jr_getR hC fl_X12_107 rfl (D_X12_termOf.g 59 rfl) h (fun r15 h => ?_)
      refine jr_iload_n hC (D_X12_termOf.g 60 rfl) 2 rfl ?_
      refine jr_iconst hC (D_X12_termOf.g 61 rfl) ?_
      refine jr_isub hC (D_X12_termOf.g 62 rfl) ?_
      refine jr_iload hC (D_X12_termOf.g 63 rfl) 4 rfl ?_
      refine jr_iconst hC (D_X12_termOf.g 64 rfl) ?_
      refine jr_join h (fun j => ∀ (z0_158 : Int), j z0_158 = some (r, M') → JW E X 8 0 0 M_5 158 [(0, q_r E th), (2, q_i x2), (3, q_i (y3_5 + (-1))), (4, q_i y4_5)] [q_i z0_158, q_i ((y3_5 + (-1)) - 1), q_r E r15]) ?_ ?_
      · intro z0_158 h
        refine jr_iast hC (D_X12_termOf.g 87 rfl) h (fun M16 _ h => ?_)
        exact hj_159 (y3_5 + (-1)) M16 h
      intro j_158 hj_158 h
      refine jr_icmp_ne hC (D_X12_termOf.g 65 rfl) 125 rfl h (fun h => ?_) (fun h => ?_)
      · refine jr_iload hC (D_X12_termOf.g 66 rfl) 5 rfl ?_
        refine jr_iload hC (D_X12_termOf.g 67 rfl) 6 rfl ?_
        refine jr_iadd hC (D_X12_termOf.g 68 rfl) ?_
        refine jr_goto hC (D_X12_termOf.g 69 rfl) 158 rfl ?_
        refine jr_pick [0, 1, 2, 3] rfl ?_
        exact hj_158 (v12 + v14) h
      refine jr_iload hC (D_X12_termOf.g 70 rfl) 4 rfl ?_
      refine jr_iconst hC (D_X12_termOf.g 71 rfl) ?_
      refine jr_icmp_ne hC (D_X12_termOf.g 72 rfl) 139 rfl h (fun h => ?_) (fun h => ?_)
      · refine jr_iload hC (D_X12_termOf.g 73 rfl) 5 rfl ?_
        refine jr_iload hC (D_X12_termOf.g 74 rfl) 6 rfl ?_
        refine jr_isub hC (D_X12_termOf.g 75 rfl) ?_
        refine jr_goto hC (D_X12_termOf.g 76 rfl) 158 rfl ?_
        refine jr_pick [0, 1, 2, 3] rfl ?_
        exact hj_158 (v12 - v14) h
      refine jr_iload hC (D_X12_termOf.g 77 rfl) 4 rfl ?_
      refine jr_iconst hC (D_X12_termOf.g 78 rfl) ?_
      refine jr_icmp_ne hC (D_X12_termOf.g 79 rfl) 153 rfl h (fun h => ?_) (fun h => ?_)
      · refine jr_iload hC (D_X12_termOf.g 80 rfl) 5 rfl ?_
        refine jr_iload hC (D_X12_termOf.g 81 rfl) 6 rfl ?_
        refine jr_imul hC (D_X12_termOf.g 82 rfl) ?_
        refine jr_goto hC (D_X12_termOf.g 83 rfl) 158 rfl ?_
        refine jr_pick [0, 1, 2, 3] rfl ?_
        exact hj_158 (v12 * v14) h
      refine jr_iload hC (D_X12_termOf.g 84 rfl) 5 rfl ?_
      refine jr_iload hC (D_X12_termOf.g 85 rfl) 6 rfl ?_
      refine jr_idiv hC (D_X12_termOf.g 86 rfl) h (fun v17 _ h => ?_)
      refine jr_pick [0, 1, 2, 3] rfl ?_
      exact hj_158 v17 h
    intro j_104 hj_104 h
    refine jr_icmp_ne hC (D_X12_termOf.g 50 rfl) 104 rfl h (fun h => ?_) (fun h => ?_)
    · refine jr_iload hC (D_X12_termOf.g 51 rfl) 0 rfl ?_
      refine jr_if_ne hC (D_X12_termOf.g 52 rfl) 104 rfl h (fun h => ?_) (fun h => ?_)
      · refine jr_aload_n hC (D_X12_termOf.g 53 rfl) 4 rfl ?_
        refine jr_iconst hC (D_X12_termOf.g 54 rfl) ?_
        refine jr_putZ hC fl_X12_310 rfl (jnfin rfl) (D_X12_termOf.g 55 rfl) h (fun M18 _ h => ?_)
        refine jr_iconst hC (D_X12_termOf.g 56 rfl) ?_
        exact jr_iret hC (D_X12_termOf.g 57 rfl) hr hE h
      refine jr_pick [4, 5, 2, 6, 3, 1, 0] rfl ?_
      exact hj_104  h
    refine jr_pick [4, 5, 2, 6, 3, 1, 0] rfl ?_
    exact hj_104  h
  refine jr_aload_n hC (D_X12_termOf.g 90 rfl) 0 rfl ?_
  refine jr_getR hC fl_X12_107 rfl (D_X12_termOf.g 91 rfl) h (fun r19 h => ?_)
  refine jr_iconst hC (D_X12_termOf.g 92 rfl) ?_
  refine jr_iald hC (D_X12_termOf.g 93 rfl) h (fun v20 h => ?_)
  exact jr_iret hC (D_X12_termOf.g 94 rfl) hr hE h
def f_X12_in (x0 : Int) (x1 : Int) (x2 : Int) (M : jMem) : Option (Int × jMem) :=
jjq (jm_z 0 M) fun j_14 =>
if jd_wr x0 < jd_wr x1 then (j_14 )
else (if jd_wr x0 ≤ jd_wr x2 then (jm_z 1 M)
else (j_14 ))
theorem D_X12_in : jDs cX12_in [(0, .iload_n 0, 1, 1), (1, .iload_n 1, 1, 2), (2, .if_icmp .lt 12, 3, 5), (5, .iload_n 0, 1, 6), (6, .iload_n 2, 1, 7), (7, .if_icmp .gt 7, 3, 10), (10, .iconst 1, 1, 11), (11, .goto 4, 3, 14), (14, .iconst 0, 1, 15), (15, .ireturn, 1, 16)] := by unfold jDs; decide +kernel
set_option maxRecDepth 100000 in
set_option maxHeartbeats 4000000 in
theorem c_X12_in {E : jE} {x0 : Int} {x1 : Int} {x2 : Int} {M : jMem} {r : Int} {M' : jMem} (h : f_X12_in x0 x1 x2 M = some (r, M')) : jMet E yX12_in cX12_in 3 (some .boolean) 2 0 0 [q_i x0, q_i x1, q_i x2] M (some (q_i r)) M' := by
  unfold f_X12_in at h
  refine jMet.of RX12 rfl (by decide +kernel) (Nat.le_of_ble_eq_true rfl) [(0, q_i x0), (1, q_i x1), (2, q_i x2)] rfl (fun X hC hE hr hn => ?_)
  refine jr_iload_n hC (D_X12_in.g 0 rfl) 0 rfl ?_
  refine jr_iload_n hC (D_X12_in.g 1 rfl) 1 rfl ?_
  refine jr_join h (fun j => j = some (r, M') → JW E X 3 0 0 M 14 [] []) ?_ ?_
  · intro  h
    refine jr_iconst hC (D_X12_in.g 8 rfl) ?_
    exact jr_zret hC (D_X12_in.g 9 rfl) hr hE h
  intro j_14 hj_14 h
  refine jr_icmp_lt hC (D_X12_in.g 2 rfl) 14 rfl h (fun h => ?_) (fun h => ?_)
  · refine jr_pick [] rfl ?_
    exact hj_14  h
  refine jr_iload_n hC (D_X12_in.g 3 rfl) 0 rfl ?_
  refine jr_iload_n hC (D_X12_in.g 4 rfl) 2 rfl ?_
  refine jr_icmp_gt hC (D_X12_in.g 5 rfl) 14 rfl h (fun h => ?_) (fun h => ?_)
  · refine jr_iconst hC (D_X12_in.g 6 rfl) ?_
    refine jr_goto hC (D_X12_in.g 7 rfl) 15 rfl ?_
    exact jr_zret hC (D_X12_in.g 9 rfl) hr hE h
  refine jr_pick [] rfl ?_
  exact hj_14  h
def f_X12_within (x0 : Int) (x1 : Int) (x2 : Int) (M : jMem) : Option (Int × jMem) :=
if jd_wr x0 < jd_wr x1 then (some (x1, M))
else (if jd_wr x0 ≤ jd_wr x2 then (some (x0, M))
else (some (x2, M)))
theorem D_X12_within : jDs cX12_within [(0, .iload_n 0, 1, 1), (1, .iload_n 1, 1, 2), (2, .if_icmp .ge 7, 3, 5), (5, .iload_n 1, 1, 6), (6, .goto 13, 3, 9), (9, .iload_n 0, 1, 10), (10, .iload_n 2, 1, 11), (11, .if_icmp .le 7, 3, 14), (14, .iload_n 2, 1, 15), (15, .goto 4, 3, 18), (18, .iload_n 0, 1, 19), (19, .ireturn, 1, 20)] := by unfold jDs; decide +kernel
set_option maxRecDepth 100000 in
set_option maxHeartbeats 4000000 in
theorem c_X12_within {E : jE} {x0 : Int} {x1 : Int} {x2 : Int} {M : jMem} {r : Int} {M' : jMem} (h : f_X12_within x0 x1 x2 M = some (r, M')) : jMet E yX12_within cX12_within 3 (some .int) 2 0 0 [q_i x0, q_i x1, q_i x2] M (some (q_i r)) M' := by
  unfold f_X12_within at h
  refine jMet.of RX12 rfl (by decide +kernel) (Nat.le_of_ble_eq_true rfl) [(0, q_i x0), (1, q_i x1), (2, q_i x2)] rfl (fun X hC hE hr hn => ?_)
  refine jr_iload_n hC (D_X12_within.g 0 rfl) 0 rfl ?_
  refine jr_iload_n hC (D_X12_within.g 1 rfl) 1 rfl ?_
  refine jr_icmp_ge hC (D_X12_within.g 2 rfl) 9 rfl h (fun h => ?_) (fun h => ?_)
  · refine jr_iload_n hC (D_X12_within.g 3 rfl) 1 rfl ?_
    refine jr_goto hC (D_X12_within.g 4 rfl) 19 rfl ?_
    exact jr_iret hC (D_X12_within.g 11 rfl) hr hE h
  refine jr_iload_n hC (D_X12_within.g 5 rfl) 0 rfl ?_
  refine jr_iload_n hC (D_X12_within.g 6 rfl) 2 rfl ?_
  refine jr_icmp_le hC (D_X12_within.g 7 rfl) 18 rfl h (fun h => ?_) (fun h => ?_)
  · refine jr_iload_n hC (D_X12_within.g 10 rfl) 0 rfl ?_
    exact jr_iret hC (D_X12_within.g 11 rfl) hr hE h
  refine jr_iload_n hC (D_X12_within.g 8 rfl) 2 rfl ?_
  refine jr_goto hC (D_X12_within.g 9 rfl) 19 rfl ?_
  exact jr_iret hC (D_X12_within.g 11 rfl) hr hE h
def f_X12_off (x0 : Int) (x1 : Int) (M : jMem) : Option (Int × jMem) :=
if jd_wr x0 < jd_wr x1 then (some ((x1 - x0), M))
else (some ((x0 - x1), M))
theorem D_X12_off : jDs cX12_off [(0, .iload_n 0, 1, 1), (1, .iload_n 1, 1, 2), (2, .if_icmp .ge 9, 3, 5), (5, .iload_n 1, 1, 6), (6, .iload_n 0, 1, 7), (7, .isub, 1, 8), (8, .goto 6, 3, 11), (11, .iload_n 0, 1, 12), (12, .iload_n 1, 1, 13), (13, .isub, 1, 14), (14, .ireturn, 1, 15)] := by unfold jDs; decide +kernel
set_option maxRecDepth 100000 in
set_option maxHeartbeats 4000000 in
theorem c_X12_off {E : jE} {x0 : Int} {x1 : Int} {M : jMem} {r : Int} {M' : jMem} (h : f_X12_off x0 x1 M = some (r, M')) : jMet E yX12_off cX12_off 2 (some .int) 2 0 0 [q_i x0, q_i x1] M (some (q_i r)) M' := by
  unfold f_X12_off at h
  refine jMet.of RX12 rfl (by decide +kernel) (Nat.le_of_ble_eq_true rfl) [(0, q_i x0), (1, q_i x1)] rfl (fun X hC hE hr hn => ?_)
  refine jr_iload_n hC (D_X12_off.g 0 rfl) 0 rfl ?_
  refine jr_iload_n hC (D_X12_off.g 1 rfl) 1 rfl ?_
  refine jr_icmp_ge hC (D_X12_off.g 2 rfl) 11 rfl h (fun h => ?_) (fun h => ?_)
  · refine jr_iload_n hC (D_X12_off.g 3 rfl) 1 rfl ?_
    refine jr_iload_n hC (D_X12_off.g 4 rfl) 0 rfl ?_
    refine jr_isub hC (D_X12_off.g 5 rfl) ?_
    refine jr_goto hC (D_X12_off.g 6 rfl) 14 rfl ?_
    exact jr_iret hC (D_X12_off.g 10 rfl) hr hE h
  refine jr_iload_n hC (D_X12_off.g 7 rfl) 0 rfl ?_
  refine jr_iload_n hC (D_X12_off.g 8 rfl) 1 rfl ?_
  refine jr_isub hC (D_X12_off.g 9 rfl) ?_
  exact jr_iret hC (D_X12_off.g 10 rfl) hr hE h
def f_X12_cells (th : Nat) (M : jMem) : Option (Int × jMem) :=
(jm_gR 12 20 M th).bind fun r1 =>
(jm_gI 12 18 M th).bind fun v2 =>
(jm_ld 20 M r1 v2).bind fun v3 =>
(jm_gR 12 21 M th).bind fun r4 =>
(jm_gI 12 18 M th).bind fun v5 =>
(jm_ld 20 M r4 v5).bind fun v6 =>
some ((v3 * v6), M)
theorem D_X12_cells : jDs cX12_cells [(0, .aload_n 0, 1, 1), (1, .getfield 40, 3, 4), (4, .aload_n 0, 1, 5), (5, .getfield 245, 3, 8), (8, .iaload, 1, 9), (9, .aload_n 0, 1, 10), (10, .getfield 43, 3, 13), (13, .aload_n 0, 1, 14), (14, .getfield 245, 3, 17), (17, .iaload, 1, 18), (18, .imul, 1, 19), (19, .ireturn, 1, 20)] := by unfold jDs; decide +kernel
set_option maxRecDepth 100000 in
set_option maxHeartbeats 4000000 in
theorem c_X12_cells {E : jE} {th : Nat} {M : jMem} {r : Int} {M' : jMem} (h : f_X12_cells th M = some (r, M')) : jMet E yX12_cells cX12_cells 1 (some .int) 2 0 0 [q_r E th] M (some (q_i r)) M' := by
  unfold f_X12_cells at h
  refine jMet.of RX12 rfl (by decide +kernel) (Nat.le_of_ble_eq_true rfl) [(0, q_r E th)] rfl (fun X hC hE hr hn => ?_)
  refine jr_aload_n hC (D_X12_cells.g 0 rfl) 0 rfl ?_
  refine jr_getR hC fl_X12_40 rfl (D_X12_cells.g 1 rfl) h (fun r1 h => ?_)
  refine jr_aload_n hC (D_X12_cells.g 2 rfl) 0 rfl ?_
  refine jr_getI hC fl_X12_245 rfl (D_X12_cells.g 3 rfl) h (fun v2 h => ?_)
  refine jr_iald hC (D_X12_cells.g 4 rfl) h (fun v3 h => ?_)
  refine jr_aload_n hC (D_X12_cells.g 5 rfl) 0 rfl ?_
  refine jr_getR hC fl_X12_43 rfl (D_X12_cells.g 6 rfl) h (fun r4 h => ?_)
  refine jr_aload_n hC (D_X12_cells.g 7 rfl) 0 rfl ?_
  refine jr_getI hC fl_X12_245 rfl (D_X12_cells.g 8 rfl) h (fun v5 h => ?_)
  refine jr_iald hC (D_X12_cells.g 9 rfl) h (fun v6 h => ?_)
  refine jr_imul hC (D_X12_cells.g 10 rfl) ?_
  exact jr_iret hC (D_X12_cells.g 11 rfl) hr hE h
def f_X12_isCell (th : Nat) (x1 : Int) (M : jMem) : Option (Int × jMem) :=
jcall 12 M th (f_X12_cells th M) fun v1 M2 =>
jbd (f_X12_in x1 0 (v1 - 1) M2) fun v3 M4 =>
jm_z v3 M4
theorem D_X12_isCell : jDs cX12_isCell [(0, .iload_n 1, 1, 1), (1, .iconst 0, 1, 2), (2, .aload_n 0, 1, 3), (3, .invokevirtual 314, 3, 6), (6, .iconst 1, 1, 7), (7, .isub, 1, 8), (8, .invokestatic 318, 3, 11), (11, .ireturn, 1, 12)] := by unfold jDs; decide +kernel
set_option maxRecDepth 100000 in
set_option maxHeartbeats 4000000 in
theorem c_X12_isCell {E : jE} {th : Nat} {x1 : Int} {M : jMem} {r : Int} {M' : jMem} (h : f_X12_isCell th x1 M = some (r, M')) : jMet E yX12_isCell cX12_isCell 2 (some .boolean) 3 0 0 [q_r E th, q_i x1] M (some (q_i r)) M' := by
  unfold f_X12_isCell at h
  refine jMet.of RX12 rfl (by decide +kernel) (Nat.le_of_ble_eq_true rfl) [(0, q_r E th), (1, q_i x1)] rfl (fun X hC hE hr hn => ?_)
  refine jr_iload_n hC (D_X12_isCell.g 0 rfl) 1 rfl ?_
  refine jr_iconst hC (D_X12_isCell.g 1 rfl) ?_
  refine jr_aload_n hC (D_X12_isCell.g 2 rfl) 0 rfl ?_
  refine jr_cVi hC cl_X12_314 ⟨rfl, by decide⟩ (D_X12_isCell.g 3 rfl) [] h (fun r M' e => c_X12_cells e) rfl rfl ⟨by decide, by decide⟩ (Nat.le_of_ble_eq_true rfl) ⟨Nat.le_of_ble_eq_true rfl, Nat.le_of_ble_eq_true rfl⟩ (fun v1 M2 h => ?_)
  refine jr_iconst hC (D_X12_isCell.g 4 rfl) ?_
  refine jr_isub hC (D_X12_isCell.g 5 rfl) ?_
  refine jr_cSi hC cl_X12_318 (D_X12_isCell.g 6 rfl) [q_i x1, q_i 0, q_i (v1 - 1)] h (fun r M' e => c_X12_in e) rfl rfl ⟨by decide, by decide⟩ (Nat.le_of_ble_eq_true rfl) ⟨Nat.le_of_ble_eq_true rfl, Nat.le_of_ble_eq_true rfl⟩ (fun v3 M4 h => ?_)
  exact jr_zret hC (D_X12_isCell.g 7 rfl) hr hE h
def f_X12_copies (th : Nat) (M : jMem) : Option (Int × jMem) :=
jlp2 (fun rec_2 (y1_2 : Int) (M_2 : jMem) =>
if jd_wr y1_2 < jd_wr 75 then ((jm_gR 12 48 M_2 th).bind fun r1 =>
(jm_gR 12 47 M_2 th).bind fun r2 =>
(jm_ld 20 M_2 r2 y1_2).bind fun v3 =>
(jm_st 20 M_2 r1 y1_2 v3).bind fun M4 =>
rec_2 (y1_2 + 1) M4)
else ((jm_gR 12 29 M_2 th).bind fun r5 =>
(jm_gI 12 18 M_2 th).bind fun v6 =>
(jm_ld 20 M_2 r5 v6).bind fun v7 =>
(jm_pI 12 49 M_2 th v7).bind fun M8 =>
some (0, M8))) jfuel 0 M
theorem D_X12_copies : jDs cX12_copies [(0, .iconst 0, 1, 1), (1, .istore_n 1, 1, 2), (2, .iload_n 1, 1, 3), (3, .bipush 75, 2, 5), (5, .if_icmp .ge 21, 3, 8), (8, .aload_n 0, 1, 9), (9, .getfield 113, 3, 12), (12, .iload_n 1, 1, 13), (13, .aload_n 0, 1, 14), (14, .getfield 110, 3, 17), (17, .iload_n 1, 1, 18), (18, .iaload, 1, 19), (19, .iastore, 1, 20), (20, .iinc 1 1, 3, 23), (23, .goto (-21), 3, 26), (26, .aload_n 0, 1, 27), (27, .aload_n 0, 1, 28), (28, .getfield 67, 3, 31), (31, .aload_n 0, 1, 32), (32, .getfield 245, 3, 35), (35, .iaload, 1, 36), (36, .putfield 325, 3, 39), (39, .return_, 1, 40)] := by unfold jDs; decide +kernel
set_option maxRecDepth 100000 in
set_option maxHeartbeats 4000000 in
theorem c_X12_copies {E : jE} {th : Nat} {M : jMem} {r : Int} {M' : jMem} (h : f_X12_copies th M = some (r, M')) : jMet E yX12_copies cX12_copies 2 (none) 2 0 0 [q_r E th] M (none) M' := by
  unfold f_X12_copies at h
  refine jMet.of RX12 rfl (by decide +kernel) (Nat.le_of_ble_eq_true rfl) [(0, q_r E th)] rfl (fun X hC hE hr hn => ?_)
  refine jr_iconst hC (D_X12_copies.g 0 rfl) ?_
  refine jr_istore_n hC (D_X12_copies.g 1 rfl) (by decide) rfl ?_
  refine jr_pick [1, 0] rfl ?_
  refine jr_lp2 (fun (y1_2 : Int) (M_2 : jMem) => JW E X 2 0 0 M_2 2 [(0, q_r E th), (1, q_i y1_2)] []) ?_ jfuel 0 M h
  intro rec_2 hrec_2 y1_2 M_2 h
  refine jr_iload_n hC (D_X12_copies.g 2 rfl) 1 rfl ?_
  refine jr_bipush hC (D_X12_copies.g 3 rfl) bp_75 ?_
  refine jr_icmp_ge hC (D_X12_copies.g 4 rfl) 26 rfl h (fun h => ?_) (fun h => ?_)
  · refine jr_aload_n hC (D_X12_copies.g 5 rfl) 0 rfl ?_
    refine jr_getR hC fl_X12_113 rfl (D_X12_copies.g 6 rfl) h (fun r1 h => ?_)
    refine jr_iload_n hC (D_X12_copies.g 7 rfl) 1 rfl ?_
    refine jr_aload_n hC (D_X12_copies.g 8 rfl) 0 rfl ?_
    refine jr_getR hC fl_X12_110 rfl (D_X12_copies.g 9 rfl) h (fun r2 h => ?_)
    refine jr_iload_n hC (D_X12_copies.g 10 rfl) 1 rfl ?_
    refine jr_iald hC (D_X12_copies.g 11 rfl) h (fun v3 h => ?_)
    refine jr_iast hC (D_X12_copies.g 12 rfl) h (fun M4 _ h => ?_)
    refine jr_iinc hC (D_X12_copies.g 13 rfl) 1 rfl (by decide) rfl ?_
    refine jr_goto hC (D_X12_copies.g 14 rfl) 2 rfl ?_
    refine jr_pick [1, 0] rfl ?_
    exact hrec_2 (y1_2 + 1) M4 h
  refine jr_aload_n hC (D_X12_copies.g 15 rfl) 0 rfl ?_
  refine jr_aload_n hC (D_X12_copies.g 16 rfl) 0 rfl ?_
  refine jr_getR hC fl_X12_67 rfl (D_X12_copies.g 17 rfl) h (fun r5 h => ?_)
  refine jr_aload_n hC (D_X12_copies.g 18 rfl) 0 rfl ?_
  refine jr_getI hC fl_X12_245 rfl (D_X12_copies.g 19 rfl) h (fun v6 h => ?_)
  refine jr_iald hC (D_X12_copies.g 20 rfl) h (fun v7 h => ?_)
  refine jr_putI hC fl_X12_325 rfl (jnfin rfl) (D_X12_copies.g 21 rfl) h (fun M8 _ h => ?_)
  exact jr_vret hC (D_X12_copies.g 22 rfl) hr hE h
def f_X12_mixed (x0 : Int) (x1 : Int) (M : jMem) : Option (Int × jMem) :=
some ((jd_xor (((jd_xor x0 x1) * 1103515245) + 12345) (jd_ushr (((jd_xor x0 x1) * 1103515245) + 12345) 15)), M)
theorem D_X12_mixed : jDs cX12_mixed [(0, .iload_n 0, 1, 1), (1, .iload_n 1, 1, 2), (2, .ixor, 1, 3), (3, .ldc_w 328, 3, 6), (6, .imul, 1, 7), (7, .sipush 12345, 3, 10), (10, .iadd, 1, 11), (11, .istore_n 2, 1, 12), (12, .iload_n 2, 1, 13), (13, .iload_n 2, 1, 14), (14, .bipush 15, 2, 16), (16, .iushr, 1, 17), (17, .ixor, 1, 18), (18, .ireturn, 1, 19)] := by unfold jDs; decide +kernel
set_option maxRecDepth 100000 in
set_option maxHeartbeats 4000000 in
theorem c_X12_mixed {E : jE} {x0 : Int} {x1 : Int} {M : jMem} {r : Int} {M' : jMem} (h : f_X12_mixed x0 x1 M = some (r, M')) : jMet E yX12_mixed cX12_mixed 3 (some .int) 2 0 0 [q_i x0, q_i x1] M (some (q_i r)) M' := by
  unfold f_X12_mixed at h
  refine jMet.of RX12 rfl (by decide +kernel) (Nat.le_of_ble_eq_true rfl) [(0, q_i x0), (1, q_i x1)] rfl (fun X hC hE hr hn => ?_)
  refine jr_iload_n hC (D_X12_mixed.g 0 rfl) 0 rfl ?_
  refine jr_iload_n hC (D_X12_mixed.g 1 rfl) 1 rfl ?_
  refine jr_ixor hC (D_X12_mixed.g 2 rfl) ?_
  refine jr_ldcw hC (1103515245) (jt_in (i := 1806) (by decide +kernel) rfl) (D_X12_mixed.g 3 rfl) ?_
  refine jr_imul hC (D_X12_mixed.g 4 rfl) ?_
  refine jr_sipush hC (D_X12_mixed.g 5 rfl) sp_12345 ?_
  refine jr_iadd hC (D_X12_mixed.g 6 rfl) ?_
  refine jr_istore_n hC (D_X12_mixed.g 7 rfl) (by decide) rfl ?_
  refine jr_iload_n hC (D_X12_mixed.g 8 rfl) 0 rfl ?_
  refine jr_iload_n hC (D_X12_mixed.g 9 rfl) 0 rfl ?_
  refine jr_bipush hC (D_X12_mixed.g 10 rfl) bp_15 ?_
  refine jr_iushr hC (D_X12_mixed.g 11 rfl) ?_
  refine jr_ixor hC (D_X12_mixed.g 12 rfl) ?_
  exact jr_iret hC (D_X12_mixed.g 13 rfl) hr hE h
def f_X12_lotOf (th : Nat) (x1 : Int) (M : jMem) : Option (Int × jMem) :=
(jm_gI 12 49 M th).bind fun v1 =>
jbd (f_X12_mixed v1 169 M) fun v2 M3 =>
jbd (f_X12_mixed v2 x1 M3) fun v4 M5 =>
(jm_rm (jd_ushr v4 1) 100).bind fun v6 =>
some (v6, M5)
theorem D_X12_lotOf : jDs cX12_lotOf [(0, .aload_n 0, 1, 1), (1, .getfield 325, 3, 4), (4, .sipush 169, 3, 7), (7, .invokestatic 329, 3, 10), (10, .iload_n 1, 1, 11), (11, .invokestatic 329, 3, 14), (14, .iconst 1, 1, 15), (15, .iushr, 1, 16), (16, .bipush 100, 2, 18), (18, .irem, 1, 19), (19, .ireturn, 1, 20)] := by unfold jDs; decide +kernel
set_option maxRecDepth 100000 in
set_option maxHeartbeats 4000000 in
theorem c_X12_lotOf {E : jE} {th : Nat} {x1 : Int} {M : jMem} {r : Int} {M' : jMem} (h : f_X12_lotOf th x1 M = some (r, M')) : jMet E yX12_lotOf cX12_lotOf 2 (some .int) 3 0 0 [q_r E th, q_i x1] M (some (q_i r)) M' := by
  unfold f_X12_lotOf at h
  refine jMet.of RX12 rfl (by decide +kernel) (Nat.le_of_ble_eq_true rfl) [(0, q_r E th), (1, q_i x1)] rfl (fun X hC hE hr hn => ?_)
  refine jr_aload_n hC (D_X12_lotOf.g 0 rfl) 0 rfl ?_
  refine jr_getI hC fl_X12_325 rfl (D_X12_lotOf.g 1 rfl) h (fun v1 h => ?_)
  refine jr_sipush hC (D_X12_lotOf.g 2 rfl) sp_169 ?_
  refine jr_cSi hC cl_X12_329 (D_X12_lotOf.g 3 rfl) [q_i v1, q_i 169] h (fun r M' e => c_X12_mixed e) rfl rfl ⟨by decide, by decide⟩ (Nat.le_of_ble_eq_true rfl) ⟨Nat.le_of_ble_eq_true rfl, Nat.le_of_ble_eq_true rfl⟩ (fun v2 M3 h => ?_)
  refine jr_iload_n hC (D_X12_lotOf.g 4 rfl) 1 rfl ?_
  refine jr_cSi hC cl_X12_329 (D_X12_lotOf.g 5 rfl) [q_i v2, q_i x1] h (fun r M' e => c_X12_mixed e) rfl rfl ⟨by decide, by decide⟩ (Nat.le_of_ble_eq_true rfl) ⟨Nat.le_of_ble_eq_true rfl, Nat.le_of_ble_eq_true rfl⟩ (fun v4 M5 h => ?_)
  refine jr_iconst hC (D_X12_lotOf.g 6 rfl) ?_
  refine jr_iushr hC (D_X12_lotOf.g 7 rfl) ?_
  refine jr_bipush hC (D_X12_lotOf.g 8 rfl) bp_100 ?_
  refine jr_irem hC (D_X12_lotOf.g 9 rfl) h (fun v6 _ h => ?_)
  exact jr_iret hC (D_X12_lotOf.g 10 rfl) hr hE h
def f_X12_lies (th : Nat) (x1 : Int) (M : jMem) : Option (Int × jMem) :=
(jm_gR 12 48 M th).bind fun r1 =>
(jm_ld 20 M r1 x1).bind fun v2 =>
if jd_wr v2 < 0 then (jm_z 0 M)
else (jm_z 1 M)
theorem D_X12_lies : jDs cX12_lies [(0, .aload_n 0, 1, 1), (1, .getfield 113, 3, 4), (4, .iload_n 1, 1, 5), (5, .iaload, 1, 6), (6, .ifCond .lt 7, 3, 9), (9, .iconst 1, 1, 10), (10, .goto 4, 3, 13), (13, .iconst 0, 1, 14), (14, .ireturn, 1, 15)] := by unfold jDs; decide +kernel
set_option maxRecDepth 100000 in
set_option maxHeartbeats 4000000 in
theorem c_X12_lies {E : jE} {th : Nat} {x1 : Int} {M : jMem} {r : Int} {M' : jMem} (h : f_X12_lies th x1 M = some (r, M')) : jMet E yX12_lies cX12_lies 2 (some .boolean) 2 0 0 [q_r E th, q_i x1] M (some (q_i r)) M' := by
  unfold f_X12_lies at h
  refine jMet.of RX12 rfl (by decide +kernel) (Nat.le_of_ble_eq_true rfl) [(0, q_r E th), (1, q_i x1)] rfl (fun X hC hE hr hn => ?_)
  refine jr_aload_n hC (D_X12_lies.g 0 rfl) 0 rfl ?_
  refine jr_getR hC fl_X12_113 rfl (D_X12_lies.g 1 rfl) h (fun r1 h => ?_)
  refine jr_iload_n hC (D_X12_lies.g 2 rfl) 1 rfl ?_
  refine jr_iald hC (D_X12_lies.g 3 rfl) h (fun v2 h => ?_)
  refine jr_if_lt hC (D_X12_lies.g 4 rfl) 13 rfl h (fun h => ?_) (fun h => ?_)
  · refine jr_iconst hC (D_X12_lies.g 7 rfl) ?_
    exact jr_zret hC (D_X12_lies.g 8 rfl) hr hE h
  refine jr_iconst hC (D_X12_lies.g 5 rfl) ?_
  refine jr_goto hC (D_X12_lies.g 6 rfl) 14 rfl ?_
  exact jr_zret hC (D_X12_lies.g 8 rfl) hr hE h
def f_X12_otherCell (th : Nat) (x1 : Int) (M : jMem) : Option (Int × jMem) :=
(jm_gR 12 48 M th).bind fun r1 =>
(jm_ld 20 M r1 x1).bind fun v2 =>
(jm_gR 12 48 M th).bind fun r3 =>
(jm_ld 20 M r3 (18 + x1)).bind fun v4 =>
jjq (fun (z0_27 : Int) (M_27 : jMem) =>
some ((v2 + z0_27), M_27)) fun j_27 =>
if jd_wr v4 = jd_wr 1 then (jcall 12 M th (f_X12_w th M) fun v5 M6 =>
j_27 v5 M6)
else (j_27 1 M)
theorem D_X12_otherCell : jDs cX12_otherCell [(0, .aload_n 0, 1, 1), (1, .getfield 113, 3, 4), (4, .iload_n 1, 1, 5), (5, .iaload, 1, 6), (6, .aload_n 0, 1, 7), (7, .getfield 113, 3, 10), (10, .bipush 18, 2, 12), (12, .iload_n 1, 1, 13), (13, .iadd, 1, 14), (14, .iaload, 1, 15), (15, .iconst 1, 1, 16), (16, .if_icmp .ne 10, 3, 19), (19, .aload_n 0, 1, 20), (20, .invokevirtual 322, 3, 23), (23, .goto 4, 3, 26), (26, .iconst 1, 1, 27), (27, .iadd, 1, 28), (28, .ireturn, 1, 29)] := by unfold jDs; decide +kernel
set_option maxRecDepth 100000 in
set_option maxHeartbeats 4000000 in
theorem c_X12_otherCell {E : jE} {th : Nat} {x1 : Int} {M : jMem} {r : Int} {M' : jMem} (h : f_X12_otherCell th x1 M = some (r, M')) : jMet E yX12_otherCell cX12_otherCell 2 (some .int) 3 0 0 [q_r E th, q_i x1] M (some (q_i r)) M' := by
  unfold f_X12_otherCell at h
  refine jMet.of RX12 rfl (by decide +kernel) (Nat.le_of_ble_eq_true rfl) [(0, q_r E th), (1, q_i x1)] rfl (fun X hC hE hr hn => ?_)
  refine jr_aload_n hC (D_X12_otherCell.g 0 rfl) 0 rfl ?_
  refine jr_getR hC fl_X12_113 rfl (D_X12_otherCell.g 1 rfl) h (fun r1 h => ?_)
  refine jr_iload_n hC (D_X12_otherCell.g 2 rfl) 1 rfl ?_
  refine jr_iald hC (D_X12_otherCell.g 3 rfl) h (fun v2 h => ?_)
  refine jr_aload_n hC (D_X12_otherCell.g 4 rfl) 0 rfl ?_
  refine jr_getR hC fl_X12_113 rfl (D_X12_otherCell.g 5 rfl) h (fun r3 h => ?_)
  refine jr_bipush hC (D_X12_otherCell.g 6 rfl) bp_18 ?_
  refine jr_iload_n hC (D_X12_otherCell.g 7 rfl) 1 rfl ?_
  refine jr_iadd hC (D_X12_otherCell.g 8 rfl) ?_
  refine jr_iald hC (D_X12_otherCell.g 9 rfl) h (fun v4 h => ?_)
  refine jr_iconst hC (D_X12_otherCell.g 10 rfl) ?_
  refine jr_join h (fun j => ∀ (z0_27 : Int) (M_27 : jMem), j z0_27 M_27 = some (r, M') → JW E X 2 0 0 M_27 27 [] [q_i z0_27, q_i v2]) ?_ ?_
  · intro z0_27 M_27 h
    refine jr_iadd hC (D_X12_otherCell.g 16 rfl) ?_
    exact jr_iret hC (D_X12_otherCell.g 17 rfl) hr hE h
  intro j_27 hj_27 h
  refine jr_icmp_ne hC (D_X12_otherCell.g 11 rfl) 26 rfl h (fun h => ?_) (fun h => ?_)
  · refine jr_aload_n hC (D_X12_otherCell.g 12 rfl) 0 rfl ?_
    refine jr_cVi hC cl_X12_322 ⟨rfl, by decide⟩ (D_X12_otherCell.g 13 rfl) [] h (fun r M' e => c_X12_w e) rfl rfl ⟨by decide, by decide⟩ (Nat.le_of_ble_eq_true rfl) ⟨Nat.le_of_ble_eq_true rfl, Nat.le_of_ble_eq_true rfl⟩ (fun v5 M6 h => ?_)
    refine jr_goto hC (D_X12_otherCell.g 14 rfl) 27 rfl ?_
    refine jr_pick [] rfl ?_
    exact hj_27 v5 M6 h
  refine jr_iconst hC (D_X12_otherCell.g 15 rfl) ?_
  refine jr_pick [] rfl ?_
  exact hj_27 1 M h
def f_X12_coupleAt (th : Nat) (x1 : Int) (M : jMem) : Option (Int × jMem) :=
jlp2 (fun rec_2 (y2_2 : Int) (M_2 : jMem) =>
if jd_wr y2_2 < jd_wr 18 then (jcall 12 M_2 th (f_X12_lies th y2_2 M_2) fun v1 M2 =>
jjq (fun (M_37 : jMem) =>
rec_2 (y2_2 + 1) M_37) fun j_37 =>
if jd_wr v1 = 0 then (j_37 M2)
else ((jm_gR 12 48 M2 th).bind fun r3 =>
(jm_ld 20 M2 r3 y2_2).bind fun v4 =>
if jd_wr v4 = jd_wr x1 then (some (y2_2, M2))
else (jcall 12 M2 th (f_X12_otherCell th y2_2 M2) fun v5 M6 =>
if jd_wr v5 = jd_wr x1 then (some (y2_2, M6))
else (j_37 M6))))
else (some ((-2), M_2))) jfuel 0 M
theorem D_X12_coupleAt : jDs cX12_coupleAt [(0, .iconst 0, 1, 1), (1, .istore_n 2, 1, 2), (2, .iload_n 2, 1, 3), (3, .bipush 18, 2, 5), (5, .if_icmp .ge 38, 3, 8), (8, .aload_n 0, 1, 9), (9, .iload_n 2, 1, 10), (10, .invokevirtual 332, 3, 13), (13, .ifCond .eq 24, 3, 16), (16, .aload_n 0, 1, 17), (17, .getfield 113, 3, 20), (20, .iload_n 2, 1, 21), (21, .iaload, 1, 22), (22, .iload_n 1, 1, 23), (23, .if_icmp .eq 12, 3, 26), (26, .aload_n 0, 1, 27), (27, .iload_n 2, 1, 28), (28, .invokevirtual 335, 3, 31), (31, .iload_n 1, 1, 32), (32, .if_icmp .ne 5, 3, 35), (35, .iload_n 2, 1, 36), (36, .ireturn, 1, 37), (37, .iinc 2 1, 3, 40), (40, .goto (-38), 3, 43), (43, .bipush (-2), 2, 45), (45, .ireturn, 1, 46)] := by unfold jDs; decide +kernel
set_option maxRecDepth 100000 in
set_option maxHeartbeats 4000000 in
theorem c_X12_coupleAt {E : jE} {th : Nat} {x1 : Int} {M : jMem} {r : Int} {M' : jMem} (h : f_X12_coupleAt th x1 M = some (r, M')) : jMet E yX12_coupleAt cX12_coupleAt 3 (some .int) 4 0 0 [q_r E th, q_i x1] M (some (q_i r)) M' := by
  unfold f_X12_coupleAt at h
  refine jMet.of RX12 rfl (by decide +kernel) (Nat.le_of_ble_eq_true rfl) [(0, q_r E th), (1, q_i x1)] rfl (fun X hC hE hr hn => ?_)
  refine jr_iconst hC (D_X12_coupleAt.g 0 rfl) ?_
  refine jr_istore_n hC (D_X12_coupleAt.g 1 rfl) (by decide) rfl ?_
  refine jr_pick [1, 2, 0] rfl ?_
  refine jr_lp2 (fun (y2_2 : Int) (M_2 : jMem) => JW E X 3 0 0 M_2 2 [(0, q_r E th), (1, q_i x1), (2, q_i y2_2)] []) ?_ jfuel 0 M h
  intro rec_2 hrec_2 y2_2 M_2 h
  refine jr_iload_n hC (D_X12_coupleAt.g 2 rfl) 2 rfl ?_
  refine jr_bipush hC (D_X12_coupleAt.g 3 rfl) bp_18 ?_
  refine jr_icmp_ge hC (D_X12_coupleAt.g 4 rfl) 43 rfl h (fun h => ?_) (fun h => ?_)
  · refine jr_aload_n hC (D_X12_coupleAt.g 5 rfl) 0 rfl ?_
    refine jr_iload_n hC (D_X12_coupleAt.g 6 rfl) 2 rfl ?_
    refine jr_cVi hC cl_X12_332 ⟨rfl, by decide⟩ (D_X12_coupleAt.g 7 rfl) [q_i y2_2] h (fun r M' e => c_X12_lies e) rfl rfl ⟨by decide, by decide⟩ (Nat.le_of_ble_eq_true rfl) ⟨Nat.le_of_ble_eq_true rfl, Nat.le_of_ble_eq_true rfl⟩ (fun v1 M2 h => ?_)
    refine jr_join h (fun j => ∀ (M_37 : jMem), j M_37 = some (r, M') → JW E X 3 0 0 M_37 37 [(0, q_r E th), (1, q_i x1), (2, q_i y2_2)] []) ?_ ?_
    · intro M_37 h
      refine jr_iinc hC (D_X12_coupleAt.g 22 rfl) 2 rfl (by decide) rfl ?_
      refine jr_goto hC (D_X12_coupleAt.g 23 rfl) 2 rfl ?_
      refine jr_pick [1, 2, 0] rfl ?_
      exact hrec_2 (y2_2 + 1) M_37 h
    intro j_37 hj_37 h
    refine jr_if_eq hC (D_X12_coupleAt.g 8 rfl) 37 rfl h (fun h => ?_) (fun h => ?_)
    · exact hj_37 M2 h
    refine jr_aload_n hC (D_X12_coupleAt.g 9 rfl) 0 rfl ?_
    refine jr_getR hC fl_X12_113 rfl (D_X12_coupleAt.g 10 rfl) h (fun r3 h => ?_)
    refine jr_iload_n hC (D_X12_coupleAt.g 11 rfl) 2 rfl ?_
    refine jr_iald hC (D_X12_coupleAt.g 12 rfl) h (fun v4 h => ?_)
    refine jr_iload_n hC (D_X12_coupleAt.g 13 rfl) 1 rfl ?_
    refine jr_icmp_eq hC (D_X12_coupleAt.g 14 rfl) 35 rfl h (fun h => ?_) (fun h => ?_)
    · refine jr_iload_n hC (D_X12_coupleAt.g 20 rfl) 2 rfl ?_
      exact jr_iret hC (D_X12_coupleAt.g 21 rfl) hr hE h
    refine jr_aload_n hC (D_X12_coupleAt.g 15 rfl) 0 rfl ?_
    refine jr_iload_n hC (D_X12_coupleAt.g 16 rfl) 2 rfl ?_
    refine jr_cVi hC cl_X12_335 ⟨rfl, by decide⟩ (D_X12_coupleAt.g 17 rfl) [q_i y2_2] h (fun r M' e => c_X12_otherCell e) rfl rfl ⟨by decide, by decide⟩ (Nat.le_of_ble_eq_true rfl) ⟨Nat.le_of_ble_eq_true rfl, Nat.le_of_ble_eq_true rfl⟩ (fun v5 M6 h => ?_)
    refine jr_iload_n hC (D_X12_coupleAt.g 18 rfl) 1 rfl ?_
    refine jr_icmp_ne hC (D_X12_coupleAt.g 19 rfl) 37 rfl h (fun h => ?_) (fun h => ?_)
    · refine jr_iload_n hC (D_X12_coupleAt.g 20 rfl) 2 rfl ?_
      exact jr_iret hC (D_X12_coupleAt.g 21 rfl) hr hE h
    exact hj_37 M6 h
  refine jr_bipush hC (D_X12_coupleAt.g 24 rfl) bp_m2 ?_
  exact jr_iret hC (D_X12_coupleAt.g 25 rfl) hr hE h
def f_X12_stoneMany (th : Nat) (M : jMem) : Option (Int × jMem) :=
jlp3 (fun rec_4 (y1_4 : Int) (y2_4 : Int) (M_4 : jMem) =>
if jd_wr y2_4 < jd_wr 18 then (jcall 12 M_4 th (f_X12_lies th y2_4 M_4) fun v1 M2 =>
jjq (fun (y1_21 : Int) =>
rec_4 y1_21 (y2_4 + 1) M2) fun j_21 =>
if jd_wr v1 = 0 then (j_21 y1_4)
else (j_21 (y1_4 + 1)))
else (some (y1_4, M_4))) jfuel 0 0 M
theorem D_X12_stoneMany : jDs cX12_stoneMany [(0, .iconst 0, 1, 1), (1, .istore_n 1, 1, 2), (2, .iconst 0, 1, 3), (3, .istore_n 2, 1, 4), (4, .iload_n 2, 1, 5), (5, .bipush 18, 2, 7), (7, .if_icmp .ge 20, 3, 10), (10, .aload_n 0, 1, 11), (11, .iload_n 2, 1, 12), (12, .invokevirtual 332, 3, 15), (15, .ifCond .eq 6, 3, 18), (18, .iinc 1 1, 3, 21), (21, .iinc 2 1, 3, 24), (24, .goto (-20), 3, 27), (27, .iload_n 1, 1, 28), (28, .ireturn, 1, 29)] := by unfold jDs; decide +kernel
set_option maxRecDepth 100000 in
set_option maxHeartbeats 4000000 in
theorem c_X12_stoneMany {E : jE} {th : Nat} {M : jMem} {r : Int} {M' : jMem} (h : f_X12_stoneMany th M = some (r, M')) : jMet E yX12_stoneMany cX12_stoneMany 3 (some .int) 3 0 0 [q_r E th] M (some (q_i r)) M' := by
  unfold f_X12_stoneMany at h
  refine jMet.of RX12 rfl (by decide +kernel) (Nat.le_of_ble_eq_true rfl) [(0, q_r E th)] rfl (fun X hC hE hr hn => ?_)
  refine jr_iconst hC (D_X12_stoneMany.g 0 rfl) ?_
  refine jr_istore_n hC (D_X12_stoneMany.g 1 rfl) (by decide) rfl ?_
  refine jr_iconst hC (D_X12_stoneMany.g 2 rfl) ?_
  refine jr_istore_n hC (D_X12_stoneMany.g 3 rfl) (by decide) rfl ?_
  refine jr_pick [2, 1, 0] rfl ?_
  refine jr_lp3 (fun (y1_4 : Int) (y2_4 : Int) (M_4 : jMem) => JW E X 3 0 0 M_4 4 [(0, q_r E th), (1, q_i y1_4), (2, q_i y2_4)] []) ?_ jfuel 0 0 M h
  intro rec_4 hrec_4 y1_4 y2_4 M_4 h
  refine jr_iload_n hC (D_X12_stoneMany.g 4 rfl) 2 rfl ?_
  refine jr_bipush hC (D_X12_stoneMany.g 5 rfl) bp_18 ?_
  refine jr_icmp_ge hC (D_X12_stoneMany.g 6 rfl) 27 rfl h (fun h => ?_) (fun h => ?_)
  · refine jr_aload_n hC (D_X12_stoneMany.g 7 rfl) 0 rfl ?_
    refine jr_iload_n hC (D_X12_stoneMany.g 8 rfl) 2 rfl ?_
    refine jr_cVi hC cl_X12_332 ⟨rfl, by decide⟩ (D_X12_stoneMany.g 9 rfl) [q_i y2_4] h (fun r M' e => c_X12_lies e) rfl rfl ⟨by decide, by decide⟩ (Nat.le_of_ble_eq_true rfl) ⟨Nat.le_of_ble_eq_true rfl, Nat.le_of_ble_eq_true rfl⟩ (fun v1 M2 h => ?_)
    refine jr_join h (fun j => ∀ (y1_21 : Int), j y1_21 = some (r, M') → JW E X 3 0 0 M2 21 [(0, q_r E th), (1, q_i y1_21), (2, q_i y2_4)] []) ?_ ?_
    · intro y1_21 h
      refine jr_iinc hC (D_X12_stoneMany.g 12 rfl) 2 rfl (by decide) rfl ?_
      refine jr_goto hC (D_X12_stoneMany.g 13 rfl) 4 rfl ?_
      refine jr_pick [1, 2, 0] rfl ?_
      exact hrec_4 y1_21 (y2_4 + 1) M2 h
    intro j_21 hj_21 h
    refine jr_if_eq hC (D_X12_stoneMany.g 10 rfl) 21 rfl h (fun h => ?_) (fun h => ?_)
    · exact hj_21 y1_4 h
    refine jr_iinc hC (D_X12_stoneMany.g 11 rfl) 1 rfl (by decide) rfl ?_
    refine jr_pick [1, 0, 2] rfl ?_
    exact hj_21 (y1_4 + 1) h
  refine jr_iload_n hC (D_X12_stoneMany.g 14 rfl) 1 rfl ?_
  exact jr_iret hC (D_X12_stoneMany.g 15 rfl) hr hE h
def f_X12_isFree (th : Nat) (x1 : Int) (M : jMem) : Option (Int × jMem) :=
jcall 12 M th (f_X12_isCell th x1 M) fun v1 M2 =>
jjq (fun (M_29 : jMem) =>
jm_z 0 M_29) fun j_29 =>
if jd_wr v1 = 0 then (j_29 M2)
else ((jm_gR 12 50 M2 th).bind fun r3 =>
(jm_ld 22 M2 r3 x1).bind fun v4 =>
if jd_wr v4 = 0 then (jcall 12 M2 th (f_X12_coupleAt th x1 M2) fun v5 M6 =>
if jd_wr v5 < 0 then (jm_z 1 M6)
else (j_29 M6))
else (j_29 M2))
theorem D_X12_isFree : jDs cX12_isFree [(0, .aload_n 0, 1, 1), (1, .iload_n 1, 1, 2), (2, .invokevirtual 338, 3, 5), (5, .ifCond .eq 24, 3, 8), (8, .aload_n 0, 1, 9), (9, .getfield 116, 3, 12), (12, .iload_n 1, 1, 13), (13, .baload, 1, 14), (14, .ifCond .ne 15, 3, 17), (17, .aload_n 0, 1, 18), (18, .iload_n 1, 1, 19), (19, .invokevirtual 341, 3, 22), (22, .ifCond .ge 7, 3, 25), (25, .iconst 1, 1, 26), (26, .goto 4, 3, 29), (29, .iconst 0, 1, 30), (30, .ireturn, 1, 31)] := by unfold jDs; decide +kernel
set_option maxRecDepth 100000 in
set_option maxHeartbeats 4000000 in
theorem c_X12_isFree {E : jE} {th : Nat} {x1 : Int} {M : jMem} {r : Int} {M' : jMem} (h : f_X12_isFree th x1 M = some (r, M')) : jMet E yX12_isFree cX12_isFree 2 (some .boolean) 5 0 0 [q_r E th, q_i x1] M (some (q_i r)) M' := by
  unfold f_X12_isFree at h
  refine jMet.of RX12 rfl (by decide +kernel) (Nat.le_of_ble_eq_true rfl) [(0, q_r E th), (1, q_i x1)] rfl (fun X hC hE hr hn => ?_)
  refine jr_aload_n hC (D_X12_isFree.g 0 rfl) 0 rfl ?_
  refine jr_iload_n hC (D_X12_isFree.g 1 rfl) 1 rfl ?_
  refine jr_cVi hC cl_X12_338 ⟨rfl, by decide⟩ (D_X12_isFree.g 2 rfl) [q_i x1] h (fun r M' e => c_X12_isCell e) rfl rfl ⟨by decide, by decide⟩ (Nat.le_of_ble_eq_true rfl) ⟨Nat.le_of_ble_eq_true rfl, Nat.le_of_ble_eq_true rfl⟩ (fun v1 M2 h => ?_)
  refine jr_join h (fun j => ∀ (M_29 : jMem), j M_29 = some (r, M') → JW E X 2 0 0 M_29 29 [] []) ?_ ?_
  · intro M_29 h
    refine jr_iconst hC (D_X12_isFree.g 15 rfl) ?_
    exact jr_zret hC (D_X12_isFree.g 16 rfl) hr hE h
  intro j_29 hj_29 h
  refine jr_if_eq hC (D_X12_isFree.g 3 rfl) 29 rfl h (fun h => ?_) (fun h => ?_)
  · refine jr_pick [] rfl ?_
    exact hj_29 M2 h
  refine jr_aload_n hC (D_X12_isFree.g 4 rfl) 0 rfl ?_
  refine jr_getR hC fl_X12_116 rfl (D_X12_isFree.g 5 rfl) h (fun r3 h => ?_)
  refine jr_iload_n hC (D_X12_isFree.g 6 rfl) 1 rfl ?_
  refine jr_zald hC (D_X12_isFree.g 7 rfl) h (fun v4 h => ?_)
  refine jr_if_ne hC (D_X12_isFree.g 8 rfl) 29 rfl h (fun h => ?_) (fun h => ?_)
  · refine jr_aload_n hC (D_X12_isFree.g 9 rfl) 0 rfl ?_
    refine jr_iload_n hC (D_X12_isFree.g 10 rfl) 1 rfl ?_
    refine jr_cVi hC cl_X12_341 ⟨rfl, by decide⟩ (D_X12_isFree.g 11 rfl) [q_i x1] h (fun r M' e => c_X12_coupleAt e) rfl rfl ⟨by decide, by decide⟩ (Nat.le_of_ble_eq_true rfl) ⟨Nat.le_of_ble_eq_true rfl, Nat.le_of_ble_eq_true rfl⟩ (fun v5 M6 h => ?_)
    refine jr_if_ge hC (D_X12_isFree.g 12 rfl) 29 rfl h (fun h => ?_) (fun h => ?_)
    · refine jr_iconst hC (D_X12_isFree.g 13 rfl) ?_
      refine jr_goto hC (D_X12_isFree.g 14 rfl) 30 rfl ?_
      exact jr_zret hC (D_X12_isFree.g 16 rfl) hr hE h
    refine jr_pick [] rfl ?_
    exact hj_29 M6 h
  refine jr_pick [] rfl ?_
  exact hj_29 M2 h
def f_X12_freeMany (th : Nat) (M : jMem) : Option (Int × jMem) :=
jcall 12 M th (f_X12_cells th M) fun v1 M2 =>
(jm_gR 12 22 M2 th).bind fun r3 =>
(jm_gI 12 18 M2 th).bind fun v4 =>
(jm_ld 20 M2 r3 v4).bind fun v5 =>
jcall 12 M2 th (f_X12_stoneMany th M2) fun v6 M7 =>
some (((v1 - v5) - (2 * v6)), M7)
theorem D_X12_freeMany : jDs cX12_freeMany [(0, .aload_n 0, 1, 1), (1, .invokevirtual 314, 3, 4), (4, .aload_n 0, 1, 5), (5, .getfield 46, 3, 8), (8, .aload_n 0, 1, 9), (9, .getfield 245, 3, 12), (12, .iaload, 1, 13), (13, .isub, 1, 14), (14, .iconst 2, 1, 15), (15, .aload_n 0, 1, 16), (16, .invokevirtual 344, 3, 19), (19, .imul, 1, 20), (20, .isub, 1, 21), (21, .ireturn, 1, 22)] := by unfold jDs; decide +kernel
set_option maxRecDepth 100000 in
set_option maxHeartbeats 4000000 in
theorem c_X12_freeMany {E : jE} {th : Nat} {M : jMem} {r : Int} {M' : jMem} (h : f_X12_freeMany th M = some (r, M')) : jMet E yX12_freeMany cX12_freeMany 1 (some .int) 4 0 0 [q_r E th] M (some (q_i r)) M' := by
  unfold f_X12_freeMany at h
  refine jMet.of RX12 rfl (by decide +kernel) (Nat.le_of_ble_eq_true rfl) [(0, q_r E th)] rfl (fun X hC hE hr hn => ?_)
  refine jr_aload_n hC (D_X12_freeMany.g 0 rfl) 0 rfl ?_
  refine jr_cVi hC cl_X12_314 ⟨rfl, by decide⟩ (D_X12_freeMany.g 1 rfl) [] h (fun r M' e => c_X12_cells e) rfl rfl ⟨by decide, by decide⟩ (Nat.le_of_ble_eq_true rfl) ⟨Nat.le_of_ble_eq_true rfl, Nat.le_of_ble_eq_true rfl⟩ (fun v1 M2 h => ?_)
  refine jr_aload_n hC (D_X12_freeMany.g 2 rfl) 0 rfl ?_
  refine jr_getR hC fl_X12_46 rfl (D_X12_freeMany.g 3 rfl) h (fun r3 h => ?_)
  refine jr_aload_n hC (D_X12_freeMany.g 4 rfl) 0 rfl ?_
  refine jr_getI hC fl_X12_245 rfl (D_X12_freeMany.g 5 rfl) h (fun v4 h => ?_)
  refine jr_iald hC (D_X12_freeMany.g 6 rfl) h (fun v5 h => ?_)
  refine jr_isub hC (D_X12_freeMany.g 7 rfl) ?_
  refine jr_iconst hC (D_X12_freeMany.g 8 rfl) ?_
  refine jr_aload_n hC (D_X12_freeMany.g 9 rfl) 0 rfl ?_
  refine jr_cVi hC cl_X12_344 ⟨rfl, by decide⟩ (D_X12_freeMany.g 10 rfl) [] h (fun r M' e => c_X12_stoneMany e) rfl rfl ⟨by decide, by decide⟩ (Nat.le_of_ble_eq_true rfl) ⟨Nat.le_of_ble_eq_true rfl, Nat.le_of_ble_eq_true rfl⟩ (fun v6 M7 h => ?_)
  refine jr_imul hC (D_X12_freeMany.g 11 rfl) ?_
  refine jr_isub hC (D_X12_freeMany.g 12 rfl) ?_
  exact jr_iret hC (D_X12_freeMany.g 13 rfl) hr hE h
def f_X12_secondCell (th : Nat) (x1 : Int) (x2 : Int) (M : jMem) : Option (Int × jMem) :=
if jd_wr x2 = 0 then (jcall 12 M th (f_X12_w th M) fun v1 M2 =>
(jm_rm x1 v1).bind fun v3 =>
jcall 12 M2 th (f_X12_w th M2) fun v4 M5 =>
if jd_wr v3 = jd_wr (v4 - 1) then (some ((-1), M5))
else (some ((x1 + 1), M5)))
else (jcall 12 M th (f_X12_w th M) fun v6 M7 =>
jcall 12 M7 th (f_X12_cells th M7) fun v8 M9 =>
if jd_wr (x1 + v6) < jd_wr v8 then (jcall 12 M9 th (f_X12_w th M9) fun v10 M11 =>
some ((x1 + v10), M11))
else (some ((-1), M9)))
theorem D_X12_secondCell : jDs cX12_secondCell [(0, .iload_n 2, 1, 1), (1, .ifCond .ne 26, 3, 4), (4, .iload_n 1, 1, 5), (5, .aload_n 0, 1, 6), (6, .invokevirtual 322, 3, 9), (9, .irem, 1, 10), (10, .aload_n 0, 1, 11), (11, .invokevirtual 322, 3, 14), (14, .iconst 1, 1, 15), (15, .isub, 1, 16), (16, .if_icmp .ne 7, 3, 19), (19, .iconst (-1), 1, 20), (20, .goto 6, 3, 23), (23, .iload_n 1, 1, 24), (24, .iconst 1, 1, 25), (25, .iadd, 1, 26), (26, .ireturn, 1, 27), (27, .iload_n 1, 1, 28), (28, .aload_n 0, 1, 29), (29, .invokevirtual 322, 3, 32), (32, .iadd, 1, 33), (33, .aload_n 0, 1, 34), (34, .invokevirtual 314, 3, 37), (37, .if_icmp .ge 12, 3, 40), (40, .iload_n 1, 1, 41), (41, .aload_n 0, 1, 42), (42, .invokevirtual 322, 3, 45), (45, .iadd, 1, 46), (46, .goto 4, 3, 49), (49, .iconst (-1), 1, 50), (50, .ireturn, 1, 51)] := by unfold jDs; decide +kernel
set_option maxRecDepth 100000 in
set_option maxHeartbeats 4000000 in
theorem c_X12_secondCell {E : jE} {th : Nat} {x1 : Int} {x2 : Int} {M : jMem} {r : Int} {M' : jMem} (h : f_X12_secondCell th x1 x2 M = some (r, M')) : jMet E yX12_secondCell cX12_secondCell 3 (some .int) 3 0 0 [q_r E th, q_i x1, q_i x2] M (some (q_i r)) M' := by
  unfold f_X12_secondCell at h
  refine jMet.of RX12 rfl (by decide +kernel) (Nat.le_of_ble_eq_true rfl) [(0, q_r E th), (1, q_i x1), (2, q_i x2)] rfl (fun X hC hE hr hn => ?_)
  refine jr_iload_n hC (D_X12_secondCell.g 0 rfl) 2 rfl ?_
  refine jr_if_ne hC (D_X12_secondCell.g 1 rfl) 27 rfl h (fun h => ?_) (fun h => ?_)
  · refine jr_iload_n hC (D_X12_secondCell.g 2 rfl) 1 rfl ?_
    refine jr_aload_n hC (D_X12_secondCell.g 3 rfl) 0 rfl ?_
    refine jr_cVi hC cl_X12_322 ⟨rfl, by decide⟩ (D_X12_secondCell.g 4 rfl) [] h (fun r M' e => c_X12_w e) rfl rfl ⟨by decide, by decide⟩ (Nat.le_of_ble_eq_true rfl) ⟨Nat.le_of_ble_eq_true rfl, Nat.le_of_ble_eq_true rfl⟩ (fun v1 M2 h => ?_)
    refine jr_irem hC (D_X12_secondCell.g 5 rfl) h (fun v3 _ h => ?_)
    refine jr_aload_n hC (D_X12_secondCell.g 6 rfl) 0 rfl ?_
    refine jr_cVi hC cl_X12_322 ⟨rfl, by decide⟩ (D_X12_secondCell.g 7 rfl) [] h (fun r M' e => c_X12_w e) rfl rfl ⟨by decide, by decide⟩ (Nat.le_of_ble_eq_true rfl) ⟨Nat.le_of_ble_eq_true rfl, Nat.le_of_ble_eq_true rfl⟩ (fun v4 M5 h => ?_)
    refine jr_iconst hC (D_X12_secondCell.g 8 rfl) ?_
    refine jr_isub hC (D_X12_secondCell.g 9 rfl) ?_
    refine jr_icmp_ne hC (D_X12_secondCell.g 10 rfl) 23 rfl h (fun h => ?_) (fun h => ?_)
    · refine jr_iconst hC (D_X12_secondCell.g 11 rfl) ?_
      refine jr_goto hC (D_X12_secondCell.g 12 rfl) 26 rfl ?_
      exact jr_iret hC (D_X12_secondCell.g 16 rfl) hr hE h
    refine jr_iload_n hC (D_X12_secondCell.g 13 rfl) 1 rfl ?_
    refine jr_iconst hC (D_X12_secondCell.g 14 rfl) ?_
    refine jr_iadd hC (D_X12_secondCell.g 15 rfl) ?_
    exact jr_iret hC (D_X12_secondCell.g 16 rfl) hr hE h
  refine jr_iload_n hC (D_X12_secondCell.g 17 rfl) 1 rfl ?_
  refine jr_aload_n hC (D_X12_secondCell.g 18 rfl) 0 rfl ?_
  refine jr_cVi hC cl_X12_322 ⟨rfl, by decide⟩ (D_X12_secondCell.g 19 rfl) [] h (fun r M' e => c_X12_w e) rfl rfl ⟨by decide, by decide⟩ (Nat.le_of_ble_eq_true rfl) ⟨Nat.le_of_ble_eq_true rfl, Nat.le_of_ble_eq_true rfl⟩ (fun v6 M7 h => ?_)
  refine jr_iadd hC (D_X12_secondCell.g 20 rfl) ?_
  refine jr_aload_n hC (D_X12_secondCell.g 21 rfl) 0 rfl ?_
  refine jr_cVi hC cl_X12_314 ⟨rfl, by decide⟩ (D_X12_secondCell.g 22 rfl) [] h (fun r M' e => c_X12_cells e) rfl rfl ⟨by decide, by decide⟩ (Nat.le_of_ble_eq_true rfl) ⟨Nat.le_of_ble_eq_true rfl, Nat.le_of_ble_eq_true rfl⟩ (fun v8 M9 h => ?_)
  refine jr_icmp_ge hC (D_X12_secondCell.g 23 rfl) 49 rfl h (fun h => ?_) (fun h => ?_)
  · refine jr_iload_n hC (D_X12_secondCell.g 24 rfl) 1 rfl ?_
    refine jr_aload_n hC (D_X12_secondCell.g 25 rfl) 0 rfl ?_
    refine jr_cVi hC cl_X12_322 ⟨rfl, by decide⟩ (D_X12_secondCell.g 26 rfl) [] h (fun r M' e => c_X12_w e) rfl rfl ⟨by decide, by decide⟩ (Nat.le_of_ble_eq_true rfl) ⟨Nat.le_of_ble_eq_true rfl, Nat.le_of_ble_eq_true rfl⟩ (fun v10 M11 h => ?_)
    refine jr_iadd hC (D_X12_secondCell.g 27 rfl) ?_
    refine jr_goto hC (D_X12_secondCell.g 28 rfl) 50 rfl ?_
    exact jr_iret hC (D_X12_secondCell.g 30 rfl) hr hE h
  refine jr_iconst hC (D_X12_secondCell.g 29 rfl) ?_
  exact jr_iret hC (D_X12_secondCell.g 30 rfl) hr hE h
def f_X12_lawTells (th : Nat) (x1 : Int) (x2 : Int) (M : jMem) : Option (Int × jMem) :=
(jm_gI 12 18 M th).bind fun v1 =>
(jm_gR 12 30 M th).bind fun r2 =>
(jm_ld 20 M r2 ((3 * v1) + x1)).bind fun v3 =>
(jm_gR 12 31 M th).bind fun r4 =>
(jm_ld 20 M r4 ((3 * v1) + x1)).bind fun v5 =>
if jd_wr v3 = jd_wr v5 then (some (x2, M))
else ((jm_pZ 12 46 M th 0).bind fun M6 =>
(jm_gR 12 30 M6 th).bind fun r7 =>
(jm_ld 20 M6 r7 ((3 * v1) + x1)).bind fun v8 =>
jlp2 (fun rec_39 (y4_39 : Int) (M_39 : jMem) =>
(jm_gR 12 31 M_39 th).bind fun r9 =>
(jm_ld 20 M_39 r9 ((3 * v1) + x1)).bind fun v10 =>
if jd_wr y4_39 < jd_wr v10 then ((jm_gR 12 33 M_39 th).bind fun r11 =>
(jm_ld 22 M_39 r11 y4_39).bind fun v12 =>
jjq (fun (M_119 : jMem) =>
(jm_gR 12 36 M_119 th).bind fun r13 =>
(jm_ld 20 M_119 r13 y4_39).bind fun v14 =>
(jm_gR 12 37 M_119 th).bind fun r15 =>
(jm_ld 20 M_119 r15 y4_39).bind fun v16 =>
jcall 12 M_119 th (f_X12_termOf th v14 v16 M_119) fun v17 M18 =>
(jm_gI 12 46 M18 th).bind fun v19 =>
if jd_wr v19 = 0 then (some (v17, M18))
else (some (0, M18))) fun j_119 =>
if jd_wr v12 = 0 then (j_119 M_39)
else ((jm_gR 12 34 M_39 th).bind fun r20 =>
(jm_ld 20 M_39 r20 y4_39).bind fun v21 =>
(jm_gR 12 35 M_39 th).bind fun r22 =>
(jm_ld 20 M_39 r22 y4_39).bind fun v23 =>
jcall 12 M_39 th (f_X12_termOf th v21 v23 M_39) fun v24 M25 =>
(jm_gR 12 35 M25 th).bind fun r26 =>
(jm_ld 20 M25 r26 y4_39).bind fun v27 =>
(jm_gR 12 36 M25 th).bind fun r28 =>
(jm_ld 20 M25 r28 y4_39).bind fun v29 =>
jcall 12 M25 th (f_X12_termOf th v27 v29 M25) fun v30 M31 =>
(jm_gI 12 46 M31 th).bind fun v32 =>
if jd_wr v32 = 0 then (if jd_wr v24 < jd_wr v30 then (j_119 M31)
else (rec_39 (y4_39 + 1) M31))
else (some (0, M31))))
else (some (0, M_39))) jfuel v8 M6)
theorem D_X12_lawTells : jDs cX12_lawTells [(0, .iconst 3, 1, 1), (1, .aload_n 0, 1, 2), (2, .getfield 245, 3, 5), (5, .imul, 1, 6), (6, .iload_n 1, 1, 7), (7, .iadd, 1, 8), (8, .istore_n 3, 1, 9), (9, .aload_n 0, 1, 10), (10, .getfield 70, 3, 13), (13, .iload_n 3, 1, 14), (14, .iaload, 1, 15), (15, .aload_n 0, 1, 16), (16, .getfield 73, 3, 19), (19, .iload_n 3, 1, 20), (20, .iaload, 1, 21), (21, .if_icmp .ne 5, 3, 24), (24, .iload_n 2, 1, 25), (25, .ireturn, 1, 26), (26, .aload_n 0, 1, 27), (27, .iconst 0, 1, 28), (28, .putfield 310, 3, 31), (31, .aload_n 0, 1, 32), (32, .getfield 70, 3, 35), (35, .iload_n 3, 1, 36), (36, .iaload, 1, 37), (37, .istore 4, 2, 39), (39, .iload 4, 2, 41), (41, .aload_n 0, 1, 42), (42, .getfield 73, 3, 45), (45, .iload_n 3, 1, 46), (46, .iaload, 1, 47), (47, .if_icmp .ge 112, 3, 50), (50, .aload_n 0, 1, 51), (51, .getfield 76, 3, 54), (54, .iload 4, 2, 56), (56, .baload, 1, 57), (57, .ifCond .eq 62, 3, 60), (60, .aload_n 0, 1, 61), (61, .aload_n 0, 1, 62), (62, .getfield 80, 3, 65), (65, .iload 4, 2, 67), (67, .iaload, 1, 68), (68, .aload_n 0, 1, 69), (69, .getfield 83, 3, 72), (72, .iload 4, 2, 74), (74, .iaload, 1, 75), (75, .invokevirtual 347, 3, 78), (78, .istore 5, 2, 80), (80, .aload_n 0, 1, 81), (81, .aload_n 0, 1, 82), (82, .getfield 83, 3, 85), (85, .iload 4, 2, 87), (87, .iaload, 1, 88), (88, .aload_n 0, 1, 89), (89, .getfield 86, 3, 92), (92, .iload 4, 2, 94), (94, .iaload, 1, 95), (95, .invokevirtual 347, 3, 98), (98, .istore 6, 2, 100), (100, .aload_n 0, 1, 101), (101, .getfield 310, 3, 104), (104, .ifCond .eq 5, 3, 107), (107, .iconst 0, 1, 108), (108, .ireturn, 1, 109), (109, .iload 5, 2, 111), (111, .iload 6, 2, 113), (113, .if_icmp .lt 6, 3, 116), (116, .goto 37, 3, 119), (119, .aload_n 0, 1, 120), (120, .aload_n 0, 1, 121), (121, .getfield 86, 3, 124), (124, .iload 4, 2, 126), (126, .iaload, 1, 127), (127, .aload_n 0, 1, 128), (128, .getfield 89, 3, 131), (131, .iload 4, 2, 133), (133, .iaload, 1, 134), (134, .invokevirtual 347, 3, 137), (137, .istore 5, 2, 139), (139, .aload_n 0, 1, 140), (140, .getfield 310, 3, 143), (143, .ifCond .eq 7, 3, 146), (146, .iconst 0, 1, 147), (147, .goto 5, 3, 150), (150, .iload 5, 2, 152), (152, .ireturn, 1, 153), (153, .iinc 4 1, 3, 156), (156, .goto (-117), 3, 159), (159, .iconst 0, 1, 160), (160, .ireturn, 1, 161)] := by unfold jDs; decide +kernel
set_option maxRecDepth 100000 in
set_option maxHeartbeats 4000000 in
theorem c_X12_lawTells {E : jE} {th : Nat} {x1 : Int} {x2 : Int} {M : jMem} {r : Int} {M' : jMem} (h : f_X12_lawTells th x1 x2 M = some (r, M')) : jMet E yX12_lawTells cX12_lawTells 7 (some .int) 3 0 0 [q_r E th, q_i x1, q_i x2] M (some (q_i r)) M' := by
  unfold f_X12_lawTells at h
  refine jMet.of RX12 rfl (by decide +kernel) (Nat.le_of_ble_eq_true rfl) [(0, q_r E th), (1, q_i x1), (2, q_i x2)] rfl (fun X hC hE hr hn => ?_)
  refine jr_iconst hC (D_X12_lawTells.g 0 rfl) ?_
  refine jr_aload_n hC (D_X12_lawTells.g 1 rfl) 0 rfl ?_
  refine jr_getI hC fl_X12_245 rfl (D_X12_lawTells.g 2 rfl) h (fun v1 h => ?_)
  refine jr_imul hC (D_X12_lawTells.g 3 rfl) ?_
  refine jr_iload_n hC (D_X12_lawTells.g 4 rfl) 1 rfl ?_
  refine jr_iadd hC (D_X12_lawTells.g 5 rfl) ?_
  refine jr_istore_n hC (D_X12_lawTells.g 6 rfl) (by decide) rfl ?_
  refine jr_aload_n hC (D_X12_lawTells.g 7 rfl) 1 rfl ?_
  refine jr_getR hC fl_X12_70 rfl (D_X12_lawTells.g 8 rfl) h (fun r2 h => ?_)
  refine jr_iload_n hC (D_X12_lawTells.g 9 rfl) 0 rfl ?_
  refine jr_iald hC (D_X12_lawTells.g 10 rfl) h (fun v3 h => ?_)
  refine jr_aload_n hC (D_X12_lawTells.g 11 rfl) 1 rfl ?_
  refine jr_getR hC fl_X12_73 rfl (D_X12_lawTells.g 12 rfl) h (fun r4 h => ?_)
  refine jr_iload_n hC (D_X12_lawTells.g 13 rfl) 0 rfl ?_
  refine jr_iald hC (D_X12_lawTells.g 14 rfl) h (fun v5 h => ?_)
  refine jr_icmp_ne hC (D_X12_lawTells.g 15 rfl) 26 rfl h (fun h => ?_) (fun h => ?_)
  · refine jr_iload_n hC (D_X12_lawTells.g 16 rfl) 3 rfl ?_
    exact jr_iret hC (D_X12_lawTells.g 17 rfl) hr hE h
  refine jr_aload_n hC (D_X12_lawTells.g 18 rfl) 1 rfl ?_
  refine jr_iconst hC (D_X12_lawTells.g 19 rfl) ?_
  refine jr_putZ hC fl_X12_310 rfl (jnfin rfl) (D_X12_lawTells.g 20 rfl) h (fun M6 _ h => ?_)
  refine jr_aload_n hC (D_X12_lawTells.g 21 rfl) 1 rfl ?_
  refine jr_getR hC fl_X12_70 rfl (D_X12_lawTells.g 22 rfl) h (fun r7 h => ?_)
  refine jr_iload_n hC (D_X12_lawTells.g 23 rfl) 0 rfl ?_
  refine jr_iald hC (D_X12_lawTells.g 24 rfl) h (fun v8 h => ?_)
  refine jr_istore hC (D_X12_lawTells.g 25 rfl) (by decide) rfl ?_
  refine jr_pick [2, 1, 0] rfl ?_
  refine jr_lp2 (fun (y4_39 : Int) (M_39 : jMem) => JW E X 7 0 0 M_39 39 [(0, q_r E th), (3, q_i ((3 * v1) + x1)), (4, q_i y4_39)] []) ?_ jfuel v8 M6 h
  intro rec_39 hrec_39 y4_39 M_39 h
  refine jr_iload hC (D_X12_lawTells.g 26 rfl) 2 rfl ?_
  refine jr_aload_n hC (D_X12_lawTells.g 27 rfl) 0 rfl ?_
  refine jr_getR hC fl_X12_73 rfl (D_X12_lawTells.g 28 rfl) h (fun r9 h => ?_)
  refine jr_iload_n hC (D_X12_lawTells.g 29 rfl) 1 rfl ?_
  refine jr_iald hC (D_X12_lawTells.g 30 rfl) h (fun v10 h => ?_)
  refine jr_icmp_ge hC (D_X12_lawTells.g 31 rfl) 159 rfl h (fun h => ?_) (fun h => ?_)
  · refine jr_aload_n hC (D_X12_lawTells.g 32 rfl) 0 rfl ?_
    refine jr_getR hC fl_X12_76 rfl (D_X12_lawTells.g 33 rfl) h (fun r11 h => ?_)
    refine jr_iload hC (D_X12_lawTells.g 34 rfl) 2 rfl ?_
    refine jr_zald hC (D_X12_lawTells.g 35 rfl) h (fun v12 h => ?_)
    refine jr_join h (fun j => ∀ (M_119 : jMem), j M_119 = some (r, M') → JW E X 7 0 0 M_119 119 [(0, q_r E th), (4, q_i y4_39)] []) ?_ ?_
    · intro M_119 h
      refine jr_aload_n hC (D_X12_lawTells.g 68 rfl) 0 rfl ?_
      refine jr_aload_n hC (D_X12_lawTells.g 69 rfl) 0 rfl ?_
      refine jr_getR hC fl_X12_86 rfl (D_X12_lawTells.g 70 rfl) h (fun r13 h => ?_)
      refine jr_iload hC (D_X12_lawTells.g 71 rfl) 1 rfl ?_
      refine jr_iald hC (D_X12_lawTells.g 72 rfl) h (fun v14 h => ?_)
      refine jr_aload_n hC (D_X12_lawTells.g 73 rfl) 0 rfl ?_
      refine jr_getR hC fl_X12_89 rfl (D_X12_lawTells.g 74 rfl) h (fun r15 h => ?_)
      refine jr_iload hC (D_X12_lawTells.g 75 rfl) 1 rfl ?_
      refine jr_iald hC (D_X12_lawTells.g 76 rfl) h (fun v16 h => ?_)
      refine jr_cVi hC cl_X12_347 ⟨rfl, by decide⟩ (D_X12_lawTells.g 77 rfl) [q_i v14, q_i v16] h (fun r M' e => c_X12_termOf e) rfl rfl ⟨by decide, by decide⟩ (Nat.le_of_ble_eq_true rfl) ⟨Nat.le_of_ble_eq_true rfl, Nat.le_of_ble_eq_true rfl⟩ (fun v17 M18 h => ?_)
      refine jr_istore hC (D_X12_lawTells.g 78 rfl) (by decide) rfl ?_
      refine jr_aload_n hC (D_X12_lawTells.g 79 rfl) 1 rfl ?_
      refine jr_getI hC fl_X12_310 rfl (D_X12_lawTells.g 80 rfl) h (fun v19 h => ?_)
      refine jr_if_eq hC (D_X12_lawTells.g 81 rfl) 150 rfl h (fun h => ?_) (fun h => ?_)
      · refine jr_iload hC (D_X12_lawTells.g 84 rfl) 0 rfl ?_
        exact jr_iret hC (D_X12_lawTells.g 85 rfl) hr hE h
      refine jr_iconst hC (D_X12_lawTells.g 82 rfl) ?_
      refine jr_goto hC (D_X12_lawTells.g 83 rfl) 152 rfl ?_
      exact jr_iret hC (D_X12_lawTells.g 85 rfl) hr hE h
    intro j_119 hj_119 h
    refine jr_if_eq hC (D_X12_lawTells.g 36 rfl) 119 rfl h (fun h => ?_) (fun h => ?_)
    · refine jr_pick [0, 2] rfl ?_
      exact hj_119 M_39 h
    refine jr_aload_n hC (D_X12_lawTells.g 37 rfl) 0 rfl ?_
    refine jr_aload_n hC (D_X12_lawTells.g 38 rfl) 0 rfl ?_
    refine jr_getR hC fl_X12_80 rfl (D_X12_lawTells.g 39 rfl) h (fun r20 h => ?_)
    refine jr_iload hC (D_X12_lawTells.g 40 rfl) 2 rfl ?_
    refine jr_iald hC (D_X12_lawTells.g 41 rfl) h (fun v21 h => ?_)
    refine jr_aload_n hC (D_X12_lawTells.g 42 rfl) 0 rfl ?_
    refine jr_getR hC fl_X12_83 rfl (D_X12_lawTells.g 43 rfl) h (fun r22 h => ?_)
    refine jr_iload hC (D_X12_lawTells.g 44 rfl) 2 rfl ?_
    refine jr_iald hC (D_X12_lawTells.g 45 rfl) h (fun v23 h => ?_)
    refine jr_cVi hC cl_X12_347 ⟨rfl, by decide⟩ (D_X12_lawTells.g 46 rfl) [q_i v21, q_i v23] h (fun r M' e => c_X12_termOf e) rfl rfl ⟨by decide, by decide⟩ (Nat.le_of_ble_eq_true rfl) ⟨Nat.le_of_ble_eq_true rfl, Nat.le_of_ble_eq_true rfl⟩ (fun v24 M25 h => ?_)
    refine jr_istore hC (D_X12_lawTells.g 47 rfl) (by decide) rfl ?_
    refine jr_aload_n hC (D_X12_lawTells.g 48 rfl) 1 rfl ?_
    refine jr_aload_n hC (D_X12_lawTells.g 49 rfl) 1 rfl ?_
    refine jr_getR hC fl_X12_83 rfl (D_X12_lawTells.g 50 rfl) h (fun r26 h => ?_)
    refine jr_iload hC (D_X12_lawTells.g 51 rfl) 3 rfl ?_
    refine jr_iald hC (D_X12_lawTells.g 52 rfl) h (fun v27 h => ?_)
    refine jr_aload_n hC (D_X12_lawTells.g 53 rfl) 1 rfl ?_
    refine jr_getR hC fl_X12_86 rfl (D_X12_lawTells.g 54 rfl) h (fun r28 h => ?_)
    refine jr_iload hC (D_X12_lawTells.g 55 rfl) 3 rfl ?_
    refine jr_iald hC (D_X12_lawTells.g 56 rfl) h (fun v29 h => ?_)
    refine jr_cVi hC cl_X12_347 ⟨rfl, by decide⟩ (D_X12_lawTells.g 57 rfl) [q_i v27, q_i v29] h (fun r M' e => c_X12_termOf e) rfl rfl ⟨by decide, by decide⟩ (Nat.le_of_ble_eq_true rfl) ⟨Nat.le_of_ble_eq_true rfl, Nat.le_of_ble_eq_true rfl⟩ (fun v30 M31 h => ?_)
    refine jr_istore hC (D_X12_lawTells.g 58 rfl) (by decide) rfl ?_
    refine jr_aload_n hC (D_X12_lawTells.g 59 rfl) 2 rfl ?_
    refine jr_getI hC fl_X12_310 rfl (D_X12_lawTells.g 60 rfl) h (fun v32 h => ?_)
    refine jr_if_eq hC (D_X12_lawTells.g 61 rfl) 109 rfl h (fun h => ?_) (fun h => ?_)
    · refine jr_iload hC (D_X12_lawTells.g 64 rfl) 1 rfl ?_
      refine jr_iload hC (D_X12_lawTells.g 65 rfl) 0 rfl ?_
      refine jr_icmp_lt hC (D_X12_lawTells.g 66 rfl) 119 rfl h (fun h => ?_) (fun h => ?_)
      · refine jr_pick [2, 4] rfl ?_
        exact hj_119 M31 h
      refine jr_goto hC (D_X12_lawTells.g 67 rfl) 153 rfl ?_
      refine jr_iinc hC (D_X12_lawTells.g 86 rfl) 4 rfl (by decide) rfl ?_
      refine jr_goto hC (D_X12_lawTells.g 87 rfl) 39 rfl ?_
      refine jr_pick [3, 4, 0] rfl ?_
      exact hrec_39 (y4_39 + 1) M31 h
    refine jr_iconst hC (D_X12_lawTells.g 62 rfl) ?_
    exact jr_iret hC (D_X12_lawTells.g 63 rfl) hr hE h
  refine jr_iconst hC (D_X12_lawTells.g 88 rfl) ?_
  exact jr_iret hC (D_X12_lawTells.g 89 rfl) hr hE h
def f_X12_tellsOf (th : Nat) (x1 : Int) (x2 : Int) (x3 : Int) (x4 : Int) (M : jMem) : Option (Int × jMem) :=
(jm_gR 12 44 M th).bind fun r1 =>
(jm_gR 12 48 M th).bind fun r2 =>
(jm_ld 20 M r2 (18 + x1)).bind fun v3 =>
(jm_st 20 M r1 0 (1 - v3)).bind fun M4 =>
(jm_gR 12 44 M4 th).bind fun r5 =>
(jm_gR 12 48 M4 th).bind fun r6 =>
(jm_ld 20 M4 r6 x1).bind fun v7 =>
jcall 12 M4 th (f_X12_w th M4) fun v8 M9 =>
(jm_rm v7 v8).bind fun v10 =>
(jm_st 20 M9 r5 1 v10).bind fun M11 =>
(jm_gR 12 44 M11 th).bind fun r12 =>
(jm_gR 12 48 M11 th).bind fun r13 =>
(jm_ld 20 M11 r13 x1).bind fun v14 =>
jcall 12 M11 th (f_X12_w th M11) fun v15 M16 =>
(jm_dv v14 v15).bind fun v17 =>
(jm_st 20 M16 r12 2 v17).bind fun M18 =>
(jm_gR 12 44 M18 th).bind fun r19 =>
(jm_gR 12 48 M18 th).bind fun r20 =>
(jm_ld 20 M18 r20 (36 + x1)).bind fun v21 =>
(jm_st 20 M18 r19 3 v21).bind fun M22 =>
(jm_gR 12 44 M22 th).bind fun r23 =>
(jm_gR 12 48 M22 th).bind fun r24 =>
(jm_ld 20 M22 r24 (54 + x1)).bind fun v25 =>
(jm_st 20 M22 r23 4 v25).bind fun M26 =>
(jm_gR 12 44 M26 th).bind fun r27 =>
(jm_gR 12 48 M26 th).bind fun r28 =>
(jm_ld 20 M26 r28 72).bind fun v29 =>
(jm_st 20 M26 r27 5 v29).bind fun M30 =>
(jm_gR 12 44 M30 th).bind fun r31 =>
(jm_st 20 M30 r31 6 x1).bind fun M32 =>
(jm_gR 12 44 M32 th).bind fun r33 =>
jcall 12 M32 th (f_X12_stoneMany th M32) fun v34 M35 =>
(jm_st 20 M35 r33 7 v34).bind fun M36 =>
(jm_gR 12 44 M36 th).bind fun r37 =>
(jm_gR 12 22 M36 th).bind fun r38 =>
(jm_gI 12 18 M36 th).bind fun v39 =>
(jm_ld 20 M36 r38 v39).bind fun v40 =>
(jm_st 20 M36 r37 8 v40).bind fun M41 =>
jcall 12 M41 th (f_X12_lawTells th x2 x3 M41) fun v42 M43 =>
jbd (f_X12_within v42 0 x4 M43) fun v44 M45 =>
some (v44, M45)
theorem D_X12_tellsOf : jDs cX12_tellsOf [(0, .aload_n 0, 1, 1), (1, .getfield 104, 3, 4), (4, .iconst 0, 1, 5), (5, .iconst 1, 1, 6), (6, .aload_n 0, 1, 7), (7, .getfield 113, 3, 10), (10, .bipush 18, 2, 12), (12, .iload_n 1, 1, 13), (13, .iadd, 1, 14), (14, .iaload, 1, 15), (15, .isub, 1, 16), (16, .iastore, 1, 17), (17, .aload_n 0, 1, 18), (18, .getfield 104, 3, 21), (21, .iconst 1, 1, 22), (22, .aload_n 0, 1, 23), (23, .getfield 113, 3, 26), (26, .iload_n 1, 1, 27), (27, .iaload, 1, 28), (28, .aload_n 0, 1, 29), (29, .invokevirtual 322, 3, 32), (32, .irem, 1, 33), (33, .iastore, 1, 34), (34, .aload_n 0, 1, 35), (35, .getfield 104, 3, 38), (38, .iconst 2, 1, 39), (39, .aload_n 0, 1, 40), (40, .getfield 113, 3, 43), (43, .iload_n 1, 1, 44), (44, .iaload, 1, 45), (45, .aload_n 0, 1, 46), (46, .invokevirtual 322, 3, 49), (49, .idiv, 1, 50), (50, .iastore, 1, 51), (51, .aload_n 0, 1, 52), (52, .getfield 104, 3, 55), (55, .iconst 3, 1, 56), (56, .aload_n 0, 1, 57), (57, .getfield 113, 3, 60), (60, .bipush 36, 2, 62), (62, .iload_n 1, 1, 63), (63, .iadd, 1, 64), (64, .iaload, 1, 65), (65, .iastore, 1, 66), (66, .aload_n 0, 1, 67), (67, .getfield 104, 3, 70), (70, .iconst 4, 1, 71), (71, .aload_n 0, 1, 72), (72, .getfield 113, 3, 75), (75, .bipush 54, 2, 77), (77, .iload_n 1, 1, 78), (78, .iadd, 1, 79), (79, .iaload, 1, 80), (80, .iastore, 1, 81), (81, .aload_n 0, 1, 82), (82, .getfield 104, 3, 85), (85, .iconst 5, 1, 86), (86, .aload_n 0, 1, 87), (87, .getfield 113, 3, 90), (90, .bipush 72, 2, 92), (92, .iaload, 1, 93), (93, .iastore, 1, 94), (94, .aload_n 0, 1, 95), (95, .getfield 104, 3, 98), (98, .bipush 6, 2, 100), (100, .iload_n 1, 1, 101), (101, .iastore, 1, 102), (102, .aload_n 0, 1, 103), (103, .getfield 104, 3, 106), (106, .bipush 7, 2, 108), (108, .aload_n 0, 1, 109), (109, .invokevirtual 344, 3, 112), (112, .iastore, 1, 113), (113, .aload_n 0, 1, 114), (114, .getfield 104, 3, 117), (117, .bipush 8, 2, 119), (119, .aload_n 0, 1, 120), (120, .getfield 46, 3, 123), (123, .aload_n 0, 1, 124), (124, .getfield 245, 3, 127), (127, .iaload, 1, 128), (128, .iastore, 1, 129), (129, .aload_n 0, 1, 130), (130, .iload_n 2, 1, 131), (131, .iload_n 3, 1, 132), (132, .invokevirtual 350, 3, 135), (135, .iconst 0, 1, 136), (136, .iload 4, 2, 138), (138, .invokestatic 353, 3, 141), (141, .ireturn, 1, 142)] := by unfold jDs; decide +kernel
set_option maxRecDepth 100000 in
set_option maxHeartbeats 4000000 in
theorem c_X12_tellsOf {E : jE} {th : Nat} {x1 : Int} {x2 : Int} {x3 : Int} {x4 : Int} {M : jMem} {r : Int} {M' : jMem} (h : f_X12_tellsOf th x1 x2 x3 x4 M = some (r, M')) : jMet E yX12_tellsOf cX12_tellsOf 5 (some .int) 4 0 0 [q_r E th, q_i x1, q_i x2, q_i x3, q_i x4] M (some (q_i r)) M' := by
  unfold f_X12_tellsOf at h
  refine jMet.of RX12 rfl (by decide +kernel) (Nat.le_of_ble_eq_true rfl) [(0, q_r E th), (1, q_i x1), (2, q_i x2), (3, q_i x3), (4, q_i x4)] rfl (fun X hC hE hr hn => ?_)
  refine jr_aload_n hC (D_X12_tellsOf.g 0 rfl) 0 rfl ?_
  refine jr_getR hC fl_X12_104 rfl (D_X12_tellsOf.g 1 rfl) h (fun r1 h => ?_)
  refine jr_iconst hC (D_X12_tellsOf.g 2 rfl) ?_
  refine jr_iconst hC (D_X12_tellsOf.g 3 rfl) ?_
  refine jr_aload_n hC (D_X12_tellsOf.g 4 rfl) 0 rfl ?_
  refine jr_getR hC fl_X12_113 rfl (D_X12_tellsOf.g 5 rfl) h (fun r2 h => ?_)
  refine jr_bipush hC (D_X12_tellsOf.g 6 rfl) bp_18 ?_
  refine jr_iload_n hC (D_X12_tellsOf.g 7 rfl) 1 rfl ?_
  refine jr_iadd hC (D_X12_tellsOf.g 8 rfl) ?_
  refine jr_iald hC (D_X12_tellsOf.g 9 rfl) h (fun v3 h => ?_)
  refine jr_isub hC (D_X12_tellsOf.g 10 rfl) ?_
  refine jr_iast hC (D_X12_tellsOf.g 11 rfl) h (fun M4 _ h => ?_)
  refine jr_aload_n hC (D_X12_tellsOf.g 12 rfl) 0 rfl ?_
  refine jr_getR hC fl_X12_104 rfl (D_X12_tellsOf.g 13 rfl) h (fun r5 h => ?_)
  refine jr_iconst hC (D_X12_tellsOf.g 14 rfl) ?_
  refine jr_aload_n hC (D_X12_tellsOf.g 15 rfl) 0 rfl ?_
  refine jr_getR hC fl_X12_113 rfl (D_X12_tellsOf.g 16 rfl) h (fun r6 h => ?_)
  refine jr_iload_n hC (D_X12_tellsOf.g 17 rfl) 1 rfl ?_
  refine jr_iald hC (D_X12_tellsOf.g 18 rfl) h (fun v7 h => ?_)
  refine jr_aload_n hC (D_X12_tellsOf.g 19 rfl) 0 rfl ?_
  refine jr_cVi hC cl_X12_322 ⟨rfl, by decide⟩ (D_X12_tellsOf.g 20 rfl) [] h (fun r M' e => c_X12_w e) rfl rfl ⟨by decide, by decide⟩ (Nat.le_of_ble_eq_true rfl) ⟨Nat.le_of_ble_eq_true rfl, Nat.le_of_ble_eq_true rfl⟩ (fun v8 M9 h => ?_)
  refine jr_irem hC (D_X12_tellsOf.g 21 rfl) h (fun v10 _ h => ?_)
  refine jr_iast hC (D_X12_tellsOf.g 22 rfl) h (fun M11 _ h => ?_)
  refine jr_aload_n hC (D_X12_tellsOf.g 23 rfl) 0 rfl ?_
  refine jr_getR hC fl_X12_104 rfl (D_X12_tellsOf.g 24 rfl) h (fun r12 h => ?_)
  refine jr_iconst hC (D_X12_tellsOf.g 25 rfl) ?_
  refine jr_aload_n hC (D_X12_tellsOf.g 26 rfl) 0 rfl ?_
  refine jr_getR hC fl_X12_113 rfl (D_X12_tellsOf.g 27 rfl) h (fun r13 h => ?_)
  refine jr_iload_n hC (D_X12_tellsOf.g 28 rfl) 1 rfl ?_
  refine jr_iald hC (D_X12_tellsOf.g 29 rfl) h (fun v14 h => ?_)
  refine jr_aload_n hC (D_X12_tellsOf.g 30 rfl) 0 rfl ?_
  refine jr_cVi hC cl_X12_322 ⟨rfl, by decide⟩ (D_X12_tellsOf.g 31 rfl) [] h (fun r M' e => c_X12_w e) rfl rfl ⟨by decide, by decide⟩ (Nat.le_of_ble_eq_true rfl) ⟨Nat.le_of_ble_eq_true rfl, Nat.le_of_ble_eq_true rfl⟩ (fun v15 M16 h => ?_)
  refine jr_idiv hC (D_X12_tellsOf.g 32 rfl) h (fun v17 _ h => ?_)
  refine jr_iast hC (D_X12_tellsOf.g 33 rfl) h (fun M18 _ h => ?_)
  refine jr_aload_n hC (D_X12_tellsOf.g 34 rfl) 0 rfl ?_
  refine jr_getR hC fl_X12_104 rfl (D_X12_tellsOf.g 35 rfl) h (fun r19 h => ?_)
  refine jr_iconst hC (D_X12_tellsOf.g 36 rfl) ?_
  refine jr_aload_n hC (D_X12_tellsOf.g 37 rfl) 0 rfl ?_
  refine jr_getR hC fl_X12_113 rfl (D_X12_tellsOf.g 38 rfl) h (fun r20 h => ?_)
  refine jr_bipush hC (D_X12_tellsOf.g 39 rfl) bp_36 ?_
  refine jr_iload_n hC (D_X12_tellsOf.g 40 rfl) 1 rfl ?_
  refine jr_iadd hC (D_X12_tellsOf.g 41 rfl) ?_
  refine jr_iald hC (D_X12_tellsOf.g 42 rfl) h (fun v21 h => ?_)
  refine jr_iast hC (D_X12_tellsOf.g 43 rfl) h (fun M22 _ h => ?_)
  refine jr_aload_n hC (D_X12_tellsOf.g 44 rfl) 0 rfl ?_
  refine jr_getR hC fl_X12_104 rfl (D_X12_tellsOf.g 45 rfl) h (fun r23 h => ?_)
  refine jr_iconst hC (D_X12_tellsOf.g 46 rfl) ?_
  refine jr_aload_n hC (D_X12_tellsOf.g 47 rfl) 0 rfl ?_
  refine jr_getR hC fl_X12_113 rfl (D_X12_tellsOf.g 48 rfl) h (fun r24 h => ?_)
  refine jr_bipush hC (D_X12_tellsOf.g 49 rfl) bp_54 ?_
  refine jr_iload_n hC (D_X12_tellsOf.g 50 rfl) 1 rfl ?_
  refine jr_iadd hC (D_X12_tellsOf.g 51 rfl) ?_
  refine jr_iald hC (D_X12_tellsOf.g 52 rfl) h (fun v25 h => ?_)
  refine jr_iast hC (D_X12_tellsOf.g 53 rfl) h (fun M26 _ h => ?_)
  refine jr_aload_n hC (D_X12_tellsOf.g 54 rfl) 0 rfl ?_
  refine jr_getR hC fl_X12_104 rfl (D_X12_tellsOf.g 55 rfl) h (fun r27 h => ?_)
  refine jr_iconst hC (D_X12_tellsOf.g 56 rfl) ?_
  refine jr_aload_n hC (D_X12_tellsOf.g 57 rfl) 0 rfl ?_
  refine jr_getR hC fl_X12_113 rfl (D_X12_tellsOf.g 58 rfl) h (fun r28 h => ?_)
  refine jr_bipush hC (D_X12_tellsOf.g 59 rfl) bp_72 ?_
  refine jr_iald hC (D_X12_tellsOf.g 60 rfl) h (fun v29 h => ?_)
  refine jr_iast hC (D_X12_tellsOf.g 61 rfl) h (fun M30 _ h => ?_)
  refine jr_aload_n hC (D_X12_tellsOf.g 62 rfl) 0 rfl ?_
  refine jr_getR hC fl_X12_104 rfl (D_X12_tellsOf.g 63 rfl) h (fun r31 h => ?_)
  refine jr_bipush hC (D_X12_tellsOf.g 64 rfl) bp_6 ?_
  refine jr_iload_n hC (D_X12_tellsOf.g 65 rfl) 1 rfl ?_
  refine jr_iast hC (D_X12_tellsOf.g 66 rfl) h (fun M32 _ h => ?_)
  refine jr_aload_n hC (D_X12_tellsOf.g 67 rfl) 0 rfl ?_
  refine jr_getR hC fl_X12_104 rfl (D_X12_tellsOf.g 68 rfl) h (fun r33 h => ?_)
  refine jr_bipush hC (D_X12_tellsOf.g 69 rfl) bp_7 ?_
  refine jr_aload_n hC (D_X12_tellsOf.g 70 rfl) 0 rfl ?_
  refine jr_cVi hC cl_X12_344 ⟨rfl, by decide⟩ (D_X12_tellsOf.g 71 rfl) [] h (fun r M' e => c_X12_stoneMany e) rfl rfl ⟨by decide, by decide⟩ (Nat.le_of_ble_eq_true rfl) ⟨Nat.le_of_ble_eq_true rfl, Nat.le_of_ble_eq_true rfl⟩ (fun v34 M35 h => ?_)
  refine jr_iast hC (D_X12_tellsOf.g 72 rfl) h (fun M36 _ h => ?_)
  refine jr_aload_n hC (D_X12_tellsOf.g 73 rfl) 0 rfl ?_
  refine jr_getR hC fl_X12_104 rfl (D_X12_tellsOf.g 74 rfl) h (fun r37 h => ?_)
  refine jr_bipush hC (D_X12_tellsOf.g 75 rfl) bp_8 ?_
  refine jr_aload_n hC (D_X12_tellsOf.g 76 rfl) 0 rfl ?_
  refine jr_getR hC fl_X12_46 rfl (D_X12_tellsOf.g 77 rfl) h (fun r38 h => ?_)
  refine jr_aload_n hC (D_X12_tellsOf.g 78 rfl) 0 rfl ?_
  refine jr_getI hC fl_X12_245 rfl (D_X12_tellsOf.g 79 rfl) h (fun v39 h => ?_)
  refine jr_iald hC (D_X12_tellsOf.g 80 rfl) h (fun v40 h => ?_)
  refine jr_iast hC (D_X12_tellsOf.g 81 rfl) h (fun M41 _ h => ?_)
  refine jr_aload_n hC (D_X12_tellsOf.g 82 rfl) 0 rfl ?_
  refine jr_iload_n hC (D_X12_tellsOf.g 83 rfl) 2 rfl ?_
  refine jr_iload_n hC (D_X12_tellsOf.g 84 rfl) 3 rfl ?_
  refine jr_cVi hC cl_X12_350 ⟨rfl, by decide⟩ (D_X12_tellsOf.g 85 rfl) [q_i x2, q_i x3] h (fun r M' e => c_X12_lawTells e) rfl rfl ⟨by decide, by decide⟩ (Nat.le_of_ble_eq_true rfl) ⟨Nat.le_of_ble_eq_true rfl, Nat.le_of_ble_eq_true rfl⟩ (fun v42 M43 h => ?_)
  refine jr_iconst hC (D_X12_tellsOf.g 86 rfl) ?_
  refine jr_iload hC (D_X12_tellsOf.g 87 rfl) 4 rfl ?_
  refine jr_cSi hC cl_X12_353 (D_X12_tellsOf.g 88 rfl) [q_i v42, q_i 0, q_i x4] h (fun r M' e => c_X12_within e) rfl rfl ⟨by decide, by decide⟩ (Nat.le_of_ble_eq_true rfl) ⟨Nat.le_of_ble_eq_true rfl, Nat.le_of_ble_eq_true rfl⟩ (fun v44 M45 h => ?_)
  exact jr_iret hC (D_X12_tellsOf.g 89 rfl) hr hE h
def f_X12_asksOf (th : Nat) (x1 : Int) (M : jMem) : Option (Int × jMem) :=
jcall 12 M th (f_X12_tellsOf th x1 0 1 99 M) fun v1 M2 =>
some (v1, M2)
theorem D_X12_asksOf : jDs cX12_asksOf [(0, .aload_n 0, 1, 1), (1, .iload_n 1, 1, 2), (2, .iconst 0, 1, 3), (3, .iconst 1, 1, 4), (4, .bipush 99, 2, 6), (6, .invokevirtual 356, 3, 9), (9, .ireturn, 1, 10)] := by unfold jDs; decide +kernel
set_option maxRecDepth 100000 in
set_option maxHeartbeats 4000000 in
theorem c_X12_asksOf {E : jE} {th : Nat} {x1 : Int} {M : jMem} {r : Int} {M' : jMem} (h : f_X12_asksOf th x1 M = some (r, M')) : jMet E yX12_asksOf cX12_asksOf 2 (some .int) 5 0 0 [q_r E th, q_i x1] M (some (q_i r)) M' := by
  unfold f_X12_asksOf at h
  refine jMet.of RX12 rfl (by decide +kernel) (Nat.le_of_ble_eq_true rfl) [(0, q_r E th), (1, q_i x1)] rfl (fun X hC hE hr hn => ?_)
  refine jr_aload_n hC (D_X12_asksOf.g 0 rfl) 0 rfl ?_
  refine jr_iload_n hC (D_X12_asksOf.g 1 rfl) 1 rfl ?_
  refine jr_iconst hC (D_X12_asksOf.g 2 rfl) ?_
  refine jr_iconst hC (D_X12_asksOf.g 3 rfl) ?_
  refine jr_bipush hC (D_X12_asksOf.g 4 rfl) bp_99 ?_
  refine jr_cVi hC cl_X12_356 ⟨rfl, by decide⟩ (D_X12_asksOf.g 5 rfl) [q_i x1, q_i 0, q_i 1, q_i 99] h (fun r M' e => c_X12_tellsOf e) rfl rfl ⟨by decide, by decide⟩ (Nat.le_of_ble_eq_true rfl) ⟨Nat.le_of_ble_eq_true rfl, Nat.le_of_ble_eq_true rfl⟩ (fun v1 M2 h => ?_)
  exact jr_iret hC (D_X12_asksOf.g 6 rfl) hr hE h
def f_X12_loosensOf (th : Nat) (x1 : Int) (M : jMem) : Option (Int × jMem) :=
jcall 12 M th (f_X12_tellsOf th x1 1 0 100 M) fun v1 M2 =>
some (v1, M2)
theorem D_X12_loosensOf : jDs cX12_loosensOf [(0, .aload_n 0, 1, 1), (1, .iload_n 1, 1, 2), (2, .iconst 1, 1, 3), (3, .iconst 0, 1, 4), (4, .bipush 100, 2, 6), (6, .invokevirtual 356, 3, 9), (9, .ireturn, 1, 10)] := by unfold jDs; decide +kernel
set_option maxRecDepth 100000 in
set_option maxHeartbeats 4000000 in
theorem c_X12_loosensOf {E : jE} {th : Nat} {x1 : Int} {M : jMem} {r : Int} {M' : jMem} (h : f_X12_loosensOf th x1 M = some (r, M')) : jMet E yX12_loosensOf cX12_loosensOf 2 (some .int) 5 0 0 [q_r E th, q_i x1] M (some (q_i r)) M' := by
  unfold f_X12_loosensOf at h
  refine jMet.of RX12 rfl (by decide +kernel) (Nat.le_of_ble_eq_true rfl) [(0, q_r E th), (1, q_i x1)] rfl (fun X hC hE hr hn => ?_)
  refine jr_aload_n hC (D_X12_loosensOf.g 0 rfl) 0 rfl ?_
  refine jr_iload_n hC (D_X12_loosensOf.g 1 rfl) 1 rfl ?_
  refine jr_iconst hC (D_X12_loosensOf.g 2 rfl) ?_
  refine jr_iconst hC (D_X12_loosensOf.g 3 rfl) ?_
  refine jr_bipush hC (D_X12_loosensOf.g 4 rfl) bp_100 ?_
  refine jr_cVi hC cl_X12_356 ⟨rfl, by decide⟩ (D_X12_loosensOf.g 5 rfl) [q_i x1, q_i 1, q_i 0, q_i 100] h (fun r M' e => c_X12_tellsOf e) rfl rfl ⟨by decide, by decide⟩ (Nat.le_of_ble_eq_true rfl) ⟨Nat.le_of_ble_eq_true rfl, Nat.le_of_ble_eq_true rfl⟩ (fun v1 M2 h => ?_)
  exact jr_iret hC (D_X12_loosensOf.g 6 rfl) hr hE h
def f_X12_laid (th : Nat) (x1 : Int) (x2 : Int) (x3 : Int) (M : jMem) : Option (Int × jMem) :=
(jm_gR 12 48 M th).bind fun r1 =>
(jm_st 20 M r1 x1 x2).bind fun M2 =>
(jm_gR 12 48 M2 th).bind fun r3 =>
(jm_st 20 M2 r3 (18 + x1) x3).bind fun M4 =>
(jm_gR 12 48 M4 th).bind fun r5 =>
(jm_st 20 M4 r5 (36 + x1) 0).bind fun M6 =>
(jm_gR 12 48 M6 th).bind fun r7 =>
(jm_st 20 M6 r7 (54 + x1) 0).bind fun M8 =>
some (0, M8)
theorem D_X12_laid : jDs cX12_laid [(0, .aload_n 0, 1, 1), (1, .getfield 113, 3, 4), (4, .iload_n 1, 1, 5), (5, .iload_n 2, 1, 6), (6, .iastore, 1, 7), (7, .aload_n 0, 1, 8), (8, .getfield 113, 3, 11), (11, .bipush 18, 2, 13), (13, .iload_n 1, 1, 14), (14, .iadd, 1, 15), (15, .iload_n 3, 1, 16), (16, .iastore, 1, 17), (17, .aload_n 0, 1, 18), (18, .getfield 113, 3, 21), (21, .bipush 36, 2, 23), (23, .iload_n 1, 1, 24), (24, .iadd, 1, 25), (25, .iconst 0, 1, 26), (26, .iastore, 1, 27), (27, .aload_n 0, 1, 28), (28, .getfield 113, 3, 31), (31, .bipush 54, 2, 33), (33, .iload_n 1, 1, 34), (34, .iadd, 1, 35), (35, .iconst 0, 1, 36), (36, .iastore, 1, 37), (37, .return_, 1, 38)] := by unfold jDs; decide +kernel
set_option maxRecDepth 100000 in
set_option maxHeartbeats 4000000 in
theorem c_X12_laid {E : jE} {th : Nat} {x1 : Int} {x2 : Int} {x3 : Int} {M : jMem} {r : Int} {M' : jMem} (h : f_X12_laid th x1 x2 x3 M = some (r, M')) : jMet E yX12_laid cX12_laid 4 (none) 2 0 0 [q_r E th, q_i x1, q_i x2, q_i x3] M (none) M' := by
  unfold f_X12_laid at h
  refine jMet.of RX12 rfl (by decide +kernel) (Nat.le_of_ble_eq_true rfl) [(0, q_r E th), (1, q_i x1), (2, q_i x2), (3, q_i x3)] rfl (fun X hC hE hr hn => ?_)
  refine jr_aload_n hC (D_X12_laid.g 0 rfl) 0 rfl ?_
  refine jr_getR hC fl_X12_113 rfl (D_X12_laid.g 1 rfl) h (fun r1 h => ?_)
  refine jr_iload_n hC (D_X12_laid.g 2 rfl) 1 rfl ?_
  refine jr_iload_n hC (D_X12_laid.g 3 rfl) 2 rfl ?_
  refine jr_iast hC (D_X12_laid.g 4 rfl) h (fun M2 _ h => ?_)
  refine jr_aload_n hC (D_X12_laid.g 5 rfl) 0 rfl ?_
  refine jr_getR hC fl_X12_113 rfl (D_X12_laid.g 6 rfl) h (fun r3 h => ?_)
  refine jr_bipush hC (D_X12_laid.g 7 rfl) bp_18 ?_
  refine jr_iload_n hC (D_X12_laid.g 8 rfl) 1 rfl ?_
  refine jr_iadd hC (D_X12_laid.g 9 rfl) ?_
  refine jr_iload_n hC (D_X12_laid.g 10 rfl) 3 rfl ?_
  refine jr_iast hC (D_X12_laid.g 11 rfl) h (fun M4 _ h => ?_)
  refine jr_aload_n hC (D_X12_laid.g 12 rfl) 0 rfl ?_
  refine jr_getR hC fl_X12_113 rfl (D_X12_laid.g 13 rfl) h (fun r5 h => ?_)
  refine jr_bipush hC (D_X12_laid.g 14 rfl) bp_36 ?_
  refine jr_iload_n hC (D_X12_laid.g 15 rfl) 1 rfl ?_
  refine jr_iadd hC (D_X12_laid.g 16 rfl) ?_
  refine jr_iconst hC (D_X12_laid.g 17 rfl) ?_
  refine jr_iast hC (D_X12_laid.g 18 rfl) h (fun M6 _ h => ?_)
  refine jr_aload_n hC (D_X12_laid.g 19 rfl) 0 rfl ?_
  refine jr_getR hC fl_X12_113 rfl (D_X12_laid.g 20 rfl) h (fun r7 h => ?_)
  refine jr_bipush hC (D_X12_laid.g 21 rfl) bp_54 ?_
  refine jr_iload_n hC (D_X12_laid.g 22 rfl) 1 rfl ?_
  refine jr_iadd hC (D_X12_laid.g 23 rfl) ?_
  refine jr_iconst hC (D_X12_laid.g 24 rfl) ?_
  refine jr_iast hC (D_X12_laid.g 25 rfl) h (fun M8 _ h => ?_)
  exact jr_vret hC (D_X12_laid.g 26 rfl) hr hE h
def f_X12_lifted (th : Nat) (x1 : Int) (M : jMem) : Option (Int × jMem) :=
jcall 12 M th (f_X12_laid th x1 (-2) 0 M) fun _ M2 =>
some (0, M2)
theorem D_X12_lifted : jDs cX12_lifted [(0, .aload_n 0, 1, 1), (1, .iload_n 1, 1, 2), (2, .bipush (-2), 2, 4), (4, .iconst 0, 1, 5), (5, .invokevirtual 360, 3, 8), (8, .return_, 1, 9)] := by unfold jDs; decide +kernel
set_option maxRecDepth 100000 in
set_option maxHeartbeats 4000000 in
theorem c_X12_lifted {E : jE} {th : Nat} {x1 : Int} {M : jMem} {r : Int} {M' : jMem} (h : f_X12_lifted th x1 M = some (r, M')) : jMet E yX12_lifted cX12_lifted 2 (none) 3 0 0 [q_r E th, q_i x1] M (none) M' := by
  unfold f_X12_lifted at h
  refine jMet.of RX12 rfl (by decide +kernel) (Nat.le_of_ble_eq_true rfl) [(0, q_r E th), (1, q_i x1)] rfl (fun X hC hE hr hn => ?_)
  refine jr_aload_n hC (D_X12_lifted.g 0 rfl) 0 rfl ?_
  refine jr_iload_n hC (D_X12_lifted.g 1 rfl) 1 rfl ?_
  refine jr_bipush hC (D_X12_lifted.g 2 rfl) bp_m2 ?_
  refine jr_iconst hC (D_X12_lifted.g 3 rfl) ?_
  refine jr_cVv hC cl_X12_360 ⟨rfl, by decide⟩ (D_X12_lifted.g 4 rfl) [q_i x1, q_i (-2), q_i 0] h (fun r M' e => c_X12_laid e) rfl rfl ⟨by decide, by decide⟩ (Nat.le_of_ble_eq_true rfl) ⟨Nat.le_of_ble_eq_true rfl, Nat.le_of_ble_eq_true rfl⟩ (fun _ M2 h => ?_)
  exact jr_vret hC (D_X12_lifted.g 5 rfl) hr hE h
def f_X12_stoneOf (th : Nat) (x1 : Int) (x2 : Int) (M : jMem) : Option (Int × jMem) :=
jcall 12 M th (f_X12_coupleAt th x1 M) fun v1 M2 =>
jjq (some ((-2), M2)) fun j_37 =>
if jd_wr v1 < 0 then (j_37 )
else ((jm_gR 12 48 M2 th).bind fun r3 =>
(jm_ld 20 M2 r3 v1).bind fun v4 =>
if jd_wr v4 = jd_wr x1 then ((jm_gR 12 48 M2 th).bind fun r5 =>
(jm_ld 20 M2 r5 (18 + v1)).bind fun v6 =>
if jd_wr v6 = jd_wr x2 then (some (v1, M2))
else (j_37 ))
else (j_37 ))
theorem D_X12_stoneOf : jDs cX12_stoneOf [(0, .aload_n 0, 1, 1), (1, .iload_n 1, 1, 2), (2, .invokevirtual 341, 3, 5), (5, .istore_n 3, 1, 6), (6, .iload_n 3, 1, 7), (7, .ifCond .lt 30, 3, 10), (10, .aload_n 0, 1, 11), (11, .getfield 113, 3, 14), (14, .iload_n 3, 1, 15), (15, .iaload, 1, 16), (16, .iload_n 1, 1, 17), (17, .if_icmp .ne 20, 3, 20), (20, .aload_n 0, 1, 21), (21, .getfield 113, 3, 24), (24, .bipush 18, 2, 26), (26, .iload_n 3, 1, 27), (27, .iadd, 1, 28), (28, .iaload, 1, 29), (29, .iload_n 2, 1, 30), (30, .if_icmp .ne 7, 3, 33), (33, .iload_n 3, 1, 34), (34, .goto 5, 3, 37), (37, .bipush (-2), 2, 39), (39, .ireturn, 1, 40)] := by unfold jDs; decide +kernel
set_option maxRecDepth 100000 in
set_option maxHeartbeats 4000000 in
theorem c_X12_stoneOf {E : jE} {th : Nat} {x1 : Int} {x2 : Int} {M : jMem} {r : Int} {M' : jMem} (h : f_X12_stoneOf th x1 x2 M = some (r, M')) : jMet E yX12_stoneOf cX12_stoneOf 4 (some .int) 5 0 0 [q_r E th, q_i x1, q_i x2] M (some (q_i r)) M' := by
  unfold f_X12_stoneOf at h
  refine jMet.of RX12 rfl (by decide +kernel) (Nat.le_of_ble_eq_true rfl) [(0, q_r E th), (1, q_i x1), (2, q_i x2)] rfl (fun X hC hE hr hn => ?_)
  refine jr_aload_n hC (D_X12_stoneOf.g 0 rfl) 0 rfl ?_
  refine jr_iload_n hC (D_X12_stoneOf.g 1 rfl) 1 rfl ?_
  refine jr_cVi hC cl_X12_341 ⟨rfl, by decide⟩ (D_X12_stoneOf.g 2 rfl) [q_i x1] h (fun r M' e => c_X12_coupleAt e) rfl rfl ⟨by decide, by decide⟩ (Nat.le_of_ble_eq_true rfl) ⟨Nat.le_of_ble_eq_true rfl, Nat.le_of_ble_eq_true rfl⟩ (fun v1 M2 h => ?_)
  refine jr_istore_n hC (D_X12_stoneOf.g 3 rfl) (by decide) rfl ?_
  refine jr_iload_n hC (D_X12_stoneOf.g 4 rfl) 0 rfl ?_
  refine jr_join h (fun j => j = some (r, M') → JW E X 4 0 0 M2 37 [] []) ?_ ?_
  · intro  h
    refine jr_bipush hC (D_X12_stoneOf.g 22 rfl) bp_m2 ?_
    exact jr_iret hC (D_X12_stoneOf.g 23 rfl) hr hE h
  intro j_37 hj_37 h
  refine jr_if_lt hC (D_X12_stoneOf.g 5 rfl) 37 rfl h (fun h => ?_) (fun h => ?_)
  · refine jr_pick [] rfl ?_
    exact hj_37  h
  refine jr_aload_n hC (D_X12_stoneOf.g 6 rfl) 1 rfl ?_
  refine jr_getR hC fl_X12_113 rfl (D_X12_stoneOf.g 7 rfl) h (fun r3 h => ?_)
  refine jr_iload_n hC (D_X12_stoneOf.g 8 rfl) 0 rfl ?_
  refine jr_iald hC (D_X12_stoneOf.g 9 rfl) h (fun v4 h => ?_)
  refine jr_iload_n hC (D_X12_stoneOf.g 10 rfl) 2 rfl ?_
  refine jr_icmp_ne hC (D_X12_stoneOf.g 11 rfl) 37 rfl h (fun h => ?_) (fun h => ?_)
  · refine jr_aload_n hC (D_X12_stoneOf.g 12 rfl) 1 rfl ?_
    refine jr_getR hC fl_X12_113 rfl (D_X12_stoneOf.g 13 rfl) h (fun r5 h => ?_)
    refine jr_bipush hC (D_X12_stoneOf.g 14 rfl) bp_18 ?_
    refine jr_iload_n hC (D_X12_stoneOf.g 15 rfl) 0 rfl ?_
    refine jr_iadd hC (D_X12_stoneOf.g 16 rfl) ?_
    refine jr_iald hC (D_X12_stoneOf.g 17 rfl) h (fun v6 h => ?_)
    refine jr_iload_n hC (D_X12_stoneOf.g 18 rfl) 3 rfl ?_
    refine jr_icmp_ne hC (D_X12_stoneOf.g 19 rfl) 37 rfl h (fun h => ?_) (fun h => ?_)
    · refine jr_iload_n hC (D_X12_stoneOf.g 20 rfl) 0 rfl ?_
      refine jr_goto hC (D_X12_stoneOf.g 21 rfl) 39 rfl ?_
      exact jr_iret hC (D_X12_stoneOf.g 23 rfl) hr hE h
    refine jr_pick [] rfl ?_
    exact hj_37  h
  refine jr_pick [] rfl ?_
  exact hj_37  h
def f_X12_canTurn (th : Nat) (x1 : Int) (M : jMem) : Option (Int × jMem) :=
jcall 12 M th (f_X12_isCell th x1 M) fun v1 M2 =>
if jd_wr v1 = 0 then (jm_z 0 M2)
else (jcall 12 M2 th (f_X12_secondCell th x1 0 M2) fun v3 M4 =>
if jd_wr v3 < 0 then (jm_z 0 M4)
else (jcall 12 M4 th (f_X12_secondCell th x1 1 M4) fun v5 M6 =>
if jd_wr v5 < 0 then (jm_z 0 M6)
else (jlp2 (fun rec_30 (y2_30 : Int) (M_30 : jMem) =>
if jd_wr y2_30 < jd_wr 2 then ((jm_gR 12 51 M_30 th).bind fun r7 =>
jcall 12 M_30 th (f_X12_stoneOf th x1 y2_30 M_30) fun v8 M9 =>
(jm_st 20 M9 r7 0 v8).bind fun M10 =>
(jm_gR 12 51 M10 th).bind fun r11 =>
jcall 12 M10 th (f_X12_secondCell th x1 (1 - y2_30) M10) fun v12 M13 =>
jcall 12 M13 th (f_X12_stoneOf th v12 y2_30 M13) fun v14 M15 =>
(jm_st 20 M15 r11 1 v14).bind fun M16 =>
(jm_gR 12 51 M16 th).bind fun r17 =>
(jm_ld 20 M16 r17 0).bind fun v18 =>
jjq (rec_30 (y2_30 + 1) M16) fun j_86 =>
if jd_wr v18 < 0 then (j_86 )
else ((jm_gR 12 51 M16 th).bind fun r19 =>
(jm_ld 20 M16 r19 1).bind fun v20 =>
if jd_wr v20 < 0 then (j_86 )
else (jm_z 1 M16)))
else (jm_z 0 M_30)) jfuel 0 M6)))
theorem D_X12_canTurn : jDs cX12_canTurn [(0, .aload_n 0, 1, 1), (1, .iload_n 1, 1, 2), (2, .invokevirtual 338, 3, 5), (5, .ifCond .eq 21, 3, 8), (8, .aload_n 0, 1, 9), (9, .iload_n 1, 1, 10), (10, .iconst 0, 1, 11), (11, .invokevirtual 364, 3, 14), (14, .ifCond .lt 12, 3, 17), (17, .aload_n 0, 1, 18), (18, .iload_n 1, 1, 19), (19, .iconst 1, 1, 20), (20, .invokevirtual 364, 3, 23), (23, .ifCond .ge 5, 3, 26), (26, .iconst 0, 1, 27), (27, .ireturn, 1, 28), (28, .iconst 0, 1, 29), (29, .istore_n 2, 1, 30), (30, .iload_n 2, 1, 31), (31, .iconst 2, 1, 32), (32, .if_icmp .ge 60, 3, 35), (35, .aload_n 0, 1, 36), (36, .getfield 119, 3, 39), (39, .iconst 0, 1, 40), (40, .aload_n 0, 1, 41), (41, .iload_n 1, 1, 42), (42, .iload_n 2, 1, 43), (43, .invokevirtual 367, 3, 46), (46, .iastore, 1, 47), (47, .aload_n 0, 1, 48), (48, .getfield 119, 3, 51), (51, .iconst 1, 1, 52), (52, .aload_n 0, 1, 53), (53, .aload_n 0, 1, 54), (54, .iload_n 1, 1, 55), (55, .iconst 1, 1, 56), (56, .iload_n 2, 1, 57), (57, .isub, 1, 58), (58, .invokevirtual 364, 3, 61), (61, .iload_n 2, 1, 62), (62, .invokevirtual 367, 3, 65), (65, .iastore, 1, 66), (66, .aload_n 0, 1, 67), (67, .getfield 119, 3, 70), (70, .iconst 0, 1, 71), (71, .iaload, 1, 72), (72, .ifCond .lt 14, 3, 75), (75, .aload_n 0, 1, 76), (76, .getfield 119, 3, 79), (79, .iconst 1, 1, 80), (80, .iaload, 1, 81), (81, .ifCond .lt 5, 3, 84), (84, .iconst 1, 1, 85), (85, .ireturn, 1, 86), (86, .iinc 2 1, 3, 89), (89, .goto (-59), 3, 92), (92, .iconst 0, 1, 93), (93, .ireturn, 1, 94)] := by unfold jDs; decide +kernel
set_option maxRecDepth 100000 in
set_option maxHeartbeats 4000000 in
theorem c_X12_canTurn {E : jE} {th : Nat} {x1 : Int} {M : jMem} {r : Int} {M' : jMem} (h : f_X12_canTurn th x1 M = some (r, M')) : jMet E yX12_canTurn cX12_canTurn 3 (some .boolean) 6 0 0 [q_r E th, q_i x1] M (some (q_i r)) M' := by
  unfold f_X12_canTurn at h
  refine jMet.of RX12 rfl (by decide +kernel) (Nat.le_of_ble_eq_true rfl) [(0, q_r E th), (1, q_i x1)] rfl (fun X hC hE hr hn => ?_)
  refine jr_aload_n hC (D_X12_canTurn.g 0 rfl) 0 rfl ?_
  refine jr_iload_n hC (D_X12_canTurn.g 1 rfl) 1 rfl ?_
  refine jr_cVi hC cl_X12_338 ⟨rfl, by decide⟩ (D_X12_canTurn.g 2 rfl) [q_i x1] h (fun r M' e => c_X12_isCell e) rfl rfl ⟨by decide, by decide⟩ (Nat.le_of_ble_eq_true rfl) ⟨Nat.le_of_ble_eq_true rfl, Nat.le_of_ble_eq_true rfl⟩ (fun v1 M2 h => ?_)
  refine jr_if_eq hC (D_X12_canTurn.g 3 rfl) 26 rfl h (fun h => ?_) (fun h => ?_)
  · refine jr_iconst hC (D_X12_canTurn.g 14 rfl) ?_
    exact jr_zret hC (D_X12_canTurn.g 15 rfl) hr hE h
  refine jr_aload_n hC (D_X12_canTurn.g 4 rfl) 0 rfl ?_
  refine jr_iload_n hC (D_X12_canTurn.g 5 rfl) 1 rfl ?_
  refine jr_iconst hC (D_X12_canTurn.g 6 rfl) ?_
  refine jr_cVi hC cl_X12_364 ⟨rfl, by decide⟩ (D_X12_canTurn.g 7 rfl) [q_i x1, q_i 0] h (fun r M' e => c_X12_secondCell e) rfl rfl ⟨by decide, by decide⟩ (Nat.le_of_ble_eq_true rfl) ⟨Nat.le_of_ble_eq_true rfl, Nat.le_of_ble_eq_true rfl⟩ (fun v3 M4 h => ?_)
  refine jr_if_lt hC (D_X12_canTurn.g 8 rfl) 26 rfl h (fun h => ?_) (fun h => ?_)
  · refine jr_iconst hC (D_X12_canTurn.g 14 rfl) ?_
    exact jr_zret hC (D_X12_canTurn.g 15 rfl) hr hE h
  refine jr_aload_n hC (D_X12_canTurn.g 9 rfl) 0 rfl ?_
  refine jr_iload_n hC (D_X12_canTurn.g 10 rfl) 1 rfl ?_
  refine jr_iconst hC (D_X12_canTurn.g 11 rfl) ?_
  refine jr_cVi hC cl_X12_364 ⟨rfl, by decide⟩ (D_X12_canTurn.g 12 rfl) [q_i x1, q_i 1] h (fun r M' e => c_X12_secondCell e) rfl rfl ⟨by decide, by decide⟩ (Nat.le_of_ble_eq_true rfl) ⟨Nat.le_of_ble_eq_true rfl, Nat.le_of_ble_eq_true rfl⟩ (fun v5 M6 h => ?_)
  refine jr_if_ge hC (D_X12_canTurn.g 13 rfl) 28 rfl h (fun h => ?_) (fun h => ?_)
  · refine jr_iconst hC (D_X12_canTurn.g 14 rfl) ?_
    exact jr_zret hC (D_X12_canTurn.g 15 rfl) hr hE h
  refine jr_iconst hC (D_X12_canTurn.g 16 rfl) ?_
  refine jr_istore_n hC (D_X12_canTurn.g 17 rfl) (by decide) rfl ?_
  refine jr_pick [1, 2, 0] rfl ?_
  refine jr_lp2 (fun (y2_30 : Int) (M_30 : jMem) => JW E X 3 0 0 M_30 30 [(0, q_r E th), (1, q_i x1), (2, q_i y2_30)] []) ?_ jfuel 0 M6 h
  intro rec_30 hrec_30 y2_30 M_30 h
  refine jr_iload_n hC (D_X12_canTurn.g 18 rfl) 2 rfl ?_
  refine jr_iconst hC (D_X12_canTurn.g 19 rfl) ?_
  refine jr_icmp_ge hC (D_X12_canTurn.g 20 rfl) 92 rfl h (fun h => ?_) (fun h => ?_)
  · refine jr_aload_n hC (D_X12_canTurn.g 21 rfl) 0 rfl ?_
    refine jr_getR hC fl_X12_119 rfl (D_X12_canTurn.g 22 rfl) h (fun r7 h => ?_)
    refine jr_iconst hC (D_X12_canTurn.g 23 rfl) ?_
    refine jr_aload_n hC (D_X12_canTurn.g 24 rfl) 0 rfl ?_
    refine jr_iload_n hC (D_X12_canTurn.g 25 rfl) 1 rfl ?_
    refine jr_iload_n hC (D_X12_canTurn.g 26 rfl) 2 rfl ?_
    refine jr_cVi hC cl_X12_367 ⟨rfl, by decide⟩ (D_X12_canTurn.g 27 rfl) [q_i x1, q_i y2_30] h (fun r M' e => c_X12_stoneOf e) rfl rfl ⟨by decide, by decide⟩ (Nat.le_of_ble_eq_true rfl) ⟨Nat.le_of_ble_eq_true rfl, Nat.le_of_ble_eq_true rfl⟩ (fun v8 M9 h => ?_)
    refine jr_iast hC (D_X12_canTurn.g 28 rfl) h (fun M10 _ h => ?_)
    refine jr_aload_n hC (D_X12_canTurn.g 29 rfl) 0 rfl ?_
    refine jr_getR hC fl_X12_119 rfl (D_X12_canTurn.g 30 rfl) h (fun r11 h => ?_)
    refine jr_iconst hC (D_X12_canTurn.g 31 rfl) ?_
    refine jr_aload_n hC (D_X12_canTurn.g 32 rfl) 0 rfl ?_
    refine jr_aload_n hC (D_X12_canTurn.g 33 rfl) 0 rfl ?_
    refine jr_iload_n hC (D_X12_canTurn.g 34 rfl) 1 rfl ?_
    refine jr_iconst hC (D_X12_canTurn.g 35 rfl) ?_
    refine jr_iload_n hC (D_X12_canTurn.g 36 rfl) 2 rfl ?_
    refine jr_isub hC (D_X12_canTurn.g 37 rfl) ?_
    refine jr_cVi hC cl_X12_364 ⟨rfl, by decide⟩ (D_X12_canTurn.g 38 rfl) [q_i x1, q_i (1 - y2_30)] h (fun r M' e => c_X12_secondCell e) rfl rfl ⟨by decide, by decide⟩ (Nat.le_of_ble_eq_true rfl) ⟨Nat.le_of_ble_eq_true rfl, Nat.le_of_ble_eq_true rfl⟩ (fun v12 M13 h => ?_)
    refine jr_iload_n hC (D_X12_canTurn.g 39 rfl) 2 rfl ?_
    refine jr_cVi hC cl_X12_367 ⟨rfl, by decide⟩ (D_X12_canTurn.g 40 rfl) [q_i v12, q_i y2_30] h (fun r M' e => c_X12_stoneOf e) rfl rfl ⟨by decide, by decide⟩ (Nat.le_of_ble_eq_true rfl) ⟨Nat.le_of_ble_eq_true rfl, Nat.le_of_ble_eq_true rfl⟩ (fun v14 M15 h => ?_)
    refine jr_iast hC (D_X12_canTurn.g 41 rfl) h (fun M16 _ h => ?_)
    refine jr_aload_n hC (D_X12_canTurn.g 42 rfl) 0 rfl ?_
    refine jr_getR hC fl_X12_119 rfl (D_X12_canTurn.g 43 rfl) h (fun r17 h => ?_)
    refine jr_iconst hC (D_X12_canTurn.g 44 rfl) ?_
    refine jr_iald hC (D_X12_canTurn.g 45 rfl) h (fun v18 h => ?_)
    refine jr_join h (fun j => j = some (r, M') → JW E X 3 0 0 M16 86 [(0, q_r E th), (1, q_i x1), (2, q_i y2_30)] []) ?_ ?_
    · intro  h
      refine jr_iinc hC (D_X12_canTurn.g 54 rfl) 2 rfl (by decide) rfl ?_
      refine jr_goto hC (D_X12_canTurn.g 55 rfl) 30 rfl ?_
      refine jr_pick [1, 2, 0] rfl ?_
      exact hrec_30 (y2_30 + 1) M16 h
    intro j_86 hj_86 h
    refine jr_if_lt hC (D_X12_canTurn.g 46 rfl) 86 rfl h (fun h => ?_) (fun h => ?_)
    · exact hj_86  h
    refine jr_aload_n hC (D_X12_canTurn.g 47 rfl) 0 rfl ?_
    refine jr_getR hC fl_X12_119 rfl (D_X12_canTurn.g 48 rfl) h (fun r19 h => ?_)
    refine jr_iconst hC (D_X12_canTurn.g 49 rfl) ?_
    refine jr_iald hC (D_X12_canTurn.g 50 rfl) h (fun v20 h => ?_)
    refine jr_if_lt hC (D_X12_canTurn.g 51 rfl) 86 rfl h (fun h => ?_) (fun h => ?_)
    · exact hj_86  h
    refine jr_iconst hC (D_X12_canTurn.g 52 rfl) ?_
    exact jr_zret hC (D_X12_canTurn.g 53 rfl) hr hE h
  refine jr_iconst hC (D_X12_canTurn.g 56 rfl) ?_
  exact jr_zret hC (D_X12_canTurn.g 57 rfl) hr hE h
def f_X12_turnAsks (th : Nat) (M : jMem) : Option (Int × jMem) :=
(jm_gR 12 51 M th).bind fun r1 =>
(jm_ld 20 M r1 0).bind fun v2 =>
jcall 12 M th (f_X12_asksOf th v2 M) fun v3 M4 =>
(jm_gR 12 51 M4 th).bind fun r5 =>
(jm_ld 20 M4 r5 1).bind fun v6 =>
jcall 12 M4 th (f_X12_asksOf th v6 M4) fun v7 M8 =>
some ((v3 + v7), M8)
theorem D_X12_turnAsks : jDs cX12_turnAsks [(0, .aload_n 0, 1, 1), (1, .aload_n 0, 1, 2), (2, .getfield 119, 3, 5), (5, .iconst 0, 1, 6), (6, .iaload, 1, 7), (7, .invokevirtual 370, 3, 10), (10, .aload_n 0, 1, 11), (11, .aload_n 0, 1, 12), (12, .getfield 119, 3, 15), (15, .iconst 1, 1, 16), (16, .iaload, 1, 17), (17, .invokevirtual 370, 3, 20), (20, .iadd, 1, 21), (21, .ireturn, 1, 22)] := by unfold jDs; decide +kernel
set_option maxRecDepth 100000 in
set_option maxHeartbeats 4000000 in
theorem c_X12_turnAsks {E : jE} {th : Nat} {M : jMem} {r : Int} {M' : jMem} (h : f_X12_turnAsks th M = some (r, M')) : jMet E yX12_turnAsks cX12_turnAsks 1 (some .int) 6 0 0 [q_r E th] M (some (q_i r)) M' := by
  unfold f_X12_turnAsks at h
  refine jMet.of RX12 rfl (by decide +kernel) (Nat.le_of_ble_eq_true rfl) [(0, q_r E th)] rfl (fun X hC hE hr hn => ?_)
  refine jr_aload_n hC (D_X12_turnAsks.g 0 rfl) 0 rfl ?_
  refine jr_aload_n hC (D_X12_turnAsks.g 1 rfl) 0 rfl ?_
  refine jr_getR hC fl_X12_119 rfl (D_X12_turnAsks.g 2 rfl) h (fun r1 h => ?_)
  refine jr_iconst hC (D_X12_turnAsks.g 3 rfl) ?_
  refine jr_iald hC (D_X12_turnAsks.g 4 rfl) h (fun v2 h => ?_)
  refine jr_cVi hC cl_X12_370 ⟨rfl, by decide⟩ (D_X12_turnAsks.g 5 rfl) [q_i v2] h (fun r M' e => c_X12_asksOf e) rfl rfl ⟨by decide, by decide⟩ (Nat.le_of_ble_eq_true rfl) ⟨Nat.le_of_ble_eq_true rfl, Nat.le_of_ble_eq_true rfl⟩ (fun v3 M4 h => ?_)
  refine jr_aload_n hC (D_X12_turnAsks.g 6 rfl) 0 rfl ?_
  refine jr_aload_n hC (D_X12_turnAsks.g 7 rfl) 0 rfl ?_
  refine jr_getR hC fl_X12_119 rfl (D_X12_turnAsks.g 8 rfl) h (fun r5 h => ?_)
  refine jr_iconst hC (D_X12_turnAsks.g 9 rfl) ?_
  refine jr_iald hC (D_X12_turnAsks.g 10 rfl) h (fun v6 h => ?_)
  refine jr_cVi hC cl_X12_370 ⟨rfl, by decide⟩ (D_X12_turnAsks.g 11 rfl) [q_i v6] h (fun r M' e => c_X12_asksOf e) rfl rfl ⟨by decide, by decide⟩ (Nat.le_of_ble_eq_true rfl) ⟨Nat.le_of_ble_eq_true rfl, Nat.le_of_ble_eq_true rfl⟩ (fun v7 M8 h => ?_)
  refine jr_iadd hC (D_X12_turnAsks.g 12 rfl) ?_
  exact jr_iret hC (D_X12_turnAsks.g 13 rfl) hr hE h
def f_X12_seasonGoes (th : Nat) (M : jMem) : Option (Int × jMem) :=
jlp2 (fun rec_2 (y1_2 : Int) (M_2 : jMem) =>
if jd_wr y1_2 < jd_wr 18 then ((jm_gR 12 52 M_2 th).bind fun r1 =>
jcall 12 M_2 th (f_X12_lies th y1_2 M_2) fun v2 M3 =>
jjq (fun (z0_50 : Int) (M_50 : jMem) =>
(jm_st 22 M_50 r1 y1_2 (jd_z z0_50)).bind fun M4 =>
rec_2 (y1_2 + 1) M4) fun j_50 =>
jjq (fun (M_49 : jMem) =>
j_50 0 M_49) fun j_49 =>
if jd_wr v2 = 0 then (j_49 M3)
else ((jm_gR 12 48 M3 th).bind fun r5 =>
(jm_ld 20 M3 r5 72).bind fun v6 =>
jcall 12 M3 th (f_X12_lotOf th ((32 * v6) + y1_2) M3) fun v7 M8 =>
jcall 12 M8 th (f_X12_loosensOf th y1_2 M8) fun v9 M10 =>
if jd_wr v7 < jd_wr v9 then (j_50 1 M10)
else (j_49 M10)))
else (jlp2 (fun rec_59 (y1_59 : Int) (M_59 : jMem) =>
if jd_wr y1_59 < jd_wr 18 then ((jm_gR 12 52 M_59 th).bind fun r11 =>
(jm_ld 22 M_59 r11 y1_59).bind fun v12 =>
jjq (fun (M_114 : jMem) =>
rec_59 (y1_59 + 1) M_114) fun j_114 =>
if jd_wr v12 = 0 then (jcall 12 M_59 th (f_X12_lies th y1_59 M_59) fun v13 M14 =>
if jd_wr v13 = 0 then (j_114 M14)
else ((jm_gR 12 48 M14 th).bind fun r15 =>
(jm_ld 20 M14 r15 (54 + y1_59)).bind fun v16 =>
(jm_st 20 M14 r15 (54 + y1_59) (v16 + 1)).bind fun M17 =>
j_114 M17))
else (jcall 12 M_59 th (f_X12_lifted th y1_59 M_59) fun _ M19 =>
(jm_gR 12 48 M19 th).bind fun r20 =>
(jm_ld 20 M19 r20 74).bind fun v21 =>
(jm_st 20 M19 r20 74 (v21 + 1)).bind fun M22 =>
j_114 M22))
else ((jm_gR 12 48 M_59 th).bind fun r23 =>
(jm_ld 20 M_59 r23 72).bind fun v24 =>
(jm_st 20 M_59 r23 72 (v24 + 1)).bind fun M25 =>
some (0, M25))) jfuel 0 M_2)) jfuel 0 M
theorem D_X12_seasonGoes : jDs cX12_seasonGoes [(0, .iconst 0, 1, 1), (1, .istore_n 1, 1, 2), (2, .iload_n 1, 1, 3), (3, .bipush 18, 2, 5), (5, .if_icmp .ge 52, 3, 8), (8, .aload_n 0, 1, 9), (9, .getfield 122, 3, 12), (12, .iload_n 1, 1, 13), (13, .aload_n 0, 1, 14), (14, .iload_n 1, 1, 15), (15, .invokevirtual 332, 3, 18), (18, .ifCond .eq 31, 3, 21), (21, .aload_n 0, 1, 22), (22, .bipush 32, 2, 24), (24, .aload_n 0, 1, 25), (25, .getfield 113, 3, 28), (28, .bipush 72, 2, 30), (30, .iaload, 1, 31), (31, .imul, 1, 32), (32, .iload_n 1, 1, 33), (33, .iadd, 1, 34), (34, .invokevirtual 373, 3, 37), (37, .aload_n 0, 1, 38), (38, .iload_n 1, 1, 39), (39, .invokevirtual 376, 3, 42), (42, .if_icmp .ge 7, 3, 45), (45, .iconst 1, 1, 46), (46, .goto 4, 3, 49), (49, .iconst 0, 1, 50), (50, .bastore, 1, 51), (51, .iinc 1 1, 3, 54), (54, .goto (-52), 3, 57), (57, .iconst 0, 1, 58), (58, .istore_n 1, 1, 59), (59, .iload_n 1, 1, 60), (60, .bipush 18, 2, 62), (62, .if_icmp .ge 58, 3, 65), (65, .aload_n 0, 1, 66), (66, .getfield 122, 3, 69), (69, .iload_n 1, 1, 70), (70, .baload, 1, 71), (71, .ifCond .eq 22, 3, 74), (74, .aload_n 0, 1, 75), (75, .iload_n 1, 1, 76), (76, .invokevirtual 379, 3, 79), (79, .aload_n 0, 1, 80), (80, .getfield 113, 3, 83), (83, .bipush 74, 2, 85), (85, .dup2, 1, 86), (86, .iaload, 1, 87), (87, .iconst 1, 1, 88), (88, .iadd, 1, 89), (89, .iastore, 1, 90), (90, .goto 24, 3, 93), (93, .aload_n 0, 1, 94), (94, .iload_n 1, 1, 95), (95, .invokevirtual 332, 3, 98), (98, .ifCond .eq 16, 3, 101), (101, .aload_n 0, 1, 102), (102, .getfield 113, 3, 105), (105, .bipush 54, 2, 107), (107, .iload_n 1, 1, 108), (108, .iadd, 1, 109), (109, .dup2, 1, 110), (110, .iaload, 1, 111), (111, .iconst 1, 1, 112), (112, .iadd, 1, 113), (113, .iastore, 1, 114), (114, .iinc 1 1, 3, 117), (117, .goto (-58), 3, 120), (120, .aload_n 0, 1, 121), (121, .getfield 113, 3, 124), (124, .bipush 72, 2, 126), (126, .dup2, 1, 127), (127, .iaload, 1, 128), (128, .iconst 1, 1, 129), (129, .iadd, 1, 130), (130, .iastore, 1, 131), (131, .return_, 1, 132)] := by unfold jDs; decide +kernel
set_option maxRecDepth 100000 in
set_option maxHeartbeats 4000000 in
theorem c_X12_seasonGoes {E : jE} {th : Nat} {M : jMem} {r : Int} {M' : jMem} (h : f_X12_seasonGoes th M = some (r, M')) : jMet E yX12_seasonGoes cX12_seasonGoes 2 (none) 6 0 0 [q_r E th] M (none) M' := by
  unfold f_X12_seasonGoes at h
  refine jMet.of RX12 rfl (by decide +kernel) (Nat.le_of_ble_eq_true rfl) [(0, q_r E th)] rfl (fun X hC hE hr hn => ?_)
  refine jr_iconst hC (D_X12_seasonGoes.g 0 rfl) ?_
  refine jr_istore_n hC (D_X12_seasonGoes.g 1 rfl) (by decide) rfl ?_
  refine jr_pick [1, 0] rfl ?_
  refine jr_lp2 (fun (y1_2 : Int) (M_2 : jMem) => JW E X 2 0 0 M_2 2 [(0, q_r E th), (1, q_i y1_2)] []) ?_ jfuel 0 M h
  intro rec_2 hrec_2 y1_2 M_2 h
  refine jr_iload_n hC (D_X12_seasonGoes.g 2 rfl) 1 rfl ?_
  refine jr_bipush hC (D_X12_seasonGoes.g 3 rfl) bp_18 ?_
  refine jr_icmp_ge hC (D_X12_seasonGoes.g 4 rfl) 57 rfl h (fun h => ?_) (fun h => ?_)
  · refine jr_aload_n hC (D_X12_seasonGoes.g 5 rfl) 0 rfl ?_
    refine jr_getR hC fl_X12_122 rfl (D_X12_seasonGoes.g 6 rfl) h (fun r1 h => ?_)
    refine jr_iload_n hC (D_X12_seasonGoes.g 7 rfl) 1 rfl ?_
    refine jr_aload_n hC (D_X12_seasonGoes.g 8 rfl) 0 rfl ?_
    refine jr_iload_n hC (D_X12_seasonGoes.g 9 rfl) 1 rfl ?_
    refine jr_cVi hC cl_X12_332 ⟨rfl, by decide⟩ (D_X12_seasonGoes.g 10 rfl) [q_i y1_2] h (fun r M' e => c_X12_lies e) rfl rfl ⟨by decide, by decide⟩ (Nat.le_of_ble_eq_true rfl) ⟨Nat.le_of_ble_eq_true rfl, Nat.le_of_ble_eq_true rfl⟩ (fun v2 M3 h => ?_)
    refine jr_join h (fun j => ∀ (z0_50 : Int) (M_50 : jMem), j z0_50 M_50 = some (r, M') → JW E X 2 0 0 M_50 50 [(0, q_r E th), (1, q_i y1_2)] [q_i z0_50, q_i y1_2, q_r E r1]) ?_ ?_
    · intro z0_50 M_50 h
      refine jr_zast hC (D_X12_seasonGoes.g 29 rfl) h (fun M4 _ h => ?_)
      refine jr_iinc hC (D_X12_seasonGoes.g 30 rfl) 1 rfl (by decide) rfl ?_
      refine jr_goto hC (D_X12_seasonGoes.g 31 rfl) 2 rfl ?_
      refine jr_pick [1, 0] rfl ?_
      exact hrec_2 (y1_2 + 1) M4 h
    intro j_50 hj_50 h
    refine jr_join h (fun j => ∀ (M_49 : jMem), j M_49 = some (r, M') → JW E X 2 0 0 M_49 49 [(0, q_r E th), (1, q_i y1_2)] [q_i y1_2, q_r E r1]) ?_ ?_
    · intro M_49 h
      refine jr_iconst hC (D_X12_seasonGoes.g 28 rfl) ?_
      exact hj_50 0 M_49 h
    intro j_49 hj_49 h
    refine jr_if_eq hC (D_X12_seasonGoes.g 11 rfl) 49 rfl h (fun h => ?_) (fun h => ?_)
    · exact hj_49 M3 h
    refine jr_aload_n hC (D_X12_seasonGoes.g 12 rfl) 0 rfl ?_
    refine jr_bipush hC (D_X12_seasonGoes.g 13 rfl) bp_32 ?_
    refine jr_aload_n hC (D_X12_seasonGoes.g 14 rfl) 0 rfl ?_
    refine jr_getR hC fl_X12_113 rfl (D_X12_seasonGoes.g 15 rfl) h (fun r5 h => ?_)
    refine jr_bipush hC (D_X12_seasonGoes.g 16 rfl) bp_72 ?_
    refine jr_iald hC (D_X12_seasonGoes.g 17 rfl) h (fun v6 h => ?_)
    refine jr_imul hC (D_X12_seasonGoes.g 18 rfl) ?_
    refine jr_iload_n hC (D_X12_seasonGoes.g 19 rfl) 1 rfl ?_
    refine jr_iadd hC (D_X12_seasonGoes.g 20 rfl) ?_
    refine jr_cVi hC cl_X12_373 ⟨rfl, by decide⟩ (D_X12_seasonGoes.g 21 rfl) [q_i ((32 * v6) + y1_2)] h (fun r M' e => c_X12_lotOf e) rfl rfl ⟨by decide, by decide⟩ (Nat.le_of_ble_eq_true rfl) ⟨Nat.le_of_ble_eq_true rfl, Nat.le_of_ble_eq_true rfl⟩ (fun v7 M8 h => ?_)
    refine jr_aload_n hC (D_X12_seasonGoes.g 22 rfl) 0 rfl ?_
    refine jr_iload_n hC (D_X12_seasonGoes.g 23 rfl) 1 rfl ?_
    refine jr_cVi hC cl_X12_376 ⟨rfl, by decide⟩ (D_X12_seasonGoes.g 24 rfl) [q_i y1_2] h (fun r M' e => c_X12_loosensOf e) rfl rfl ⟨by decide, by decide⟩ (Nat.le_of_ble_eq_true rfl) ⟨Nat.le_of_ble_eq_true rfl, Nat.le_of_ble_eq_true rfl⟩ (fun v9 M10 h => ?_)
    refine jr_icmp_ge hC (D_X12_seasonGoes.g 25 rfl) 49 rfl h (fun h => ?_) (fun h => ?_)
    · refine jr_iconst hC (D_X12_seasonGoes.g 26 rfl) ?_
      refine jr_goto hC (D_X12_seasonGoes.g 27 rfl) 50 rfl ?_
      exact hj_50 1 M10 h
    exact hj_49 M10 h
  refine jr_iconst hC (D_X12_seasonGoes.g 32 rfl) ?_
  refine jr_istore_n hC (D_X12_seasonGoes.g 33 rfl) (by decide) rfl ?_
  refine jr_pick [1, 0] rfl ?_
  refine jr_lp2 (fun (y1_59 : Int) (M_59 : jMem) => JW E X 2 0 0 M_59 59 [(0, q_r E th), (1, q_i y1_59)] []) ?_ jfuel 0 M_2 h
  intro rec_59 hrec_59 y1_59 M_59 h
  refine jr_iload_n hC (D_X12_seasonGoes.g 34 rfl) 1 rfl ?_
  refine jr_bipush hC (D_X12_seasonGoes.g 35 rfl) bp_18 ?_
  refine jr_icmp_ge hC (D_X12_seasonGoes.g 36 rfl) 120 rfl h (fun h => ?_) (fun h => ?_)
  · refine jr_aload_n hC (D_X12_seasonGoes.g 37 rfl) 0 rfl ?_
    refine jr_getR hC fl_X12_122 rfl (D_X12_seasonGoes.g 38 rfl) h (fun r11 h => ?_)
    refine jr_iload_n hC (D_X12_seasonGoes.g 39 rfl) 1 rfl ?_
    refine jr_zald hC (D_X12_seasonGoes.g 40 rfl) h (fun v12 h => ?_)
    refine jr_join h (fun j => ∀ (M_114 : jMem), j M_114 = some (r, M') → JW E X 2 0 0 M_114 114 [(0, q_r E th), (1, q_i y1_59)] []) ?_ ?_
    · intro M_114 h
      refine jr_iinc hC (D_X12_seasonGoes.g 68 rfl) 1 rfl (by decide) rfl ?_
      refine jr_goto hC (D_X12_seasonGoes.g 69 rfl) 59 rfl ?_
      refine jr_pick [1, 0] rfl ?_
      exact hrec_59 (y1_59 + 1) M_114 h
    intro j_114 hj_114 h
    refine jr_if_eq hC (D_X12_seasonGoes.g 41 rfl) 93 rfl h (fun h => ?_) (fun h => ?_)
    · refine jr_aload_n hC (D_X12_seasonGoes.g 54 rfl) 0 rfl ?_
      refine jr_iload_n hC (D_X12_seasonGoes.g 55 rfl) 1 rfl ?_
      refine jr_cVi hC cl_X12_332 ⟨rfl, by decide⟩ (D_X12_seasonGoes.g 56 rfl) [q_i y1_59] h (fun r M' e => c_X12_lies e) rfl rfl ⟨by decide, by decide⟩ (Nat.le_of_ble_eq_true rfl) ⟨Nat.le_of_ble_eq_true rfl, Nat.le_of_ble_eq_true rfl⟩ (fun v13 M14 h => ?_)
      refine jr_if_eq hC (D_X12_seasonGoes.g 57 rfl) 114 rfl h (fun h => ?_) (fun h => ?_)
      · exact hj_114 M14 h
      refine jr_aload_n hC (D_X12_seasonGoes.g 58 rfl) 0 rfl ?_
      refine jr_getR hC fl_X12_113 rfl (D_X12_seasonGoes.g 59 rfl) h (fun r15 h => ?_)
      refine jr_bipush hC (D_X12_seasonGoes.g 60 rfl) bp_54 ?_
      refine jr_iload_n hC (D_X12_seasonGoes.g 61 rfl) 1 rfl ?_
      refine jr_iadd hC (D_X12_seasonGoes.g 62 rfl) ?_
      refine jr_dup2 hC (D_X12_seasonGoes.g 63 rfl) rfl rfl ?_
      refine jr_iald hC (D_X12_seasonGoes.g 64 rfl) h (fun v16 h => ?_)
      refine jr_iconst hC (D_X12_seasonGoes.g 65 rfl) ?_
      refine jr_iadd hC (D_X12_seasonGoes.g 66 rfl) ?_
      refine jr_iast hC (D_X12_seasonGoes.g 67 rfl) h (fun M17 _ h => ?_)
      exact hj_114 M17 h
    refine jr_aload_n hC (D_X12_seasonGoes.g 42 rfl) 0 rfl ?_
    refine jr_iload_n hC (D_X12_seasonGoes.g 43 rfl) 1 rfl ?_
    refine jr_cVv hC cl_X12_379 ⟨rfl, by decide⟩ (D_X12_seasonGoes.g 44 rfl) [q_i y1_59] h (fun r M' e => c_X12_lifted e) rfl rfl ⟨by decide, by decide⟩ (Nat.le_of_ble_eq_true rfl) ⟨Nat.le_of_ble_eq_true rfl, Nat.le_of_ble_eq_true rfl⟩ (fun _ M19 h => ?_)
    refine jr_aload_n hC (D_X12_seasonGoes.g 45 rfl) 0 rfl ?_
    refine jr_getR hC fl_X12_113 rfl (D_X12_seasonGoes.g 46 rfl) h (fun r20 h => ?_)
    refine jr_bipush hC (D_X12_seasonGoes.g 47 rfl) bp_74 ?_
    refine jr_dup2 hC (D_X12_seasonGoes.g 48 rfl) rfl rfl ?_
    refine jr_iald hC (D_X12_seasonGoes.g 49 rfl) h (fun v21 h => ?_)
    refine jr_iconst hC (D_X12_seasonGoes.g 50 rfl) ?_
    refine jr_iadd hC (D_X12_seasonGoes.g 51 rfl) ?_
    refine jr_iast hC (D_X12_seasonGoes.g 52 rfl) h (fun M22 _ h => ?_)
    refine jr_goto hC (D_X12_seasonGoes.g 53 rfl) 114 rfl ?_
    exact hj_114 M22 h
  refine jr_aload_n hC (D_X12_seasonGoes.g 70 rfl) 0 rfl ?_
  refine jr_getR hC fl_X12_113 rfl (D_X12_seasonGoes.g 71 rfl) h (fun r23 h => ?_)
  refine jr_bipush hC (D_X12_seasonGoes.g 72 rfl) bp_72 ?_
  refine jr_dup2 hC (D_X12_seasonGoes.g 73 rfl) rfl rfl ?_
  refine jr_iald hC (D_X12_seasonGoes.g 74 rfl) h (fun v24 h => ?_)
  refine jr_iconst hC (D_X12_seasonGoes.g 75 rfl) ?_
  refine jr_iadd hC (D_X12_seasonGoes.g 76 rfl) ?_
  refine jr_iast hC (D_X12_seasonGoes.g 77 rfl) h (fun M25 _ h => ?_)
  exact jr_vret hC (D_X12_seasonGoes.g 78 rfl) hr hE h
def f_X12_goes (th : Nat) (x1 : Int) (M : jMem) : Option (Int × jMem) :=
jlp2 (fun rec_2 (y2_2 : Int) (M_2 : jMem) =>
if jd_wr y2_2 < jd_wr x1 then (jcall 12 M_2 th (f_X12_seasonGoes th M_2) fun _ M2 =>
rec_2 (y2_2 + 1) M2)
else (some (0, M_2))) jfuel 0 M
theorem D_X12_goes : jDs cX12_goes [(0, .iconst 0, 1, 1), (1, .istore_n 2, 1, 2), (2, .iload_n 2, 1, 3), (3, .iload_n 1, 1, 4), (4, .if_icmp .ge 13, 3, 7), (7, .aload_n 0, 1, 8), (8, .invokevirtual 382, 3, 11), (11, .iinc 2 1, 3, 14), (14, .goto (-12), 3, 17), (17, .return_, 1, 18)] := by unfold jDs; decide +kernel
set_option maxRecDepth 100000 in
set_option maxHeartbeats 4000000 in
theorem c_X12_goes {E : jE} {th : Nat} {x1 : Int} {M : jMem} {r : Int} {M' : jMem} (h : f_X12_goes th x1 M = some (r, M')) : jMet E yX12_goes cX12_goes 3 (none) 7 0 0 [q_r E th, q_i x1] M (none) M' := by
  unfold f_X12_goes at h
  refine jMet.of RX12 rfl (by decide +kernel) (Nat.le_of_ble_eq_true rfl) [(0, q_r E th), (1, q_i x1)] rfl (fun X hC hE hr hn => ?_)
  refine jr_iconst hC (D_X12_goes.g 0 rfl) ?_
  refine jr_istore_n hC (D_X12_goes.g 1 rfl) (by decide) rfl ?_
  refine jr_pick [1, 2, 0] rfl ?_
  refine jr_lp2 (fun (y2_2 : Int) (M_2 : jMem) => JW E X 3 0 0 M_2 2 [(0, q_r E th), (1, q_i x1), (2, q_i y2_2)] []) ?_ jfuel 0 M h
  intro rec_2 hrec_2 y2_2 M_2 h
  refine jr_iload_n hC (D_X12_goes.g 2 rfl) 2 rfl ?_
  refine jr_iload_n hC (D_X12_goes.g 3 rfl) 1 rfl ?_
  refine jr_icmp_ge hC (D_X12_goes.g 4 rfl) 17 rfl h (fun h => ?_) (fun h => ?_)
  · refine jr_aload_n hC (D_X12_goes.g 5 rfl) 0 rfl ?_
    refine jr_cVv hC cl_X12_382 ⟨rfl, by decide⟩ (D_X12_goes.g 6 rfl) [] h (fun r M' e => c_X12_seasonGoes e) rfl rfl ⟨by decide, by decide⟩ (Nat.le_of_ble_eq_true rfl) ⟨Nat.le_of_ble_eq_true rfl, Nat.le_of_ble_eq_true rfl⟩ (fun _ M2 h => ?_)
    refine jr_iinc hC (D_X12_goes.g 7 rfl) 2 rfl (by decide) rfl ?_
    refine jr_goto hC (D_X12_goes.g 8 rfl) 2 rfl ?_
    refine jr_pick [1, 2, 0] rfl ?_
    exact hrec_2 (y2_2 + 1) M2 h
  exact jr_vret hC (D_X12_goes.g 9 rfl) hr hE h
def f_X12_isBlack (th : Nat) (x1 : Int) (M : jMem) : Option (Int × jMem) :=
jcall 12 M th (f_X12_w th M) fun v1 M2 =>
(jm_rm x1 v1).bind fun v3 =>
jcall 12 M2 th (f_X12_w th M2) fun v4 M5 =>
(jm_dv x1 v4).bind fun v6 =>
(jm_rm (v3 + v6) 2).bind fun v7 =>
if jd_wr v7 = 0 then (jm_z 1 M5)
else (jm_z 0 M5)
theorem D_X12_isBlack : jDs cX12_isBlack [(0, .iload_n 1, 1, 1), (1, .aload_n 0, 1, 2), (2, .invokevirtual 322, 3, 5), (5, .irem, 1, 6), (6, .iload_n 1, 1, 7), (7, .aload_n 0, 1, 8), (8, .invokevirtual 322, 3, 11), (11, .idiv, 1, 12), (12, .iadd, 1, 13), (13, .iconst 2, 1, 14), (14, .irem, 1, 15), (15, .ifCond .ne 7, 3, 18), (18, .iconst 1, 1, 19), (19, .goto 4, 3, 22), (22, .iconst 0, 1, 23), (23, .ireturn, 1, 24)] := by unfold jDs; decide +kernel
set_option maxRecDepth 100000 in
set_option maxHeartbeats 4000000 in
theorem c_X12_isBlack {E : jE} {th : Nat} {x1 : Int} {M : jMem} {r : Int} {M' : jMem} (h : f_X12_isBlack th x1 M = some (r, M')) : jMet E yX12_isBlack cX12_isBlack 2 (some .boolean) 3 0 0 [q_r E th, q_i x1] M (some (q_i r)) M' := by
  unfold f_X12_isBlack at h
  refine jMet.of RX12 rfl (by decide +kernel) (Nat.le_of_ble_eq_true rfl) [(0, q_r E th), (1, q_i x1)] rfl (fun X hC hE hr hn => ?_)
  refine jr_iload_n hC (D_X12_isBlack.g 0 rfl) 1 rfl ?_
  refine jr_aload_n hC (D_X12_isBlack.g 1 rfl) 0 rfl ?_
  refine jr_cVi hC cl_X12_322 ⟨rfl, by decide⟩ (D_X12_isBlack.g 2 rfl) [] h (fun r M' e => c_X12_w e) rfl rfl ⟨by decide, by decide⟩ (Nat.le_of_ble_eq_true rfl) ⟨Nat.le_of_ble_eq_true rfl, Nat.le_of_ble_eq_true rfl⟩ (fun v1 M2 h => ?_)
  refine jr_irem hC (D_X12_isBlack.g 3 rfl) h (fun v3 _ h => ?_)
  refine jr_iload_n hC (D_X12_isBlack.g 4 rfl) 1 rfl ?_
  refine jr_aload_n hC (D_X12_isBlack.g 5 rfl) 0 rfl ?_
  refine jr_cVi hC cl_X12_322 ⟨rfl, by decide⟩ (D_X12_isBlack.g 6 rfl) [] h (fun r M' e => c_X12_w e) rfl rfl ⟨by decide, by decide⟩ (Nat.le_of_ble_eq_true rfl) ⟨Nat.le_of_ble_eq_true rfl, Nat.le_of_ble_eq_true rfl⟩ (fun v4 M5 h => ?_)
  refine jr_idiv hC (D_X12_isBlack.g 7 rfl) h (fun v6 _ h => ?_)
  refine jr_iadd hC (D_X12_isBlack.g 8 rfl) ?_
  refine jr_iconst hC (D_X12_isBlack.g 9 rfl) ?_
  refine jr_irem hC (D_X12_isBlack.g 10 rfl) h (fun v7 _ h => ?_)
  refine jr_if_ne hC (D_X12_isBlack.g 11 rfl) 22 rfl h (fun h => ?_) (fun h => ?_)
  · refine jr_iconst hC (D_X12_isBlack.g 12 rfl) ?_
    refine jr_goto hC (D_X12_isBlack.g 13 rfl) 23 rfl ?_
    exact jr_zret hC (D_X12_isBlack.g 15 rfl) hr hE h
  refine jr_iconst hC (D_X12_isBlack.g 14 rfl) ?_
  exact jr_zret hC (D_X12_isBlack.g 15 rfl) hr hE h
def f_X12_cell (th : Nat) (x1 : Int) (x2 : Int) (M : jMem) : Option (Int × jMem) :=
jcall 12 M th (f_X12_isCell th x1 M) fun v1 M2 =>
if jd_wr v1 = 0 then (some ((-1), M2))
else (jcall 12 M2 th (f_X12_copies th M2) fun _ M4 =>
jcall 12 M4 th (f_X12_coupleAt th x1 M4) fun v5 M6 =>
if jd_wr x2 = 0 then ((jm_gR 12 50 M6 th).bind fun r7 =>
(jm_ld 22 M6 r7 x1).bind fun v8 =>
if jd_wr v8 = 0 then (if jd_wr v5 < 0 then (some (0, M6))
else (some (1, M6)))
else (some (2, M6)))
else if jd_wr x2 = 1 then (if jd_wr v5 < 0 then (some ((-2), M6))
else ((jm_gR 12 48 M6 th).bind fun r9 =>
(jm_ld 20 M6 r9 v5).bind fun v10 =>
if jd_wr v10 = jd_wr x1 then (jcall 12 M6 th (f_X12_otherCell th v5 M6) fun v11 M12 =>
some (v11, M12))
else ((jm_gR 12 48 M6 th).bind fun r13 =>
(jm_ld 20 M6 r13 v5).bind fun v14 =>
some (v14, M6))))
else if jd_wr x2 = 2 then (some (v5, M6))
else if jd_wr x2 = 3 then (jcall 12 M6 th (f_X12_isBlack th x1 M6) fun v15 M16 =>
if jd_wr v15 = 0 then (some (0, M16))
else (some (1, M16)))
else (some ((-1), M6)))
theorem D_X12_cell : jDs cX12_cell [(0, .aload_n 0, 1, 1), (1, .iload_n 1, 1, 2), (2, .invokevirtual 338, 3, 5), (5, .ifCond .ne 5, 3, 8), (8, .iconst (-1), 1, 9), (9, .ireturn, 1, 10), (10, .aload_n 0, 1, 11), (11, .invokevirtual 385, 3, 14), (14, .aload_n 0, 1, 15), (15, .iload_n 1, 1, 16), (16, .invokevirtual 341, 3, 19), (19, .istore_n 3, 1, 20), (20, .iload_n 2, 1, 21), (21, .tableswitch 104 0 3 #[31, 54, 88, 90], 31, 52), (52, .aload_n 0, 1, 53), (53, .getfield 116, 3, 56), (56, .iload_n 1, 1, 57), (57, .baload, 1, 58), (58, .ifCond .eq 7, 3, 61), (61, .iconst 2, 1, 62), (62, .goto 12, 3, 65), (65, .iload_n 3, 1, 66), (66, .ifCond .lt 7, 3, 69), (69, .iconst 1, 1, 70), (70, .goto 4, 3, 73), (73, .iconst 0, 1, 74), (74, .ireturn, 1, 75), (75, .iload_n 3, 1, 76), (76, .ifCond .ge 8, 3, 79), (79, .bipush (-2), 2, 81), (81, .goto 27, 3, 84), (84, .aload_n 0, 1, 85), (85, .getfield 113, 3, 88), (88, .iload_n 3, 1, 89), (89, .iaload, 1, 90), (90, .iload_n 1, 1, 91), (91, .if_icmp .ne 11, 3, 94), (94, .aload_n 0, 1, 95), (95, .iload_n 3, 1, 96), (96, .invokevirtual 335, 3, 99), (99, .goto 9, 3, 102), (102, .aload_n 0, 1, 103), (103, .getfield 113, 3, 106), (106, .iload_n 3, 1, 107), (107, .iaload, 1, 108), (108, .ireturn, 1, 109), (109, .iload_n 3, 1, 110), (110, .ireturn, 1, 111), (111, .aload_n 0, 1, 112), (112, .iload_n 1, 1, 113), (113, .invokevirtual 388, 3, 116), (116, .ifCond .eq 7, 3, 119), (119, .iconst 1, 1, 120), (120, .goto 4, 3, 123), (123, .iconst 0, 1, 124), (124, .ireturn, 1, 125), (125, .iconst (-1), 1, 126), (126, .ireturn, 1, 127)] := by unfold jDs; decide +kernel
set_option maxRecDepth 100000 in
set_option maxHeartbeats 4000000 in
theorem c_X12_cell {E : jE} {th : Nat} {x1 : Int} {x2 : Int} {M : jMem} {r : Int} {M' : jMem} (h : f_X12_cell th x1 x2 M = some (r, M')) : jMet E yX12_cell cX12_cell 4 (some .int) 5 0 0 [q_r E th, q_i x1, q_i x2] M (some (q_i r)) M' := by
  unfold f_X12_cell at h
  refine jMet.of RX12 rfl (by decide +kernel) (Nat.le_of_ble_eq_true rfl) [(0, q_r E th), (1, q_i x1), (2, q_i x2)] rfl (fun X hC hE hr hn => ?_)
  refine jr_aload_n hC (D_X12_cell.g 0 rfl) 0 rfl ?_
  refine jr_iload_n hC (D_X12_cell.g 1 rfl) 1 rfl ?_
  refine jr_cVi hC cl_X12_338 ⟨rfl, by decide⟩ (D_X12_cell.g 2 rfl) [q_i x1] h (fun r M' e => c_X12_isCell e) rfl rfl ⟨by decide, by decide⟩ (Nat.le_of_ble_eq_true rfl) ⟨Nat.le_of_ble_eq_true rfl, Nat.le_of_ble_eq_true rfl⟩ (fun v1 M2 h => ?_)
  refine jr_if_ne hC (D_X12_cell.g 3 rfl) 10 rfl h (fun h => ?_) (fun h => ?_)
  · refine jr_iconst hC (D_X12_cell.g 4 rfl) ?_
    exact jr_iret hC (D_X12_cell.g 5 rfl) hr hE h
  refine jr_aload_n hC (D_X12_cell.g 6 rfl) 0 rfl ?_
  refine jr_cVv hC cl_X12_385 ⟨rfl, by decide⟩ (D_X12_cell.g 7 rfl) [] h (fun r M' e => c_X12_copies e) rfl rfl ⟨by decide, by decide⟩ (Nat.le_of_ble_eq_true rfl) ⟨Nat.le_of_ble_eq_true rfl, Nat.le_of_ble_eq_true rfl⟩ (fun _ M4 h => ?_)
  refine jr_aload_n hC (D_X12_cell.g 8 rfl) 0 rfl ?_
  refine jr_iload_n hC (D_X12_cell.g 9 rfl) 1 rfl ?_
  refine jr_cVi hC cl_X12_341 ⟨rfl, by decide⟩ (D_X12_cell.g 10 rfl) [q_i x1] h (fun r M' e => c_X12_coupleAt e) rfl rfl ⟨by decide, by decide⟩ (Nat.le_of_ble_eq_true rfl) ⟨Nat.le_of_ble_eq_true rfl, Nat.le_of_ble_eq_true rfl⟩ (fun v5 M6 h => ?_)
  refine jr_istore_n hC (D_X12_cell.g 11 rfl) (by decide) rfl ?_
  refine jr_iload_n hC (D_X12_cell.g 12 rfl) 3 rfl ?_
  by_cases c_0 : jd_wr x2 = 0
  · have h := jif_t h c_0
    refine jr_tswIn hC (D_X12_cell.g 13 rfl) 0 c_0 (by decide) rfl 52 rfl ?_
    refine jr_aload_n hC (D_X12_cell.g 14 rfl) 1 rfl ?_
    refine jr_getR hC fl_X12_116 rfl (D_X12_cell.g 15 rfl) h (fun r7 h => ?_)
    refine jr_iload_n hC (D_X12_cell.g 16 rfl) 2 rfl ?_
    refine jr_zald hC (D_X12_cell.g 17 rfl) h (fun v8 h => ?_)
    refine jr_if_eq hC (D_X12_cell.g 18 rfl) 65 rfl h (fun h => ?_) (fun h => ?_)
    · refine jr_iload_n hC (D_X12_cell.g 21 rfl) 0 rfl ?_
      refine jr_if_lt hC (D_X12_cell.g 22 rfl) 73 rfl h (fun h => ?_) (fun h => ?_)
      · refine jr_iconst hC (D_X12_cell.g 25 rfl) ?_
        exact jr_iret hC (D_X12_cell.g 26 rfl) hr hE h
      refine jr_iconst hC (D_X12_cell.g 23 rfl) ?_
      refine jr_goto hC (D_X12_cell.g 24 rfl) 74 rfl ?_
      exact jr_iret hC (D_X12_cell.g 26 rfl) hr hE h
    refine jr_iconst hC (D_X12_cell.g 19 rfl) ?_
    refine jr_goto hC (D_X12_cell.g 20 rfl) 74 rfl ?_
    exact jr_iret hC (D_X12_cell.g 26 rfl) hr hE h
  replace h := jif_f h c_0
  by_cases c_1 : jd_wr x2 = 1
  · have h := jif_t h c_1
    refine jr_tswIn hC (D_X12_cell.g 13 rfl) 1 c_1 (by decide) rfl 75 rfl ?_
    refine jr_iload_n hC (D_X12_cell.g 27 rfl) 0 rfl ?_
    refine jr_if_ge hC (D_X12_cell.g 28 rfl) 84 rfl h (fun h => ?_) (fun h => ?_)
    · refine jr_bipush hC (D_X12_cell.g 29 rfl) bp_m2 ?_
      refine jr_goto hC (D_X12_cell.g 30 rfl) 108 rfl ?_
      exact jr_iret hC (D_X12_cell.g 45 rfl) hr hE h
    refine jr_aload_n hC (D_X12_cell.g 31 rfl) 1 rfl ?_
    refine jr_getR hC fl_X12_113 rfl (D_X12_cell.g 32 rfl) h (fun r9 h => ?_)
    refine jr_iload_n hC (D_X12_cell.g 33 rfl) 0 rfl ?_
    refine jr_iald hC (D_X12_cell.g 34 rfl) h (fun v10 h => ?_)
    refine jr_iload_n hC (D_X12_cell.g 35 rfl) 2 rfl ?_
    refine jr_icmp_ne hC (D_X12_cell.g 36 rfl) 102 rfl h (fun h => ?_) (fun h => ?_)
    · refine jr_aload_n hC (D_X12_cell.g 37 rfl) 1 rfl ?_
      refine jr_iload_n hC (D_X12_cell.g 38 rfl) 0 rfl ?_
      refine jr_cVi hC cl_X12_335 ⟨rfl, by decide⟩ (D_X12_cell.g 39 rfl) [q_i v5] h (fun r M' e => c_X12_otherCell e) rfl rfl ⟨by decide, by decide⟩ (Nat.le_of_ble_eq_true rfl) ⟨Nat.le_of_ble_eq_true rfl, Nat.le_of_ble_eq_true rfl⟩ (fun v11 M12 h => ?_)
      refine jr_goto hC (D_X12_cell.g 40 rfl) 108 rfl ?_
      exact jr_iret hC (D_X12_cell.g 45 rfl) hr hE h
    refine jr_aload_n hC (D_X12_cell.g 41 rfl) 1 rfl ?_
    refine jr_getR hC fl_X12_113 rfl (D_X12_cell.g 42 rfl) h (fun r13 h => ?_)
    refine jr_iload_n hC (D_X12_cell.g 43 rfl) 0 rfl ?_
    refine jr_iald hC (D_X12_cell.g 44 rfl) h (fun v14 h => ?_)
    exact jr_iret hC (D_X12_cell.g 45 rfl) hr hE h
  replace h := jif_f h c_1
  by_cases c_2 : jd_wr x2 = 2
  · have h := jif_t h c_2
    refine jr_tswIn hC (D_X12_cell.g 13 rfl) 2 c_2 (by decide) rfl 109 rfl ?_
    refine jr_iload_n hC (D_X12_cell.g 46 rfl) 0 rfl ?_
    exact jr_iret hC (D_X12_cell.g 47 rfl) hr hE h
  replace h := jif_f h c_2
  by_cases c_3 : jd_wr x2 = 3
  · have h := jif_t h c_3
    refine jr_tswIn hC (D_X12_cell.g 13 rfl) 3 c_3 (by decide) rfl 111 rfl ?_
    refine jr_aload_n hC (D_X12_cell.g 48 rfl) 1 rfl ?_
    refine jr_iload_n hC (D_X12_cell.g 49 rfl) 2 rfl ?_
    refine jr_cVi hC cl_X12_388 ⟨rfl, by decide⟩ (D_X12_cell.g 50 rfl) [q_i x1] h (fun r M' e => c_X12_isBlack e) rfl rfl ⟨by decide, by decide⟩ (Nat.le_of_ble_eq_true rfl) ⟨Nat.le_of_ble_eq_true rfl, Nat.le_of_ble_eq_true rfl⟩ (fun v15 M16 h => ?_)
    refine jr_if_eq hC (D_X12_cell.g 51 rfl) 123 rfl h (fun h => ?_) (fun h => ?_)
    · refine jr_iconst hC (D_X12_cell.g 54 rfl) ?_
      exact jr_iret hC (D_X12_cell.g 55 rfl) hr hE h
    refine jr_iconst hC (D_X12_cell.g 52 rfl) ?_
    refine jr_goto hC (D_X12_cell.g 53 rfl) 124 rfl ?_
    exact jr_iret hC (D_X12_cell.g 55 rfl) hr hE h
  replace h := jif_f h c_3
  refine jr_tswOut hC (D_X12_cell.g 13 rfl) (by omega) 125 rfl ?_
  refine jr_iconst hC (D_X12_cell.g 56 rfl) ?_
  exact jr_iret hC (D_X12_cell.g 57 rfl) hr hE h
def f_X12_stone (th : Nat) (x1 : Int) (x2 : Int) (M : jMem) : Option (Int × jMem) :=
jbd (f_X12_in x1 0 17 M) fun v1 M2 =>
if jd_wr v1 = 0 then (some ((-1), M2))
else (jbd (f_X12_in x2 0 5 M2) fun v3 M4 =>
if jd_wr v3 = 0 then (some ((-1), M4))
else (jcall 12 M4 th (f_X12_copies th M4) fun _ M6 =>
jcall 12 M6 th (f_X12_lies th x1 M6) fun v7 M8 =>
if jd_wr v7 = 0 then (some ((-2), M8))
else (if jd_wr x2 = 0 then ((jm_gR 12 48 M8 th).bind fun r9 =>
(jm_ld 20 M8 r9 x1).bind fun v10 =>
some (v10, M8))
else if jd_wr x2 = 1 then ((jm_gR 12 48 M8 th).bind fun r11 =>
(jm_ld 20 M8 r11 (18 + x1)).bind fun v12 =>
some ((1 - v12), M8))
else if jd_wr x2 = 2 then ((jm_gR 12 48 M8 th).bind fun r13 =>
(jm_ld 20 M8 r13 (36 + x1)).bind fun v14 =>
some (v14, M8))
else if jd_wr x2 = 3 then ((jm_gR 12 48 M8 th).bind fun r15 =>
(jm_ld 20 M8 r15 (54 + x1)).bind fun v16 =>
some (v16, M8))
else if jd_wr x2 = 4 then (jcall 12 M8 th (f_X12_asksOf th x1 M8) fun v17 M18 =>
some (v17, M18))
else (jcall 12 M8 th (f_X12_loosensOf th x1 M8) fun v19 M20 =>
some (v19, M20)))))
theorem D_X12_stone : jDs cX12_stone [(0, .iload_n 1, 1, 1), (1, .iconst 0, 1, 2), (2, .bipush 17, 2, 4), (4, .invokestatic 318, 3, 7), (7, .ifCond .eq 12, 3, 10), (10, .iload_n 2, 1, 11), (11, .iconst 0, 1, 12), (12, .iconst 5, 1, 13), (13, .invokestatic 318, 3, 16), (16, .ifCond .ne 5, 3, 19), (19, .iconst (-1), 1, 20), (20, .ireturn, 1, 21), (21, .aload_n 0, 1, 22), (22, .invokevirtual 385, 3, 25), (25, .aload_n 0, 1, 26), (26, .iload_n 1, 1, 27), (27, .invokevirtual 332, 3, 30), (30, .ifCond .ne 6, 3, 33), (33, .bipush (-2), 2, 35), (35, .ireturn, 1, 36), (36, .iload_n 2, 1, 37), (37, .tableswitch 80 0 4 #[35, 42, 54, 64, 74], 35, 72), (72, .aload_n 0, 1, 73), (73, .getfield 113, 3, 76), (76, .iload_n 1, 1, 77), (77, .iaload, 1, 78), (78, .ireturn, 1, 79), (79, .iconst 1, 1, 80), (80, .aload_n 0, 1, 81), (81, .getfield 113, 3, 84), (84, .bipush 18, 2, 86), (86, .iload_n 1, 1, 87), (87, .iadd, 1, 88), (88, .iaload, 1, 89), (89, .isub, 1, 90), (90, .ireturn, 1, 91), (91, .aload_n 0, 1, 92), (92, .getfield 113, 3, 95), (95, .bipush 36, 2, 97), (97, .iload_n 1, 1, 98), (98, .iadd, 1, 99), (99, .iaload, 1, 100), (100, .ireturn, 1, 101), (101, .aload_n 0, 1, 102), (102, .getfield 113, 3, 105), (105, .bipush 54, 2, 107), (107, .iload_n 1, 1, 108), (108, .iadd, 1, 109), (109, .iaload, 1, 110), (110, .ireturn, 1, 111), (111, .aload_n 0, 1, 112), (112, .iload_n 1, 1, 113), (113, .invokevirtual 370, 3, 116), (116, .ireturn, 1, 117), (117, .aload_n 0, 1, 118), (118, .iload_n 1, 1, 119), (119, .invokevirtual 376, 3, 122), (122, .ireturn, 1, 123)] := by unfold jDs; decide +kernel
set_option maxRecDepth 100000 in
set_option maxHeartbeats 4000000 in
theorem c_X12_stone {E : jE} {th : Nat} {x1 : Int} {x2 : Int} {M : jMem} {r : Int} {M' : jMem} (h : f_X12_stone th x1 x2 M = some (r, M')) : jMet E yX12_stone cX12_stone 3 (some .int) 6 0 0 [q_r E th, q_i x1, q_i x2] M (some (q_i r)) M' := by
  unfold f_X12_stone at h
  refine jMet.of RX12 rfl (by decide +kernel) (Nat.le_of_ble_eq_true rfl) [(0, q_r E th), (1, q_i x1), (2, q_i x2)] rfl (fun X hC hE hr hn => ?_)
  refine jr_iload_n hC (D_X12_stone.g 0 rfl) 1 rfl ?_
  refine jr_iconst hC (D_X12_stone.g 1 rfl) ?_
  refine jr_bipush hC (D_X12_stone.g 2 rfl) bp_17 ?_
  refine jr_cSi hC cl_X12_318 (D_X12_stone.g 3 rfl) [q_i x1, q_i 0, q_i 17] h (fun r M' e => c_X12_in e) rfl rfl ⟨by decide, by decide⟩ (Nat.le_of_ble_eq_true rfl) ⟨Nat.le_of_ble_eq_true rfl, Nat.le_of_ble_eq_true rfl⟩ (fun v1 M2 h => ?_)
  refine jr_if_eq hC (D_X12_stone.g 4 rfl) 19 rfl h (fun h => ?_) (fun h => ?_)
  · refine jr_iconst hC (D_X12_stone.g 10 rfl) ?_
    exact jr_iret hC (D_X12_stone.g 11 rfl) hr hE h
  refine jr_iload_n hC (D_X12_stone.g 5 rfl) 2 rfl ?_
  refine jr_iconst hC (D_X12_stone.g 6 rfl) ?_
  refine jr_iconst hC (D_X12_stone.g 7 rfl) ?_
  refine jr_cSi hC cl_X12_318 (D_X12_stone.g 8 rfl) [q_i x2, q_i 0, q_i 5] h (fun r M' e => c_X12_in e) rfl rfl ⟨by decide, by decide⟩ (Nat.le_of_ble_eq_true rfl) ⟨Nat.le_of_ble_eq_true rfl, Nat.le_of_ble_eq_true rfl⟩ (fun v3 M4 h => ?_)
  refine jr_if_ne hC (D_X12_stone.g 9 rfl) 21 rfl h (fun h => ?_) (fun h => ?_)
  · refine jr_iconst hC (D_X12_stone.g 10 rfl) ?_
    exact jr_iret hC (D_X12_stone.g 11 rfl) hr hE h
  refine jr_aload_n hC (D_X12_stone.g 12 rfl) 0 rfl ?_
  refine jr_cVv hC cl_X12_385 ⟨rfl, by decide⟩ (D_X12_stone.g 13 rfl) [] h (fun r M' e => c_X12_copies e) rfl rfl ⟨by decide, by decide⟩ (Nat.le_of_ble_eq_true rfl) ⟨Nat.le_of_ble_eq_true rfl, Nat.le_of_ble_eq_true rfl⟩ (fun _ M6 h => ?_)
  refine jr_aload_n hC (D_X12_stone.g 14 rfl) 0 rfl ?_
  refine jr_iload_n hC (D_X12_stone.g 15 rfl) 1 rfl ?_
  refine jr_cVi hC cl_X12_332 ⟨rfl, by decide⟩ (D_X12_stone.g 16 rfl) [q_i x1] h (fun r M' e => c_X12_lies e) rfl rfl ⟨by decide, by decide⟩ (Nat.le_of_ble_eq_true rfl) ⟨Nat.le_of_ble_eq_true rfl, Nat.le_of_ble_eq_true rfl⟩ (fun v7 M8 h => ?_)
  refine jr_if_ne hC (D_X12_stone.g 17 rfl) 36 rfl h (fun h => ?_) (fun h => ?_)
  · refine jr_bipush hC (D_X12_stone.g 18 rfl) bp_m2 ?_
    exact jr_iret hC (D_X12_stone.g 19 rfl) hr hE h
  refine jr_iload_n hC (D_X12_stone.g 20 rfl) 2 rfl ?_
  by_cases c_0 : jd_wr x2 = 0
  · have h := jif_t h c_0
    refine jr_tswIn hC (D_X12_stone.g 21 rfl) 0 c_0 (by decide) rfl 72 rfl ?_
    refine jr_aload_n hC (D_X12_stone.g 22 rfl) 0 rfl ?_
    refine jr_getR hC fl_X12_113 rfl (D_X12_stone.g 23 rfl) h (fun r9 h => ?_)
    refine jr_iload_n hC (D_X12_stone.g 24 rfl) 1 rfl ?_
    refine jr_iald hC (D_X12_stone.g 25 rfl) h (fun v10 h => ?_)
    exact jr_iret hC (D_X12_stone.g 26 rfl) hr hE h
  replace h := jif_f h c_0
  by_cases c_1 : jd_wr x2 = 1
  · have h := jif_t h c_1
    refine jr_tswIn hC (D_X12_stone.g 21 rfl) 1 c_1 (by decide) rfl 79 rfl ?_
    refine jr_iconst hC (D_X12_stone.g 27 rfl) ?_
    refine jr_aload_n hC (D_X12_stone.g 28 rfl) 0 rfl ?_
    refine jr_getR hC fl_X12_113 rfl (D_X12_stone.g 29 rfl) h (fun r11 h => ?_)
    refine jr_bipush hC (D_X12_stone.g 30 rfl) bp_18 ?_
    refine jr_iload_n hC (D_X12_stone.g 31 rfl) 1 rfl ?_
    refine jr_iadd hC (D_X12_stone.g 32 rfl) ?_
    refine jr_iald hC (D_X12_stone.g 33 rfl) h (fun v12 h => ?_)
    refine jr_isub hC (D_X12_stone.g 34 rfl) ?_
    exact jr_iret hC (D_X12_stone.g 35 rfl) hr hE h
  replace h := jif_f h c_1
  by_cases c_2 : jd_wr x2 = 2
  · have h := jif_t h c_2
    refine jr_tswIn hC (D_X12_stone.g 21 rfl) 2 c_2 (by decide) rfl 91 rfl ?_
    refine jr_aload_n hC (D_X12_stone.g 36 rfl) 0 rfl ?_
    refine jr_getR hC fl_X12_113 rfl (D_X12_stone.g 37 rfl) h (fun r13 h => ?_)
    refine jr_bipush hC (D_X12_stone.g 38 rfl) bp_36 ?_
    refine jr_iload_n hC (D_X12_stone.g 39 rfl) 1 rfl ?_
    refine jr_iadd hC (D_X12_stone.g 40 rfl) ?_
    refine jr_iald hC (D_X12_stone.g 41 rfl) h (fun v14 h => ?_)
    exact jr_iret hC (D_X12_stone.g 42 rfl) hr hE h
  replace h := jif_f h c_2
  by_cases c_3 : jd_wr x2 = 3
  · have h := jif_t h c_3
    refine jr_tswIn hC (D_X12_stone.g 21 rfl) 3 c_3 (by decide) rfl 101 rfl ?_
    refine jr_aload_n hC (D_X12_stone.g 43 rfl) 0 rfl ?_
    refine jr_getR hC fl_X12_113 rfl (D_X12_stone.g 44 rfl) h (fun r15 h => ?_)
    refine jr_bipush hC (D_X12_stone.g 45 rfl) bp_54 ?_
    refine jr_iload_n hC (D_X12_stone.g 46 rfl) 1 rfl ?_
    refine jr_iadd hC (D_X12_stone.g 47 rfl) ?_
    refine jr_iald hC (D_X12_stone.g 48 rfl) h (fun v16 h => ?_)
    exact jr_iret hC (D_X12_stone.g 49 rfl) hr hE h
  replace h := jif_f h c_3
  by_cases c_4 : jd_wr x2 = 4
  · have h := jif_t h c_4
    refine jr_tswIn hC (D_X12_stone.g 21 rfl) 4 c_4 (by decide) rfl 111 rfl ?_
    refine jr_aload_n hC (D_X12_stone.g 50 rfl) 0 rfl ?_
    refine jr_iload_n hC (D_X12_stone.g 51 rfl) 1 rfl ?_
    refine jr_cVi hC cl_X12_370 ⟨rfl, by decide⟩ (D_X12_stone.g 52 rfl) [q_i x1] h (fun r M' e => c_X12_asksOf e) rfl rfl ⟨by decide, by decide⟩ (Nat.le_of_ble_eq_true rfl) ⟨Nat.le_of_ble_eq_true rfl, Nat.le_of_ble_eq_true rfl⟩ (fun v17 M18 h => ?_)
    exact jr_iret hC (D_X12_stone.g 53 rfl) hr hE h
  replace h := jif_f h c_4
  refine jr_tswOut hC (D_X12_stone.g 21 rfl) (by omega) 117 rfl ?_
  refine jr_aload_n hC (D_X12_stone.g 54 rfl) 0 rfl ?_
  refine jr_iload_n hC (D_X12_stone.g 55 rfl) 1 rfl ?_
  refine jr_cVi hC cl_X12_376 ⟨rfl, by decide⟩ (D_X12_stone.g 56 rfl) [q_i x1] h (fun r M' e => c_X12_loosensOf e) rfl rfl ⟨by decide, by decide⟩ (Nat.le_of_ble_eq_true rfl) ⟨Nat.le_of_ble_eq_true rfl, Nat.le_of_ble_eq_true rfl⟩ (fun v19 M20 h => ?_)
  exact jr_iret hC (D_X12_stone.g 57 rfl) hr hE h
def f_X12_records (th : Nat) (M : jMem) : Option (Int × jMem) :=
(jm_gI 12 53 M th).bind fun v1 =>
jjq (fun (M_49 : jMem) =>
jlp2 (fun rec_51 (y1_51 : Int) (M_51 : jMem) =>
if jd_wr y1_51 < jd_wr 75 then ((jm_gR 12 54 M_51 th).bind fun r2 =>
(jm_gI 12 53 M_51 th).bind fun v3 =>
(jm_gR 12 47 M_51 th).bind fun r4 =>
(jm_ld 20 M_51 r4 y1_51).bind fun v5 =>
(jm_st 20 M_51 r2 ((75 * v3) + y1_51) v5).bind fun M6 =>
rec_51 (y1_51 + 1) M6)
else ((jm_gI 12 53 M_51 th).bind fun v7 =>
(jm_pI 12 53 M_51 th (v7 + 1)).bind fun M8 =>
jcall 12 M8 th (f_X12_keepsRow th M8) fun _ M10 =>
some (0, M10))) jfuel 0 M_49) fun j_49 =>
if jd_wr v1 = jd_wr 40 then (jlp2 (fun rec_11 (y1_11 : Int) (M_11 : jMem) =>
if jd_wr y1_11 < jd_wr 2925 then ((jm_gR 12 54 M_11 th).bind fun r11 =>
(jm_gR 12 54 M_11 th).bind fun r12 =>
(jm_ld 20 M_11 r12 (y1_11 + 75)).bind fun v13 =>
(jm_st 20 M_11 r11 y1_11 v13).bind fun M14 =>
rec_11 (y1_11 + 1) M14)
else ((jm_gI 12 53 M_11 th).bind fun v15 =>
(jm_pI 12 53 M_11 th (v15 - 1)).bind fun M16 =>
j_49 M16)) jfuel 0 M)
else (j_49 M)
theorem D_X12_records : jDs cX12_records [(0, .aload_n 0, 1, 1), (1, .getfield 268, 3, 4), (4, .bipush 40, 2, 6), (6, .if_icmp .ne 43, 3, 9), (9, .iconst 0, 1, 10), (10, .istore_n 1, 1, 11), (11, .iload_n 1, 1, 12), (12, .sipush 2925, 3, 15), (15, .if_icmp .ge 24, 3, 18), (18, .aload_n 0, 1, 19), (19, .getfield 125, 3, 22), (22, .iload_n 1, 1, 23), (23, .aload_n 0, 1, 24), (24, .getfield 125, 3, 27), (27, .iload_n 1, 1, 28), (28, .bipush 75, 2, 30), (30, .iadd, 1, 31), (31, .iaload, 1, 32), (32, .iastore, 1, 33), (33, .iinc 1 1, 3, 36), (36, .goto (-25), 3, 39), (39, .aload_n 0, 1, 40), (40, .dup, 1, 41), (41, .getfield 268, 3, 44), (44, .iconst 1, 1, 45), (45, .isub, 1, 46), (46, .putfield 268, 3, 49), (49, .iconst 0, 1, 50), (50, .istore_n 1, 1, 51), (51, .iload_n 1, 1, 52), (52, .bipush 75, 2, 54), (54, .if_icmp .ge 29, 3, 57), (57, .aload_n 0, 1, 58), (58, .getfield 125, 3, 61), (61, .bipush 75, 2, 63), (63, .aload_n 0, 1, 64), (64, .getfield 268, 3, 67), (67, .imul, 1, 68), (68, .iload_n 1, 1, 69), (69, .iadd, 1, 70), (70, .aload_n 0, 1, 71), (71, .getfield 110, 3, 74), (74, .iload_n 1, 1, 75), (75, .iaload, 1, 76), (76, .iastore, 1, 77), (77, .iinc 1 1, 3, 80), (80, .goto (-29), 3, 83), (83, .aload_n 0, 1, 84), (84, .dup, 1, 85), (85, .getfield 268, 3, 88), (88, .iconst 1, 1, 89), (89, .iadd, 1, 90), (90, .putfield 268, 3, 93), (93, .aload_n 0, 1, 94), (94, .invokevirtual 175, 3, 97), (97, .return_, 1, 98)] := by unfold jDs; decide +kernel
set_option maxRecDepth 100000 in
set_option maxHeartbeats 4000000 in
theorem c_X12_records {E : jE} {th : Nat} {M : jMem} {r : Int} {M' : jMem} (h : f_X12_records th M = some (r, M')) : jMet E yX12_records cX12_records 2 (none) 3 0 0 [q_r E th] M (none) M' := by
  unfold f_X12_records at h
  refine jMet.of RX12 rfl (by decide +kernel) (Nat.le_of_ble_eq_true rfl) [(0, q_r E th)] rfl (fun X hC hE hr hn => ?_)
  refine jr_aload_n hC (D_X12_records.g 0 rfl) 0 rfl ?_
  refine jr_getI hC fl_X12_268 rfl (D_X12_records.g 1 rfl) h (fun v1 h => ?_)
  refine jr_bipush hC (D_X12_records.g 2 rfl) bp_40 ?_
  refine jr_join h (fun j => ∀ (M_49 : jMem), j M_49 = some (r, M') → JW E X 2 0 0 M_49 49 [(0, q_r E th)] []) ?_ ?_
  · intro M_49 h
    refine jr_iconst hC (D_X12_records.g 27 rfl) ?_
    refine jr_istore_n hC (D_X12_records.g 28 rfl) (by decide) rfl ?_
    refine jr_pick [1, 0] rfl ?_
    refine jr_lp2 (fun (y1_51 : Int) (M_51 : jMem) => JW E X 2 0 0 M_51 51 [(0, q_r E th), (1, q_i y1_51)] []) ?_ jfuel 0 M_49 h
    intro rec_51 hrec_51 y1_51 M_51 h
    refine jr_iload_n hC (D_X12_records.g 29 rfl) 1 rfl ?_
    refine jr_bipush hC (D_X12_records.g 30 rfl) bp_75 ?_
    refine jr_icmp_ge hC (D_X12_records.g 31 rfl) 83 rfl h (fun h => ?_) (fun h => ?_)
    · refine jr_aload_n hC (D_X12_records.g 32 rfl) 0 rfl ?_
      refine jr_getR hC fl_X12_125 rfl (D_X12_records.g 33 rfl) h (fun r2 h => ?_)
      refine jr_bipush hC (D_X12_records.g 34 rfl) bp_75 ?_
      refine jr_aload_n hC (D_X12_records.g 35 rfl) 0 rfl ?_
      refine jr_getI hC fl_X12_268 rfl (D_X12_records.g 36 rfl) h (fun v3 h => ?_)
      refine jr_imul hC (D_X12_records.g 37 rfl) ?_
      refine jr_iload_n hC (D_X12_records.g 38 rfl) 1 rfl ?_
      refine jr_iadd hC (D_X12_records.g 39 rfl) ?_
      refine jr_aload_n hC (D_X12_records.g 40 rfl) 0 rfl ?_
      refine jr_getR hC fl_X12_110 rfl (D_X12_records.g 41 rfl) h (fun r4 h => ?_)
      refine jr_iload_n hC (D_X12_records.g 42 rfl) 1 rfl ?_
      refine jr_iald hC (D_X12_records.g 43 rfl) h (fun v5 h => ?_)
      refine jr_iast hC (D_X12_records.g 44 rfl) h (fun M6 _ h => ?_)
      refine jr_iinc hC (D_X12_records.g 45 rfl) 1 rfl (by decide) rfl ?_
      refine jr_goto hC (D_X12_records.g 46 rfl) 51 rfl ?_
      refine jr_pick [1, 0] rfl ?_
      exact hrec_51 (y1_51 + 1) M6 h
    refine jr_aload_n hC (D_X12_records.g 47 rfl) 0 rfl ?_
    refine jr_dup hC (D_X12_records.g 48 rfl) rfl ?_
    refine jr_getI hC fl_X12_268 rfl (D_X12_records.g 49 rfl) h (fun v7 h => ?_)
    refine jr_iconst hC (D_X12_records.g 50 rfl) ?_
    refine jr_iadd hC (D_X12_records.g 51 rfl) ?_
    refine jr_putI hC fl_X12_268 rfl (jnfin rfl) (D_X12_records.g 52 rfl) h (fun M8 _ h => ?_)
    refine jr_aload_n hC (D_X12_records.g 53 rfl) 0 rfl ?_
    refine jr_cVv hC cl_X12_175 ⟨rfl, by decide⟩ (D_X12_records.g 54 rfl) [] h (fun r M' e => c_X12_keepsRow e) rfl rfl ⟨by decide, by decide⟩ (Nat.le_of_ble_eq_true rfl) ⟨Nat.le_of_ble_eq_true rfl, Nat.le_of_ble_eq_true rfl⟩ (fun _ M10 h => ?_)
    exact jr_vret hC (D_X12_records.g 55 rfl) hr hE h
  intro j_49 hj_49 h
  refine jr_icmp_ne hC (D_X12_records.g 3 rfl) 49 rfl h (fun h => ?_) (fun h => ?_)
  · refine jr_iconst hC (D_X12_records.g 4 rfl) ?_
    refine jr_istore_n hC (D_X12_records.g 5 rfl) (by decide) rfl ?_
    refine jr_pick [1, 0] rfl ?_
    refine jr_lp2 (fun (y1_11 : Int) (M_11 : jMem) => JW E X 2 0 0 M_11 11 [(0, q_r E th), (1, q_i y1_11)] []) ?_ jfuel 0 M h
    intro rec_11 hrec_11 y1_11 M_11 h
    refine jr_iload_n hC (D_X12_records.g 6 rfl) 1 rfl ?_
    refine jr_sipush hC (D_X12_records.g 7 rfl) sp_2925 ?_
    refine jr_icmp_ge hC (D_X12_records.g 8 rfl) 39 rfl h (fun h => ?_) (fun h => ?_)
    · refine jr_aload_n hC (D_X12_records.g 9 rfl) 0 rfl ?_
      refine jr_getR hC fl_X12_125 rfl (D_X12_records.g 10 rfl) h (fun r11 h => ?_)
      refine jr_iload_n hC (D_X12_records.g 11 rfl) 1 rfl ?_
      refine jr_aload_n hC (D_X12_records.g 12 rfl) 0 rfl ?_
      refine jr_getR hC fl_X12_125 rfl (D_X12_records.g 13 rfl) h (fun r12 h => ?_)
      refine jr_iload_n hC (D_X12_records.g 14 rfl) 1 rfl ?_
      refine jr_bipush hC (D_X12_records.g 15 rfl) bp_75 ?_
      refine jr_iadd hC (D_X12_records.g 16 rfl) ?_
      refine jr_iald hC (D_X12_records.g 17 rfl) h (fun v13 h => ?_)
      refine jr_iast hC (D_X12_records.g 18 rfl) h (fun M14 _ h => ?_)
      refine jr_iinc hC (D_X12_records.g 19 rfl) 1 rfl (by decide) rfl ?_
      refine jr_goto hC (D_X12_records.g 20 rfl) 11 rfl ?_
      refine jr_pick [1, 0] rfl ?_
      exact hrec_11 (y1_11 + 1) M14 h
    refine jr_aload_n hC (D_X12_records.g 21 rfl) 0 rfl ?_
    refine jr_dup hC (D_X12_records.g 22 rfl) rfl ?_
    refine jr_getI hC fl_X12_268 rfl (D_X12_records.g 23 rfl) h (fun v15 h => ?_)
    refine jr_iconst hC (D_X12_records.g 24 rfl) ?_
    refine jr_isub hC (D_X12_records.g 25 rfl) ?_
    refine jr_putI hC fl_X12_268 rfl (jnfin rfl) (D_X12_records.g 26 rfl) h (fun M16 _ h => ?_)
    refine jr_pick [0] rfl ?_
    exact hj_49 M16 h
  exact hj_49 M h
