/-! ===== 29.X12d: by program ===== -/
def f_X12_keepsHills (th : Nat) (M : jMem) : Option (Int × jMem) :=
jlp2 (fun rec_2 (y1_2 : Int) (M_2 : jMem) =>
if jd_wr y1_2 < jd_wr 49 then ((jm_gR 12 62 M_2 th).bind fun r1 =>
(jm_gR 12 61 M_2 th).bind fun r2 =>
(jm_ld 20 M_2 r2 y1_2).bind fun v3 =>
(jm_st 20 M_2 r1 y1_2 v3).bind fun M4 =>
rec_2 (y1_2 + 1) M4)
else (some (0, M_2))) jfuel 0 M
theorem D_X12_keepsHills : jDs cX12_keepsHills [(0, .iconst 0, 1, 1), (1, .istore_n 1, 1, 2), (2, .iload_n 1, 1, 3), (3, .bipush 49, 2, 5), (5, .if_icmp .ge 21, 3, 8), (8, .aload_n 0, 1, 9), (9, .getfield 149, 3, 12), (12, .iload_n 1, 1, 13), (13, .aload_n 0, 1, 14), (14, .getfield 146, 3, 17), (17, .iload_n 1, 1, 18), (18, .iaload, 1, 19), (19, .iastore, 1, 20), (20, .iinc 1 1, 3, 23), (23, .goto (-21), 3, 26), (26, .return_, 1, 27)] := by unfold jDs; decide +kernel
set_option maxRecDepth 100000 in
set_option maxHeartbeats 4000000 in
theorem c_X12_keepsHills {E : jE} {th : Nat} {M : jMem} {r : Int} {M' : jMem} (h : f_X12_keepsHills th M = some (r, M')) : jMet E yX12_keepsHills cX12_keepsHills 2 (none) 2 0 0 [q_r E th] M (none) M' := by
  unfold f_X12_keepsHills at h
  refine jMet.of RX12 rfl (by decide +kernel) (Nat.le_of_ble_eq_true rfl) [(0, q_r E th)] rfl (fun X hC hE hr hn => ?_)
  refine jr_iconst hC (D_X12_keepsHills.g 0 rfl) ?_
  refine jr_istore_n hC (D_X12_keepsHills.g 1 rfl) (by decide) rfl ?_
  refine jr_pick [1, 0] rfl ?_
  refine jr_lp2 (fun (y1_2 : Int) (M_2 : jMem) => JW E X 2 0 0 M_2 2 [(0, q_r E th), (1, q_i y1_2)] []) ?_ jfuel 0 M h
  intro rec_2 hrec_2 y1_2 M_2 h
  refine jr_iload_n hC (D_X12_keepsHills.g 2 rfl) 1 rfl ?_
  refine jr_bipush hC (D_X12_keepsHills.g 3 rfl) bp_49 ?_
  refine jr_icmp_ge hC (D_X12_keepsHills.g 4 rfl) 26 rfl h (fun h => ?_) (fun h => ?_)
  · refine jr_aload_n hC (D_X12_keepsHills.g 5 rfl) 0 rfl ?_
    refine jr_getR hC fl_X12_149 rfl (D_X12_keepsHills.g 6 rfl) h (fun r1 h => ?_)
    refine jr_iload_n hC (D_X12_keepsHills.g 7 rfl) 1 rfl ?_
    refine jr_aload_n hC (D_X12_keepsHills.g 8 rfl) 0 rfl ?_
    refine jr_getR hC fl_X12_146 rfl (D_X12_keepsHills.g 9 rfl) h (fun r2 h => ?_)
    refine jr_iload_n hC (D_X12_keepsHills.g 10 rfl) 1 rfl ?_
    refine jr_iald hC (D_X12_keepsHills.g 11 rfl) h (fun v3 h => ?_)
    refine jr_iast hC (D_X12_keepsHills.g 12 rfl) h (fun M4 _ h => ?_)
    refine jr_iinc hC (D_X12_keepsHills.g 13 rfl) 1 rfl (by decide) rfl ?_
    refine jr_goto hC (D_X12_keepsHills.g 14 rfl) 2 rfl ?_
    refine jr_pick [1, 0] rfl ?_
    exact hrec_2 (y1_2 + 1) M4 h
  exact jr_vret hC (D_X12_keepsHills.g 15 rfl) hr hE h
def f_X12_wayTo (th : Nat) (x1 : Int) (M : jMem) : Option (Int × jMem) :=
jcall 12 M th (f_X12_fillsWays th x1 M) fun _ M2 =>
jcall 12 M2 th (f_X12_fillsHills th M2) fun _ M4 =>
jlp3 (fun rec_13 (y2_13 : Int) (y3_13 : Int) (M_13 : jMem) =>
(jm_gR 12 21 M_13 th).bind fun r5 =>
(jm_gI 12 18 M_13 th).bind fun v6 =>
(jm_ld 20 M_13 r5 v6).bind fun v7 =>
if jd_wr y3_13 ≤ jd_wr v7 then (jlp3 (fun rec_29 (y2_29 : Int) (y4_29 : Int) (M_29 : jMem) =>
jcall 12 M_29 th (f_X12_w th M_29) fun v8 M9 =>
if jd_wr y4_29 ≤ jd_wr v8 then ((jm_gR 12 61 M9 th).bind fun r10 =>
(jm_ld 20 M9 r10 ((7 * y3_13) + y4_29)).bind fun v11 =>
(jm_gR 12 62 M9 th).bind fun r12 =>
(jm_ld 20 M9 r12 ((7 * y3_13) + y4_29)).bind fun v13 =>
jbd (f_X12_off v11 v13 M9) fun v14 M15 =>
rec_29 (y2_29 + v14) (y4_29 + 1) M15)
else (rec_13 y2_29 (y3_13 + 1) M9)) jfuel y2_13 0 M_13)
else ((jm_dv y2_13 4).bind fun v16 =>
some (v16, M_13))) jfuel 0 0 M4
theorem D_X12_wayTo : jDs cX12_wayTo [(0, .aload_n 0, 1, 1), (1, .iload_n 1, 1, 2), (2, .invokevirtual 457, 3, 5), (5, .aload_n 0, 1, 6), (6, .invokevirtual 463, 3, 9), (9, .iconst 0, 1, 10), (10, .istore_n 2, 1, 11), (11, .iconst 0, 1, 12), (12, .istore_n 3, 1, 13), (13, .iload_n 3, 1, 14), (14, .aload_n 0, 1, 15), (15, .getfield 43, 3, 18), (18, .aload_n 0, 1, 19), (19, .getfield 245, 3, 22), (22, .iaload, 1, 23), (23, .if_icmp .gt 57, 3, 26), (26, .iconst 0, 1, 27), (27, .istore 4, 2, 29), (29, .iload 4, 2, 31), (31, .aload_n 0, 1, 32), (32, .invokevirtual 322, 3, 35), (35, .if_icmp .gt 39, 3, 38), (38, .iload_n 2, 1, 39), (39, .aload_n 0, 1, 40), (40, .getfield 146, 3, 43), (43, .bipush 7, 2, 45), (45, .iload_n 3, 1, 46), (46, .imul, 1, 47), (47, .iload 4, 2, 49), (49, .iadd, 1, 50), (50, .iaload, 1, 51), (51, .aload_n 0, 1, 52), (52, .getfield 149, 3, 55), (55, .bipush 7, 2, 57), (57, .iload_n 3, 1, 58), (58, .imul, 1, 59), (59, .iload 4, 2, 61), (61, .iadd, 1, 62), (62, .iaload, 1, 63), (63, .invokestatic 472, 3, 66), (66, .iadd, 1, 67), (67, .istore_n 2, 1, 68), (68, .iinc 4 1, 3, 71), (71, .goto (-42), 3, 74), (74, .iinc 3 1, 3, 77), (77, .goto (-64), 3, 80), (80, .iload_n 2, 1, 81), (81, .iconst 4, 1, 82), (82, .idiv, 1, 83), (83, .ireturn, 1, 84)] := by unfold jDs; decide +kernel
set_option maxRecDepth 100000 in
set_option maxHeartbeats 4000000 in
theorem c_X12_wayTo {E : jE} {th : Nat} {x1 : Int} {M : jMem} {r : Int} {M' : jMem} (h : f_X12_wayTo th x1 M = some (r, M')) : jMet E yX12_wayTo cX12_wayTo 5 (some .int) 6 0 0 [q_r E th, q_i x1] M (some (q_i r)) M' := by
  unfold f_X12_wayTo at h
  refine jMet.of RX12 rfl (by decide +kernel) (Nat.le_of_ble_eq_true rfl) [(0, q_r E th), (1, q_i x1)] rfl (fun X hC hE hr hn => ?_)
  refine jr_aload_n hC (D_X12_wayTo.g 0 rfl) 0 rfl ?_
  refine jr_iload_n hC (D_X12_wayTo.g 1 rfl) 1 rfl ?_
  refine jr_cVv hC cl_X12_457 ⟨rfl, by decide⟩ (D_X12_wayTo.g 2 rfl) [q_i x1] h (fun r M' e => c_X12_fillsWays e) rfl rfl ⟨by decide, by decide⟩ (Nat.le_of_ble_eq_true rfl) ⟨Nat.le_of_ble_eq_true rfl, Nat.le_of_ble_eq_true rfl⟩ (fun _ M2 h => ?_)
  refine jr_aload_n hC (D_X12_wayTo.g 3 rfl) 0 rfl ?_
  refine jr_cVv hC cl_X12_463 ⟨rfl, by decide⟩ (D_X12_wayTo.g 4 rfl) [] h (fun r M' e => c_X12_fillsHills e) rfl rfl ⟨by decide, by decide⟩ (Nat.le_of_ble_eq_true rfl) ⟨Nat.le_of_ble_eq_true rfl, Nat.le_of_ble_eq_true rfl⟩ (fun _ M4 h => ?_)
  refine jr_iconst hC (D_X12_wayTo.g 5 rfl) ?_
  refine jr_istore_n hC (D_X12_wayTo.g 6 rfl) (by decide) rfl ?_
  refine jr_iconst hC (D_X12_wayTo.g 7 rfl) ?_
  refine jr_istore_n hC (D_X12_wayTo.g 8 rfl) (by decide) rfl ?_
  refine jr_pick [2, 1, 0] rfl ?_
  refine jr_lp3 (fun (y2_13 : Int) (y3_13 : Int) (M_13 : jMem) => JW E X 5 0 0 M_13 13 [(0, q_r E th), (2, q_i y2_13), (3, q_i y3_13)] []) ?_ jfuel 0 0 M4 h
  intro rec_13 hrec_13 y2_13 y3_13 M_13 h
  refine jr_iload_n hC (D_X12_wayTo.g 9 rfl) 2 rfl ?_
  refine jr_aload_n hC (D_X12_wayTo.g 10 rfl) 0 rfl ?_
  refine jr_getR hC fl_X12_43 rfl (D_X12_wayTo.g 11 rfl) h (fun r5 h => ?_)
  refine jr_aload_n hC (D_X12_wayTo.g 12 rfl) 0 rfl ?_
  refine jr_getI hC fl_X12_245 rfl (D_X12_wayTo.g 13 rfl) h (fun v6 h => ?_)
  refine jr_iald hC (D_X12_wayTo.g 14 rfl) h (fun v7 h => ?_)
  refine jr_icmp_gt hC (D_X12_wayTo.g 15 rfl) 80 rfl h (fun h => ?_) (fun h => ?_)
  · refine jr_iconst hC (D_X12_wayTo.g 16 rfl) ?_
    refine jr_istore hC (D_X12_wayTo.g 17 rfl) (by decide) rfl ?_
    refine jr_pick [1, 2, 3, 0] rfl ?_
    refine jr_lp3 (fun (y2_29 : Int) (y4_29 : Int) (M_29 : jMem) => JW E X 5 0 0 M_29 29 [(0, q_r E th), (2, q_i y2_29), (3, q_i y3_13), (4, q_i y4_29)] []) ?_ jfuel y2_13 0 M_13 h
    intro rec_29 hrec_29 y2_29 y4_29 M_29 h
    refine jr_iload hC (D_X12_wayTo.g 18 rfl) 3 rfl ?_
    refine jr_aload_n hC (D_X12_wayTo.g 19 rfl) 0 rfl ?_
    refine jr_cVi hC cl_X12_322 ⟨rfl, by decide⟩ (D_X12_wayTo.g 20 rfl) [] h (fun r M' e => c_X12_w e) rfl rfl ⟨by decide, by decide⟩ (Nat.le_of_ble_eq_true rfl) ⟨Nat.le_of_ble_eq_true rfl, Nat.le_of_ble_eq_true rfl⟩ (fun v8 M9 h => ?_)
    refine jr_icmp_gt hC (D_X12_wayTo.g 21 rfl) 74 rfl h (fun h => ?_) (fun h => ?_)
    · refine jr_iload_n hC (D_X12_wayTo.g 22 rfl) 1 rfl ?_
      refine jr_aload_n hC (D_X12_wayTo.g 23 rfl) 0 rfl ?_
      refine jr_getR hC fl_X12_146 rfl (D_X12_wayTo.g 24 rfl) h (fun r10 h => ?_)
      refine jr_bipush hC (D_X12_wayTo.g 25 rfl) bp_7 ?_
      refine jr_iload_n hC (D_X12_wayTo.g 26 rfl) 2 rfl ?_
      refine jr_imul hC (D_X12_wayTo.g 27 rfl) ?_
      refine jr_iload hC (D_X12_wayTo.g 28 rfl) 3 rfl ?_
      refine jr_iadd hC (D_X12_wayTo.g 29 rfl) ?_
      refine jr_iald hC (D_X12_wayTo.g 30 rfl) h (fun v11 h => ?_)
      refine jr_aload_n hC (D_X12_wayTo.g 31 rfl) 0 rfl ?_
      refine jr_getR hC fl_X12_149 rfl (D_X12_wayTo.g 32 rfl) h (fun r12 h => ?_)
      refine jr_bipush hC (D_X12_wayTo.g 33 rfl) bp_7 ?_
      refine jr_iload_n hC (D_X12_wayTo.g 34 rfl) 2 rfl ?_
      refine jr_imul hC (D_X12_wayTo.g 35 rfl) ?_
      refine jr_iload hC (D_X12_wayTo.g 36 rfl) 3 rfl ?_
      refine jr_iadd hC (D_X12_wayTo.g 37 rfl) ?_
      refine jr_iald hC (D_X12_wayTo.g 38 rfl) h (fun v13 h => ?_)
      refine jr_cSi hC cl_X12_472 (D_X12_wayTo.g 39 rfl) [q_i v11, q_i v13] h (fun r M' e => c_X12_off e) rfl rfl ⟨by decide, by decide⟩ (Nat.le_of_ble_eq_true rfl) ⟨Nat.le_of_ble_eq_true rfl, Nat.le_of_ble_eq_true rfl⟩ (fun v14 M15 h => ?_)
      refine jr_iadd hC (D_X12_wayTo.g 40 rfl) ?_
      refine jr_istore_n hC (D_X12_wayTo.g 41 rfl) (by decide) rfl ?_
      refine jr_iinc hC (D_X12_wayTo.g 42 rfl) 3 rfl (by decide) rfl ?_
      refine jr_goto hC (D_X12_wayTo.g 43 rfl) 29 rfl ?_
      refine jr_pick [2, 1, 3, 0] rfl ?_
      exact hrec_29 (y2_29 + v14) (y4_29 + 1) M15 h
    refine jr_iinc hC (D_X12_wayTo.g 44 rfl) 2 rfl (by decide) rfl ?_
    refine jr_goto hC (D_X12_wayTo.g 45 rfl) 13 rfl ?_
    refine jr_pick [1, 2, 0] rfl ?_
    exact hrec_13 y2_29 (y3_13 + 1) M9 h
  refine jr_iload_n hC (D_X12_wayTo.g 46 rfl) 1 rfl ?_
  refine jr_iconst hC (D_X12_wayTo.g 47 rfl) ?_
  refine jr_idiv hC (D_X12_wayTo.g 48 rfl) h (fun v16 _ h => ?_)
  exact jr_iret hC (D_X12_wayTo.g 49 rfl) hr hE h
def f_X12_way (th : Nat) (x1 : Int) (M : jMem) : Option (Int × jMem) :=
jcall 12 M th (f_X12_countsAll th M) fun v1 M2 =>
jbd (f_X12_in x1 0 (v1 - 1) M2) fun v3 M4 =>
if jd_wr v3 = 0 then (some ((-1), M4))
else (jcall 12 M4 th (f_X12_isHilly th M4) fun v5 M6 =>
if jd_wr v5 = 0 then (some ((-2), M6))
else (jcall 12 M6 th (f_X12_fillsHillsNow th M6) fun _ M8 =>
jcall 12 M8 th (f_X12_keepsHills th M8) fun _ M10 =>
jcall 12 M10 th (f_X12_wayTo th x1 M10) fun v11 M12 =>
some (v11, M12)))
theorem D_X12_way : jDs cX12_way [(0, .iload_n 1, 1, 1), (1, .iconst 0, 1, 2), (2, .aload_n 0, 1, 3), (3, .invokevirtual 436, 3, 6), (6, .iconst 1, 1, 7), (7, .isub, 1, 8), (8, .invokestatic 318, 3, 11), (11, .ifCond .ne 5, 3, 14), (14, .iconst (-1), 1, 15), (15, .ireturn, 1, 16), (16, .aload_n 0, 1, 17), (17, .invokevirtual 466, 3, 20), (20, .ifCond .ne 6, 3, 23), (23, .bipush (-2), 2, 25), (25, .ireturn, 1, 26), (26, .aload_n 0, 1, 27), (27, .invokevirtual 469, 3, 30), (30, .aload_n 0, 1, 31), (31, .invokevirtual 475, 3, 34), (34, .aload_n 0, 1, 35), (35, .iload_n 1, 1, 36), (36, .invokevirtual 478, 3, 39), (39, .ireturn, 1, 40)] := by unfold jDs; decide +kernel
set_option maxRecDepth 100000 in
set_option maxHeartbeats 4000000 in
theorem c_X12_way {E : jE} {th : Nat} {x1 : Int} {M : jMem} {r : Int} {M' : jMem} (h : f_X12_way th x1 M = some (r, M')) : jMet E yX12_way cX12_way 2 (some .int) 8 0 0 [q_r E th, q_i x1] M (some (q_i r)) M' := by
  unfold f_X12_way at h
  refine jMet.of RX12 rfl (by decide +kernel) (Nat.le_of_ble_eq_true rfl) [(0, q_r E th), (1, q_i x1)] rfl (fun X hC hE hr hn => ?_)
  refine jr_iload_n hC (D_X12_way.g 0 rfl) 1 rfl ?_
  refine jr_iconst hC (D_X12_way.g 1 rfl) ?_
  refine jr_aload_n hC (D_X12_way.g 2 rfl) 0 rfl ?_
  refine jr_cVi hC cl_X12_436 ⟨rfl, by decide⟩ (D_X12_way.g 3 rfl) [] h (fun r M' e => c_X12_countsAll e) rfl rfl ⟨by decide, by decide⟩ (Nat.le_of_ble_eq_true rfl) ⟨Nat.le_of_ble_eq_true rfl, Nat.le_of_ble_eq_true rfl⟩ (fun v1 M2 h => ?_)
  refine jr_iconst hC (D_X12_way.g 4 rfl) ?_
  refine jr_isub hC (D_X12_way.g 5 rfl) ?_
  refine jr_cSi hC cl_X12_318 (D_X12_way.g 6 rfl) [q_i x1, q_i 0, q_i (v1 - 1)] h (fun r M' e => c_X12_in e) rfl rfl ⟨by decide, by decide⟩ (Nat.le_of_ble_eq_true rfl) ⟨Nat.le_of_ble_eq_true rfl, Nat.le_of_ble_eq_true rfl⟩ (fun v3 M4 h => ?_)
  refine jr_if_ne hC (D_X12_way.g 7 rfl) 16 rfl h (fun h => ?_) (fun h => ?_)
  · refine jr_iconst hC (D_X12_way.g 8 rfl) ?_
    exact jr_iret hC (D_X12_way.g 9 rfl) hr hE h
  refine jr_aload_n hC (D_X12_way.g 10 rfl) 0 rfl ?_
  refine jr_cVi hC cl_X12_466 ⟨rfl, by decide⟩ (D_X12_way.g 11 rfl) [] h (fun r M' e => c_X12_isHilly e) rfl rfl ⟨by decide, by decide⟩ (Nat.le_of_ble_eq_true rfl) ⟨Nat.le_of_ble_eq_true rfl, Nat.le_of_ble_eq_true rfl⟩ (fun v5 M6 h => ?_)
  refine jr_if_ne hC (D_X12_way.g 12 rfl) 26 rfl h (fun h => ?_) (fun h => ?_)
  · refine jr_bipush hC (D_X12_way.g 13 rfl) bp_m2 ?_
    exact jr_iret hC (D_X12_way.g 14 rfl) hr hE h
  refine jr_aload_n hC (D_X12_way.g 15 rfl) 0 rfl ?_
  refine jr_cVv hC cl_X12_469 ⟨rfl, by decide⟩ (D_X12_way.g 16 rfl) [] h (fun r M' e => c_X12_fillsHillsNow e) rfl rfl ⟨by decide, by decide⟩ (Nat.le_of_ble_eq_true rfl) ⟨Nat.le_of_ble_eq_true rfl, Nat.le_of_ble_eq_true rfl⟩ (fun _ M8 h => ?_)
  refine jr_aload_n hC (D_X12_way.g 17 rfl) 0 rfl ?_
  refine jr_cVv hC cl_X12_475 ⟨rfl, by decide⟩ (D_X12_way.g 18 rfl) [] h (fun r M' e => c_X12_keepsHills e) rfl rfl ⟨by decide, by decide⟩ (Nat.le_of_ble_eq_true rfl) ⟨Nat.le_of_ble_eq_true rfl, Nat.le_of_ble_eq_true rfl⟩ (fun _ M10 h => ?_)
  refine jr_aload_n hC (D_X12_way.g 19 rfl) 0 rfl ?_
  refine jr_iload_n hC (D_X12_way.g 20 rfl) 1 rfl ?_
  refine jr_cVi hC cl_X12_478 ⟨rfl, by decide⟩ (D_X12_way.g 21 rfl) [q_i x1] h (fun r M' e => c_X12_wayTo e) rfl rfl ⟨by decide, by decide⟩ (Nat.le_of_ble_eq_true rfl) ⟨Nat.le_of_ble_eq_true rfl, Nat.le_of_ble_eq_true rfl⟩ (fun v11 M12 h => ?_)
  exact jr_iret hC (D_X12_way.g 22 rfl) hr hE h
def f_X12_farthest (th : Nat) (x1 : Int) (M : jMem) : Option (Int × jMem) :=
jbd (f_X12_in x1 0 1 M) fun v1 M2 =>
if jd_wr v1 = 0 then (some ((-1), M2))
else (jcall 12 M2 th (f_X12_isHilly th M2) fun v3 M4 =>
if jd_wr v3 = 0 then (some ((-2), M4))
else (jcall 12 M4 th (f_X12_countsAll th M4) fun v5 M6 =>
jcall 12 M6 th (f_X12_fillsHillsNow th M6) fun _ M8 =>
jcall 12 M8 th (f_X12_keepsHills th M8) fun _ M10 =>
jlp4 (fun rec_42 (y3_42 : Int) (y4_42 : Int) (y5_42 : Int) (M_42 : jMem) =>
if jd_wr y5_42 < jd_wr v5 then (jcall 12 M_42 th (f_X12_wayTo th y5_42 M_42) fun v11 M12 =>
jjq (fun (y3_73 : Int) (y4_73 : Int) =>
rec_42 y3_73 y4_73 (y5_42 + 1) M12) fun j_73 =>
if jd_wr v11 ≤ jd_wr y4_42 then (j_73 y3_42 y4_42)
else (j_73 y5_42 v11))
else (if jd_wr x1 = 0 then (some (y3_42, M_42))
else (some (y4_42, M_42)))) jfuel 0 (-1) 0 M10))
theorem D_X12_farthest : jDs cX12_farthest [(0, .iload_n 1, 1, 1), (1, .iconst 0, 1, 2), (2, .iconst 1, 1, 3), (3, .invokestatic 318, 3, 6), (6, .ifCond .ne 5, 3, 9), (9, .iconst (-1), 1, 10), (10, .ireturn, 1, 11), (11, .aload_n 0, 1, 12), (12, .invokevirtual 466, 3, 15), (15, .ifCond .ne 6, 3, 18), (18, .bipush (-2), 2, 20), (20, .ireturn, 1, 21), (21, .aload_n 0, 1, 22), (22, .invokevirtual 436, 3, 25), (25, .istore_n 2, 1, 26), (26, .aload_n 0, 1, 27), (27, .invokevirtual 469, 3, 30), (30, .aload_n 0, 1, 31), (31, .invokevirtual 475, 3, 34), (34, .iconst 0, 1, 35), (35, .istore_n 3, 1, 36), (36, .iconst (-1), 1, 37), (37, .istore 4, 2, 39), (39, .iconst 0, 1, 40), (40, .istore 5, 2, 42), (42, .iload 5, 2, 44), (44, .iload_n 2, 1, 45), (45, .if_icmp .ge 34, 3, 48), (48, .aload_n 0, 1, 49), (49, .iload 5, 2, 51), (51, .invokevirtual 478, 3, 54), (54, .istore 6, 2, 56), (56, .iload 6, 2, 58), (58, .iload 4, 2, 60), (60, .if_icmp .gt 6, 3, 63), (63, .goto 10, 3, 66), (66, .iload 5, 2, 68), (68, .istore_n 3, 1, 69), (69, .iload 6, 2, 71), (71, .istore 4, 2, 73), (73, .iinc 5 1, 3, 76), (76, .goto (-34), 3, 79), (79, .iload_n 1, 1, 80), (80, .ifCond .ne 7, 3, 83), (83, .iload_n 3, 1, 84), (84, .goto 5, 3, 87), (87, .iload 4, 2, 89), (89, .ireturn, 1, 90)] := by unfold jDs; decide +kernel
set_option maxRecDepth 100000 in
set_option maxHeartbeats 4000000 in
theorem c_X12_farthest {E : jE} {th : Nat} {x1 : Int} {M : jMem} {r : Int} {M' : jMem} (h : f_X12_farthest th x1 M = some (r, M')) : jMet E yX12_farthest cX12_farthest 7 (some .int) 8 0 0 [q_r E th, q_i x1] M (some (q_i r)) M' := by
  unfold f_X12_farthest at h
  refine jMet.of RX12 rfl (by decide +kernel) (Nat.le_of_ble_eq_true rfl) [(0, q_r E th), (1, q_i x1)] rfl (fun X hC hE hr hn => ?_)
  refine jr_iload_n hC (D_X12_farthest.g 0 rfl) 1 rfl ?_
  refine jr_iconst hC (D_X12_farthest.g 1 rfl) ?_
  refine jr_iconst hC (D_X12_farthest.g 2 rfl) ?_
  refine jr_cSi hC cl_X12_318 (D_X12_farthest.g 3 rfl) [q_i x1, q_i 0, q_i 1] h (fun r M' e => c_X12_in e) rfl rfl ⟨by decide, by decide⟩ (Nat.le_of_ble_eq_true rfl) ⟨Nat.le_of_ble_eq_true rfl, Nat.le_of_ble_eq_true rfl⟩ (fun v1 M2 h => ?_)
  refine jr_if_ne hC (D_X12_farthest.g 4 rfl) 11 rfl h (fun h => ?_) (fun h => ?_)
  · refine jr_iconst hC (D_X12_farthest.g 5 rfl) ?_
    exact jr_iret hC (D_X12_farthest.g 6 rfl) hr hE h
  refine jr_aload_n hC (D_X12_farthest.g 7 rfl) 0 rfl ?_
  refine jr_cVi hC cl_X12_466 ⟨rfl, by decide⟩ (D_X12_farthest.g 8 rfl) [] h (fun r M' e => c_X12_isHilly e) rfl rfl ⟨by decide, by decide⟩ (Nat.le_of_ble_eq_true rfl) ⟨Nat.le_of_ble_eq_true rfl, Nat.le_of_ble_eq_true rfl⟩ (fun v3 M4 h => ?_)
  refine jr_if_ne hC (D_X12_farthest.g 9 rfl) 21 rfl h (fun h => ?_) (fun h => ?_)
  · refine jr_bipush hC (D_X12_farthest.g 10 rfl) bp_m2 ?_
    exact jr_iret hC (D_X12_farthest.g 11 rfl) hr hE h
  refine jr_aload_n hC (D_X12_farthest.g 12 rfl) 0 rfl ?_
  refine jr_cVi hC cl_X12_436 ⟨rfl, by decide⟩ (D_X12_farthest.g 13 rfl) [] h (fun r M' e => c_X12_countsAll e) rfl rfl ⟨by decide, by decide⟩ (Nat.le_of_ble_eq_true rfl) ⟨Nat.le_of_ble_eq_true rfl, Nat.le_of_ble_eq_true rfl⟩ (fun v5 M6 h => ?_)
  refine jr_istore_n hC (D_X12_farthest.g 14 rfl) (by decide) rfl ?_
  refine jr_aload_n hC (D_X12_farthest.g 15 rfl) 1 rfl ?_
  refine jr_cVv hC cl_X12_469 ⟨rfl, by decide⟩ (D_X12_farthest.g 16 rfl) [] h (fun r M' e => c_X12_fillsHillsNow e) rfl rfl ⟨by decide, by decide⟩ (Nat.le_of_ble_eq_true rfl) ⟨Nat.le_of_ble_eq_true rfl, Nat.le_of_ble_eq_true rfl⟩ (fun _ M8 h => ?_)
  refine jr_aload_n hC (D_X12_farthest.g 17 rfl) 1 rfl ?_
  refine jr_cVv hC cl_X12_475 ⟨rfl, by decide⟩ (D_X12_farthest.g 18 rfl) [] h (fun r M' e => c_X12_keepsHills e) rfl rfl ⟨by decide, by decide⟩ (Nat.le_of_ble_eq_true rfl) ⟨Nat.le_of_ble_eq_true rfl, Nat.le_of_ble_eq_true rfl⟩ (fun _ M10 h => ?_)
  refine jr_iconst hC (D_X12_farthest.g 19 rfl) ?_
  refine jr_istore_n hC (D_X12_farthest.g 20 rfl) (by decide) rfl ?_
  refine jr_iconst hC (D_X12_farthest.g 21 rfl) ?_
  refine jr_istore hC (D_X12_farthest.g 22 rfl) (by decide) rfl ?_
  refine jr_iconst hC (D_X12_farthest.g 23 rfl) ?_
  refine jr_istore hC (D_X12_farthest.g 24 rfl) (by decide) rfl ?_
  refine jr_pick [4, 5, 3, 2, 1, 0] rfl ?_
  refine jr_lp4 (fun (y3_42 : Int) (y4_42 : Int) (y5_42 : Int) (M_42 : jMem) => JW E X 7 0 0 M_42 42 [(0, q_r E th), (1, q_i x1), (2, q_i v5), (3, q_i y3_42), (4, q_i y4_42), (5, q_i y5_42)] []) ?_ jfuel 0 (-1) 0 M10 h
  intro rec_42 hrec_42 y3_42 y4_42 y5_42 M_42 h
  refine jr_iload hC (D_X12_farthest.g 25 rfl) 5 rfl ?_
  refine jr_iload_n hC (D_X12_farthest.g 26 rfl) 2 rfl ?_
  refine jr_icmp_ge hC (D_X12_farthest.g 27 rfl) 79 rfl h (fun h => ?_) (fun h => ?_)
  · refine jr_aload_n hC (D_X12_farthest.g 28 rfl) 0 rfl ?_
    refine jr_iload hC (D_X12_farthest.g 29 rfl) 5 rfl ?_
    refine jr_cVi hC cl_X12_478 ⟨rfl, by decide⟩ (D_X12_farthest.g 30 rfl) [q_i y5_42] h (fun r M' e => c_X12_wayTo e) rfl rfl ⟨by decide, by decide⟩ (Nat.le_of_ble_eq_true rfl) ⟨Nat.le_of_ble_eq_true rfl, Nat.le_of_ble_eq_true rfl⟩ (fun v11 M12 h => ?_)
    refine jr_istore hC (D_X12_farthest.g 31 rfl) (by decide) rfl ?_
    refine jr_iload hC (D_X12_farthest.g 32 rfl) 0 rfl ?_
    refine jr_iload hC (D_X12_farthest.g 33 rfl) 5 rfl ?_
    refine jr_join h (fun j => ∀ (y3_73 : Int) (y4_73 : Int), j y3_73 y4_73 = some (r, M') → JW E X 7 0 0 M12 73 [(0, q_r E th), (1, q_i x1), (2, q_i v5), (3, q_i y3_73), (4, q_i y4_73), (5, q_i y5_42)] []) ?_ ?_
    · intro y3_73 y4_73 h
      refine jr_iinc hC (D_X12_farthest.g 40 rfl) 5 rfl (by decide) rfl ?_
      refine jr_goto hC (D_X12_farthest.g 41 rfl) 42 rfl ?_
      refine jr_pick [1, 2, 3, 4, 5, 0] rfl ?_
      exact hrec_42 y3_73 y4_73 (y5_42 + 1) M12 h
    intro j_73 hj_73 h
    refine jr_icmp_gt hC (D_X12_farthest.g 34 rfl) 66 rfl h (fun h => ?_) (fun h => ?_)
    · refine jr_goto hC (D_X12_farthest.g 35 rfl) 73 rfl ?_
      refine jr_pick [1, 2, 3, 4, 5, 6] rfl ?_
      exact hj_73 y3_42 y4_42 h
    refine jr_iload hC (D_X12_farthest.g 36 rfl) 6 rfl ?_
    refine jr_istore_n hC (D_X12_farthest.g 37 rfl) (by decide) rfl ?_
    refine jr_iload hC (D_X12_farthest.g 38 rfl) 1 rfl ?_
    refine jr_istore hC (D_X12_farthest.g 39 rfl) (by decide) rfl ?_
    refine jr_pick [3, 4, 5, 1, 0, 6] rfl ?_
    exact hj_73 y5_42 v11 h
  refine jr_iload_n hC (D_X12_farthest.g 42 rfl) 1 rfl ?_
  refine jr_if_ne hC (D_X12_farthest.g 43 rfl) 87 rfl h (fun h => ?_) (fun h => ?_)
  · refine jr_iload_n hC (D_X12_farthest.g 44 rfl) 3 rfl ?_
    refine jr_goto hC (D_X12_farthest.g 45 rfl) 89 rfl ?_
    exact jr_iret hC (D_X12_farthest.g 47 rfl) hr hE h
  refine jr_iload hC (D_X12_farthest.g 46 rfl) 4 rfl ?_
  exact jr_iret hC (D_X12_farthest.g 47 rfl) hr hE h
def f_X12_sumHills (th : Nat) (M : jMem) : Option (Int × jMem) :=
jlp3 (fun rec_4 (y1_4 : Int) (y2_4 : Int) (M_4 : jMem) =>
(jm_gR 12 21 M_4 th).bind fun r1 =>
(jm_gI 12 18 M_4 th).bind fun v2 =>
(jm_ld 20 M_4 r1 v2).bind fun v3 =>
if jd_wr y2_4 ≤ jd_wr v3 then (jlp3 (fun rec_19 (y1_19 : Int) (y3_19 : Int) (M_19 : jMem) =>
jcall 12 M_19 th (f_X12_w th M_19) fun v4 M5 =>
if jd_wr y3_19 ≤ jd_wr v4 then ((jm_gR 12 61 M5 th).bind fun r6 =>
(jm_ld 20 M5 r6 ((7 * y2_4) + y3_19)).bind fun v7 =>
rec_19 (y1_19 + v7) (y3_19 + 1) M5)
else (rec_4 y1_19 (y2_4 + 1) M5)) jfuel y1_4 0 M_4)
else (some (y1_4, M_4))) jfuel 0 0 M
theorem D_X12_sumHills : jDs cX12_sumHills [(0, .iconst 0, 1, 1), (1, .istore_n 1, 1, 2), (2, .iconst 0, 1, 3), (3, .istore_n 2, 1, 4), (4, .iload_n 2, 1, 5), (5, .aload_n 0, 1, 6), (6, .getfield 43, 3, 9), (9, .aload_n 0, 1, 10), (10, .getfield 245, 3, 13), (13, .iaload, 1, 14), (14, .if_icmp .gt 39, 3, 17), (17, .iconst 0, 1, 18), (18, .istore_n 3, 1, 19), (19, .iload_n 3, 1, 20), (20, .aload_n 0, 1, 21), (21, .invokevirtual 322, 3, 24), (24, .if_icmp .gt 23, 3, 27), (27, .iload_n 1, 1, 28), (28, .aload_n 0, 1, 29), (29, .getfield 146, 3, 32), (32, .bipush 7, 2, 34), (34, .iload_n 2, 1, 35), (35, .imul, 1, 36), (36, .iload_n 3, 1, 37), (37, .iadd, 1, 38), (38, .iaload, 1, 39), (39, .iadd, 1, 40), (40, .istore_n 1, 1, 41), (41, .iinc 3 1, 3, 44), (44, .goto (-25), 3, 47), (47, .iinc 2 1, 3, 50), (50, .goto (-46), 3, 53), (53, .iload_n 1, 1, 54), (54, .ireturn, 1, 55)] := by unfold jDs; decide +kernel
set_option maxRecDepth 100000 in
set_option maxHeartbeats 4000000 in
theorem c_X12_sumHills {E : jE} {th : Nat} {M : jMem} {r : Int} {M' : jMem} (h : f_X12_sumHills th M = some (r, M')) : jMet E yX12_sumHills cX12_sumHills 4 (some .int) 3 0 0 [q_r E th] M (some (q_i r)) M' := by
  unfold f_X12_sumHills at h
  refine jMet.of RX12 rfl (by decide +kernel) (Nat.le_of_ble_eq_true rfl) [(0, q_r E th)] rfl (fun X hC hE hr hn => ?_)
  refine jr_iconst hC (D_X12_sumHills.g 0 rfl) ?_
  refine jr_istore_n hC (D_X12_sumHills.g 1 rfl) (by decide) rfl ?_
  refine jr_iconst hC (D_X12_sumHills.g 2 rfl) ?_
  refine jr_istore_n hC (D_X12_sumHills.g 3 rfl) (by decide) rfl ?_
  refine jr_pick [2, 1, 0] rfl ?_
  refine jr_lp3 (fun (y1_4 : Int) (y2_4 : Int) (M_4 : jMem) => JW E X 4 0 0 M_4 4 [(0, q_r E th), (1, q_i y1_4), (2, q_i y2_4)] []) ?_ jfuel 0 0 M h
  intro rec_4 hrec_4 y1_4 y2_4 M_4 h
  refine jr_iload_n hC (D_X12_sumHills.g 4 rfl) 2 rfl ?_
  refine jr_aload_n hC (D_X12_sumHills.g 5 rfl) 0 rfl ?_
  refine jr_getR hC fl_X12_43 rfl (D_X12_sumHills.g 6 rfl) h (fun r1 h => ?_)
  refine jr_aload_n hC (D_X12_sumHills.g 7 rfl) 0 rfl ?_
  refine jr_getI hC fl_X12_245 rfl (D_X12_sumHills.g 8 rfl) h (fun v2 h => ?_)
  refine jr_iald hC (D_X12_sumHills.g 9 rfl) h (fun v3 h => ?_)
  refine jr_icmp_gt hC (D_X12_sumHills.g 10 rfl) 53 rfl h (fun h => ?_) (fun h => ?_)
  · refine jr_iconst hC (D_X12_sumHills.g 11 rfl) ?_
    refine jr_istore_n hC (D_X12_sumHills.g 12 rfl) (by decide) rfl ?_
    refine jr_pick [1, 2, 3, 0] rfl ?_
    refine jr_lp3 (fun (y1_19 : Int) (y3_19 : Int) (M_19 : jMem) => JW E X 4 0 0 M_19 19 [(0, q_r E th), (1, q_i y1_19), (2, q_i y2_4), (3, q_i y3_19)] []) ?_ jfuel y1_4 0 M_4 h
    intro rec_19 hrec_19 y1_19 y3_19 M_19 h
    refine jr_iload_n hC (D_X12_sumHills.g 13 rfl) 3 rfl ?_
    refine jr_aload_n hC (D_X12_sumHills.g 14 rfl) 0 rfl ?_
    refine jr_cVi hC cl_X12_322 ⟨rfl, by decide⟩ (D_X12_sumHills.g 15 rfl) [] h (fun r M' e => c_X12_w e) rfl rfl ⟨by decide, by decide⟩ (Nat.le_of_ble_eq_true rfl) ⟨Nat.le_of_ble_eq_true rfl, Nat.le_of_ble_eq_true rfl⟩ (fun v4 M5 h => ?_)
    refine jr_icmp_gt hC (D_X12_sumHills.g 16 rfl) 47 rfl h (fun h => ?_) (fun h => ?_)
    · refine jr_iload_n hC (D_X12_sumHills.g 17 rfl) 1 rfl ?_
      refine jr_aload_n hC (D_X12_sumHills.g 18 rfl) 0 rfl ?_
      refine jr_getR hC fl_X12_146 rfl (D_X12_sumHills.g 19 rfl) h (fun r6 h => ?_)
      refine jr_bipush hC (D_X12_sumHills.g 20 rfl) bp_7 ?_
      refine jr_iload_n hC (D_X12_sumHills.g 21 rfl) 2 rfl ?_
      refine jr_imul hC (D_X12_sumHills.g 22 rfl) ?_
      refine jr_iload_n hC (D_X12_sumHills.g 23 rfl) 3 rfl ?_
      refine jr_iadd hC (D_X12_sumHills.g 24 rfl) ?_
      refine jr_iald hC (D_X12_sumHills.g 25 rfl) h (fun v7 h => ?_)
      refine jr_iadd hC (D_X12_sumHills.g 26 rfl) ?_
      refine jr_istore_n hC (D_X12_sumHills.g 27 rfl) (by decide) rfl ?_
      refine jr_iinc hC (D_X12_sumHills.g 28 rfl) 3 rfl (by decide) rfl ?_
      refine jr_goto hC (D_X12_sumHills.g 29 rfl) 19 rfl ?_
      refine jr_pick [2, 1, 3, 0] rfl ?_
      exact hrec_19 (y1_19 + v7) (y3_19 + 1) M5 h
    refine jr_iinc hC (D_X12_sumHills.g 30 rfl) 2 rfl (by decide) rfl ?_
    refine jr_goto hC (D_X12_sumHills.g 31 rfl) 4 rfl ?_
    refine jr_pick [1, 2, 0] rfl ?_
    exact hrec_4 y1_19 (y2_4 + 1) M5 h
  refine jr_iload_n hC (D_X12_sumHills.g 32 rfl) 1 rfl ?_
  exact jr_iret hC (D_X12_sumHills.g 33 rfl) hr hE h
def f_X12_lowest (th : Nat) (x1 : Int) (M : jMem) : Option (Int × jMem) :=
jcall 12 M th (f_X12_countsAll th M) fun v1 M2 =>
jbd (f_X12_in x1 0 1 M2) fun v3 M4 =>
jjq (some ((-100000), M4)) fun j_30 =>
if jd_wr v3 = 0 then (j_30 )
else ((jm_gR 12 22 M4 th).bind fun r5 =>
(jm_gI 12 18 M4 th).bind fun v6 =>
(jm_ld 20 M4 r5 v6).bind fun v7 =>
if jd_wr v7 ≤ 0 then (if jd_wr v1 = 0 then (j_30 )
else (jlp4 (fun rec_42 (y3_42 : Int) (y4_42 : Int) (y5_42 : Int) (M_42 : jMem) =>
if jd_wr y5_42 < jd_wr v1 then (jcall 12 M_42 th (f_X12_fillsWays th y5_42 M_42) fun _ M9 =>
jcall 12 M9 th (f_X12_fillsHills th M9) fun _ M11 =>
jcall 12 M11 th (f_X12_sumHills th M11) fun v12 M13 =>
jjq (fun (y3_85 : Int) (y4_85 : Int) =>
rec_42 y3_85 y4_85 (y5_42 + 1) M13) fun j_85 =>
jjq (j_85 y5_42 v12) fun j_78 =>
if jd_wr y3_42 < 0 then (j_78 )
else (if jd_wr v12 < jd_wr y4_42 then (j_78 )
else (j_85 y3_42 y4_42)))
else (if jd_wr x1 = 0 then (some (y3_42, M_42))
else (some (y4_42, M_42)))) jfuel (-1) 0 0 M4))
else (j_30 ))
theorem D_X12_lowest : jDs cX12_lowest [(0, .aload_n 0, 1, 1), (1, .invokevirtual 436, 3, 4), (4, .istore_n 2, 1, 5), (5, .iload_n 1, 1, 6), (6, .iconst 0, 1, 7), (7, .iconst 1, 1, 8), (8, .invokestatic 318, 3, 11), (11, .ifCond .eq 19, 3, 14), (14, .aload_n 0, 1, 15), (15, .getfield 46, 3, 18), (18, .aload_n 0, 1, 19), (19, .getfield 245, 3, 22), (22, .iaload, 1, 23), (23, .ifCond .gt 7, 3, 26), (26, .iload_n 2, 1, 27), (27, .ifCond .ne 7, 3, 30), (30, .ldc_w 481, 3, 33), (33, .ireturn, 1, 34), (34, .iconst (-1), 1, 35), (35, .istore_n 3, 1, 36), (36, .iconst 0, 1, 37), (37, .istore 4, 2, 39), (39, .iconst 0, 1, 40), (40, .istore 5, 2, 42), (42, .iload 5, 2, 44), (44, .iload_n 2, 1, 45), (45, .if_icmp .ge 46, 3, 48), (48, .aload_n 0, 1, 49), (49, .iload 5, 2, 51), (51, .invokevirtual 457, 3, 54), (54, .aload_n 0, 1, 55), (55, .invokevirtual 463, 3, 58), (58, .aload_n 0, 1, 59), (59, .invokevirtual 482, 3, 62), (62, .istore 6, 2, 64), (64, .iload_n 3, 1, 65), (65, .ifCond .lt 13, 3, 68), (68, .iload 6, 2, 70), (70, .iload 4, 2, 72), (72, .if_icmp .lt 6, 3, 75), (75, .goto 10, 3, 78), (78, .iload 5, 2, 80), (80, .istore_n 3, 1, 81), (81, .iload 6, 2, 83), (83, .istore 4, 2, 85), (85, .iinc 5 1, 3, 88), (88, .goto (-46), 3, 91), (91, .iload_n 1, 1, 92), (92, .ifCond .ne 7, 3, 95), (95, .iload_n 3, 1, 96), (96, .goto 5, 3, 99), (99, .iload 4, 2, 101), (101, .ireturn, 1, 102)] := by unfold jDs; decide +kernel
set_option maxRecDepth 100000 in
set_option maxHeartbeats 4000000 in
theorem c_X12_lowest {E : jE} {th : Nat} {x1 : Int} {M : jMem} {r : Int} {M' : jMem} (h : f_X12_lowest th x1 M = some (r, M')) : jMet E yX12_lowest cX12_lowest 7 (some .int) 8 0 0 [q_r E th, q_i x1] M (some (q_i r)) M' := by
  unfold f_X12_lowest at h
  refine jMet.of RX12 rfl (by decide +kernel) (Nat.le_of_ble_eq_true rfl) [(0, q_r E th), (1, q_i x1)] rfl (fun X hC hE hr hn => ?_)
  refine jr_aload_n hC (D_X12_lowest.g 0 rfl) 0 rfl ?_
  refine jr_cVi hC cl_X12_436 ⟨rfl, by decide⟩ (D_X12_lowest.g 1 rfl) [] h (fun r M' e => c_X12_countsAll e) rfl rfl ⟨by decide, by decide⟩ (Nat.le_of_ble_eq_true rfl) ⟨Nat.le_of_ble_eq_true rfl, Nat.le_of_ble_eq_true rfl⟩ (fun v1 M2 h => ?_)
  refine jr_istore_n hC (D_X12_lowest.g 2 rfl) (by decide) rfl ?_
  refine jr_iload_n hC (D_X12_lowest.g 3 rfl) 2 rfl ?_
  refine jr_iconst hC (D_X12_lowest.g 4 rfl) ?_
  refine jr_iconst hC (D_X12_lowest.g 5 rfl) ?_
  refine jr_cSi hC cl_X12_318 (D_X12_lowest.g 6 rfl) [q_i x1, q_i 0, q_i 1] h (fun r M' e => c_X12_in e) rfl rfl ⟨by decide, by decide⟩ (Nat.le_of_ble_eq_true rfl) ⟨Nat.le_of_ble_eq_true rfl, Nat.le_of_ble_eq_true rfl⟩ (fun v3 M4 h => ?_)
  refine jr_join h (fun j => j = some (r, M') → JW E X 7 0 0 M4 30 [] []) ?_ ?_
  · intro  h
    refine jr_ldcw hC (-100000) (jt_in (i := 1950) (by decide +kernel) rfl) (D_X12_lowest.g 16 rfl) ?_
    exact jr_iret hC (D_X12_lowest.g 17 rfl) hr hE h
  intro j_30 hj_30 h
  refine jr_if_eq hC (D_X12_lowest.g 7 rfl) 30 rfl h (fun h => ?_) (fun h => ?_)
  · refine jr_pick [] rfl ?_
    exact hj_30  h
  refine jr_aload_n hC (D_X12_lowest.g 8 rfl) 1 rfl ?_
  refine jr_getR hC fl_X12_46 rfl (D_X12_lowest.g 9 rfl) h (fun r5 h => ?_)
  refine jr_aload_n hC (D_X12_lowest.g 10 rfl) 1 rfl ?_
  refine jr_getI hC fl_X12_245 rfl (D_X12_lowest.g 11 rfl) h (fun v6 h => ?_)
  refine jr_iald hC (D_X12_lowest.g 12 rfl) h (fun v7 h => ?_)
  refine jr_if_gt hC (D_X12_lowest.g 13 rfl) 30 rfl h (fun h => ?_) (fun h => ?_)
  · refine jr_iload_n hC (D_X12_lowest.g 14 rfl) 0 rfl ?_
    refine jr_if_ne hC (D_X12_lowest.g 15 rfl) 34 rfl h (fun h => ?_) (fun h => ?_)
    · refine jr_pick [] rfl ?_
      exact hj_30  h
    refine jr_iconst hC (D_X12_lowest.g 18 rfl) ?_
    refine jr_istore_n hC (D_X12_lowest.g 19 rfl) (by decide) rfl ?_
    refine jr_iconst hC (D_X12_lowest.g 20 rfl) ?_
    refine jr_istore hC (D_X12_lowest.g 21 rfl) (by decide) rfl ?_
    refine jr_iconst hC (D_X12_lowest.g 22 rfl) ?_
    refine jr_istore hC (D_X12_lowest.g 23 rfl) (by decide) rfl ?_
    refine jr_pick [4, 5, 3, 2, 1, 0] rfl ?_
    refine jr_lp4 (fun (y3_42 : Int) (y4_42 : Int) (y5_42 : Int) (M_42 : jMem) => JW E X 7 0 0 M_42 42 [(0, q_r E th), (1, q_i x1), (2, q_i v1), (3, q_i y3_42), (4, q_i y4_42), (5, q_i y5_42)] []) ?_ jfuel (-1) 0 0 M4 h
    intro rec_42 hrec_42 y3_42 y4_42 y5_42 M_42 h
    refine jr_iload hC (D_X12_lowest.g 24 rfl) 5 rfl ?_
    refine jr_iload_n hC (D_X12_lowest.g 25 rfl) 2 rfl ?_
    refine jr_icmp_ge hC (D_X12_lowest.g 26 rfl) 91 rfl h (fun h => ?_) (fun h => ?_)
    · refine jr_aload_n hC (D_X12_lowest.g 27 rfl) 0 rfl ?_
      refine jr_iload hC (D_X12_lowest.g 28 rfl) 5 rfl ?_
      refine jr_cVv hC cl_X12_457 ⟨rfl, by decide⟩ (D_X12_lowest.g 29 rfl) [q_i y5_42] h (fun r M' e => c_X12_fillsWays e) rfl rfl ⟨by decide, by decide⟩ (Nat.le_of_ble_eq_true rfl) ⟨Nat.le_of_ble_eq_true rfl, Nat.le_of_ble_eq_true rfl⟩ (fun _ M9 h => ?_)
      refine jr_aload_n hC (D_X12_lowest.g 30 rfl) 0 rfl ?_
      refine jr_cVv hC cl_X12_463 ⟨rfl, by decide⟩ (D_X12_lowest.g 31 rfl) [] h (fun r M' e => c_X12_fillsHills e) rfl rfl ⟨by decide, by decide⟩ (Nat.le_of_ble_eq_true rfl) ⟨Nat.le_of_ble_eq_true rfl, Nat.le_of_ble_eq_true rfl⟩ (fun _ M11 h => ?_)
      refine jr_aload_n hC (D_X12_lowest.g 32 rfl) 0 rfl ?_
      refine jr_cVi hC cl_X12_482 ⟨rfl, by decide⟩ (D_X12_lowest.g 33 rfl) [] h (fun r M' e => c_X12_sumHills e) rfl rfl ⟨by decide, by decide⟩ (Nat.le_of_ble_eq_true rfl) ⟨Nat.le_of_ble_eq_true rfl, Nat.le_of_ble_eq_true rfl⟩ (fun v12 M13 h => ?_)
      refine jr_istore hC (D_X12_lowest.g 34 rfl) (by decide) rfl ?_
      refine jr_iload_n hC (D_X12_lowest.g 35 rfl) 4 rfl ?_
      refine jr_join h (fun j => ∀ (y3_85 : Int) (y4_85 : Int), j y3_85 y4_85 = some (r, M') → JW E X 7 0 0 M13 85 [(0, q_r E th), (1, q_i x1), (2, q_i v1), (3, q_i y3_85), (4, q_i y4_85), (5, q_i y5_42)] []) ?_ ?_
      · intro y3_85 y4_85 h
        refine jr_iinc hC (D_X12_lowest.g 45 rfl) 5 rfl (by decide) rfl ?_
        refine jr_goto hC (D_X12_lowest.g 46 rfl) 42 rfl ?_
        refine jr_pick [1, 2, 3, 4, 5, 0] rfl ?_
        exact hrec_42 y3_85 y4_85 (y5_42 + 1) M13 h
      intro j_85 hj_85 h
      refine jr_join h (fun j => j = some (r, M') → JW E X 7 0 0 M13 78 [(0, q_r E th), (1, q_i x1), (2, q_i v1), (5, q_i y5_42), (6, q_i v12)] []) ?_ ?_
      · intro  h
        refine jr_iload hC (D_X12_lowest.g 41 rfl) 3 rfl ?_
        refine jr_istore_n hC (D_X12_lowest.g 42 rfl) (by decide) rfl ?_
        refine jr_iload hC (D_X12_lowest.g 43 rfl) 5 rfl ?_
        refine jr_istore hC (D_X12_lowest.g 44 rfl) (by decide) rfl ?_
        refine jr_pick [2, 3, 4, 1, 0, 5] rfl ?_
        exact hj_85 y5_42 v12 h
      intro j_78 hj_78 h
      refine jr_if_lt hC (D_X12_lowest.g 36 rfl) 78 rfl h (fun h => ?_) (fun h => ?_)
      · refine jr_pick [1, 2, 3, 6, 0] rfl ?_
        exact hj_78  h
      refine jr_iload hC (D_X12_lowest.g 37 rfl) 0 rfl ?_
      refine jr_iload hC (D_X12_lowest.g 38 rfl) 5 rfl ?_
      refine jr_icmp_lt hC (D_X12_lowest.g 39 rfl) 78 rfl h (fun h => ?_) (fun h => ?_)
      · refine jr_pick [1, 2, 3, 6, 0] rfl ?_
        exact hj_78  h
      refine jr_goto hC (D_X12_lowest.g 40 rfl) 85 rfl ?_
      refine jr_pick [1, 2, 3, 4, 5, 6] rfl ?_
      exact hj_85 y3_42 y4_42 h
    refine jr_iload_n hC (D_X12_lowest.g 47 rfl) 1 rfl ?_
    refine jr_if_ne hC (D_X12_lowest.g 48 rfl) 99 rfl h (fun h => ?_) (fun h => ?_)
    · refine jr_iload_n hC (D_X12_lowest.g 49 rfl) 3 rfl ?_
      refine jr_goto hC (D_X12_lowest.g 50 rfl) 101 rfl ?_
      exact jr_iret hC (D_X12_lowest.g 52 rfl) hr hE h
    refine jr_iload hC (D_X12_lowest.g 51 rfl) 4 rfl ?_
    exact jr_iret hC (D_X12_lowest.g 52 rfl) hr hE h
  refine jr_pick [] rfl ?_
  exact hj_30  h
def f_X12_turns (th : Nat) (x1 : Int) (M : jMem) : Option (Int × jMem) :=
if jd_wr x1 < jd_wr (-1) then (some ((-1), M))
else (jcall 12 M th (f_X12_copies th M) fun _ M2 =>
jlp3 (fun rec_15 (y2_15 : Int) (y3_15 : Int) (M_15 : jMem) =>
jcall 12 M_15 th (f_X12_cells th M_15) fun v3 M4 =>
if jd_wr y3_15 < jd_wr v3 then (jcall 12 M4 th (f_X12_canTurn th y3_15 M4) fun v5 M6 =>
jjq (fun (y2_44 : Int) =>
rec_15 y2_44 (y3_15 + 1) M6) fun j_44 =>
if jd_wr v5 = 0 then (j_44 y2_15)
else (if jd_wr y2_15 = jd_wr x1 then (some (y3_15, M6))
else (j_44 (y2_15 + 1))))
else (if jd_wr x1 = jd_wr (-1) then (some (y2_15, M4))
else (some ((-1), M4)))) jfuel 0 0 M2)
theorem D_X12_turns : jDs cX12_turns [(0, .iload_n 1, 1, 1), (1, .iconst (-1), 1, 2), (2, .if_icmp .ge 5, 3, 5), (5, .iconst (-1), 1, 6), (6, .ireturn, 1, 7), (7, .aload_n 0, 1, 8), (8, .invokevirtual 385, 3, 11), (11, .iconst 0, 1, 12), (12, .istore_n 2, 1, 13), (13, .iconst 0, 1, 14), (14, .istore_n 3, 1, 15), (15, .iload_n 3, 1, 16), (16, .aload_n 0, 1, 17), (17, .invokevirtual 314, 3, 20), (20, .if_icmp .ge 30, 3, 23), (23, .aload_n 0, 1, 24), (24, .iload_n 3, 1, 25), (25, .invokevirtual 397, 3, 28), (28, .ifCond .ne 6, 3, 31), (31, .goto 13, 3, 34), (34, .iload_n 2, 1, 35), (35, .iload_n 1, 1, 36), (36, .if_icmp .ne 5, 3, 39), (39, .iload_n 3, 1, 40), (40, .ireturn, 1, 41), (41, .iinc 2 1, 3, 44), (44, .iinc 3 1, 3, 47), (47, .goto (-32), 3, 50), (50, .iload_n 1, 1, 51), (51, .iconst (-1), 1, 52), (52, .if_icmp .ne 7, 3, 55), (55, .iload_n 2, 1, 56), (56, .goto 4, 3, 59), (59, .iconst (-1), 1, 60), (60, .ireturn, 1, 61)] := by unfold jDs; decide +kernel
set_option maxRecDepth 100000 in
set_option maxHeartbeats 4000000 in
theorem c_X12_turns {E : jE} {th : Nat} {x1 : Int} {M : jMem} {r : Int} {M' : jMem} (h : f_X12_turns th x1 M = some (r, M')) : jMet E yX12_turns cX12_turns 4 (some .int) 7 0 0 [q_r E th, q_i x1] M (some (q_i r)) M' := by
  unfold f_X12_turns at h
  refine jMet.of RX12 rfl (by decide +kernel) (Nat.le_of_ble_eq_true rfl) [(0, q_r E th), (1, q_i x1)] rfl (fun X hC hE hr hn => ?_)
  refine jr_iload_n hC (D_X12_turns.g 0 rfl) 1 rfl ?_
  refine jr_iconst hC (D_X12_turns.g 1 rfl) ?_
  refine jr_icmp_ge hC (D_X12_turns.g 2 rfl) 7 rfl h (fun h => ?_) (fun h => ?_)
  · refine jr_iconst hC (D_X12_turns.g 3 rfl) ?_
    exact jr_iret hC (D_X12_turns.g 4 rfl) hr hE h
  refine jr_aload_n hC (D_X12_turns.g 5 rfl) 0 rfl ?_
  refine jr_cVv hC cl_X12_385 ⟨rfl, by decide⟩ (D_X12_turns.g 6 rfl) [] h (fun r M' e => c_X12_copies e) rfl rfl ⟨by decide, by decide⟩ (Nat.le_of_ble_eq_true rfl) ⟨Nat.le_of_ble_eq_true rfl, Nat.le_of_ble_eq_true rfl⟩ (fun _ M2 h => ?_)
  refine jr_iconst hC (D_X12_turns.g 7 rfl) ?_
  refine jr_istore_n hC (D_X12_turns.g 8 rfl) (by decide) rfl ?_
  refine jr_iconst hC (D_X12_turns.g 9 rfl) ?_
  refine jr_istore_n hC (D_X12_turns.g 10 rfl) (by decide) rfl ?_
  refine jr_pick [2, 3, 1, 0] rfl ?_
  refine jr_lp3 (fun (y2_15 : Int) (y3_15 : Int) (M_15 : jMem) => JW E X 4 0 0 M_15 15 [(0, q_r E th), (1, q_i x1), (2, q_i y2_15), (3, q_i y3_15)] []) ?_ jfuel 0 0 M2 h
  intro rec_15 hrec_15 y2_15 y3_15 M_15 h
  refine jr_iload_n hC (D_X12_turns.g 11 rfl) 3 rfl ?_
  refine jr_aload_n hC (D_X12_turns.g 12 rfl) 0 rfl ?_
  refine jr_cVi hC cl_X12_314 ⟨rfl, by decide⟩ (D_X12_turns.g 13 rfl) [] h (fun r M' e => c_X12_cells e) rfl rfl ⟨by decide, by decide⟩ (Nat.le_of_ble_eq_true rfl) ⟨Nat.le_of_ble_eq_true rfl, Nat.le_of_ble_eq_true rfl⟩ (fun v3 M4 h => ?_)
  refine jr_icmp_ge hC (D_X12_turns.g 14 rfl) 50 rfl h (fun h => ?_) (fun h => ?_)
  · refine jr_aload_n hC (D_X12_turns.g 15 rfl) 0 rfl ?_
    refine jr_iload_n hC (D_X12_turns.g 16 rfl) 3 rfl ?_
    refine jr_cVi hC cl_X12_397 ⟨rfl, by decide⟩ (D_X12_turns.g 17 rfl) [q_i y3_15] h (fun r M' e => c_X12_canTurn e) rfl rfl ⟨by decide, by decide⟩ (Nat.le_of_ble_eq_true rfl) ⟨Nat.le_of_ble_eq_true rfl, Nat.le_of_ble_eq_true rfl⟩ (fun v5 M6 h => ?_)
    refine jr_join h (fun j => ∀ (y2_44 : Int), j y2_44 = some (r, M') → JW E X 4 0 0 M6 44 [(0, q_r E th), (1, q_i x1), (2, q_i y2_44), (3, q_i y3_15)] []) ?_ ?_
    · intro y2_44 h
      refine jr_iinc hC (D_X12_turns.g 26 rfl) 3 rfl (by decide) rfl ?_
      refine jr_goto hC (D_X12_turns.g 27 rfl) 15 rfl ?_
      refine jr_pick [1, 2, 3, 0] rfl ?_
      exact hrec_15 y2_44 (y3_15 + 1) M6 h
    intro j_44 hj_44 h
    refine jr_if_ne hC (D_X12_turns.g 18 rfl) 34 rfl h (fun h => ?_) (fun h => ?_)
    · refine jr_goto hC (D_X12_turns.g 19 rfl) 44 rfl ?_
      exact hj_44 y2_15 h
    refine jr_iload_n hC (D_X12_turns.g 20 rfl) 2 rfl ?_
    refine jr_iload_n hC (D_X12_turns.g 21 rfl) 1 rfl ?_
    refine jr_icmp_ne hC (D_X12_turns.g 22 rfl) 41 rfl h (fun h => ?_) (fun h => ?_)
    · refine jr_iload_n hC (D_X12_turns.g 23 rfl) 3 rfl ?_
      exact jr_iret hC (D_X12_turns.g 24 rfl) hr hE h
    refine jr_iinc hC (D_X12_turns.g 25 rfl) 2 rfl (by decide) rfl ?_
    refine jr_pick [1, 2, 0, 3] rfl ?_
    exact hj_44 (y2_15 + 1) h
  refine jr_iload_n hC (D_X12_turns.g 28 rfl) 1 rfl ?_
  refine jr_iconst hC (D_X12_turns.g 29 rfl) ?_
  refine jr_icmp_ne hC (D_X12_turns.g 30 rfl) 59 rfl h (fun h => ?_) (fun h => ?_)
  · refine jr_iload_n hC (D_X12_turns.g 31 rfl) 2 rfl ?_
    refine jr_goto hC (D_X12_turns.g 32 rfl) 60 rfl ?_
    exact jr_iret hC (D_X12_turns.g 34 rfl) hr hE h
  refine jr_iconst hC (D_X12_turns.g 33 rfl) ?_
  exact jr_iret hC (D_X12_turns.g 34 rfl) hr hE h
def f_X12_cheapest (th : Nat) (x1 : Int) (M : jMem) : Option (Int × jMem) :=
jbd (f_X12_in x1 0 1 M) fun v1 M2 =>
if jd_wr v1 = 0 then (some ((-1), M2))
else (jcall 12 M2 th (f_X12_copies th M2) fun _ M4 =>
jlp4 (fun rec_24 (y2_24 : Int) (y3_24 : Int) (y4_24 : Int) (M_24 : jMem) =>
jcall 12 M_24 th (f_X12_cells th M_24) fun v5 M6 =>
if jd_wr y4_24 < jd_wr v5 then (jcall 12 M6 th (f_X12_canTurn th y4_24 M6) fun v7 M8 =>
jjq (fun (y2_65 : Int) (y3_65 : Int) (M_65 : jMem) =>
rec_24 y2_65 y3_65 (y4_24 + 1) M_65) fun j_65 =>
if jd_wr v7 = 0 then (j_65 y2_24 y3_24 M8)
else (jjq (fun (M_57 : jMem) =>
jcall 12 M_57 th (f_X12_turnAsks th M_57) fun v9 M10 =>
j_65 y4_24 v9 M10) fun j_57 =>
if jd_wr y2_24 < 0 then (j_57 M8)
else (jcall 12 M8 th (f_X12_turnAsks th M8) fun v11 M12 =>
if jd_wr v11 < jd_wr y3_24 then (j_57 M12)
else (j_65 y2_24 y3_24 M12))))
else (if jd_wr x1 = 0 then (some (y2_24, M6))
else (some (y3_24, M6)))) jfuel (-2) (-2) 0 M4)
theorem D_X12_cheapest : jDs cX12_cheapest [(0, .iload_n 1, 1, 1), (1, .iconst 0, 1, 2), (2, .iconst 1, 1, 3), (3, .invokestatic 318, 3, 6), (6, .ifCond .ne 5, 3, 9), (9, .iconst (-1), 1, 10), (10, .ireturn, 1, 11), (11, .aload_n 0, 1, 12), (12, .invokevirtual 385, 3, 15), (15, .bipush (-2), 2, 17), (17, .istore_n 2, 1, 18), (18, .bipush (-2), 2, 20), (20, .istore_n 3, 1, 21), (21, .iconst 0, 1, 22), (22, .istore 4, 2, 24), (24, .iload 4, 2, 26), (26, .aload_n 0, 1, 27), (27, .invokevirtual 314, 3, 30), (30, .if_icmp .ge 41, 3, 33), (33, .aload_n 0, 1, 34), (34, .iload 4, 2, 36), (36, .invokevirtual 397, 3, 39), (39, .ifCond .eq 26, 3, 42), (42, .iload_n 2, 1, 43), (43, .ifCond .lt 14, 3, 46), (46, .aload_n 0, 1, 47), (47, .invokevirtual 400, 3, 50), (50, .iload_n 3, 1, 51), (51, .if_icmp .lt 6, 3, 54), (54, .goto 11, 3, 57), (57, .iload 4, 2, 59), (59, .istore_n 2, 1, 60), (60, .aload_n 0, 1, 61), (61, .invokevirtual 400, 3, 64), (64, .istore_n 3, 1, 65), (65, .iinc 4 1, 3, 68), (68, .goto (-44), 3, 71), (71, .iload_n 1, 1, 72), (72, .ifCond .ne 7, 3, 75), (75, .iload_n 2, 1, 76), (76, .goto 4, 3, 79), (79, .iload_n 3, 1, 80), (80, .ireturn, 1, 81)] := by unfold jDs; decide +kernel
set_option maxRecDepth 100000 in
set_option maxHeartbeats 4000000 in
theorem c_X12_cheapest {E : jE} {th : Nat} {x1 : Int} {M : jMem} {r : Int} {M' : jMem} (h : f_X12_cheapest th x1 M = some (r, M')) : jMet E yX12_cheapest cX12_cheapest 5 (some .int) 7 0 0 [q_r E th, q_i x1] M (some (q_i r)) M' := by
  unfold f_X12_cheapest at h
  refine jMet.of RX12 rfl (by decide +kernel) (Nat.le_of_ble_eq_true rfl) [(0, q_r E th), (1, q_i x1)] rfl (fun X hC hE hr hn => ?_)
  refine jr_iload_n hC (D_X12_cheapest.g 0 rfl) 1 rfl ?_
  refine jr_iconst hC (D_X12_cheapest.g 1 rfl) ?_
  refine jr_iconst hC (D_X12_cheapest.g 2 rfl) ?_
  refine jr_cSi hC cl_X12_318 (D_X12_cheapest.g 3 rfl) [q_i x1, q_i 0, q_i 1] h (fun r M' e => c_X12_in e) rfl rfl ⟨by decide, by decide⟩ (Nat.le_of_ble_eq_true rfl) ⟨Nat.le_of_ble_eq_true rfl, Nat.le_of_ble_eq_true rfl⟩ (fun v1 M2 h => ?_)
  refine jr_if_ne hC (D_X12_cheapest.g 4 rfl) 11 rfl h (fun h => ?_) (fun h => ?_)
  · refine jr_iconst hC (D_X12_cheapest.g 5 rfl) ?_
    exact jr_iret hC (D_X12_cheapest.g 6 rfl) hr hE h
  refine jr_aload_n hC (D_X12_cheapest.g 7 rfl) 0 rfl ?_
  refine jr_cVv hC cl_X12_385 ⟨rfl, by decide⟩ (D_X12_cheapest.g 8 rfl) [] h (fun r M' e => c_X12_copies e) rfl rfl ⟨by decide, by decide⟩ (Nat.le_of_ble_eq_true rfl) ⟨Nat.le_of_ble_eq_true rfl, Nat.le_of_ble_eq_true rfl⟩ (fun _ M4 h => ?_)
  refine jr_bipush hC (D_X12_cheapest.g 9 rfl) bp_m2 ?_
  refine jr_istore_n hC (D_X12_cheapest.g 10 rfl) (by decide) rfl ?_
  refine jr_bipush hC (D_X12_cheapest.g 11 rfl) bp_m2 ?_
  refine jr_istore_n hC (D_X12_cheapest.g 12 rfl) (by decide) rfl ?_
  refine jr_iconst hC (D_X12_cheapest.g 13 rfl) ?_
  refine jr_istore hC (D_X12_cheapest.g 14 rfl) (by decide) rfl ?_
  refine jr_pick [3, 4, 2, 1, 0] rfl ?_
  refine jr_lp4 (fun (y2_24 : Int) (y3_24 : Int) (y4_24 : Int) (M_24 : jMem) => JW E X 5 0 0 M_24 24 [(0, q_r E th), (1, q_i x1), (2, q_i y2_24), (3, q_i y3_24), (4, q_i y4_24)] []) ?_ jfuel (-2) (-2) 0 M4 h
  intro rec_24 hrec_24 y2_24 y3_24 y4_24 M_24 h
  refine jr_iload hC (D_X12_cheapest.g 15 rfl) 4 rfl ?_
  refine jr_aload_n hC (D_X12_cheapest.g 16 rfl) 0 rfl ?_
  refine jr_cVi hC cl_X12_314 ⟨rfl, by decide⟩ (D_X12_cheapest.g 17 rfl) [] h (fun r M' e => c_X12_cells e) rfl rfl ⟨by decide, by decide⟩ (Nat.le_of_ble_eq_true rfl) ⟨Nat.le_of_ble_eq_true rfl, Nat.le_of_ble_eq_true rfl⟩ (fun v5 M6 h => ?_)
  refine jr_icmp_ge hC (D_X12_cheapest.g 18 rfl) 71 rfl h (fun h => ?_) (fun h => ?_)
  · refine jr_aload_n hC (D_X12_cheapest.g 19 rfl) 0 rfl ?_
    refine jr_iload hC (D_X12_cheapest.g 20 rfl) 4 rfl ?_
    refine jr_cVi hC cl_X12_397 ⟨rfl, by decide⟩ (D_X12_cheapest.g 21 rfl) [q_i y4_24] h (fun r M' e => c_X12_canTurn e) rfl rfl ⟨by decide, by decide⟩ (Nat.le_of_ble_eq_true rfl) ⟨Nat.le_of_ble_eq_true rfl, Nat.le_of_ble_eq_true rfl⟩ (fun v7 M8 h => ?_)
    refine jr_join h (fun j => ∀ (y2_65 : Int) (y3_65 : Int) (M_65 : jMem), j y2_65 y3_65 M_65 = some (r, M') → JW E X 5 0 0 M_65 65 [(0, q_r E th), (1, q_i x1), (2, q_i y2_65), (3, q_i y3_65), (4, q_i y4_24)] []) ?_ ?_
    · intro y2_65 y3_65 M_65 h
      refine jr_iinc hC (D_X12_cheapest.g 35 rfl) 4 rfl (by decide) rfl ?_
      refine jr_goto hC (D_X12_cheapest.g 36 rfl) 24 rfl ?_
      refine jr_pick [1, 2, 3, 4, 0] rfl ?_
      exact hrec_24 y2_65 y3_65 (y4_24 + 1) M_65 h
    intro j_65 hj_65 h
    refine jr_if_eq hC (D_X12_cheapest.g 22 rfl) 65 rfl h (fun h => ?_) (fun h => ?_)
    · exact hj_65 y2_24 y3_24 M8 h
    refine jr_iload_n hC (D_X12_cheapest.g 23 rfl) 2 rfl ?_
    refine jr_join h (fun j => ∀ (M_57 : jMem), j M_57 = some (r, M') → JW E X 5 0 0 M_57 57 [(0, q_r E th), (1, q_i x1), (4, q_i y4_24)] []) ?_ ?_
    · intro M_57 h
      refine jr_iload hC (D_X12_cheapest.g 30 rfl) 2 rfl ?_
      refine jr_istore_n hC (D_X12_cheapest.g 31 rfl) (by decide) rfl ?_
      refine jr_aload_n hC (D_X12_cheapest.g 32 rfl) 1 rfl ?_
      refine jr_cVi hC cl_X12_400 ⟨rfl, by decide⟩ (D_X12_cheapest.g 33 rfl) [] h (fun r M' e => c_X12_turnAsks e) rfl rfl ⟨by decide, by decide⟩ (Nat.le_of_ble_eq_true rfl) ⟨Nat.le_of_ble_eq_true rfl, Nat.le_of_ble_eq_true rfl⟩ (fun v9 M10 h => ?_)
      refine jr_istore_n hC (D_X12_cheapest.g 34 rfl) (by decide) rfl ?_
      refine jr_pick [2, 3, 1, 0, 4] rfl ?_
      exact hj_65 y4_24 v9 M10 h
    intro j_57 hj_57 h
    refine jr_if_lt hC (D_X12_cheapest.g 24 rfl) 57 rfl h (fun h => ?_) (fun h => ?_)
    · refine jr_pick [0, 1, 4] rfl ?_
      exact hj_57 M8 h
    refine jr_aload_n hC (D_X12_cheapest.g 25 rfl) 0 rfl ?_
    refine jr_cVi hC cl_X12_400 ⟨rfl, by decide⟩ (D_X12_cheapest.g 26 rfl) [] h (fun r M' e => c_X12_turnAsks e) rfl rfl ⟨by decide, by decide⟩ (Nat.le_of_ble_eq_true rfl) ⟨Nat.le_of_ble_eq_true rfl, Nat.le_of_ble_eq_true rfl⟩ (fun v11 M12 h => ?_)
    refine jr_iload_n hC (D_X12_cheapest.g 27 rfl) 3 rfl ?_
    refine jr_icmp_lt hC (D_X12_cheapest.g 28 rfl) 57 rfl h (fun h => ?_) (fun h => ?_)
    · refine jr_pick [0, 1, 4] rfl ?_
      exact hj_57 M12 h
    refine jr_goto hC (D_X12_cheapest.g 29 rfl) 65 rfl ?_
    exact hj_65 y2_24 y3_24 M12 h
  refine jr_iload_n hC (D_X12_cheapest.g 37 rfl) 1 rfl ?_
  refine jr_if_ne hC (D_X12_cheapest.g 38 rfl) 79 rfl h (fun h => ?_) (fun h => ?_)
  · refine jr_iload_n hC (D_X12_cheapest.g 39 rfl) 2 rfl ?_
    refine jr_goto hC (D_X12_cheapest.g 40 rfl) 80 rfl ?_
    exact jr_iret hC (D_X12_cheapest.g 42 rfl) hr hE h
  refine jr_iload_n hC (D_X12_cheapest.g 41 rfl) 3 rfl ?_
  exact jr_iret hC (D_X12_cheapest.g 42 rfl) hr hE h
def f_X12_isGround (th : Nat) (x1 : Int) (M : jMem) : Option (Int × jMem) :=
jcall 12 M th (f_X12_isCell th x1 M) fun v1 M2 =>
jjq (jm_z 0 M2) fun j_21 =>
if jd_wr v1 = 0 then (j_21 )
else ((jm_gR 12 50 M2 th).bind fun r3 =>
(jm_ld 22 M2 r3 x1).bind fun v4 =>
if jd_wr v4 = 0 then (jm_z 1 M2)
else (j_21 ))
theorem D_X12_isGround : jDs cX12_isGround [(0, .aload_n 0, 1, 1), (1, .iload_n 1, 1, 2), (2, .invokevirtual 338, 3, 5), (5, .ifCond .eq 16, 3, 8), (8, .aload_n 0, 1, 9), (9, .getfield 116, 3, 12), (12, .iload_n 1, 1, 13), (13, .baload, 1, 14), (14, .ifCond .ne 7, 3, 17), (17, .iconst 1, 1, 18), (18, .goto 4, 3, 21), (21, .iconst 0, 1, 22), (22, .ireturn, 1, 23)] := by unfold jDs; decide +kernel
set_option maxRecDepth 100000 in
set_option maxHeartbeats 4000000 in
theorem c_X12_isGround {E : jE} {th : Nat} {x1 : Int} {M : jMem} {r : Int} {M' : jMem} (h : f_X12_isGround th x1 M = some (r, M')) : jMet E yX12_isGround cX12_isGround 2 (some .boolean) 4 0 0 [q_r E th, q_i x1] M (some (q_i r)) M' := by
  unfold f_X12_isGround at h
  refine jMet.of RX12 rfl (by decide +kernel) (Nat.le_of_ble_eq_true rfl) [(0, q_r E th), (1, q_i x1)] rfl (fun X hC hE hr hn => ?_)
  refine jr_aload_n hC (D_X12_isGround.g 0 rfl) 0 rfl ?_
  refine jr_iload_n hC (D_X12_isGround.g 1 rfl) 1 rfl ?_
  refine jr_cVi hC cl_X12_338 ⟨rfl, by decide⟩ (D_X12_isGround.g 2 rfl) [q_i x1] h (fun r M' e => c_X12_isCell e) rfl rfl ⟨by decide, by decide⟩ (Nat.le_of_ble_eq_true rfl) ⟨Nat.le_of_ble_eq_true rfl, Nat.le_of_ble_eq_true rfl⟩ (fun v1 M2 h => ?_)
  refine jr_join h (fun j => j = some (r, M') → JW E X 2 0 0 M2 21 [] []) ?_ ?_
  · intro  h
    refine jr_iconst hC (D_X12_isGround.g 11 rfl) ?_
    exact jr_zret hC (D_X12_isGround.g 12 rfl) hr hE h
  intro j_21 hj_21 h
  refine jr_if_eq hC (D_X12_isGround.g 3 rfl) 21 rfl h (fun h => ?_) (fun h => ?_)
  · refine jr_pick [] rfl ?_
    exact hj_21  h
  refine jr_aload_n hC (D_X12_isGround.g 4 rfl) 0 rfl ?_
  refine jr_getR hC fl_X12_116 rfl (D_X12_isGround.g 5 rfl) h (fun r3 h => ?_)
  refine jr_iload_n hC (D_X12_isGround.g 6 rfl) 1 rfl ?_
  refine jr_zald hC (D_X12_isGround.g 7 rfl) h (fun v4 h => ?_)
  refine jr_if_ne hC (D_X12_isGround.g 8 rfl) 21 rfl h (fun h => ?_) (fun h => ?_)
  · refine jr_iconst hC (D_X12_isGround.g 9 rfl) ?_
    refine jr_goto hC (D_X12_isGround.g 10 rfl) 22 rfl ?_
    exact jr_zret hC (D_X12_isGround.g 12 rfl) hr hE h
  refine jr_pick [] rfl ?_
  exact hj_21  h
def f_X12_widows (th : Nat) (x1 : Int) (x2 : Int) (M : jMem) : Option (Int × jMem) :=
jcall 12 M th (f_X12_isGround th x1 M) fun v1 M2 =>
if jd_wr v1 = 0 then (some ((-1), M2))
else (jcall 12 M2 th (f_X12_isGround th x2 M2) fun v3 M4 =>
if jd_wr v3 = 0 then (some ((-1), M4))
else (if jd_wr x1 = jd_wr x2 then (some ((-1), M4))
else (jcall 12 M4 th (f_X12_closesHoles th M4) fun _ M6 =>
(jm_gR 12 57 M6 th).bind fun r7 =>
(jm_st 22 M6 r7 x1 (jd_z 1)).bind fun M8 =>
(jm_gR 12 57 M8 th).bind fun r9 =>
(jm_st 22 M8 r9 x2 (jd_z 1)).bind fun M10 =>
jcall 12 M10 th (f_X12_counts th 0 M10) fun v11 M12 =>
some (v11, M12))))
theorem D_X12_widows : jDs cX12_widows [(0, .aload_n 0, 1, 1), (1, .iload_n 1, 1, 2), (2, .invokevirtual 485, 3, 5), (5, .ifCond .eq 16, 3, 8), (8, .aload_n 0, 1, 9), (9, .iload_n 2, 1, 10), (10, .invokevirtual 485, 3, 13), (13, .ifCond .eq 8, 3, 16), (16, .iload_n 1, 1, 17), (17, .iload_n 2, 1, 18), (18, .if_icmp .ne 5, 3, 21), (21, .iconst (-1), 1, 22), (22, .ireturn, 1, 23), (23, .aload_n 0, 1, 24), (24, .invokevirtual 426, 3, 27), (27, .aload_n 0, 1, 28), (28, .getfield 134, 3, 31), (31, .iload_n 1, 1, 32), (32, .iconst 1, 1, 33), (33, .bastore, 1, 34), (34, .aload_n 0, 1, 35), (35, .getfield 134, 3, 38), (38, .iload_n 2, 1, 39), (39, .iconst 1, 1, 40), (40, .bastore, 1, 41), (41, .aload_n 0, 1, 42), (42, .iconst 0, 1, 43), (43, .invokevirtual 429, 3, 46), (46, .ireturn, 1, 47)] := by unfold jDs; decide +kernel
set_option maxRecDepth 100000 in
set_option maxHeartbeats 4000000 in
theorem c_X12_widows {E : jE} {th : Nat} {x1 : Int} {x2 : Int} {M : jMem} {r : Int} {M' : jMem} (h : f_X12_widows th x1 x2 M = some (r, M')) : jMet E yX12_widows cX12_widows 3 (some .int) 7 0 0 [q_r E th, q_i x1, q_i x2] M (some (q_i r)) M' := by
  unfold f_X12_widows at h
  refine jMet.of RX12 rfl (by decide +kernel) (Nat.le_of_ble_eq_true rfl) [(0, q_r E th), (1, q_i x1), (2, q_i x2)] rfl (fun X hC hE hr hn => ?_)
  refine jr_aload_n hC (D_X12_widows.g 0 rfl) 0 rfl ?_
  refine jr_iload_n hC (D_X12_widows.g 1 rfl) 1 rfl ?_
  refine jr_cVi hC cl_X12_485 ⟨rfl, by decide⟩ (D_X12_widows.g 2 rfl) [q_i x1] h (fun r M' e => c_X12_isGround e) rfl rfl ⟨by decide, by decide⟩ (Nat.le_of_ble_eq_true rfl) ⟨Nat.le_of_ble_eq_true rfl, Nat.le_of_ble_eq_true rfl⟩ (fun v1 M2 h => ?_)
  refine jr_if_eq hC (D_X12_widows.g 3 rfl) 21 rfl h (fun h => ?_) (fun h => ?_)
  · refine jr_iconst hC (D_X12_widows.g 11 rfl) ?_
    exact jr_iret hC (D_X12_widows.g 12 rfl) hr hE h
  refine jr_aload_n hC (D_X12_widows.g 4 rfl) 0 rfl ?_
  refine jr_iload_n hC (D_X12_widows.g 5 rfl) 2 rfl ?_
  refine jr_cVi hC cl_X12_485 ⟨rfl, by decide⟩ (D_X12_widows.g 6 rfl) [q_i x2] h (fun r M' e => c_X12_isGround e) rfl rfl ⟨by decide, by decide⟩ (Nat.le_of_ble_eq_true rfl) ⟨Nat.le_of_ble_eq_true rfl, Nat.le_of_ble_eq_true rfl⟩ (fun v3 M4 h => ?_)
  refine jr_if_eq hC (D_X12_widows.g 7 rfl) 21 rfl h (fun h => ?_) (fun h => ?_)
  · refine jr_iconst hC (D_X12_widows.g 11 rfl) ?_
    exact jr_iret hC (D_X12_widows.g 12 rfl) hr hE h
  refine jr_iload_n hC (D_X12_widows.g 8 rfl) 1 rfl ?_
  refine jr_iload_n hC (D_X12_widows.g 9 rfl) 2 rfl ?_
  refine jr_icmp_ne hC (D_X12_widows.g 10 rfl) 23 rfl h (fun h => ?_) (fun h => ?_)
  · refine jr_iconst hC (D_X12_widows.g 11 rfl) ?_
    exact jr_iret hC (D_X12_widows.g 12 rfl) hr hE h
  refine jr_aload_n hC (D_X12_widows.g 13 rfl) 0 rfl ?_
  refine jr_cVv hC cl_X12_426 ⟨rfl, by decide⟩ (D_X12_widows.g 14 rfl) [] h (fun r M' e => c_X12_closesHoles e) rfl rfl ⟨by decide, by decide⟩ (Nat.le_of_ble_eq_true rfl) ⟨Nat.le_of_ble_eq_true rfl, Nat.le_of_ble_eq_true rfl⟩ (fun _ M6 h => ?_)
  refine jr_aload_n hC (D_X12_widows.g 15 rfl) 0 rfl ?_
  refine jr_getR hC fl_X12_134 rfl (D_X12_widows.g 16 rfl) h (fun r7 h => ?_)
  refine jr_iload_n hC (D_X12_widows.g 17 rfl) 1 rfl ?_
  refine jr_iconst hC (D_X12_widows.g 18 rfl) ?_
  refine jr_zast hC (D_X12_widows.g 19 rfl) h (fun M8 _ h => ?_)
  refine jr_aload_n hC (D_X12_widows.g 20 rfl) 0 rfl ?_
  refine jr_getR hC fl_X12_134 rfl (D_X12_widows.g 21 rfl) h (fun r9 h => ?_)
  refine jr_iload_n hC (D_X12_widows.g 22 rfl) 2 rfl ?_
  refine jr_iconst hC (D_X12_widows.g 23 rfl) ?_
  refine jr_zast hC (D_X12_widows.g 24 rfl) h (fun M10 _ h => ?_)
  refine jr_aload_n hC (D_X12_widows.g 25 rfl) 0 rfl ?_
  refine jr_iconst hC (D_X12_widows.g 26 rfl) ?_
  refine jr_cVi hC cl_X12_429 ⟨rfl, by decide⟩ (D_X12_widows.g 27 rfl) [q_i 0] h (fun r M' e => c_X12_counts e) rfl rfl ⟨by decide, by decide⟩ (Nat.le_of_ble_eq_true rfl) ⟨Nat.le_of_ble_eq_true rfl, Nat.le_of_ble_eq_true rfl⟩ (fun v11 M12 h => ?_)
  exact jr_iret hC (D_X12_widows.g 28 rfl) hr hE h
def f_X12_then (th : Nat) (x1 : Int) (x2 : Int) (M : jMem) : Option (Int × jMem) :=
jjq (fun (M_13 : jMem) =>
jbd (f_X12_isLong x2 M_13) fun v1 M2 =>
if jd_wr v1 = 0 then (some ((-1), M2))
else (jcall 12 M2 th (f_X12_copies th M2) fun _ M4 =>
jcall 12 M4 th (f_X12_goes th x2 M4) fun _ M6 =>
if jd_wr x1 = jd_wr (-1) then (jcall 12 M6 th (f_X12_stoneMany th M6) fun v7 M8 =>
some (v7, M8))
else (jcall 12 M6 th (f_X12_coupleAt th x1 M6) fun v9 M10 =>
if jd_wr v9 < 0 then (some (0, M10))
else (some (1, M10))))) fun j_13 =>
if jd_wr x1 = jd_wr (-1) then (j_13 M)
else (jcall 12 M th (f_X12_isCell th x1 M) fun v11 M12 =>
if jd_wr v11 = 0 then (some ((-1), M12))
else (j_13 M12))
theorem D_X12_then : jDs cX12_then [(0, .iload_n 1, 1, 1), (1, .iconst (-1), 1, 2), (2, .if_icmp .eq 11, 3, 5), (5, .aload_n 0, 1, 6), (6, .iload_n 1, 1, 7), (7, .invokevirtual 338, 3, 10), (10, .ifCond .eq 10, 3, 13), (13, .iload_n 2, 1, 14), (14, .invokestatic 403, 3, 17), (17, .ifCond .ne 5, 3, 20), (20, .iconst (-1), 1, 21), (21, .ireturn, 1, 22), (22, .aload_n 0, 1, 23), (23, .invokevirtual 385, 3, 26), (26, .aload_n 0, 1, 27), (27, .iload_n 2, 1, 28), (28, .invokevirtual 406, 3, 31), (31, .iload_n 1, 1, 32), (32, .iconst (-1), 1, 33), (33, .if_icmp .ne 10, 3, 36), (36, .aload_n 0, 1, 37), (37, .invokevirtual 344, 3, 40), (40, .goto 16, 3, 43), (43, .aload_n 0, 1, 44), (44, .iload_n 1, 1, 45), (45, .invokevirtual 341, 3, 48), (48, .ifCond .lt 7, 3, 51), (51, .iconst 1, 1, 52), (52, .goto 4, 3, 55), (55, .iconst 0, 1, 56), (56, .ireturn, 1, 57)] := by unfold jDs; decide +kernel
set_option maxRecDepth 100000 in
set_option maxHeartbeats 4000000 in
theorem c_X12_then {E : jE} {th : Nat} {x1 : Int} {x2 : Int} {M : jMem} {r : Int} {M' : jMem} (h : f_X12_then th x1 x2 M = some (r, M')) : jMet E yX12_then cX12_then 3 (some .int) 8 0 0 [q_r E th, q_i x1, q_i x2] M (some (q_i r)) M' := by
  unfold f_X12_then at h
  refine jMet.of RX12 rfl (by decide +kernel) (Nat.le_of_ble_eq_true rfl) [(0, q_r E th), (1, q_i x1), (2, q_i x2)] rfl (fun X hC hE hr hn => ?_)
  refine jr_iload_n hC (D_X12_then.g 0 rfl) 1 rfl ?_
  refine jr_iconst hC (D_X12_then.g 1 rfl) ?_
  refine jr_join h (fun j => ∀ (M_13 : jMem), j M_13 = some (r, M') → JW E X 3 0 0 M_13 13 [(0, q_r E th), (1, q_i x1), (2, q_i x2)] []) ?_ ?_
  · intro M_13 h
    refine jr_iload_n hC (D_X12_then.g 7 rfl) 2 rfl ?_
    refine jr_cSi hC cl_X12_403 (D_X12_then.g 8 rfl) [q_i x2] h (fun r M' e => c_X12_isLong e) rfl rfl ⟨by decide, by decide⟩ (Nat.le_of_ble_eq_true rfl) ⟨Nat.le_of_ble_eq_true rfl, Nat.le_of_ble_eq_true rfl⟩ (fun v1 M2 h => ?_)
    refine jr_if_ne hC (D_X12_then.g 9 rfl) 22 rfl h (fun h => ?_) (fun h => ?_)
    · refine jr_iconst hC (D_X12_then.g 10 rfl) ?_
      exact jr_iret hC (D_X12_then.g 11 rfl) hr hE h
    refine jr_aload_n hC (D_X12_then.g 12 rfl) 0 rfl ?_
    refine jr_cVv hC cl_X12_385 ⟨rfl, by decide⟩ (D_X12_then.g 13 rfl) [] h (fun r M' e => c_X12_copies e) rfl rfl ⟨by decide, by decide⟩ (Nat.le_of_ble_eq_true rfl) ⟨Nat.le_of_ble_eq_true rfl, Nat.le_of_ble_eq_true rfl⟩ (fun _ M4 h => ?_)
    refine jr_aload_n hC (D_X12_then.g 14 rfl) 0 rfl ?_
    refine jr_iload_n hC (D_X12_then.g 15 rfl) 2 rfl ?_
    refine jr_cVv hC cl_X12_406 ⟨rfl, by decide⟩ (D_X12_then.g 16 rfl) [q_i x2] h (fun r M' e => c_X12_goes e) rfl rfl ⟨by decide, by decide⟩ (Nat.le_of_ble_eq_true rfl) ⟨Nat.le_of_ble_eq_true rfl, Nat.le_of_ble_eq_true rfl⟩ (fun _ M6 h => ?_)
    refine jr_iload_n hC (D_X12_then.g 17 rfl) 1 rfl ?_
    refine jr_iconst hC (D_X12_then.g 18 rfl) ?_
    refine jr_icmp_ne hC (D_X12_then.g 19 rfl) 43 rfl h (fun h => ?_) (fun h => ?_)
    · refine jr_aload_n hC (D_X12_then.g 20 rfl) 0 rfl ?_
      refine jr_cVi hC cl_X12_344 ⟨rfl, by decide⟩ (D_X12_then.g 21 rfl) [] h (fun r M' e => c_X12_stoneMany e) rfl rfl ⟨by decide, by decide⟩ (Nat.le_of_ble_eq_true rfl) ⟨Nat.le_of_ble_eq_true rfl, Nat.le_of_ble_eq_true rfl⟩ (fun v7 M8 h => ?_)
      refine jr_goto hC (D_X12_then.g 22 rfl) 56 rfl ?_
      exact jr_iret hC (D_X12_then.g 30 rfl) hr hE h
    refine jr_aload_n hC (D_X12_then.g 23 rfl) 0 rfl ?_
    refine jr_iload_n hC (D_X12_then.g 24 rfl) 1 rfl ?_
    refine jr_cVi hC cl_X12_341 ⟨rfl, by decide⟩ (D_X12_then.g 25 rfl) [q_i x1] h (fun r M' e => c_X12_coupleAt e) rfl rfl ⟨by decide, by decide⟩ (Nat.le_of_ble_eq_true rfl) ⟨Nat.le_of_ble_eq_true rfl, Nat.le_of_ble_eq_true rfl⟩ (fun v9 M10 h => ?_)
    refine jr_if_lt hC (D_X12_then.g 26 rfl) 55 rfl h (fun h => ?_) (fun h => ?_)
    · refine jr_iconst hC (D_X12_then.g 29 rfl) ?_
      exact jr_iret hC (D_X12_then.g 30 rfl) hr hE h
    refine jr_iconst hC (D_X12_then.g 27 rfl) ?_
    refine jr_goto hC (D_X12_then.g 28 rfl) 56 rfl ?_
    exact jr_iret hC (D_X12_then.g 30 rfl) hr hE h
  intro j_13 hj_13 h
  refine jr_icmp_eq hC (D_X12_then.g 2 rfl) 13 rfl h (fun h => ?_) (fun h => ?_)
  · exact hj_13 M h
  refine jr_aload_n hC (D_X12_then.g 3 rfl) 0 rfl ?_
  refine jr_iload_n hC (D_X12_then.g 4 rfl) 1 rfl ?_
  refine jr_cVi hC cl_X12_338 ⟨rfl, by decide⟩ (D_X12_then.g 5 rfl) [q_i x1] h (fun r M' e => c_X12_isCell e) rfl rfl ⟨by decide, by decide⟩ (Nat.le_of_ble_eq_true rfl) ⟨Nat.le_of_ble_eq_true rfl, Nat.le_of_ble_eq_true rfl⟩ (fun v11 M12 h => ?_)
  refine jr_if_eq hC (D_X12_then.g 6 rfl) 20 rfl h (fun h => ?_) (fun h => ?_)
  · refine jr_iconst hC (D_X12_then.g 10 rfl) ?_
    exact jr_iret hC (D_X12_then.g 11 rfl) hr hE h
  exact hj_13 M12 h
def f_X12_year (th : Nat) (x1 : Int) (x2 : Int) (M : jMem) : Option (Int × jMem) :=
jbd (f_X12_isLong x1 M) fun v1 M2 =>
if jd_wr v1 = 0 then (some ((-1), M2))
else (jbd (f_X12_in x2 1 20 M2) fun v3 M4 =>
if jd_wr v3 = 0 then (some ((-1), M4))
else (jlp3 (fun rec_24 (y3_24 : Int) (y4_24 : Int) (M_24 : jMem) =>
if jd_wr y4_24 < jd_wr x2 then (jcall 12 M_24 th (f_X12_copies th M_24) fun _ M6 =>
(jm_gI 12 49 M6 th).bind fun v7 =>
(jm_pI 12 49 M6 th (v7 + y4_24)).bind fun M8 =>
jcall 12 M8 th (f_X12_goes th x1 M8) fun _ M10 =>
(jm_gR 12 48 M10 th).bind fun r11 =>
(jm_ld 20 M10 r11 74).bind fun v12 =>
(jm_gR 12 47 M10 th).bind fun r13 =>
(jm_ld 20 M10 r13 74).bind fun v14 =>
jjq (fun (y3_70 : Int) =>
rec_24 y3_70 (y4_24 + 1) M10) fun j_70 =>
if jd_wr v12 = jd_wr v14 then (j_70 (y3_24 + 1))
else (j_70 y3_24))
else (some (y3_24, M_24))) jfuel 0 0 M4))
theorem D_X12_year : jDs cX12_year [(0, .iload_n 1, 1, 1), (1, .invokestatic 403, 3, 4), (4, .ifCond .eq 13, 3, 7), (7, .iload_n 2, 1, 8), (8, .iconst 1, 1, 9), (9, .bipush 20, 2, 11), (11, .invokestatic 318, 3, 14), (14, .ifCond .ne 5, 3, 17), (17, .iconst (-1), 1, 18), (18, .ireturn, 1, 19), (19, .iconst 0, 1, 20), (20, .istore_n 3, 1, 21), (21, .iconst 0, 1, 22), (22, .istore 4, 2, 24), (24, .iload 4, 2, 26), (26, .iload_n 2, 1, 27), (27, .if_icmp .ge 49, 3, 30), (30, .aload_n 0, 1, 31), (31, .invokevirtual 385, 3, 34), (34, .aload_n 0, 1, 35), (35, .dup, 1, 36), (36, .getfield 325, 3, 39), (39, .iload 4, 2, 41), (41, .iadd, 1, 42), (42, .putfield 325, 3, 45), (45, .aload_n 0, 1, 46), (46, .iload_n 1, 1, 47), (47, .invokevirtual 406, 3, 50), (50, .aload_n 0, 1, 51), (51, .getfield 113, 3, 54), (54, .bipush 74, 2, 56), (56, .iaload, 1, 57), (57, .aload_n 0, 1, 58), (58, .getfield 110, 3, 61), (61, .bipush 74, 2, 63), (63, .iaload, 1, 64), (64, .if_icmp .ne 6, 3, 67), (67, .iinc 3 1, 3, 70), (70, .iinc 4 1, 3, 73), (73, .goto (-49), 3, 76), (76, .iload_n 3, 1, 77), (77, .ireturn, 1, 78)] := by unfold jDs; decide +kernel
set_option maxRecDepth 100000 in
set_option maxHeartbeats 4000000 in
theorem c_X12_year {E : jE} {th : Nat} {x1 : Int} {x2 : Int} {M : jMem} {r : Int} {M' : jMem} (h : f_X12_year th x1 x2 M = some (r, M')) : jMet E yX12_year cX12_year 5 (some .int) 8 0 0 [q_r E th, q_i x1, q_i x2] M (some (q_i r)) M' := by
  unfold f_X12_year at h
  refine jMet.of RX12 rfl (by decide +kernel) (Nat.le_of_ble_eq_true rfl) [(0, q_r E th), (1, q_i x1), (2, q_i x2)] rfl (fun X hC hE hr hn => ?_)
  refine jr_iload_n hC (D_X12_year.g 0 rfl) 1 rfl ?_
  refine jr_cSi hC cl_X12_403 (D_X12_year.g 1 rfl) [q_i x1] h (fun r M' e => c_X12_isLong e) rfl rfl ⟨by decide, by decide⟩ (Nat.le_of_ble_eq_true rfl) ⟨Nat.le_of_ble_eq_true rfl, Nat.le_of_ble_eq_true rfl⟩ (fun v1 M2 h => ?_)
  refine jr_if_eq hC (D_X12_year.g 2 rfl) 17 rfl h (fun h => ?_) (fun h => ?_)
  · refine jr_iconst hC (D_X12_year.g 8 rfl) ?_
    exact jr_iret hC (D_X12_year.g 9 rfl) hr hE h
  refine jr_iload_n hC (D_X12_year.g 3 rfl) 2 rfl ?_
  refine jr_iconst hC (D_X12_year.g 4 rfl) ?_
  refine jr_bipush hC (D_X12_year.g 5 rfl) bp_20 ?_
  refine jr_cSi hC cl_X12_318 (D_X12_year.g 6 rfl) [q_i x2, q_i 1, q_i 20] h (fun r M' e => c_X12_in e) rfl rfl ⟨by decide, by decide⟩ (Nat.le_of_ble_eq_true rfl) ⟨Nat.le_of_ble_eq_true rfl, Nat.le_of_ble_eq_true rfl⟩ (fun v3 M4 h => ?_)
  refine jr_if_ne hC (D_X12_year.g 7 rfl) 19 rfl h (fun h => ?_) (fun h => ?_)
  · refine jr_iconst hC (D_X12_year.g 8 rfl) ?_
    exact jr_iret hC (D_X12_year.g 9 rfl) hr hE h
  refine jr_iconst hC (D_X12_year.g 10 rfl) ?_
  refine jr_istore_n hC (D_X12_year.g 11 rfl) (by decide) rfl ?_
  refine jr_iconst hC (D_X12_year.g 12 rfl) ?_
  refine jr_istore hC (D_X12_year.g 13 rfl) (by decide) rfl ?_
  refine jr_pick [2, 3, 4, 1, 0] rfl ?_
  refine jr_lp3 (fun (y3_24 : Int) (y4_24 : Int) (M_24 : jMem) => JW E X 5 0 0 M_24 24 [(0, q_r E th), (1, q_i x1), (2, q_i x2), (3, q_i y3_24), (4, q_i y4_24)] []) ?_ jfuel 0 0 M4 h
  intro rec_24 hrec_24 y3_24 y4_24 M_24 h
  refine jr_iload hC (D_X12_year.g 14 rfl) 4 rfl ?_
  refine jr_iload_n hC (D_X12_year.g 15 rfl) 2 rfl ?_
  refine jr_icmp_ge hC (D_X12_year.g 16 rfl) 76 rfl h (fun h => ?_) (fun h => ?_)
  · refine jr_aload_n hC (D_X12_year.g 17 rfl) 0 rfl ?_
    refine jr_cVv hC cl_X12_385 ⟨rfl, by decide⟩ (D_X12_year.g 18 rfl) [] h (fun r M' e => c_X12_copies e) rfl rfl ⟨by decide, by decide⟩ (Nat.le_of_ble_eq_true rfl) ⟨Nat.le_of_ble_eq_true rfl, Nat.le_of_ble_eq_true rfl⟩ (fun _ M6 h => ?_)
    refine jr_aload_n hC (D_X12_year.g 19 rfl) 0 rfl ?_
    refine jr_dup hC (D_X12_year.g 20 rfl) rfl ?_
    refine jr_getI hC fl_X12_325 rfl (D_X12_year.g 21 rfl) h (fun v7 h => ?_)
    refine jr_iload hC (D_X12_year.g 22 rfl) 4 rfl ?_
    refine jr_iadd hC (D_X12_year.g 23 rfl) ?_
    refine jr_putI hC fl_X12_325 rfl (jnfin rfl) (D_X12_year.g 24 rfl) h (fun M8 _ h => ?_)
    refine jr_aload_n hC (D_X12_year.g 25 rfl) 0 rfl ?_
    refine jr_iload_n hC (D_X12_year.g 26 rfl) 1 rfl ?_
    refine jr_cVv hC cl_X12_406 ⟨rfl, by decide⟩ (D_X12_year.g 27 rfl) [q_i x1] h (fun r M' e => c_X12_goes e) rfl rfl ⟨by decide, by decide⟩ (Nat.le_of_ble_eq_true rfl) ⟨Nat.le_of_ble_eq_true rfl, Nat.le_of_ble_eq_true rfl⟩ (fun _ M10 h => ?_)
    refine jr_aload_n hC (D_X12_year.g 28 rfl) 0 rfl ?_
    refine jr_getR hC fl_X12_113 rfl (D_X12_year.g 29 rfl) h (fun r11 h => ?_)
    refine jr_bipush hC (D_X12_year.g 30 rfl) bp_74 ?_
    refine jr_iald hC (D_X12_year.g 31 rfl) h (fun v12 h => ?_)
    refine jr_aload_n hC (D_X12_year.g 32 rfl) 0 rfl ?_
    refine jr_getR hC fl_X12_110 rfl (D_X12_year.g 33 rfl) h (fun r13 h => ?_)
    refine jr_bipush hC (D_X12_year.g 34 rfl) bp_74 ?_
    refine jr_iald hC (D_X12_year.g 35 rfl) h (fun v14 h => ?_)
    refine jr_join h (fun j => ∀ (y3_70 : Int), j y3_70 = some (r, M') → JW E X 5 0 0 M10 70 [(0, q_r E th), (1, q_i x1), (2, q_i x2), (3, q_i y3_70), (4, q_i y4_24)] []) ?_ ?_
    · intro y3_70 h
      refine jr_iinc hC (D_X12_year.g 38 rfl) 4 rfl (by decide) rfl ?_
      refine jr_goto hC (D_X12_year.g 39 rfl) 24 rfl ?_
      refine jr_pick [1, 2, 3, 4, 0] rfl ?_
      exact hrec_24 y3_70 (y4_24 + 1) M10 h
    intro j_70 hj_70 h
    refine jr_icmp_ne hC (D_X12_year.g 36 rfl) 70 rfl h (fun h => ?_) (fun h => ?_)
    · refine jr_iinc hC (D_X12_year.g 37 rfl) 3 rfl (by decide) rfl ?_
      refine jr_pick [1, 2, 3, 0, 4] rfl ?_
      exact hj_70 (y3_24 + 1) h
    exact hj_70 y3_24 h
  refine jr_iload_n hC (D_X12_year.g 40 rfl) 3 rfl ?_
  exact jr_iret hC (D_X12_year.g 41 rfl) hr hE h
def f_X12_tell (th : Nat) (x1 : Int) (x2 : Int) (M : jMem) : Option (Int × jMem) :=
(jm_gI 12 63 M th).bind fun v1 =>
if jd_wr v1 = jd_wr 20 then (some ((-1), M))
else (jcall 12 M th (f_X12_isGround th x1 M) fun v2 M3 =>
if jd_wr v2 = 0 then (some ((-1), M3))
else ((jm_gR 12 64 M3 th).bind fun r4 =>
(jm_gI 12 63 M3 th).bind fun v5 =>
(jm_st 20 M3 r4 v5 x1).bind fun M6 =>
(jm_gR 12 65 M6 th).bind fun r7 =>
(jm_gI 12 63 M6 th).bind fun v8 =>
(jm_st 22 M6 r7 v8 (jd_z x2)).bind fun M9 =>
(jm_gI 12 63 M9 th).bind fun v10 =>
(jm_pI 12 63 M9 th (v10 + 1)).bind fun M11 =>
(jm_gI 12 63 M11 th).bind fun v12 =>
some ((v12 - 1), M11)))
theorem D_X12_tell : jDs cX12_tell [(0, .aload_n 0, 1, 1), (1, .getfield 271, 3, 4), (4, .bipush 20, 2, 6), (6, .if_icmp .eq 11, 3, 9), (9, .aload_n 0, 1, 10), (10, .iload_n 1, 1, 11), (11, .invokevirtual 485, 3, 14), (14, .ifCond .ne 5, 3, 17), (17, .iconst (-1), 1, 18), (18, .ireturn, 1, 19), (19, .aload_n 0, 1, 20), (20, .getfield 152, 3, 23), (23, .aload_n 0, 1, 24), (24, .getfield 271, 3, 27), (27, .iload_n 1, 1, 28), (28, .iastore, 1, 29), (29, .aload_n 0, 1, 30), (30, .getfield 155, 3, 33), (33, .aload_n 0, 1, 34), (34, .getfield 271, 3, 37), (37, .iload_n 2, 1, 38), (38, .bastore, 1, 39), (39, .aload_n 0, 1, 40), (40, .dup, 1, 41), (41, .getfield 271, 3, 44), (44, .iconst 1, 1, 45), (45, .iadd, 1, 46), (46, .putfield 271, 3, 49), (49, .aload_n 0, 1, 50), (50, .getfield 271, 3, 53), (53, .iconst 1, 1, 54), (54, .isub, 1, 55), (55, .ireturn, 1, 56)] := by unfold jDs; decide +kernel
set_option maxRecDepth 100000 in
set_option maxHeartbeats 4000000 in
theorem c_X12_tell {E : jE} {th : Nat} {x1 : Int} {x2 : Int} {M : jMem} {r : Int} {M' : jMem} (h : f_X12_tell th x1 x2 M = some (r, M')) : jMet E yX12_tell cX12_tell 3 (some .int) 5 0 0 [q_r E th, q_i x1, q_i x2] M (some (q_i r)) M' := by
  unfold f_X12_tell at h
  refine jMet.of RX12 rfl (by decide +kernel) (Nat.le_of_ble_eq_true rfl) [(0, q_r E th), (1, q_i x1), (2, q_i x2)] rfl (fun X hC hE hr hn => ?_)
  refine jr_aload_n hC (D_X12_tell.g 0 rfl) 0 rfl ?_
  refine jr_getI hC fl_X12_271 rfl (D_X12_tell.g 1 rfl) h (fun v1 h => ?_)
  refine jr_bipush hC (D_X12_tell.g 2 rfl) bp_20 ?_
  refine jr_icmp_eq hC (D_X12_tell.g 3 rfl) 17 rfl h (fun h => ?_) (fun h => ?_)
  · refine jr_iconst hC (D_X12_tell.g 8 rfl) ?_
    exact jr_iret hC (D_X12_tell.g 9 rfl) hr hE h
  refine jr_aload_n hC (D_X12_tell.g 4 rfl) 0 rfl ?_
  refine jr_iload_n hC (D_X12_tell.g 5 rfl) 1 rfl ?_
  refine jr_cVi hC cl_X12_485 ⟨rfl, by decide⟩ (D_X12_tell.g 6 rfl) [q_i x1] h (fun r M' e => c_X12_isGround e) rfl rfl ⟨by decide, by decide⟩ (Nat.le_of_ble_eq_true rfl) ⟨Nat.le_of_ble_eq_true rfl, Nat.le_of_ble_eq_true rfl⟩ (fun v2 M3 h => ?_)
  refine jr_if_ne hC (D_X12_tell.g 7 rfl) 19 rfl h (fun h => ?_) (fun h => ?_)
  · refine jr_iconst hC (D_X12_tell.g 8 rfl) ?_
    exact jr_iret hC (D_X12_tell.g 9 rfl) hr hE h
  refine jr_aload_n hC (D_X12_tell.g 10 rfl) 0 rfl ?_
  refine jr_getR hC fl_X12_152 rfl (D_X12_tell.g 11 rfl) h (fun r4 h => ?_)
  refine jr_aload_n hC (D_X12_tell.g 12 rfl) 0 rfl ?_
  refine jr_getI hC fl_X12_271 rfl (D_X12_tell.g 13 rfl) h (fun v5 h => ?_)
  refine jr_iload_n hC (D_X12_tell.g 14 rfl) 1 rfl ?_
  refine jr_iast hC (D_X12_tell.g 15 rfl) h (fun M6 _ h => ?_)
  refine jr_aload_n hC (D_X12_tell.g 16 rfl) 0 rfl ?_
  refine jr_getR hC fl_X12_155 rfl (D_X12_tell.g 17 rfl) h (fun r7 h => ?_)
  refine jr_aload_n hC (D_X12_tell.g 18 rfl) 0 rfl ?_
  refine jr_getI hC fl_X12_271 rfl (D_X12_tell.g 19 rfl) h (fun v8 h => ?_)
  refine jr_iload_n hC (D_X12_tell.g 20 rfl) 2 rfl ?_
  refine jr_zast hC (D_X12_tell.g 21 rfl) h (fun M9 _ h => ?_)
  refine jr_aload_n hC (D_X12_tell.g 22 rfl) 0 rfl ?_
  refine jr_dup hC (D_X12_tell.g 23 rfl) rfl ?_
  refine jr_getI hC fl_X12_271 rfl (D_X12_tell.g 24 rfl) h (fun v10 h => ?_)
  refine jr_iconst hC (D_X12_tell.g 25 rfl) ?_
  refine jr_iadd hC (D_X12_tell.g 26 rfl) ?_
  refine jr_putI hC fl_X12_271 rfl (jnfin rfl) (D_X12_tell.g 27 rfl) h (fun M11 _ h => ?_)
  refine jr_aload_n hC (D_X12_tell.g 28 rfl) 0 rfl ?_
  refine jr_getI hC fl_X12_271 rfl (D_X12_tell.g 29 rfl) h (fun v12 h => ?_)
  refine jr_iconst hC (D_X12_tell.g 30 rfl) ?_
  refine jr_isub hC (D_X12_tell.g 31 rfl) ?_
  exact jr_iret hC (D_X12_tell.g 32 rfl) hr hE h
def f_X12_forget (th : Nat) (M : jMem) : Option (Int × jMem) :=
(jm_gI 12 63 M th).bind fun v1 =>
(jm_pI 12 63 M th 0).bind fun M2 =>
some (v1, M2)
theorem D_X12_forget : jDs cX12_forget [(0, .aload_n 0, 1, 1), (1, .getfield 271, 3, 4), (4, .istore_n 1, 1, 5), (5, .aload_n 0, 1, 6), (6, .iconst 0, 1, 7), (7, .putfield 271, 3, 10), (10, .iload_n 1, 1, 11), (11, .ireturn, 1, 12)] := by unfold jDs; decide +kernel
set_option maxRecDepth 100000 in
set_option maxHeartbeats 4000000 in
theorem c_X12_forget {E : jE} {th : Nat} {M : jMem} {r : Int} {M' : jMem} (h : f_X12_forget th M = some (r, M')) : jMet E yX12_forget cX12_forget 2 (some .int) 2 0 0 [q_r E th] M (some (q_i r)) M' := by
  unfold f_X12_forget at h
  refine jMet.of RX12 rfl (by decide +kernel) (Nat.le_of_ble_eq_true rfl) [(0, q_r E th)] rfl (fun X hC hE hr hn => ?_)
  refine jr_aload_n hC (D_X12_forget.g 0 rfl) 0 rfl ?_
  refine jr_getI hC fl_X12_271 rfl (D_X12_forget.g 1 rfl) h (fun v1 h => ?_)
  refine jr_istore_n hC (D_X12_forget.g 2 rfl) (by decide) rfl ?_
  refine jr_aload_n hC (D_X12_forget.g 3 rfl) 1 rfl ?_
  refine jr_iconst hC (D_X12_forget.g 4 rfl) ?_
  refine jr_putI hC fl_X12_271 rfl (jnfin rfl) (D_X12_forget.g 5 rfl) h (fun M2 _ h => ?_)
  refine jr_iload_n hC (D_X12_forget.g 6 rfl) 0 rfl ?_
  exact jr_iret hC (D_X12_forget.g 7 rfl) hr hE h
def f_X12_countsTold (th : Nat) (x1 : Int) (M : jMem) : Option (Int × jMem) :=
jcall 12 M th (f_X12_closesHoles th M) fun _ M2 =>
jlp2 (fun rec_6 (y2_6 : Int) (M_6 : jMem) =>
if jd_wr y2_6 < jd_wr 36 then ((jm_gR 12 58 M_6 th).bind fun r3 =>
(jm_st 22 M_6 r3 y2_6 (jd_z 0)).bind fun M4 =>
(jm_gR 12 59 M4 th).bind fun r5 =>
(jm_st 22 M4 r5 y2_6 (jd_z 0)).bind fun M6 =>
rec_6 (y2_6 + 1) M6)
else (jlp2 (fun rec_34 (y2_34 : Int) (M_34 : jMem) =>
if jd_wr y2_34 < jd_wr x1 then ((jm_gR 12 65 M_34 th).bind fun r7 =>
(jm_ld 22 M_34 r7 y2_34).bind fun v8 =>
jjq (fun (M_75 : jMem) =>
rec_34 (y2_34 + 1) M_75) fun j_75 =>
if jd_wr v8 = 0 then ((jm_gR 12 58 M_34 th).bind fun r9 =>
(jm_gR 12 64 M_34 th).bind fun r10 =>
(jm_ld 20 M_34 r10 y2_34).bind fun v11 =>
(jm_st 22 M_34 r9 v11 (jd_z 1)).bind fun M12 =>
j_75 M12)
else ((jm_gR 12 59 M_34 th).bind fun r13 =>
(jm_gR 12 64 M_34 th).bind fun r14 =>
(jm_ld 20 M_34 r14 y2_34).bind fun v15 =>
(jm_st 22 M_34 r13 v15 (jd_z 1)).bind fun M16 =>
j_75 M16))
else (jcall 12 M_34 th (f_X12_counts th 1 M_34) fun v17 M18 =>
some (v17, M18))) jfuel 0 M_6)) jfuel 0 M2
theorem D_X12_countsTold : jDs cX12_countsTold [(0, .aload_n 0, 1, 1), (1, .invokevirtual 426, 3, 4), (4, .iconst 0, 1, 5), (5, .istore_n 2, 1, 6), (6, .iload_n 2, 1, 7), (7, .bipush 36, 2, 9), (9, .if_icmp .ge 23, 3, 12), (12, .aload_n 0, 1, 13), (13, .getfield 137, 3, 16), (16, .iload_n 2, 1, 17), (17, .iconst 0, 1, 18), (18, .bastore, 1, 19), (19, .aload_n 0, 1, 20), (20, .getfield 140, 3, 23), (23, .iload_n 2, 1, 24), (24, .iconst 0, 1, 25), (25, .bastore, 1, 26), (26, .iinc 2 1, 3, 29), (29, .goto (-23), 3, 32), (32, .iconst 0, 1, 33), (33, .istore_n 2, 1, 34), (34, .iload_n 2, 1, 35), (35, .iload_n 1, 1, 36), (36, .if_icmp .ge 45, 3, 39), (39, .aload_n 0, 1, 40), (40, .getfield 155, 3, 43), (43, .iload_n 2, 1, 44), (44, .baload, 1, 45), (45, .ifCond .eq 18, 3, 48), (48, .aload_n 0, 1, 49), (49, .getfield 140, 3, 52), (52, .aload_n 0, 1, 53), (53, .getfield 152, 3, 56), (56, .iload_n 2, 1, 57), (57, .iaload, 1, 58), (58, .iconst 1, 1, 59), (59, .bastore, 1, 60), (60, .goto 15, 3, 63), (63, .aload_n 0, 1, 64), (64, .getfield 137, 3, 67), (67, .aload_n 0, 1, 68), (68, .getfield 152, 3, 71), (71, .iload_n 2, 1, 72), (72, .iaload, 1, 73), (73, .iconst 1, 1, 74), (74, .bastore, 1, 75), (75, .iinc 2 1, 3, 78), (78, .goto (-44), 3, 81), (81, .aload_n 0, 1, 82), (82, .iconst 1, 1, 83), (83, .invokevirtual 429, 3, 86), (86, .ireturn, 1, 87)] := by unfold jDs; decide +kernel
set_option maxRecDepth 100000 in
set_option maxHeartbeats 4000000 in
theorem c_X12_countsTold {E : jE} {th : Nat} {x1 : Int} {M : jMem} {r : Int} {M' : jMem} (h : f_X12_countsTold th x1 M = some (r, M')) : jMet E yX12_countsTold cX12_countsTold 3 (some .int) 7 0 0 [q_r E th, q_i x1] M (some (q_i r)) M' := by
  unfold f_X12_countsTold at h
  refine jMet.of RX12 rfl (by decide +kernel) (Nat.le_of_ble_eq_true rfl) [(0, q_r E th), (1, q_i x1)] rfl (fun X hC hE hr hn => ?_)
  refine jr_aload_n hC (D_X12_countsTold.g 0 rfl) 0 rfl ?_
  refine jr_cVv hC cl_X12_426 ⟨rfl, by decide⟩ (D_X12_countsTold.g 1 rfl) [] h (fun r M' e => c_X12_closesHoles e) rfl rfl ⟨by decide, by decide⟩ (Nat.le_of_ble_eq_true rfl) ⟨Nat.le_of_ble_eq_true rfl, Nat.le_of_ble_eq_true rfl⟩ (fun _ M2 h => ?_)
  refine jr_iconst hC (D_X12_countsTold.g 2 rfl) ?_
  refine jr_istore_n hC (D_X12_countsTold.g 3 rfl) (by decide) rfl ?_
  refine jr_pick [1, 2, 0] rfl ?_
  refine jr_lp2 (fun (y2_6 : Int) (M_6 : jMem) => JW E X 3 0 0 M_6 6 [(0, q_r E th), (1, q_i x1), (2, q_i y2_6)] []) ?_ jfuel 0 M2 h
  intro rec_6 hrec_6 y2_6 M_6 h
  refine jr_iload_n hC (D_X12_countsTold.g 4 rfl) 2 rfl ?_
  refine jr_bipush hC (D_X12_countsTold.g 5 rfl) bp_36 ?_
  refine jr_icmp_ge hC (D_X12_countsTold.g 6 rfl) 32 rfl h (fun h => ?_) (fun h => ?_)
  · refine jr_aload_n hC (D_X12_countsTold.g 7 rfl) 0 rfl ?_
    refine jr_getR hC fl_X12_137 rfl (D_X12_countsTold.g 8 rfl) h (fun r3 h => ?_)
    refine jr_iload_n hC (D_X12_countsTold.g 9 rfl) 2 rfl ?_
    refine jr_iconst hC (D_X12_countsTold.g 10 rfl) ?_
    refine jr_zast hC (D_X12_countsTold.g 11 rfl) h (fun M4 _ h => ?_)
    refine jr_aload_n hC (D_X12_countsTold.g 12 rfl) 0 rfl ?_
    refine jr_getR hC fl_X12_140 rfl (D_X12_countsTold.g 13 rfl) h (fun r5 h => ?_)
    refine jr_iload_n hC (D_X12_countsTold.g 14 rfl) 2 rfl ?_
    refine jr_iconst hC (D_X12_countsTold.g 15 rfl) ?_
    refine jr_zast hC (D_X12_countsTold.g 16 rfl) h (fun M6 _ h => ?_)
    refine jr_iinc hC (D_X12_countsTold.g 17 rfl) 2 rfl (by decide) rfl ?_
    refine jr_goto hC (D_X12_countsTold.g 18 rfl) 6 rfl ?_
    refine jr_pick [1, 2, 0] rfl ?_
    exact hrec_6 (y2_6 + 1) M6 h
  refine jr_iconst hC (D_X12_countsTold.g 19 rfl) ?_
  refine jr_istore_n hC (D_X12_countsTold.g 20 rfl) (by decide) rfl ?_
  refine jr_pick [1, 2, 0] rfl ?_
  refine jr_lp2 (fun (y2_34 : Int) (M_34 : jMem) => JW E X 3 0 0 M_34 34 [(0, q_r E th), (1, q_i x1), (2, q_i y2_34)] []) ?_ jfuel 0 M_6 h
  intro rec_34 hrec_34 y2_34 M_34 h
  refine jr_iload_n hC (D_X12_countsTold.g 21 rfl) 2 rfl ?_
  refine jr_iload_n hC (D_X12_countsTold.g 22 rfl) 1 rfl ?_
  refine jr_icmp_ge hC (D_X12_countsTold.g 23 rfl) 81 rfl h (fun h => ?_) (fun h => ?_)
  · refine jr_aload_n hC (D_X12_countsTold.g 24 rfl) 0 rfl ?_
    refine jr_getR hC fl_X12_155 rfl (D_X12_countsTold.g 25 rfl) h (fun r7 h => ?_)
    refine jr_iload_n hC (D_X12_countsTold.g 26 rfl) 2 rfl ?_
    refine jr_zald hC (D_X12_countsTold.g 27 rfl) h (fun v8 h => ?_)
    refine jr_join h (fun j => ∀ (M_75 : jMem), j M_75 = some (r, M') → JW E X 3 0 0 M_75 75 [(0, q_r E th), (1, q_i x1), (2, q_i y2_34)] []) ?_ ?_
    · intro M_75 h
      refine jr_iinc hC (D_X12_countsTold.g 46 rfl) 2 rfl (by decide) rfl ?_
      refine jr_goto hC (D_X12_countsTold.g 47 rfl) 34 rfl ?_
      refine jr_pick [1, 2, 0] rfl ?_
      exact hrec_34 (y2_34 + 1) M_75 h
    intro j_75 hj_75 h
    refine jr_if_eq hC (D_X12_countsTold.g 28 rfl) 63 rfl h (fun h => ?_) (fun h => ?_)
    · refine jr_aload_n hC (D_X12_countsTold.g 38 rfl) 0 rfl ?_
      refine jr_getR hC fl_X12_137 rfl (D_X12_countsTold.g 39 rfl) h (fun r9 h => ?_)
      refine jr_aload_n hC (D_X12_countsTold.g 40 rfl) 0 rfl ?_
      refine jr_getR hC fl_X12_152 rfl (D_X12_countsTold.g 41 rfl) h (fun r10 h => ?_)
      refine jr_iload_n hC (D_X12_countsTold.g 42 rfl) 2 rfl ?_
      refine jr_iald hC (D_X12_countsTold.g 43 rfl) h (fun v11 h => ?_)
      refine jr_iconst hC (D_X12_countsTold.g 44 rfl) ?_
      refine jr_zast hC (D_X12_countsTold.g 45 rfl) h (fun M12 _ h => ?_)
      exact hj_75 M12 h
    refine jr_aload_n hC (D_X12_countsTold.g 29 rfl) 0 rfl ?_
    refine jr_getR hC fl_X12_140 rfl (D_X12_countsTold.g 30 rfl) h (fun r13 h => ?_)
    refine jr_aload_n hC (D_X12_countsTold.g 31 rfl) 0 rfl ?_
    refine jr_getR hC fl_X12_152 rfl (D_X12_countsTold.g 32 rfl) h (fun r14 h => ?_)
    refine jr_iload_n hC (D_X12_countsTold.g 33 rfl) 2 rfl ?_
    refine jr_iald hC (D_X12_countsTold.g 34 rfl) h (fun v15 h => ?_)
    refine jr_iconst hC (D_X12_countsTold.g 35 rfl) ?_
    refine jr_zast hC (D_X12_countsTold.g 36 rfl) h (fun M16 _ h => ?_)
    refine jr_goto hC (D_X12_countsTold.g 37 rfl) 75 rfl ?_
    exact hj_75 M16 h
  refine jr_aload_n hC (D_X12_countsTold.g 48 rfl) 0 rfl ?_
  refine jr_iconst hC (D_X12_countsTold.g 49 rfl) ?_
  refine jr_cVi hC cl_X12_429 ⟨rfl, by decide⟩ (D_X12_countsTold.g 50 rfl) [q_i 1] h (fun r M' e => c_X12_counts e) rfl rfl ⟨by decide, by decide⟩ (Nat.le_of_ble_eq_true rfl) ⟨Nat.le_of_ble_eq_true rfl, Nat.le_of_ble_eq_true rfl⟩ (fun v17 M18 h => ?_)
  exact jr_iret hC (D_X12_countsTold.g 51 rfl) hr hE h
def f_X12_numberTold (th : Nat) (x1 : Int) (M : jMem) : Option (Int × jMem) :=
jcall 12 M th (f_X12_counts th 0 M) fun v1 M2 =>
jlp4 (fun rec_13 (y2_13 : Int) (y3_13 : Int) (y4_13 : Int) (M_13 : jMem) =>
jcall 12 M_13 th (f_X12_cells th M_13) fun v3 M4 =>
if jd_wr y4_13 < jd_wr v3 then (jjq (fun (y2_122 : Int) (y3_122 : Int) (M_122 : jMem) =>
rec_13 y2_122 y3_122 (y4_13 + 1) M_122) fun j_122 =>
jjq (j_122 y2_13 (jd_shr y3_13 1) M4) fun j_39 =>
if jd_wr (jd_and y3_13 1) = jd_wr 1 then (j_39 )
else ((jm_gR 12 57 M4 th).bind fun r5 =>
(jm_ld 22 M4 r5 y4_13).bind fun v6 =>
if jd_wr v6 = 0 then (jjq (fun (z0_85 : Int) (M_85 : jMem) =>
jjq (fun (y2_103 : Int) (M_103 : jMem) =>
jjq (fun (z0_121 : Int) (M_121 : jMem) =>
j_122 y2_103 z0_121 M_121) fun j_121 =>
if jd_wr z0_85 = 0 then (j_121 (jd_shr (jd_or y3_13 2) 1) M_103)
else (jcall 12 M_103 th (f_X12_maskDown th y3_13 M_103) fun v7 M8 =>
j_121 v7 M8)) fun j_103 =>
if jd_wr z0_85 = 0 then (j_103 y2_13 M_85)
else (jcall 12 M_85 th (f_X12_acrossIn th 0 y4_13 y3_13 M_85) fun v9 M10 =>
j_103 (y2_13 + v9) M10)) fun j_85 =>
if jd_wr x1 = 0 then (jcall 12 M4 th (f_X12_acrossIn th 1 y4_13 y3_13 M4) fun v11 M12 =>
if jd_wr v11 = 0 then (j_85 1 M12)
else (j_85 0 M12))
else (jcall 12 M4 th (f_X12_downIn th 1 y4_13 y3_13 M4) fun v13 M14 =>
if jd_wr v13 ≤ 0 then (j_85 0 M14)
else (j_85 1 M14)))
else (j_39 )))
else (some (y2_13, M4))) jfuel 0 0 0 M2
theorem D_X12_numberTold : jDs cX12_numberTold [(0, .aload_n 0, 1, 1), (1, .iconst 0, 1, 2), (2, .invokevirtual 429, 3, 5), (5, .pop, 1, 6), (6, .iconst 0, 1, 7), (7, .istore_n 2, 1, 8), (8, .iconst 0, 1, 9), (9, .istore_n 3, 1, 10), (10, .iconst 0, 1, 11), (11, .istore 4, 2, 13), (13, .iload 4, 2, 15), (15, .aload_n 0, 1, 16), (16, .invokevirtual 314, 3, 19), (19, .if_icmp .ge 109, 3, 22), (22, .iload_n 3, 1, 23), (23, .iconst 1, 1, 24), (24, .iand, 1, 25), (25, .iconst 1, 1, 26), (26, .if_icmp .eq 13, 3, 29), (29, .aload_n 0, 1, 30), (30, .getfield 134, 3, 33), (33, .iload 4, 2, 35), (35, .baload, 1, 36), (36, .ifCond .eq 10, 3, 39), (39, .iload_n 3, 1, 40), (40, .iconst 1, 1, 41), (41, .ishr, 1, 42), (42, .istore_n 3, 1, 43), (43, .goto 79, 3, 46), (46, .iload_n 1, 1, 47), (47, .ifCond .eq 22, 3, 50), (50, .aload_n 0, 1, 51), (51, .iconst 1, 1, 52), (52, .iload 4, 2, 54), (54, .iload_n 3, 1, 55), (55, .invokevirtual 420, 3, 58), (58, .ifCond .le 7, 3, 61), (61, .iconst 1, 1, 62), (62, .goto 23, 3, 65), (65, .iconst 0, 1, 66), (66, .goto 19, 3, 69), (69, .aload_n 0, 1, 70), (70, .iconst 1, 1, 71), (71, .iload 4, 2, 73), (73, .iload_n 3, 1, 74), (74, .invokevirtual 416, 3, 77), (77, .ifCond .ne 7, 3, 80), (80, .iconst 1, 1, 81), (81, .goto 4, 3, 84), (84, .iconst 0, 1, 85), (85, .istore 5, 2, 87), (87, .iload 5, 2, 89), (89, .ifCond .eq 14, 3, 92), (92, .iload_n 2, 1, 93), (93, .aload_n 0, 1, 94), (94, .iconst 0, 1, 95), (95, .iload 4, 2, 97), (97, .iload_n 3, 1, 98), (98, .invokevirtual 416, 3, 101), (101, .iadd, 1, 102), (102, .istore_n 2, 1, 103), (103, .iload 5, 2, 105), (105, .ifCond .eq 11, 3, 108), (108, .aload_n 0, 1, 109), (109, .iload_n 3, 1, 110), (110, .invokevirtual 413, 3, 113), (113, .goto 8, 3, 116), (116, .iload_n 3, 1, 117), (117, .iconst 2, 1, 118), (118, .ior, 1, 119), (119, .iconst 1, 1, 120), (120, .ishr, 1, 121), (121, .istore_n 3, 1, 122), (122, .iinc 4 1, 3, 125), (125, .goto (-112), 3, 128), (128, .iload_n 2, 1, 129), (129, .ireturn, 1, 130)] := by unfold jDs; decide +kernel
set_option maxRecDepth 100000 in
set_option maxHeartbeats 4000000 in
theorem c_X12_numberTold {E : jE} {th : Nat} {x1 : Int} {M : jMem} {r : Int} {M' : jMem} (h : f_X12_numberTold th x1 M = some (r, M')) : jMet E yX12_numberTold cX12_numberTold 6 (some .int) 7 0 0 [q_r E th, q_i x1] M (some (q_i r)) M' := by
  unfold f_X12_numberTold at h
  refine jMet.of RX12 rfl (by decide +kernel) (Nat.le_of_ble_eq_true rfl) [(0, q_r E th), (1, q_i x1)] rfl (fun X hC hE hr hn => ?_)
  refine jr_aload_n hC (D_X12_numberTold.g 0 rfl) 0 rfl ?_
  refine jr_iconst hC (D_X12_numberTold.g 1 rfl) ?_
  refine jr_cVi hC cl_X12_429 ⟨rfl, by decide⟩ (D_X12_numberTold.g 2 rfl) [q_i 0] h (fun r M' e => c_X12_counts e) rfl rfl ⟨by decide, by decide⟩ (Nat.le_of_ble_eq_true rfl) ⟨Nat.le_of_ble_eq_true rfl, Nat.le_of_ble_eq_true rfl⟩ (fun v1 M2 h => ?_)
  refine jr_pop hC (D_X12_numberTold.g 3 rfl) rfl ?_
  refine jr_iconst hC (D_X12_numberTold.g 4 rfl) ?_
  refine jr_istore_n hC (D_X12_numberTold.g 5 rfl) (by decide) rfl ?_
  refine jr_iconst hC (D_X12_numberTold.g 6 rfl) ?_
  refine jr_istore_n hC (D_X12_numberTold.g 7 rfl) (by decide) rfl ?_
  refine jr_iconst hC (D_X12_numberTold.g 8 rfl) ?_
  refine jr_istore hC (D_X12_numberTold.g 9 rfl) (by decide) rfl ?_
  refine jr_pick [3, 4, 2, 1, 0] rfl ?_
  refine jr_lp4 (fun (y2_13 : Int) (y3_13 : Int) (y4_13 : Int) (M_13 : jMem) => JW E X 6 0 0 M_13 13 [(0, q_r E th), (1, q_i x1), (2, q_i y2_13), (3, q_i y3_13), (4, q_i y4_13)] []) ?_ jfuel 0 0 0 M2 h
  intro rec_13 hrec_13 y2_13 y3_13 y4_13 M_13 h
  refine jr_iload hC (D_X12_numberTold.g 10 rfl) 4 rfl ?_
  refine jr_aload_n hC (D_X12_numberTold.g 11 rfl) 0 rfl ?_
  refine jr_cVi hC cl_X12_314 ⟨rfl, by decide⟩ (D_X12_numberTold.g 12 rfl) [] h (fun r M' e => c_X12_cells e) rfl rfl ⟨by decide, by decide⟩ (Nat.le_of_ble_eq_true rfl) ⟨Nat.le_of_ble_eq_true rfl, Nat.le_of_ble_eq_true rfl⟩ (fun v3 M4 h => ?_)
  refine jr_icmp_ge hC (D_X12_numberTold.g 13 rfl) 128 rfl h (fun h => ?_) (fun h => ?_)
  · refine jr_iload_n hC (D_X12_numberTold.g 14 rfl) 3 rfl ?_
    refine jr_iconst hC (D_X12_numberTold.g 15 rfl) ?_
    refine jr_iand hC (D_X12_numberTold.g 16 rfl) ?_
    refine jr_iconst hC (D_X12_numberTold.g 17 rfl) ?_
    refine jr_join h (fun j => ∀ (y2_122 : Int) (y3_122 : Int) (M_122 : jMem), j y2_122 y3_122 M_122 = some (r, M') → JW E X 6 0 0 M_122 122 [(0, q_r E th), (1, q_i x1), (2, q_i y2_122), (3, q_i y3_122), (4, q_i y4_13)] []) ?_ ?_
    · intro y2_122 y3_122 M_122 h
      refine jr_iinc hC (D_X12_numberTold.g 73 rfl) 4 rfl (by decide) rfl ?_
      refine jr_goto hC (D_X12_numberTold.g 74 rfl) 13 rfl ?_
      refine jr_pick [1, 2, 3, 4, 0] rfl ?_
      exact hrec_13 y2_122 y3_122 (y4_13 + 1) M_122 h
    intro j_122 hj_122 h
    refine jr_join h (fun j => j = some (r, M') → JW E X 6 0 0 M4 39 [(0, q_r E th), (1, q_i x1), (2, q_i y2_13), (3, q_i y3_13), (4, q_i y4_13)] []) ?_ ?_
    · intro  h
      refine jr_iload_n hC (D_X12_numberTold.g 24 rfl) 3 rfl ?_
      refine jr_iconst hC (D_X12_numberTold.g 25 rfl) ?_
      refine jr_ishr hC (D_X12_numberTold.g 26 rfl) ?_
      refine jr_istore_n hC (D_X12_numberTold.g 27 rfl) (by decide) rfl ?_
      refine jr_goto hC (D_X12_numberTold.g 28 rfl) 122 rfl ?_
      refine jr_pick [1, 2, 3, 0, 4] rfl ?_
      exact hj_122 y2_13 (jd_shr y3_13 1) M4 h
    intro j_39 hj_39 h
    refine jr_icmp_eq hC (D_X12_numberTold.g 18 rfl) 39 rfl h (fun h => ?_) (fun h => ?_)
    · exact hj_39  h
    refine jr_aload_n hC (D_X12_numberTold.g 19 rfl) 0 rfl ?_
    refine jr_getR hC fl_X12_134 rfl (D_X12_numberTold.g 20 rfl) h (fun r5 h => ?_)
    refine jr_iload hC (D_X12_numberTold.g 21 rfl) 4 rfl ?_
    refine jr_zald hC (D_X12_numberTold.g 22 rfl) h (fun v6 h => ?_)
    refine jr_if_eq hC (D_X12_numberTold.g 23 rfl) 46 rfl h (fun h => ?_) (fun h => ?_)
    · refine jr_iload_n hC (D_X12_numberTold.g 29 rfl) 1 rfl ?_
      refine jr_join h (fun j => ∀ (z0_85 : Int) (M_85 : jMem), j z0_85 M_85 = some (r, M') → JW E X 6 0 0 M_85 85 [(0, q_r E th), (1, q_i x1), (2, q_i y2_13), (3, q_i y3_13), (4, q_i y4_13)] [q_i z0_85]) ?_ ?_
      · intro z0_85 M_85 h
        refine jr_istore hC (D_X12_numberTold.g 50 rfl) (by decide) rfl ?_
        refine jr_iload hC (D_X12_numberTold.g 51 rfl) 0 rfl ?_
        refine jr_join h (fun j => ∀ (y2_103 : Int) (M_103 : jMem), j y2_103 M_103 = some (r, M') → JW E X 6 0 0 M_103 103 [(0, q_r E th), (1, q_i x1), (2, q_i y2_103), (3, q_i y3_13), (4, q_i y4_13), (5, q_i z0_85)] []) ?_ ?_
        · intro y2_103 M_103 h
          refine jr_iload hC (D_X12_numberTold.g 61 rfl) 5 rfl ?_
          refine jr_join h (fun j => ∀ (z0_121 : Int) (M_121 : jMem), j z0_121 M_121 = some (r, M') → JW E X 6 0 0 M_121 121 [(0, q_r E th), (1, q_i x1), (2, q_i y2_103), (4, q_i y4_13)] [q_i z0_121]) ?_ ?_
          · intro z0_121 M_121 h
            refine jr_istore_n hC (D_X12_numberTold.g 72 rfl) (by decide) rfl ?_
            refine jr_pick [1, 2, 3, 0, 4] rfl ?_
            exact hj_122 y2_103 z0_121 M_121 h
          intro j_121 hj_121 h
          refine jr_if_eq hC (D_X12_numberTold.g 62 rfl) 116 rfl h (fun h => ?_) (fun h => ?_)
          · refine jr_iload_n hC (D_X12_numberTold.g 67 rfl) 3 rfl ?_
            refine jr_iconst hC (D_X12_numberTold.g 68 rfl) ?_
            refine jr_ior hC (D_X12_numberTold.g 69 rfl) ?_
            refine jr_iconst hC (D_X12_numberTold.g 70 rfl) ?_
            refine jr_ishr hC (D_X12_numberTold.g 71 rfl) ?_
            refine jr_pick [0, 1, 2, 4] rfl ?_
            exact hj_121 (jd_shr (jd_or y3_13 2) 1) M_103 h
          refine jr_aload_n hC (D_X12_numberTold.g 63 rfl) 0 rfl ?_
          refine jr_iload_n hC (D_X12_numberTold.g 64 rfl) 3 rfl ?_
          refine jr_cVi hC cl_X12_413 ⟨rfl, by decide⟩ (D_X12_numberTold.g 65 rfl) [q_i y3_13] h (fun r M' e => c_X12_maskDown e) rfl rfl ⟨by decide, by decide⟩ (Nat.le_of_ble_eq_true rfl) ⟨Nat.le_of_ble_eq_true rfl, Nat.le_of_ble_eq_true rfl⟩ (fun v7 M8 h => ?_)
          refine jr_goto hC (D_X12_numberTold.g 66 rfl) 121 rfl ?_
          refine jr_pick [0, 1, 2, 4] rfl ?_
          exact hj_121 v7 M8 h
        intro j_103 hj_103 h
        refine jr_if_eq hC (D_X12_numberTold.g 52 rfl) 103 rfl h (fun h => ?_) (fun h => ?_)
        · refine jr_pick [1, 2, 3, 4, 5, 0] rfl ?_
          exact hj_103 y2_13 M_85 h
        refine jr_iload_n hC (D_X12_numberTold.g 53 rfl) 3 rfl ?_
        refine jr_aload_n hC (D_X12_numberTold.g 54 rfl) 1 rfl ?_
        refine jr_iconst hC (D_X12_numberTold.g 55 rfl) ?_
        refine jr_iload hC (D_X12_numberTold.g 56 rfl) 5 rfl ?_
        refine jr_iload_n hC (D_X12_numberTold.g 57 rfl) 4 rfl ?_
        refine jr_cVi hC cl_X12_416 ⟨rfl, by decide⟩ (D_X12_numberTold.g 58 rfl) [q_i 0, q_i y4_13, q_i y3_13] h (fun r M' e => c_X12_acrossIn e) rfl rfl ⟨by decide, by decide⟩ (Nat.le_of_ble_eq_true rfl) ⟨Nat.le_of_ble_eq_true rfl, Nat.le_of_ble_eq_true rfl⟩ (fun v9 M10 h => ?_)
        refine jr_iadd hC (D_X12_numberTold.g 59 rfl) ?_
        refine jr_istore_n hC (D_X12_numberTold.g 60 rfl) (by decide) rfl ?_
        refine jr_pick [2, 3, 0, 4, 5, 1] rfl ?_
        exact hj_103 (y2_13 + v9) M10 h
      intro j_85 hj_85 h
      refine jr_if_eq hC (D_X12_numberTold.g 30 rfl) 69 rfl h (fun h => ?_) (fun h => ?_)
      · refine jr_aload_n hC (D_X12_numberTold.g 41 rfl) 0 rfl ?_
        refine jr_iconst hC (D_X12_numberTold.g 42 rfl) ?_
        refine jr_iload hC (D_X12_numberTold.g 43 rfl) 4 rfl ?_
        refine jr_iload_n hC (D_X12_numberTold.g 44 rfl) 3 rfl ?_
        refine jr_cVi hC cl_X12_416 ⟨rfl, by decide⟩ (D_X12_numberTold.g 45 rfl) [q_i 1, q_i y4_13, q_i y3_13] h (fun r M' e => c_X12_acrossIn e) rfl rfl ⟨by decide, by decide⟩ (Nat.le_of_ble_eq_true rfl) ⟨Nat.le_of_ble_eq_true rfl, Nat.le_of_ble_eq_true rfl⟩ (fun v11 M12 h => ?_)
        refine jr_if_ne hC (D_X12_numberTold.g 46 rfl) 84 rfl h (fun h => ?_) (fun h => ?_)
        · refine jr_iconst hC (D_X12_numberTold.g 47 rfl) ?_
          refine jr_goto hC (D_X12_numberTold.g 48 rfl) 85 rfl ?_
          exact hj_85 1 M12 h
        refine jr_iconst hC (D_X12_numberTold.g 49 rfl) ?_
        exact hj_85 0 M12 h
      refine jr_aload_n hC (D_X12_numberTold.g 31 rfl) 0 rfl ?_
      refine jr_iconst hC (D_X12_numberTold.g 32 rfl) ?_
      refine jr_iload hC (D_X12_numberTold.g 33 rfl) 4 rfl ?_
      refine jr_iload_n hC (D_X12_numberTold.g 34 rfl) 3 rfl ?_
      refine jr_cVi hC cl_X12_420 ⟨rfl, by decide⟩ (D_X12_numberTold.g 35 rfl) [q_i 1, q_i y4_13, q_i y3_13] h (fun r M' e => c_X12_downIn e) rfl rfl ⟨by decide, by decide⟩ (Nat.le_of_ble_eq_true rfl) ⟨Nat.le_of_ble_eq_true rfl, Nat.le_of_ble_eq_true rfl⟩ (fun v13 M14 h => ?_)
      refine jr_if_le hC (D_X12_numberTold.g 36 rfl) 65 rfl h (fun h => ?_) (fun h => ?_)
      · refine jr_iconst hC (D_X12_numberTold.g 39 rfl) ?_
        refine jr_goto hC (D_X12_numberTold.g 40 rfl) 85 rfl ?_
        exact hj_85 0 M14 h
      refine jr_iconst hC (D_X12_numberTold.g 37 rfl) ?_
      refine jr_goto hC (D_X12_numberTold.g 38 rfl) 85 rfl ?_
      exact hj_85 1 M14 h
    exact hj_39  h
  refine jr_iload_n hC (D_X12_numberTold.g 75 rfl) 2 rfl ?_
  exact jr_iret hC (D_X12_numberTold.g 76 rfl) hr hE h
def f_X12_fit (th : Nat) (x1 : Int) (x2 : Int) (M : jMem) : Option (Int × jMem) :=
(jm_gI 12 63 M th).bind fun v1 =>
jbd (f_X12_in x1 0 v1 M) fun v2 M3 =>
if jd_wr v2 = 0 then (some ((-1), M3))
else (jbd (f_X12_in x2 0 2 M3) fun v4 M5 =>
if jd_wr v4 = 0 then (some ((-1), M5))
else (jcall 12 M5 th (f_X12_countsTold th x1 M5) fun v6 M7 =>
if jd_wr x2 = 0 then (some (v6, M7))
else (if jd_wr v6 = 0 then (some ((-2), M7))
else (jjq (fun (z0_55 : Int) =>
jcall 12 M7 th (f_X12_numberTold th z0_55 M7) fun v8 M9 =>
some (v8, M9)) fun j_55 =>
if jd_wr x2 = jd_wr 2 then (j_55 1)
else (j_55 0)))))
theorem D_X12_fit : jDs cX12_fit [(0, .iload_n 1, 1, 1), (1, .iconst 0, 1, 2), (2, .aload_n 0, 1, 3), (3, .getfield 271, 3, 6), (6, .invokestatic 318, 3, 9), (9, .ifCond .eq 12, 3, 12), (12, .iload_n 2, 1, 13), (13, .iconst 0, 1, 14), (14, .iconst 2, 1, 15), (15, .invokestatic 318, 3, 18), (18, .ifCond .ne 5, 3, 21), (21, .iconst (-1), 1, 22), (22, .ireturn, 1, 23), (23, .aload_n 0, 1, 24), (24, .iload_n 1, 1, 25), (25, .invokevirtual 488, 3, 28), (28, .istore_n 3, 1, 29), (29, .iload_n 2, 1, 30), (30, .ifCond .ne 5, 3, 33), (33, .iload_n 3, 1, 34), (34, .ireturn, 1, 35), (35, .iload_n 3, 1, 36), (36, .ifCond .ne 8, 3, 39), (39, .bipush (-2), 2, 41), (41, .goto 17, 3, 44), (44, .aload_n 0, 1, 45), (45, .iload_n 2, 1, 46), (46, .iconst 2, 1, 47), (47, .if_icmp .ne 7, 3, 50), (50, .iconst 1, 1, 51), (51, .goto 4, 3, 54), (54, .iconst 0, 1, 55), (55, .invokevirtual 491, 3, 58), (58, .ireturn, 1, 59)] := by unfold jDs; decide +kernel
set_option maxRecDepth 100000 in
set_option maxHeartbeats 4000000 in
theorem c_X12_fit {E : jE} {th : Nat} {x1 : Int} {x2 : Int} {M : jMem} {r : Int} {M' : jMem} (h : f_X12_fit th x1 x2 M = some (r, M')) : jMet E yX12_fit cX12_fit 4 (some .int) 8 0 0 [q_r E th, q_i x1, q_i x2] M (some (q_i r)) M' := by
  unfold f_X12_fit at h
  refine jMet.of RX12 rfl (by decide +kernel) (Nat.le_of_ble_eq_true rfl) [(0, q_r E th), (1, q_i x1), (2, q_i x2)] rfl (fun X hC hE hr hn => ?_)
  refine jr_iload_n hC (D_X12_fit.g 0 rfl) 1 rfl ?_
  refine jr_iconst hC (D_X12_fit.g 1 rfl) ?_
  refine jr_aload_n hC (D_X12_fit.g 2 rfl) 0 rfl ?_
  refine jr_getI hC fl_X12_271 rfl (D_X12_fit.g 3 rfl) h (fun v1 h => ?_)
  refine jr_cSi hC cl_X12_318 (D_X12_fit.g 4 rfl) [q_i x1, q_i 0, q_i v1] h (fun r M' e => c_X12_in e) rfl rfl ⟨by decide, by decide⟩ (Nat.le_of_ble_eq_true rfl) ⟨Nat.le_of_ble_eq_true rfl, Nat.le_of_ble_eq_true rfl⟩ (fun v2 M3 h => ?_)
  refine jr_if_eq hC (D_X12_fit.g 5 rfl) 21 rfl h (fun h => ?_) (fun h => ?_)
  · refine jr_iconst hC (D_X12_fit.g 11 rfl) ?_
    exact jr_iret hC (D_X12_fit.g 12 rfl) hr hE h
  refine jr_iload_n hC (D_X12_fit.g 6 rfl) 2 rfl ?_
  refine jr_iconst hC (D_X12_fit.g 7 rfl) ?_
  refine jr_iconst hC (D_X12_fit.g 8 rfl) ?_
  refine jr_cSi hC cl_X12_318 (D_X12_fit.g 9 rfl) [q_i x2, q_i 0, q_i 2] h (fun r M' e => c_X12_in e) rfl rfl ⟨by decide, by decide⟩ (Nat.le_of_ble_eq_true rfl) ⟨Nat.le_of_ble_eq_true rfl, Nat.le_of_ble_eq_true rfl⟩ (fun v4 M5 h => ?_)
  refine jr_if_ne hC (D_X12_fit.g 10 rfl) 23 rfl h (fun h => ?_) (fun h => ?_)
  · refine jr_iconst hC (D_X12_fit.g 11 rfl) ?_
    exact jr_iret hC (D_X12_fit.g 12 rfl) hr hE h
  refine jr_aload_n hC (D_X12_fit.g 13 rfl) 0 rfl ?_
  refine jr_iload_n hC (D_X12_fit.g 14 rfl) 1 rfl ?_
  refine jr_cVi hC cl_X12_488 ⟨rfl, by decide⟩ (D_X12_fit.g 15 rfl) [q_i x1] h (fun r M' e => c_X12_countsTold e) rfl rfl ⟨by decide, by decide⟩ (Nat.le_of_ble_eq_true rfl) ⟨Nat.le_of_ble_eq_true rfl, Nat.le_of_ble_eq_true rfl⟩ (fun v6 M7 h => ?_)
  refine jr_istore_n hC (D_X12_fit.g 16 rfl) (by decide) rfl ?_
  refine jr_iload_n hC (D_X12_fit.g 17 rfl) 3 rfl ?_
  refine jr_if_ne hC (D_X12_fit.g 18 rfl) 35 rfl h (fun h => ?_) (fun h => ?_)
  · refine jr_iload_n hC (D_X12_fit.g 19 rfl) 0 rfl ?_
    exact jr_iret hC (D_X12_fit.g 20 rfl) hr hE h
  refine jr_iload_n hC (D_X12_fit.g 21 rfl) 0 rfl ?_
  refine jr_if_ne hC (D_X12_fit.g 22 rfl) 44 rfl h (fun h => ?_) (fun h => ?_)
  · refine jr_bipush hC (D_X12_fit.g 23 rfl) bp_m2 ?_
    refine jr_goto hC (D_X12_fit.g 24 rfl) 58 rfl ?_
    exact jr_iret hC (D_X12_fit.g 33 rfl) hr hE h
  refine jr_aload_n hC (D_X12_fit.g 25 rfl) 1 rfl ?_
  refine jr_iload_n hC (D_X12_fit.g 26 rfl) 3 rfl ?_
  refine jr_iconst hC (D_X12_fit.g 27 rfl) ?_
  refine jr_join h (fun j => ∀ (z0_55 : Int), j z0_55 = some (r, M') → JW E X 4 0 0 M7 55 [] [q_i z0_55, q_r E th]) ?_ ?_
  · intro z0_55 h
    refine jr_cVi hC cl_X12_491 ⟨rfl, by decide⟩ (D_X12_fit.g 32 rfl) [q_i z0_55] h (fun r M' e => c_X12_numberTold e) rfl rfl ⟨by decide, by decide⟩ (Nat.le_of_ble_eq_true rfl) ⟨Nat.le_of_ble_eq_true rfl, Nat.le_of_ble_eq_true rfl⟩ (fun v8 M9 h => ?_)
    exact jr_iret hC (D_X12_fit.g 33 rfl) hr hE h
  intro j_55 hj_55 h
  refine jr_icmp_ne hC (D_X12_fit.g 28 rfl) 54 rfl h (fun h => ?_) (fun h => ?_)
  · refine jr_iconst hC (D_X12_fit.g 29 rfl) ?_
    refine jr_goto hC (D_X12_fit.g 30 rfl) 55 rfl ?_
    refine jr_pick [] rfl ?_
    exact hj_55 1 h
  refine jr_iconst hC (D_X12_fit.g 31 rfl) ?_
  refine jr_pick [] rfl ?_
  exact hj_55 0 h
def f_X12_look (th : Nat) (x1 : Int) (M : jMem) : Option (Int × jMem) :=
(jm_gI 12 63 M th).bind fun v1 =>
jbd (f_X12_in x1 0 v1 M) fun v2 M3 =>
if jd_wr v2 = 0 then (some ((-1), M3))
else (jcall 12 M3 th (f_X12_countsTold th x1 M3) fun v4 M5 =>
jlp4 (fun rec_29 (y3_29 : Int) (y4_29 : Int) (y5_29 : Int) (M_29 : jMem) =>
jcall 12 M_29 th (f_X12_cells th M_29) fun v6 M7 =>
if jd_wr y5_29 < jd_wr v6 then (if jd_wr v4 ≤ 0 then (some (y3_29, M7))
else ((jm_gR 12 50 M7 th).bind fun r8 =>
(jm_ld 22 M7 r8 y5_29).bind fun v9 =>
jjq (fun (y3_117 : Int) (y4_117 : Int) (M_117 : jMem) =>
rec_29 y3_117 y4_117 (y5_29 + 1) M_117) fun j_117 =>
if jd_wr v9 = 0 then (jcall 12 M7 th (f_X12_countsTold th x1 M7) fun v10 M11 =>
(jm_gR 12 59 M11 th).bind fun r12 =>
(jm_st 22 M11 r12 y5_29 (jd_z 1)).bind fun M13 =>
jcall 12 M13 th (f_X12_counts th 1 M13) fun v14 M15 =>
jjq (fun (z0_94 : Int) =>
jjq (j_117 y5_29 z0_94 M15) fun j_110 =>
if jd_wr y3_29 < 0 then (j_110 )
else (if jd_wr z0_94 < jd_wr y4_29 then (j_110 )
else (j_117 y3_29 y4_29 M15))) fun j_94 =>
if jd_wr v14 ≤ jd_wr (v4 - v14) then (j_94 (v4 - v14))
else (j_94 v14))
else (j_117 y3_29 y4_29 M7)))
else (some (y3_29, M7))) jfuel (-2) 0 0 M5)
theorem D_X12_look : jDs cX12_look [(0, .iload_n 1, 1, 1), (1, .iconst 0, 1, 2), (2, .aload_n 0, 1, 3), (3, .getfield 271, 3, 6), (6, .invokestatic 318, 3, 9), (9, .ifCond .ne 5, 3, 12), (12, .iconst (-1), 1, 13), (13, .ireturn, 1, 14), (14, .aload_n 0, 1, 15), (15, .iload_n 1, 1, 16), (16, .invokevirtual 488, 3, 19), (19, .istore_n 2, 1, 20), (20, .bipush (-2), 2, 22), (22, .istore_n 3, 1, 23), (23, .iconst 0, 1, 24), (24, .istore 4, 2, 26), (26, .iconst 0, 1, 27), (27, .istore 5, 2, 29), (29, .iload 5, 2, 31), (31, .aload_n 0, 1, 32), (32, .invokevirtual 314, 3, 35), (35, .if_icmp .ge 88, 3, 38), (38, .iload_n 2, 1, 39), (39, .ifCond .le 84, 3, 42), (42, .aload_n 0, 1, 43), (43, .getfield 116, 3, 46), (46, .iload 5, 2, 48), (48, .baload, 1, 49), (49, .ifCond .eq 6, 3, 52), (52, .goto 65, 3, 55), (55, .aload_n 0, 1, 56), (56, .iload_n 1, 1, 57), (57, .invokevirtual 488, 3, 60), (60, .pop, 1, 61), (61, .aload_n 0, 1, 62), (62, .getfield 140, 3, 65), (65, .iload 5, 2, 67), (67, .iconst 1, 1, 68), (68, .bastore, 1, 69), (69, .aload_n 0, 1, 70), (70, .iconst 1, 1, 71), (71, .invokevirtual 429, 3, 74), (74, .istore 6, 2, 76), (76, .iload 6, 2, 78), (78, .iload_n 2, 1, 79), (79, .iload 6, 2, 81), (81, .isub, 1, 82), (82, .if_icmp .le 8, 3, 85), (85, .iload 6, 2, 87), (87, .goto 7, 3, 90), (90, .iload_n 2, 1, 91), (91, .iload 6, 2, 93), (93, .isub, 1, 94), (94, .istore 7, 2, 96), (96, .iload_n 3, 1, 97), (97, .ifCond .lt 13, 3, 100), (100, .iload 7, 2, 102), (102, .iload 4, 2, 104), (104, .if_icmp .lt 6, 3, 107), (107, .goto 10, 3, 110), (110, .iload 5, 2, 112), (112, .istore_n 3, 1, 113), (113, .iload 7, 2, 115), (115, .istore 4, 2, 117), (117, .iinc 5 1, 3, 120), (120, .goto (-91), 3, 123), (123, .iload_n 3, 1, 124), (124, .ireturn, 1, 125)] := by unfold jDs; decide +kernel
set_option maxRecDepth 100000 in
set_option maxHeartbeats 4000000 in
theorem c_X12_look {E : jE} {th : Nat} {x1 : Int} {M : jMem} {r : Int} {M' : jMem} (h : f_X12_look th x1 M = some (r, M')) : jMet E yX12_look cX12_look 8 (some .int) 8 0 0 [q_r E th, q_i x1] M (some (q_i r)) M' := by
  unfold f_X12_look at h
  refine jMet.of RX12 rfl (by decide +kernel) (Nat.le_of_ble_eq_true rfl) [(0, q_r E th), (1, q_i x1)] rfl (fun X hC hE hr hn => ?_)
  refine jr_iload_n hC (D_X12_look.g 0 rfl) 1 rfl ?_
  refine jr_iconst hC (D_X12_look.g 1 rfl) ?_
  refine jr_aload_n hC (D_X12_look.g 2 rfl) 0 rfl ?_
  refine jr_getI hC fl_X12_271 rfl (D_X12_look.g 3 rfl) h (fun v1 h => ?_)
  refine jr_cSi hC cl_X12_318 (D_X12_look.g 4 rfl) [q_i x1, q_i 0, q_i v1] h (fun r M' e => c_X12_in e) rfl rfl ⟨by decide, by decide⟩ (Nat.le_of_ble_eq_true rfl) ⟨Nat.le_of_ble_eq_true rfl, Nat.le_of_ble_eq_true rfl⟩ (fun v2 M3 h => ?_)
  refine jr_if_ne hC (D_X12_look.g 5 rfl) 14 rfl h (fun h => ?_) (fun h => ?_)
  · refine jr_iconst hC (D_X12_look.g 6 rfl) ?_
    exact jr_iret hC (D_X12_look.g 7 rfl) hr hE h
  refine jr_aload_n hC (D_X12_look.g 8 rfl) 0 rfl ?_
  refine jr_iload_n hC (D_X12_look.g 9 rfl) 1 rfl ?_
  refine jr_cVi hC cl_X12_488 ⟨rfl, by decide⟩ (D_X12_look.g 10 rfl) [q_i x1] h (fun r M' e => c_X12_countsTold e) rfl rfl ⟨by decide, by decide⟩ (Nat.le_of_ble_eq_true rfl) ⟨Nat.le_of_ble_eq_true rfl, Nat.le_of_ble_eq_true rfl⟩ (fun v4 M5 h => ?_)
  refine jr_istore_n hC (D_X12_look.g 11 rfl) (by decide) rfl ?_
  refine jr_bipush hC (D_X12_look.g 12 rfl) bp_m2 ?_
  refine jr_istore_n hC (D_X12_look.g 13 rfl) (by decide) rfl ?_
  refine jr_iconst hC (D_X12_look.g 14 rfl) ?_
  refine jr_istore hC (D_X12_look.g 15 rfl) (by decide) rfl ?_
  refine jr_iconst hC (D_X12_look.g 16 rfl) ?_
  refine jr_istore hC (D_X12_look.g 17 rfl) (by decide) rfl ?_
  refine jr_pick [4, 5, 3, 2, 1, 0] rfl ?_
  refine jr_lp4 (fun (y3_29 : Int) (y4_29 : Int) (y5_29 : Int) (M_29 : jMem) => JW E X 8 0 0 M_29 29 [(0, q_r E th), (1, q_i x1), (2, q_i v4), (3, q_i y3_29), (4, q_i y4_29), (5, q_i y5_29)] []) ?_ jfuel (-2) 0 0 M5 h
  intro rec_29 hrec_29 y3_29 y4_29 y5_29 M_29 h
  refine jr_iload hC (D_X12_look.g 18 rfl) 5 rfl ?_
  refine jr_aload_n hC (D_X12_look.g 19 rfl) 0 rfl ?_
  refine jr_cVi hC cl_X12_314 ⟨rfl, by decide⟩ (D_X12_look.g 20 rfl) [] h (fun r M' e => c_X12_cells e) rfl rfl ⟨by decide, by decide⟩ (Nat.le_of_ble_eq_true rfl) ⟨Nat.le_of_ble_eq_true rfl, Nat.le_of_ble_eq_true rfl⟩ (fun v6 M7 h => ?_)
  refine jr_icmp_ge hC (D_X12_look.g 21 rfl) 123 rfl h (fun h => ?_) (fun h => ?_)
  · refine jr_iload_n hC (D_X12_look.g 22 rfl) 2 rfl ?_
    refine jr_if_le hC (D_X12_look.g 23 rfl) 123 rfl h (fun h => ?_) (fun h => ?_)
    · refine jr_iload_n hC (D_X12_look.g 66 rfl) 3 rfl ?_
      exact jr_iret hC (D_X12_look.g 67 rfl) hr hE h
    refine jr_aload_n hC (D_X12_look.g 24 rfl) 0 rfl ?_
    refine jr_getR hC fl_X12_116 rfl (D_X12_look.g 25 rfl) h (fun r8 h => ?_)
    refine jr_iload hC (D_X12_look.g 26 rfl) 5 rfl ?_
    refine jr_zald hC (D_X12_look.g 27 rfl) h (fun v9 h => ?_)
    refine jr_join h (fun j => ∀ (y3_117 : Int) (y4_117 : Int) (M_117 : jMem), j y3_117 y4_117 M_117 = some (r, M') → JW E X 8 0 0 M_117 117 [(0, q_r E th), (1, q_i x1), (2, q_i v4), (3, q_i y3_117), (4, q_i y4_117), (5, q_i y5_29)] []) ?_ ?_
    · intro y3_117 y4_117 M_117 h
      refine jr_iinc hC (D_X12_look.g 64 rfl) 5 rfl (by decide) rfl ?_
      refine jr_goto hC (D_X12_look.g 65 rfl) 29 rfl ?_
      refine jr_pick [1, 2, 3, 4, 5, 0] rfl ?_
      exact hrec_29 y3_117 y4_117 (y5_29 + 1) M_117 h
    intro j_117 hj_117 h
    refine jr_if_eq hC (D_X12_look.g 28 rfl) 55 rfl h (fun h => ?_) (fun h => ?_)
    · refine jr_aload_n hC (D_X12_look.g 30 rfl) 0 rfl ?_
      refine jr_iload_n hC (D_X12_look.g 31 rfl) 1 rfl ?_
      refine jr_cVi hC cl_X12_488 ⟨rfl, by decide⟩ (D_X12_look.g 32 rfl) [q_i x1] h (fun r M' e => c_X12_countsTold e) rfl rfl ⟨by decide, by decide⟩ (Nat.le_of_ble_eq_true rfl) ⟨Nat.le_of_ble_eq_true rfl, Nat.le_of_ble_eq_true rfl⟩ (fun v10 M11 h => ?_)
      refine jr_pop hC (D_X12_look.g 33 rfl) rfl ?_
      refine jr_aload_n hC (D_X12_look.g 34 rfl) 0 rfl ?_
      refine jr_getR hC fl_X12_140 rfl (D_X12_look.g 35 rfl) h (fun r12 h => ?_)
      refine jr_iload hC (D_X12_look.g 36 rfl) 5 rfl ?_
      refine jr_iconst hC (D_X12_look.g 37 rfl) ?_
      refine jr_zast hC (D_X12_look.g 38 rfl) h (fun M13 _ h => ?_)
      refine jr_aload_n hC (D_X12_look.g 39 rfl) 0 rfl ?_
      refine jr_iconst hC (D_X12_look.g 40 rfl) ?_
      refine jr_cVi hC cl_X12_429 ⟨rfl, by decide⟩ (D_X12_look.g 41 rfl) [q_i 1] h (fun r M' e => c_X12_counts e) rfl rfl ⟨by decide, by decide⟩ (Nat.le_of_ble_eq_true rfl) ⟨Nat.le_of_ble_eq_true rfl, Nat.le_of_ble_eq_true rfl⟩ (fun v14 M15 h => ?_)
      refine jr_istore hC (D_X12_look.g 42 rfl) (by decide) rfl ?_
      refine jr_iload hC (D_X12_look.g 43 rfl) 0 rfl ?_
      refine jr_iload_n hC (D_X12_look.g 44 rfl) 3 rfl ?_
      refine jr_iload hC (D_X12_look.g 45 rfl) 0 rfl ?_
      refine jr_isub hC (D_X12_look.g 46 rfl) ?_
      refine jr_join h (fun j => ∀ (z0_94 : Int), j z0_94 = some (r, M') → JW E X 8 0 0 M15 94 [(0, q_r E th), (1, q_i x1), (2, q_i v4), (3, q_i y3_29), (4, q_i y4_29), (5, q_i y5_29)] [q_i z0_94]) ?_ ?_
      · intro z0_94 h
        refine jr_istore hC (D_X12_look.g 53 rfl) (by decide) rfl ?_
        refine jr_iload_n hC (D_X12_look.g 54 rfl) 4 rfl ?_
        refine jr_join h (fun j => j = some (r, M') → JW E X 8 0 0 M15 110 [(0, q_r E th), (1, q_i x1), (2, q_i v4), (5, q_i y5_29), (7, q_i z0_94)] []) ?_ ?_
        · intro  h
          refine jr_iload hC (D_X12_look.g 60 rfl) 3 rfl ?_
          refine jr_istore_n hC (D_X12_look.g 61 rfl) (by decide) rfl ?_
          refine jr_iload hC (D_X12_look.g 62 rfl) 5 rfl ?_
          refine jr_istore hC (D_X12_look.g 63 rfl) (by decide) rfl ?_
          refine jr_pick [2, 3, 4, 1, 0, 5] rfl ?_
          exact hj_117 y5_29 z0_94 M15 h
        intro j_110 hj_110 h
        refine jr_if_lt hC (D_X12_look.g 55 rfl) 110 rfl h (fun h => ?_) (fun h => ?_)
        · refine jr_pick [1, 2, 3, 6, 0] rfl ?_
          exact hj_110  h
        refine jr_iload hC (D_X12_look.g 56 rfl) 0 rfl ?_
        refine jr_iload hC (D_X12_look.g 57 rfl) 5 rfl ?_
        refine jr_icmp_lt hC (D_X12_look.g 58 rfl) 110 rfl h (fun h => ?_) (fun h => ?_)
        · refine jr_pick [1, 2, 3, 6, 0] rfl ?_
          exact hj_110  h
        refine jr_goto hC (D_X12_look.g 59 rfl) 117 rfl ?_
        refine jr_pick [1, 2, 3, 4, 5, 6] rfl ?_
        exact hj_117 y3_29 y4_29 M15 h
      intro j_94 hj_94 h
      refine jr_icmp_le hC (D_X12_look.g 47 rfl) 90 rfl h (fun h => ?_) (fun h => ?_)
      · refine jr_iload_n hC (D_X12_look.g 50 rfl) 3 rfl ?_
        refine jr_iload hC (D_X12_look.g 51 rfl) 0 rfl ?_
        refine jr_isub hC (D_X12_look.g 52 rfl) ?_
        refine jr_pick [1, 2, 3, 4, 5, 6] rfl ?_
        exact hj_94 (v4 - v14) h
      refine jr_iload hC (D_X12_look.g 48 rfl) 0 rfl ?_
      refine jr_goto hC (D_X12_look.g 49 rfl) 94 rfl ?_
      refine jr_pick [1, 2, 3, 4, 5, 6] rfl ?_
      exact hj_94 v14 h
    refine jr_goto hC (D_X12_look.g 29 rfl) 117 rfl ?_
    exact hj_117 y3_29 y4_29 M7 h
  refine jr_iload_n hC (D_X12_look.g 66 rfl) 3 rfl ?_
  exact jr_iret hC (D_X12_look.g 67 rfl) hr hE h
def f_X12_hold (th : Nat) (x1 : Int) (M : jMem) : Option (Int × jMem) :=
jbd (f_X12_in x1 0 2 M) fun v1 M2 =>
if jd_wr v1 = 0 then (jm_z 0 M2)
else ((jm_gR 12 66 M2 th).bind fun r3 =>
(jm_st 22 M2 r3 x1 (jd_z 1)).bind fun M4 =>
jlp2 (fun rec_20 (y2_20 : Int) (M_20 : jMem) =>
if jd_wr y2_20 < jd_wr 75 then ((jm_gR 12 67 M_20 th).bind fun r5 =>
(jm_gR 12 47 M_20 th).bind fun r6 =>
(jm_ld 20 M_20 r6 y2_20).bind fun v7 =>
(jm_st 20 M_20 r5 ((75 * x1) + y2_20) v7).bind fun M8 =>
rec_20 (y2_20 + 1) M8)
else (jm_z 1 M_20)) jfuel 0 M4)
theorem D_X12_hold : jDs cX12_hold [(0, .iload_n 1, 1, 1), (1, .iconst 0, 1, 2), (2, .iconst 2, 1, 3), (3, .invokestatic 318, 3, 6), (6, .ifCond .ne 5, 3, 9), (9, .iconst 0, 1, 10), (10, .ireturn, 1, 11), (11, .aload_n 0, 1, 12), (12, .getfield 158, 3, 15), (15, .iload_n 1, 1, 16), (16, .iconst 1, 1, 17), (17, .bastore, 1, 18), (18, .iconst 0, 1, 19), (19, .istore_n 2, 1, 20), (20, .iload_n 2, 1, 21), (21, .bipush 75, 2, 23), (23, .if_icmp .ge 26, 3, 26), (26, .aload_n 0, 1, 27), (27, .getfield 161, 3, 30), (30, .bipush 75, 2, 32), (32, .iload_n 1, 1, 33), (33, .imul, 1, 34), (34, .iload_n 2, 1, 35), (35, .iadd, 1, 36), (36, .aload_n 0, 1, 37), (37, .getfield 110, 3, 40), (40, .iload_n 2, 1, 41), (41, .iaload, 1, 42), (42, .iastore, 1, 43), (43, .iinc 2 1, 3, 46), (46, .goto (-26), 3, 49), (49, .iconst 1, 1, 50), (50, .ireturn, 1, 51)] := by unfold jDs; decide +kernel
set_option maxRecDepth 100000 in
set_option maxHeartbeats 4000000 in
theorem c_X12_hold {E : jE} {th : Nat} {x1 : Int} {M : jMem} {r : Int} {M' : jMem} (h : f_X12_hold th x1 M = some (r, M')) : jMet E yX12_hold cX12_hold 3 (some .boolean) 3 0 0 [q_r E th, q_i x1] M (some (q_i r)) M' := by
  unfold f_X12_hold at h
  refine jMet.of RX12 rfl (by decide +kernel) (Nat.le_of_ble_eq_true rfl) [(0, q_r E th), (1, q_i x1)] rfl (fun X hC hE hr hn => ?_)
  refine jr_iload_n hC (D_X12_hold.g 0 rfl) 1 rfl ?_
  refine jr_iconst hC (D_X12_hold.g 1 rfl) ?_
  refine jr_iconst hC (D_X12_hold.g 2 rfl) ?_
  refine jr_cSi hC cl_X12_318 (D_X12_hold.g 3 rfl) [q_i x1, q_i 0, q_i 2] h (fun r M' e => c_X12_in e) rfl rfl ⟨by decide, by decide⟩ (Nat.le_of_ble_eq_true rfl) ⟨Nat.le_of_ble_eq_true rfl, Nat.le_of_ble_eq_true rfl⟩ (fun v1 M2 h => ?_)
  refine jr_if_ne hC (D_X12_hold.g 4 rfl) 11 rfl h (fun h => ?_) (fun h => ?_)
  · refine jr_iconst hC (D_X12_hold.g 5 rfl) ?_
    exact jr_zret hC (D_X12_hold.g 6 rfl) hr hE h
  refine jr_aload_n hC (D_X12_hold.g 7 rfl) 0 rfl ?_
  refine jr_getR hC fl_X12_158 rfl (D_X12_hold.g 8 rfl) h (fun r3 h => ?_)
  refine jr_iload_n hC (D_X12_hold.g 9 rfl) 1 rfl ?_
  refine jr_iconst hC (D_X12_hold.g 10 rfl) ?_
  refine jr_zast hC (D_X12_hold.g 11 rfl) h (fun M4 _ h => ?_)
  refine jr_iconst hC (D_X12_hold.g 12 rfl) ?_
  refine jr_istore_n hC (D_X12_hold.g 13 rfl) (by decide) rfl ?_
  refine jr_pick [1, 2, 0] rfl ?_
  refine jr_lp2 (fun (y2_20 : Int) (M_20 : jMem) => JW E X 3 0 0 M_20 20 [(0, q_r E th), (1, q_i x1), (2, q_i y2_20)] []) ?_ jfuel 0 M4 h
  intro rec_20 hrec_20 y2_20 M_20 h
  refine jr_iload_n hC (D_X12_hold.g 14 rfl) 2 rfl ?_
  refine jr_bipush hC (D_X12_hold.g 15 rfl) bp_75 ?_
  refine jr_icmp_ge hC (D_X12_hold.g 16 rfl) 49 rfl h (fun h => ?_) (fun h => ?_)
  · refine jr_aload_n hC (D_X12_hold.g 17 rfl) 0 rfl ?_
    refine jr_getR hC fl_X12_161 rfl (D_X12_hold.g 18 rfl) h (fun r5 h => ?_)
    refine jr_bipush hC (D_X12_hold.g 19 rfl) bp_75 ?_
    refine jr_iload_n hC (D_X12_hold.g 20 rfl) 1 rfl ?_
    refine jr_imul hC (D_X12_hold.g 21 rfl) ?_
    refine jr_iload_n hC (D_X12_hold.g 22 rfl) 2 rfl ?_
    refine jr_iadd hC (D_X12_hold.g 23 rfl) ?_
    refine jr_aload_n hC (D_X12_hold.g 24 rfl) 0 rfl ?_
    refine jr_getR hC fl_X12_110 rfl (D_X12_hold.g 25 rfl) h (fun r6 h => ?_)
    refine jr_iload_n hC (D_X12_hold.g 26 rfl) 2 rfl ?_
    refine jr_iald hC (D_X12_hold.g 27 rfl) h (fun v7 h => ?_)
    refine jr_iast hC (D_X12_hold.g 28 rfl) h (fun M8 _ h => ?_)
    refine jr_iinc hC (D_X12_hold.g 29 rfl) 2 rfl (by decide) rfl ?_
    refine jr_goto hC (D_X12_hold.g 30 rfl) 20 rfl ?_
    refine jr_pick [1, 2, 0] rfl ?_
    exact hrec_20 (y2_20 + 1) M8 h
  refine jr_iconst hC (D_X12_hold.g 31 rfl) ?_
  exact jr_zret hC (D_X12_hold.g 32 rfl) hr hE h
def f_X12_restore (th : Nat) (x1 : Int) (M : jMem) : Option (Int × jMem) :=
jbd (f_X12_in x1 0 2 M) fun v1 M2 =>
if jd_wr v1 = 0 then (jm_z 0 M2)
else ((jm_gR 12 66 M2 th).bind fun r3 =>
(jm_ld 22 M2 r3 x1).bind fun v4 =>
if jd_wr v4 = 0 then (jm_z 0 M2)
else (jlp2 (fun rec_22 (y2_22 : Int) (M_22 : jMem) =>
if jd_wr y2_22 < jd_wr 75 then ((jm_gR 12 47 M_22 th).bind fun r5 =>
(jm_gR 12 67 M_22 th).bind fun r6 =>
(jm_ld 20 M_22 r6 ((75 * x1) + y2_22)).bind fun v7 =>
(jm_st 20 M_22 r5 y2_22 v7).bind fun M8 =>
rec_22 (y2_22 + 1) M8)
else ((jm_pI 12 53 M_22 th 0).bind fun M9 =>
jm_z 1 M9)) jfuel 0 M2))
theorem D_X12_restore : jDs cX12_restore [(0, .iload_n 1, 1, 1), (1, .iconst 0, 1, 2), (2, .iconst 2, 1, 3), (3, .invokestatic 318, 3, 6), (6, .ifCond .eq 12, 3, 9), (9, .aload_n 0, 1, 10), (10, .getfield 158, 3, 13), (13, .iload_n 1, 1, 14), (14, .baload, 1, 15), (15, .ifCond .ne 5, 3, 18), (18, .iconst 0, 1, 19), (19, .ireturn, 1, 20), (20, .iconst 0, 1, 21), (21, .istore_n 2, 1, 22), (22, .iload_n 2, 1, 23), (23, .bipush 75, 2, 25), (25, .if_icmp .ge 26, 3, 28), (28, .aload_n 0, 1, 29), (29, .getfield 110, 3, 32), (32, .iload_n 2, 1, 33), (33, .aload_n 0, 1, 34), (34, .getfield 161, 3, 37), (37, .bipush 75, 2, 39), (39, .iload_n 1, 1, 40), (40, .imul, 1, 41), (41, .iload_n 2, 1, 42), (42, .iadd, 1, 43), (43, .iaload, 1, 44), (44, .iastore, 1, 45), (45, .iinc 2 1, 3, 48), (48, .goto (-26), 3, 51), (51, .aload_n 0, 1, 52), (52, .iconst 0, 1, 53), (53, .putfield 268, 3, 56), (56, .iconst 1, 1, 57), (57, .ireturn, 1, 58)] := by unfold jDs; decide +kernel
set_option maxRecDepth 100000 in
set_option maxHeartbeats 4000000 in
theorem c_X12_restore {E : jE} {th : Nat} {x1 : Int} {M : jMem} {r : Int} {M' : jMem} (h : f_X12_restore th x1 M = some (r, M')) : jMet E yX12_restore cX12_restore 3 (some .boolean) 3 0 0 [q_r E th, q_i x1] M (some (q_i r)) M' := by
  unfold f_X12_restore at h
  refine jMet.of RX12 rfl (by decide +kernel) (Nat.le_of_ble_eq_true rfl) [(0, q_r E th), (1, q_i x1)] rfl (fun X hC hE hr hn => ?_)
  refine jr_iload_n hC (D_X12_restore.g 0 rfl) 1 rfl ?_
  refine jr_iconst hC (D_X12_restore.g 1 rfl) ?_
  refine jr_iconst hC (D_X12_restore.g 2 rfl) ?_
  refine jr_cSi hC cl_X12_318 (D_X12_restore.g 3 rfl) [q_i x1, q_i 0, q_i 2] h (fun r M' e => c_X12_in e) rfl rfl ⟨by decide, by decide⟩ (Nat.le_of_ble_eq_true rfl) ⟨Nat.le_of_ble_eq_true rfl, Nat.le_of_ble_eq_true rfl⟩ (fun v1 M2 h => ?_)
  refine jr_if_eq hC (D_X12_restore.g 4 rfl) 18 rfl h (fun h => ?_) (fun h => ?_)
  · refine jr_iconst hC (D_X12_restore.g 10 rfl) ?_
    exact jr_zret hC (D_X12_restore.g 11 rfl) hr hE h
  refine jr_aload_n hC (D_X12_restore.g 5 rfl) 0 rfl ?_
  refine jr_getR hC fl_X12_158 rfl (D_X12_restore.g 6 rfl) h (fun r3 h => ?_)
  refine jr_iload_n hC (D_X12_restore.g 7 rfl) 1 rfl ?_
  refine jr_zald hC (D_X12_restore.g 8 rfl) h (fun v4 h => ?_)
  refine jr_if_ne hC (D_X12_restore.g 9 rfl) 20 rfl h (fun h => ?_) (fun h => ?_)
  · refine jr_iconst hC (D_X12_restore.g 10 rfl) ?_
    exact jr_zret hC (D_X12_restore.g 11 rfl) hr hE h
  refine jr_iconst hC (D_X12_restore.g 12 rfl) ?_
  refine jr_istore_n hC (D_X12_restore.g 13 rfl) (by decide) rfl ?_
  refine jr_pick [1, 2, 0] rfl ?_
  refine jr_lp2 (fun (y2_22 : Int) (M_22 : jMem) => JW E X 3 0 0 M_22 22 [(0, q_r E th), (1, q_i x1), (2, q_i y2_22)] []) ?_ jfuel 0 M2 h
  intro rec_22 hrec_22 y2_22 M_22 h
  refine jr_iload_n hC (D_X12_restore.g 14 rfl) 2 rfl ?_
  refine jr_bipush hC (D_X12_restore.g 15 rfl) bp_75 ?_
  refine jr_icmp_ge hC (D_X12_restore.g 16 rfl) 51 rfl h (fun h => ?_) (fun h => ?_)
  · refine jr_aload_n hC (D_X12_restore.g 17 rfl) 0 rfl ?_
    refine jr_getR hC fl_X12_110 rfl (D_X12_restore.g 18 rfl) h (fun r5 h => ?_)
    refine jr_iload_n hC (D_X12_restore.g 19 rfl) 2 rfl ?_
    refine jr_aload_n hC (D_X12_restore.g 20 rfl) 0 rfl ?_
    refine jr_getR hC fl_X12_161 rfl (D_X12_restore.g 21 rfl) h (fun r6 h => ?_)
    refine jr_bipush hC (D_X12_restore.g 22 rfl) bp_75 ?_
    refine jr_iload_n hC (D_X12_restore.g 23 rfl) 1 rfl ?_
    refine jr_imul hC (D_X12_restore.g 24 rfl) ?_
    refine jr_iload_n hC (D_X12_restore.g 25 rfl) 2 rfl ?_
    refine jr_iadd hC (D_X12_restore.g 26 rfl) ?_
    refine jr_iald hC (D_X12_restore.g 27 rfl) h (fun v7 h => ?_)
    refine jr_iast hC (D_X12_restore.g 28 rfl) h (fun M8 _ h => ?_)
    refine jr_iinc hC (D_X12_restore.g 29 rfl) 2 rfl (by decide) rfl ?_
    refine jr_goto hC (D_X12_restore.g 30 rfl) 22 rfl ?_
    refine jr_pick [1, 2, 0] rfl ?_
    exact hrec_22 (y2_22 + 1) M8 h
  refine jr_aload_n hC (D_X12_restore.g 31 rfl) 0 rfl ?_
  refine jr_iconst hC (D_X12_restore.g 32 rfl) ?_
  refine jr_putI hC fl_X12_268 rfl (jnfin rfl) (D_X12_restore.g 33 rfl) h (fun M9 _ h => ?_)
  refine jr_iconst hC (D_X12_restore.g 34 rfl) ?_
  exact jr_zret hC (D_X12_restore.g 35 rfl) hr hE h
def f_X12_count (th : Nat) (x1 : Int) (M : jMem) : Option (Int × jMem) :=
jcall 12 M th (f_X12_copies th M) fun _ M2 =>
if jd_wr x1 = 0 then (jcall 12 M2 th (f_X12_w th M2) fun v3 M4 =>
some (v3, M4))
else if jd_wr x1 = 1 then ((jm_gR 12 21 M2 th).bind fun r5 =>
(jm_gI 12 18 M2 th).bind fun v6 =>
(jm_ld 20 M2 r5 v6).bind fun v7 =>
some (v7, M2))
else if jd_wr x1 = 2 then ((jm_gR 12 22 M2 th).bind fun r8 =>
(jm_gI 12 18 M2 th).bind fun v9 =>
(jm_ld 20 M2 r8 v9).bind fun v10 =>
some (v10, M2))
else if jd_wr x1 = 3 then (jcall 12 M2 th (f_X12_stoneMany th M2) fun v11 M12 =>
some (v11, M12))
else if jd_wr x1 = 4 then (jlp3 (fun rec_120 (y2_120 : Int) (y3_120 : Int) (M_120 : jMem) =>
if jd_wr y3_120 < jd_wr 18 then (jcall 12 M_120 th (f_X12_lies th y3_120 M_120) fun v13 M14 =>
jjq (fun (y2_149 : Int) =>
rec_120 y2_149 (y3_120 + 1) M14) fun j_149 =>
if jd_wr v13 = 0 then (j_149 y2_120)
else ((jm_gR 12 48 M14 th).bind fun r15 =>
(jm_ld 20 M14 r15 (18 + y3_120)).bind fun v16 =>
if jd_wr v16 = 0 then (j_149 (y2_120 + 1))
else (j_149 y2_120)))
else (some (y2_120, M_120))) jfuel 0 0 M2)
else if jd_wr x1 = 5 then ((jm_gR 12 48 M2 th).bind fun r17 =>
(jm_ld 20 M2 r17 72).bind fun v18 =>
some (v18, M2))
else if jd_wr x1 = 6 then ((jm_gR 12 48 M2 th).bind fun r19 =>
(jm_ld 20 M2 r19 73).bind fun v20 =>
some (v20, M2))
else if jd_wr x1 = 7 then (jcall 12 M2 th (f_X12_freeMany th M2) fun v21 M22 =>
if jd_wr v21 = 0 then (some (1, M22))
else (some (0, M22)))
else if jd_wr x1 = 8 then ((jm_gI 12 2 M2 th).bind fun v23 =>
some (v23, M2))
else if jd_wr x1 = 9 then ((jm_gI 12 53 M2 th).bind fun v24 =>
some (v24, M2))
else if jd_wr x1 = 10 then ((jm_gI 12 63 M2 th).bind fun v25 =>
some (v25, M2))
else if jd_wr x1 = 11 then ((jm_gR 12 66 M2 th).bind fun r26 =>
(jm_ld 22 M2 r26 0).bind fun v27 =>
jjq (fun (z0_215 : Int) =>
(jm_gR 12 66 M2 th).bind fun r28 =>
(jm_ld 22 M2 r28 1).bind fun v29 =>
jjq (fun (z0_229 : Int) =>
(jm_gR 12 66 M2 th).bind fun r30 =>
(jm_ld 22 M2 r30 2).bind fun v31 =>
jjq (fun (z0_244 : Int) =>
some (((z0_215 + z0_229) + z0_244), M2)) fun j_244 =>
if jd_wr v31 = 0 then (j_244 0)
else (j_244 1)) fun j_229 =>
if jd_wr v29 = 0 then (j_229 0)
else (j_229 1)) fun j_215 =>
if jd_wr v27 = 0 then (j_215 0)
else (j_215 1))
else if jd_wr x1 = 12 then ((jm_gR 12 48 M2 th).bind fun r32 =>
(jm_ld 20 M2 r32 74).bind fun v33 =>
some (v33, M2))
else if jd_wr x1 = 13 then (jlp3 (fun rec_256 (y2_256 : Int) (y3_256 : Int) (M_256 : jMem) =>
if jd_wr y3_256 < jd_wr 18 then (jcall 12 M_256 th (f_X12_lies th y3_256 M_256) fun v34 M35 =>
jjq (fun (y2_276 : Int) =>
rec_256 y2_276 (y3_256 + 1) M35) fun j_276 =>
if jd_wr v34 = 0 then (j_276 y2_256)
else (j_276 (jd_or y2_256 (jd_shl 1 y3_256))))
else (some (y2_256, M_256))) jfuel 0 0 M2)
else if jd_wr x1 = 14 then (jcall 12 M2 th (f_X12_freeMany th M2) fun v36 M37 =>
some (v36, M37))
else if jd_wr x1 = 15 then (jlp3 (fun rec_291 (y2_291 : Int) (y3_291 : Int) (M_291 : jMem) =>
if jd_wr y3_291 < jd_wr 18 then (jcall 12 M_291 th (f_X12_lies th y3_291 M_291) fun v38 M39 =>
jjq (fun (y2_313 : Int) (M_313 : jMem) =>
rec_291 y2_313 (y3_291 + 1) M_313) fun j_313 =>
if jd_wr v38 = 0 then (j_313 y2_291 M39)
else (jcall 12 M39 th (f_X12_asksOf th y3_291 M39) fun v40 M41 =>
j_313 (y2_291 + v40) M41))
else (some (y2_291, M_291))) jfuel 0 0 M2)
else if jd_wr x1 = 16 then (jlp3 (fun rec_323 (y2_323 : Int) (y3_323 : Int) (M_323 : jMem) =>
if jd_wr y3_323 < jd_wr 18 then (jcall 12 M_323 th (f_X12_lies th y3_323 M_323) fun v42 M43 =>
jjq (fun (y2_349 : Int) =>
rec_323 y2_349 (y3_323 + 1) M43) fun j_349 =>
if jd_wr v42 = 0 then (j_349 y2_323)
else ((jm_gR 12 48 M43 th).bind fun r44 =>
(jm_ld 20 M43 r44 (36 + y3_323)).bind fun v45 =>
j_349 (y2_323 + v45)))
else (some (y2_323, M_323))) jfuel 0 0 M2)
else (some ((-1), M2))
theorem D_X12_count : jDs cX12_count [(0, .aload_n 0, 1, 1), (1, .invokevirtual 385, 3, 4), (4, .iconst 0, 1, 5), (5, .istore_n 2, 1, 6), (6, .iload_n 1, 1, 7), (7, .tableswitch 350 0 16 #[81, 86, 96, 106, 111, 150, 158, 166, 179, 184, 189, 194, 239, 247, 277, 282, 314], 81, 88), (88, .aload_n 0, 1, 89), (89, .invokevirtual 322, 3, 92), (92, .ireturn, 1, 93), (93, .aload_n 0, 1, 94), (94, .getfield 43, 3, 97), (97, .aload_n 0, 1, 98), (98, .getfield 245, 3, 101), (101, .iaload, 1, 102), (102, .ireturn, 1, 103), (103, .aload_n 0, 1, 104), (104, .getfield 46, 3, 107), (107, .aload_n 0, 1, 108), (108, .getfield 245, 3, 111), (111, .iaload, 1, 112), (112, .ireturn, 1, 113), (113, .aload_n 0, 1, 114), (114, .invokevirtual 344, 3, 117), (117, .ireturn, 1, 118), (118, .iconst 0, 1, 119), (119, .istore_n 3, 1, 120), (120, .iload_n 3, 1, 121), (121, .bipush 18, 2, 123), (123, .if_icmp .ge 32, 3, 126), (126, .aload_n 0, 1, 127), (127, .iload_n 3, 1, 128), (128, .invokevirtual 332, 3, 131), (131, .ifCond .eq 18, 3, 134), (134, .aload_n 0, 1, 135), (135, .getfield 113, 3, 138), (138, .bipush 18, 2, 140), (140, .iload_n 3, 1, 141), (141, .iadd, 1, 142), (142, .iaload, 1, 143), (143, .ifCond .ne 6, 3, 146), (146, .iinc 2 1, 3, 149), (149, .iinc 3 1, 3, 152), (152, .goto (-32), 3, 155), (155, .iload_n 2, 1, 156), (156, .ireturn, 1, 157), (157, .aload_n 0, 1, 158), (158, .getfield 113, 3, 161), (161, .bipush 72, 2, 163), (163, .iaload, 1, 164), (164, .ireturn, 1, 165), (165, .aload_n 0, 1, 166), (166, .getfield 113, 3, 169), (169, .bipush 73, 2, 171), (171, .iaload, 1, 172), (172, .ireturn, 1, 173), (173, .aload_n 0, 1, 174), (174, .invokevirtual 454, 3, 177), (177, .ifCond .ne 7, 3, 180), (180, .iconst 1, 1, 181), (181, .goto 4, 3, 184), (184, .iconst 0, 1, 185), (185, .ireturn, 1, 186), (186, .aload_n 0, 1, 187), (187, .getfield 178, 3, 190), (190, .ireturn, 1, 191), (191, .aload_n 0, 1, 192), (192, .getfield 268, 3, 195), (195, .ireturn, 1, 196), (196, .aload_n 0, 1, 197), (197, .getfield 271, 3, 200), (200, .ireturn, 1, 201), (201, .aload_n 0, 1, 202), (202, .getfield 158, 3, 205), (205, .iconst 0, 1, 206), (206, .baload, 1, 207), (207, .ifCond .eq 7, 3, 210), (210, .iconst 1, 1, 211), (211, .goto 4, 3, 214), (214, .iconst 0, 1, 215), (215, .aload_n 0, 1, 216), (216, .getfield 158, 3, 219), (219, .iconst 1, 1, 220), (220, .baload, 1, 221), (221, .ifCond .eq 7, 3, 224), (224, .iconst 1, 1, 225), (225, .goto 4, 3, 228), (228, .iconst 0, 1, 229), (229, .iadd, 1, 230), (230, .aload_n 0, 1, 231), (231, .getfield 158, 3, 234), (234, .iconst 2, 1, 235), (235, .baload, 1, 236), (236, .ifCond .eq 7, 3, 239), (239, .iconst 1, 1, 240), (240, .goto 4, 3, 243), (243, .iconst 0, 1, 244), (244, .iadd, 1, 245), (245, .ireturn, 1, 246), (246, .aload_n 0, 1, 247), (247, .getfield 113, 3, 250), (250, .bipush 74, 2, 252), (252, .iaload, 1, 253), (253, .ireturn, 1, 254), (254, .iconst 0, 1, 255), (255, .istore_n 3, 1, 256), (256, .iload_n 3, 1, 257), (257, .bipush 18, 2, 259), (259, .if_icmp .ge 23, 3, 262), (262, .aload_n 0, 1, 263), (263, .iload_n 3, 1, 264), (264, .invokevirtual 332, 3, 267), (267, .ifCond .eq 9, 3, 270), (270, .iload_n 2, 1, 271), (271, .iconst 1, 1, 272), (272, .iload_n 3, 1, 273), (273, .ishl, 1, 274), (274, .ior, 1, 275), (275, .istore_n 2, 1, 276), (276, .iinc 3 1, 3, 279), (279, .goto (-23), 3, 282), (282, .iload_n 2, 1, 283), (283, .ireturn, 1, 284), (284, .aload_n 0, 1, 285), (285, .invokevirtual 454, 3, 288), (288, .ireturn, 1, 289), (289, .iconst 0, 1, 290), (290, .istore_n 3, 1, 291), (291, .iload_n 3, 1, 292), (292, .bipush 18, 2, 294), (294, .if_icmp .ge 25, 3, 297), (297, .aload_n 0, 1, 298), (298, .iload_n 3, 1, 299), (299, .invokevirtual 332, 3, 302), (302, .ifCond .eq 11, 3, 305), (305, .iload_n 2, 1, 306), (306, .aload_n 0, 1, 307), (307, .iload_n 3, 1, 308), (308, .invokevirtual 370, 3, 311), (311, .iadd, 1, 312), (312, .istore_n 2, 1, 313), (313, .iinc 3 1, 3, 316), (316, .goto (-25), 3, 319), (319, .iload_n 2, 1, 320), (320, .ireturn, 1, 321), (321, .iconst 0, 1, 322), (322, .istore_n 3, 1, 323), (323, .iload_n 3, 1, 324), (324, .bipush 18, 2, 326), (326, .if_icmp .ge 29, 3, 329), (329, .aload_n 0, 1, 330), (330, .iload_n 3, 1, 331), (331, .invokevirtual 332, 3, 334), (334, .ifCond .eq 15, 3, 337), (337, .iload_n 2, 1, 338), (338, .aload_n 0, 1, 339), (339, .getfield 113, 3, 342), (342, .bipush 36, 2, 344), (344, .iload_n 3, 1, 345), (345, .iadd, 1, 346), (346, .iaload, 1, 347), (347, .iadd, 1, 348), (348, .istore_n 2, 1, 349), (349, .iinc 3 1, 3, 352), (352, .goto (-29), 3, 355), (355, .iload_n 2, 1, 356), (356, .ireturn, 1, 357), (357, .iconst (-1), 1, 358), (358, .ireturn, 1, 359)] := by unfold jDs; decide +kernel
set_option maxRecDepth 100000 in
set_option maxHeartbeats 4000000 in
theorem c_X12_count {E : jE} {th : Nat} {x1 : Int} {M : jMem} {r : Int} {M' : jMem} (h : f_X12_count th x1 M = some (r, M')) : jMet E yX12_count cX12_count 4 (some .int) 6 0 0 [q_r E th, q_i x1] M (some (q_i r)) M' := by
  unfold f_X12_count at h
  refine jMet.of RX12 rfl (by decide +kernel) (Nat.le_of_ble_eq_true rfl) [(0, q_r E th), (1, q_i x1)] rfl (fun X hC hE hr hn => ?_)
  refine jr_aload_n hC (D_X12_count.g 0 rfl) 0 rfl ?_
  refine jr_cVv hC cl_X12_385 ⟨rfl, by decide⟩ (D_X12_count.g 1 rfl) [] h (fun r M' e => c_X12_copies e) rfl rfl ⟨by decide, by decide⟩ (Nat.le_of_ble_eq_true rfl) ⟨Nat.le_of_ble_eq_true rfl, Nat.le_of_ble_eq_true rfl⟩ (fun _ M2 h => ?_)
  refine jr_iconst hC (D_X12_count.g 2 rfl) ?_
  refine jr_istore_n hC (D_X12_count.g 3 rfl) (by decide) rfl ?_
  refine jr_iload_n hC (D_X12_count.g 4 rfl) 2 rfl ?_
  by_cases c_0 : jd_wr x1 = 0
  · have h := jif_t h c_0
    refine jr_tswIn hC (D_X12_count.g 5 rfl) 0 c_0 (by decide) rfl 88 rfl ?_
    refine jr_aload_n hC (D_X12_count.g 6 rfl) 1 rfl ?_
    refine jr_cVi hC cl_X12_322 ⟨rfl, by decide⟩ (D_X12_count.g 7 rfl) [] h (fun r M' e => c_X12_w e) rfl rfl ⟨by decide, by decide⟩ (Nat.le_of_ble_eq_true rfl) ⟨Nat.le_of_ble_eq_true rfl, Nat.le_of_ble_eq_true rfl⟩ (fun v3 M4 h => ?_)
    exact jr_iret hC (D_X12_count.g 8 rfl) hr hE h
  replace h := jif_f h c_0
  by_cases c_1 : jd_wr x1 = 1
  · have h := jif_t h c_1
    refine jr_tswIn hC (D_X12_count.g 5 rfl) 1 c_1 (by decide) rfl 93 rfl ?_
    refine jr_aload_n hC (D_X12_count.g 9 rfl) 1 rfl ?_
    refine jr_getR hC fl_X12_43 rfl (D_X12_count.g 10 rfl) h (fun r5 h => ?_)
    refine jr_aload_n hC (D_X12_count.g 11 rfl) 1 rfl ?_
    refine jr_getI hC fl_X12_245 rfl (D_X12_count.g 12 rfl) h (fun v6 h => ?_)
    refine jr_iald hC (D_X12_count.g 13 rfl) h (fun v7 h => ?_)
    exact jr_iret hC (D_X12_count.g 14 rfl) hr hE h
  replace h := jif_f h c_1
  by_cases c_2 : jd_wr x1 = 2
  · have h := jif_t h c_2
    refine jr_tswIn hC (D_X12_count.g 5 rfl) 2 c_2 (by decide) rfl 103 rfl ?_
    refine jr_aload_n hC (D_X12_count.g 15 rfl) 1 rfl ?_
    refine jr_getR hC fl_X12_46 rfl (D_X12_count.g 16 rfl) h (fun r8 h => ?_)
    refine jr_aload_n hC (D_X12_count.g 17 rfl) 1 rfl ?_
    refine jr_getI hC fl_X12_245 rfl (D_X12_count.g 18 rfl) h (fun v9 h => ?_)
    refine jr_iald hC (D_X12_count.g 19 rfl) h (fun v10 h => ?_)
    exact jr_iret hC (D_X12_count.g 20 rfl) hr hE h
  replace h := jif_f h c_2
  by_cases c_3 : jd_wr x1 = 3
  · have h := jif_t h c_3
    refine jr_tswIn hC (D_X12_count.g 5 rfl) 3 c_3 (by decide) rfl 113 rfl ?_
    refine jr_aload_n hC (D_X12_count.g 21 rfl) 1 rfl ?_
    refine jr_cVi hC cl_X12_344 ⟨rfl, by decide⟩ (D_X12_count.g 22 rfl) [] h (fun r M' e => c_X12_stoneMany e) rfl rfl ⟨by decide, by decide⟩ (Nat.le_of_ble_eq_true rfl) ⟨Nat.le_of_ble_eq_true rfl, Nat.le_of_ble_eq_true rfl⟩ (fun v11 M12 h => ?_)
    exact jr_iret hC (D_X12_count.g 23 rfl) hr hE h
  replace h := jif_f h c_3
  by_cases c_4 : jd_wr x1 = 4
  · have h := jif_t h c_4
    refine jr_tswIn hC (D_X12_count.g 5 rfl) 4 c_4 (by decide) rfl 118 rfl ?_
    refine jr_iconst hC (D_X12_count.g 24 rfl) ?_
    refine jr_istore_n hC (D_X12_count.g 25 rfl) (by decide) rfl ?_
    refine jr_pick [2, 1, 0] rfl ?_
    refine jr_lp3 (fun (y2_120 : Int) (y3_120 : Int) (M_120 : jMem) => JW E X 4 0 0 M_120 120 [(0, q_r E th), (2, q_i y2_120), (3, q_i y3_120)] []) ?_ jfuel 0 0 M2 h
    intro rec_120 hrec_120 y2_120 y3_120 M_120 h
    refine jr_iload_n hC (D_X12_count.g 26 rfl) 2 rfl ?_
    refine jr_bipush hC (D_X12_count.g 27 rfl) bp_18 ?_
    refine jr_icmp_ge hC (D_X12_count.g 28 rfl) 155 rfl h (fun h => ?_) (fun h => ?_)
    · refine jr_aload_n hC (D_X12_count.g 29 rfl) 0 rfl ?_
      refine jr_iload_n hC (D_X12_count.g 30 rfl) 2 rfl ?_
      refine jr_cVi hC cl_X12_332 ⟨rfl, by decide⟩ (D_X12_count.g 31 rfl) [q_i y3_120] h (fun r M' e => c_X12_lies e) rfl rfl ⟨by decide, by decide⟩ (Nat.le_of_ble_eq_true rfl) ⟨Nat.le_of_ble_eq_true rfl, Nat.le_of_ble_eq_true rfl⟩ (fun v13 M14 h => ?_)
      refine jr_join h (fun j => ∀ (y2_149 : Int), j y2_149 = some (r, M') → JW E X 4 0 0 M14 149 [(0, q_r E th), (2, q_i y2_149), (3, q_i y3_120)] []) ?_ ?_
      · intro y2_149 h
        refine jr_iinc hC (D_X12_count.g 41 rfl) 2 rfl (by decide) rfl ?_
        refine jr_goto hC (D_X12_count.g 42 rfl) 120 rfl ?_
        refine jr_pick [1, 2, 0] rfl ?_
        exact hrec_120 y2_149 (y3_120 + 1) M14 h
      intro j_149 hj_149 h
      refine jr_if_eq hC (D_X12_count.g 32 rfl) 149 rfl h (fun h => ?_) (fun h => ?_)
      · exact hj_149 y2_120 h
      refine jr_aload_n hC (D_X12_count.g 33 rfl) 0 rfl ?_
      refine jr_getR hC fl_X12_113 rfl (D_X12_count.g 34 rfl) h (fun r15 h => ?_)
      refine jr_bipush hC (D_X12_count.g 35 rfl) bp_18 ?_
      refine jr_iload_n hC (D_X12_count.g 36 rfl) 2 rfl ?_
      refine jr_iadd hC (D_X12_count.g 37 rfl) ?_
      refine jr_iald hC (D_X12_count.g 38 rfl) h (fun v16 h => ?_)
      refine jr_if_ne hC (D_X12_count.g 39 rfl) 149 rfl h (fun h => ?_) (fun h => ?_)
      · refine jr_iinc hC (D_X12_count.g 40 rfl) 1 rfl (by decide) rfl ?_
        refine jr_pick [1, 0, 2] rfl ?_
        exact hj_149 (y2_120 + 1) h
      exact hj_149 y2_120 h
    refine jr_iload_n hC (D_X12_count.g 43 rfl) 1 rfl ?_
    exact jr_iret hC (D_X12_count.g 44 rfl) hr hE h
  replace h := jif_f h c_4
  by_cases c_5 : jd_wr x1 = 5
  · have h := jif_t h c_5
    refine jr_tswIn hC (D_X12_count.g 5 rfl) 5 c_5 (by decide) rfl 157 rfl ?_
    refine jr_aload_n hC (D_X12_count.g 45 rfl) 1 rfl ?_
    refine jr_getR hC fl_X12_113 rfl (D_X12_count.g 46 rfl) h (fun r17 h => ?_)
    refine jr_bipush hC (D_X12_count.g 47 rfl) bp_72 ?_
    refine jr_iald hC (D_X12_count.g 48 rfl) h (fun v18 h => ?_)
    exact jr_iret hC (D_X12_count.g 49 rfl) hr hE h
  replace h := jif_f h c_5
  by_cases c_6 : jd_wr x1 = 6
  · have h := jif_t h c_6
    refine jr_tswIn hC (D_X12_count.g 5 rfl) 6 c_6 (by decide) rfl 165 rfl ?_
    refine jr_aload_n hC (D_X12_count.g 50 rfl) 1 rfl ?_
    refine jr_getR hC fl_X12_113 rfl (D_X12_count.g 51 rfl) h (fun r19 h => ?_)
    refine jr_bipush hC (D_X12_count.g 52 rfl) bp_73 ?_
    refine jr_iald hC (D_X12_count.g 53 rfl) h (fun v20 h => ?_)
    exact jr_iret hC (D_X12_count.g 54 rfl) hr hE h
  replace h := jif_f h c_6
  by_cases c_7 : jd_wr x1 = 7
  · have h := jif_t h c_7
    refine jr_tswIn hC (D_X12_count.g 5 rfl) 7 c_7 (by decide) rfl 173 rfl ?_
    refine jr_aload_n hC (D_X12_count.g 55 rfl) 1 rfl ?_
    refine jr_cVi hC cl_X12_454 ⟨rfl, by decide⟩ (D_X12_count.g 56 rfl) [] h (fun r M' e => c_X12_freeMany e) rfl rfl ⟨by decide, by decide⟩ (Nat.le_of_ble_eq_true rfl) ⟨Nat.le_of_ble_eq_true rfl, Nat.le_of_ble_eq_true rfl⟩ (fun v21 M22 h => ?_)
    refine jr_if_ne hC (D_X12_count.g 57 rfl) 184 rfl h (fun h => ?_) (fun h => ?_)
    · refine jr_iconst hC (D_X12_count.g 58 rfl) ?_
      refine jr_goto hC (D_X12_count.g 59 rfl) 185 rfl ?_
      exact jr_iret hC (D_X12_count.g 61 rfl) hr hE h
    refine jr_iconst hC (D_X12_count.g 60 rfl) ?_
    exact jr_iret hC (D_X12_count.g 61 rfl) hr hE h
  replace h := jif_f h c_7
  by_cases c_8 : jd_wr x1 = 8
  · have h := jif_t h c_8
    refine jr_tswIn hC (D_X12_count.g 5 rfl) 8 c_8 (by decide) rfl 186 rfl ?_
    refine jr_aload_n hC (D_X12_count.g 62 rfl) 1 rfl ?_
    refine jr_getI hC fl_X12_178 rfl (D_X12_count.g 63 rfl) h (fun v23 h => ?_)
    exact jr_iret hC (D_X12_count.g 64 rfl) hr hE h
  replace h := jif_f h c_8
  by_cases c_9 : jd_wr x1 = 9
  · have h := jif_t h c_9
    refine jr_tswIn hC (D_X12_count.g 5 rfl) 9 c_9 (by decide) rfl 191 rfl ?_
    refine jr_aload_n hC (D_X12_count.g 65 rfl) 1 rfl ?_
    refine jr_getI hC fl_X12_268 rfl (D_X12_count.g 66 rfl) h (fun v24 h => ?_)
    exact jr_iret hC (D_X12_count.g 67 rfl) hr hE h
  replace h := jif_f h c_9
  by_cases c_10 : jd_wr x1 = 10
  · have h := jif_t h c_10
    refine jr_tswIn hC (D_X12_count.g 5 rfl) 10 c_10 (by decide) rfl 196 rfl ?_
    refine jr_aload_n hC (D_X12_count.g 68 rfl) 1 rfl ?_
    refine jr_getI hC fl_X12_271 rfl (D_X12_count.g 69 rfl) h (fun v25 h => ?_)
    exact jr_iret hC (D_X12_count.g 70 rfl) hr hE h
  replace h := jif_f h c_10
  by_cases c_11 : jd_wr x1 = 11
  · have h := jif_t h c_11
    refine jr_tswIn hC (D_X12_count.g 5 rfl) 11 c_11 (by decide) rfl 201 rfl ?_
    refine jr_aload_n hC (D_X12_count.g 71 rfl) 1 rfl ?_
    refine jr_getR hC fl_X12_158 rfl (D_X12_count.g 72 rfl) h (fun r26 h => ?_)
    refine jr_iconst hC (D_X12_count.g 73 rfl) ?_
    refine jr_zald hC (D_X12_count.g 74 rfl) h (fun v27 h => ?_)
    refine jr_join h (fun j => ∀ (z0_215 : Int), j z0_215 = some (r, M') → JW E X 4 0 0 M2 215 [(0, q_r E th)] [q_i z0_215]) ?_ ?_
    · intro z0_215 h
      refine jr_aload_n hC (D_X12_count.g 79 rfl) 0 rfl ?_
      refine jr_getR hC fl_X12_158 rfl (D_X12_count.g 80 rfl) h (fun r28 h => ?_)
      refine jr_iconst hC (D_X12_count.g 81 rfl) ?_
      refine jr_zald hC (D_X12_count.g 82 rfl) h (fun v29 h => ?_)
      refine jr_join h (fun j => ∀ (z0_229 : Int), j z0_229 = some (r, M') → JW E X 4 0 0 M2 229 [(0, q_r E th)] [q_i z0_229, q_i z0_215]) ?_ ?_
      · intro z0_229 h
        refine jr_iadd hC (D_X12_count.g 87 rfl) ?_
        refine jr_aload_n hC (D_X12_count.g 88 rfl) 0 rfl ?_
        refine jr_getR hC fl_X12_158 rfl (D_X12_count.g 89 rfl) h (fun r30 h => ?_)
        refine jr_iconst hC (D_X12_count.g 90 rfl) ?_
        refine jr_zald hC (D_X12_count.g 91 rfl) h (fun v31 h => ?_)
        refine jr_join h (fun j => ∀ (z0_244 : Int), j z0_244 = some (r, M') → JW E X 4 0 0 M2 244 [] [q_i z0_244, q_i (z0_215 + z0_229)]) ?_ ?_
        · intro z0_244 h
          refine jr_iadd hC (D_X12_count.g 96 rfl) ?_
          exact jr_iret hC (D_X12_count.g 97 rfl) hr hE h
        intro j_244 hj_244 h
        refine jr_if_eq hC (D_X12_count.g 92 rfl) 243 rfl h (fun h => ?_) (fun h => ?_)
        · refine jr_iconst hC (D_X12_count.g 95 rfl) ?_
          refine jr_pick [] rfl ?_
          exact hj_244 0 h
        refine jr_iconst hC (D_X12_count.g 93 rfl) ?_
        refine jr_goto hC (D_X12_count.g 94 rfl) 244 rfl ?_
        refine jr_pick [] rfl ?_
        exact hj_244 1 h
      intro j_229 hj_229 h
      refine jr_if_eq hC (D_X12_count.g 83 rfl) 228 rfl h (fun h => ?_) (fun h => ?_)
      · refine jr_iconst hC (D_X12_count.g 86 rfl) ?_
        exact hj_229 0 h
      refine jr_iconst hC (D_X12_count.g 84 rfl) ?_
      refine jr_goto hC (D_X12_count.g 85 rfl) 229 rfl ?_
      exact hj_229 1 h
    intro j_215 hj_215 h
    refine jr_if_eq hC (D_X12_count.g 75 rfl) 214 rfl h (fun h => ?_) (fun h => ?_)
    · refine jr_iconst hC (D_X12_count.g 78 rfl) ?_
      refine jr_pick [1] rfl ?_
      exact hj_215 0 h
    refine jr_iconst hC (D_X12_count.g 76 rfl) ?_
    refine jr_goto hC (D_X12_count.g 77 rfl) 215 rfl ?_
    refine jr_pick [1] rfl ?_
    exact hj_215 1 h
  replace h := jif_f h c_11
  by_cases c_12 : jd_wr x1 = 12
  · have h := jif_t h c_12
    refine jr_tswIn hC (D_X12_count.g 5 rfl) 12 c_12 (by decide) rfl 246 rfl ?_
    refine jr_aload_n hC (D_X12_count.g 98 rfl) 1 rfl ?_
    refine jr_getR hC fl_X12_113 rfl (D_X12_count.g 99 rfl) h (fun r32 h => ?_)
    refine jr_bipush hC (D_X12_count.g 100 rfl) bp_74 ?_
    refine jr_iald hC (D_X12_count.g 101 rfl) h (fun v33 h => ?_)
    exact jr_iret hC (D_X12_count.g 102 rfl) hr hE h
  replace h := jif_f h c_12
  by_cases c_13 : jd_wr x1 = 13
  · have h := jif_t h c_13
    refine jr_tswIn hC (D_X12_count.g 5 rfl) 13 c_13 (by decide) rfl 254 rfl ?_
    refine jr_iconst hC (D_X12_count.g 103 rfl) ?_
    refine jr_istore_n hC (D_X12_count.g 104 rfl) (by decide) rfl ?_
    refine jr_pick [2, 1, 0] rfl ?_
    refine jr_lp3 (fun (y2_256 : Int) (y3_256 : Int) (M_256 : jMem) => JW E X 4 0 0 M_256 256 [(0, q_r E th), (2, q_i y2_256), (3, q_i y3_256)] []) ?_ jfuel 0 0 M2 h
    intro rec_256 hrec_256 y2_256 y3_256 M_256 h
    refine jr_iload_n hC (D_X12_count.g 105 rfl) 2 rfl ?_
    refine jr_bipush hC (D_X12_count.g 106 rfl) bp_18 ?_
    refine jr_icmp_ge hC (D_X12_count.g 107 rfl) 282 rfl h (fun h => ?_) (fun h => ?_)
    · refine jr_aload_n hC (D_X12_count.g 108 rfl) 0 rfl ?_
      refine jr_iload_n hC (D_X12_count.g 109 rfl) 2 rfl ?_
      refine jr_cVi hC cl_X12_332 ⟨rfl, by decide⟩ (D_X12_count.g 110 rfl) [q_i y3_256] h (fun r M' e => c_X12_lies e) rfl rfl ⟨by decide, by decide⟩ (Nat.le_of_ble_eq_true rfl) ⟨Nat.le_of_ble_eq_true rfl, Nat.le_of_ble_eq_true rfl⟩ (fun v34 M35 h => ?_)
      refine jr_join h (fun j => ∀ (y2_276 : Int), j y2_276 = some (r, M') → JW E X 4 0 0 M35 276 [(0, q_r E th), (2, q_i y2_276), (3, q_i y3_256)] []) ?_ ?_
      · intro y2_276 h
        refine jr_iinc hC (D_X12_count.g 118 rfl) 2 rfl (by decide) rfl ?_
        refine jr_goto hC (D_X12_count.g 119 rfl) 256 rfl ?_
        refine jr_pick [1, 2, 0] rfl ?_
        exact hrec_256 y2_276 (y3_256 + 1) M35 h
      intro j_276 hj_276 h
      refine jr_if_eq hC (D_X12_count.g 111 rfl) 276 rfl h (fun h => ?_) (fun h => ?_)
      · exact hj_276 y2_256 h
      refine jr_iload_n hC (D_X12_count.g 112 rfl) 1 rfl ?_
      refine jr_iconst hC (D_X12_count.g 113 rfl) ?_
      refine jr_iload_n hC (D_X12_count.g 114 rfl) 2 rfl ?_
      refine jr_ishl hC (D_X12_count.g 115 rfl) ?_
      refine jr_ior hC (D_X12_count.g 116 rfl) ?_
      refine jr_istore_n hC (D_X12_count.g 117 rfl) (by decide) rfl ?_
      refine jr_pick [1, 0, 2] rfl ?_
      exact hj_276 (jd_or y2_256 (jd_shl 1 y3_256)) h
    refine jr_iload_n hC (D_X12_count.g 120 rfl) 1 rfl ?_
    exact jr_iret hC (D_X12_count.g 121 rfl) hr hE h
  replace h := jif_f h c_13
  by_cases c_14 : jd_wr x1 = 14
  · have h := jif_t h c_14
    refine jr_tswIn hC (D_X12_count.g 5 rfl) 14 c_14 (by decide) rfl 284 rfl ?_
    refine jr_aload_n hC (D_X12_count.g 122 rfl) 1 rfl ?_
    refine jr_cVi hC cl_X12_454 ⟨rfl, by decide⟩ (D_X12_count.g 123 rfl) [] h (fun r M' e => c_X12_freeMany e) rfl rfl ⟨by decide, by decide⟩ (Nat.le_of_ble_eq_true rfl) ⟨Nat.le_of_ble_eq_true rfl, Nat.le_of_ble_eq_true rfl⟩ (fun v36 M37 h => ?_)
    exact jr_iret hC (D_X12_count.g 124 rfl) hr hE h
  replace h := jif_f h c_14
  by_cases c_15 : jd_wr x1 = 15
  · have h := jif_t h c_15
    refine jr_tswIn hC (D_X12_count.g 5 rfl) 15 c_15 (by decide) rfl 289 rfl ?_
    refine jr_iconst hC (D_X12_count.g 125 rfl) ?_
    refine jr_istore_n hC (D_X12_count.g 126 rfl) (by decide) rfl ?_
    refine jr_pick [2, 1, 0] rfl ?_
    refine jr_lp3 (fun (y2_291 : Int) (y3_291 : Int) (M_291 : jMem) => JW E X 4 0 0 M_291 291 [(0, q_r E th), (2, q_i y2_291), (3, q_i y3_291)] []) ?_ jfuel 0 0 M2 h
    intro rec_291 hrec_291 y2_291 y3_291 M_291 h
    refine jr_iload_n hC (D_X12_count.g 127 rfl) 2 rfl ?_
    refine jr_bipush hC (D_X12_count.g 128 rfl) bp_18 ?_
    refine jr_icmp_ge hC (D_X12_count.g 129 rfl) 319 rfl h (fun h => ?_) (fun h => ?_)
    · refine jr_aload_n hC (D_X12_count.g 130 rfl) 0 rfl ?_
      refine jr_iload_n hC (D_X12_count.g 131 rfl) 2 rfl ?_
      refine jr_cVi hC cl_X12_332 ⟨rfl, by decide⟩ (D_X12_count.g 132 rfl) [q_i y3_291] h (fun r M' e => c_X12_lies e) rfl rfl ⟨by decide, by decide⟩ (Nat.le_of_ble_eq_true rfl) ⟨Nat.le_of_ble_eq_true rfl, Nat.le_of_ble_eq_true rfl⟩ (fun v38 M39 h => ?_)
      refine jr_join h (fun j => ∀ (y2_313 : Int) (M_313 : jMem), j y2_313 M_313 = some (r, M') → JW E X 4 0 0 M_313 313 [(0, q_r E th), (2, q_i y2_313), (3, q_i y3_291)] []) ?_ ?_
      · intro y2_313 M_313 h
        refine jr_iinc hC (D_X12_count.g 140 rfl) 2 rfl (by decide) rfl ?_
        refine jr_goto hC (D_X12_count.g 141 rfl) 291 rfl ?_
        refine jr_pick [1, 2, 0] rfl ?_
        exact hrec_291 y2_313 (y3_291 + 1) M_313 h
      intro j_313 hj_313 h
      refine jr_if_eq hC (D_X12_count.g 133 rfl) 313 rfl h (fun h => ?_) (fun h => ?_)
      · exact hj_313 y2_291 M39 h
      refine jr_iload_n hC (D_X12_count.g 134 rfl) 1 rfl ?_
      refine jr_aload_n hC (D_X12_count.g 135 rfl) 0 rfl ?_
      refine jr_iload_n hC (D_X12_count.g 136 rfl) 2 rfl ?_
      refine jr_cVi hC cl_X12_370 ⟨rfl, by decide⟩ (D_X12_count.g 137 rfl) [q_i y3_291] h (fun r M' e => c_X12_asksOf e) rfl rfl ⟨by decide, by decide⟩ (Nat.le_of_ble_eq_true rfl) ⟨Nat.le_of_ble_eq_true rfl, Nat.le_of_ble_eq_true rfl⟩ (fun v40 M41 h => ?_)
      refine jr_iadd hC (D_X12_count.g 138 rfl) ?_
      refine jr_istore_n hC (D_X12_count.g 139 rfl) (by decide) rfl ?_
      refine jr_pick [1, 0, 2] rfl ?_
      exact hj_313 (y2_291 + v40) M41 h
    refine jr_iload_n hC (D_X12_count.g 142 rfl) 1 rfl ?_
    exact jr_iret hC (D_X12_count.g 143 rfl) hr hE h
  replace h := jif_f h c_15
  by_cases c_16 : jd_wr x1 = 16
  · have h := jif_t h c_16
    refine jr_tswIn hC (D_X12_count.g 5 rfl) 16 c_16 (by decide) rfl 321 rfl ?_
    refine jr_iconst hC (D_X12_count.g 144 rfl) ?_
    refine jr_istore_n hC (D_X12_count.g 145 rfl) (by decide) rfl ?_
    refine jr_pick [2, 1, 0] rfl ?_
    refine jr_lp3 (fun (y2_323 : Int) (y3_323 : Int) (M_323 : jMem) => JW E X 4 0 0 M_323 323 [(0, q_r E th), (2, q_i y2_323), (3, q_i y3_323)] []) ?_ jfuel 0 0 M2 h
    intro rec_323 hrec_323 y2_323 y3_323 M_323 h
    refine jr_iload_n hC (D_X12_count.g 146 rfl) 2 rfl ?_
    refine jr_bipush hC (D_X12_count.g 147 rfl) bp_18 ?_
    refine jr_icmp_ge hC (D_X12_count.g 148 rfl) 355 rfl h (fun h => ?_) (fun h => ?_)
    · refine jr_aload_n hC (D_X12_count.g 149 rfl) 0 rfl ?_
      refine jr_iload_n hC (D_X12_count.g 150 rfl) 2 rfl ?_
      refine jr_cVi hC cl_X12_332 ⟨rfl, by decide⟩ (D_X12_count.g 151 rfl) [q_i y3_323] h (fun r M' e => c_X12_lies e) rfl rfl ⟨by decide, by decide⟩ (Nat.le_of_ble_eq_true rfl) ⟨Nat.le_of_ble_eq_true rfl, Nat.le_of_ble_eq_true rfl⟩ (fun v42 M43 h => ?_)
      refine jr_join h (fun j => ∀ (y2_349 : Int), j y2_349 = some (r, M') → JW E X 4 0 0 M43 349 [(0, q_r E th), (2, q_i y2_349), (3, q_i y3_323)] []) ?_ ?_
      · intro y2_349 h
        refine jr_iinc hC (D_X12_count.g 162 rfl) 2 rfl (by decide) rfl ?_
        refine jr_goto hC (D_X12_count.g 163 rfl) 323 rfl ?_
        refine jr_pick [1, 2, 0] rfl ?_
        exact hrec_323 y2_349 (y3_323 + 1) M43 h
      intro j_349 hj_349 h
      refine jr_if_eq hC (D_X12_count.g 152 rfl) 349 rfl h (fun h => ?_) (fun h => ?_)
      · exact hj_349 y2_323 h
      refine jr_iload_n hC (D_X12_count.g 153 rfl) 1 rfl ?_
      refine jr_aload_n hC (D_X12_count.g 154 rfl) 0 rfl ?_
      refine jr_getR hC fl_X12_113 rfl (D_X12_count.g 155 rfl) h (fun r44 h => ?_)
      refine jr_bipush hC (D_X12_count.g 156 rfl) bp_36 ?_
      refine jr_iload_n hC (D_X12_count.g 157 rfl) 2 rfl ?_
      refine jr_iadd hC (D_X12_count.g 158 rfl) ?_
      refine jr_iald hC (D_X12_count.g 159 rfl) h (fun v45 h => ?_)
      refine jr_iadd hC (D_X12_count.g 160 rfl) ?_
      refine jr_istore_n hC (D_X12_count.g 161 rfl) (by decide) rfl ?_
      refine jr_pick [1, 0, 2] rfl ?_
      exact hj_349 (y2_323 + v45) h
    refine jr_iload_n hC (D_X12_count.g 164 rfl) 1 rfl ?_
    exact jr_iret hC (D_X12_count.g 165 rfl) hr hE h
  replace h := jif_f h c_16
  refine jr_tswOut hC (D_X12_count.g 5 rfl) (by omega) 357 rfl ?_
  refine jr_iconst hC (D_X12_count.g 166 rfl) ?_
  exact jr_iret hC (D_X12_count.g 167 rfl) hr hE h
