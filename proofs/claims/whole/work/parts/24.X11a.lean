/-! ===== 24.X11a: by program ===== -/
def f_X11_startOver (th : Nat) (M : jMem) : Option (Int × jMem) :=
(jm_gR 11 4 M th).bind fun r1 =>
(jm_gR 11 2 M th).bind fun r2 =>
(jm_gI 8 0 M r2).bind fun v3 =>
jcall 6 M r1 (f_X6_clear r1 v3 M) fun _ M5 =>
jlp2 (fun rec_16 (y1_16 : Int) (M_16 : jMem) =>
(jm_gR 11 2 M_16 th).bind fun r6 =>
(jm_gI 8 4 M_16 r6).bind fun v7 =>
if jd_wr y1_16 < jd_wr v7 then ((jm_gR 11 4 M_16 th).bind fun r8 =>
(jm_gR 11 2 M_16 th).bind fun r9 =>
(jm_gI 8 0 M_16 r9).bind fun v10 =>
(jm_gR 11 2 M_16 th).bind fun r11 =>
(jm_gR 8 8 M_16 r11).bind fun r12 =>
(jm_ld 20 M_16 r12 y1_16).bind fun v13 =>
(jm_gR 11 2 M_16 th).bind fun r14 =>
(jm_gR 8 7 M_16 r14).bind fun r15 =>
(jm_ld 20 M_16 r15 y1_16).bind fun v16 =>
(jm_gR 11 2 M_16 th).bind fun r17 =>
(jm_gR 8 9 M_16 r17).bind fun r18 =>
(jm_ld 20 M_16 r18 y1_16).bind fun v19 =>
jjq (fun (z0_76 : Int) =>
jcall 6 M_16 r8 (f_X6_put r8 y1_16 ((v10 * v13) + v16) z0_76 M_16) fun _ M21 =>
rec_16 (y1_16 + 1) M21) fun j_76 =>
if jd_wr v19 = 0 then (j_76 1)
else (j_76 0))
else ((jm_gR 11 6 M_16 th).bind fun r22 =>
jcall 1 M_16 r22 (f_X1_clear r22 M_16) fun _ M24 =>
(jm_gR 11 7 M24 th).bind fun r25 =>
(jm_pI 10 2 M24 r25 0).bind fun M26 =>
(jm_gR 11 8 M26 th).bind fun r27 =>
(jm_gR 11 2 M26 th).bind fun r28 =>
jcall 4 M26 r27 (f_X4_begin r27 r28 M26) fun _ M30 =>
(jm_gR 11 8 M30 th).bind fun r31 =>
jcall 4 M30 r31 (f_X4_countWays r31 M30) fun _ M33 =>
some (0, M33))) jfuel 0 M5
theorem D_X11_startOver : jDs cX11_startOver [(0, .aload_n 0, 1, 1), (1, .getfield 38, 3, 4), (4, .aload_n 0, 1, 5), (5, .getfield 19, 3, 8), (8, .getfield 167, 3, 11), (11, .invokevirtual 356, 3, 14), (14, .iconst 0, 1, 15), (15, .istore_n 1, 1, 16), (16, .iload_n 1, 1, 17), (17, .aload_n 0, 1, 18), (18, .getfield 19, 3, 21), (21, .getfield 359, 3, 24), (24, .if_icmp .ge 61, 3, 27), (27, .aload_n 0, 1, 28), (28, .getfield 38, 3, 31), (31, .iload_n 1, 1, 32), (32, .aload_n 0, 1, 33), (33, .getfield 19, 3, 36), (36, .getfield 167, 3, 39), (39, .aload_n 0, 1, 40), (40, .getfield 19, 3, 43), (43, .getfield 360, 3, 46), (46, .iload_n 1, 1, 47), (47, .iaload, 1, 48), (48, .imul, 1, 49), (49, .aload_n 0, 1, 50), (50, .getfield 19, 3, 53), (53, .getfield 363, 3, 56), (56, .iload_n 1, 1, 57), (57, .iaload, 1, 58), (58, .iadd, 1, 59), (59, .aload_n 0, 1, 60), (60, .getfield 19, 3, 63), (63, .getfield 366, 3, 66), (66, .iload_n 1, 1, 67), (67, .iaload, 1, 68), (68, .ifCond .ne 7, 3, 71), (71, .iconst 1, 1, 72), (72, .goto 4, 3, 75), (75, .iconst 0, 1, 76), (76, .invokevirtual 174, 3, 79), (79, .iinc 1 1, 3, 82), (82, .goto (-66), 3, 85), (85, .aload_n 0, 1, 86), (86, .getfield 48, 3, 89), (89, .invokevirtual 369, 3, 92), (92, .aload_n 0, 1, 93), (93, .getfield 55, 3, 96), (96, .iconst 0, 1, 97), (97, .putfield 314, 3, 100), (100, .aload_n 0, 1, 101), (101, .getfield 62, 3, 104), (104, .aload_n 0, 1, 105), (105, .getfield 19, 3, 108), (108, .invokevirtual 282, 3, 111), (111, .aload_n 0, 1, 112), (112, .getfield 62, 3, 115), (115, .invokevirtual 289, 3, 118), (118, .return_, 1, 119)] := by unfold jDs; decide +kernel
set_option maxRecDepth 100000 in
set_option maxHeartbeats 4000000 in
theorem c_X11_startOver {E : jE} {th : Nat} {M : jMem} {r : Int} {M' : jMem} (h : f_X11_startOver th M = some (r, M')) : jMet E yX11_startOver cX11_startOver 2 (none) 6 0 0 [q_r E th] M (none) M' := by
  unfold f_X11_startOver at h
  refine jMet.of RX11 rfl (by decide +kernel) (Nat.le_of_ble_eq_true rfl) [(0, q_r E th)] rfl (fun X hC hE hr hn => ?_)
  refine jr_aload_n hC (D_X11_startOver.g 0 rfl) 0 rfl ?_
  refine jr_getR hC fl_X11_38 rfl (D_X11_startOver.g 1 rfl) h (fun r1 h => ?_)
  refine jr_aload_n hC (D_X11_startOver.g 2 rfl) 0 rfl ?_
  refine jr_getR hC fl_X11_19 rfl (D_X11_startOver.g 3 rfl) h (fun r2 h => ?_)
  refine jr_getI hC fl_X11_167 rfl (D_X11_startOver.g 4 rfl) h (fun v3 h => ?_)
  refine jr_cVv hC cl_X11_356 ⟨rfl, by decide⟩ (D_X11_startOver.g 5 rfl) [q_i v3] h (fun r M' e => c_X6_clear e) rfl rfl ⟨by decide, by decide⟩ (Nat.le_of_ble_eq_true rfl) ⟨Nat.le_of_ble_eq_true rfl, Nat.le_of_ble_eq_true rfl⟩ (fun _ M5 h => ?_)
  refine jr_iconst hC (D_X11_startOver.g 6 rfl) ?_
  refine jr_istore_n hC (D_X11_startOver.g 7 rfl) (by decide) rfl ?_
  refine jr_pick [1, 0] rfl ?_
  refine jr_lp2 (fun (y1_16 : Int) (M_16 : jMem) => JW E X 2 0 0 M_16 16 [(0, q_r E th), (1, q_i y1_16)] []) ?_ jfuel 0 M5 h
  intro rec_16 hrec_16 y1_16 M_16 h
  refine jr_iload_n hC (D_X11_startOver.g 8 rfl) 1 rfl ?_
  refine jr_aload_n hC (D_X11_startOver.g 9 rfl) 0 rfl ?_
  refine jr_getR hC fl_X11_19 rfl (D_X11_startOver.g 10 rfl) h (fun r6 h => ?_)
  refine jr_getI hC fl_X11_359 rfl (D_X11_startOver.g 11 rfl) h (fun v7 h => ?_)
  refine jr_icmp_ge hC (D_X11_startOver.g 12 rfl) 85 rfl h (fun h => ?_) (fun h => ?_)
  · refine jr_aload_n hC (D_X11_startOver.g 13 rfl) 0 rfl ?_
    refine jr_getR hC fl_X11_38 rfl (D_X11_startOver.g 14 rfl) h (fun r8 h => ?_)
    refine jr_iload_n hC (D_X11_startOver.g 15 rfl) 1 rfl ?_
    refine jr_aload_n hC (D_X11_startOver.g 16 rfl) 0 rfl ?_
    refine jr_getR hC fl_X11_19 rfl (D_X11_startOver.g 17 rfl) h (fun r9 h => ?_)
    refine jr_getI hC fl_X11_167 rfl (D_X11_startOver.g 18 rfl) h (fun v10 h => ?_)
    refine jr_aload_n hC (D_X11_startOver.g 19 rfl) 0 rfl ?_
    refine jr_getR hC fl_X11_19 rfl (D_X11_startOver.g 20 rfl) h (fun r11 h => ?_)
    refine jr_getR hC fl_X11_360 rfl (D_X11_startOver.g 21 rfl) h (fun r12 h => ?_)
    refine jr_iload_n hC (D_X11_startOver.g 22 rfl) 1 rfl ?_
    refine jr_iald hC (D_X11_startOver.g 23 rfl) h (fun v13 h => ?_)
    refine jr_imul hC (D_X11_startOver.g 24 rfl) ?_
    refine jr_aload_n hC (D_X11_startOver.g 25 rfl) 0 rfl ?_
    refine jr_getR hC fl_X11_19 rfl (D_X11_startOver.g 26 rfl) h (fun r14 h => ?_)
    refine jr_getR hC fl_X11_363 rfl (D_X11_startOver.g 27 rfl) h (fun r15 h => ?_)
    refine jr_iload_n hC (D_X11_startOver.g 28 rfl) 1 rfl ?_
    refine jr_iald hC (D_X11_startOver.g 29 rfl) h (fun v16 h => ?_)
    refine jr_iadd hC (D_X11_startOver.g 30 rfl) ?_
    refine jr_aload_n hC (D_X11_startOver.g 31 rfl) 0 rfl ?_
    refine jr_getR hC fl_X11_19 rfl (D_X11_startOver.g 32 rfl) h (fun r17 h => ?_)
    refine jr_getR hC fl_X11_366 rfl (D_X11_startOver.g 33 rfl) h (fun r18 h => ?_)
    refine jr_iload_n hC (D_X11_startOver.g 34 rfl) 1 rfl ?_
    refine jr_iald hC (D_X11_startOver.g 35 rfl) h (fun v19 h => ?_)
    refine jr_join h (fun j => ∀ (z0_76 : Int), j z0_76 = some (r, M') → JW E X 2 0 0 M_16 76 [(0, q_r E th), (1, q_i y1_16)] [q_i z0_76, q_i ((v10 * v13) + v16), q_i y1_16, q_r E r8]) ?_ ?_
    · intro z0_76 h
      refine jr_cVv hC cl_X11_174 ⟨rfl, by decide⟩ (D_X11_startOver.g 40 rfl) [q_i y1_16, q_i ((v10 * v13) + v16), q_i z0_76] h (fun r M' e => c_X6_put e) rfl rfl ⟨by decide, by decide⟩ (Nat.le_of_ble_eq_true rfl) ⟨Nat.le_of_ble_eq_true rfl, Nat.le_of_ble_eq_true rfl⟩ (fun _ M21 h => ?_)
      refine jr_iinc hC (D_X11_startOver.g 41 rfl) 1 rfl (by decide) rfl ?_
      refine jr_goto hC (D_X11_startOver.g 42 rfl) 16 rfl ?_
      refine jr_pick [1, 0] rfl ?_
      exact hrec_16 (y1_16 + 1) M21 h
    intro j_76 hj_76 h
    refine jr_if_ne hC (D_X11_startOver.g 36 rfl) 75 rfl h (fun h => ?_) (fun h => ?_)
    · refine jr_iconst hC (D_X11_startOver.g 37 rfl) ?_
      refine jr_goto hC (D_X11_startOver.g 38 rfl) 76 rfl ?_
      exact hj_76 1 h
    refine jr_iconst hC (D_X11_startOver.g 39 rfl) ?_
    exact hj_76 0 h
  refine jr_aload_n hC (D_X11_startOver.g 43 rfl) 0 rfl ?_
  refine jr_getR hC fl_X11_48 rfl (D_X11_startOver.g 44 rfl) h (fun r22 h => ?_)
  refine jr_cVv hC cl_X11_369 ⟨rfl, by decide⟩ (D_X11_startOver.g 45 rfl) [] h (fun r M' e => c_X1_clear e) rfl rfl ⟨by decide, by decide⟩ (Nat.le_of_ble_eq_true rfl) ⟨Nat.le_of_ble_eq_true rfl, Nat.le_of_ble_eq_true rfl⟩ (fun _ M24 h => ?_)
  refine jr_aload_n hC (D_X11_startOver.g 46 rfl) 0 rfl ?_
  refine jr_getR hC fl_X11_55 rfl (D_X11_startOver.g 47 rfl) h (fun r25 h => ?_)
  refine jr_iconst hC (D_X11_startOver.g 48 rfl) ?_
  refine jr_putI hC fl_X11_314 rfl (jnfin rfl) (D_X11_startOver.g 49 rfl) h (fun M26 _ h => ?_)
  refine jr_aload_n hC (D_X11_startOver.g 50 rfl) 0 rfl ?_
  refine jr_getR hC fl_X11_62 rfl (D_X11_startOver.g 51 rfl) h (fun r27 h => ?_)
  refine jr_aload_n hC (D_X11_startOver.g 52 rfl) 0 rfl ?_
  refine jr_getR hC fl_X11_19 rfl (D_X11_startOver.g 53 rfl) h (fun r28 h => ?_)
  refine jr_cVv hC cl_X11_282 ⟨rfl, by decide⟩ (D_X11_startOver.g 54 rfl) [q_r E r28] h (fun r M' e => c_X4_begin e) rfl rfl ⟨by decide, by decide⟩ (Nat.le_of_ble_eq_true rfl) ⟨Nat.le_of_ble_eq_true rfl, Nat.le_of_ble_eq_true rfl⟩ (fun _ M30 h => ?_)
  refine jr_aload_n hC (D_X11_startOver.g 55 rfl) 0 rfl ?_
  refine jr_getR hC fl_X11_62 rfl (D_X11_startOver.g 56 rfl) h (fun r31 h => ?_)
  refine jr_cVv hC cl_X11_289 ⟨rfl, by decide⟩ (D_X11_startOver.g 57 rfl) [] h (fun r M' e => c_X4_countWays e) rfl rfl ⟨by decide, by decide⟩ (Nat.le_of_ble_eq_true rfl) ⟨Nat.le_of_ble_eq_true rfl, Nat.le_of_ble_eq_true rfl⟩ (fun _ M33 h => ?_)
  exact jr_vret hC (D_X11_startOver.g 58 rfl) hr hE h
def f_X11_feed (th : Nat) (x1 : Int) (x2 : Int) (x3 : Int) (x4 : Int) (x5 : Int) (M : jMem) : Option (Int × jMem) :=
(jm_gR 11 0 M th).bind fun r1 =>
(jm_gI 7 1 M r1).bind fun v2 =>
if jd_wr v2 ≤ jd_wr 1980 then ((jm_gR 11 0 M th).bind fun r3 =>
jcall 7 M r3 (f_X7_addFour r3 x1 M) fun _ M5 =>
(jm_gR 11 0 M5 th).bind fun r6 =>
jcall 7 M5 r6 (f_X7_addFour r6 x2 M5) fun _ M8 =>
(jm_gR 11 0 M8 th).bind fun r9 =>
jcall 7 M8 r9 (f_X7_addFour r9 x3 M8) fun _ M11 =>
(jm_gR 11 0 M11 th).bind fun r12 =>
jcall 7 M11 r12 (f_X7_addFour r12 x4 M11) fun _ M14 =>
(jm_gR 11 0 M14 th).bind fun r15 =>
jcall 7 M14 r15 (f_X7_addFour r15 x5 M14) fun _ M17 =>
(jm_gR 11 0 M17 th).bind fun r18 =>
(jm_gI 7 1 M17 r18).bind fun v19 =>
some (v19, M17))
else (some ((-1), M))
theorem D_X11_feed : jDs cX11_feed [(0, .aload_n 0, 1, 1), (1, .getfield 12, 3, 4), (4, .getfield 93, 3, 7), (7, .sipush 1980, 3, 10), (10, .if_icmp .le 5, 3, 13), (13, .iconst (-1), 1, 14), (14, .ireturn, 1, 15), (15, .aload_n 0, 1, 16), (16, .getfield 12, 3, 19), (19, .iload_n 1, 1, 20), (20, .invokevirtual 97, 3, 23), (23, .aload_n 0, 1, 24), (24, .getfield 12, 3, 27), (27, .iload_n 2, 1, 28), (28, .invokevirtual 97, 3, 31), (31, .aload_n 0, 1, 32), (32, .getfield 12, 3, 35), (35, .iload_n 3, 1, 36), (36, .invokevirtual 97, 3, 39), (39, .aload_n 0, 1, 40), (40, .getfield 12, 3, 43), (43, .iload 4, 2, 45), (45, .invokevirtual 97, 3, 48), (48, .aload_n 0, 1, 49), (49, .getfield 12, 3, 52), (52, .iload 5, 2, 54), (54, .invokevirtual 97, 3, 57), (57, .aload_n 0, 1, 58), (58, .getfield 12, 3, 61), (61, .getfield 93, 3, 64), (64, .ireturn, 1, 65)] := by unfold jDs; decide +kernel
set_option maxRecDepth 100000 in
set_option maxHeartbeats 4000000 in
theorem c_X11_feed {E : jE} {th : Nat} {x1 : Int} {x2 : Int} {x3 : Int} {x4 : Int} {x5 : Int} {M : jMem} {r : Int} {M' : jMem} (h : f_X11_feed th x1 x2 x3 x4 x5 M = some (r, M')) : jMet E yX11_feed cX11_feed 6 (some .int) 3 0 0 [q_r E th, q_i x1, q_i x2, q_i x3, q_i x4, q_i x5] M (some (q_i r)) M' := by
  unfold f_X11_feed at h
  refine jMet.of RX11 rfl (by decide +kernel) (Nat.le_of_ble_eq_true rfl) [(0, q_r E th), (1, q_i x1), (2, q_i x2), (3, q_i x3), (4, q_i x4), (5, q_i x5)] rfl (fun X hC hE hr hn => ?_)
  refine jr_aload_n hC (D_X11_feed.g 0 rfl) 0 rfl ?_
  refine jr_getR hC fl_X11_12 rfl (D_X11_feed.g 1 rfl) h (fun r1 h => ?_)
  refine jr_getI hC fl_X11_93 rfl (D_X11_feed.g 2 rfl) h (fun v2 h => ?_)
  refine jr_sipush hC (D_X11_feed.g 3 rfl) sp_1980 ?_
  refine jr_icmp_le hC (D_X11_feed.g 4 rfl) 15 rfl h (fun h => ?_) (fun h => ?_)
  · refine jr_aload_n hC (D_X11_feed.g 7 rfl) 0 rfl ?_
    refine jr_getR hC fl_X11_12 rfl (D_X11_feed.g 8 rfl) h (fun r3 h => ?_)
    refine jr_iload_n hC (D_X11_feed.g 9 rfl) 1 rfl ?_
    refine jr_cVv hC cl_X11_97 ⟨rfl, by decide⟩ (D_X11_feed.g 10 rfl) [q_i x1] h (fun r M' e => c_X7_addFour e) rfl rfl ⟨by decide, by decide⟩ (Nat.le_of_ble_eq_true rfl) ⟨Nat.le_of_ble_eq_true rfl, Nat.le_of_ble_eq_true rfl⟩ (fun _ M5 h => ?_)
    refine jr_aload_n hC (D_X11_feed.g 11 rfl) 0 rfl ?_
    refine jr_getR hC fl_X11_12 rfl (D_X11_feed.g 12 rfl) h (fun r6 h => ?_)
    refine jr_iload_n hC (D_X11_feed.g 13 rfl) 2 rfl ?_
    refine jr_cVv hC cl_X11_97 ⟨rfl, by decide⟩ (D_X11_feed.g 14 rfl) [q_i x2] h (fun r M' e => c_X7_addFour e) rfl rfl ⟨by decide, by decide⟩ (Nat.le_of_ble_eq_true rfl) ⟨Nat.le_of_ble_eq_true rfl, Nat.le_of_ble_eq_true rfl⟩ (fun _ M8 h => ?_)
    refine jr_aload_n hC (D_X11_feed.g 15 rfl) 0 rfl ?_
    refine jr_getR hC fl_X11_12 rfl (D_X11_feed.g 16 rfl) h (fun r9 h => ?_)
    refine jr_iload_n hC (D_X11_feed.g 17 rfl) 3 rfl ?_
    refine jr_cVv hC cl_X11_97 ⟨rfl, by decide⟩ (D_X11_feed.g 18 rfl) [q_i x3] h (fun r M' e => c_X7_addFour e) rfl rfl ⟨by decide, by decide⟩ (Nat.le_of_ble_eq_true rfl) ⟨Nat.le_of_ble_eq_true rfl, Nat.le_of_ble_eq_true rfl⟩ (fun _ M11 h => ?_)
    refine jr_aload_n hC (D_X11_feed.g 19 rfl) 0 rfl ?_
    refine jr_getR hC fl_X11_12 rfl (D_X11_feed.g 20 rfl) h (fun r12 h => ?_)
    refine jr_iload hC (D_X11_feed.g 21 rfl) 4 rfl ?_
    refine jr_cVv hC cl_X11_97 ⟨rfl, by decide⟩ (D_X11_feed.g 22 rfl) [q_i x4] h (fun r M' e => c_X7_addFour e) rfl rfl ⟨by decide, by decide⟩ (Nat.le_of_ble_eq_true rfl) ⟨Nat.le_of_ble_eq_true rfl, Nat.le_of_ble_eq_true rfl⟩ (fun _ M14 h => ?_)
    refine jr_aload_n hC (D_X11_feed.g 23 rfl) 0 rfl ?_
    refine jr_getR hC fl_X11_12 rfl (D_X11_feed.g 24 rfl) h (fun r15 h => ?_)
    refine jr_iload hC (D_X11_feed.g 25 rfl) 5 rfl ?_
    refine jr_cVv hC cl_X11_97 ⟨rfl, by decide⟩ (D_X11_feed.g 26 rfl) [q_i x5] h (fun r M' e => c_X7_addFour e) rfl rfl ⟨by decide, by decide⟩ (Nat.le_of_ble_eq_true rfl) ⟨Nat.le_of_ble_eq_true rfl, Nat.le_of_ble_eq_true rfl⟩ (fun _ M17 h => ?_)
    refine jr_aload_n hC (D_X11_feed.g 27 rfl) 0 rfl ?_
    refine jr_getR hC fl_X11_12 rfl (D_X11_feed.g 28 rfl) h (fun r18 h => ?_)
    refine jr_getI hC fl_X11_93 rfl (D_X11_feed.g 29 rfl) h (fun v19 h => ?_)
    exact jr_iret hC (D_X11_feed.g 30 rfl) hr hE h
  refine jr_iconst hC (D_X11_feed.g 5 rfl) ?_
  exact jr_iret hC (D_X11_feed.g 6 rfl) hr hE h
def f_X11_back (th : Nat) (x1 : Int) (M : jMem) : Option (Int × jMem) :=
if jd_wr x1 < 0 then (some ((-1), M))
else ((jm_gR 11 0 M th).bind fun r1 =>
(jm_gI 7 1 M r1).bind fun v2 =>
if jd_wr x1 ≤ jd_wr v2 then ((jm_gR 11 0 M th).bind fun r3 =>
(jm_gI 7 1 M r3).bind fun v4 =>
(jm_pI 7 1 M r3 (v4 - x1)).bind fun M5 =>
(jm_gR 11 0 M5 th).bind fun r6 =>
(jm_gI 7 1 M5 r6).bind fun v7 =>
some (v7, M5))
else (some ((-1), M)))
theorem D_X11_back : jDs cX11_back [(0, .iload_n 1, 1, 1), (1, .ifCond .lt 14, 3, 4), (4, .iload_n 1, 1, 5), (5, .aload_n 0, 1, 6), (6, .getfield 12, 3, 9), (9, .getfield 93, 3, 12), (12, .if_icmp .le 5, 3, 15), (15, .iconst (-1), 1, 16), (16, .ireturn, 1, 17), (17, .aload_n 0, 1, 18), (18, .getfield 12, 3, 21), (21, .dup, 1, 22), (22, .getfield 93, 3, 25), (25, .iload_n 1, 1, 26), (26, .isub, 1, 27), (27, .putfield 93, 3, 30), (30, .aload_n 0, 1, 31), (31, .getfield 12, 3, 34), (34, .getfield 93, 3, 37), (37, .ireturn, 1, 38)] := by unfold jDs; decide +kernel
set_option maxRecDepth 100000 in
set_option maxHeartbeats 4000000 in
theorem c_X11_back {E : jE} {th : Nat} {x1 : Int} {M : jMem} {r : Int} {M' : jMem} (h : f_X11_back th x1 M = some (r, M')) : jMet E yX11_back cX11_back 2 (some .int) 2 0 0 [q_r E th, q_i x1] M (some (q_i r)) M' := by
  unfold f_X11_back at h
  refine jMet.of RX11 rfl (by decide +kernel) (Nat.le_of_ble_eq_true rfl) [(0, q_r E th), (1, q_i x1)] rfl (fun X hC hE hr hn => ?_)
  refine jr_iload_n hC (D_X11_back.g 0 rfl) 1 rfl ?_
  refine jr_if_lt hC (D_X11_back.g 1 rfl) 15 rfl h (fun h => ?_) (fun h => ?_)
  · refine jr_iconst hC (D_X11_back.g 7 rfl) ?_
    exact jr_iret hC (D_X11_back.g 8 rfl) hr hE h
  refine jr_iload_n hC (D_X11_back.g 2 rfl) 1 rfl ?_
  refine jr_aload_n hC (D_X11_back.g 3 rfl) 0 rfl ?_
  refine jr_getR hC fl_X11_12 rfl (D_X11_back.g 4 rfl) h (fun r1 h => ?_)
  refine jr_getI hC fl_X11_93 rfl (D_X11_back.g 5 rfl) h (fun v2 h => ?_)
  refine jr_icmp_le hC (D_X11_back.g 6 rfl) 17 rfl h (fun h => ?_) (fun h => ?_)
  · refine jr_aload_n hC (D_X11_back.g 9 rfl) 0 rfl ?_
    refine jr_getR hC fl_X11_12 rfl (D_X11_back.g 10 rfl) h (fun r3 h => ?_)
    refine jr_dup hC (D_X11_back.g 11 rfl) rfl ?_
    refine jr_getI hC fl_X11_93 rfl (D_X11_back.g 12 rfl) h (fun v4 h => ?_)
    refine jr_iload_n hC (D_X11_back.g 13 rfl) 1 rfl ?_
    refine jr_isub hC (D_X11_back.g 14 rfl) ?_
    refine jr_putI hC fl_X11_93 rfl (jnfin rfl) (D_X11_back.g 15 rfl) h (fun M5 _ h => ?_)
    refine jr_aload_n hC (D_X11_back.g 16 rfl) 0 rfl ?_
    refine jr_getR hC fl_X11_12 rfl (D_X11_back.g 17 rfl) h (fun r6 h => ?_)
    refine jr_getI hC fl_X11_93 rfl (D_X11_back.g 18 rfl) h (fun v7 h => ?_)
    exact jr_iret hC (D_X11_back.g 19 rfl) hr hE h
  refine jr_iconst hC (D_X11_back.g 7 rfl) ?_
  exact jr_iret hC (D_X11_back.g 8 rfl) hr hE h
def f_X11_read (th : Nat) (M : jMem) : Option (Int × jMem) :=
(jm_gR 11 1 M th).bind fun r1 =>
(jm_gR 11 3 M th).bind fun r2 =>
jcall 3 M r1 (f_X3_parse r1 r2 M) fun v3 M4 =>
(jm_gR 11 0 M4 th).bind fun r5 =>
(jm_pI 7 1 M4 r5 0).bind fun M6 =>
if jd_wr v3 = 0 then ((jm_gR 11 2 M6 th).bind fun r7 =>
(jm_gR 11 3 M6 th).bind fun r8 =>
(jm_pR 11 2 M6 th r8).bind fun M9 =>
(jm_pR 11 3 M9 th r7).bind fun M10 =>
jcall 11 M10 th (f_X11_startOver th M10) fun _ M12 =>
some (v3, M12))
else (some (v3, M6))
theorem D_X11_read : jDs cX11_read [(0, .aload_n 0, 1, 1), (1, .getfield 31, 3, 4), (4, .aload_n 0, 1, 5), (5, .getfield 23, 3, 8), (8, .invokevirtual 101, 3, 11), (11, .istore_n 1, 1, 12), (12, .aload_n 0, 1, 13), (13, .getfield 12, 3, 16), (16, .iconst 0, 1, 17), (17, .putfield 93, 3, 20), (20, .iload_n 1, 1, 21), (21, .ifCond .ne 25, 3, 24), (24, .aload_n 0, 1, 25), (25, .getfield 19, 3, 28), (28, .astore_n 2, 1, 29), (29, .aload_n 0, 1, 30), (30, .aload_n 0, 1, 31), (31, .getfield 23, 3, 34), (34, .putfield 19, 3, 37), (37, .aload_n 0, 1, 38), (38, .aload_n 2, 1, 39), (39, .putfield 23, 3, 42), (42, .aload_n 0, 1, 43), (43, .invokevirtual 90, 3, 46), (46, .iload_n 1, 1, 47), (47, .ireturn, 1, 48)] := by unfold jDs; decide +kernel
set_option maxRecDepth 100000 in
set_option maxHeartbeats 4000000 in
theorem c_X11_read {E : jE} {th : Nat} {M : jMem} {r : Int} {M' : jMem} (h : f_X11_read th M = some (r, M')) : jMet E yX11_read cX11_read 3 (some .int) 68 0 0 [q_r E th] M (some (q_i r)) M' := by
  unfold f_X11_read at h
  refine jMet.of RX11 rfl (by decide +kernel) (Nat.le_of_ble_eq_true rfl) [(0, q_r E th)] rfl (fun X hC hE hr hn => ?_)
  refine jr_aload_n hC (D_X11_read.g 0 rfl) 0 rfl ?_
  refine jr_getR hC fl_X11_31 rfl (D_X11_read.g 1 rfl) h (fun r1 h => ?_)
  refine jr_aload_n hC (D_X11_read.g 2 rfl) 0 rfl ?_
  refine jr_getR hC fl_X11_23 rfl (D_X11_read.g 3 rfl) h (fun r2 h => ?_)
  refine jr_cVi hC cl_X11_101 ⟨rfl, by decide⟩ (D_X11_read.g 4 rfl) [q_r E r2] h (fun r M' e => c_X3_parse e) rfl rfl ⟨by decide, by decide⟩ (Nat.le_of_ble_eq_true rfl) ⟨Nat.le_of_ble_eq_true rfl, Nat.le_of_ble_eq_true rfl⟩ (fun v3 M4 h => ?_)
  refine jr_istore_n hC (D_X11_read.g 5 rfl) (by decide) rfl ?_
  refine jr_aload_n hC (D_X11_read.g 6 rfl) 1 rfl ?_
  refine jr_getR hC fl_X11_12 rfl (D_X11_read.g 7 rfl) h (fun r5 h => ?_)
  refine jr_iconst hC (D_X11_read.g 8 rfl) ?_
  refine jr_putI hC fl_X11_93 rfl (jnfin rfl) (D_X11_read.g 9 rfl) h (fun M6 _ h => ?_)
  refine jr_iload_n hC (D_X11_read.g 10 rfl) 0 rfl ?_
  refine jr_if_ne hC (D_X11_read.g 11 rfl) 46 rfl h (fun h => ?_) (fun h => ?_)
  · refine jr_aload_n hC (D_X11_read.g 12 rfl) 1 rfl ?_
    refine jr_getR hC fl_X11_19 rfl (D_X11_read.g 13 rfl) h (fun r7 h => ?_)
    refine jr_astore_n hC (D_X11_read.g 14 rfl) (by decide) rfl ?_
    refine jr_aload_n hC (D_X11_read.g 15 rfl) 2 rfl ?_
    refine jr_aload_n hC (D_X11_read.g 16 rfl) 2 rfl ?_
    refine jr_getR hC fl_X11_23 rfl (D_X11_read.g 17 rfl) h (fun r8 h => ?_)
    refine jr_putR hC fl_X11_19 rfl (jnfin2 rfl) (D_X11_read.g 18 rfl) h (fun M9 _ h => ?_)
    refine jr_aload_n hC (D_X11_read.g 19 rfl) 2 rfl ?_
    refine jr_aload_n hC (D_X11_read.g 20 rfl) 0 rfl ?_
    refine jr_putR hC fl_X11_23 rfl (jnfin2 rfl) (D_X11_read.g 21 rfl) h (fun M10 _ h => ?_)
    refine jr_aload_n hC (D_X11_read.g 22 rfl) 2 rfl ?_
    refine jr_cVv hC cl_X11_90 ⟨rfl, by decide⟩ (D_X11_read.g 23 rfl) [] h (fun r M' e => c_X11_startOver e) rfl rfl ⟨by decide, by decide⟩ (Nat.le_of_ble_eq_true rfl) ⟨Nat.le_of_ble_eq_true rfl, Nat.le_of_ble_eq_true rfl⟩ (fun _ M12 h => ?_)
    refine jr_iload_n hC (D_X11_read.g 24 rfl) 1 rfl ?_
    exact jr_iret hC (D_X11_read.g 25 rfl) hr hE h
  refine jr_iload_n hC (D_X11_read.g 24 rfl) 0 rfl ?_
  exact jr_iret hC (D_X11_read.g 25 rfl) hr hE h
def f_X11_place (th : Nat) (M : jMem) : Option (Int × jMem) :=
(jm_gR 11 1 M th).bind fun r1 =>
(jm_gI 3 8 M r1).bind fun v2 =>
some (v2, M)
theorem D_X11_place : jDs cX11_place [(0, .aload_n 0, 1, 1), (1, .getfield 31, 3, 4), (4, .getfield 105, 3, 7), (7, .ireturn, 1, 8)] := by unfold jDs; decide +kernel
set_option maxRecDepth 100000 in
set_option maxHeartbeats 4000000 in
theorem c_X11_place {E : jE} {th : Nat} {M : jMem} {r : Int} {M' : jMem} (h : f_X11_place th M = some (r, M')) : jMet E yX11_place cX11_place 1 (some .int) 2 0 0 [q_r E th] M (some (q_i r)) M' := by
  unfold f_X11_place at h
  refine jMet.of RX11 rfl (by decide +kernel) (Nat.le_of_ble_eq_true rfl) [(0, q_r E th)] rfl (fun X hC hE hr hn => ?_)
  refine jr_aload_n hC (D_X11_place.g 0 rfl) 0 rfl ?_
  refine jr_getR hC fl_X11_31 rfl (D_X11_place.g 1 rfl) h (fun r1 h => ?_)
  refine jr_getI hC fl_X11_105 rfl (D_X11_place.g 2 rfl) h (fun v2 h => ?_)
  exact jr_iret hC (D_X11_place.g 3 rfl) hr hE h
def f_X11_cell (th : Nat) (x1 : Int) (x2 : Int) (M : jMem) : Option (Int × jMem) :=
(jm_gR 11 2 M th).bind fun r1 =>
jcall 8 M r1 (f_X8_hasCell r1 x1 M) fun v2 M3 =>
if jd_wr v2 = 0 then (some ((-1), M3))
else ((jm_gR 11 4 M3 th).bind fun r4 =>
(jm_gR 6 4 M3 r4).bind fun r5 =>
(jm_ld 20 M3 r5 x1).bind fun v6 =>
if jd_wr x2 = 0 then ((jm_gR 11 2 M3 th).bind fun r7 =>
(jm_gR 8 10 M3 r7).bind fun r8 =>
(jm_ld 22 M3 r8 x1).bind fun v9 =>
if jd_wr v9 = 0 then (if jd_wr v6 = jd_wr (-1) then (some (0, M3))
else (some (1, M3)))
else (some (2, M3)))
else if jd_wr x2 = 1 then (if jd_wr v6 = jd_wr (-1) then (some ((-2), M3))
else ((jm_gR 11 4 M3 th).bind fun r10 =>
jcall 6 M3 r10 (f_X6_otherCell r10 v6 x1 M3) fun v11 M12 =>
some (v11, M12)))
else if jd_wr x2 = 2 then (if jd_wr v6 = jd_wr (-1) then (some ((-2), M3))
else (some (v6, M3)))
else if jd_wr x2 = 3 then ((jm_gR 11 2 M3 th).bind fun r13 =>
jcall 8 M3 r13 (f_X8_isBlack r13 x1 M3) fun v14 M15 =>
if jd_wr v14 = 0 then (some (0, M15))
else (some (1, M15)))
else (some ((-1), M3)))
theorem D_X11_cell : jDs cX11_cell [(0, .aload_n 0, 1, 1), (1, .getfield 19, 3, 4), (4, .iload_n 1, 1, 5), (5, .invokevirtual 108, 3, 8), (8, .ifCond .ne 5, 3, 11), (11, .iconst (-1), 1, 12), (12, .ireturn, 1, 13), (13, .aload_n 0, 1, 14), (14, .getfield 38, 3, 17), (17, .getfield 112, 3, 20), (20, .iload_n 1, 1, 21), (21, .iaload, 1, 22), (22, .istore_n 3, 1, 23), (23, .iload_n 2, 1, 24), (24, .tableswitch 108 0 3 #[32, 59, 79, 91], 32, 56), (56, .aload_n 0, 1, 57), (57, .getfield 19, 3, 60), (60, .getfield 115, 3, 63), (63, .iload_n 1, 1, 64), (64, .baload, 1, 65), (65, .ifCond .eq 7, 3, 68), (68, .iconst 2, 1, 69), (69, .goto 13, 3, 72), (72, .iload_n 3, 1, 73), (73, .iconst (-1), 1, 74), (74, .if_icmp .ne 7, 3, 77), (77, .iconst 0, 1, 78), (78, .goto 4, 3, 81), (81, .iconst 1, 1, 82), (82, .ireturn, 1, 83), (83, .iload_n 3, 1, 84), (84, .iconst (-1), 1, 85), (85, .if_icmp .ne 8, 3, 88), (88, .bipush (-2), 2, 90), (90, .goto 12, 3, 93), (93, .aload_n 0, 1, 94), (94, .getfield 38, 3, 97), (97, .iload_n 3, 1, 98), (98, .iload_n 1, 1, 99), (99, .invokevirtual 119, 3, 102), (102, .ireturn, 1, 103), (103, .iload_n 3, 1, 104), (104, .iconst (-1), 1, 105), (105, .if_icmp .ne 8, 3, 108), (108, .bipush (-2), 2, 110), (110, .goto 4, 3, 113), (113, .iload_n 3, 1, 114), (114, .ireturn, 1, 115), (115, .aload_n 0, 1, 116), (116, .getfield 19, 3, 119), (119, .iload_n 1, 1, 120), (120, .invokevirtual 123, 3, 123), (123, .ifCond .eq 7, 3, 126), (126, .iconst 1, 1, 127), (127, .goto 4, 3, 130), (130, .iconst 0, 1, 131), (131, .ireturn, 1, 132), (132, .iconst (-1), 1, 133), (133, .ireturn, 1, 134)] := by unfold jDs; decide +kernel
set_option maxRecDepth 100000 in
set_option maxHeartbeats 4000000 in
theorem c_X11_cell {E : jE} {th : Nat} {x1 : Int} {x2 : Int} {M : jMem} {r : Int} {M' : jMem} (h : f_X11_cell th x1 x2 M = some (r, M')) : jMet E yX11_cell cX11_cell 4 (some .int) 4 0 0 [q_r E th, q_i x1, q_i x2] M (some (q_i r)) M' := by
  unfold f_X11_cell at h
  refine jMet.of RX11 rfl (by decide +kernel) (Nat.le_of_ble_eq_true rfl) [(0, q_r E th), (1, q_i x1), (2, q_i x2)] rfl (fun X hC hE hr hn => ?_)
  refine jr_aload_n hC (D_X11_cell.g 0 rfl) 0 rfl ?_
  refine jr_getR hC fl_X11_19 rfl (D_X11_cell.g 1 rfl) h (fun r1 h => ?_)
  refine jr_iload_n hC (D_X11_cell.g 2 rfl) 1 rfl ?_
  refine jr_cVi hC cl_X11_108 ⟨rfl, by decide⟩ (D_X11_cell.g 3 rfl) [q_i x1] h (fun r M' e => c_X8_hasCell e) rfl rfl ⟨by decide, by decide⟩ (Nat.le_of_ble_eq_true rfl) ⟨Nat.le_of_ble_eq_true rfl, Nat.le_of_ble_eq_true rfl⟩ (fun v2 M3 h => ?_)
  refine jr_if_ne hC (D_X11_cell.g 4 rfl) 13 rfl h (fun h => ?_) (fun h => ?_)
  · refine jr_iconst hC (D_X11_cell.g 5 rfl) ?_
    exact jr_iret hC (D_X11_cell.g 6 rfl) hr hE h
  refine jr_aload_n hC (D_X11_cell.g 7 rfl) 0 rfl ?_
  refine jr_getR hC fl_X11_38 rfl (D_X11_cell.g 8 rfl) h (fun r4 h => ?_)
  refine jr_getR hC fl_X11_112 rfl (D_X11_cell.g 9 rfl) h (fun r5 h => ?_)
  refine jr_iload_n hC (D_X11_cell.g 10 rfl) 1 rfl ?_
  refine jr_iald hC (D_X11_cell.g 11 rfl) h (fun v6 h => ?_)
  refine jr_istore_n hC (D_X11_cell.g 12 rfl) (by decide) rfl ?_
  refine jr_iload_n hC (D_X11_cell.g 13 rfl) 3 rfl ?_
  by_cases c_0 : jd_wr x2 = 0
  · have h := jif_t h c_0
    refine jr_tswIn hC (D_X11_cell.g 14 rfl) 0 c_0 (by decide) rfl 56 rfl ?_
    refine jr_aload_n hC (D_X11_cell.g 15 rfl) 1 rfl ?_
    refine jr_getR hC fl_X11_19 rfl (D_X11_cell.g 16 rfl) h (fun r7 h => ?_)
    refine jr_getR hC fl_X11_115 rfl (D_X11_cell.g 17 rfl) h (fun r8 h => ?_)
    refine jr_iload_n hC (D_X11_cell.g 18 rfl) 2 rfl ?_
    refine jr_zald hC (D_X11_cell.g 19 rfl) h (fun v9 h => ?_)
    refine jr_if_eq hC (D_X11_cell.g 20 rfl) 72 rfl h (fun h => ?_) (fun h => ?_)
    · refine jr_iload_n hC (D_X11_cell.g 23 rfl) 0 rfl ?_
      refine jr_iconst hC (D_X11_cell.g 24 rfl) ?_
      refine jr_icmp_ne hC (D_X11_cell.g 25 rfl) 81 rfl h (fun h => ?_) (fun h => ?_)
      · refine jr_iconst hC (D_X11_cell.g 26 rfl) ?_
        refine jr_goto hC (D_X11_cell.g 27 rfl) 82 rfl ?_
        exact jr_iret hC (D_X11_cell.g 29 rfl) hr hE h
      refine jr_iconst hC (D_X11_cell.g 28 rfl) ?_
      exact jr_iret hC (D_X11_cell.g 29 rfl) hr hE h
    refine jr_iconst hC (D_X11_cell.g 21 rfl) ?_
    refine jr_goto hC (D_X11_cell.g 22 rfl) 82 rfl ?_
    exact jr_iret hC (D_X11_cell.g 29 rfl) hr hE h
  replace h := jif_f h c_0
  by_cases c_1 : jd_wr x2 = 1
  · have h := jif_t h c_1
    refine jr_tswIn hC (D_X11_cell.g 14 rfl) 1 c_1 (by decide) rfl 83 rfl ?_
    refine jr_iload_n hC (D_X11_cell.g 30 rfl) 0 rfl ?_
    refine jr_iconst hC (D_X11_cell.g 31 rfl) ?_
    refine jr_icmp_ne hC (D_X11_cell.g 32 rfl) 93 rfl h (fun h => ?_) (fun h => ?_)
    · refine jr_bipush hC (D_X11_cell.g 33 rfl) bp_m2 ?_
      refine jr_goto hC (D_X11_cell.g 34 rfl) 102 rfl ?_
      exact jr_iret hC (D_X11_cell.g 40 rfl) hr hE h
    refine jr_aload_n hC (D_X11_cell.g 35 rfl) 1 rfl ?_
    refine jr_getR hC fl_X11_38 rfl (D_X11_cell.g 36 rfl) h (fun r10 h => ?_)
    refine jr_iload_n hC (D_X11_cell.g 37 rfl) 0 rfl ?_
    refine jr_iload_n hC (D_X11_cell.g 38 rfl) 2 rfl ?_
    refine jr_cVi hC cl_X11_119 ⟨rfl, by decide⟩ (D_X11_cell.g 39 rfl) [q_i v6, q_i x1] h (fun r M' e => c_X6_otherCell e) rfl rfl ⟨by decide, by decide⟩ (Nat.le_of_ble_eq_true rfl) ⟨Nat.le_of_ble_eq_true rfl, Nat.le_of_ble_eq_true rfl⟩ (fun v11 M12 h => ?_)
    exact jr_iret hC (D_X11_cell.g 40 rfl) hr hE h
  replace h := jif_f h c_1
  by_cases c_2 : jd_wr x2 = 2
  · have h := jif_t h c_2
    refine jr_tswIn hC (D_X11_cell.g 14 rfl) 2 c_2 (by decide) rfl 103 rfl ?_
    refine jr_iload_n hC (D_X11_cell.g 41 rfl) 0 rfl ?_
    refine jr_iconst hC (D_X11_cell.g 42 rfl) ?_
    refine jr_icmp_ne hC (D_X11_cell.g 43 rfl) 113 rfl h (fun h => ?_) (fun h => ?_)
    · refine jr_bipush hC (D_X11_cell.g 44 rfl) bp_m2 ?_
      refine jr_goto hC (D_X11_cell.g 45 rfl) 114 rfl ?_
      exact jr_iret hC (D_X11_cell.g 47 rfl) hr hE h
    refine jr_iload_n hC (D_X11_cell.g 46 rfl) 0 rfl ?_
    exact jr_iret hC (D_X11_cell.g 47 rfl) hr hE h
  replace h := jif_f h c_2
  by_cases c_3 : jd_wr x2 = 3
  · have h := jif_t h c_3
    refine jr_tswIn hC (D_X11_cell.g 14 rfl) 3 c_3 (by decide) rfl 115 rfl ?_
    refine jr_aload_n hC (D_X11_cell.g 48 rfl) 1 rfl ?_
    refine jr_getR hC fl_X11_19 rfl (D_X11_cell.g 49 rfl) h (fun r13 h => ?_)
    refine jr_iload_n hC (D_X11_cell.g 50 rfl) 2 rfl ?_
    refine jr_cVi hC cl_X11_123 ⟨rfl, by decide⟩ (D_X11_cell.g 51 rfl) [q_i x1] h (fun r M' e => c_X8_isBlack e) rfl rfl ⟨by decide, by decide⟩ (Nat.le_of_ble_eq_true rfl) ⟨Nat.le_of_ble_eq_true rfl, Nat.le_of_ble_eq_true rfl⟩ (fun v14 M15 h => ?_)
    refine jr_if_eq hC (D_X11_cell.g 52 rfl) 130 rfl h (fun h => ?_) (fun h => ?_)
    · refine jr_iconst hC (D_X11_cell.g 55 rfl) ?_
      exact jr_iret hC (D_X11_cell.g 56 rfl) hr hE h
    refine jr_iconst hC (D_X11_cell.g 53 rfl) ?_
    refine jr_goto hC (D_X11_cell.g 54 rfl) 131 rfl ?_
    exact jr_iret hC (D_X11_cell.g 56 rfl) hr hE h
  replace h := jif_f h c_3
  refine jr_tswOut hC (D_X11_cell.g 14 rfl) (by omega) 132 rfl ?_
  refine jr_iconst hC (D_X11_cell.g 57 rfl) ?_
  exact jr_iret hC (D_X11_cell.g 58 rfl) hr hE h
def f_X11_stone (th : Nat) (x1 : Int) (x2 : Int) (M : jMem) : Option (Int × jMem) :=
if jd_wr x1 < 0 then (some ((-1), M))
else (if jd_wr x1 < jd_wr 18 then (if jd_wr x2 < 0 then (some ((-1), M))
else (if jd_wr x2 ≤ jd_wr 5 then ((jm_gR 11 4 M th).bind fun r1 =>
jcall 6 M r1 (f_X6_lies r1 x1 M) fun v2 M3 =>
if jd_wr v2 = 0 then (some ((-2), M3))
else (if jd_wr x2 = 0 then ((jm_gR 11 4 M3 th).bind fun r4 =>
(jm_gR 6 0 M3 r4).bind fun r5 =>
(jm_ld 20 M3 r5 x1).bind fun v6 =>
some (v6, M3))
else if jd_wr x2 = 1 then ((jm_gR 11 4 M3 th).bind fun r7 =>
(jm_gR 6 1 M3 r7).bind fun r8 =>
(jm_ld 22 M3 r8 x1).bind fun v9 =>
if jd_wr v9 = 0 then (some (0, M3))
else (some (1, M3)))
else if jd_wr x2 = 2 then ((jm_gR 11 4 M3 th).bind fun r10 =>
(jm_gR 6 2 M3 r10).bind fun r11 =>
(jm_ld 20 M3 r11 x1).bind fun v12 =>
some (v12, M3))
else if jd_wr x2 = 3 then ((jm_gR 11 4 M3 th).bind fun r13 =>
(jm_gR 6 3 M3 r13).bind fun r14 =>
(jm_ld 20 M3 r14 x1).bind fun v15 =>
some (v15, M3))
else if jd_wr x2 = 4 then ((jm_gR 11 2 M3 th).bind fun r16 =>
(jm_gR 8 12 M3 r16).bind fun r17 =>
(jm_gR 11 4 M3 th).bind fun r18 =>
(jm_gR 11 2 M3 th).bind fun r19 =>
(jm_gI 8 3 M3 r19).bind fun v20 =>
jcall 2 M3 r17 (f_X2_held r17 0 r18 x1 v20 M3) fun v21 M22 =>
some (v21, M22))
else ((jm_gR 11 2 M3 th).bind fun r23 =>
(jm_gR 8 12 M3 r23).bind fun r24 =>
(jm_gR 11 4 M3 th).bind fun r25 =>
(jm_gR 11 2 M3 th).bind fun r26 =>
(jm_gI 8 3 M3 r26).bind fun v27 =>
jcall 2 M3 r24 (f_X2_held r24 1 r25 x1 v27 M3) fun v28 M29 =>
some (v28, M29))))
else (some ((-1), M))))
else (some ((-1), M)))
theorem D_X11_stone : jDs cX11_stone [(0, .iload_n 1, 1, 1), (1, .ifCond .lt 18, 3, 4), (4, .iload_n 1, 1, 5), (5, .bipush 18, 2, 7), (7, .if_icmp .ge 12, 3, 10), (10, .iload_n 2, 1, 11), (11, .ifCond .lt 8, 3, 14), (14, .iload_n 2, 1, 15), (15, .iconst 5, 1, 16), (16, .if_icmp .le 5, 3, 19), (19, .iconst (-1), 1, 20), (20, .ireturn, 1, 21), (21, .aload_n 0, 1, 22), (22, .getfield 38, 3, 25), (25, .iload_n 1, 1, 26), (26, .invokevirtual 126, 3, 29), (29, .ifCond .ne 6, 3, 32), (32, .bipush (-2), 2, 34), (34, .ireturn, 1, 35), (35, .iload_n 2, 1, 36), (36, .tableswitch 108 0 4 #[36, 46, 64, 74, 84], 36, 72), (72, .aload_n 0, 1, 73), (73, .getfield 38, 3, 76), (76, .getfield 129, 3, 79), (79, .iload_n 1, 1, 80), (80, .iaload, 1, 81), (81, .ireturn, 1, 82), (82, .aload_n 0, 1, 83), (83, .getfield 38, 3, 86), (86, .getfield 132, 3, 89), (89, .iload_n 1, 1, 90), (90, .baload, 1, 91), (91, .ifCond .eq 7, 3, 94), (94, .iconst 1, 1, 95), (95, .goto 4, 3, 98), (98, .iconst 0, 1, 99), (99, .ireturn, 1, 100), (100, .aload_n 0, 1, 101), (101, .getfield 38, 3, 104), (104, .getfield 135, 3, 107), (107, .iload_n 1, 1, 108), (108, .iaload, 1, 109), (109, .ireturn, 1, 110), (110, .aload_n 0, 1, 111), (111, .getfield 38, 3, 114), (114, .getfield 138, 3, 117), (117, .iload_n 1, 1, 118), (118, .iaload, 1, 119), (119, .ireturn, 1, 120), (120, .aload_n 0, 1, 121), (121, .getfield 19, 3, 124), (124, .getfield 141, 3, 127), (127, .iconst 0, 1, 128), (128, .aload_n 0, 1, 129), (129, .getfield 38, 3, 132), (132, .iload_n 1, 1, 133), (133, .aload_n 0, 1, 134), (134, .getfield 19, 3, 137), (137, .getfield 147, 3, 140), (140, .invokevirtual 150, 3, 143), (143, .ireturn, 1, 144), (144, .aload_n 0, 1, 145), (145, .getfield 19, 3, 148), (148, .getfield 141, 3, 151), (151, .iconst 1, 1, 152), (152, .aload_n 0, 1, 153), (153, .getfield 38, 3, 156), (156, .iload_n 1, 1, 157), (157, .aload_n 0, 1, 158), (158, .getfield 19, 3, 161), (161, .getfield 147, 3, 164), (164, .invokevirtual 150, 3, 167), (167, .ireturn, 1, 168)] := by unfold jDs; decide +kernel
set_option maxRecDepth 100000 in
set_option maxHeartbeats 4000000 in
theorem c_X11_stone {E : jE} {th : Nat} {x1 : Int} {x2 : Int} {M : jMem} {r : Int} {M' : jMem} (h : f_X11_stone th x1 x2 M = some (r, M')) : jMet E yX11_stone cX11_stone 3 (some .int) 6 0 0 [q_r E th, q_i x1, q_i x2] M (some (q_i r)) M' := by
  unfold f_X11_stone at h
  refine jMet.of RX11 rfl (by decide +kernel) (Nat.le_of_ble_eq_true rfl) [(0, q_r E th), (1, q_i x1), (2, q_i x2)] rfl (fun X hC hE hr hn => ?_)
  refine jr_iload_n hC (D_X11_stone.g 0 rfl) 1 rfl ?_
  refine jr_if_lt hC (D_X11_stone.g 1 rfl) 19 rfl h (fun h => ?_) (fun h => ?_)
  · refine jr_iconst hC (D_X11_stone.g 10 rfl) ?_
    exact jr_iret hC (D_X11_stone.g 11 rfl) hr hE h
  refine jr_iload_n hC (D_X11_stone.g 2 rfl) 1 rfl ?_
  refine jr_bipush hC (D_X11_stone.g 3 rfl) bp_18 ?_
  refine jr_icmp_ge hC (D_X11_stone.g 4 rfl) 19 rfl h (fun h => ?_) (fun h => ?_)
  · refine jr_iload_n hC (D_X11_stone.g 5 rfl) 2 rfl ?_
    refine jr_if_lt hC (D_X11_stone.g 6 rfl) 19 rfl h (fun h => ?_) (fun h => ?_)
    · refine jr_iconst hC (D_X11_stone.g 10 rfl) ?_
      exact jr_iret hC (D_X11_stone.g 11 rfl) hr hE h
    refine jr_iload_n hC (D_X11_stone.g 7 rfl) 2 rfl ?_
    refine jr_iconst hC (D_X11_stone.g 8 rfl) ?_
    refine jr_icmp_le hC (D_X11_stone.g 9 rfl) 21 rfl h (fun h => ?_) (fun h => ?_)
    · refine jr_aload_n hC (D_X11_stone.g 12 rfl) 0 rfl ?_
      refine jr_getR hC fl_X11_38 rfl (D_X11_stone.g 13 rfl) h (fun r1 h => ?_)
      refine jr_iload_n hC (D_X11_stone.g 14 rfl) 1 rfl ?_
      refine jr_cVi hC cl_X11_126 ⟨rfl, by decide⟩ (D_X11_stone.g 15 rfl) [q_i x1] h (fun r M' e => c_X6_lies e) rfl rfl ⟨by decide, by decide⟩ (Nat.le_of_ble_eq_true rfl) ⟨Nat.le_of_ble_eq_true rfl, Nat.le_of_ble_eq_true rfl⟩ (fun v2 M3 h => ?_)
      refine jr_if_ne hC (D_X11_stone.g 16 rfl) 35 rfl h (fun h => ?_) (fun h => ?_)
      · refine jr_bipush hC (D_X11_stone.g 17 rfl) bp_m2 ?_
        exact jr_iret hC (D_X11_stone.g 18 rfl) hr hE h
      refine jr_iload_n hC (D_X11_stone.g 19 rfl) 2 rfl ?_
      by_cases c_0 : jd_wr x2 = 0
      · have h := jif_t h c_0
        refine jr_tswIn hC (D_X11_stone.g 20 rfl) 0 c_0 (by decide) rfl 72 rfl ?_
        refine jr_aload_n hC (D_X11_stone.g 21 rfl) 0 rfl ?_
        refine jr_getR hC fl_X11_38 rfl (D_X11_stone.g 22 rfl) h (fun r4 h => ?_)
        refine jr_getR hC fl_X11_129 rfl (D_X11_stone.g 23 rfl) h (fun r5 h => ?_)
        refine jr_iload_n hC (D_X11_stone.g 24 rfl) 1 rfl ?_
        refine jr_iald hC (D_X11_stone.g 25 rfl) h (fun v6 h => ?_)
        exact jr_iret hC (D_X11_stone.g 26 rfl) hr hE h
      replace h := jif_f h c_0
      by_cases c_1 : jd_wr x2 = 1
      · have h := jif_t h c_1
        refine jr_tswIn hC (D_X11_stone.g 20 rfl) 1 c_1 (by decide) rfl 82 rfl ?_
        refine jr_aload_n hC (D_X11_stone.g 27 rfl) 0 rfl ?_
        refine jr_getR hC fl_X11_38 rfl (D_X11_stone.g 28 rfl) h (fun r7 h => ?_)
        refine jr_getR hC fl_X11_132 rfl (D_X11_stone.g 29 rfl) h (fun r8 h => ?_)
        refine jr_iload_n hC (D_X11_stone.g 30 rfl) 1 rfl ?_
        refine jr_zald hC (D_X11_stone.g 31 rfl) h (fun v9 h => ?_)
        refine jr_if_eq hC (D_X11_stone.g 32 rfl) 98 rfl h (fun h => ?_) (fun h => ?_)
        · refine jr_iconst hC (D_X11_stone.g 35 rfl) ?_
          exact jr_iret hC (D_X11_stone.g 36 rfl) hr hE h
        refine jr_iconst hC (D_X11_stone.g 33 rfl) ?_
        refine jr_goto hC (D_X11_stone.g 34 rfl) 99 rfl ?_
        exact jr_iret hC (D_X11_stone.g 36 rfl) hr hE h
      replace h := jif_f h c_1
      by_cases c_2 : jd_wr x2 = 2
      · have h := jif_t h c_2
        refine jr_tswIn hC (D_X11_stone.g 20 rfl) 2 c_2 (by decide) rfl 100 rfl ?_
        refine jr_aload_n hC (D_X11_stone.g 37 rfl) 0 rfl ?_
        refine jr_getR hC fl_X11_38 rfl (D_X11_stone.g 38 rfl) h (fun r10 h => ?_)
        refine jr_getR hC fl_X11_135 rfl (D_X11_stone.g 39 rfl) h (fun r11 h => ?_)
        refine jr_iload_n hC (D_X11_stone.g 40 rfl) 1 rfl ?_
        refine jr_iald hC (D_X11_stone.g 41 rfl) h (fun v12 h => ?_)
        exact jr_iret hC (D_X11_stone.g 42 rfl) hr hE h
      replace h := jif_f h c_2
      by_cases c_3 : jd_wr x2 = 3
      · have h := jif_t h c_3
        refine jr_tswIn hC (D_X11_stone.g 20 rfl) 3 c_3 (by decide) rfl 110 rfl ?_
        refine jr_aload_n hC (D_X11_stone.g 43 rfl) 0 rfl ?_
        refine jr_getR hC fl_X11_38 rfl (D_X11_stone.g 44 rfl) h (fun r13 h => ?_)
        refine jr_getR hC fl_X11_138 rfl (D_X11_stone.g 45 rfl) h (fun r14 h => ?_)
        refine jr_iload_n hC (D_X11_stone.g 46 rfl) 1 rfl ?_
        refine jr_iald hC (D_X11_stone.g 47 rfl) h (fun v15 h => ?_)
        exact jr_iret hC (D_X11_stone.g 48 rfl) hr hE h
      replace h := jif_f h c_3
      by_cases c_4 : jd_wr x2 = 4
      · have h := jif_t h c_4
        refine jr_tswIn hC (D_X11_stone.g 20 rfl) 4 c_4 (by decide) rfl 120 rfl ?_
        refine jr_aload_n hC (D_X11_stone.g 49 rfl) 0 rfl ?_
        refine jr_getR hC fl_X11_19 rfl (D_X11_stone.g 50 rfl) h (fun r16 h => ?_)
        refine jr_getR hC fl_X11_141 rfl (D_X11_stone.g 51 rfl) h (fun r17 h => ?_)
        refine jr_iconst hC (D_X11_stone.g 52 rfl) ?_
        refine jr_aload_n hC (D_X11_stone.g 53 rfl) 0 rfl ?_
        refine jr_getR hC fl_X11_38 rfl (D_X11_stone.g 54 rfl) h (fun r18 h => ?_)
        refine jr_iload_n hC (D_X11_stone.g 55 rfl) 1 rfl ?_
        refine jr_aload_n hC (D_X11_stone.g 56 rfl) 0 rfl ?_
        refine jr_getR hC fl_X11_19 rfl (D_X11_stone.g 57 rfl) h (fun r19 h => ?_)
        refine jr_getI hC fl_X11_147 rfl (D_X11_stone.g 58 rfl) h (fun v20 h => ?_)
        refine jr_cVi hC cl_X11_150 ⟨rfl, by decide⟩ (D_X11_stone.g 59 rfl) [q_i 0, q_r E r18, q_i x1, q_i v20] h (fun r M' e => c_X2_held e) rfl rfl ⟨by decide, by decide⟩ (Nat.le_of_ble_eq_true rfl) ⟨Nat.le_of_ble_eq_true rfl, Nat.le_of_ble_eq_true rfl⟩ (fun v21 M22 h => ?_)
        exact jr_iret hC (D_X11_stone.g 60 rfl) hr hE h
      replace h := jif_f h c_4
      refine jr_tswOut hC (D_X11_stone.g 20 rfl) (by omega) 144 rfl ?_
      refine jr_aload_n hC (D_X11_stone.g 61 rfl) 0 rfl ?_
      refine jr_getR hC fl_X11_19 rfl (D_X11_stone.g 62 rfl) h (fun r23 h => ?_)
      refine jr_getR hC fl_X11_141 rfl (D_X11_stone.g 63 rfl) h (fun r24 h => ?_)
      refine jr_iconst hC (D_X11_stone.g 64 rfl) ?_
      refine jr_aload_n hC (D_X11_stone.g 65 rfl) 0 rfl ?_
      refine jr_getR hC fl_X11_38 rfl (D_X11_stone.g 66 rfl) h (fun r25 h => ?_)
      refine jr_iload_n hC (D_X11_stone.g 67 rfl) 1 rfl ?_
      refine jr_aload_n hC (D_X11_stone.g 68 rfl) 0 rfl ?_
      refine jr_getR hC fl_X11_19 rfl (D_X11_stone.g 69 rfl) h (fun r26 h => ?_)
      refine jr_getI hC fl_X11_147 rfl (D_X11_stone.g 70 rfl) h (fun v27 h => ?_)
      refine jr_cVi hC cl_X11_150 ⟨rfl, by decide⟩ (D_X11_stone.g 71 rfl) [q_i 1, q_r E r25, q_i x1, q_i v27] h (fun r M' e => c_X2_held e) rfl rfl ⟨by decide, by decide⟩ (Nat.le_of_ble_eq_true rfl) ⟨Nat.le_of_ble_eq_true rfl, Nat.le_of_ble_eq_true rfl⟩ (fun v28 M29 h => ?_)
      exact jr_iret hC (D_X11_stone.g 72 rfl) hr hE h
    refine jr_iconst hC (D_X11_stone.g 10 rfl) ?_
    exact jr_iret hC (D_X11_stone.g 11 rfl) hr hE h
  refine jr_iconst hC (D_X11_stone.g 10 rfl) ?_
  exact jr_iret hC (D_X11_stone.g 11 rfl) hr hE h
def f_X11_isFree (th : Nat) (x1 : Int) (M : jMem) : Option (Int × jMem) :=
(jm_gR 11 2 M th).bind fun r1 =>
jcall 8 M r1 (f_X8_isOpen r1 x1 M) fun v2 M3 =>
jjq (jm_z 0 M3) fun j_28 =>
if jd_wr v2 = 0 then (j_28 )
else ((jm_gR 11 4 M3 th).bind fun r4 =>
(jm_gR 6 4 M3 r4).bind fun r5 =>
(jm_ld 20 M3 r5 x1).bind fun v6 =>
if jd_wr v6 = jd_wr (-1) then (jm_z 1 M3)
else (j_28 ))
theorem D_X11_isFree : jDs cX11_isFree [(0, .aload_n 0, 1, 1), (1, .getfield 19, 3, 4), (4, .iload_n 1, 1, 5), (5, .invokevirtual 225, 3, 8), (8, .ifCond .eq 20, 3, 11), (11, .aload_n 0, 1, 12), (12, .getfield 38, 3, 15), (15, .getfield 112, 3, 18), (18, .iload_n 1, 1, 19), (19, .iaload, 1, 20), (20, .iconst (-1), 1, 21), (21, .if_icmp .ne 7, 3, 24), (24, .iconst 1, 1, 25), (25, .goto 4, 3, 28), (28, .iconst 0, 1, 29), (29, .ireturn, 1, 30)] := by unfold jDs; decide +kernel
set_option maxRecDepth 100000 in
set_option maxHeartbeats 4000000 in
theorem c_X11_isFree {E : jE} {th : Nat} {x1 : Int} {M : jMem} {r : Int} {M' : jMem} (h : f_X11_isFree th x1 M = some (r, M')) : jMet E yX11_isFree cX11_isFree 2 (some .boolean) 4 0 0 [q_r E th, q_i x1] M (some (q_i r)) M' := by
  unfold f_X11_isFree at h
  refine jMet.of RX11 rfl (by decide +kernel) (Nat.le_of_ble_eq_true rfl) [(0, q_r E th), (1, q_i x1)] rfl (fun X hC hE hr hn => ?_)
  refine jr_aload_n hC (D_X11_isFree.g 0 rfl) 0 rfl ?_
  refine jr_getR hC fl_X11_19 rfl (D_X11_isFree.g 1 rfl) h (fun r1 h => ?_)
  refine jr_iload_n hC (D_X11_isFree.g 2 rfl) 1 rfl ?_
  refine jr_cVi hC cl_X11_225 ⟨rfl, by decide⟩ (D_X11_isFree.g 3 rfl) [q_i x1] h (fun r M' e => c_X8_isOpen e) rfl rfl ⟨by decide, by decide⟩ (Nat.le_of_ble_eq_true rfl) ⟨Nat.le_of_ble_eq_true rfl, Nat.le_of_ble_eq_true rfl⟩ (fun v2 M3 h => ?_)
  refine jr_join h (fun j => j = some (r, M') → JW E X 2 0 0 M3 28 [] []) ?_ ?_
  · intro  h
    refine jr_iconst hC (D_X11_isFree.g 14 rfl) ?_
    exact jr_zret hC (D_X11_isFree.g 15 rfl) hr hE h
  intro j_28 hj_28 h
  refine jr_if_eq hC (D_X11_isFree.g 4 rfl) 28 rfl h (fun h => ?_) (fun h => ?_)
  · refine jr_pick [] rfl ?_
    exact hj_28  h
  refine jr_aload_n hC (D_X11_isFree.g 5 rfl) 0 rfl ?_
  refine jr_getR hC fl_X11_38 rfl (D_X11_isFree.g 6 rfl) h (fun r4 h => ?_)
  refine jr_getR hC fl_X11_112 rfl (D_X11_isFree.g 7 rfl) h (fun r5 h => ?_)
  refine jr_iload_n hC (D_X11_isFree.g 8 rfl) 1 rfl ?_
  refine jr_iald hC (D_X11_isFree.g 9 rfl) h (fun v6 h => ?_)
  refine jr_iconst hC (D_X11_isFree.g 10 rfl) ?_
  refine jr_icmp_ne hC (D_X11_isFree.g 11 rfl) 28 rfl h (fun h => ?_) (fun h => ?_)
  · refine jr_iconst hC (D_X11_isFree.g 12 rfl) ?_
    refine jr_goto hC (D_X11_isFree.g 13 rfl) 29 rfl ?_
    exact jr_zret hC (D_X11_isFree.g 15 rfl) hr hE h
  refine jr_pick [] rfl ?_
  exact hj_28  h
def f_X11_lay (th : Nat) (x1 : Int) (x2 : Int) (M : jMem) : Option (Int × jMem) :=
jjq (jcall 11 M th (f_X11_isFree th x1 M) fun v1 M2 =>
if jd_wr v1 = 0 then (some ((-1), M2))
else (jjq (fun (z0_28 : Int) =>
jjq (fun (M_60 : jMem) =>
(jm_gR 11 4 M_60 th).bind fun r3 =>
jcall 6 M_60 r3 (f_X6_leastCouple r3 M_60) fun v4 M5 =>
if jd_wr v4 = jd_wr (-1) then (some ((-1), M5))
else (jjq (fun (z0_95 : Int) =>
jcall 11 M5 th (f_X11_isFree th z0_95 M5) fun v6 M7 =>
if jd_wr v6 = 0 then (some ((-1), M7))
else ((jm_gR 11 6 M7 th).bind fun r8 =>
(jm_gR 11 4 M7 th).bind fun r9 =>
jcall 1 M7 r8 (f_X1_keepForUndo r8 r9 M7) fun _ M11 =>
(jm_gR 11 4 M11 th).bind fun r12 =>
jcall 6 M11 r12 (f_X6_put r12 v4 x1 z0_28 M11) fun _ M14 =>
(jm_gR 11 4 M14 th).bind fun r15 =>
(jm_gI 6 8 M14 r15).bind fun v16 =>
(jm_gR 11 2 M14 th).bind fun r17 =>
(jm_gR 8 12 M14 r17).bind fun r18 =>
(jm_gR 11 4 M14 th).bind fun r19 =>
(jm_gR 11 2 M14 th).bind fun r20 =>
(jm_gI 8 3 M14 r20).bind fun v21 =>
jcall 2 M14 r18 (f_X2_held r18 2 r19 v4 v21 M14) fun v22 M23 =>
(jm_pI 6 8 M23 r15 (v16 + v22)).bind fun M24 =>
some (v4, M24))) fun j_95 =>
if jd_wr z0_28 = 0 then ((jm_gR 11 2 M5 th).bind fun r25 =>
(jm_gI 8 0 M5 r25).bind fun v26 =>
j_95 (x1 + v26))
else (j_95 (x1 + 1)))) fun j_60 =>
if jd_wr z0_28 = 0 then ((jm_gR 11 2 M2 th).bind fun r27 =>
jcall 8 M2 r27 (f_X8_hasBelow r27 x1 M2) fun v28 M29 =>
if jd_wr v28 = 0 then (some ((-1), M29))
else (j_60 M29))
else ((jm_gR 11 2 M2 th).bind fun r30 =>
jcall 8 M2 r30 (f_X8_hasRight r30 x1 M2) fun v31 M32 =>
if jd_wr v31 = 0 then (some ((-1), M32))
else (j_60 M32))) fun j_28 =>
if jd_wr x2 = 0 then (j_28 1)
else (j_28 0))) fun j_9 =>
if jd_wr x2 = 0 then (j_9 )
else (if jd_wr x2 = jd_wr 1 then (j_9 )
else (some ((-1), M)))
theorem D_X11_lay : jDs cX11_lay [(0, .iload_n 2, 1, 1), (1, .ifCond .eq 8, 3, 4), (4, .iload_n 2, 1, 5), (5, .iconst 1, 1, 6), (6, .if_icmp .ne 11, 3, 9), (9, .aload_n 0, 1, 10), (10, .iload_n 1, 1, 11), (11, .invokevirtual 154, 3, 14), (14, .ifCond .ne 5, 3, 17), (17, .iconst (-1), 1, 18), (18, .ireturn, 1, 19), (19, .iload_n 2, 1, 20), (20, .ifCond .ne 7, 3, 23), (23, .iconst 1, 1, 24), (24, .goto 4, 3, 27), (27, .iconst 0, 1, 28), (28, .istore_n 3, 1, 29), (29, .iload_n 3, 1, 30), (30, .ifCond .eq 17, 3, 33), (33, .aload_n 0, 1, 34), (34, .getfield 19, 3, 37), (37, .iload_n 1, 1, 38), (38, .invokevirtual 157, 3, 41), (41, .ifCond .ne 19, 3, 44), (44, .goto 14, 3, 47), (47, .aload_n 0, 1, 48), (48, .getfield 19, 3, 51), (51, .iload_n 1, 1, 52), (52, .invokevirtual 160, 3, 55), (55, .ifCond .ne 5, 3, 58), (58, .iconst (-1), 1, 59), (59, .ireturn, 1, 60), (60, .aload_n 0, 1, 61), (61, .getfield 38, 3, 64), (64, .invokevirtual 163, 3, 67), (67, .istore 4, 2, 69), (69, .iload 4, 2, 71), (71, .iconst (-1), 1, 72), (72, .if_icmp .eq 29, 3, 75), (75, .aload_n 0, 1, 76), (76, .iload_n 3, 1, 77), (77, .ifCond .eq 9, 3, 80), (80, .iload_n 1, 1, 81), (81, .iconst 1, 1, 82), (82, .iadd, 1, 83), (83, .goto 12, 3, 86), (86, .iload_n 1, 1, 87), (87, .aload_n 0, 1, 88), (88, .getfield 19, 3, 91), (91, .getfield 167, 3, 94), (94, .iadd, 1, 95), (95, .invokevirtual 154, 3, 98), (98, .ifCond .ne 5, 3, 101), (101, .iconst (-1), 1, 102), (102, .ireturn, 1, 103), (103, .aload_n 0, 1, 104), (104, .getfield 48, 3, 107), (107, .aload_n 0, 1, 108), (108, .getfield 38, 3, 111), (111, .invokevirtual 170, 3, 114), (114, .aload_n 0, 1, 115), (115, .getfield 38, 3, 118), (118, .iload 4, 2, 120), (120, .iload_n 1, 1, 121), (121, .iload_n 3, 1, 122), (122, .invokevirtual 174, 3, 125), (125, .aload_n 0, 1, 126), (126, .getfield 38, 3, 129), (129, .dup, 1, 130), (130, .getfield 178, 3, 133), (133, .aload_n 0, 1, 134), (134, .getfield 19, 3, 137), (137, .getfield 141, 3, 140), (140, .iconst 2, 1, 141), (141, .aload_n 0, 1, 142), (142, .getfield 38, 3, 145), (145, .iload 4, 2, 147), (147, .aload_n 0, 1, 148), (148, .getfield 19, 3, 151), (151, .getfield 147, 3, 154), (154, .invokevirtual 150, 3, 157), (157, .iadd, 1, 158), (158, .putfield 178, 3, 161), (161, .iload 4, 2, 163), (163, .ireturn, 1, 164)] := by unfold jDs; decide +kernel
set_option maxRecDepth 100000 in
set_option maxHeartbeats 4000000 in
theorem c_X11_lay {E : jE} {th : Nat} {x1 : Int} {x2 : Int} {M : jMem} {r : Int} {M' : jMem} (h : f_X11_lay th x1 x2 M = some (r, M')) : jMet E yX11_lay cX11_lay 5 (some .int) 6 0 0 [q_r E th, q_i x1, q_i x2] M (some (q_i r)) M' := by
  unfold f_X11_lay at h
  refine jMet.of RX11 rfl (by decide +kernel) (Nat.le_of_ble_eq_true rfl) [(0, q_r E th), (1, q_i x1), (2, q_i x2)] rfl (fun X hC hE hr hn => ?_)
  refine jr_iload_n hC (D_X11_lay.g 0 rfl) 2 rfl ?_
  refine jr_join h (fun j => j = some (r, M') → JW E X 5 0 0 M 9 [(0, q_r E th), (1, q_i x1), (2, q_i x2)] []) ?_ ?_
  · intro  h
    refine jr_aload_n hC (D_X11_lay.g 5 rfl) 0 rfl ?_
    refine jr_iload_n hC (D_X11_lay.g 6 rfl) 1 rfl ?_
    refine jr_cVi hC cl_X11_154 ⟨rfl, by decide⟩ (D_X11_lay.g 7 rfl) [q_i x1] h (fun r M' e => c_X11_isFree e) rfl rfl ⟨by decide, by decide⟩ (Nat.le_of_ble_eq_true rfl) ⟨Nat.le_of_ble_eq_true rfl, Nat.le_of_ble_eq_true rfl⟩ (fun v1 M2 h => ?_)
    refine jr_if_ne hC (D_X11_lay.g 8 rfl) 19 rfl h (fun h => ?_) (fun h => ?_)
    · refine jr_iconst hC (D_X11_lay.g 9 rfl) ?_
      exact jr_iret hC (D_X11_lay.g 10 rfl) hr hE h
    refine jr_iload_n hC (D_X11_lay.g 11 rfl) 2 rfl ?_
    refine jr_join h (fun j => ∀ (z0_28 : Int), j z0_28 = some (r, M') → JW E X 5 0 0 M2 28 [(0, q_r E th), (1, q_i x1)] [q_i z0_28]) ?_ ?_
    · intro z0_28 h
      refine jr_istore_n hC (D_X11_lay.g 16 rfl) (by decide) rfl ?_
      refine jr_iload_n hC (D_X11_lay.g 17 rfl) 0 rfl ?_
      refine jr_join h (fun j => ∀ (M_60 : jMem), j M_60 = some (r, M') → JW E X 5 0 0 M_60 60 [(0, q_r E th), (1, q_i x1), (3, q_i z0_28)] []) ?_ ?_
      · intro M_60 h
        refine jr_aload_n hC (D_X11_lay.g 32 rfl) 0 rfl ?_
        refine jr_getR hC fl_X11_38 rfl (D_X11_lay.g 33 rfl) h (fun r3 h => ?_)
        refine jr_cVi hC cl_X11_163 ⟨rfl, by decide⟩ (D_X11_lay.g 34 rfl) [] h (fun r M' e => c_X6_leastCouple e) rfl rfl ⟨by decide, by decide⟩ (Nat.le_of_ble_eq_true rfl) ⟨Nat.le_of_ble_eq_true rfl, Nat.le_of_ble_eq_true rfl⟩ (fun v4 M5 h => ?_)
        refine jr_istore hC (D_X11_lay.g 35 rfl) (by decide) rfl ?_
        refine jr_iload hC (D_X11_lay.g 36 rfl) 0 rfl ?_
        refine jr_iconst hC (D_X11_lay.g 37 rfl) ?_
        refine jr_icmp_eq hC (D_X11_lay.g 38 rfl) 101 rfl h (fun h => ?_) (fun h => ?_)
        · refine jr_iconst hC (D_X11_lay.g 53 rfl) ?_
          exact jr_iret hC (D_X11_lay.g 54 rfl) hr hE h
        refine jr_aload_n hC (D_X11_lay.g 39 rfl) 1 rfl ?_
        refine jr_iload_n hC (D_X11_lay.g 40 rfl) 3 rfl ?_
        refine jr_join h (fun j => ∀ (z0_95 : Int), j z0_95 = some (r, M') → JW E X 5 0 0 M5 95 [(0, q_r E th), (1, q_i x1), (3, q_i z0_28), (4, q_i v4)] [q_i z0_95, q_r E th]) ?_ ?_
        · intro z0_95 h
          refine jr_cVi hC cl_X11_154 ⟨rfl, by decide⟩ (D_X11_lay.g 51 rfl) [q_i z0_95] h (fun r M' e => c_X11_isFree e) rfl rfl ⟨by decide, by decide⟩ (Nat.le_of_ble_eq_true rfl) ⟨Nat.le_of_ble_eq_true rfl, Nat.le_of_ble_eq_true rfl⟩ (fun v6 M7 h => ?_)
          refine jr_if_ne hC (D_X11_lay.g 52 rfl) 103 rfl h (fun h => ?_) (fun h => ?_)
          · refine jr_iconst hC (D_X11_lay.g 53 rfl) ?_
            exact jr_iret hC (D_X11_lay.g 54 rfl) hr hE h
          refine jr_aload_n hC (D_X11_lay.g 55 rfl) 0 rfl ?_
          refine jr_getR hC fl_X11_48 rfl (D_X11_lay.g 56 rfl) h (fun r8 h => ?_)
          refine jr_aload_n hC (D_X11_lay.g 57 rfl) 0 rfl ?_
          refine jr_getR hC fl_X11_38 rfl (D_X11_lay.g 58 rfl) h (fun r9 h => ?_)
          refine jr_cVv hC cl_X11_170 ⟨rfl, by decide⟩ (D_X11_lay.g 59 rfl) [q_r E r9] h (fun r M' e => c_X1_keepForUndo e) rfl rfl ⟨by decide, by decide⟩ (Nat.le_of_ble_eq_true rfl) ⟨Nat.le_of_ble_eq_true rfl, Nat.le_of_ble_eq_true rfl⟩ (fun _ M11 h => ?_)
          refine jr_aload_n hC (D_X11_lay.g 60 rfl) 0 rfl ?_
          refine jr_getR hC fl_X11_38 rfl (D_X11_lay.g 61 rfl) h (fun r12 h => ?_)
          refine jr_iload hC (D_X11_lay.g 62 rfl) 3 rfl ?_
          refine jr_iload_n hC (D_X11_lay.g 63 rfl) 1 rfl ?_
          refine jr_iload_n hC (D_X11_lay.g 64 rfl) 2 rfl ?_
          refine jr_cVv hC cl_X11_174 ⟨rfl, by decide⟩ (D_X11_lay.g 65 rfl) [q_i v4, q_i x1, q_i z0_28] h (fun r M' e => c_X6_put e) rfl rfl ⟨by decide, by decide⟩ (Nat.le_of_ble_eq_true rfl) ⟨Nat.le_of_ble_eq_true rfl, Nat.le_of_ble_eq_true rfl⟩ (fun _ M14 h => ?_)
          refine jr_aload_n hC (D_X11_lay.g 66 rfl) 0 rfl ?_
          refine jr_getR hC fl_X11_38 rfl (D_X11_lay.g 67 rfl) h (fun r15 h => ?_)
          refine jr_dup hC (D_X11_lay.g 68 rfl) rfl ?_
          refine jr_getI hC fl_X11_178 rfl (D_X11_lay.g 69 rfl) h (fun v16 h => ?_)
          refine jr_aload_n hC (D_X11_lay.g 70 rfl) 0 rfl ?_
          refine jr_getR hC fl_X11_19 rfl (D_X11_lay.g 71 rfl) h (fun r17 h => ?_)
          refine jr_getR hC fl_X11_141 rfl (D_X11_lay.g 72 rfl) h (fun r18 h => ?_)
          refine jr_iconst hC (D_X11_lay.g 73 rfl) ?_
          refine jr_aload_n hC (D_X11_lay.g 74 rfl) 0 rfl ?_
          refine jr_getR hC fl_X11_38 rfl (D_X11_lay.g 75 rfl) h (fun r19 h => ?_)
          refine jr_iload hC (D_X11_lay.g 76 rfl) 3 rfl ?_
          refine jr_aload_n hC (D_X11_lay.g 77 rfl) 0 rfl ?_
          refine jr_getR hC fl_X11_19 rfl (D_X11_lay.g 78 rfl) h (fun r20 h => ?_)
          refine jr_getI hC fl_X11_147 rfl (D_X11_lay.g 79 rfl) h (fun v21 h => ?_)
          refine jr_cVi hC cl_X11_150 ⟨rfl, by decide⟩ (D_X11_lay.g 80 rfl) [q_i 2, q_r E r19, q_i v4, q_i v21] h (fun r M' e => c_X2_held e) rfl rfl ⟨by decide, by decide⟩ (Nat.le_of_ble_eq_true rfl) ⟨Nat.le_of_ble_eq_true rfl, Nat.le_of_ble_eq_true rfl⟩ (fun v22 M23 h => ?_)
          refine jr_iadd hC (D_X11_lay.g 81 rfl) ?_
          refine jr_putI hC fl_X11_178 rfl (jnfin rfl) (D_X11_lay.g 82 rfl) h (fun M24 _ h => ?_)
          refine jr_iload hC (D_X11_lay.g 83 rfl) 3 rfl ?_
          exact jr_iret hC (D_X11_lay.g 84 rfl) hr hE h
        intro j_95 hj_95 h
        refine jr_if_eq hC (D_X11_lay.g 41 rfl) 86 rfl h (fun h => ?_) (fun h => ?_)
        · refine jr_iload_n hC (D_X11_lay.g 46 rfl) 2 rfl ?_
          refine jr_aload_n hC (D_X11_lay.g 47 rfl) 1 rfl ?_
          refine jr_getR hC fl_X11_19 rfl (D_X11_lay.g 48 rfl) h (fun r25 h => ?_)
          refine jr_getI hC fl_X11_167 rfl (D_X11_lay.g 49 rfl) h (fun v26 h => ?_)
          refine jr_iadd hC (D_X11_lay.g 50 rfl) ?_
          refine jr_pick [1, 2, 3, 0] rfl ?_
          exact hj_95 (x1 + v26) h
        refine jr_iload_n hC (D_X11_lay.g 42 rfl) 2 rfl ?_
        refine jr_iconst hC (D_X11_lay.g 43 rfl) ?_
        refine jr_iadd hC (D_X11_lay.g 44 rfl) ?_
        refine jr_goto hC (D_X11_lay.g 45 rfl) 95 rfl ?_
        refine jr_pick [1, 2, 3, 0] rfl ?_
        exact hj_95 (x1 + 1) h
      intro j_60 hj_60 h
      refine jr_if_eq hC (D_X11_lay.g 18 rfl) 47 rfl h (fun h => ?_) (fun h => ?_)
      · refine jr_aload_n hC (D_X11_lay.g 25 rfl) 1 rfl ?_
        refine jr_getR hC fl_X11_19 rfl (D_X11_lay.g 26 rfl) h (fun r27 h => ?_)
        refine jr_iload_n hC (D_X11_lay.g 27 rfl) 2 rfl ?_
        refine jr_cVi hC cl_X11_160 ⟨rfl, by decide⟩ (D_X11_lay.g 28 rfl) [q_i x1] h (fun r M' e => c_X8_hasBelow e) rfl rfl ⟨by decide, by decide⟩ (Nat.le_of_ble_eq_true rfl) ⟨Nat.le_of_ble_eq_true rfl, Nat.le_of_ble_eq_true rfl⟩ (fun v28 M29 h => ?_)
        refine jr_if_ne hC (D_X11_lay.g 29 rfl) 60 rfl h (fun h => ?_) (fun h => ?_)
        · refine jr_iconst hC (D_X11_lay.g 30 rfl) ?_
          exact jr_iret hC (D_X11_lay.g 31 rfl) hr hE h
        refine jr_pick [1, 2, 0] rfl ?_
        exact hj_60 M29 h
      refine jr_aload_n hC (D_X11_lay.g 19 rfl) 1 rfl ?_
      refine jr_getR hC fl_X11_19 rfl (D_X11_lay.g 20 rfl) h (fun r30 h => ?_)
      refine jr_iload_n hC (D_X11_lay.g 21 rfl) 2 rfl ?_
      refine jr_cVi hC cl_X11_157 ⟨rfl, by decide⟩ (D_X11_lay.g 22 rfl) [q_i x1] h (fun r M' e => c_X8_hasRight e) rfl rfl ⟨by decide, by decide⟩ (Nat.le_of_ble_eq_true rfl) ⟨Nat.le_of_ble_eq_true rfl, Nat.le_of_ble_eq_true rfl⟩ (fun v31 M32 h => ?_)
      refine jr_if_ne hC (D_X11_lay.g 23 rfl) 60 rfl h (fun h => ?_) (fun h => ?_)
      · refine jr_goto hC (D_X11_lay.g 24 rfl) 58 rfl ?_
        refine jr_iconst hC (D_X11_lay.g 30 rfl) ?_
        exact jr_iret hC (D_X11_lay.g 31 rfl) hr hE h
      refine jr_pick [1, 2, 0] rfl ?_
      exact hj_60 M32 h
    intro j_28 hj_28 h
    refine jr_if_ne hC (D_X11_lay.g 12 rfl) 27 rfl h (fun h => ?_) (fun h => ?_)
    · refine jr_iconst hC (D_X11_lay.g 13 rfl) ?_
      refine jr_goto hC (D_X11_lay.g 14 rfl) 28 rfl ?_
      refine jr_pick [0, 1] rfl ?_
      exact hj_28 1 h
    refine jr_iconst hC (D_X11_lay.g 15 rfl) ?_
    refine jr_pick [0, 1] rfl ?_
    exact hj_28 0 h
  intro j_9 hj_9 h
  refine jr_if_eq hC (D_X11_lay.g 1 rfl) 9 rfl h (fun h => ?_) (fun h => ?_)
  · exact hj_9  h
  refine jr_iload_n hC (D_X11_lay.g 2 rfl) 2 rfl ?_
  refine jr_iconst hC (D_X11_lay.g 3 rfl) ?_
  refine jr_icmp_ne hC (D_X11_lay.g 4 rfl) 17 rfl h (fun h => ?_) (fun h => ?_)
  · exact hj_9  h
  refine jr_iconst hC (D_X11_lay.g 9 rfl) ?_
  exact jr_iret hC (D_X11_lay.g 10 rfl) hr hE h
def f_X11_lift (th : Nat) (x1 : Int) (M : jMem) : Option (Int × jMem) :=
(jm_gR 11 2 M th).bind fun r1 =>
jcall 8 M r1 (f_X8_hasCell r1 x1 M) fun v2 M3 =>
if jd_wr v2 = 0 then (jm_z 0 M3)
else ((jm_gR 11 4 M3 th).bind fun r4 =>
(jm_gR 6 4 M3 r4).bind fun r5 =>
(jm_ld 20 M3 r5 x1).bind fun v6 =>
if jd_wr v6 = jd_wr (-1) then (jm_z 0 M3)
else ((jm_gR 11 6 M3 th).bind fun r7 =>
(jm_gR 11 4 M3 th).bind fun r8 =>
jcall 1 M3 r7 (f_X1_keepForUndo r7 r8 M3) fun _ M10 =>
(jm_gR 11 4 M10 th).bind fun r11 =>
(jm_gR 11 4 M10 th).bind fun r12 =>
(jm_gR 6 4 M10 r12).bind fun r13 =>
(jm_ld 20 M10 r13 x1).bind fun v14 =>
jcall 6 M10 r11 (f_X6_take r11 v14 M10) fun _ M16 =>
jm_z 1 M16))
theorem D_X11_lift : jDs cX11_lift [(0, .aload_n 0, 1, 1), (1, .getfield 19, 3, 4), (4, .iload_n 1, 1, 5), (5, .invokevirtual 108, 3, 8), (8, .ifCond .eq 16, 3, 11), (11, .aload_n 0, 1, 12), (12, .getfield 38, 3, 15), (15, .getfield 112, 3, 18), (18, .iload_n 1, 1, 19), (19, .iaload, 1, 20), (20, .iconst (-1), 1, 21), (21, .if_icmp .ne 5, 3, 24), (24, .iconst 0, 1, 25), (25, .ireturn, 1, 26), (26, .aload_n 0, 1, 27), (27, .getfield 48, 3, 30), (30, .aload_n 0, 1, 31), (31, .getfield 38, 3, 34), (34, .invokevirtual 170, 3, 37), (37, .aload_n 0, 1, 38), (38, .getfield 38, 3, 41), (41, .aload_n 0, 1, 42), (42, .getfield 38, 3, 45), (45, .getfield 112, 3, 48), (48, .iload_n 1, 1, 49), (49, .iaload, 1, 50), (50, .invokevirtual 181, 3, 53), (53, .iconst 1, 1, 54), (54, .ireturn, 1, 55)] := by unfold jDs; decide +kernel
set_option maxRecDepth 100000 in
set_option maxHeartbeats 4000000 in
theorem c_X11_lift {E : jE} {th : Nat} {x1 : Int} {M : jMem} {r : Int} {M' : jMem} (h : f_X11_lift th x1 M = some (r, M')) : jMet E yX11_lift cX11_lift 2 (some .boolean) 4 0 0 [q_r E th, q_i x1] M (some (q_i r)) M' := by
  unfold f_X11_lift at h
  refine jMet.of RX11 rfl (by decide +kernel) (Nat.le_of_ble_eq_true rfl) [(0, q_r E th), (1, q_i x1)] rfl (fun X hC hE hr hn => ?_)
  refine jr_aload_n hC (D_X11_lift.g 0 rfl) 0 rfl ?_
  refine jr_getR hC fl_X11_19 rfl (D_X11_lift.g 1 rfl) h (fun r1 h => ?_)
  refine jr_iload_n hC (D_X11_lift.g 2 rfl) 1 rfl ?_
  refine jr_cVi hC cl_X11_108 ⟨rfl, by decide⟩ (D_X11_lift.g 3 rfl) [q_i x1] h (fun r M' e => c_X8_hasCell e) rfl rfl ⟨by decide, by decide⟩ (Nat.le_of_ble_eq_true rfl) ⟨Nat.le_of_ble_eq_true rfl, Nat.le_of_ble_eq_true rfl⟩ (fun v2 M3 h => ?_)
  refine jr_if_eq hC (D_X11_lift.g 4 rfl) 24 rfl h (fun h => ?_) (fun h => ?_)
  · refine jr_iconst hC (D_X11_lift.g 12 rfl) ?_
    exact jr_zret hC (D_X11_lift.g 13 rfl) hr hE h
  refine jr_aload_n hC (D_X11_lift.g 5 rfl) 0 rfl ?_
  refine jr_getR hC fl_X11_38 rfl (D_X11_lift.g 6 rfl) h (fun r4 h => ?_)
  refine jr_getR hC fl_X11_112 rfl (D_X11_lift.g 7 rfl) h (fun r5 h => ?_)
  refine jr_iload_n hC (D_X11_lift.g 8 rfl) 1 rfl ?_
  refine jr_iald hC (D_X11_lift.g 9 rfl) h (fun v6 h => ?_)
  refine jr_iconst hC (D_X11_lift.g 10 rfl) ?_
  refine jr_icmp_ne hC (D_X11_lift.g 11 rfl) 26 rfl h (fun h => ?_) (fun h => ?_)
  · refine jr_iconst hC (D_X11_lift.g 12 rfl) ?_
    exact jr_zret hC (D_X11_lift.g 13 rfl) hr hE h
  refine jr_aload_n hC (D_X11_lift.g 14 rfl) 0 rfl ?_
  refine jr_getR hC fl_X11_48 rfl (D_X11_lift.g 15 rfl) h (fun r7 h => ?_)
  refine jr_aload_n hC (D_X11_lift.g 16 rfl) 0 rfl ?_
  refine jr_getR hC fl_X11_38 rfl (D_X11_lift.g 17 rfl) h (fun r8 h => ?_)
  refine jr_cVv hC cl_X11_170 ⟨rfl, by decide⟩ (D_X11_lift.g 18 rfl) [q_r E r8] h (fun r M' e => c_X1_keepForUndo e) rfl rfl ⟨by decide, by decide⟩ (Nat.le_of_ble_eq_true rfl) ⟨Nat.le_of_ble_eq_true rfl, Nat.le_of_ble_eq_true rfl⟩ (fun _ M10 h => ?_)
  refine jr_aload_n hC (D_X11_lift.g 19 rfl) 0 rfl ?_
  refine jr_getR hC fl_X11_38 rfl (D_X11_lift.g 20 rfl) h (fun r11 h => ?_)
  refine jr_aload_n hC (D_X11_lift.g 21 rfl) 0 rfl ?_
  refine jr_getR hC fl_X11_38 rfl (D_X11_lift.g 22 rfl) h (fun r12 h => ?_)
  refine jr_getR hC fl_X11_112 rfl (D_X11_lift.g 23 rfl) h (fun r13 h => ?_)
  refine jr_iload_n hC (D_X11_lift.g 24 rfl) 1 rfl ?_
  refine jr_iald hC (D_X11_lift.g 25 rfl) h (fun v14 h => ?_)
  refine jr_cVv hC cl_X11_181 ⟨rfl, by decide⟩ (D_X11_lift.g 26 rfl) [q_i v14] h (fun r M' e => c_X6_take e) rfl rfl ⟨by decide, by decide⟩ (Nat.le_of_ble_eq_true rfl) ⟨Nat.le_of_ble_eq_true rfl, Nat.le_of_ble_eq_true rfl⟩ (fun _ M16 h => ?_)
  refine jr_iconst hC (D_X11_lift.g 27 rfl) ?_
  exact jr_zret hC (D_X11_lift.g 28 rfl) hr hE h
def f_X11_canTurn (th : Nat) (x1 : Int) (M : jMem) : Option (Int × jMem) :=
(jm_gR 11 2 M th).bind fun r1 =>
jcall 8 M r1 (f_X8_hasCell r1 x1 M) fun v2 M3 =>
if jd_wr v2 = 0 then (jm_z 0 M3)
else ((jm_gR 11 2 M3 th).bind fun r4 =>
jcall 8 M3 r4 (f_X8_hasRight r4 x1 M3) fun v5 M6 =>
if jd_wr v5 = 0 then (jm_z 0 M6)
else ((jm_gR 11 2 M6 th).bind fun r7 =>
jcall 8 M6 r7 (f_X8_hasBelow r7 x1 M6) fun v8 M9 =>
if jd_wr v8 = 0 then (jm_z 0 M9)
else ((jm_gR 11 4 M9 th).bind fun r10 =>
(jm_gR 6 4 M9 r10).bind fun r11 =>
(jm_ld 20 M9 r11 x1).bind fun v12 =>
(jm_gR 11 4 M9 th).bind fun r13 =>
(jm_gR 6 4 M9 r13).bind fun r14 =>
(jm_gR 11 2 M9 th).bind fun r15 =>
(jm_gI 8 0 M9 r15).bind fun v16 =>
(jm_ld 20 M9 r14 ((x1 + v16) + 1)).bind fun v17 =>
if jd_wr v12 = jd_wr (-1) then (jm_z 0 M9)
else (if jd_wr v17 = jd_wr (-1) then (jm_z 0 M9)
else ((jm_gR 11 4 M9 th).bind fun r18 =>
(jm_gR 6 1 M9 r18).bind fun r19 =>
(jm_ld 22 M9 r19 v12).bind fun v20 =>
(jm_gR 11 4 M9 th).bind fun r21 =>
(jm_gR 6 1 M9 r21).bind fun r22 =>
(jm_ld 22 M9 r22 v17).bind fun v23 =>
if jd_wr v20 = jd_wr v23 then ((jm_gR 11 4 M9 th).bind fun r24 =>
(jm_gR 6 1 M9 r24).bind fun r25 =>
(jm_ld 22 M9 r25 v12).bind fun v26 =>
jjq (fun (z0_125 : Int) =>
(jm_gR 11 4 M9 th).bind fun r27 =>
(jm_gR 6 0 M9 r27).bind fun r28 =>
(jm_ld 20 M9 r28 v12).bind fun v29 =>
jjq (jm_z 0 M9) fun j_158 =>
if jd_wr v29 = jd_wr x1 then ((jm_gR 11 4 M9 th).bind fun r30 =>
(jm_gR 6 0 M9 r30).bind fun r31 =>
(jm_ld 20 M9 r31 v17).bind fun v32 =>
if jd_wr v32 = jd_wr z0_125 then (jm_z 1 M9)
else (j_158 ))
else (j_158 )) fun j_125 =>
if jd_wr v26 = 0 then (j_125 (x1 + 1))
else ((jm_gR 11 2 M9 th).bind fun r33 =>
(jm_gI 8 0 M9 r33).bind fun v34 =>
j_125 (x1 + v34)))
else (jm_z 0 M9))))))
theorem D_X11_canTurn : jDs cX11_canTurn [(0, .aload_n 0, 1, 1), (1, .getfield 19, 3, 4), (4, .iload_n 1, 1, 5), (5, .invokevirtual 108, 3, 8), (8, .ifCond .eq 25, 3, 11), (11, .aload_n 0, 1, 12), (12, .getfield 19, 3, 15), (15, .iload_n 1, 1, 16), (16, .invokevirtual 157, 3, 19), (19, .ifCond .eq 14, 3, 22), (22, .aload_n 0, 1, 23), (23, .getfield 19, 3, 26), (26, .iload_n 1, 1, 27), (27, .invokevirtual 160, 3, 30), (30, .ifCond .ne 5, 3, 33), (33, .iconst 0, 1, 34), (34, .ireturn, 1, 35), (35, .aload_n 0, 1, 36), (36, .getfield 38, 3, 39), (39, .getfield 112, 3, 42), (42, .iload_n 1, 1, 43), (43, .iaload, 1, 44), (44, .istore_n 2, 1, 45), (45, .aload_n 0, 1, 46), (46, .getfield 38, 3, 49), (49, .getfield 112, 3, 52), (52, .iload_n 1, 1, 53), (53, .aload_n 0, 1, 54), (54, .getfield 19, 3, 57), (57, .getfield 167, 3, 60), (60, .iadd, 1, 61), (61, .iconst 1, 1, 62), (62, .iadd, 1, 63), (63, .iaload, 1, 64), (64, .istore_n 3, 1, 65), (65, .iload_n 2, 1, 66), (66, .iconst (-1), 1, 67), (67, .if_icmp .eq 29, 3, 70), (70, .iload_n 3, 1, 71), (71, .iconst (-1), 1, 72), (72, .if_icmp .eq 24, 3, 75), (75, .aload_n 0, 1, 76), (76, .getfield 38, 3, 79), (79, .getfield 132, 3, 82), (82, .iload_n 2, 1, 83), (83, .baload, 1, 84), (84, .aload_n 0, 1, 85), (85, .getfield 38, 3, 88), (88, .getfield 132, 3, 91), (91, .iload_n 3, 1, 92), (92, .baload, 1, 93), (93, .if_icmp .eq 5, 3, 96), (96, .iconst 0, 1, 97), (97, .ireturn, 1, 98), (98, .aload_n 0, 1, 99), (99, .getfield 38, 3, 102), (102, .getfield 132, 3, 105), (105, .iload_n 2, 1, 106), (106, .baload, 1, 107), (107, .ifCond .eq 15, 3, 110), (110, .iload_n 1, 1, 111), (111, .aload_n 0, 1, 112), (112, .getfield 19, 3, 115), (115, .getfield 167, 3, 118), (118, .iadd, 1, 119), (119, .goto 6, 3, 122), (122, .iload_n 1, 1, 123), (123, .iconst 1, 1, 124), (124, .iadd, 1, 125), (125, .istore 4, 2, 127), (127, .aload_n 0, 1, 128), (128, .getfield 38, 3, 131), (131, .getfield 129, 3, 134), (134, .iload_n 2, 1, 135), (135, .iaload, 1, 136), (136, .iload_n 1, 1, 137), (137, .if_icmp .ne 21, 3, 140), (140, .aload_n 0, 1, 141), (141, .getfield 38, 3, 144), (144, .getfield 129, 3, 147), (147, .iload_n 3, 1, 148), (148, .iaload, 1, 149), (149, .iload 4, 2, 151), (151, .if_icmp .ne 7, 3, 154), (154, .iconst 1, 1, 155), (155, .goto 4, 3, 158), (158, .iconst 0, 1, 159), (159, .ireturn, 1, 160)] := by unfold jDs; decide +kernel
set_option maxRecDepth 100000 in
set_option maxHeartbeats 4000000 in
theorem c_X11_canTurn {E : jE} {th : Nat} {x1 : Int} {M : jMem} {r : Int} {M' : jMem} (h : f_X11_canTurn th x1 M = some (r, M')) : jMet E yX11_canTurn cX11_canTurn 5 (some .boolean) 4 0 0 [q_r E th, q_i x1] M (some (q_i r)) M' := by
  unfold f_X11_canTurn at h
  refine jMet.of RX11 rfl (by decide +kernel) (Nat.le_of_ble_eq_true rfl) [(0, q_r E th), (1, q_i x1)] rfl (fun X hC hE hr hn => ?_)
  refine jr_aload_n hC (D_X11_canTurn.g 0 rfl) 0 rfl ?_
  refine jr_getR hC fl_X11_19 rfl (D_X11_canTurn.g 1 rfl) h (fun r1 h => ?_)
  refine jr_iload_n hC (D_X11_canTurn.g 2 rfl) 1 rfl ?_
  refine jr_cVi hC cl_X11_108 ⟨rfl, by decide⟩ (D_X11_canTurn.g 3 rfl) [q_i x1] h (fun r M' e => c_X8_hasCell e) rfl rfl ⟨by decide, by decide⟩ (Nat.le_of_ble_eq_true rfl) ⟨Nat.le_of_ble_eq_true rfl, Nat.le_of_ble_eq_true rfl⟩ (fun v2 M3 h => ?_)
  refine jr_if_eq hC (D_X11_canTurn.g 4 rfl) 33 rfl h (fun h => ?_) (fun h => ?_)
  · refine jr_iconst hC (D_X11_canTurn.g 15 rfl) ?_
    exact jr_zret hC (D_X11_canTurn.g 16 rfl) hr hE h
  refine jr_aload_n hC (D_X11_canTurn.g 5 rfl) 0 rfl ?_
  refine jr_getR hC fl_X11_19 rfl (D_X11_canTurn.g 6 rfl) h (fun r4 h => ?_)
  refine jr_iload_n hC (D_X11_canTurn.g 7 rfl) 1 rfl ?_
  refine jr_cVi hC cl_X11_157 ⟨rfl, by decide⟩ (D_X11_canTurn.g 8 rfl) [q_i x1] h (fun r M' e => c_X8_hasRight e) rfl rfl ⟨by decide, by decide⟩ (Nat.le_of_ble_eq_true rfl) ⟨Nat.le_of_ble_eq_true rfl, Nat.le_of_ble_eq_true rfl⟩ (fun v5 M6 h => ?_)
  refine jr_if_eq hC (D_X11_canTurn.g 9 rfl) 33 rfl h (fun h => ?_) (fun h => ?_)
  · refine jr_iconst hC (D_X11_canTurn.g 15 rfl) ?_
    exact jr_zret hC (D_X11_canTurn.g 16 rfl) hr hE h
  refine jr_aload_n hC (D_X11_canTurn.g 10 rfl) 0 rfl ?_
  refine jr_getR hC fl_X11_19 rfl (D_X11_canTurn.g 11 rfl) h (fun r7 h => ?_)
  refine jr_iload_n hC (D_X11_canTurn.g 12 rfl) 1 rfl ?_
  refine jr_cVi hC cl_X11_160 ⟨rfl, by decide⟩ (D_X11_canTurn.g 13 rfl) [q_i x1] h (fun r M' e => c_X8_hasBelow e) rfl rfl ⟨by decide, by decide⟩ (Nat.le_of_ble_eq_true rfl) ⟨Nat.le_of_ble_eq_true rfl, Nat.le_of_ble_eq_true rfl⟩ (fun v8 M9 h => ?_)
  refine jr_if_ne hC (D_X11_canTurn.g 14 rfl) 35 rfl h (fun h => ?_) (fun h => ?_)
  · refine jr_iconst hC (D_X11_canTurn.g 15 rfl) ?_
    exact jr_zret hC (D_X11_canTurn.g 16 rfl) hr hE h
  refine jr_aload_n hC (D_X11_canTurn.g 17 rfl) 0 rfl ?_
  refine jr_getR hC fl_X11_38 rfl (D_X11_canTurn.g 18 rfl) h (fun r10 h => ?_)
  refine jr_getR hC fl_X11_112 rfl (D_X11_canTurn.g 19 rfl) h (fun r11 h => ?_)
  refine jr_iload_n hC (D_X11_canTurn.g 20 rfl) 1 rfl ?_
  refine jr_iald hC (D_X11_canTurn.g 21 rfl) h (fun v12 h => ?_)
  refine jr_istore_n hC (D_X11_canTurn.g 22 rfl) (by decide) rfl ?_
  refine jr_aload_n hC (D_X11_canTurn.g 23 rfl) 1 rfl ?_
  refine jr_getR hC fl_X11_38 rfl (D_X11_canTurn.g 24 rfl) h (fun r13 h => ?_)
  refine jr_getR hC fl_X11_112 rfl (D_X11_canTurn.g 25 rfl) h (fun r14 h => ?_)
  refine jr_iload_n hC (D_X11_canTurn.g 26 rfl) 2 rfl ?_
  refine jr_aload_n hC (D_X11_canTurn.g 27 rfl) 1 rfl ?_
  refine jr_getR hC fl_X11_19 rfl (D_X11_canTurn.g 28 rfl) h (fun r15 h => ?_)
  refine jr_getI hC fl_X11_167 rfl (D_X11_canTurn.g 29 rfl) h (fun v16 h => ?_)
  refine jr_iadd hC (D_X11_canTurn.g 30 rfl) ?_
  refine jr_iconst hC (D_X11_canTurn.g 31 rfl) ?_
  refine jr_iadd hC (D_X11_canTurn.g 32 rfl) ?_
  refine jr_iald hC (D_X11_canTurn.g 33 rfl) h (fun v17 h => ?_)
  refine jr_istore_n hC (D_X11_canTurn.g 34 rfl) (by decide) rfl ?_
  refine jr_iload_n hC (D_X11_canTurn.g 35 rfl) 1 rfl ?_
  refine jr_iconst hC (D_X11_canTurn.g 36 rfl) ?_
  refine jr_icmp_eq hC (D_X11_canTurn.g 37 rfl) 96 rfl h (fun h => ?_) (fun h => ?_)
  · refine jr_iconst hC (D_X11_canTurn.g 52 rfl) ?_
    exact jr_zret hC (D_X11_canTurn.g 53 rfl) hr hE h
  refine jr_iload_n hC (D_X11_canTurn.g 38 rfl) 0 rfl ?_
  refine jr_iconst hC (D_X11_canTurn.g 39 rfl) ?_
  refine jr_icmp_eq hC (D_X11_canTurn.g 40 rfl) 96 rfl h (fun h => ?_) (fun h => ?_)
  · refine jr_iconst hC (D_X11_canTurn.g 52 rfl) ?_
    exact jr_zret hC (D_X11_canTurn.g 53 rfl) hr hE h
  refine jr_aload_n hC (D_X11_canTurn.g 41 rfl) 2 rfl ?_
  refine jr_getR hC fl_X11_38 rfl (D_X11_canTurn.g 42 rfl) h (fun r18 h => ?_)
  refine jr_getR hC fl_X11_132 rfl (D_X11_canTurn.g 43 rfl) h (fun r19 h => ?_)
  refine jr_iload_n hC (D_X11_canTurn.g 44 rfl) 1 rfl ?_
  refine jr_zald hC (D_X11_canTurn.g 45 rfl) h (fun v20 h => ?_)
  refine jr_aload_n hC (D_X11_canTurn.g 46 rfl) 2 rfl ?_
  refine jr_getR hC fl_X11_38 rfl (D_X11_canTurn.g 47 rfl) h (fun r21 h => ?_)
  refine jr_getR hC fl_X11_132 rfl (D_X11_canTurn.g 48 rfl) h (fun r22 h => ?_)
  refine jr_iload_n hC (D_X11_canTurn.g 49 rfl) 0 rfl ?_
  refine jr_zald hC (D_X11_canTurn.g 50 rfl) h (fun v23 h => ?_)
  refine jr_icmp_eq hC (D_X11_canTurn.g 51 rfl) 98 rfl h (fun h => ?_) (fun h => ?_)
  · refine jr_aload_n hC (D_X11_canTurn.g 54 rfl) 2 rfl ?_
    refine jr_getR hC fl_X11_38 rfl (D_X11_canTurn.g 55 rfl) h (fun r24 h => ?_)
    refine jr_getR hC fl_X11_132 rfl (D_X11_canTurn.g 56 rfl) h (fun r25 h => ?_)
    refine jr_iload_n hC (D_X11_canTurn.g 57 rfl) 1 rfl ?_
    refine jr_zald hC (D_X11_canTurn.g 58 rfl) h (fun v26 h => ?_)
    refine jr_join h (fun j => ∀ (z0_125 : Int), j z0_125 = some (r, M') → JW E X 5 0 0 M9 125 [(0, q_r E th), (1, q_i x1), (2, q_i v12), (3, q_i v17)] [q_i z0_125]) ?_ ?_
    · intro z0_125 h
      refine jr_istore hC (D_X11_canTurn.g 69 rfl) (by decide) rfl ?_
      refine jr_aload_n hC (D_X11_canTurn.g 70 rfl) 1 rfl ?_
      refine jr_getR hC fl_X11_38 rfl (D_X11_canTurn.g 71 rfl) h (fun r27 h => ?_)
      refine jr_getR hC fl_X11_129 rfl (D_X11_canTurn.g 72 rfl) h (fun r28 h => ?_)
      refine jr_iload_n hC (D_X11_canTurn.g 73 rfl) 3 rfl ?_
      refine jr_iald hC (D_X11_canTurn.g 74 rfl) h (fun v29 h => ?_)
      refine jr_iload_n hC (D_X11_canTurn.g 75 rfl) 2 rfl ?_
      refine jr_join h (fun j => j = some (r, M') → JW E X 5 0 0 M9 158 [] []) ?_ ?_
      · intro  h
        refine jr_iconst hC (D_X11_canTurn.g 86 rfl) ?_
        exact jr_zret hC (D_X11_canTurn.g 87 rfl) hr hE h
      intro j_158 hj_158 h
      refine jr_icmp_ne hC (D_X11_canTurn.g 76 rfl) 158 rfl h (fun h => ?_) (fun h => ?_)
      · refine jr_aload_n hC (D_X11_canTurn.g 77 rfl) 1 rfl ?_
        refine jr_getR hC fl_X11_38 rfl (D_X11_canTurn.g 78 rfl) h (fun r30 h => ?_)
        refine jr_getR hC fl_X11_129 rfl (D_X11_canTurn.g 79 rfl) h (fun r31 h => ?_)
        refine jr_iload_n hC (D_X11_canTurn.g 80 rfl) 4 rfl ?_
        refine jr_iald hC (D_X11_canTurn.g 81 rfl) h (fun v32 h => ?_)
        refine jr_iload hC (D_X11_canTurn.g 82 rfl) 0 rfl ?_
        refine jr_icmp_ne hC (D_X11_canTurn.g 83 rfl) 158 rfl h (fun h => ?_) (fun h => ?_)
        · refine jr_iconst hC (D_X11_canTurn.g 84 rfl) ?_
          refine jr_goto hC (D_X11_canTurn.g 85 rfl) 159 rfl ?_
          exact jr_zret hC (D_X11_canTurn.g 87 rfl) hr hE h
        refine jr_pick [] rfl ?_
        exact hj_158  h
      refine jr_pick [] rfl ?_
      exact hj_158  h
    intro j_125 hj_125 h
    refine jr_if_eq hC (D_X11_canTurn.g 59 rfl) 122 rfl h (fun h => ?_) (fun h => ?_)
    · refine jr_iload_n hC (D_X11_canTurn.g 66 rfl) 3 rfl ?_
      refine jr_iconst hC (D_X11_canTurn.g 67 rfl) ?_
      refine jr_iadd hC (D_X11_canTurn.g 68 rfl) ?_
      refine jr_pick [2, 3, 1, 0] rfl ?_
      exact hj_125 (x1 + 1) h
    refine jr_iload_n hC (D_X11_canTurn.g 60 rfl) 3 rfl ?_
    refine jr_aload_n hC (D_X11_canTurn.g 61 rfl) 2 rfl ?_
    refine jr_getR hC fl_X11_19 rfl (D_X11_canTurn.g 62 rfl) h (fun r33 h => ?_)
    refine jr_getI hC fl_X11_167 rfl (D_X11_canTurn.g 63 rfl) h (fun v34 h => ?_)
    refine jr_iadd hC (D_X11_canTurn.g 64 rfl) ?_
    refine jr_goto hC (D_X11_canTurn.g 65 rfl) 125 rfl ?_
    refine jr_pick [2, 3, 1, 0] rfl ?_
    exact hj_125 (x1 + v34) h
  refine jr_iconst hC (D_X11_canTurn.g 52 rfl) ?_
  exact jr_zret hC (D_X11_canTurn.g 53 rfl) hr hE h
def f_X11_priceOfTurning (th : Nat) (x1 : Int) (M : jMem) : Option (Int × jMem) :=
(jm_gR 11 4 M th).bind fun r1 =>
(jm_gR 6 4 M r1).bind fun r2 =>
(jm_ld 20 M r2 x1).bind fun v3 =>
(jm_gR 11 4 M th).bind fun r4 =>
(jm_gR 6 4 M r4).bind fun r5 =>
(jm_gR 11 2 M th).bind fun r6 =>
(jm_gI 8 0 M r6).bind fun v7 =>
(jm_ld 20 M r5 ((x1 + v7) + 1)).bind fun v8 =>
(jm_gR 11 2 M th).bind fun r9 =>
(jm_gR 8 12 M r9).bind fun r10 =>
(jm_gR 11 4 M th).bind fun r11 =>
(jm_gR 11 2 M th).bind fun r12 =>
(jm_gI 8 3 M r12).bind fun v13 =>
jcall 2 M r10 (f_X2_held r10 0 r11 v3 v13 M) fun v14 M15 =>
(jm_gR 11 2 M15 th).bind fun r16 =>
(jm_gR 8 12 M15 r16).bind fun r17 =>
(jm_gR 11 4 M15 th).bind fun r18 =>
(jm_gR 11 2 M15 th).bind fun r19 =>
(jm_gI 8 3 M15 r19).bind fun v20 =>
jcall 2 M15 r17 (f_X2_held r17 0 r18 v8 v20 M15) fun v21 M22 =>
some ((v14 + v21), M22)
theorem D_X11_priceOfTurning : jDs cX11_priceOfTurning [(0, .aload_n 0, 1, 1), (1, .getfield 38, 3, 4), (4, .getfield 112, 3, 7), (7, .iload_n 1, 1, 8), (8, .iaload, 1, 9), (9, .istore_n 2, 1, 10), (10, .aload_n 0, 1, 11), (11, .getfield 38, 3, 14), (14, .getfield 112, 3, 17), (17, .iload_n 1, 1, 18), (18, .aload_n 0, 1, 19), (19, .getfield 19, 3, 22), (22, .getfield 167, 3, 25), (25, .iadd, 1, 26), (26, .iconst 1, 1, 27), (27, .iadd, 1, 28), (28, .iaload, 1, 29), (29, .istore_n 3, 1, 30), (30, .aload_n 0, 1, 31), (31, .getfield 19, 3, 34), (34, .getfield 141, 3, 37), (37, .iconst 0, 1, 38), (38, .aload_n 0, 1, 39), (39, .getfield 38, 3, 42), (42, .iload_n 2, 1, 43), (43, .aload_n 0, 1, 44), (44, .getfield 19, 3, 47), (47, .getfield 147, 3, 50), (50, .invokevirtual 150, 3, 53), (53, .aload_n 0, 1, 54), (54, .getfield 19, 3, 57), (57, .getfield 141, 3, 60), (60, .iconst 0, 1, 61), (61, .aload_n 0, 1, 62), (62, .getfield 38, 3, 65), (65, .iload_n 3, 1, 66), (66, .aload_n 0, 1, 67), (67, .getfield 19, 3, 70), (70, .getfield 147, 3, 73), (73, .invokevirtual 150, 3, 76), (76, .iadd, 1, 77), (77, .ireturn, 1, 78)] := by unfold jDs; decide +kernel
set_option maxRecDepth 100000 in
set_option maxHeartbeats 4000000 in
theorem c_X11_priceOfTurning {E : jE} {th : Nat} {x1 : Int} {M : jMem} {r : Int} {M' : jMem} (h : f_X11_priceOfTurning th x1 M = some (r, M')) : jMet E yX11_priceOfTurning cX11_priceOfTurning 4 (some .int) 6 0 0 [q_r E th, q_i x1] M (some (q_i r)) M' := by
  unfold f_X11_priceOfTurning at h
  refine jMet.of RX11 rfl (by decide +kernel) (Nat.le_of_ble_eq_true rfl) [(0, q_r E th), (1, q_i x1)] rfl (fun X hC hE hr hn => ?_)
  refine jr_aload_n hC (D_X11_priceOfTurning.g 0 rfl) 0 rfl ?_
  refine jr_getR hC fl_X11_38 rfl (D_X11_priceOfTurning.g 1 rfl) h (fun r1 h => ?_)
  refine jr_getR hC fl_X11_112 rfl (D_X11_priceOfTurning.g 2 rfl) h (fun r2 h => ?_)
  refine jr_iload_n hC (D_X11_priceOfTurning.g 3 rfl) 1 rfl ?_
  refine jr_iald hC (D_X11_priceOfTurning.g 4 rfl) h (fun v3 h => ?_)
  refine jr_istore_n hC (D_X11_priceOfTurning.g 5 rfl) (by decide) rfl ?_
  refine jr_aload_n hC (D_X11_priceOfTurning.g 6 rfl) 1 rfl ?_
  refine jr_getR hC fl_X11_38 rfl (D_X11_priceOfTurning.g 7 rfl) h (fun r4 h => ?_)
  refine jr_getR hC fl_X11_112 rfl (D_X11_priceOfTurning.g 8 rfl) h (fun r5 h => ?_)
  refine jr_iload_n hC (D_X11_priceOfTurning.g 9 rfl) 2 rfl ?_
  refine jr_aload_n hC (D_X11_priceOfTurning.g 10 rfl) 1 rfl ?_
  refine jr_getR hC fl_X11_19 rfl (D_X11_priceOfTurning.g 11 rfl) h (fun r6 h => ?_)
  refine jr_getI hC fl_X11_167 rfl (D_X11_priceOfTurning.g 12 rfl) h (fun v7 h => ?_)
  refine jr_iadd hC (D_X11_priceOfTurning.g 13 rfl) ?_
  refine jr_iconst hC (D_X11_priceOfTurning.g 14 rfl) ?_
  refine jr_iadd hC (D_X11_priceOfTurning.g 15 rfl) ?_
  refine jr_iald hC (D_X11_priceOfTurning.g 16 rfl) h (fun v8 h => ?_)
  refine jr_istore_n hC (D_X11_priceOfTurning.g 17 rfl) (by decide) rfl ?_
  refine jr_aload_n hC (D_X11_priceOfTurning.g 18 rfl) 2 rfl ?_
  refine jr_getR hC fl_X11_19 rfl (D_X11_priceOfTurning.g 19 rfl) h (fun r9 h => ?_)
  refine jr_getR hC fl_X11_141 rfl (D_X11_priceOfTurning.g 20 rfl) h (fun r10 h => ?_)
  refine jr_iconst hC (D_X11_priceOfTurning.g 21 rfl) ?_
  refine jr_aload_n hC (D_X11_priceOfTurning.g 22 rfl) 2 rfl ?_
  refine jr_getR hC fl_X11_38 rfl (D_X11_priceOfTurning.g 23 rfl) h (fun r11 h => ?_)
  refine jr_iload_n hC (D_X11_priceOfTurning.g 24 rfl) 1 rfl ?_
  refine jr_aload_n hC (D_X11_priceOfTurning.g 25 rfl) 2 rfl ?_
  refine jr_getR hC fl_X11_19 rfl (D_X11_priceOfTurning.g 26 rfl) h (fun r12 h => ?_)
  refine jr_getI hC fl_X11_147 rfl (D_X11_priceOfTurning.g 27 rfl) h (fun v13 h => ?_)
  refine jr_cVi hC cl_X11_150 ⟨rfl, by decide⟩ (D_X11_priceOfTurning.g 28 rfl) [q_i 0, q_r E r11, q_i v3, q_i v13] h (fun r M' e => c_X2_held e) rfl rfl ⟨by decide, by decide⟩ (Nat.le_of_ble_eq_true rfl) ⟨Nat.le_of_ble_eq_true rfl, Nat.le_of_ble_eq_true rfl⟩ (fun v14 M15 h => ?_)
  refine jr_aload_n hC (D_X11_priceOfTurning.g 29 rfl) 2 rfl ?_
  refine jr_getR hC fl_X11_19 rfl (D_X11_priceOfTurning.g 30 rfl) h (fun r16 h => ?_)
  refine jr_getR hC fl_X11_141 rfl (D_X11_priceOfTurning.g 31 rfl) h (fun r17 h => ?_)
  refine jr_iconst hC (D_X11_priceOfTurning.g 32 rfl) ?_
  refine jr_aload_n hC (D_X11_priceOfTurning.g 33 rfl) 2 rfl ?_
  refine jr_getR hC fl_X11_38 rfl (D_X11_priceOfTurning.g 34 rfl) h (fun r18 h => ?_)
  refine jr_iload_n hC (D_X11_priceOfTurning.g 35 rfl) 0 rfl ?_
  refine jr_aload_n hC (D_X11_priceOfTurning.g 36 rfl) 2 rfl ?_
  refine jr_getR hC fl_X11_19 rfl (D_X11_priceOfTurning.g 37 rfl) h (fun r19 h => ?_)
  refine jr_getI hC fl_X11_147 rfl (D_X11_priceOfTurning.g 38 rfl) h (fun v20 h => ?_)
  refine jr_cVi hC cl_X11_150 ⟨rfl, by decide⟩ (D_X11_priceOfTurning.g 39 rfl) [q_i 0, q_r E r18, q_i v8, q_i v20] h (fun r M' e => c_X2_held e) rfl rfl ⟨by decide, by decide⟩ (Nat.le_of_ble_eq_true rfl) ⟨Nat.le_of_ble_eq_true rfl, Nat.le_of_ble_eq_true rfl⟩ (fun v21 M22 h => ?_)
  refine jr_iadd hC (D_X11_priceOfTurning.g 40 rfl) ?_
  exact jr_iret hC (D_X11_priceOfTurning.g 41 rfl) hr hE h
def f_X11_turn (th : Nat) (x1 : Int) (M : jMem) : Option (Int × jMem) :=
jcall 11 M th (f_X11_canTurn th x1 M) fun v1 M2 =>
if jd_wr v1 = 0 then (some ((-1), M2))
else ((jm_gR 11 6 M2 th).bind fun r3 =>
(jm_gR 11 4 M2 th).bind fun r4 =>
jcall 1 M2 r3 (f_X1_keepForUndo r3 r4 M2) fun _ M6 =>
jcall 11 M6 th (f_X11_priceOfTurning th x1 M6) fun v7 M8 =>
(jm_gR 11 4 M8 th).bind fun r9 =>
(jm_gI 6 8 M8 r9).bind fun v10 =>
(jm_pI 6 8 M8 r9 (v10 + v7)).bind fun M11 =>
(jm_gR 11 4 M11 th).bind fun r12 =>
(jm_gR 6 4 M11 r12).bind fun r13 =>
(jm_ld 20 M11 r13 x1).bind fun v14 =>
(jm_gR 11 4 M11 th).bind fun r15 =>
(jm_gR 6 4 M11 r15).bind fun r16 =>
(jm_gR 11 2 M11 th).bind fun r17 =>
(jm_gI 8 0 M11 r17).bind fun v18 =>
(jm_ld 20 M11 r16 ((x1 + v18) + 1)).bind fun v19 =>
(jm_gR 11 4 M11 th).bind fun r20 =>
(jm_gR 6 1 M11 r20).bind fun r21 =>
(jm_ld 22 M11 r21 v14).bind fun v22 =>
(jm_gR 11 4 M11 th).bind fun r23 =>
jjq (fun (z0_98 : Int) =>
jcall 6 M11 r23 (f_X6_turnTo r23 v14 x1 z0_98 M11) fun _ M25 =>
(jm_gR 11 4 M25 th).bind fun r26 =>
jjq (fun (z0_127 : Int) =>
jjq (fun (z0_137 : Int) =>
jcall 6 M25 r26 (f_X6_turnTo r26 v19 z0_127 z0_137 M25) fun _ M28 =>
some (v7, M28)) fun j_137 =>
if jd_wr v22 = 0 then (j_137 1)
else (j_137 0)) fun j_127 =>
if jd_wr v22 = 0 then ((jm_gR 11 2 M25 th).bind fun r29 =>
(jm_gI 8 0 M25 r29).bind fun v30 =>
j_127 (x1 + v30))
else (j_127 (x1 + 1))) fun j_98 =>
if jd_wr v22 = 0 then (j_98 1)
else (j_98 0))
theorem D_X11_turn : jDs cX11_turn [(0, .aload_n 0, 1, 1), (1, .iload_n 1, 1, 2), (2, .invokevirtual 184, 3, 5), (5, .ifCond .ne 5, 3, 8), (8, .iconst (-1), 1, 9), (9, .ireturn, 1, 10), (10, .aload_n 0, 1, 11), (11, .getfield 48, 3, 14), (14, .aload_n 0, 1, 15), (15, .getfield 38, 3, 18), (18, .invokevirtual 170, 3, 21), (21, .aload_n 0, 1, 22), (22, .iload_n 1, 1, 23), (23, .invokevirtual 187, 3, 26), (26, .istore_n 2, 1, 27), (27, .aload_n 0, 1, 28), (28, .getfield 38, 3, 31), (31, .dup, 1, 32), (32, .getfield 178, 3, 35), (35, .iload_n 2, 1, 36), (36, .iadd, 1, 37), (37, .putfield 178, 3, 40), (40, .aload_n 0, 1, 41), (41, .getfield 38, 3, 44), (44, .getfield 112, 3, 47), (47, .iload_n 1, 1, 48), (48, .iaload, 1, 49), (49, .istore_n 3, 1, 50), (50, .aload_n 0, 1, 51), (51, .getfield 38, 3, 54), (54, .getfield 112, 3, 57), (57, .iload_n 1, 1, 58), (58, .aload_n 0, 1, 59), (59, .getfield 19, 3, 62), (62, .getfield 167, 3, 65), (65, .iadd, 1, 66), (66, .iconst 1, 1, 67), (67, .iadd, 1, 68), (68, .iaload, 1, 69), (69, .istore 4, 2, 71), (71, .aload_n 0, 1, 72), (72, .getfield 38, 3, 75), (75, .getfield 132, 3, 78), (78, .iload_n 3, 1, 79), (79, .baload, 1, 80), (80, .istore 5, 2, 82), (82, .aload_n 0, 1, 83), (83, .getfield 38, 3, 86), (86, .iload_n 3, 1, 87), (87, .iload_n 1, 1, 88), (88, .iload 5, 2, 90), (90, .ifCond .ne 7, 3, 93), (93, .iconst 1, 1, 94), (94, .goto 4, 3, 97), (97, .iconst 0, 1, 98), (98, .invokevirtual 191, 3, 101), (101, .aload_n 0, 1, 102), (102, .getfield 38, 3, 105), (105, .iload 4, 2, 107), (107, .iload 5, 2, 109), (109, .ifCond .eq 9, 3, 112), (112, .iload_n 1, 1, 113), (113, .iconst 1, 1, 114), (114, .iadd, 1, 115), (115, .goto 12, 3, 118), (118, .iload_n 1, 1, 119), (119, .aload_n 0, 1, 120), (120, .getfield 19, 3, 123), (123, .getfield 167, 3, 126), (126, .iadd, 1, 127), (127, .iload 5, 2, 129), (129, .ifCond .ne 7, 3, 132), (132, .iconst 1, 1, 133), (133, .goto 4, 3, 136), (136, .iconst 0, 1, 137), (137, .invokevirtual 191, 3, 140), (140, .iload_n 2, 1, 141), (141, .ireturn, 1, 142)] := by unfold jDs; decide +kernel
set_option maxRecDepth 100000 in
set_option maxHeartbeats 4000000 in
theorem c_X11_turn {E : jE} {th : Nat} {x1 : Int} {M : jMem} {r : Int} {M' : jMem} (h : f_X11_turn th x1 M = some (r, M')) : jMet E yX11_turn cX11_turn 6 (some .int) 7 0 0 [q_r E th, q_i x1] M (some (q_i r)) M' := by
  unfold f_X11_turn at h
  refine jMet.of RX11 rfl (by decide +kernel) (Nat.le_of_ble_eq_true rfl) [(0, q_r E th), (1, q_i x1)] rfl (fun X hC hE hr hn => ?_)
  refine jr_aload_n hC (D_X11_turn.g 0 rfl) 0 rfl ?_
  refine jr_iload_n hC (D_X11_turn.g 1 rfl) 1 rfl ?_
  refine jr_cVi hC cl_X11_184 ⟨rfl, by decide⟩ (D_X11_turn.g 2 rfl) [q_i x1] h (fun r M' e => c_X11_canTurn e) rfl rfl ⟨by decide, by decide⟩ (Nat.le_of_ble_eq_true rfl) ⟨Nat.le_of_ble_eq_true rfl, Nat.le_of_ble_eq_true rfl⟩ (fun v1 M2 h => ?_)
  refine jr_if_ne hC (D_X11_turn.g 3 rfl) 10 rfl h (fun h => ?_) (fun h => ?_)
  · refine jr_iconst hC (D_X11_turn.g 4 rfl) ?_
    exact jr_iret hC (D_X11_turn.g 5 rfl) hr hE h
  refine jr_aload_n hC (D_X11_turn.g 6 rfl) 0 rfl ?_
  refine jr_getR hC fl_X11_48 rfl (D_X11_turn.g 7 rfl) h (fun r3 h => ?_)
  refine jr_aload_n hC (D_X11_turn.g 8 rfl) 0 rfl ?_
  refine jr_getR hC fl_X11_38 rfl (D_X11_turn.g 9 rfl) h (fun r4 h => ?_)
  refine jr_cVv hC cl_X11_170 ⟨rfl, by decide⟩ (D_X11_turn.g 10 rfl) [q_r E r4] h (fun r M' e => c_X1_keepForUndo e) rfl rfl ⟨by decide, by decide⟩ (Nat.le_of_ble_eq_true rfl) ⟨Nat.le_of_ble_eq_true rfl, Nat.le_of_ble_eq_true rfl⟩ (fun _ M6 h => ?_)
  refine jr_aload_n hC (D_X11_turn.g 11 rfl) 0 rfl ?_
  refine jr_iload_n hC (D_X11_turn.g 12 rfl) 1 rfl ?_
  refine jr_cVi hC cl_X11_187 ⟨rfl, by decide⟩ (D_X11_turn.g 13 rfl) [q_i x1] h (fun r M' e => c_X11_priceOfTurning e) rfl rfl ⟨by decide, by decide⟩ (Nat.le_of_ble_eq_true rfl) ⟨Nat.le_of_ble_eq_true rfl, Nat.le_of_ble_eq_true rfl⟩ (fun v7 M8 h => ?_)
  refine jr_istore_n hC (D_X11_turn.g 14 rfl) (by decide) rfl ?_
  refine jr_aload_n hC (D_X11_turn.g 15 rfl) 1 rfl ?_
  refine jr_getR hC fl_X11_38 rfl (D_X11_turn.g 16 rfl) h (fun r9 h => ?_)
  refine jr_dup hC (D_X11_turn.g 17 rfl) rfl ?_
  refine jr_getI hC fl_X11_178 rfl (D_X11_turn.g 18 rfl) h (fun v10 h => ?_)
  refine jr_iload_n hC (D_X11_turn.g 19 rfl) 0 rfl ?_
  refine jr_iadd hC (D_X11_turn.g 20 rfl) ?_
  refine jr_putI hC fl_X11_178 rfl (jnfin rfl) (D_X11_turn.g 21 rfl) h (fun M11 _ h => ?_)
  refine jr_aload_n hC (D_X11_turn.g 22 rfl) 1 rfl ?_
  refine jr_getR hC fl_X11_38 rfl (D_X11_turn.g 23 rfl) h (fun r12 h => ?_)
  refine jr_getR hC fl_X11_112 rfl (D_X11_turn.g 24 rfl) h (fun r13 h => ?_)
  refine jr_iload_n hC (D_X11_turn.g 25 rfl) 2 rfl ?_
  refine jr_iald hC (D_X11_turn.g 26 rfl) h (fun v14 h => ?_)
  refine jr_istore_n hC (D_X11_turn.g 27 rfl) (by decide) rfl ?_
  refine jr_aload_n hC (D_X11_turn.g 28 rfl) 2 rfl ?_
  refine jr_getR hC fl_X11_38 rfl (D_X11_turn.g 29 rfl) h (fun r15 h => ?_)
  refine jr_getR hC fl_X11_112 rfl (D_X11_turn.g 30 rfl) h (fun r16 h => ?_)
  refine jr_iload_n hC (D_X11_turn.g 31 rfl) 3 rfl ?_
  refine jr_aload_n hC (D_X11_turn.g 32 rfl) 2 rfl ?_
  refine jr_getR hC fl_X11_19 rfl (D_X11_turn.g 33 rfl) h (fun r17 h => ?_)
  refine jr_getI hC fl_X11_167 rfl (D_X11_turn.g 34 rfl) h (fun v18 h => ?_)
  refine jr_iadd hC (D_X11_turn.g 35 rfl) ?_
  refine jr_iconst hC (D_X11_turn.g 36 rfl) ?_
  refine jr_iadd hC (D_X11_turn.g 37 rfl) ?_
  refine jr_iald hC (D_X11_turn.g 38 rfl) h (fun v19 h => ?_)
  refine jr_istore hC (D_X11_turn.g 39 rfl) (by decide) rfl ?_
  refine jr_aload_n hC (D_X11_turn.g 40 rfl) 3 rfl ?_
  refine jr_getR hC fl_X11_38 rfl (D_X11_turn.g 41 rfl) h (fun r20 h => ?_)
  refine jr_getR hC fl_X11_132 rfl (D_X11_turn.g 42 rfl) h (fun r21 h => ?_)
  refine jr_iload_n hC (D_X11_turn.g 43 rfl) 1 rfl ?_
  refine jr_zald hC (D_X11_turn.g 44 rfl) h (fun v22 h => ?_)
  refine jr_istore hC (D_X11_turn.g 45 rfl) (by decide) rfl ?_
  refine jr_aload_n hC (D_X11_turn.g 46 rfl) 4 rfl ?_
  refine jr_getR hC fl_X11_38 rfl (D_X11_turn.g 47 rfl) h (fun r23 h => ?_)
  refine jr_iload_n hC (D_X11_turn.g 48 rfl) 2 rfl ?_
  refine jr_iload_n hC (D_X11_turn.g 49 rfl) 5 rfl ?_
  refine jr_iload hC (D_X11_turn.g 50 rfl) 0 rfl ?_
  refine jr_join h (fun j => ∀ (z0_98 : Int), j z0_98 = some (r, M') → JW E X 6 0 0 M11 98 [(0, q_r E th), (1, q_i x1), (2, q_i v7), (4, q_i v19), (5, q_i v22)] [q_i z0_98, q_i x1, q_i v14, q_r E r23]) ?_ ?_
  · intro z0_98 h
    refine jr_cVv hC cl_X11_191 ⟨rfl, by decide⟩ (D_X11_turn.g 55 rfl) [q_i v14, q_i x1, q_i z0_98] h (fun r M' e => c_X6_turnTo e) rfl rfl ⟨by decide, by decide⟩ (Nat.le_of_ble_eq_true rfl) ⟨Nat.le_of_ble_eq_true rfl, Nat.le_of_ble_eq_true rfl⟩ (fun _ M25 h => ?_)
    refine jr_aload_n hC (D_X11_turn.g 56 rfl) 0 rfl ?_
    refine jr_getR hC fl_X11_38 rfl (D_X11_turn.g 57 rfl) h (fun r26 h => ?_)
    refine jr_iload hC (D_X11_turn.g 58 rfl) 3 rfl ?_
    refine jr_iload hC (D_X11_turn.g 59 rfl) 4 rfl ?_
    refine jr_join h (fun j => ∀ (z0_127 : Int), j z0_127 = some (r, M') → JW E X 6 0 0 M25 127 [(2, q_i v7), (5, q_i v22)] [q_i z0_127, q_i v19, q_r E r26]) ?_ ?_
    · intro z0_127 h
      refine jr_iload hC (D_X11_turn.g 70 rfl) 1 rfl ?_
      refine jr_join h (fun j => ∀ (z0_137 : Int), j z0_137 = some (r, M') → JW E X 6 0 0 M25 137 [(2, q_i v7)] [q_i z0_137, q_i z0_127, q_i v19, q_r E r26]) ?_ ?_
      · intro z0_137 h
        refine jr_cVv hC cl_X11_191 ⟨rfl, by decide⟩ (D_X11_turn.g 75 rfl) [q_i v19, q_i z0_127, q_i z0_137] h (fun r M' e => c_X6_turnTo e) rfl rfl ⟨by decide, by decide⟩ (Nat.le_of_ble_eq_true rfl) ⟨Nat.le_of_ble_eq_true rfl, Nat.le_of_ble_eq_true rfl⟩ (fun _ M28 h => ?_)
        refine jr_iload_n hC (D_X11_turn.g 76 rfl) 0 rfl ?_
        exact jr_iret hC (D_X11_turn.g 77 rfl) hr hE h
      intro j_137 hj_137 h
      refine jr_if_ne hC (D_X11_turn.g 71 rfl) 136 rfl h (fun h => ?_) (fun h => ?_)
      · refine jr_iconst hC (D_X11_turn.g 72 rfl) ?_
        refine jr_goto hC (D_X11_turn.g 73 rfl) 137 rfl ?_
        refine jr_pick [0] rfl ?_
        exact hj_137 1 h
      refine jr_iconst hC (D_X11_turn.g 74 rfl) ?_
      refine jr_pick [0] rfl ?_
      exact hj_137 0 h
    intro j_127 hj_127 h
    refine jr_if_eq hC (D_X11_turn.g 60 rfl) 118 rfl h (fun h => ?_) (fun h => ?_)
    · refine jr_iload_n hC (D_X11_turn.g 65 rfl) 1 rfl ?_
      refine jr_aload_n hC (D_X11_turn.g 66 rfl) 0 rfl ?_
      refine jr_getR hC fl_X11_19 rfl (D_X11_turn.g 67 rfl) h (fun r29 h => ?_)
      refine jr_getI hC fl_X11_167 rfl (D_X11_turn.g 68 rfl) h (fun v30 h => ?_)
      refine jr_iadd hC (D_X11_turn.g 69 rfl) ?_
      refine jr_pick [2, 4] rfl ?_
      exact hj_127 (x1 + v30) h
    refine jr_iload_n hC (D_X11_turn.g 61 rfl) 1 rfl ?_
    refine jr_iconst hC (D_X11_turn.g 62 rfl) ?_
    refine jr_iadd hC (D_X11_turn.g 63 rfl) ?_
    refine jr_goto hC (D_X11_turn.g 64 rfl) 127 rfl ?_
    refine jr_pick [2, 4] rfl ?_
    exact hj_127 (x1 + 1) h
  intro j_98 hj_98 h
  refine jr_if_ne hC (D_X11_turn.g 51 rfl) 97 rfl h (fun h => ?_) (fun h => ?_)
  · refine jr_iconst hC (D_X11_turn.g 52 rfl) ?_
    refine jr_goto hC (D_X11_turn.g 53 rfl) 98 rfl ?_
    refine jr_pick [4, 5, 3, 1, 0] rfl ?_
    exact hj_98 1 h
  refine jr_iconst hC (D_X11_turn.g 54 rfl) ?_
  refine jr_pick [4, 5, 3, 1, 0] rfl ?_
  exact hj_98 0 h
def f_X11_pave (th : Nat) (x1 : Int) (M : jMem) : Option (Int × jMem) :=
if jd_wr x1 < 0 then (jm_z 0 M)
else ((jm_gR 11 8 M th).bind fun r1 =>
jcall 4 M r1 (f_X4_total r1 M) fun v2 M3 =>
if jd_wr x1 < jd_wr v2 then ((jm_gR 11 6 M3 th).bind fun r4 =>
(jm_gR 11 4 M3 th).bind fun r5 =>
jcall 1 M3 r4 (f_X1_keepForUndo r4 r5 M3) fun _ M7 =>
(jm_gR 11 4 M7 th).bind fun r8 =>
jcall 6 M7 r8 (f_X6_takeAll r8 M7) fun _ M10 =>
(jm_gR 11 8 M10 th).bind fun r11 =>
(jm_gR 11 13 M10 th).bind fun r12 =>
jcall 4 M10 r11 (f_X4_lineAt r11 x1 r12 M10) fun _ M14 =>
jlp3 (fun rec_51 (y2_51 : Int) (y3_51 : Int) (M_51 : jMem) =>
(jm_gR 11 2 M_51 th).bind fun r15 =>
jcall 8 M_51 r15 (f_X8_cells r15 M_51) fun v16 M17 =>
if jd_wr y3_51 < jd_wr v16 then (if jd_wr y2_51 < jd_wr 18 then (jcall 11 M17 th (f_X11_isFree th y3_51 M17) fun v18 M19 =>
jjq (fun (y2_108 : Int) (M_108 : jMem) =>
rec_51 y2_108 (y3_51 + 1) M_108) fun j_108 =>
if jd_wr v18 = 0 then (j_108 y2_51 M19)
else ((jm_gR 11 4 M19 th).bind fun r20 =>
(jm_gR 11 8 M19 th).bind fun r21 =>
(jm_gR 11 13 M19 th).bind fun r22 =>
jcall 4 M19 r21 (f_X4_isDown r21 r22 y3_51 M19) fun v23 M24 =>
jjq (fun (z0_102 : Int) =>
jcall 6 M24 r20 (f_X6_put r20 y2_51 y3_51 z0_102 M24) fun _ M26 =>
j_108 (y2_51 + 1) M26) fun j_102 =>
if jd_wr v23 = 0 then (j_102 1)
else (j_102 0)))
else (jm_z 1 M17))
else (jm_z 1 M17)) jfuel 0 0 M14)
else (jm_z 0 M3))
theorem D_X11_pave : jDs cX11_pave [(0, .iload_n 1, 1, 1), (1, .ifCond .lt 14, 3, 4), (4, .iload_n 1, 1, 5), (5, .aload_n 0, 1, 6), (6, .getfield 62, 3, 9), (9, .invokevirtual 194, 3, 12), (12, .if_icmp .lt 5, 3, 15), (15, .iconst 0, 1, 16), (16, .ireturn, 1, 17), (17, .aload_n 0, 1, 18), (18, .getfield 48, 3, 21), (21, .aload_n 0, 1, 22), (22, .getfield 38, 3, 25), (25, .invokevirtual 170, 3, 28), (28, .aload_n 0, 1, 29), (29, .getfield 38, 3, 32), (32, .invokevirtual 197, 3, 35), (35, .aload_n 0, 1, 36), (36, .getfield 62, 3, 39), (39, .iload_n 1, 1, 40), (40, .aload_n 0, 1, 41), (41, .getfield 87, 3, 44), (44, .invokevirtual 200, 3, 47), (47, .iconst 0, 1, 48), (48, .istore_n 2, 1, 49), (49, .iconst 0, 1, 50), (50, .istore_n 3, 1, 51), (51, .iload_n 3, 1, 52), (52, .aload_n 0, 1, 53), (53, .getfield 19, 3, 56), (56, .invokevirtual 204, 3, 59), (59, .if_icmp .ge 55, 3, 62), (62, .iload_n 2, 1, 63), (63, .bipush 18, 2, 65), (65, .if_icmp .ge 49, 3, 68), (68, .aload_n 0, 1, 69), (69, .iload_n 3, 1, 70), (70, .invokevirtual 154, 3, 73), (73, .ifCond .eq 35, 3, 76), (76, .aload_n 0, 1, 77), (77, .getfield 38, 3, 80), (80, .iload_n 2, 1, 81), (81, .iload_n 3, 1, 82), (82, .aload_n 0, 1, 83), (83, .getfield 62, 3, 86), (86, .aload_n 0, 1, 87), (87, .getfield 87, 3, 90), (90, .iload_n 3, 1, 91), (91, .invokevirtual 207, 3, 94), (94, .ifCond .ne 7, 3, 97), (97, .iconst 1, 1, 98), (98, .goto 4, 3, 101), (101, .iconst 0, 1, 102), (102, .invokevirtual 174, 3, 105), (105, .iinc 2 1, 3, 108), (108, .iinc 3 1, 3, 111), (111, .goto (-60), 3, 114), (114, .iconst 1, 1, 115), (115, .ireturn, 1, 116)] := by unfold jDs; decide +kernel
set_option maxRecDepth 100000 in
set_option maxHeartbeats 4000000 in
theorem c_X11_pave {E : jE} {th : Nat} {x1 : Int} {M : jMem} {r : Int} {M' : jMem} (h : f_X11_pave th x1 M = some (r, M')) : jMet E yX11_pave cX11_pave 4 (some .boolean) 5 0 0 [q_r E th, q_i x1] M (some (q_i r)) M' := by
  unfold f_X11_pave at h
  refine jMet.of RX11 rfl (by decide +kernel) (Nat.le_of_ble_eq_true rfl) [(0, q_r E th), (1, q_i x1)] rfl (fun X hC hE hr hn => ?_)
  refine jr_iload_n hC (D_X11_pave.g 0 rfl) 1 rfl ?_
  refine jr_if_lt hC (D_X11_pave.g 1 rfl) 15 rfl h (fun h => ?_) (fun h => ?_)
  · refine jr_iconst hC (D_X11_pave.g 7 rfl) ?_
    exact jr_zret hC (D_X11_pave.g 8 rfl) hr hE h
  refine jr_iload_n hC (D_X11_pave.g 2 rfl) 1 rfl ?_
  refine jr_aload_n hC (D_X11_pave.g 3 rfl) 0 rfl ?_
  refine jr_getR hC fl_X11_62 rfl (D_X11_pave.g 4 rfl) h (fun r1 h => ?_)
  refine jr_cVi hC cl_X11_194 ⟨rfl, by decide⟩ (D_X11_pave.g 5 rfl) [] h (fun r M' e => c_X4_total e) rfl rfl ⟨by decide, by decide⟩ (Nat.le_of_ble_eq_true rfl) ⟨Nat.le_of_ble_eq_true rfl, Nat.le_of_ble_eq_true rfl⟩ (fun v2 M3 h => ?_)
  refine jr_icmp_lt hC (D_X11_pave.g 6 rfl) 17 rfl h (fun h => ?_) (fun h => ?_)
  · refine jr_aload_n hC (D_X11_pave.g 9 rfl) 0 rfl ?_
    refine jr_getR hC fl_X11_48 rfl (D_X11_pave.g 10 rfl) h (fun r4 h => ?_)
    refine jr_aload_n hC (D_X11_pave.g 11 rfl) 0 rfl ?_
    refine jr_getR hC fl_X11_38 rfl (D_X11_pave.g 12 rfl) h (fun r5 h => ?_)
    refine jr_cVv hC cl_X11_170 ⟨rfl, by decide⟩ (D_X11_pave.g 13 rfl) [q_r E r5] h (fun r M' e => c_X1_keepForUndo e) rfl rfl ⟨by decide, by decide⟩ (Nat.le_of_ble_eq_true rfl) ⟨Nat.le_of_ble_eq_true rfl, Nat.le_of_ble_eq_true rfl⟩ (fun _ M7 h => ?_)
    refine jr_aload_n hC (D_X11_pave.g 14 rfl) 0 rfl ?_
    refine jr_getR hC fl_X11_38 rfl (D_X11_pave.g 15 rfl) h (fun r8 h => ?_)
    refine jr_cVv hC cl_X11_197 ⟨rfl, by decide⟩ (D_X11_pave.g 16 rfl) [] h (fun r M' e => c_X6_takeAll e) rfl rfl ⟨by decide, by decide⟩ (Nat.le_of_ble_eq_true rfl) ⟨Nat.le_of_ble_eq_true rfl, Nat.le_of_ble_eq_true rfl⟩ (fun _ M10 h => ?_)
    refine jr_aload_n hC (D_X11_pave.g 17 rfl) 0 rfl ?_
    refine jr_getR hC fl_X11_62 rfl (D_X11_pave.g 18 rfl) h (fun r11 h => ?_)
    refine jr_iload_n hC (D_X11_pave.g 19 rfl) 1 rfl ?_
    refine jr_aload_n hC (D_X11_pave.g 20 rfl) 0 rfl ?_
    refine jr_getR hC fl_X11_87 rfl (D_X11_pave.g 21 rfl) h (fun r12 h => ?_)
    refine jr_cVv hC cl_X11_200 ⟨rfl, by decide⟩ (D_X11_pave.g 22 rfl) [q_i x1, q_r E r12] h (fun r M' e => c_X4_lineAt e) rfl rfl ⟨by decide, by decide⟩ (Nat.le_of_ble_eq_true rfl) ⟨Nat.le_of_ble_eq_true rfl, Nat.le_of_ble_eq_true rfl⟩ (fun _ M14 h => ?_)
    refine jr_iconst hC (D_X11_pave.g 23 rfl) ?_
    refine jr_istore_n hC (D_X11_pave.g 24 rfl) (by decide) rfl ?_
    refine jr_iconst hC (D_X11_pave.g 25 rfl) ?_
    refine jr_istore_n hC (D_X11_pave.g 26 rfl) (by decide) rfl ?_
    refine jr_pick [2, 1, 0] rfl ?_
    refine jr_lp3 (fun (y2_51 : Int) (y3_51 : Int) (M_51 : jMem) => JW E X 4 0 0 M_51 51 [(0, q_r E th), (2, q_i y2_51), (3, q_i y3_51)] []) ?_ jfuel 0 0 M14 h
    intro rec_51 hrec_51 y2_51 y3_51 M_51 h
    refine jr_iload_n hC (D_X11_pave.g 27 rfl) 2 rfl ?_
    refine jr_aload_n hC (D_X11_pave.g 28 rfl) 0 rfl ?_
    refine jr_getR hC fl_X11_19 rfl (D_X11_pave.g 29 rfl) h (fun r15 h => ?_)
    refine jr_cVi hC cl_X11_204 ⟨rfl, by decide⟩ (D_X11_pave.g 30 rfl) [] h (fun r M' e => c_X8_cells e) rfl rfl ⟨by decide, by decide⟩ (Nat.le_of_ble_eq_true rfl) ⟨Nat.le_of_ble_eq_true rfl, Nat.le_of_ble_eq_true rfl⟩ (fun v16 M17 h => ?_)
    refine jr_icmp_ge hC (D_X11_pave.g 31 rfl) 114 rfl h (fun h => ?_) (fun h => ?_)
    · refine jr_iload_n hC (D_X11_pave.g 32 rfl) 1 rfl ?_
      refine jr_bipush hC (D_X11_pave.g 33 rfl) bp_18 ?_
      refine jr_icmp_ge hC (D_X11_pave.g 34 rfl) 114 rfl h (fun h => ?_) (fun h => ?_)
      · refine jr_aload_n hC (D_X11_pave.g 35 rfl) 0 rfl ?_
        refine jr_iload_n hC (D_X11_pave.g 36 rfl) 2 rfl ?_
        refine jr_cVi hC cl_X11_154 ⟨rfl, by decide⟩ (D_X11_pave.g 37 rfl) [q_i y3_51] h (fun r M' e => c_X11_isFree e) rfl rfl ⟨by decide, by decide⟩ (Nat.le_of_ble_eq_true rfl) ⟨Nat.le_of_ble_eq_true rfl, Nat.le_of_ble_eq_true rfl⟩ (fun v18 M19 h => ?_)
        refine jr_join h (fun j => ∀ (y2_108 : Int) (M_108 : jMem), j y2_108 M_108 = some (r, M') → JW E X 4 0 0 M_108 108 [(0, q_r E th), (2, q_i y2_108), (3, q_i y3_51)] []) ?_ ?_
        · intro y2_108 M_108 h
          refine jr_iinc hC (D_X11_pave.g 55 rfl) 2 rfl (by decide) rfl ?_
          refine jr_goto hC (D_X11_pave.g 56 rfl) 51 rfl ?_
          refine jr_pick [1, 2, 0] rfl ?_
          exact hrec_51 y2_108 (y3_51 + 1) M_108 h
        intro j_108 hj_108 h
        refine jr_if_eq hC (D_X11_pave.g 38 rfl) 108 rfl h (fun h => ?_) (fun h => ?_)
        · exact hj_108 y2_51 M19 h
        refine jr_aload_n hC (D_X11_pave.g 39 rfl) 0 rfl ?_
        refine jr_getR hC fl_X11_38 rfl (D_X11_pave.g 40 rfl) h (fun r20 h => ?_)
        refine jr_iload_n hC (D_X11_pave.g 41 rfl) 1 rfl ?_
        refine jr_iload_n hC (D_X11_pave.g 42 rfl) 2 rfl ?_
        refine jr_aload_n hC (D_X11_pave.g 43 rfl) 0 rfl ?_
        refine jr_getR hC fl_X11_62 rfl (D_X11_pave.g 44 rfl) h (fun r21 h => ?_)
        refine jr_aload_n hC (D_X11_pave.g 45 rfl) 0 rfl ?_
        refine jr_getR hC fl_X11_87 rfl (D_X11_pave.g 46 rfl) h (fun r22 h => ?_)
        refine jr_iload_n hC (D_X11_pave.g 47 rfl) 2 rfl ?_
        refine jr_cVi hC cl_X11_207 ⟨rfl, by decide⟩ (D_X11_pave.g 48 rfl) [q_r E r22, q_i y3_51] h (fun r M' e => c_X4_isDown e) rfl rfl ⟨by decide, by decide⟩ (Nat.le_of_ble_eq_true rfl) ⟨Nat.le_of_ble_eq_true rfl, Nat.le_of_ble_eq_true rfl⟩ (fun v23 M24 h => ?_)
        refine jr_join h (fun j => ∀ (z0_102 : Int), j z0_102 = some (r, M') → JW E X 4 0 0 M24 102 [(0, q_r E th), (2, q_i y2_51), (3, q_i y3_51)] [q_i z0_102, q_i y3_51, q_i y2_51, q_r E r20]) ?_ ?_
        · intro z0_102 h
          refine jr_cVv hC cl_X11_174 ⟨rfl, by decide⟩ (D_X11_pave.g 53 rfl) [q_i y2_51, q_i y3_51, q_i z0_102] h (fun r M' e => c_X6_put e) rfl rfl ⟨by decide, by decide⟩ (Nat.le_of_ble_eq_true rfl) ⟨Nat.le_of_ble_eq_true rfl, Nat.le_of_ble_eq_true rfl⟩ (fun _ M26 h => ?_)
          refine jr_iinc hC (D_X11_pave.g 54 rfl) 1 rfl (by decide) rfl ?_
          refine jr_pick [1, 0, 2] rfl ?_
          exact hj_108 (y2_51 + 1) M26 h
        intro j_102 hj_102 h
        refine jr_if_ne hC (D_X11_pave.g 49 rfl) 101 rfl h (fun h => ?_) (fun h => ?_)
        · refine jr_iconst hC (D_X11_pave.g 50 rfl) ?_
          refine jr_goto hC (D_X11_pave.g 51 rfl) 102 rfl ?_
          exact hj_102 1 h
        refine jr_iconst hC (D_X11_pave.g 52 rfl) ?_
        exact hj_102 0 h
      refine jr_iconst hC (D_X11_pave.g 57 rfl) ?_
      exact jr_zret hC (D_X11_pave.g 58 rfl) hr hE h
    refine jr_iconst hC (D_X11_pave.g 57 rfl) ?_
    exact jr_zret hC (D_X11_pave.g 58 rfl) hr hE h
  refine jr_iconst hC (D_X11_pave.g 7 rfl) ?_
  exact jr_zret hC (D_X11_pave.g 8 rfl) hr hE h
def f_X11_mixed (x0 : Int) (x1 : Int) (M : jMem) : Option (Int × jMem) :=
some ((jd_xor (((jd_xor x0 x1) * 1103515245) + 12345) (jd_ushr (((jd_xor x0 x1) * 1103515245) + 12345) 15)), M)
theorem D_X11_mixed : jDs cX11_mixed [(0, .iload_n 0, 1, 1), (1, .iload_n 1, 1, 2), (2, .ixor, 1, 3), (3, .ldc_w 384, 3, 6), (6, .imul, 1, 7), (7, .sipush 12345, 3, 10), (10, .iadd, 1, 11), (11, .istore_n 2, 1, 12), (12, .iload_n 2, 1, 13), (13, .iload_n 2, 1, 14), (14, .bipush 15, 2, 16), (16, .iushr, 1, 17), (17, .ixor, 1, 18), (18, .ireturn, 1, 19)] := by unfold jDs; decide +kernel
set_option maxRecDepth 100000 in
set_option maxHeartbeats 4000000 in
theorem c_X11_mixed {E : jE} {x0 : Int} {x1 : Int} {M : jMem} {r : Int} {M' : jMem} (h : f_X11_mixed x0 x1 M = some (r, M')) : jMet E yX11_mixed cX11_mixed 3 (some .int) 2 0 0 [q_i x0, q_i x1] M (some (q_i r)) M' := by
  unfold f_X11_mixed at h
  refine jMet.of RX11 rfl (by decide +kernel) (Nat.le_of_ble_eq_true rfl) [(0, q_i x0), (1, q_i x1)] rfl (fun X hC hE hr hn => ?_)
  refine jr_iload_n hC (D_X11_mixed.g 0 rfl) 0 rfl ?_
  refine jr_iload_n hC (D_X11_mixed.g 1 rfl) 1 rfl ?_
  refine jr_ixor hC (D_X11_mixed.g 2 rfl) ?_
  refine jr_ldcw hC (1103515245) (jt_in (i := 1042) (by decide +kernel) rfl) (D_X11_mixed.g 3 rfl) ?_
  refine jr_imul hC (D_X11_mixed.g 4 rfl) ?_
  refine jr_sipush hC (D_X11_mixed.g 5 rfl) sp_12345 ?_
  refine jr_iadd hC (D_X11_mixed.g 6 rfl) ?_
  refine jr_istore_n hC (D_X11_mixed.g 7 rfl) (by decide) rfl ?_
  refine jr_iload_n hC (D_X11_mixed.g 8 rfl) 0 rfl ?_
  refine jr_iload_n hC (D_X11_mixed.g 9 rfl) 0 rfl ?_
  refine jr_bipush hC (D_X11_mixed.g 10 rfl) bp_15 ?_
  refine jr_iushr hC (D_X11_mixed.g 11 rfl) ?_
  refine jr_ixor hC (D_X11_mixed.g 12 rfl) ?_
  exact jr_iret hC (D_X11_mixed.g 13 rfl) hr hE h
def f_X11_lotOfHundred (x0 : Int) (x1 : Int) (M : jMem) : Option (Int × jMem) :=
jbd (f_X11_mixed x0 169 M) fun v1 M2 =>
jbd (f_X11_mixed v1 x1 M2) fun v3 M4 =>
(jm_rm (jd_ushr v3 1) 100).bind fun v5 =>
some (v5, M4)
theorem D_X11_lotOfHundred : jDs cX11_lotOfHundred [(0, .iload_n 0, 1, 1), (1, .sipush 169, 3, 4), (4, .invokestatic 381, 3, 7), (7, .iload_n 1, 1, 8), (8, .invokestatic 381, 3, 11), (11, .iconst 1, 1, 12), (12, .iushr, 1, 13), (13, .bipush 100, 2, 15), (15, .irem, 1, 16), (16, .ireturn, 1, 17)] := by unfold jDs; decide +kernel
set_option maxRecDepth 100000 in
set_option maxHeartbeats 4000000 in
theorem c_X11_lotOfHundred {E : jE} {x0 : Int} {x1 : Int} {M : jMem} {r : Int} {M' : jMem} (h : f_X11_lotOfHundred x0 x1 M = some (r, M')) : jMet E yX11_lotOfHundred cX11_lotOfHundred 2 (some .int) 3 0 0 [q_i x0, q_i x1] M (some (q_i r)) M' := by
  unfold f_X11_lotOfHundred at h
  refine jMet.of RX11 rfl (by decide +kernel) (Nat.le_of_ble_eq_true rfl) [(0, q_i x0), (1, q_i x1)] rfl (fun X hC hE hr hn => ?_)
  refine jr_iload_n hC (D_X11_lotOfHundred.g 0 rfl) 0 rfl ?_
  refine jr_sipush hC (D_X11_lotOfHundred.g 1 rfl) sp_169 ?_
  refine jr_cSi hC cl_X11_381 (D_X11_lotOfHundred.g 2 rfl) [q_i x0, q_i 169] h (fun r M' e => c_X11_mixed e) rfl rfl ⟨by decide, by decide⟩ (Nat.le_of_ble_eq_true rfl) ⟨Nat.le_of_ble_eq_true rfl, Nat.le_of_ble_eq_true rfl⟩ (fun v1 M2 h => ?_)
  refine jr_iload_n hC (D_X11_lotOfHundred.g 3 rfl) 1 rfl ?_
  refine jr_cSi hC cl_X11_381 (D_X11_lotOfHundred.g 4 rfl) [q_i v1, q_i x1] h (fun r M' e => c_X11_mixed e) rfl rfl ⟨by decide, by decide⟩ (Nat.le_of_ble_eq_true rfl) ⟨Nat.le_of_ble_eq_true rfl, Nat.le_of_ble_eq_true rfl⟩ (fun v3 M4 h => ?_)
  refine jr_iconst hC (D_X11_lotOfHundred.g 5 rfl) ?_
  refine jr_iushr hC (D_X11_lotOfHundred.g 6 rfl) ?_
  refine jr_bipush hC (D_X11_lotOfHundred.g 7 rfl) bp_100 ?_
  refine jr_irem hC (D_X11_lotOfHundred.g 8 rfl) h (fun v5 _ h => ?_)
  exact jr_iret hC (D_X11_lotOfHundred.g 9 rfl) hr hE h
def f_X11_couplesThatLoosen (th : Nat) (a1 : Nat) (M : jMem) : Option (Int × jMem) :=
jlp3 (fun rec_4 (y2_4 : Int) (y3_4 : Int) (M_4 : jMem) =>
if jd_wr y3_4 < jd_wr 18 then (jcall 6 M_4 a1 (f_X6_lies a1 y3_4 M_4) fun v1 M2 =>
jjq (fun (y2_75 : Int) (M_75 : jMem) =>
rec_4 y2_75 (y3_4 + 1) M_75) fun j_75 =>
if jd_wr v1 = 0 then (j_75 y2_4 M2)
else ((jm_gR 11 2 M2 th).bind fun r3 =>
(jm_gR 8 12 M2 r3).bind fun r4 =>
(jm_gR 11 2 M2 th).bind fun r5 =>
(jm_gI 8 3 M2 r5).bind fun v6 =>
jcall 2 M2 r4 (f_X2_held r4 1 a1 y3_4 v6 M2) fun v7 M8 =>
if jd_wr v7 ≤ 0 then (j_75 y2_4 M8)
else ((jm_gR 11 2 M8 th).bind fun r9 =>
(jm_gI 8 2 M8 r9).bind fun v10 =>
(jm_gI 6 7 M8 a1).bind fun v11 =>
jbd (f_X11_lotOfHundred v10 ((32 * v11) + y3_4) M8) fun v12 M13 =>
if jd_wr v12 < jd_wr v7 then (j_75 (jd_or y2_4 (jd_shl 1 y3_4)) M13)
else (j_75 y2_4 M13))))
else (some (y2_4, M_4))) jfuel 0 0 M
theorem D_X11_couplesThatLoosen : jDs cX11_couplesThatLoosen [(0, .iconst 0, 1, 1), (1, .istore_n 2, 1, 2), (2, .iconst 0, 1, 3), (3, .istore_n 3, 1, 4), (4, .iload_n 3, 1, 5), (5, .bipush 18, 2, 7), (7, .if_icmp .ge 74, 3, 10), (10, .aload_n 1, 1, 11), (11, .iload_n 3, 1, 12), (12, .invokevirtual 126, 3, 15), (15, .ifCond .eq 60, 3, 18), (18, .aload_n 0, 1, 19), (19, .getfield 19, 3, 22), (22, .getfield 141, 3, 25), (25, .iconst 1, 1, 26), (26, .aload_n 1, 1, 27), (27, .iload_n 3, 1, 28), (28, .aload_n 0, 1, 29), (29, .getfield 19, 3, 32), (32, .getfield 147, 3, 35), (35, .invokevirtual 150, 3, 38), (38, .istore 4, 2, 40), (40, .iload 4, 2, 42), (42, .ifCond .le 33, 3, 45), (45, .aload_n 0, 1, 46), (46, .getfield 19, 3, 49), (49, .getfield 375, 3, 52), (52, .bipush 32, 2, 54), (54, .aload_n 1, 1, 55), (55, .getfield 215, 3, 58), (58, .imul, 1, 59), (59, .iload_n 3, 1, 60), (60, .iadd, 1, 61), (61, .invokestatic 378, 3, 64), (64, .iload 4, 2, 66), (66, .if_icmp .ge 9, 3, 69), (69, .iload_n 2, 1, 70), (70, .iconst 1, 1, 71), (71, .iload_n 3, 1, 72), (72, .ishl, 1, 73), (73, .ior, 1, 74), (74, .istore_n 2, 1, 75), (75, .iinc 3 1, 3, 78), (78, .goto (-74), 3, 81), (81, .iload_n 2, 1, 82), (82, .ireturn, 1, 83)] := by unfold jDs; decide +kernel
set_option maxRecDepth 100000 in
set_option maxHeartbeats 4000000 in
theorem c_X11_couplesThatLoosen {E : jE} {th : Nat} {a1 : Nat} {M : jMem} {r : Int} {M' : jMem} (h : f_X11_couplesThatLoosen th a1 M = some (r, M')) : jMet E yX11_couplesThatLoosen cX11_couplesThatLoosen 5 (some .int) 6 0 0 [q_r E th, q_r E a1] M (some (q_i r)) M' := by
  unfold f_X11_couplesThatLoosen at h
  refine jMet.of RX11 rfl (by decide +kernel) (Nat.le_of_ble_eq_true rfl) [(0, q_r E th), (1, q_r E a1)] rfl (fun X hC hE hr hn => ?_)
  refine jr_iconst hC (D_X11_couplesThatLoosen.g 0 rfl) ?_
  refine jr_istore_n hC (D_X11_couplesThatLoosen.g 1 rfl) (by decide) rfl ?_
  refine jr_iconst hC (D_X11_couplesThatLoosen.g 2 rfl) ?_
  refine jr_istore_n hC (D_X11_couplesThatLoosen.g 3 rfl) (by decide) rfl ?_
  refine jr_pick [2, 3, 1, 0] rfl ?_
  refine jr_lp3 (fun (y2_4 : Int) (y3_4 : Int) (M_4 : jMem) => JW E X 5 0 0 M_4 4 [(0, q_r E th), (1, q_r E a1), (2, q_i y2_4), (3, q_i y3_4)] []) ?_ jfuel 0 0 M h
  intro rec_4 hrec_4 y2_4 y3_4 M_4 h
  refine jr_iload_n hC (D_X11_couplesThatLoosen.g 4 rfl) 3 rfl ?_
  refine jr_bipush hC (D_X11_couplesThatLoosen.g 5 rfl) bp_18 ?_
  refine jr_icmp_ge hC (D_X11_couplesThatLoosen.g 6 rfl) 81 rfl h (fun h => ?_) (fun h => ?_)
  · refine jr_aload_n hC (D_X11_couplesThatLoosen.g 7 rfl) 1 rfl ?_
    refine jr_iload_n hC (D_X11_couplesThatLoosen.g 8 rfl) 3 rfl ?_
    refine jr_cVi hC cl_X11_126 ⟨rfl, by decide⟩ (D_X11_couplesThatLoosen.g 9 rfl) [q_i y3_4] h (fun r M' e => c_X6_lies e) rfl rfl ⟨by decide, by decide⟩ (Nat.le_of_ble_eq_true rfl) ⟨Nat.le_of_ble_eq_true rfl, Nat.le_of_ble_eq_true rfl⟩ (fun v1 M2 h => ?_)
    refine jr_join h (fun j => ∀ (y2_75 : Int) (M_75 : jMem), j y2_75 M_75 = some (r, M') → JW E X 5 0 0 M_75 75 [(0, q_r E th), (1, q_r E a1), (2, q_i y2_75), (3, q_i y3_4)] []) ?_ ?_
    · intro y2_75 M_75 h
      refine jr_iinc hC (D_X11_couplesThatLoosen.g 42 rfl) 3 rfl (by decide) rfl ?_
      refine jr_goto hC (D_X11_couplesThatLoosen.g 43 rfl) 4 rfl ?_
      refine jr_pick [1, 2, 3, 0] rfl ?_
      exact hrec_4 y2_75 (y3_4 + 1) M_75 h
    intro j_75 hj_75 h
    refine jr_if_eq hC (D_X11_couplesThatLoosen.g 10 rfl) 75 rfl h (fun h => ?_) (fun h => ?_)
    · exact hj_75 y2_4 M2 h
    refine jr_aload_n hC (D_X11_couplesThatLoosen.g 11 rfl) 0 rfl ?_
    refine jr_getR hC fl_X11_19 rfl (D_X11_couplesThatLoosen.g 12 rfl) h (fun r3 h => ?_)
    refine jr_getR hC fl_X11_141 rfl (D_X11_couplesThatLoosen.g 13 rfl) h (fun r4 h => ?_)
    refine jr_iconst hC (D_X11_couplesThatLoosen.g 14 rfl) ?_
    refine jr_aload_n hC (D_X11_couplesThatLoosen.g 15 rfl) 1 rfl ?_
    refine jr_iload_n hC (D_X11_couplesThatLoosen.g 16 rfl) 3 rfl ?_
    refine jr_aload_n hC (D_X11_couplesThatLoosen.g 17 rfl) 0 rfl ?_
    refine jr_getR hC fl_X11_19 rfl (D_X11_couplesThatLoosen.g 18 rfl) h (fun r5 h => ?_)
    refine jr_getI hC fl_X11_147 rfl (D_X11_couplesThatLoosen.g 19 rfl) h (fun v6 h => ?_)
    refine jr_cVi hC cl_X11_150 ⟨rfl, by decide⟩ (D_X11_couplesThatLoosen.g 20 rfl) [q_i 1, q_r E a1, q_i y3_4, q_i v6] h (fun r M' e => c_X2_held e) rfl rfl ⟨by decide, by decide⟩ (Nat.le_of_ble_eq_true rfl) ⟨Nat.le_of_ble_eq_true rfl, Nat.le_of_ble_eq_true rfl⟩ (fun v7 M8 h => ?_)
    refine jr_istore hC (D_X11_couplesThatLoosen.g 21 rfl) (by decide) rfl ?_
    refine jr_iload hC (D_X11_couplesThatLoosen.g 22 rfl) 0 rfl ?_
    refine jr_if_le hC (D_X11_couplesThatLoosen.g 23 rfl) 75 rfl h (fun h => ?_) (fun h => ?_)
    · refine jr_pick [1, 2, 3, 4] rfl ?_
      exact hj_75 y2_4 M8 h
    refine jr_aload_n hC (D_X11_couplesThatLoosen.g 24 rfl) 1 rfl ?_
    refine jr_getR hC fl_X11_19 rfl (D_X11_couplesThatLoosen.g 25 rfl) h (fun r9 h => ?_)
    refine jr_getI hC fl_X11_375 rfl (D_X11_couplesThatLoosen.g 26 rfl) h (fun v10 h => ?_)
    refine jr_bipush hC (D_X11_couplesThatLoosen.g 27 rfl) bp_32 ?_
    refine jr_aload_n hC (D_X11_couplesThatLoosen.g 28 rfl) 2 rfl ?_
    refine jr_getI hC fl_X11_215 rfl (D_X11_couplesThatLoosen.g 29 rfl) h (fun v11 h => ?_)
    refine jr_imul hC (D_X11_couplesThatLoosen.g 30 rfl) ?_
    refine jr_iload_n hC (D_X11_couplesThatLoosen.g 31 rfl) 4 rfl ?_
    refine jr_iadd hC (D_X11_couplesThatLoosen.g 32 rfl) ?_
    refine jr_cSi hC cl_X11_378 (D_X11_couplesThatLoosen.g 33 rfl) [q_i v10, q_i ((32 * v11) + y3_4)] h (fun r M' e => c_X11_lotOfHundred e) rfl rfl ⟨by decide, by decide⟩ (Nat.le_of_ble_eq_true rfl) ⟨Nat.le_of_ble_eq_true rfl, Nat.le_of_ble_eq_true rfl⟩ (fun v12 M13 h => ?_)
    refine jr_iload hC (D_X11_couplesThatLoosen.g 34 rfl) 0 rfl ?_
    refine jr_icmp_ge hC (D_X11_couplesThatLoosen.g 35 rfl) 75 rfl h (fun h => ?_) (fun h => ?_)
    · refine jr_iload_n hC (D_X11_couplesThatLoosen.g 36 rfl) 3 rfl ?_
      refine jr_iconst hC (D_X11_couplesThatLoosen.g 37 rfl) ?_
      refine jr_iload_n hC (D_X11_couplesThatLoosen.g 38 rfl) 4 rfl ?_
      refine jr_ishl hC (D_X11_couplesThatLoosen.g 39 rfl) ?_
      refine jr_ior hC (D_X11_couplesThatLoosen.g 40 rfl) ?_
      refine jr_istore_n hC (D_X11_couplesThatLoosen.g 41 rfl) (by decide) rfl ?_
      refine jr_pick [2, 3, 0, 4] rfl ?_
      exact hj_75 (jd_or y2_4 (jd_shl 1 y3_4)) M13 h
    refine jr_pick [1, 2, 3, 4] rfl ?_
    exact hj_75 y2_4 M13 h
  refine jr_iload_n hC (D_X11_couplesThatLoosen.g 44 rfl) 2 rfl ?_
  exact jr_iret hC (D_X11_couplesThatLoosen.g 45 rfl) hr hE h
def f_X11_passSeasons (th : Nat) (a1 : Nat) (x2 : Int) (M : jMem) : Option (Int × jMem) :=
jlp2 (fun rec_2 (y3_2 : Int) (M_2 : jMem) =>
if jd_wr y3_2 < jd_wr x2 then (jcall 11 M_2 th (f_X11_couplesThatLoosen th a1 M_2) fun v1 M2 =>
jcall 6 M2 a1 (f_X6_ageAll a1 v1 M2) fun _ M4 =>
rec_2 (y3_2 + 1) M4)
else (some (0, M_2))) jfuel 0 M
theorem D_X11_passSeasons : jDs cX11_passSeasons [(0, .iconst 0, 1, 1), (1, .istore_n 3, 1, 2), (2, .iload_n 3, 1, 3), (3, .iload_n 2, 1, 4), (4, .if_icmp .ge 18, 3, 7), (7, .aload_n 1, 1, 8), (8, .aload_n 0, 1, 9), (9, .aload_n 1, 1, 10), (10, .invokevirtual 371, 3, 13), (13, .invokevirtual 302, 3, 16), (16, .iinc 3 1, 3, 19), (19, .goto (-17), 3, 22), (22, .return_, 1, 23)] := by unfold jDs; decide +kernel
set_option maxRecDepth 100000 in
set_option maxHeartbeats 4000000 in
theorem c_X11_passSeasons {E : jE} {th : Nat} {a1 : Nat} {x2 : Int} {M : jMem} {r : Int} {M' : jMem} (h : f_X11_passSeasons th a1 x2 M = some (r, M')) : jMet E yX11_passSeasons cX11_passSeasons 4 (none) 7 0 0 [q_r E th, q_r E a1, q_i x2] M (none) M' := by
  unfold f_X11_passSeasons at h
  refine jMet.of RX11 rfl (by decide +kernel) (Nat.le_of_ble_eq_true rfl) [(0, q_r E th), (1, q_r E a1), (2, q_i x2)] rfl (fun X hC hE hr hn => ?_)
  refine jr_iconst hC (D_X11_passSeasons.g 0 rfl) ?_
  refine jr_istore_n hC (D_X11_passSeasons.g 1 rfl) (by decide) rfl ?_
  refine jr_pick [1, 2, 3, 0] rfl ?_
  refine jr_lp2 (fun (y3_2 : Int) (M_2 : jMem) => JW E X 4 0 0 M_2 2 [(0, q_r E th), (1, q_r E a1), (2, q_i x2), (3, q_i y3_2)] []) ?_ jfuel 0 M h
  intro rec_2 hrec_2 y3_2 M_2 h
  refine jr_iload_n hC (D_X11_passSeasons.g 2 rfl) 3 rfl ?_
  refine jr_iload_n hC (D_X11_passSeasons.g 3 rfl) 2 rfl ?_
  refine jr_icmp_ge hC (D_X11_passSeasons.g 4 rfl) 22 rfl h (fun h => ?_) (fun h => ?_)
  · refine jr_aload_n hC (D_X11_passSeasons.g 5 rfl) 1 rfl ?_
    refine jr_aload_n hC (D_X11_passSeasons.g 6 rfl) 0 rfl ?_
    refine jr_aload_n hC (D_X11_passSeasons.g 7 rfl) 1 rfl ?_
    refine jr_cVi hC cl_X11_371 ⟨rfl, by decide⟩ (D_X11_passSeasons.g 8 rfl) [q_r E a1] h (fun r M' e => c_X11_couplesThatLoosen e) rfl rfl ⟨by decide, by decide⟩ (Nat.le_of_ble_eq_true rfl) ⟨Nat.le_of_ble_eq_true rfl, Nat.le_of_ble_eq_true rfl⟩ (fun v1 M2 h => ?_)
    refine jr_cVv hC cl_X11_302 ⟨rfl, by decide⟩ (D_X11_passSeasons.g 9 rfl) [q_i v1] h (fun r M' e => c_X6_ageAll e) rfl rfl ⟨by decide, by decide⟩ (Nat.le_of_ble_eq_true rfl) ⟨Nat.le_of_ble_eq_true rfl, Nat.le_of_ble_eq_true rfl⟩ (fun _ M4 h => ?_)
    refine jr_iinc hC (D_X11_passSeasons.g 10 rfl) 3 rfl (by decide) rfl ?_
    refine jr_goto hC (D_X11_passSeasons.g 11 rfl) 2 rfl ?_
    refine jr_pick [1, 2, 3, 0] rfl ?_
    exact hrec_2 (y3_2 + 1) M4 h
  exact jr_vret hC (D_X11_passSeasons.g 12 rfl) hr hE h
def f_X11_seasons (th : Nat) (x1 : Int) (M : jMem) : Option (Int × jMem) :=
if jd_wr x1 < 0 then (some ((-1), M))
else (if jd_wr x1 ≤ jd_wr 60 then (jjq (fun (M_36 : jMem) =>
(jm_gR 11 4 M_36 th).bind fun r1 =>
(jm_gI 6 7 M_36 r1).bind fun v2 =>
some (v2, M_36)) fun j_36 =>
if jd_wr x1 ≤ 0 then (j_36 M)
else ((jm_gR 11 6 M th).bind fun r3 =>
(jm_gR 11 4 M th).bind fun r4 =>
jcall 1 M r3 (f_X1_keepForUndo r3 r4 M) fun _ M6 =>
(jm_gR 11 4 M6 th).bind fun r7 =>
jcall 11 M6 th (f_X11_passSeasons th r7 x1 M6) fun _ M9 =>
j_36 M9))
else (some ((-1), M)))
theorem D_X11_seasons : jDs cX11_seasons [(0, .iload_n 1, 1, 1), (1, .ifCond .lt 9, 3, 4), (4, .iload_n 1, 1, 5), (5, .bipush 60, 2, 7), (7, .if_icmp .le 5, 3, 10), (10, .iconst (-1), 1, 11), (11, .ireturn, 1, 12), (12, .iload_n 1, 1, 13), (13, .ifCond .le 23, 3, 16), (16, .aload_n 0, 1, 17), (17, .getfield 48, 3, 20), (20, .aload_n 0, 1, 21), (21, .getfield 38, 3, 24), (24, .invokevirtual 170, 3, 27), (27, .aload_n 0, 1, 28), (28, .aload_n 0, 1, 29), (29, .getfield 38, 3, 32), (32, .iload_n 1, 1, 33), (33, .invokevirtual 211, 3, 36), (36, .aload_n 0, 1, 37), (37, .getfield 38, 3, 40), (40, .getfield 215, 3, 43), (43, .ireturn, 1, 44)] := by unfold jDs; decide +kernel
set_option maxRecDepth 100000 in
set_option maxHeartbeats 4000000 in
theorem c_X11_seasons {E : jE} {th : Nat} {x1 : Int} {M : jMem} {r : Int} {M' : jMem} (h : f_X11_seasons th x1 M = some (r, M')) : jMet E yX11_seasons cX11_seasons 2 (some .int) 8 0 0 [q_r E th, q_i x1] M (some (q_i r)) M' := by
  unfold f_X11_seasons at h
  refine jMet.of RX11 rfl (by decide +kernel) (Nat.le_of_ble_eq_true rfl) [(0, q_r E th), (1, q_i x1)] rfl (fun X hC hE hr hn => ?_)
  refine jr_iload_n hC (D_X11_seasons.g 0 rfl) 1 rfl ?_
  refine jr_if_lt hC (D_X11_seasons.g 1 rfl) 10 rfl h (fun h => ?_) (fun h => ?_)
  · refine jr_iconst hC (D_X11_seasons.g 5 rfl) ?_
    exact jr_iret hC (D_X11_seasons.g 6 rfl) hr hE h
  refine jr_iload_n hC (D_X11_seasons.g 2 rfl) 1 rfl ?_
  refine jr_bipush hC (D_X11_seasons.g 3 rfl) bp_60 ?_
  refine jr_icmp_le hC (D_X11_seasons.g 4 rfl) 12 rfl h (fun h => ?_) (fun h => ?_)
  · refine jr_iload_n hC (D_X11_seasons.g 7 rfl) 1 rfl ?_
    refine jr_join h (fun j => ∀ (M_36 : jMem), j M_36 = some (r, M') → JW E X 2 0 0 M_36 36 [(0, q_r E th)] []) ?_ ?_
    · intro M_36 h
      refine jr_aload_n hC (D_X11_seasons.g 19 rfl) 0 rfl ?_
      refine jr_getR hC fl_X11_38 rfl (D_X11_seasons.g 20 rfl) h (fun r1 h => ?_)
      refine jr_getI hC fl_X11_215 rfl (D_X11_seasons.g 21 rfl) h (fun v2 h => ?_)
      exact jr_iret hC (D_X11_seasons.g 22 rfl) hr hE h
    intro j_36 hj_36 h
    refine jr_if_le hC (D_X11_seasons.g 8 rfl) 36 rfl h (fun h => ?_) (fun h => ?_)
    · refine jr_pick [0] rfl ?_
      exact hj_36 M h
    refine jr_aload_n hC (D_X11_seasons.g 9 rfl) 0 rfl ?_
    refine jr_getR hC fl_X11_48 rfl (D_X11_seasons.g 10 rfl) h (fun r3 h => ?_)
    refine jr_aload_n hC (D_X11_seasons.g 11 rfl) 0 rfl ?_
    refine jr_getR hC fl_X11_38 rfl (D_X11_seasons.g 12 rfl) h (fun r4 h => ?_)
    refine jr_cVv hC cl_X11_170 ⟨rfl, by decide⟩ (D_X11_seasons.g 13 rfl) [q_r E r4] h (fun r M' e => c_X1_keepForUndo e) rfl rfl ⟨by decide, by decide⟩ (Nat.le_of_ble_eq_true rfl) ⟨Nat.le_of_ble_eq_true rfl, Nat.le_of_ble_eq_true rfl⟩ (fun _ M6 h => ?_)
    refine jr_aload_n hC (D_X11_seasons.g 14 rfl) 0 rfl ?_
    refine jr_aload_n hC (D_X11_seasons.g 15 rfl) 0 rfl ?_
    refine jr_getR hC fl_X11_38 rfl (D_X11_seasons.g 16 rfl) h (fun r7 h => ?_)
    refine jr_iload_n hC (D_X11_seasons.g 17 rfl) 1 rfl ?_
    refine jr_cVv hC cl_X11_211 ⟨rfl, by decide⟩ (D_X11_seasons.g 18 rfl) [q_r E r7, q_i x1] h (fun r M' e => c_X11_passSeasons e) rfl rfl ⟨by decide, by decide⟩ (Nat.le_of_ble_eq_true rfl) ⟨Nat.le_of_ble_eq_true rfl, Nat.le_of_ble_eq_true rfl⟩ (fun _ M9 h => ?_)
    refine jr_pick [0] rfl ?_
    exact hj_36 M9 h
  refine jr_iconst hC (D_X11_seasons.g 5 rfl) ?_
  exact jr_iret hC (D_X11_seasons.g 6 rfl) hr hE h
def f_X11_undo (th : Nat) (M : jMem) : Option (Int × jMem) :=
(jm_gR 11 6 M th).bind fun r1 =>
(jm_gR 11 4 M th).bind fun r2 =>
jcall 1 M r1 (f_X1_giveBack r1 r2 M) fun v3 M4 =>
jm_z v3 M4
theorem D_X11_undo : jDs cX11_undo [(0, .aload_n 0, 1, 1), (1, .getfield 48, 3, 4), (4, .aload_n 0, 1, 5), (5, .getfield 38, 3, 8), (8, .invokevirtual 218, 3, 11), (11, .ireturn, 1, 12)] := by unfold jDs; decide +kernel
set_option maxRecDepth 100000 in
set_option maxHeartbeats 4000000 in
theorem c_X11_undo {E : jE} {th : Nat} {M : jMem} {r : Int} {M' : jMem} (h : f_X11_undo th M = some (r, M')) : jMet E yX11_undo cX11_undo 1 (some .boolean) 4 0 0 [q_r E th] M (some (q_i r)) M' := by
  unfold f_X11_undo at h
  refine jMet.of RX11 rfl (by decide +kernel) (Nat.le_of_ble_eq_true rfl) [(0, q_r E th)] rfl (fun X hC hE hr hn => ?_)
  refine jr_aload_n hC (D_X11_undo.g 0 rfl) 0 rfl ?_
  refine jr_getR hC fl_X11_48 rfl (D_X11_undo.g 1 rfl) h (fun r1 h => ?_)
  refine jr_aload_n hC (D_X11_undo.g 2 rfl) 0 rfl ?_
  refine jr_getR hC fl_X11_38 rfl (D_X11_undo.g 3 rfl) h (fun r2 h => ?_)
  refine jr_cVi hC cl_X11_218 ⟨rfl, by decide⟩ (D_X11_undo.g 4 rfl) [q_r E r2] h (fun r M' e => c_X1_giveBack e) rfl rfl ⟨by decide, by decide⟩ (Nat.le_of_ble_eq_true rfl) ⟨Nat.le_of_ble_eq_true rfl, Nat.le_of_ble_eq_true rfl⟩ (fun v3 M4 h => ?_)
  exact jr_zret hC (D_X11_undo.g 5 rfl) hr hE h
def f_X11_all (th : Nat) (M : jMem) : Option (Int × jMem) :=
(jm_gR 11 8 M th).bind fun r1 =>
jcall 4 M r1 (f_X4_total r1 M) fun v2 M3 =>
some (v2, M3)
theorem D_X11_all : jDs cX11_all [(0, .aload_n 0, 1, 1), (1, .getfield 62, 3, 4), (4, .invokevirtual 194, 3, 7), (7, .ireturn, 1, 8)] := by unfold jDs; decide +kernel
set_option maxRecDepth 100000 in
set_option maxHeartbeats 4000000 in
theorem c_X11_all {E : jE} {th : Nat} {M : jMem} {r : Int} {M' : jMem} (h : f_X11_all th M = some (r, M')) : jMet E yX11_all cX11_all 1 (some .int) 3 0 0 [q_r E th] M (some (q_i r)) M' := by
  unfold f_X11_all at h
  refine jMet.of RX11 rfl (by decide +kernel) (Nat.le_of_ble_eq_true rfl) [(0, q_r E th)] rfl (fun X hC hE hr hn => ?_)
  refine jr_aload_n hC (D_X11_all.g 0 rfl) 0 rfl ?_
  refine jr_getR hC fl_X11_62 rfl (D_X11_all.g 1 rfl) h (fun r1 h => ?_)
  refine jr_cVi hC cl_X11_194 ⟨rfl, by decide⟩ (D_X11_all.g 2 rfl) [] h (fun r M' e => c_X4_total e) rfl rfl ⟨by decide, by decide⟩ (Nat.le_of_ble_eq_true rfl) ⟨Nat.le_of_ble_eq_true rfl, Nat.le_of_ble_eq_true rfl⟩ (fun v2 M3 h => ?_)
  exact jr_iret hC (D_X11_all.g 3 rfl) hr hE h
def f_X11_closeHolesAndStones (th : Nat) (M : jMem) : Option (Int × jMem) :=
(jm_gR 11 9 M th).bind fun r1 =>
(jm_gR 11 2 M th).bind fun r2 =>
jcall 4 M r1 (f_X4_begin r1 r2 M) fun _ M4 =>
jlp2 (fun rec_13 (y1_13 : Int) (M_13 : jMem) =>
(jm_gR 11 2 M_13 th).bind fun r5 =>
jcall 8 M_13 r5 (f_X8_cells r5 M_13) fun v6 M7 =>
if jd_wr y1_13 < jd_wr v6 then ((jm_gR 11 4 M7 th).bind fun r8 =>
(jm_gR 6 4 M7 r8).bind fun r9 =>
(jm_ld 20 M7 r9 y1_13).bind fun v10 =>
jjq (fun (M_45 : jMem) =>
rec_13 (y1_13 + 1) M_45) fun j_45 =>
if jd_wr v10 = jd_wr (-1) then (j_45 M7)
else ((jm_gR 11 9 M7 th).bind fun r11 =>
jcall 4 M7 r11 (f_X4_close r11 y1_13 M7) fun _ M13 =>
j_45 M13))
else (some (0, M7))) jfuel 0 M4
theorem D_X11_closeHolesAndStones : jDs cX11_closeHolesAndStones [(0, .aload_n 0, 1, 1), (1, .getfield 66, 3, 4), (4, .aload_n 0, 1, 5), (5, .getfield 19, 3, 8), (8, .invokevirtual 282, 3, 11), (11, .iconst 0, 1, 12), (12, .istore_n 1, 1, 13), (13, .iload_n 1, 1, 14), (14, .aload_n 0, 1, 15), (15, .getfield 19, 3, 18), (18, .invokevirtual 204, 3, 21), (21, .if_icmp .ge 30, 3, 24), (24, .aload_n 0, 1, 25), (25, .getfield 38, 3, 28), (28, .getfield 112, 3, 31), (31, .iload_n 1, 1, 32), (32, .iaload, 1, 33), (33, .iconst (-1), 1, 34), (34, .if_icmp .eq 11, 3, 37), (37, .aload_n 0, 1, 38), (38, .getfield 66, 3, 41), (41, .iload_n 1, 1, 42), (42, .invokevirtual 286, 3, 45), (45, .iinc 1 1, 3, 48), (48, .goto (-35), 3, 51), (51, .return_, 1, 52)] := by unfold jDs; decide +kernel
set_option maxRecDepth 100000 in
set_option maxHeartbeats 4000000 in
theorem c_X11_closeHolesAndStones {E : jE} {th : Nat} {M : jMem} {r : Int} {M' : jMem} (h : f_X11_closeHolesAndStones th M = some (r, M')) : jMet E yX11_closeHolesAndStones cX11_closeHolesAndStones 2 (none) 5 0 0 [q_r E th] M (none) M' := by
  unfold f_X11_closeHolesAndStones at h
  refine jMet.of RX11 rfl (by decide +kernel) (Nat.le_of_ble_eq_true rfl) [(0, q_r E th)] rfl (fun X hC hE hr hn => ?_)
  refine jr_aload_n hC (D_X11_closeHolesAndStones.g 0 rfl) 0 rfl ?_
  refine jr_getR hC fl_X11_66 rfl (D_X11_closeHolesAndStones.g 1 rfl) h (fun r1 h => ?_)
  refine jr_aload_n hC (D_X11_closeHolesAndStones.g 2 rfl) 0 rfl ?_
  refine jr_getR hC fl_X11_19 rfl (D_X11_closeHolesAndStones.g 3 rfl) h (fun r2 h => ?_)
  refine jr_cVv hC cl_X11_282 ⟨rfl, by decide⟩ (D_X11_closeHolesAndStones.g 4 rfl) [q_r E r2] h (fun r M' e => c_X4_begin e) rfl rfl ⟨by decide, by decide⟩ (Nat.le_of_ble_eq_true rfl) ⟨Nat.le_of_ble_eq_true rfl, Nat.le_of_ble_eq_true rfl⟩ (fun _ M4 h => ?_)
  refine jr_iconst hC (D_X11_closeHolesAndStones.g 5 rfl) ?_
  refine jr_istore_n hC (D_X11_closeHolesAndStones.g 6 rfl) (by decide) rfl ?_
  refine jr_pick [1, 0] rfl ?_
  refine jr_lp2 (fun (y1_13 : Int) (M_13 : jMem) => JW E X 2 0 0 M_13 13 [(0, q_r E th), (1, q_i y1_13)] []) ?_ jfuel 0 M4 h
  intro rec_13 hrec_13 y1_13 M_13 h
  refine jr_iload_n hC (D_X11_closeHolesAndStones.g 7 rfl) 1 rfl ?_
  refine jr_aload_n hC (D_X11_closeHolesAndStones.g 8 rfl) 0 rfl ?_
  refine jr_getR hC fl_X11_19 rfl (D_X11_closeHolesAndStones.g 9 rfl) h (fun r5 h => ?_)
  refine jr_cVi hC cl_X11_204 ⟨rfl, by decide⟩ (D_X11_closeHolesAndStones.g 10 rfl) [] h (fun r M' e => c_X8_cells e) rfl rfl ⟨by decide, by decide⟩ (Nat.le_of_ble_eq_true rfl) ⟨Nat.le_of_ble_eq_true rfl, Nat.le_of_ble_eq_true rfl⟩ (fun v6 M7 h => ?_)
  refine jr_icmp_ge hC (D_X11_closeHolesAndStones.g 11 rfl) 51 rfl h (fun h => ?_) (fun h => ?_)
  · refine jr_aload_n hC (D_X11_closeHolesAndStones.g 12 rfl) 0 rfl ?_
    refine jr_getR hC fl_X11_38 rfl (D_X11_closeHolesAndStones.g 13 rfl) h (fun r8 h => ?_)
    refine jr_getR hC fl_X11_112 rfl (D_X11_closeHolesAndStones.g 14 rfl) h (fun r9 h => ?_)
    refine jr_iload_n hC (D_X11_closeHolesAndStones.g 15 rfl) 1 rfl ?_
    refine jr_iald hC (D_X11_closeHolesAndStones.g 16 rfl) h (fun v10 h => ?_)
    refine jr_iconst hC (D_X11_closeHolesAndStones.g 17 rfl) ?_
    refine jr_join h (fun j => ∀ (M_45 : jMem), j M_45 = some (r, M') → JW E X 2 0 0 M_45 45 [(0, q_r E th), (1, q_i y1_13)] []) ?_ ?_
    · intro M_45 h
      refine jr_iinc hC (D_X11_closeHolesAndStones.g 23 rfl) 1 rfl (by decide) rfl ?_
      refine jr_goto hC (D_X11_closeHolesAndStones.g 24 rfl) 13 rfl ?_
      refine jr_pick [1, 0] rfl ?_
      exact hrec_13 (y1_13 + 1) M_45 h
    intro j_45 hj_45 h
    refine jr_icmp_eq hC (D_X11_closeHolesAndStones.g 18 rfl) 45 rfl h (fun h => ?_) (fun h => ?_)
    · exact hj_45 M7 h
    refine jr_aload_n hC (D_X11_closeHolesAndStones.g 19 rfl) 0 rfl ?_
    refine jr_getR hC fl_X11_66 rfl (D_X11_closeHolesAndStones.g 20 rfl) h (fun r11 h => ?_)
    refine jr_iload_n hC (D_X11_closeHolesAndStones.g 21 rfl) 1 rfl ?_
    refine jr_cVv hC cl_X11_286 ⟨rfl, by decide⟩ (D_X11_closeHolesAndStones.g 22 rfl) [q_i y1_13] h (fun r M' e => c_X4_close e) rfl rfl ⟨by decide, by decide⟩ (Nat.le_of_ble_eq_true rfl) ⟨Nat.le_of_ble_eq_true rfl, Nat.le_of_ble_eq_true rfl⟩ (fun _ M13 h => ?_)
    exact hj_45 M13 h
  exact jr_vret hC (D_X11_closeHolesAndStones.g 25 rfl) hr hE h
def f_X11_countRest (th : Nat) (M : jMem) : Option (Int × jMem) :=
jcall 11 M th (f_X11_closeHolesAndStones th M) fun _ M2 =>
(jm_gR 11 9 M2 th).bind fun r3 =>
jcall 4 M2 r3 (f_X4_countWays r3 M2) fun _ M5 =>
some (0, M5)
theorem D_X11_countRest : jDs cX11_countRest [(0, .aload_n 0, 1, 1), (1, .invokevirtual 238, 3, 4), (4, .aload_n 0, 1, 5), (5, .getfield 66, 3, 8), (8, .invokevirtual 289, 3, 11), (11, .return_, 1, 12)] := by unfold jDs; decide +kernel
set_option maxRecDepth 100000 in
set_option maxHeartbeats 4000000 in
theorem c_X11_countRest {E : jE} {th : Nat} {M : jMem} {r : Int} {M' : jMem} (h : f_X11_countRest th M = some (r, M')) : jMet E yX11_countRest cX11_countRest 1 (none) 6 0 0 [q_r E th] M (none) M' := by
  unfold f_X11_countRest at h
  refine jMet.of RX11 rfl (by decide +kernel) (Nat.le_of_ble_eq_true rfl) [(0, q_r E th)] rfl (fun X hC hE hr hn => ?_)
  refine jr_aload_n hC (D_X11_countRest.g 0 rfl) 0 rfl ?_
  refine jr_cVv hC cl_X11_238 ⟨rfl, by decide⟩ (D_X11_countRest.g 1 rfl) [] h (fun r M' e => c_X11_closeHolesAndStones e) rfl rfl ⟨by decide, by decide⟩ (Nat.le_of_ble_eq_true rfl) ⟨Nat.le_of_ble_eq_true rfl, Nat.le_of_ble_eq_true rfl⟩ (fun _ M2 h => ?_)
  refine jr_aload_n hC (D_X11_countRest.g 2 rfl) 0 rfl ?_
  refine jr_getR hC fl_X11_66 rfl (D_X11_countRest.g 3 rfl) h (fun r3 h => ?_)
  refine jr_cVv hC cl_X11_289 ⟨rfl, by decide⟩ (D_X11_countRest.g 4 rfl) [] h (fun r M' e => c_X4_countWays e) rfl rfl ⟨by decide, by decide⟩ (Nat.le_of_ble_eq_true rfl) ⟨Nat.le_of_ble_eq_true rfl, Nat.le_of_ble_eq_true rfl⟩ (fun _ M5 h => ?_)
  exact jr_vret hC (D_X11_countRest.g 5 rfl) hr hE h
def f_X11_rest (th : Nat) (M : jMem) : Option (Int × jMem) :=
jcall 11 M th (f_X11_countRest th M) fun _ M2 =>
(jm_gR 11 9 M2 th).bind fun r3 =>
jcall 4 M2 r3 (f_X4_total r3 M2) fun v4 M5 =>
some (v4, M5)
theorem D_X11_rest : jDs cX11_rest [(0, .aload_n 0, 1, 1), (1, .invokevirtual 222, 3, 4), (4, .aload_n 0, 1, 5), (5, .getfield 66, 3, 8), (8, .invokevirtual 194, 3, 11), (11, .ireturn, 1, 12)] := by unfold jDs; decide +kernel
set_option maxRecDepth 100000 in
set_option maxHeartbeats 4000000 in
theorem c_X11_rest {E : jE} {th : Nat} {M : jMem} {r : Int} {M' : jMem} (h : f_X11_rest th M = some (r, M')) : jMet E yX11_rest cX11_rest 1 (some .int) 7 0 0 [q_r E th] M (some (q_i r)) M' := by
  unfold f_X11_rest at h
  refine jMet.of RX11 rfl (by decide +kernel) (Nat.le_of_ble_eq_true rfl) [(0, q_r E th)] rfl (fun X hC hE hr hn => ?_)
  refine jr_aload_n hC (D_X11_rest.g 0 rfl) 0 rfl ?_
  refine jr_cVv hC cl_X11_222 ⟨rfl, by decide⟩ (D_X11_rest.g 1 rfl) [] h (fun r M' e => c_X11_countRest e) rfl rfl ⟨by decide, by decide⟩ (Nat.le_of_ble_eq_true rfl) ⟨Nat.le_of_ble_eq_true rfl, Nat.le_of_ble_eq_true rfl⟩ (fun _ M2 h => ?_)
  refine jr_aload_n hC (D_X11_rest.g 2 rfl) 0 rfl ?_
  refine jr_getR hC fl_X11_66 rfl (D_X11_rest.g 3 rfl) h (fun r3 h => ?_)
  refine jr_cVi hC cl_X11_194 ⟨rfl, by decide⟩ (D_X11_rest.g 4 rfl) [] h (fun r M' e => c_X4_total e) rfl rfl ⟨by decide, by decide⟩ (Nat.le_of_ble_eq_true rfl) ⟨Nat.le_of_ble_eq_true rfl, Nat.le_of_ble_eq_true rfl⟩ (fun v4 M5 h => ?_)
  exact jr_iret hC (D_X11_rest.g 5 rfl) hr hE h
def f_X11_across (th : Nat) (x1 : Int) (M : jMem) : Option (Int × jMem) :=
(jm_gR 11 2 M th).bind fun r1 =>
jcall 8 M r1 (f_X8_isOpen r1 x1 M) fun v2 M3 =>
if jd_wr v2 = 0 then (some ((-1), M3))
else (jcall 11 M3 th (f_X11_countRest th M3) fun _ M5 =>
(jm_gR 11 4 M5 th).bind fun r6 =>
(jm_gR 6 4 M5 r6).bind fun r7 =>
(jm_ld 20 M5 r7 x1).bind fun v8 =>
if jd_wr v8 = jd_wr (-1) then ((jm_gR 11 10 M5 th).bind fun r9 =>
(jm_gR 11 9 M5 th).bind fun r10 =>
jcall 5 M5 r9 (f_X5_share r9 r10 M5) fun _ M12 =>
(jm_gR 11 10 M12 th).bind fun r13 =>
jcall 5 M12 r13 (f_X5_lyingAcross r13 x1 M12) fun v14 M15 =>
some (v14, M15))
else ((jm_gR 11 4 M5 th).bind fun r16 =>
(jm_gR 6 1 M5 r16).bind fun r17 =>
(jm_ld 22 M5 r17 v8).bind fun v18 =>
if jd_wr v18 = 0 then (some (0, M5))
else ((jm_gR 11 9 M5 th).bind fun r19 =>
jcall 4 M5 r19 (f_X4_total r19 M5) fun v20 M21 =>
some (v20, M21))))
theorem D_X11_across : jDs cX11_across [(0, .aload_n 0, 1, 1), (1, .getfield 19, 3, 4), (4, .iload_n 1, 1, 5), (5, .invokevirtual 225, 3, 8), (8, .ifCond .ne 5, 3, 11), (11, .iconst (-1), 1, 12), (12, .ireturn, 1, 13), (13, .aload_n 0, 1, 14), (14, .invokevirtual 222, 3, 17), (17, .aload_n 0, 1, 18), (18, .getfield 38, 3, 21), (21, .getfield 112, 3, 24), (24, .iload_n 1, 1, 25), (25, .iaload, 1, 26), (26, .istore_n 2, 1, 27), (27, .iload_n 2, 1, 28), (28, .iconst (-1), 1, 29), (29, .if_icmp .eq 27, 3, 32), (32, .aload_n 0, 1, 33), (33, .getfield 38, 3, 36), (36, .getfield 132, 3, 39), (39, .iload_n 2, 1, 40), (40, .baload, 1, 41), (41, .ifCond .eq 13, 3, 44), (44, .aload_n 0, 1, 45), (45, .getfield 66, 3, 48), (48, .invokevirtual 194, 3, 51), (51, .goto 4, 3, 54), (54, .iconst 0, 1, 55), (55, .ireturn, 1, 56), (56, .aload_n 0, 1, 57), (57, .getfield 72, 3, 60), (60, .aload_n 0, 1, 61), (61, .getfield 66, 3, 64), (64, .invokevirtual 228, 3, 67), (67, .aload_n 0, 1, 68), (68, .getfield 72, 3, 71), (71, .iload_n 1, 1, 72), (72, .invokevirtual 232, 3, 75), (75, .ireturn, 1, 76)] := by unfold jDs; decide +kernel
set_option maxRecDepth 100000 in
set_option maxHeartbeats 4000000 in
theorem c_X11_across {E : jE} {th : Nat} {x1 : Int} {M : jMem} {r : Int} {M' : jMem} (h : f_X11_across th x1 M = some (r, M')) : jMet E yX11_across cX11_across 3 (some .int) 7 0 0 [q_r E th, q_i x1] M (some (q_i r)) M' := by
  unfold f_X11_across at h
  refine jMet.of RX11 rfl (by decide +kernel) (Nat.le_of_ble_eq_true rfl) [(0, q_r E th), (1, q_i x1)] rfl (fun X hC hE hr hn => ?_)
  refine jr_aload_n hC (D_X11_across.g 0 rfl) 0 rfl ?_
  refine jr_getR hC fl_X11_19 rfl (D_X11_across.g 1 rfl) h (fun r1 h => ?_)
  refine jr_iload_n hC (D_X11_across.g 2 rfl) 1 rfl ?_
  refine jr_cVi hC cl_X11_225 ⟨rfl, by decide⟩ (D_X11_across.g 3 rfl) [q_i x1] h (fun r M' e => c_X8_isOpen e) rfl rfl ⟨by decide, by decide⟩ (Nat.le_of_ble_eq_true rfl) ⟨Nat.le_of_ble_eq_true rfl, Nat.le_of_ble_eq_true rfl⟩ (fun v2 M3 h => ?_)
  refine jr_if_ne hC (D_X11_across.g 4 rfl) 13 rfl h (fun h => ?_) (fun h => ?_)
  · refine jr_iconst hC (D_X11_across.g 5 rfl) ?_
    exact jr_iret hC (D_X11_across.g 6 rfl) hr hE h
  refine jr_aload_n hC (D_X11_across.g 7 rfl) 0 rfl ?_
  refine jr_cVv hC cl_X11_222 ⟨rfl, by decide⟩ (D_X11_across.g 8 rfl) [] h (fun r M' e => c_X11_countRest e) rfl rfl ⟨by decide, by decide⟩ (Nat.le_of_ble_eq_true rfl) ⟨Nat.le_of_ble_eq_true rfl, Nat.le_of_ble_eq_true rfl⟩ (fun _ M5 h => ?_)
  refine jr_aload_n hC (D_X11_across.g 9 rfl) 0 rfl ?_
  refine jr_getR hC fl_X11_38 rfl (D_X11_across.g 10 rfl) h (fun r6 h => ?_)
  refine jr_getR hC fl_X11_112 rfl (D_X11_across.g 11 rfl) h (fun r7 h => ?_)
  refine jr_iload_n hC (D_X11_across.g 12 rfl) 1 rfl ?_
  refine jr_iald hC (D_X11_across.g 13 rfl) h (fun v8 h => ?_)
  refine jr_istore_n hC (D_X11_across.g 14 rfl) (by decide) rfl ?_
  refine jr_iload_n hC (D_X11_across.g 15 rfl) 0 rfl ?_
  refine jr_iconst hC (D_X11_across.g 16 rfl) ?_
  refine jr_icmp_eq hC (D_X11_across.g 17 rfl) 56 rfl h (fun h => ?_) (fun h => ?_)
  · refine jr_aload_n hC (D_X11_across.g 30 rfl) 1 rfl ?_
    refine jr_getR hC fl_X11_72 rfl (D_X11_across.g 31 rfl) h (fun r9 h => ?_)
    refine jr_aload_n hC (D_X11_across.g 32 rfl) 1 rfl ?_
    refine jr_getR hC fl_X11_66 rfl (D_X11_across.g 33 rfl) h (fun r10 h => ?_)
    refine jr_cVv hC cl_X11_228 ⟨rfl, by decide⟩ (D_X11_across.g 34 rfl) [q_r E r10] h (fun r M' e => c_X5_share e) rfl rfl ⟨by decide, by decide⟩ (Nat.le_of_ble_eq_true rfl) ⟨Nat.le_of_ble_eq_true rfl, Nat.le_of_ble_eq_true rfl⟩ (fun _ M12 h => ?_)
    refine jr_aload_n hC (D_X11_across.g 35 rfl) 1 rfl ?_
    refine jr_getR hC fl_X11_72 rfl (D_X11_across.g 36 rfl) h (fun r13 h => ?_)
    refine jr_iload_n hC (D_X11_across.g 37 rfl) 2 rfl ?_
    refine jr_cVi hC cl_X11_232 ⟨rfl, by decide⟩ (D_X11_across.g 38 rfl) [q_i x1] h (fun r M' e => c_X5_lyingAcross e) rfl rfl ⟨by decide, by decide⟩ (Nat.le_of_ble_eq_true rfl) ⟨Nat.le_of_ble_eq_true rfl, Nat.le_of_ble_eq_true rfl⟩ (fun v14 M15 h => ?_)
    exact jr_iret hC (D_X11_across.g 39 rfl) hr hE h
  refine jr_aload_n hC (D_X11_across.g 18 rfl) 1 rfl ?_
  refine jr_getR hC fl_X11_38 rfl (D_X11_across.g 19 rfl) h (fun r16 h => ?_)
  refine jr_getR hC fl_X11_132 rfl (D_X11_across.g 20 rfl) h (fun r17 h => ?_)
  refine jr_iload_n hC (D_X11_across.g 21 rfl) 0 rfl ?_
  refine jr_zald hC (D_X11_across.g 22 rfl) h (fun v18 h => ?_)
  refine jr_if_eq hC (D_X11_across.g 23 rfl) 54 rfl h (fun h => ?_) (fun h => ?_)
  · refine jr_iconst hC (D_X11_across.g 28 rfl) ?_
    exact jr_iret hC (D_X11_across.g 29 rfl) hr hE h
  refine jr_aload_n hC (D_X11_across.g 24 rfl) 1 rfl ?_
  refine jr_getR hC fl_X11_66 rfl (D_X11_across.g 25 rfl) h (fun r19 h => ?_)
  refine jr_cVi hC cl_X11_194 ⟨rfl, by decide⟩ (D_X11_across.g 26 rfl) [] h (fun r M' e => c_X4_total e) rfl rfl ⟨by decide, by decide⟩ (Nat.le_of_ble_eq_true rfl) ⟨Nat.le_of_ble_eq_true rfl, Nat.le_of_ble_eq_true rfl⟩ (fun v20 M21 h => ?_)
  refine jr_goto hC (D_X11_across.g 27 rfl) 55 rfl ?_
  exact jr_iret hC (D_X11_across.g 29 rfl) hr hE h
def f_X11_frozenWith (th : Nat) (x1 : Int) (M : jMem) : Option (Int × jMem) :=
jcall 11 M th (f_X11_isFree th x1 M) fun v1 M2 =>
if jd_wr v1 = 0 then (some ((-2), M2))
else ((jm_gR 11 9 M2 th).bind fun r3 =>
jcall 4 M2 r3 (f_X4_total r3 M2) fun v4 M5 =>
if jd_wr v4 = 0 then (some ((-2), M5))
else ((jm_gR 11 10 M5 th).bind fun r6 =>
(jm_gR 11 9 M5 th).bind fun r7 =>
jcall 5 M5 r6 (f_X5_onlyMate r6 r7 x1 M5) fun v8 M9 =>
if jd_wr v8 = jd_wr (-1) then (some ((-2), M9))
else (some (v8, M9))))
theorem D_X11_frozenWith : jDs cX11_frozenWith [(0, .aload_n 0, 1, 1), (1, .iload_n 1, 1, 2), (2, .invokevirtual 154, 3, 5), (5, .ifCond .eq 13, 3, 8), (8, .aload_n 0, 1, 9), (9, .getfield 66, 3, 12), (12, .invokevirtual 194, 3, 15), (15, .ifCond .ne 6, 3, 18), (18, .bipush (-2), 2, 20), (20, .ireturn, 1, 21), (21, .aload_n 0, 1, 22), (22, .getfield 72, 3, 25), (25, .aload_n 0, 1, 26), (26, .getfield 66, 3, 29), (29, .iload_n 1, 1, 30), (30, .invokevirtual 392, 3, 33), (33, .istore_n 2, 1, 34), (34, .iload_n 2, 1, 35), (35, .iconst (-1), 1, 36), (36, .if_icmp .ne 8, 3, 39), (39, .bipush (-2), 2, 41), (41, .goto 4, 3, 44), (44, .iload_n 2, 1, 45), (45, .ireturn, 1, 46)] := by unfold jDs; decide +kernel
set_option maxRecDepth 100000 in
set_option maxHeartbeats 4000000 in
theorem c_X11_frozenWith {E : jE} {th : Nat} {x1 : Int} {M : jMem} {r : Int} {M' : jMem} (h : f_X11_frozenWith th x1 M = some (r, M')) : jMet E yX11_frozenWith cX11_frozenWith 3 (some .int) 5 0 0 [q_r E th, q_i x1] M (some (q_i r)) M' := by
  unfold f_X11_frozenWith at h
  refine jMet.of RX11 rfl (by decide +kernel) (Nat.le_of_ble_eq_true rfl) [(0, q_r E th), (1, q_i x1)] rfl (fun X hC hE hr hn => ?_)
  refine jr_aload_n hC (D_X11_frozenWith.g 0 rfl) 0 rfl ?_
  refine jr_iload_n hC (D_X11_frozenWith.g 1 rfl) 1 rfl ?_
  refine jr_cVi hC cl_X11_154 ⟨rfl, by decide⟩ (D_X11_frozenWith.g 2 rfl) [q_i x1] h (fun r M' e => c_X11_isFree e) rfl rfl ⟨by decide, by decide⟩ (Nat.le_of_ble_eq_true rfl) ⟨Nat.le_of_ble_eq_true rfl, Nat.le_of_ble_eq_true rfl⟩ (fun v1 M2 h => ?_)
  refine jr_if_eq hC (D_X11_frozenWith.g 3 rfl) 18 rfl h (fun h => ?_) (fun h => ?_)
  · refine jr_bipush hC (D_X11_frozenWith.g 8 rfl) bp_m2 ?_
    exact jr_iret hC (D_X11_frozenWith.g 9 rfl) hr hE h
  refine jr_aload_n hC (D_X11_frozenWith.g 4 rfl) 0 rfl ?_
  refine jr_getR hC fl_X11_66 rfl (D_X11_frozenWith.g 5 rfl) h (fun r3 h => ?_)
  refine jr_cVi hC cl_X11_194 ⟨rfl, by decide⟩ (D_X11_frozenWith.g 6 rfl) [] h (fun r M' e => c_X4_total e) rfl rfl ⟨by decide, by decide⟩ (Nat.le_of_ble_eq_true rfl) ⟨Nat.le_of_ble_eq_true rfl, Nat.le_of_ble_eq_true rfl⟩ (fun v4 M5 h => ?_)
  refine jr_if_ne hC (D_X11_frozenWith.g 7 rfl) 21 rfl h (fun h => ?_) (fun h => ?_)
  · refine jr_bipush hC (D_X11_frozenWith.g 8 rfl) bp_m2 ?_
    exact jr_iret hC (D_X11_frozenWith.g 9 rfl) hr hE h
  refine jr_aload_n hC (D_X11_frozenWith.g 10 rfl) 0 rfl ?_
  refine jr_getR hC fl_X11_72 rfl (D_X11_frozenWith.g 11 rfl) h (fun r6 h => ?_)
  refine jr_aload_n hC (D_X11_frozenWith.g 12 rfl) 0 rfl ?_
  refine jr_getR hC fl_X11_66 rfl (D_X11_frozenWith.g 13 rfl) h (fun r7 h => ?_)
  refine jr_iload_n hC (D_X11_frozenWith.g 14 rfl) 1 rfl ?_
  refine jr_cVi hC cl_X11_392 ⟨rfl, by decide⟩ (D_X11_frozenWith.g 15 rfl) [q_r E r7, q_i x1] h (fun r M' e => c_X5_onlyMate e) rfl rfl ⟨by decide, by decide⟩ (Nat.le_of_ble_eq_true rfl) ⟨Nat.le_of_ble_eq_true rfl, Nat.le_of_ble_eq_true rfl⟩ (fun v8 M9 h => ?_)
  refine jr_istore_n hC (D_X11_frozenWith.g 16 rfl) (by decide) rfl ?_
  refine jr_iload_n hC (D_X11_frozenWith.g 17 rfl) 0 rfl ?_
  refine jr_iconst hC (D_X11_frozenWith.g 18 rfl) ?_
  refine jr_icmp_ne hC (D_X11_frozenWith.g 19 rfl) 44 rfl h (fun h => ?_) (fun h => ?_)
  · refine jr_bipush hC (D_X11_frozenWith.g 20 rfl) bp_m2 ?_
    refine jr_goto hC (D_X11_frozenWith.g 21 rfl) 45 rfl ?_
    exact jr_iret hC (D_X11_frozenWith.g 23 rfl) hr hE h
  refine jr_iload_n hC (D_X11_frozenWith.g 22 rfl) 0 rfl ?_
  exact jr_iret hC (D_X11_frozenWith.g 23 rfl) hr hE h
def f_X11_frozen (th : Nat) (x1 : Int) (M : jMem) : Option (Int × jMem) :=
jjq (fun (M_18 : jMem) =>
jcall 11 M_18 th (f_X11_countRest th M_18) fun _ M2 =>
(jm_gR 11 10 M2 th).bind fun r3 =>
(jm_gR 11 9 M2 th).bind fun r4 =>
jcall 5 M2 r3 (f_X5_share r3 r4 M2) fun _ M6 =>
if jd_wr x1 = jd_wr (-1) then (jlp3 (fun rec_48 (y2_48 : Int) (y3_48 : Int) (M_48 : jMem) =>
(jm_gR 11 2 M_48 th).bind fun r7 =>
jcall 8 M_48 r7 (f_X8_cells r7 M_48) fun v8 M9 =>
if jd_wr y3_48 < jd_wr v8 then (jcall 11 M9 th (f_X11_frozenWith th y3_48 M9) fun v10 M11 =>
jjq (fun (y2_72 : Int) =>
rec_48 y2_72 (y3_48 + 1) M11) fun j_72 =>
if jd_wr v10 = jd_wr (-2) then (j_72 y2_48)
else (j_72 (y2_48 + 1)))
else (some (y2_48, M9))) jfuel 0 0 M6)
else (jcall 11 M6 th (f_X11_frozenWith th x1 M6) fun v12 M13 =>
some (v12, M13))) fun j_18 =>
if jd_wr x1 = jd_wr (-1) then (j_18 M)
else ((jm_gR 11 2 M th).bind fun r14 =>
jcall 8 M r14 (f_X8_hasCell r14 x1 M) fun v15 M16 =>
if jd_wr v15 = 0 then (some ((-1), M16))
else (j_18 M16))
theorem D_X11_frozen : jDs cX11_frozen [(0, .iload_n 1, 1, 1), (1, .iconst (-1), 1, 2), (2, .if_icmp .eq 16, 3, 5), (5, .aload_n 0, 1, 6), (6, .getfield 19, 3, 9), (9, .iload_n 1, 1, 10), (10, .invokevirtual 108, 3, 13), (13, .ifCond .ne 5, 3, 16), (16, .iconst (-1), 1, 17), (17, .ireturn, 1, 18), (18, .aload_n 0, 1, 19), (19, .invokevirtual 222, 3, 22), (22, .aload_n 0, 1, 23), (23, .getfield 72, 3, 26), (26, .aload_n 0, 1, 27), (27, .getfield 66, 3, 30), (30, .invokevirtual 228, 3, 33), (33, .iload_n 1, 1, 34), (34, .iconst (-1), 1, 35), (35, .if_icmp .eq 9, 3, 38), (38, .aload_n 0, 1, 39), (39, .iload_n 1, 1, 40), (40, .invokevirtual 235, 3, 43), (43, .ireturn, 1, 44), (44, .iconst 0, 1, 45), (45, .istore_n 2, 1, 46), (46, .iconst 0, 1, 47), (47, .istore_n 3, 1, 48), (48, .iload_n 3, 1, 49), (49, .aload_n 0, 1, 50), (50, .getfield 19, 3, 53), (53, .invokevirtual 204, 3, 56), (56, .if_icmp .ge 22, 3, 59), (59, .aload_n 0, 1, 60), (60, .iload_n 3, 1, 61), (61, .invokevirtual 235, 3, 64), (64, .bipush (-2), 2, 66), (66, .if_icmp .eq 6, 3, 69), (69, .iinc 2 1, 3, 72), (72, .iinc 3 1, 3, 75), (75, .goto (-27), 3, 78), (78, .iload_n 2, 1, 79), (79, .ireturn, 1, 80)] := by unfold jDs; decide +kernel
set_option maxRecDepth 100000 in
set_option maxHeartbeats 4000000 in
theorem c_X11_frozen {E : jE} {th : Nat} {x1 : Int} {M : jMem} {r : Int} {M' : jMem} (h : f_X11_frozen th x1 M = some (r, M')) : jMet E yX11_frozen cX11_frozen 4 (some .int) 7 0 0 [q_r E th, q_i x1] M (some (q_i r)) M' := by
  unfold f_X11_frozen at h
  refine jMet.of RX11 rfl (by decide +kernel) (Nat.le_of_ble_eq_true rfl) [(0, q_r E th), (1, q_i x1)] rfl (fun X hC hE hr hn => ?_)
  refine jr_iload_n hC (D_X11_frozen.g 0 rfl) 1 rfl ?_
  refine jr_iconst hC (D_X11_frozen.g 1 rfl) ?_
  refine jr_join h (fun j => ∀ (M_18 : jMem), j M_18 = some (r, M') → JW E X 4 0 0 M_18 18 [(0, q_r E th), (1, q_i x1)] []) ?_ ?_
  · intro M_18 h
    refine jr_aload_n hC (D_X11_frozen.g 10 rfl) 0 rfl ?_
    refine jr_cVv hC cl_X11_222 ⟨rfl, by decide⟩ (D_X11_frozen.g 11 rfl) [] h (fun r M' e => c_X11_countRest e) rfl rfl ⟨by decide, by decide⟩ (Nat.le_of_ble_eq_true rfl) ⟨Nat.le_of_ble_eq_true rfl, Nat.le_of_ble_eq_true rfl⟩ (fun _ M2 h => ?_)
    refine jr_aload_n hC (D_X11_frozen.g 12 rfl) 0 rfl ?_
    refine jr_getR hC fl_X11_72 rfl (D_X11_frozen.g 13 rfl) h (fun r3 h => ?_)
    refine jr_aload_n hC (D_X11_frozen.g 14 rfl) 0 rfl ?_
    refine jr_getR hC fl_X11_66 rfl (D_X11_frozen.g 15 rfl) h (fun r4 h => ?_)
    refine jr_cVv hC cl_X11_228 ⟨rfl, by decide⟩ (D_X11_frozen.g 16 rfl) [q_r E r4] h (fun r M' e => c_X5_share e) rfl rfl ⟨by decide, by decide⟩ (Nat.le_of_ble_eq_true rfl) ⟨Nat.le_of_ble_eq_true rfl, Nat.le_of_ble_eq_true rfl⟩ (fun _ M6 h => ?_)
    refine jr_iload_n hC (D_X11_frozen.g 17 rfl) 1 rfl ?_
    refine jr_iconst hC (D_X11_frozen.g 18 rfl) ?_
    refine jr_icmp_eq hC (D_X11_frozen.g 19 rfl) 44 rfl h (fun h => ?_) (fun h => ?_)
    · refine jr_iconst hC (D_X11_frozen.g 24 rfl) ?_
      refine jr_istore_n hC (D_X11_frozen.g 25 rfl) (by decide) rfl ?_
      refine jr_iconst hC (D_X11_frozen.g 26 rfl) ?_
      refine jr_istore_n hC (D_X11_frozen.g 27 rfl) (by decide) rfl ?_
      refine jr_pick [2, 1, 0] rfl ?_
      refine jr_lp3 (fun (y2_48 : Int) (y3_48 : Int) (M_48 : jMem) => JW E X 4 0 0 M_48 48 [(0, q_r E th), (2, q_i y2_48), (3, q_i y3_48)] []) ?_ jfuel 0 0 M6 h
      intro rec_48 hrec_48 y2_48 y3_48 M_48 h
      refine jr_iload_n hC (D_X11_frozen.g 28 rfl) 2 rfl ?_
      refine jr_aload_n hC (D_X11_frozen.g 29 rfl) 0 rfl ?_
      refine jr_getR hC fl_X11_19 rfl (D_X11_frozen.g 30 rfl) h (fun r7 h => ?_)
      refine jr_cVi hC cl_X11_204 ⟨rfl, by decide⟩ (D_X11_frozen.g 31 rfl) [] h (fun r M' e => c_X8_cells e) rfl rfl ⟨by decide, by decide⟩ (Nat.le_of_ble_eq_true rfl) ⟨Nat.le_of_ble_eq_true rfl, Nat.le_of_ble_eq_true rfl⟩ (fun v8 M9 h => ?_)
      refine jr_icmp_ge hC (D_X11_frozen.g 32 rfl) 78 rfl h (fun h => ?_) (fun h => ?_)
      · refine jr_aload_n hC (D_X11_frozen.g 33 rfl) 0 rfl ?_
        refine jr_iload_n hC (D_X11_frozen.g 34 rfl) 2 rfl ?_
        refine jr_cVi hC cl_X11_235 ⟨rfl, by decide⟩ (D_X11_frozen.g 35 rfl) [q_i y3_48] h (fun r M' e => c_X11_frozenWith e) rfl rfl ⟨by decide, by decide⟩ (Nat.le_of_ble_eq_true rfl) ⟨Nat.le_of_ble_eq_true rfl, Nat.le_of_ble_eq_true rfl⟩ (fun v10 M11 h => ?_)
        refine jr_bipush hC (D_X11_frozen.g 36 rfl) bp_m2 ?_
        refine jr_join h (fun j => ∀ (y2_72 : Int), j y2_72 = some (r, M') → JW E X 4 0 0 M11 72 [(0, q_r E th), (2, q_i y2_72), (3, q_i y3_48)] []) ?_ ?_
        · intro y2_72 h
          refine jr_iinc hC (D_X11_frozen.g 39 rfl) 2 rfl (by decide) rfl ?_
          refine jr_goto hC (D_X11_frozen.g 40 rfl) 48 rfl ?_
          refine jr_pick [1, 2, 0] rfl ?_
          exact hrec_48 y2_72 (y3_48 + 1) M11 h
        intro j_72 hj_72 h
        refine jr_icmp_eq hC (D_X11_frozen.g 37 rfl) 72 rfl h (fun h => ?_) (fun h => ?_)
        · exact hj_72 y2_48 h
        refine jr_iinc hC (D_X11_frozen.g 38 rfl) 1 rfl (by decide) rfl ?_
        refine jr_pick [1, 0, 2] rfl ?_
        exact hj_72 (y2_48 + 1) h
      refine jr_iload_n hC (D_X11_frozen.g 41 rfl) 1 rfl ?_
      exact jr_iret hC (D_X11_frozen.g 42 rfl) hr hE h
    refine jr_aload_n hC (D_X11_frozen.g 20 rfl) 0 rfl ?_
    refine jr_iload_n hC (D_X11_frozen.g 21 rfl) 1 rfl ?_
    refine jr_cVi hC cl_X11_235 ⟨rfl, by decide⟩ (D_X11_frozen.g 22 rfl) [q_i x1] h (fun r M' e => c_X11_frozenWith e) rfl rfl ⟨by decide, by decide⟩ (Nat.le_of_ble_eq_true rfl) ⟨Nat.le_of_ble_eq_true rfl, Nat.le_of_ble_eq_true rfl⟩ (fun v12 M13 h => ?_)
    exact jr_iret hC (D_X11_frozen.g 23 rfl) hr hE h
  intro j_18 hj_18 h
  refine jr_icmp_eq hC (D_X11_frozen.g 2 rfl) 18 rfl h (fun h => ?_) (fun h => ?_)
  · exact hj_18 M h
  refine jr_aload_n hC (D_X11_frozen.g 3 rfl) 0 rfl ?_
  refine jr_getR hC fl_X11_19 rfl (D_X11_frozen.g 4 rfl) h (fun r14 h => ?_)
  refine jr_iload_n hC (D_X11_frozen.g 5 rfl) 1 rfl ?_
  refine jr_cVi hC cl_X11_108 ⟨rfl, by decide⟩ (D_X11_frozen.g 6 rfl) [q_i x1] h (fun r M' e => c_X8_hasCell e) rfl rfl ⟨by decide, by decide⟩ (Nat.le_of_ble_eq_true rfl) ⟨Nat.le_of_ble_eq_true rfl, Nat.le_of_ble_eq_true rfl⟩ (fun v15 M16 h => ?_)
  refine jr_if_ne hC (D_X11_frozen.g 7 rfl) 18 rfl h (fun h => ?_) (fun h => ?_)
  · refine jr_iconst hC (D_X11_frozen.g 8 rfl) ?_
    exact jr_iret hC (D_X11_frozen.g 9 rfl) hr hE h
  exact hj_18 M16 h
def f_X11_more (th : Nat) (M : jMem) : Option (Int × jMem) :=
jlp3 (fun rec_4 (y1_4 : Int) (y2_4 : Int) (M_4 : jMem) =>
(jm_gR 11 2 M_4 th).bind fun r1 =>
jcall 8 M_4 r1 (f_X8_cells r1 M_4) fun v2 M3 =>
if jd_wr y2_4 < jd_wr v2 then (jcall 11 M3 th (f_X11_isFree th y2_4 M3) fun v4 M5 =>
jjq (fun (y1_42 : Int) (M_42 : jMem) =>
rec_4 y1_42 (y2_4 + 1) M_42) fun j_42 =>
if jd_wr v4 = 0 then (j_42 y1_4 M5)
else ((jm_gR 11 2 M5 th).bind fun r6 =>
jcall 8 M5 r6 (f_X8_isBlack r6 y2_4 M5) fun v7 M8 =>
jjq (fun (z0_40 : Int) =>
j_42 (y1_4 + z0_40) M8) fun j_40 =>
if jd_wr v7 = 0 then (j_40 (-1))
else (j_40 1)))
else (some (y1_4, M3))) jfuel 0 0 M
theorem D_X11_more : jDs cX11_more [(0, .iconst 0, 1, 1), (1, .istore_n 1, 1, 2), (2, .iconst 0, 1, 3), (3, .istore_n 2, 1, 4), (4, .iload_n 2, 1, 5), (5, .aload_n 0, 1, 6), (6, .getfield 19, 3, 9), (9, .invokevirtual 204, 3, 12), (12, .if_icmp .ge 36, 3, 15), (15, .aload_n 0, 1, 16), (16, .iload_n 2, 1, 17), (17, .invokevirtual 154, 3, 20), (20, .ifCond .eq 22, 3, 23), (23, .iload_n 1, 1, 24), (24, .aload_n 0, 1, 25), (25, .getfield 19, 3, 28), (28, .iload_n 2, 1, 29), (29, .invokevirtual 123, 3, 32), (32, .ifCond .eq 7, 3, 35), (35, .iconst 1, 1, 36), (36, .goto 4, 3, 39), (39, .iconst (-1), 1, 40), (40, .iadd, 1, 41), (41, .istore_n 1, 1, 42), (42, .iinc 2 1, 3, 45), (45, .goto (-41), 3, 48), (48, .iload_n 1, 1, 49), (49, .ireturn, 1, 50)] := by unfold jDs; decide +kernel
set_option maxRecDepth 100000 in
set_option maxHeartbeats 4000000 in
theorem c_X11_more {E : jE} {th : Nat} {M : jMem} {r : Int} {M' : jMem} (h : f_X11_more th M = some (r, M')) : jMet E yX11_more cX11_more 3 (some .int) 5 0 0 [q_r E th] M (some (q_i r)) M' := by
  unfold f_X11_more at h
  refine jMet.of RX11 rfl (by decide +kernel) (Nat.le_of_ble_eq_true rfl) [(0, q_r E th)] rfl (fun X hC hE hr hn => ?_)
  refine jr_iconst hC (D_X11_more.g 0 rfl) ?_
  refine jr_istore_n hC (D_X11_more.g 1 rfl) (by decide) rfl ?_
  refine jr_iconst hC (D_X11_more.g 2 rfl) ?_
  refine jr_istore_n hC (D_X11_more.g 3 rfl) (by decide) rfl ?_
  refine jr_pick [2, 1, 0] rfl ?_
  refine jr_lp3 (fun (y1_4 : Int) (y2_4 : Int) (M_4 : jMem) => JW E X 3 0 0 M_4 4 [(0, q_r E th), (1, q_i y1_4), (2, q_i y2_4)] []) ?_ jfuel 0 0 M h
  intro rec_4 hrec_4 y1_4 y2_4 M_4 h
  refine jr_iload_n hC (D_X11_more.g 4 rfl) 2 rfl ?_
  refine jr_aload_n hC (D_X11_more.g 5 rfl) 0 rfl ?_
  refine jr_getR hC fl_X11_19 rfl (D_X11_more.g 6 rfl) h (fun r1 h => ?_)
  refine jr_cVi hC cl_X11_204 ⟨rfl, by decide⟩ (D_X11_more.g 7 rfl) [] h (fun r M' e => c_X8_cells e) rfl rfl ⟨by decide, by decide⟩ (Nat.le_of_ble_eq_true rfl) ⟨Nat.le_of_ble_eq_true rfl, Nat.le_of_ble_eq_true rfl⟩ (fun v2 M3 h => ?_)
  refine jr_icmp_ge hC (D_X11_more.g 8 rfl) 48 rfl h (fun h => ?_) (fun h => ?_)
  · refine jr_aload_n hC (D_X11_more.g 9 rfl) 0 rfl ?_
    refine jr_iload_n hC (D_X11_more.g 10 rfl) 2 rfl ?_
    refine jr_cVi hC cl_X11_154 ⟨rfl, by decide⟩ (D_X11_more.g 11 rfl) [q_i y2_4] h (fun r M' e => c_X11_isFree e) rfl rfl ⟨by decide, by decide⟩ (Nat.le_of_ble_eq_true rfl) ⟨Nat.le_of_ble_eq_true rfl, Nat.le_of_ble_eq_true rfl⟩ (fun v4 M5 h => ?_)
    refine jr_join h (fun j => ∀ (y1_42 : Int) (M_42 : jMem), j y1_42 M_42 = some (r, M') → JW E X 3 0 0 M_42 42 [(0, q_r E th), (1, q_i y1_42), (2, q_i y2_4)] []) ?_ ?_
    · intro y1_42 M_42 h
      refine jr_iinc hC (D_X11_more.g 24 rfl) 2 rfl (by decide) rfl ?_
      refine jr_goto hC (D_X11_more.g 25 rfl) 4 rfl ?_
      refine jr_pick [1, 2, 0] rfl ?_
      exact hrec_4 y1_42 (y2_4 + 1) M_42 h
    intro j_42 hj_42 h
    refine jr_if_eq hC (D_X11_more.g 12 rfl) 42 rfl h (fun h => ?_) (fun h => ?_)
    · exact hj_42 y1_4 M5 h
    refine jr_iload_n hC (D_X11_more.g 13 rfl) 1 rfl ?_
    refine jr_aload_n hC (D_X11_more.g 14 rfl) 0 rfl ?_
    refine jr_getR hC fl_X11_19 rfl (D_X11_more.g 15 rfl) h (fun r6 h => ?_)
    refine jr_iload_n hC (D_X11_more.g 16 rfl) 2 rfl ?_
    refine jr_cVi hC cl_X11_123 ⟨rfl, by decide⟩ (D_X11_more.g 17 rfl) [q_i y2_4] h (fun r M' e => c_X8_isBlack e) rfl rfl ⟨by decide, by decide⟩ (Nat.le_of_ble_eq_true rfl) ⟨Nat.le_of_ble_eq_true rfl, Nat.le_of_ble_eq_true rfl⟩ (fun v7 M8 h => ?_)
    refine jr_join h (fun j => ∀ (z0_40 : Int), j z0_40 = some (r, M') → JW E X 3 0 0 M8 40 [(0, q_r E th), (2, q_i y2_4)] [q_i z0_40, q_i y1_4]) ?_ ?_
    · intro z0_40 h
      refine jr_iadd hC (D_X11_more.g 22 rfl) ?_
      refine jr_istore_n hC (D_X11_more.g 23 rfl) (by decide) rfl ?_
      refine jr_pick [1, 0, 2] rfl ?_
      exact hj_42 (y1_4 + z0_40) M8 h
    intro j_40 hj_40 h
    refine jr_if_eq hC (D_X11_more.g 18 rfl) 39 rfl h (fun h => ?_) (fun h => ?_)
    · refine jr_iconst hC (D_X11_more.g 21 rfl) ?_
      refine jr_pick [0, 2] rfl ?_
      exact hj_40 (-1) h
    refine jr_iconst hC (D_X11_more.g 19 rfl) ?_
    refine jr_goto hC (D_X11_more.g 20 rfl) 40 rfl ?_
    refine jr_pick [0, 2] rfl ?_
    exact hj_40 1 h
  refine jr_iload_n hC (D_X11_more.g 26 rfl) 1 rfl ?_
  exact jr_iret hC (D_X11_more.g 27 rfl) hr hE h
def f_X11_shortBy (th : Nat) (M : jMem) : Option (Int × jMem) :=
jcall 11 M th (f_X11_closeHolesAndStones th M) fun _ M2 =>
(jm_gR 11 11 M2 th).bind fun r3 =>
(jm_gR 11 9 M2 th).bind fun r4 =>
jcall 0 M2 r3 (f_X0_fewestClosed r3 r4 M2) fun v5 M6 =>
some (v5, M6)
theorem D_X11_shortBy : jDs cX11_shortBy [(0, .aload_n 0, 1, 1), (1, .invokevirtual 238, 3, 4), (4, .aload_n 0, 1, 5), (5, .getfield 79, 3, 8), (8, .aload_n 0, 1, 9), (9, .getfield 66, 3, 12), (12, .invokevirtual 241, 3, 15), (15, .ireturn, 1, 16)] := by unfold jDs; decide +kernel
set_option maxRecDepth 100000 in
set_option maxHeartbeats 4000000 in
theorem c_X11_shortBy {E : jE} {th : Nat} {M : jMem} {r : Int} {M' : jMem} (h : f_X11_shortBy th M = some (r, M')) : jMet E yX11_shortBy cX11_shortBy 1 (some .int) 6 0 0 [q_r E th] M (some (q_i r)) M' := by
  unfold f_X11_shortBy at h
  refine jMet.of RX11 rfl (by decide +kernel) (Nat.le_of_ble_eq_true rfl) [(0, q_r E th)] rfl (fun X hC hE hr hn => ?_)
  refine jr_aload_n hC (D_X11_shortBy.g 0 rfl) 0 rfl ?_
  refine jr_cVv hC cl_X11_238 ⟨rfl, by decide⟩ (D_X11_shortBy.g 1 rfl) [] h (fun r M' e => c_X11_closeHolesAndStones e) rfl rfl ⟨by decide, by decide⟩ (Nat.le_of_ble_eq_true rfl) ⟨Nat.le_of_ble_eq_true rfl, Nat.le_of_ble_eq_true rfl⟩ (fun _ M2 h => ?_)
  refine jr_aload_n hC (D_X11_shortBy.g 2 rfl) 0 rfl ?_
  refine jr_getR hC fl_X11_79 rfl (D_X11_shortBy.g 3 rfl) h (fun r3 h => ?_)
  refine jr_aload_n hC (D_X11_shortBy.g 4 rfl) 0 rfl ?_
  refine jr_getR hC fl_X11_66 rfl (D_X11_shortBy.g 5 rfl) h (fun r4 h => ?_)
  refine jr_cVi hC cl_X11_241 ⟨rfl, by decide⟩ (D_X11_shortBy.g 6 rfl) [q_r E r4] h (fun r M' e => c_X0_fewestClosed e) rfl rfl ⟨by decide, by decide⟩ (Nat.le_of_ble_eq_true rfl) ⟨Nat.le_of_ble_eq_true rfl, Nat.le_of_ble_eq_true rfl⟩ (fun v5 M6 h => ?_)
  exact jr_iret hC (D_X11_shortBy.g 7 rfl) hr hE h
def f_X11_freeCells (th : Nat) (M : jMem) : Option (Int × jMem) :=
(jm_gR 11 2 M th).bind fun r1 =>
jcall 8 M r1 (f_X8_cells r1 M) fun v2 M3 =>
(jm_gR 11 2 M3 th).bind fun r4 =>
(jm_gI 8 3 M3 r4).bind fun v5 =>
(jm_gR 11 4 M3 th).bind fun r6 =>
(jm_gI 6 6 M3 r6).bind fun v7 =>
some (((v2 - v5) - (2 * v7)), M3)
theorem D_X11_freeCells : jDs cX11_freeCells [(0, .aload_n 0, 1, 1), (1, .getfield 19, 3, 4), (4, .invokevirtual 204, 3, 7), (7, .aload_n 0, 1, 8), (8, .getfield 19, 3, 11), (11, .getfield 147, 3, 14), (14, .isub, 1, 15), (15, .iconst 2, 1, 16), (16, .aload_n 0, 1, 17), (17, .getfield 38, 3, 20), (20, .getfield 295, 3, 23), (23, .imul, 1, 24), (24, .isub, 1, 25), (25, .ireturn, 1, 26)] := by unfold jDs; decide +kernel
set_option maxRecDepth 100000 in
set_option maxHeartbeats 4000000 in
theorem c_X11_freeCells {E : jE} {th : Nat} {M : jMem} {r : Int} {M' : jMem} (h : f_X11_freeCells th M = some (r, M')) : jMet E yX11_freeCells cX11_freeCells 1 (some .int) 3 0 0 [q_r E th] M (some (q_i r)) M' := by
  unfold f_X11_freeCells at h
  refine jMet.of RX11 rfl (by decide +kernel) (Nat.le_of_ble_eq_true rfl) [(0, q_r E th)] rfl (fun X hC hE hr hn => ?_)
  refine jr_aload_n hC (D_X11_freeCells.g 0 rfl) 0 rfl ?_
  refine jr_getR hC fl_X11_19 rfl (D_X11_freeCells.g 1 rfl) h (fun r1 h => ?_)
  refine jr_cVi hC cl_X11_204 ⟨rfl, by decide⟩ (D_X11_freeCells.g 2 rfl) [] h (fun r M' e => c_X8_cells e) rfl rfl ⟨by decide, by decide⟩ (Nat.le_of_ble_eq_true rfl) ⟨Nat.le_of_ble_eq_true rfl, Nat.le_of_ble_eq_true rfl⟩ (fun v2 M3 h => ?_)
  refine jr_aload_n hC (D_X11_freeCells.g 3 rfl) 0 rfl ?_
  refine jr_getR hC fl_X11_19 rfl (D_X11_freeCells.g 4 rfl) h (fun r4 h => ?_)
  refine jr_getI hC fl_X11_147 rfl (D_X11_freeCells.g 5 rfl) h (fun v5 h => ?_)
  refine jr_isub hC (D_X11_freeCells.g 6 rfl) ?_
  refine jr_iconst hC (D_X11_freeCells.g 7 rfl) ?_
  refine jr_aload_n hC (D_X11_freeCells.g 8 rfl) 0 rfl ?_
  refine jr_getR hC fl_X11_38 rfl (D_X11_freeCells.g 9 rfl) h (fun r6 h => ?_)
  refine jr_getI hC fl_X11_295 rfl (D_X11_freeCells.g 10 rfl) h (fun v7 h => ?_)
  refine jr_imul hC (D_X11_freeCells.g 11 rfl) ?_
  refine jr_isub hC (D_X11_freeCells.g 12 rfl) ?_
  exact jr_iret hC (D_X11_freeCells.g 13 rfl) hr hE h
def f_X11_isPaved (th : Nat) (M : jMem) : Option (Int × jMem) :=
jcall 11 M th (f_X11_freeCells th M) fun v1 M2 =>
if jd_wr v1 = 0 then (jm_z 1 M2)
else (jm_z 0 M2)
theorem D_X11_isPaved : jDs cX11_isPaved [(0, .aload_n 0, 1, 1), (1, .invokevirtual 347, 3, 4), (4, .ifCond .ne 7, 3, 7), (7, .iconst 1, 1, 8), (8, .goto 4, 3, 11), (11, .iconst 0, 1, 12), (12, .ireturn, 1, 13)] := by unfold jDs; decide +kernel
set_option maxRecDepth 100000 in
set_option maxHeartbeats 4000000 in
theorem c_X11_isPaved {E : jE} {th : Nat} {M : jMem} {r : Int} {M' : jMem} (h : f_X11_isPaved th M = some (r, M')) : jMet E yX11_isPaved cX11_isPaved 1 (some .boolean) 4 0 0 [q_r E th] M (some (q_i r)) M' := by
  unfold f_X11_isPaved at h
  refine jMet.of RX11 rfl (by decide +kernel) (Nat.le_of_ble_eq_true rfl) [(0, q_r E th)] rfl (fun X hC hE hr hn => ?_)
  refine jr_aload_n hC (D_X11_isPaved.g 0 rfl) 0 rfl ?_
  refine jr_cVi hC cl_X11_347 ⟨rfl, by decide⟩ (D_X11_isPaved.g 1 rfl) [] h (fun r M' e => c_X11_freeCells e) rfl rfl ⟨by decide, by decide⟩ (Nat.le_of_ble_eq_true rfl) ⟨Nat.le_of_ble_eq_true rfl, Nat.le_of_ble_eq_true rfl⟩ (fun v1 M2 h => ?_)
  refine jr_if_ne hC (D_X11_isPaved.g 2 rfl) 11 rfl h (fun h => ?_) (fun h => ?_)
  · refine jr_iconst hC (D_X11_isPaved.g 3 rfl) ?_
    refine jr_goto hC (D_X11_isPaved.g 4 rfl) 12 rfl ?_
    exact jr_zret hC (D_X11_isPaved.g 6 rfl) hr hE h
  refine jr_iconst hC (D_X11_isPaved.g 5 rfl) ?_
  exact jr_zret hC (D_X11_isPaved.g 6 rfl) hr hE h
def f_X11_traceNow (th : Nat) (M : jMem) : Option (Int × jMem) :=
(jm_gR 11 12 M th).bind fun r1 =>
jbd (f_J7_fill_53178 r1 0 M) fun _ M3 =>
jlp2 (fun rec_10 (y1_10 : Int) (M_10 : jMem) =>
if jd_wr y1_10 < jd_wr 18 then ((jm_gR 11 4 M_10 th).bind fun r4 =>
jcall 6 M_10 r4 (f_X6_lies r4 y1_10 M_10) fun v5 M6 =>
jjq (fun (M_59 : jMem) =>
rec_10 (y1_10 + 1) M_59) fun j_59 =>
if jd_wr v5 = 0 then (j_59 M6)
else ((jm_gR 11 4 M6 th).bind fun r7 =>
(jm_gR 6 1 M6 r7).bind fun r8 =>
(jm_ld 22 M6 r8 y1_10).bind fun v9 =>
if jd_wr v9 = 0 then ((jm_gR 11 8 M6 th).bind fun r10 =>
(jm_gR 11 12 M6 th).bind fun r11 =>
(jm_gR 11 4 M6 th).bind fun r12 =>
(jm_gR 6 0 M6 r12).bind fun r13 =>
(jm_ld 20 M6 r13 y1_10).bind fun v14 =>
jcall 4 M6 r10 (f_X4_drawDown r10 r11 v14 M6) fun _ M16 =>
j_59 M16)
else (j_59 M6)))
else (some (0, M_10))) jfuel 0 M3
theorem D_X11_traceNow : jDs cX11_traceNow [(0, .aload_n 0, 1, 1), (1, .getfield 83, 3, 4), (4, .iconst 0, 1, 5), (5, .invokestatic 396, 3, 8), (8, .iconst 0, 1, 9), (9, .istore_n 1, 1, 10), (10, .iload_n 1, 1, 11), (11, .bipush 18, 2, 13), (13, .if_icmp .ge 52, 3, 16), (16, .aload_n 0, 1, 17), (17, .getfield 38, 3, 20), (20, .iload_n 1, 1, 21), (21, .invokevirtual 126, 3, 24), (24, .ifCond .eq 35, 3, 27), (27, .aload_n 0, 1, 28), (28, .getfield 38, 3, 31), (31, .getfield 132, 3, 34), (34, .iload_n 1, 1, 35), (35, .baload, 1, 36), (36, .ifCond .ne 23, 3, 39), (39, .aload_n 0, 1, 40), (40, .getfield 62, 3, 43), (43, .aload_n 0, 1, 44), (44, .getfield 83, 3, 47), (47, .aload_n 0, 1, 48), (48, .getfield 38, 3, 51), (51, .getfield 129, 3, 54), (54, .iload_n 1, 1, 55), (55, .iaload, 1, 56), (56, .invokevirtual 402, 3, 59), (59, .iinc 1 1, 3, 62), (62, .goto (-52), 3, 65), (65, .return_, 1, 66)] := by unfold jDs; decide +kernel
set_option maxRecDepth 100000 in
set_option maxHeartbeats 4000000 in
theorem c_X11_traceNow {E : jE} {th : Nat} {M : jMem} {r : Int} {M' : jMem} (h : f_X11_traceNow th M = some (r, M')) : jMet E yX11_traceNow cX11_traceNow 2 (none) 4 0 0 [q_r E th] M (none) M' := by
  unfold f_X11_traceNow at h
  refine jMet.of RX11 rfl (by decide +kernel) (Nat.le_of_ble_eq_true rfl) [(0, q_r E th)] rfl (fun X hC hE hr hn => ?_)
  refine jr_aload_n hC (D_X11_traceNow.g 0 rfl) 0 rfl ?_
  refine jr_getR hC fl_X11_83 rfl (D_X11_traceNow.g 1 rfl) h (fun r1 h => ?_)
  refine jr_iconst hC (D_X11_traceNow.g 2 rfl) ?_
  refine jr_cSv hC cl_X11_396 (D_X11_traceNow.g 3 rfl) [q_r E r1, q_i 0] h (fun r M' e => c_J7_fill_53178 e) rfl rfl ⟨by decide, by decide⟩ (Nat.le_of_ble_eq_true rfl) ⟨Nat.le_of_ble_eq_true rfl, Nat.le_of_ble_eq_true rfl⟩ (fun _ M3 h => ?_)
  refine jr_iconst hC (D_X11_traceNow.g 4 rfl) ?_
  refine jr_istore_n hC (D_X11_traceNow.g 5 rfl) (by decide) rfl ?_
  refine jr_pick [1, 0] rfl ?_
  refine jr_lp2 (fun (y1_10 : Int) (M_10 : jMem) => JW E X 2 0 0 M_10 10 [(0, q_r E th), (1, q_i y1_10)] []) ?_ jfuel 0 M3 h
  intro rec_10 hrec_10 y1_10 M_10 h
  refine jr_iload_n hC (D_X11_traceNow.g 6 rfl) 1 rfl ?_
  refine jr_bipush hC (D_X11_traceNow.g 7 rfl) bp_18 ?_
  refine jr_icmp_ge hC (D_X11_traceNow.g 8 rfl) 65 rfl h (fun h => ?_) (fun h => ?_)
  · refine jr_aload_n hC (D_X11_traceNow.g 9 rfl) 0 rfl ?_
    refine jr_getR hC fl_X11_38 rfl (D_X11_traceNow.g 10 rfl) h (fun r4 h => ?_)
    refine jr_iload_n hC (D_X11_traceNow.g 11 rfl) 1 rfl ?_
    refine jr_cVi hC cl_X11_126 ⟨rfl, by decide⟩ (D_X11_traceNow.g 12 rfl) [q_i y1_10] h (fun r M' e => c_X6_lies e) rfl rfl ⟨by decide, by decide⟩ (Nat.le_of_ble_eq_true rfl) ⟨Nat.le_of_ble_eq_true rfl, Nat.le_of_ble_eq_true rfl⟩ (fun v5 M6 h => ?_)
    refine jr_join h (fun j => ∀ (M_59 : jMem), j M_59 = some (r, M') → JW E X 2 0 0 M_59 59 [(0, q_r E th), (1, q_i y1_10)] []) ?_ ?_
    · intro M_59 h
      refine jr_iinc hC (D_X11_traceNow.g 30 rfl) 1 rfl (by decide) rfl ?_
      refine jr_goto hC (D_X11_traceNow.g 31 rfl) 10 rfl ?_
      refine jr_pick [1, 0] rfl ?_
      exact hrec_10 (y1_10 + 1) M_59 h
    intro j_59 hj_59 h
    refine jr_if_eq hC (D_X11_traceNow.g 13 rfl) 59 rfl h (fun h => ?_) (fun h => ?_)
    · exact hj_59 M6 h
    refine jr_aload_n hC (D_X11_traceNow.g 14 rfl) 0 rfl ?_
    refine jr_getR hC fl_X11_38 rfl (D_X11_traceNow.g 15 rfl) h (fun r7 h => ?_)
    refine jr_getR hC fl_X11_132 rfl (D_X11_traceNow.g 16 rfl) h (fun r8 h => ?_)
    refine jr_iload_n hC (D_X11_traceNow.g 17 rfl) 1 rfl ?_
    refine jr_zald hC (D_X11_traceNow.g 18 rfl) h (fun v9 h => ?_)
    refine jr_if_ne hC (D_X11_traceNow.g 19 rfl) 59 rfl h (fun h => ?_) (fun h => ?_)
    · refine jr_aload_n hC (D_X11_traceNow.g 20 rfl) 0 rfl ?_
      refine jr_getR hC fl_X11_62 rfl (D_X11_traceNow.g 21 rfl) h (fun r10 h => ?_)
      refine jr_aload_n hC (D_X11_traceNow.g 22 rfl) 0 rfl ?_
      refine jr_getR hC fl_X11_83 rfl (D_X11_traceNow.g 23 rfl) h (fun r11 h => ?_)
      refine jr_aload_n hC (D_X11_traceNow.g 24 rfl) 0 rfl ?_
      refine jr_getR hC fl_X11_38 rfl (D_X11_traceNow.g 25 rfl) h (fun r12 h => ?_)
      refine jr_getR hC fl_X11_129 rfl (D_X11_traceNow.g 26 rfl) h (fun r13 h => ?_)
      refine jr_iload_n hC (D_X11_traceNow.g 27 rfl) 1 rfl ?_
      refine jr_iald hC (D_X11_traceNow.g 28 rfl) h (fun v14 h => ?_)
      refine jr_cVv hC cl_X11_402 ⟨rfl, by decide⟩ (D_X11_traceNow.g 29 rfl) [q_r E r11, q_i v14] h (fun r M' e => c_X4_drawDown e) rfl rfl ⟨by decide, by decide⟩ (Nat.le_of_ble_eq_true rfl) ⟨Nat.le_of_ble_eq_true rfl, Nat.le_of_ble_eq_true rfl⟩ (fun _ M16 h => ?_)
      exact hj_59 M16 h
    exact hj_59 M6 h
  exact jr_vret hC (D_X11_traceNow.g 32 rfl) hr hE h
def f_X11_rank (th : Nat) (M : jMem) : Option (Int × jMem) :=
jcall 11 M th (f_X11_isPaved th M) fun v1 M2 =>
if jd_wr v1 = 0 then (some ((-2), M2))
else (jcall 11 M2 th (f_X11_traceNow th M2) fun _ M4 =>
(jm_gR 11 8 M4 th).bind fun r5 =>
(jm_gR 11 12 M4 th).bind fun r6 =>
jcall 4 M4 r5 (f_X4_numberOf r5 r6 M4) fun v7 M8 =>
some (v7, M8))
theorem D_X11_rank : jDs cX11_rank [(0, .aload_n 0, 1, 1), (1, .invokevirtual 245, 3, 4), (4, .ifCond .ne 6, 3, 7), (7, .bipush (-2), 2, 9), (9, .ireturn, 1, 10), (10, .aload_n 0, 1, 11), (11, .invokevirtual 249, 3, 14), (14, .aload_n 0, 1, 15), (15, .getfield 62, 3, 18), (18, .aload_n 0, 1, 19), (19, .getfield 83, 3, 22), (22, .invokevirtual 252, 3, 25), (25, .ireturn, 1, 26)] := by unfold jDs; decide +kernel
set_option maxRecDepth 100000 in
set_option maxHeartbeats 4000000 in
theorem c_X11_rank {E : jE} {th : Nat} {M : jMem} {r : Int} {M' : jMem} (h : f_X11_rank th M = some (r, M')) : jMet E yX11_rank cX11_rank 1 (some .int) 5 0 0 [q_r E th] M (some (q_i r)) M' := by
  unfold f_X11_rank at h
  refine jMet.of RX11 rfl (by decide +kernel) (Nat.le_of_ble_eq_true rfl) [(0, q_r E th)] rfl (fun X hC hE hr hn => ?_)
  refine jr_aload_n hC (D_X11_rank.g 0 rfl) 0 rfl ?_
  refine jr_cVi hC cl_X11_245 ⟨rfl, by decide⟩ (D_X11_rank.g 1 rfl) [] h (fun r M' e => c_X11_isPaved e) rfl rfl ⟨by decide, by decide⟩ (Nat.le_of_ble_eq_true rfl) ⟨Nat.le_of_ble_eq_true rfl, Nat.le_of_ble_eq_true rfl⟩ (fun v1 M2 h => ?_)
  refine jr_if_ne hC (D_X11_rank.g 2 rfl) 10 rfl h (fun h => ?_) (fun h => ?_)
  · refine jr_bipush hC (D_X11_rank.g 3 rfl) bp_m2 ?_
    exact jr_iret hC (D_X11_rank.g 4 rfl) hr hE h
  refine jr_aload_n hC (D_X11_rank.g 5 rfl) 0 rfl ?_
  refine jr_cVv hC cl_X11_249 ⟨rfl, by decide⟩ (D_X11_rank.g 6 rfl) [] h (fun r M' e => c_X11_traceNow e) rfl rfl ⟨by decide, by decide⟩ (Nat.le_of_ble_eq_true rfl) ⟨Nat.le_of_ble_eq_true rfl, Nat.le_of_ble_eq_true rfl⟩ (fun _ M4 h => ?_)
  refine jr_aload_n hC (D_X11_rank.g 7 rfl) 0 rfl ?_
  refine jr_getR hC fl_X11_62 rfl (D_X11_rank.g 8 rfl) h (fun r5 h => ?_)
  refine jr_aload_n hC (D_X11_rank.g 9 rfl) 0 rfl ?_
  refine jr_getR hC fl_X11_83 rfl (D_X11_rank.g 10 rfl) h (fun r6 h => ?_)
  refine jr_cVi hC cl_X11_252 ⟨rfl, by decide⟩ (D_X11_rank.g 11 rfl) [q_r E r6] h (fun r M' e => c_X4_numberOf e) rfl rfl ⟨by decide, by decide⟩ (Nat.le_of_ble_eq_true rfl) ⟨Nat.le_of_ble_eq_true rfl, Nat.le_of_ble_eq_true rfl⟩ (fun v7 M8 h => ?_)
  exact jr_iret hC (D_X11_rank.g 12 rfl) hr hE h
def f_X11_hasHills (th : Nat) (M : jMem) : Option (Int × jMem) :=
(jm_gR 11 2 M th).bind fun r1 =>
(jm_gI 8 3 M r1).bind fun v2 =>
jjq (fun (M_21 : jMem) =>
jm_z 0 M_21) fun j_21 =>
if jd_wr v2 = 0 then (jcall 11 M th (f_X11_isPaved th M) fun v3 M4 =>
if jd_wr v3 = 0 then (j_21 M4)
else (jm_z 1 M4))
else (j_21 M)
theorem D_X11_hasHills : jDs cX11_hasHills [(0, .aload_n 0, 1, 1), (1, .getfield 19, 3, 4), (4, .getfield 147, 3, 7), (7, .ifCond .ne 14, 3, 10), (10, .aload_n 0, 1, 11), (11, .invokevirtual 245, 3, 14), (14, .ifCond .eq 7, 3, 17), (17, .iconst 1, 1, 18), (18, .goto 4, 3, 21), (21, .iconst 0, 1, 22), (22, .ireturn, 1, 23)] := by unfold jDs; decide +kernel
set_option maxRecDepth 100000 in
set_option maxHeartbeats 4000000 in
theorem c_X11_hasHills {E : jE} {th : Nat} {M : jMem} {r : Int} {M' : jMem} (h : f_X11_hasHills th M = some (r, M')) : jMet E yX11_hasHills cX11_hasHills 1 (some .boolean) 5 0 0 [q_r E th] M (some (q_i r)) M' := by
  unfold f_X11_hasHills at h
  refine jMet.of RX11 rfl (by decide +kernel) (Nat.le_of_ble_eq_true rfl) [(0, q_r E th)] rfl (fun X hC hE hr hn => ?_)
  refine jr_aload_n hC (D_X11_hasHills.g 0 rfl) 0 rfl ?_
  refine jr_getR hC fl_X11_19 rfl (D_X11_hasHills.g 1 rfl) h (fun r1 h => ?_)
  refine jr_getI hC fl_X11_147 rfl (D_X11_hasHills.g 2 rfl) h (fun v2 h => ?_)
  refine jr_join h (fun j => ∀ (M_21 : jMem), j M_21 = some (r, M') → JW E X 1 0 0 M_21 21 [] []) ?_ ?_
  · intro M_21 h
    refine jr_iconst hC (D_X11_hasHills.g 9 rfl) ?_
    exact jr_zret hC (D_X11_hasHills.g 10 rfl) hr hE h
  intro j_21 hj_21 h
  refine jr_if_ne hC (D_X11_hasHills.g 3 rfl) 21 rfl h (fun h => ?_) (fun h => ?_)
  · refine jr_aload_n hC (D_X11_hasHills.g 4 rfl) 0 rfl ?_
    refine jr_cVi hC cl_X11_245 ⟨rfl, by decide⟩ (D_X11_hasHills.g 5 rfl) [] h (fun r M' e => c_X11_isPaved e) rfl rfl ⟨by decide, by decide⟩ (Nat.le_of_ble_eq_true rfl) ⟨Nat.le_of_ble_eq_true rfl, Nat.le_of_ble_eq_true rfl⟩ (fun v3 M4 h => ?_)
    refine jr_if_eq hC (D_X11_hasHills.g 6 rfl) 21 rfl h (fun h => ?_) (fun h => ?_)
    · refine jr_pick [] rfl ?_
      exact hj_21 M4 h
    refine jr_iconst hC (D_X11_hasHills.g 7 rfl) ?_
    refine jr_goto hC (D_X11_hasHills.g 8 rfl) 22 rfl ?_
    exact jr_zret hC (D_X11_hasHills.g 10 rfl) hr hE h
  refine jr_pick [] rfl ?_
  exact hj_21 M h
def f_X11_hill (th : Nat) (x1 : Int) (x2 : Int) (M : jMem) : Option (Int × jMem) :=
jcall 11 M th (f_X11_hasHills th M) fun v1 M2 =>
if jd_wr v1 = 0 then (some ((-100), M2))
else (if jd_wr x1 < 0 then (some ((-100), M2))
else ((jm_gR 11 2 M2 th).bind fun r3 =>
(jm_gI 8 0 M2 r3).bind fun v4 =>
if jd_wr x1 ≤ jd_wr v4 then (if jd_wr x2 < 0 then (some ((-100), M2))
else ((jm_gR 11 2 M2 th).bind fun r5 =>
(jm_gI 8 1 M2 r5).bind fun v6 =>
if jd_wr x2 ≤ jd_wr v6 then (jcall 11 M2 th (f_X11_traceNow th M2) fun _ M8 =>
(jm_gR 11 11 M8 th).bind fun r9 =>
(jm_gR 11 8 M8 th).bind fun r10 =>
(jm_gR 11 12 M8 th).bind fun r11 =>
(jm_ld 20 M8 r11 x2).bind fun v12 =>
jcall 0 M8 r9 (f_X0_hillAt r9 r10 x1 x2 v12 M8) fun v13 M14 =>
some (v13, M14))
else (some ((-100), M2))))
else (some ((-100), M2))))
theorem D_X11_hill : jDs cX11_hill [(0, .aload_n 0, 1, 1), (1, .invokevirtual 256, 3, 4), (4, .ifCond .eq 33, 3, 7), (7, .iload_n 1, 1, 8), (8, .ifCond .lt 29, 3, 11), (11, .iload_n 1, 1, 12), (12, .aload_n 0, 1, 13), (13, .getfield 19, 3, 16), (16, .getfield 167, 3, 19), (19, .if_icmp .gt 18, 3, 22), (22, .iload_n 2, 1, 23), (23, .ifCond .lt 14, 3, 26), (26, .iload_n 2, 1, 27), (27, .aload_n 0, 1, 28), (28, .getfield 19, 3, 31), (31, .getfield 259, 3, 34), (34, .if_icmp .le 6, 3, 37), (37, .bipush (-100), 2, 39), (39, .ireturn, 1, 40), (40, .aload_n 0, 1, 41), (41, .invokevirtual 249, 3, 44), (44, .aload_n 0, 1, 45), (45, .getfield 79, 3, 48), (48, .aload_n 0, 1, 49), (49, .getfield 62, 3, 52), (52, .iload_n 1, 1, 53), (53, .iload_n 2, 1, 54), (54, .aload_n 0, 1, 55), (55, .getfield 83, 3, 58), (58, .iload_n 2, 1, 59), (59, .iaload, 1, 60), (60, .invokevirtual 262, 3, 63), (63, .ireturn, 1, 64)] := by unfold jDs; decide +kernel
set_option maxRecDepth 100000 in
set_option maxHeartbeats 4000000 in
theorem c_X11_hill {E : jE} {th : Nat} {x1 : Int} {x2 : Int} {M : jMem} {r : Int} {M' : jMem} (h : f_X11_hill th x1 x2 M = some (r, M')) : jMet E yX11_hill cX11_hill 3 (some .int) 6 0 0 [q_r E th, q_i x1, q_i x2] M (some (q_i r)) M' := by
  unfold f_X11_hill at h
  refine jMet.of RX11 rfl (by decide +kernel) (Nat.le_of_ble_eq_true rfl) [(0, q_r E th), (1, q_i x1), (2, q_i x2)] rfl (fun X hC hE hr hn => ?_)
  refine jr_aload_n hC (D_X11_hill.g 0 rfl) 0 rfl ?_
  refine jr_cVi hC cl_X11_256 ⟨rfl, by decide⟩ (D_X11_hill.g 1 rfl) [] h (fun r M' e => c_X11_hasHills e) rfl rfl ⟨by decide, by decide⟩ (Nat.le_of_ble_eq_true rfl) ⟨Nat.le_of_ble_eq_true rfl, Nat.le_of_ble_eq_true rfl⟩ (fun v1 M2 h => ?_)
  refine jr_if_eq hC (D_X11_hill.g 2 rfl) 37 rfl h (fun h => ?_) (fun h => ?_)
  · refine jr_bipush hC (D_X11_hill.g 17 rfl) bp_m100 ?_
    exact jr_iret hC (D_X11_hill.g 18 rfl) hr hE h
  refine jr_iload_n hC (D_X11_hill.g 3 rfl) 1 rfl ?_
  refine jr_if_lt hC (D_X11_hill.g 4 rfl) 37 rfl h (fun h => ?_) (fun h => ?_)
  · refine jr_bipush hC (D_X11_hill.g 17 rfl) bp_m100 ?_
    exact jr_iret hC (D_X11_hill.g 18 rfl) hr hE h
  refine jr_iload_n hC (D_X11_hill.g 5 rfl) 1 rfl ?_
  refine jr_aload_n hC (D_X11_hill.g 6 rfl) 0 rfl ?_
  refine jr_getR hC fl_X11_19 rfl (D_X11_hill.g 7 rfl) h (fun r3 h => ?_)
  refine jr_getI hC fl_X11_167 rfl (D_X11_hill.g 8 rfl) h (fun v4 h => ?_)
  refine jr_icmp_gt hC (D_X11_hill.g 9 rfl) 37 rfl h (fun h => ?_) (fun h => ?_)
  · refine jr_iload_n hC (D_X11_hill.g 10 rfl) 2 rfl ?_
    refine jr_if_lt hC (D_X11_hill.g 11 rfl) 37 rfl h (fun h => ?_) (fun h => ?_)
    · refine jr_bipush hC (D_X11_hill.g 17 rfl) bp_m100 ?_
      exact jr_iret hC (D_X11_hill.g 18 rfl) hr hE h
    refine jr_iload_n hC (D_X11_hill.g 12 rfl) 2 rfl ?_
    refine jr_aload_n hC (D_X11_hill.g 13 rfl) 0 rfl ?_
    refine jr_getR hC fl_X11_19 rfl (D_X11_hill.g 14 rfl) h (fun r5 h => ?_)
    refine jr_getI hC fl_X11_259 rfl (D_X11_hill.g 15 rfl) h (fun v6 h => ?_)
    refine jr_icmp_le hC (D_X11_hill.g 16 rfl) 40 rfl h (fun h => ?_) (fun h => ?_)
    · refine jr_aload_n hC (D_X11_hill.g 19 rfl) 0 rfl ?_
      refine jr_cVv hC cl_X11_249 ⟨rfl, by decide⟩ (D_X11_hill.g 20 rfl) [] h (fun r M' e => c_X11_traceNow e) rfl rfl ⟨by decide, by decide⟩ (Nat.le_of_ble_eq_true rfl) ⟨Nat.le_of_ble_eq_true rfl, Nat.le_of_ble_eq_true rfl⟩ (fun _ M8 h => ?_)
      refine jr_aload_n hC (D_X11_hill.g 21 rfl) 0 rfl ?_
      refine jr_getR hC fl_X11_79 rfl (D_X11_hill.g 22 rfl) h (fun r9 h => ?_)
      refine jr_aload_n hC (D_X11_hill.g 23 rfl) 0 rfl ?_
      refine jr_getR hC fl_X11_62 rfl (D_X11_hill.g 24 rfl) h (fun r10 h => ?_)
      refine jr_iload_n hC (D_X11_hill.g 25 rfl) 1 rfl ?_
      refine jr_iload_n hC (D_X11_hill.g 26 rfl) 2 rfl ?_
      refine jr_aload_n hC (D_X11_hill.g 27 rfl) 0 rfl ?_
      refine jr_getR hC fl_X11_83 rfl (D_X11_hill.g 28 rfl) h (fun r11 h => ?_)
      refine jr_iload_n hC (D_X11_hill.g 29 rfl) 2 rfl ?_
      refine jr_iald hC (D_X11_hill.g 30 rfl) h (fun v12 h => ?_)
      refine jr_cVi hC cl_X11_262 ⟨rfl, by decide⟩ (D_X11_hill.g 31 rfl) [q_r E r10, q_i x1, q_i x2, q_i v12] h (fun r M' e => c_X0_hillAt e) rfl rfl ⟨by decide, by decide⟩ (Nat.le_of_ble_eq_true rfl) ⟨Nat.le_of_ble_eq_true rfl, Nat.le_of_ble_eq_true rfl⟩ (fun v13 M14 h => ?_)
      exact jr_iret hC (D_X11_hill.g 32 rfl) hr hE h
    refine jr_bipush hC (D_X11_hill.g 17 rfl) bp_m100 ?_
    exact jr_iret hC (D_X11_hill.g 18 rfl) hr hE h
  refine jr_bipush hC (D_X11_hill.g 17 rfl) bp_m100 ?_
  exact jr_iret hC (D_X11_hill.g 18 rfl) hr hE h
def f_X11_way (th : Nat) (x1 : Int) (M : jMem) : Option (Int × jMem) :=
if jd_wr x1 < 0 then (some ((-1), M))
else ((jm_gR 11 8 M th).bind fun r1 =>
jcall 4 M r1 (f_X4_total r1 M) fun v2 M3 =>
if jd_wr x1 < jd_wr v2 then (jcall 11 M3 th (f_X11_hasHills th M3) fun v4 M5 =>
if jd_wr v4 = 0 then (some ((-2), M5))
else (jcall 11 M5 th (f_X11_traceNow th M5) fun _ M7 =>
(jm_gR 11 8 M7 th).bind fun r8 =>
(jm_gR 11 13 M7 th).bind fun r9 =>
jcall 4 M7 r8 (f_X4_lineAt r8 x1 r9 M7) fun _ M11 =>
(jm_gR 11 11 M11 th).bind fun r12 =>
(jm_gR 11 8 M11 th).bind fun r13 =>
(jm_gR 11 12 M11 th).bind fun r14 =>
(jm_gR 11 13 M11 th).bind fun r15 =>
jcall 0 M11 r12 (f_X0_apart r12 r13 r14 r15 M11) fun v16 M17 =>
(jm_dv v16 4).bind fun v18 =>
some (v18, M17)))
else (some ((-1), M3)))
theorem D_X11_way : jDs cX11_way [(0, .iload_n 1, 1, 1), (1, .ifCond .lt 14, 3, 4), (4, .iload_n 1, 1, 5), (5, .aload_n 0, 1, 6), (6, .getfield 62, 3, 9), (9, .invokevirtual 194, 3, 12), (12, .if_icmp .lt 5, 3, 15), (15, .iconst (-1), 1, 16), (16, .ireturn, 1, 17), (17, .aload_n 0, 1, 18), (18, .invokevirtual 256, 3, 21), (21, .ifCond .ne 6, 3, 24), (24, .bipush (-2), 2, 26), (26, .ireturn, 1, 27), (27, .aload_n 0, 1, 28), (28, .invokevirtual 249, 3, 31), (31, .aload_n 0, 1, 32), (32, .getfield 62, 3, 35), (35, .iload_n 1, 1, 36), (36, .aload_n 0, 1, 37), (37, .getfield 87, 3, 40), (40, .invokevirtual 200, 3, 43), (43, .aload_n 0, 1, 44), (44, .getfield 79, 3, 47), (47, .aload_n 0, 1, 48), (48, .getfield 62, 3, 51), (51, .aload_n 0, 1, 52), (52, .getfield 83, 3, 55), (55, .aload_n 0, 1, 56), (56, .getfield 87, 3, 59), (59, .invokevirtual 266, 3, 62), (62, .iconst 4, 1, 63), (63, .idiv, 1, 64), (64, .ireturn, 1, 65)] := by unfold jDs; decide +kernel
set_option maxRecDepth 100000 in
set_option maxHeartbeats 4000000 in
theorem c_X11_way {E : jE} {th : Nat} {x1 : Int} {M : jMem} {r : Int} {M' : jMem} (h : f_X11_way th x1 M = some (r, M')) : jMet E yX11_way cX11_way 2 (some .int) 6 0 0 [q_r E th, q_i x1] M (some (q_i r)) M' := by
  unfold f_X11_way at h
  refine jMet.of RX11 rfl (by decide +kernel) (Nat.le_of_ble_eq_true rfl) [(0, q_r E th), (1, q_i x1)] rfl (fun X hC hE hr hn => ?_)
  refine jr_iload_n hC (D_X11_way.g 0 rfl) 1 rfl ?_
  refine jr_if_lt hC (D_X11_way.g 1 rfl) 15 rfl h (fun h => ?_) (fun h => ?_)
  · refine jr_iconst hC (D_X11_way.g 7 rfl) ?_
    exact jr_iret hC (D_X11_way.g 8 rfl) hr hE h
  refine jr_iload_n hC (D_X11_way.g 2 rfl) 1 rfl ?_
  refine jr_aload_n hC (D_X11_way.g 3 rfl) 0 rfl ?_
  refine jr_getR hC fl_X11_62 rfl (D_X11_way.g 4 rfl) h (fun r1 h => ?_)
  refine jr_cVi hC cl_X11_194 ⟨rfl, by decide⟩ (D_X11_way.g 5 rfl) [] h (fun r M' e => c_X4_total e) rfl rfl ⟨by decide, by decide⟩ (Nat.le_of_ble_eq_true rfl) ⟨Nat.le_of_ble_eq_true rfl, Nat.le_of_ble_eq_true rfl⟩ (fun v2 M3 h => ?_)
  refine jr_icmp_lt hC (D_X11_way.g 6 rfl) 17 rfl h (fun h => ?_) (fun h => ?_)
  · refine jr_aload_n hC (D_X11_way.g 9 rfl) 0 rfl ?_
    refine jr_cVi hC cl_X11_256 ⟨rfl, by decide⟩ (D_X11_way.g 10 rfl) [] h (fun r M' e => c_X11_hasHills e) rfl rfl ⟨by decide, by decide⟩ (Nat.le_of_ble_eq_true rfl) ⟨Nat.le_of_ble_eq_true rfl, Nat.le_of_ble_eq_true rfl⟩ (fun v4 M5 h => ?_)
    refine jr_if_ne hC (D_X11_way.g 11 rfl) 27 rfl h (fun h => ?_) (fun h => ?_)
    · refine jr_bipush hC (D_X11_way.g 12 rfl) bp_m2 ?_
      exact jr_iret hC (D_X11_way.g 13 rfl) hr hE h
    refine jr_aload_n hC (D_X11_way.g 14 rfl) 0 rfl ?_
    refine jr_cVv hC cl_X11_249 ⟨rfl, by decide⟩ (D_X11_way.g 15 rfl) [] h (fun r M' e => c_X11_traceNow e) rfl rfl ⟨by decide, by decide⟩ (Nat.le_of_ble_eq_true rfl) ⟨Nat.le_of_ble_eq_true rfl, Nat.le_of_ble_eq_true rfl⟩ (fun _ M7 h => ?_)
    refine jr_aload_n hC (D_X11_way.g 16 rfl) 0 rfl ?_
    refine jr_getR hC fl_X11_62 rfl (D_X11_way.g 17 rfl) h (fun r8 h => ?_)
    refine jr_iload_n hC (D_X11_way.g 18 rfl) 1 rfl ?_
    refine jr_aload_n hC (D_X11_way.g 19 rfl) 0 rfl ?_
    refine jr_getR hC fl_X11_87 rfl (D_X11_way.g 20 rfl) h (fun r9 h => ?_)
    refine jr_cVv hC cl_X11_200 ⟨rfl, by decide⟩ (D_X11_way.g 21 rfl) [q_i x1, q_r E r9] h (fun r M' e => c_X4_lineAt e) rfl rfl ⟨by decide, by decide⟩ (Nat.le_of_ble_eq_true rfl) ⟨Nat.le_of_ble_eq_true rfl, Nat.le_of_ble_eq_true rfl⟩ (fun _ M11 h => ?_)
    refine jr_aload_n hC (D_X11_way.g 22 rfl) 0 rfl ?_
    refine jr_getR hC fl_X11_79 rfl (D_X11_way.g 23 rfl) h (fun r12 h => ?_)
    refine jr_aload_n hC (D_X11_way.g 24 rfl) 0 rfl ?_
    refine jr_getR hC fl_X11_62 rfl (D_X11_way.g 25 rfl) h (fun r13 h => ?_)
    refine jr_aload_n hC (D_X11_way.g 26 rfl) 0 rfl ?_
    refine jr_getR hC fl_X11_83 rfl (D_X11_way.g 27 rfl) h (fun r14 h => ?_)
    refine jr_aload_n hC (D_X11_way.g 28 rfl) 0 rfl ?_
    refine jr_getR hC fl_X11_87 rfl (D_X11_way.g 29 rfl) h (fun r15 h => ?_)
    refine jr_cVi hC cl_X11_266 ⟨rfl, by decide⟩ (D_X11_way.g 30 rfl) [q_r E r13, q_r E r14, q_r E r15] h (fun r M' e => c_X0_apart e) rfl rfl ⟨by decide, by decide⟩ (Nat.le_of_ble_eq_true rfl) ⟨Nat.le_of_ble_eq_true rfl, Nat.le_of_ble_eq_true rfl⟩ (fun v16 M17 h => ?_)
    refine jr_iconst hC (D_X11_way.g 31 rfl) ?_
    refine jr_idiv hC (D_X11_way.g 32 rfl) h (fun v18 _ h => ?_)
    exact jr_iret hC (D_X11_way.g 33 rfl) hr hE h
  refine jr_iconst hC (D_X11_way.g 7 rfl) ?_
  exact jr_iret hC (D_X11_way.g 8 rfl) hr hE h
def f_X11_farthest (th : Nat) (x1 : Int) (M : jMem) : Option (Int × jMem) :=
jjq (jcall 11 M th (f_X11_hasHills th M) fun v1 M2 =>
if jd_wr v1 = 0 then (some ((-2), M2))
else (jcall 11 M2 th (f_X11_traceNow th M2) fun _ M4 =>
(jm_gR 11 11 M4 th).bind fun r5 =>
(jm_gR 11 8 M4 th).bind fun r6 =>
(jm_gR 11 12 M4 th).bind fun r7 =>
jcall 0 M4 r5 (f_X0_weighFar r5 r6 r7 M4) fun _ M9 =>
(jm_gR 11 11 M9 th).bind fun r10 =>
(jm_gR 11 8 M9 th).bind fun r11 =>
(jm_gR 11 13 M9 th).bind fun r12 =>
jcall 0 M9 r10 (f_X0_choose r10 r11 r12 M9) fun v13 M14 =>
if jd_wr x1 = 0 then ((jm_gR 11 8 M14 th).bind fun r15 =>
(jm_gR 11 13 M14 th).bind fun r16 =>
jcall 4 M14 r15 (f_X4_numberOf r15 r16 M14) fun v17 M18 =>
some (v17, M18))
else ((jm_dv v13 4).bind fun v19 =>
some (v19, M14)))) fun j_11 =>
if jd_wr x1 = 0 then (j_11 )
else (if jd_wr x1 = jd_wr 1 then (j_11 )
else (some ((-1), M)))
theorem D_X11_farthest : jDs cX11_farthest [(0, .iload_n 1, 1, 1), (1, .ifCond .eq 10, 3, 4), (4, .iload_n 1, 1, 5), (5, .iconst 1, 1, 6), (6, .if_icmp .eq 5, 3, 9), (9, .iconst (-1), 1, 10), (10, .ireturn, 1, 11), (11, .aload_n 0, 1, 12), (12, .invokevirtual 256, 3, 15), (15, .ifCond .ne 6, 3, 18), (18, .bipush (-2), 2, 20), (20, .ireturn, 1, 21), (21, .aload_n 0, 1, 22), (22, .invokevirtual 249, 3, 25), (25, .aload_n 0, 1, 26), (26, .getfield 79, 3, 29), (29, .aload_n 0, 1, 30), (30, .getfield 62, 3, 33), (33, .aload_n 0, 1, 34), (34, .getfield 83, 3, 37), (37, .invokevirtual 270, 3, 40), (40, .aload_n 0, 1, 41), (41, .getfield 79, 3, 44), (44, .aload_n 0, 1, 45), (45, .getfield 62, 3, 48), (48, .aload_n 0, 1, 49), (49, .getfield 87, 3, 52), (52, .invokevirtual 274, 3, 55), (55, .istore_n 2, 1, 56), (56, .iload_n 1, 1, 57), (57, .ifCond .ne 17, 3, 60), (60, .aload_n 0, 1, 61), (61, .getfield 62, 3, 64), (64, .aload_n 0, 1, 65), (65, .getfield 87, 3, 68), (68, .invokevirtual 252, 3, 71), (71, .goto 6, 3, 74), (74, .iload_n 2, 1, 75), (75, .iconst 4, 1, 76), (76, .idiv, 1, 77), (77, .ireturn, 1, 78)] := by unfold jDs; decide +kernel
set_option maxRecDepth 100000 in
set_option maxHeartbeats 4000000 in
theorem c_X11_farthest {E : jE} {th : Nat} {x1 : Int} {M : jMem} {r : Int} {M' : jMem} (h : f_X11_farthest th x1 M = some (r, M')) : jMet E yX11_farthest cX11_farthest 3 (some .int) 6 0 0 [q_r E th, q_i x1] M (some (q_i r)) M' := by
  unfold f_X11_farthest at h
  refine jMet.of RX11 rfl (by decide +kernel) (Nat.le_of_ble_eq_true rfl) [(0, q_r E th), (1, q_i x1)] rfl (fun X hC hE hr hn => ?_)
  refine jr_iload_n hC (D_X11_farthest.g 0 rfl) 1 rfl ?_
  refine jr_join h (fun j => j = some (r, M') → JW E X 3 0 0 M 11 [(0, q_r E th), (1, q_i x1)] []) ?_ ?_
  · intro  h
    refine jr_aload_n hC (D_X11_farthest.g 7 rfl) 0 rfl ?_
    refine jr_cVi hC cl_X11_256 ⟨rfl, by decide⟩ (D_X11_farthest.g 8 rfl) [] h (fun r M' e => c_X11_hasHills e) rfl rfl ⟨by decide, by decide⟩ (Nat.le_of_ble_eq_true rfl) ⟨Nat.le_of_ble_eq_true rfl, Nat.le_of_ble_eq_true rfl⟩ (fun v1 M2 h => ?_)
    refine jr_if_ne hC (D_X11_farthest.g 9 rfl) 21 rfl h (fun h => ?_) (fun h => ?_)
    · refine jr_bipush hC (D_X11_farthest.g 10 rfl) bp_m2 ?_
      exact jr_iret hC (D_X11_farthest.g 11 rfl) hr hE h
    refine jr_aload_n hC (D_X11_farthest.g 12 rfl) 0 rfl ?_
    refine jr_cVv hC cl_X11_249 ⟨rfl, by decide⟩ (D_X11_farthest.g 13 rfl) [] h (fun r M' e => c_X11_traceNow e) rfl rfl ⟨by decide, by decide⟩ (Nat.le_of_ble_eq_true rfl) ⟨Nat.le_of_ble_eq_true rfl, Nat.le_of_ble_eq_true rfl⟩ (fun _ M4 h => ?_)
    refine jr_aload_n hC (D_X11_farthest.g 14 rfl) 0 rfl ?_
    refine jr_getR hC fl_X11_79 rfl (D_X11_farthest.g 15 rfl) h (fun r5 h => ?_)
    refine jr_aload_n hC (D_X11_farthest.g 16 rfl) 0 rfl ?_
    refine jr_getR hC fl_X11_62 rfl (D_X11_farthest.g 17 rfl) h (fun r6 h => ?_)
    refine jr_aload_n hC (D_X11_farthest.g 18 rfl) 0 rfl ?_
    refine jr_getR hC fl_X11_83 rfl (D_X11_farthest.g 19 rfl) h (fun r7 h => ?_)
    refine jr_cVv hC cl_X11_270 ⟨rfl, by decide⟩ (D_X11_farthest.g 20 rfl) [q_r E r6, q_r E r7] h (fun r M' e => c_X0_weighFar e) rfl rfl ⟨by decide, by decide⟩ (Nat.le_of_ble_eq_true rfl) ⟨Nat.le_of_ble_eq_true rfl, Nat.le_of_ble_eq_true rfl⟩ (fun _ M9 h => ?_)
    refine jr_aload_n hC (D_X11_farthest.g 21 rfl) 0 rfl ?_
    refine jr_getR hC fl_X11_79 rfl (D_X11_farthest.g 22 rfl) h (fun r10 h => ?_)
    refine jr_aload_n hC (D_X11_farthest.g 23 rfl) 0 rfl ?_
    refine jr_getR hC fl_X11_62 rfl (D_X11_farthest.g 24 rfl) h (fun r11 h => ?_)
    refine jr_aload_n hC (D_X11_farthest.g 25 rfl) 0 rfl ?_
    refine jr_getR hC fl_X11_87 rfl (D_X11_farthest.g 26 rfl) h (fun r12 h => ?_)
    refine jr_cVi hC cl_X11_274 ⟨rfl, by decide⟩ (D_X11_farthest.g 27 rfl) [q_r E r11, q_r E r12] h (fun r M' e => c_X0_choose e) rfl rfl ⟨by decide, by decide⟩ (Nat.le_of_ble_eq_true rfl) ⟨Nat.le_of_ble_eq_true rfl, Nat.le_of_ble_eq_true rfl⟩ (fun v13 M14 h => ?_)
    refine jr_istore_n hC (D_X11_farthest.g 28 rfl) (by decide) rfl ?_
    refine jr_iload_n hC (D_X11_farthest.g 29 rfl) 2 rfl ?_
    refine jr_if_ne hC (D_X11_farthest.g 30 rfl) 74 rfl h (fun h => ?_) (fun h => ?_)
    · refine jr_aload_n hC (D_X11_farthest.g 31 rfl) 1 rfl ?_
      refine jr_getR hC fl_X11_62 rfl (D_X11_farthest.g 32 rfl) h (fun r15 h => ?_)
      refine jr_aload_n hC (D_X11_farthest.g 33 rfl) 1 rfl ?_
      refine jr_getR hC fl_X11_87 rfl (D_X11_farthest.g 34 rfl) h (fun r16 h => ?_)
      refine jr_cVi hC cl_X11_252 ⟨rfl, by decide⟩ (D_X11_farthest.g 35 rfl) [q_r E r16] h (fun r M' e => c_X4_numberOf e) rfl rfl ⟨by decide, by decide⟩ (Nat.le_of_ble_eq_true rfl) ⟨Nat.le_of_ble_eq_true rfl, Nat.le_of_ble_eq_true rfl⟩ (fun v17 M18 h => ?_)
      refine jr_goto hC (D_X11_farthest.g 36 rfl) 77 rfl ?_
      exact jr_iret hC (D_X11_farthest.g 40 rfl) hr hE h
    refine jr_iload_n hC (D_X11_farthest.g 37 rfl) 0 rfl ?_
    refine jr_iconst hC (D_X11_farthest.g 38 rfl) ?_
    refine jr_idiv hC (D_X11_farthest.g 39 rfl) h (fun v19 _ h => ?_)
    exact jr_iret hC (D_X11_farthest.g 40 rfl) hr hE h
  intro j_11 hj_11 h
  refine jr_if_eq hC (D_X11_farthest.g 1 rfl) 11 rfl h (fun h => ?_) (fun h => ?_)
  · exact hj_11  h
  refine jr_iload_n hC (D_X11_farthest.g 2 rfl) 1 rfl ?_
  refine jr_iconst hC (D_X11_farthest.g 3 rfl) ?_
  refine jr_icmp_eq hC (D_X11_farthest.g 4 rfl) 11 rfl h (fun h => ?_) (fun h => ?_)
  · exact hj_11  h
  refine jr_iconst hC (D_X11_farthest.g 5 rfl) ?_
  exact jr_iret hC (D_X11_farthest.g 6 rfl) hr hE h
def f_X11_lowest (th : Nat) (x1 : Int) (M : jMem) : Option (Int × jMem) :=
jjq (fun (M_29 : jMem) =>
some ((-100000), M_29)) fun j_29 =>
jjq ((jm_gR 11 2 M th).bind fun r1 =>
(jm_gI 8 3 M r1).bind fun v2 =>
if jd_wr v2 ≤ 0 then ((jm_gR 11 8 M th).bind fun r3 =>
jcall 4 M r3 (f_X4_total r3 M) fun v4 M5 =>
if jd_wr v4 = 0 then (j_29 M5)
else ((jm_gR 11 11 M5 th).bind fun r6 =>
(jm_gR 11 8 M5 th).bind fun r7 =>
jcall 0 M5 r6 (f_X0_weighLow r6 r7 M5) fun _ M9 =>
(jm_gR 11 11 M9 th).bind fun r10 =>
(jm_gR 11 8 M9 th).bind fun r11 =>
(jm_gR 11 13 M9 th).bind fun r12 =>
jcall 0 M9 r10 (f_X0_choose r10 r11 r12 M9) fun v13 M14 =>
if jd_wr x1 = 0 then ((jm_gR 11 8 M14 th).bind fun r15 =>
(jm_gR 11 13 M14 th).bind fun r16 =>
jcall 4 M14 r15 (f_X4_numberOf r15 r16 M14) fun v17 M18 =>
some (v17, M18))
else (some ((0 - v13), M14))))
else (j_29 M)) fun j_9 =>
if jd_wr x1 = 0 then (j_9 )
else (if jd_wr x1 = jd_wr 1 then (j_9 )
else (j_29 M))
theorem D_X11_lowest : jDs cX11_lowest [(0, .iload_n 1, 1, 1), (1, .ifCond .eq 8, 3, 4), (4, .iload_n 1, 1, 5), (5, .iconst 1, 1, 6), (6, .if_icmp .ne 23, 3, 9), (9, .aload_n 0, 1, 10), (10, .getfield 19, 3, 13), (13, .getfield 147, 3, 16), (16, .ifCond .gt 13, 3, 19), (19, .aload_n 0, 1, 20), (20, .getfield 62, 3, 23), (23, .invokevirtual 194, 3, 26), (26, .ifCond .ne 7, 3, 29), (29, .ldc_w 278, 3, 32), (32, .ireturn, 1, 33), (33, .aload_n 0, 1, 34), (34, .getfield 79, 3, 37), (37, .aload_n 0, 1, 38), (38, .getfield 62, 3, 41), (41, .invokevirtual 279, 3, 44), (44, .aload_n 0, 1, 45), (45, .getfield 79, 3, 48), (48, .aload_n 0, 1, 49), (49, .getfield 62, 3, 52), (52, .aload_n 0, 1, 53), (53, .getfield 87, 3, 56), (56, .invokevirtual 274, 3, 59), (59, .istore_n 2, 1, 60), (60, .iload_n 1, 1, 61), (61, .ifCond .ne 17, 3, 64), (64, .aload_n 0, 1, 65), (65, .getfield 62, 3, 68), (68, .aload_n 0, 1, 69), (69, .getfield 87, 3, 72), (72, .invokevirtual 252, 3, 75), (75, .goto 5, 3, 78), (78, .iload_n 2, 1, 79), (79, .ineg, 1, 80), (80, .ireturn, 1, 81)] := by unfold jDs; decide +kernel
set_option maxRecDepth 100000 in
set_option maxHeartbeats 4000000 in
theorem c_X11_lowest {E : jE} {th : Nat} {x1 : Int} {M : jMem} {r : Int} {M' : jMem} (h : f_X11_lowest th x1 M = some (r, M')) : jMet E yX11_lowest cX11_lowest 3 (some .int) 6 0 0 [q_r E th, q_i x1] M (some (q_i r)) M' := by
  unfold f_X11_lowest at h
  refine jMet.of RX11 rfl (by decide +kernel) (Nat.le_of_ble_eq_true rfl) [(0, q_r E th), (1, q_i x1)] rfl (fun X hC hE hr hn => ?_)
  refine jr_iload_n hC (D_X11_lowest.g 0 rfl) 1 rfl ?_
  refine jr_join h (fun j => ∀ (M_29 : jMem), j M_29 = some (r, M') → JW E X 3 0 0 M_29 29 [] []) ?_ ?_
  · intro M_29 h
    refine jr_ldcw hC (-100000) (jt_in (i := 1229) (by decide +kernel) rfl) (D_X11_lowest.g 13 rfl) ?_
    exact jr_iret hC (D_X11_lowest.g 14 rfl) hr hE h
  intro j_29 hj_29 h
  refine jr_join h (fun j => j = some (r, M') → JW E X 3 0 0 M 9 [(0, q_r E th), (1, q_i x1)] []) ?_ ?_
  · intro  h
    refine jr_aload_n hC (D_X11_lowest.g 5 rfl) 0 rfl ?_
    refine jr_getR hC fl_X11_19 rfl (D_X11_lowest.g 6 rfl) h (fun r1 h => ?_)
    refine jr_getI hC fl_X11_147 rfl (D_X11_lowest.g 7 rfl) h (fun v2 h => ?_)
    refine jr_if_gt hC (D_X11_lowest.g 8 rfl) 29 rfl h (fun h => ?_) (fun h => ?_)
    · refine jr_aload_n hC (D_X11_lowest.g 9 rfl) 0 rfl ?_
      refine jr_getR hC fl_X11_62 rfl (D_X11_lowest.g 10 rfl) h (fun r3 h => ?_)
      refine jr_cVi hC cl_X11_194 ⟨rfl, by decide⟩ (D_X11_lowest.g 11 rfl) [] h (fun r M' e => c_X4_total e) rfl rfl ⟨by decide, by decide⟩ (Nat.le_of_ble_eq_true rfl) ⟨Nat.le_of_ble_eq_true rfl, Nat.le_of_ble_eq_true rfl⟩ (fun v4 M5 h => ?_)
      refine jr_if_ne hC (D_X11_lowest.g 12 rfl) 33 rfl h (fun h => ?_) (fun h => ?_)
      · refine jr_pick [] rfl ?_
        exact hj_29 M5 h
      refine jr_aload_n hC (D_X11_lowest.g 15 rfl) 0 rfl ?_
      refine jr_getR hC fl_X11_79 rfl (D_X11_lowest.g 16 rfl) h (fun r6 h => ?_)
      refine jr_aload_n hC (D_X11_lowest.g 17 rfl) 0 rfl ?_
      refine jr_getR hC fl_X11_62 rfl (D_X11_lowest.g 18 rfl) h (fun r7 h => ?_)
      refine jr_cVv hC cl_X11_279 ⟨rfl, by decide⟩ (D_X11_lowest.g 19 rfl) [q_r E r7] h (fun r M' e => c_X0_weighLow e) rfl rfl ⟨by decide, by decide⟩ (Nat.le_of_ble_eq_true rfl) ⟨Nat.le_of_ble_eq_true rfl, Nat.le_of_ble_eq_true rfl⟩ (fun _ M9 h => ?_)
      refine jr_aload_n hC (D_X11_lowest.g 20 rfl) 0 rfl ?_
      refine jr_getR hC fl_X11_79 rfl (D_X11_lowest.g 21 rfl) h (fun r10 h => ?_)
      refine jr_aload_n hC (D_X11_lowest.g 22 rfl) 0 rfl ?_
      refine jr_getR hC fl_X11_62 rfl (D_X11_lowest.g 23 rfl) h (fun r11 h => ?_)
      refine jr_aload_n hC (D_X11_lowest.g 24 rfl) 0 rfl ?_
      refine jr_getR hC fl_X11_87 rfl (D_X11_lowest.g 25 rfl) h (fun r12 h => ?_)
      refine jr_cVi hC cl_X11_274 ⟨rfl, by decide⟩ (D_X11_lowest.g 26 rfl) [q_r E r11, q_r E r12] h (fun r M' e => c_X0_choose e) rfl rfl ⟨by decide, by decide⟩ (Nat.le_of_ble_eq_true rfl) ⟨Nat.le_of_ble_eq_true rfl, Nat.le_of_ble_eq_true rfl⟩ (fun v13 M14 h => ?_)
      refine jr_istore_n hC (D_X11_lowest.g 27 rfl) (by decide) rfl ?_
      refine jr_iload_n hC (D_X11_lowest.g 28 rfl) 2 rfl ?_
      refine jr_if_ne hC (D_X11_lowest.g 29 rfl) 78 rfl h (fun h => ?_) (fun h => ?_)
      · refine jr_aload_n hC (D_X11_lowest.g 30 rfl) 1 rfl ?_
        refine jr_getR hC fl_X11_62 rfl (D_X11_lowest.g 31 rfl) h (fun r15 h => ?_)
        refine jr_aload_n hC (D_X11_lowest.g 32 rfl) 1 rfl ?_
        refine jr_getR hC fl_X11_87 rfl (D_X11_lowest.g 33 rfl) h (fun r16 h => ?_)
        refine jr_cVi hC cl_X11_252 ⟨rfl, by decide⟩ (D_X11_lowest.g 34 rfl) [q_r E r16] h (fun r M' e => c_X4_numberOf e) rfl rfl ⟨by decide, by decide⟩ (Nat.le_of_ble_eq_true rfl) ⟨Nat.le_of_ble_eq_true rfl, Nat.le_of_ble_eq_true rfl⟩ (fun v17 M18 h => ?_)
        refine jr_goto hC (D_X11_lowest.g 35 rfl) 80 rfl ?_
        exact jr_iret hC (D_X11_lowest.g 38 rfl) hr hE h
      refine jr_iload_n hC (D_X11_lowest.g 36 rfl) 0 rfl ?_
      refine jr_ineg hC (D_X11_lowest.g 37 rfl) ?_
      exact jr_iret hC (D_X11_lowest.g 38 rfl) hr hE h
    refine jr_pick [] rfl ?_
    exact hj_29 M h
  intro j_9 hj_9 h
  refine jr_if_eq hC (D_X11_lowest.g 1 rfl) 9 rfl h (fun h => ?_) (fun h => ?_)
  · exact hj_9  h
  refine jr_iload_n hC (D_X11_lowest.g 2 rfl) 1 rfl ?_
  refine jr_iconst hC (D_X11_lowest.g 3 rfl) ?_
  refine jr_icmp_ne hC (D_X11_lowest.g 4 rfl) 29 rfl h (fun h => ?_) (fun h => ?_)
  · exact hj_9  h
  refine jr_pick [] rfl ?_
  exact hj_29 M h
def f_X11_turns (th : Nat) (x1 : Int) (M : jMem) : Option (Int × jMem) :=
if jd_wr x1 < jd_wr (-1) then (some ((-1), M))
else (jlp3 (fun rec_11 (y2_11 : Int) (y3_11 : Int) (M_11 : jMem) =>
(jm_gR 11 2 M_11 th).bind fun r1 =>
jcall 8 M_11 r1 (f_X8_cells r1 M_11) fun v2 M3 =>
if jd_wr y3_11 < jd_wr v2 then (jcall 11 M3 th (f_X11_canTurn th y3_11 M3) fun v4 M5 =>
jjq (fun (y2_40 : Int) =>
rec_11 y2_40 (y3_11 + 1) M5) fun j_40 =>
if jd_wr v4 = 0 then (j_40 y2_11)
else (if jd_wr y2_11 = jd_wr x1 then (some (y3_11, M5))
else (j_40 (y2_11 + 1))))
else (if jd_wr x1 = jd_wr (-1) then (some (y2_11, M3))
else (some ((-1), M3)))) jfuel 0 0 M)
theorem D_X11_turns : jDs cX11_turns [(0, .iload_n 1, 1, 1), (1, .iconst (-1), 1, 2), (2, .if_icmp .ge 5, 3, 5), (5, .iconst (-1), 1, 6), (6, .ireturn, 1, 7), (7, .iconst 0, 1, 8), (8, .istore_n 2, 1, 9), (9, .iconst 0, 1, 10), (10, .istore_n 3, 1, 11), (11, .iload_n 3, 1, 12), (12, .aload_n 0, 1, 13), (13, .getfield 19, 3, 16), (16, .invokevirtual 204, 3, 19), (19, .if_icmp .ge 27, 3, 22), (22, .aload_n 0, 1, 23), (23, .iload_n 3, 1, 24), (24, .invokevirtual 184, 3, 27), (27, .ifCond .eq 13, 3, 30), (30, .iload_n 2, 1, 31), (31, .iload_n 1, 1, 32), (32, .if_icmp .ne 5, 3, 35), (35, .iload_n 3, 1, 36), (36, .ireturn, 1, 37), (37, .iinc 2 1, 3, 40), (40, .iinc 3 1, 3, 43), (43, .goto (-32), 3, 46), (46, .iload_n 1, 1, 47), (47, .iconst (-1), 1, 48), (48, .if_icmp .ne 7, 3, 51), (51, .iload_n 2, 1, 52), (52, .goto 4, 3, 55), (55, .iconst (-1), 1, 56), (56, .ireturn, 1, 57)] := by unfold jDs; decide +kernel
set_option maxRecDepth 100000 in
set_option maxHeartbeats 4000000 in
theorem c_X11_turns {E : jE} {th : Nat} {x1 : Int} {M : jMem} {r : Int} {M' : jMem} (h : f_X11_turns th x1 M = some (r, M')) : jMet E yX11_turns cX11_turns 4 (some .int) 5 0 0 [q_r E th, q_i x1] M (some (q_i r)) M' := by
  unfold f_X11_turns at h
  refine jMet.of RX11 rfl (by decide +kernel) (Nat.le_of_ble_eq_true rfl) [(0, q_r E th), (1, q_i x1)] rfl (fun X hC hE hr hn => ?_)
  refine jr_iload_n hC (D_X11_turns.g 0 rfl) 1 rfl ?_
  refine jr_iconst hC (D_X11_turns.g 1 rfl) ?_
  refine jr_icmp_ge hC (D_X11_turns.g 2 rfl) 7 rfl h (fun h => ?_) (fun h => ?_)
  · refine jr_iconst hC (D_X11_turns.g 3 rfl) ?_
    exact jr_iret hC (D_X11_turns.g 4 rfl) hr hE h
  refine jr_iconst hC (D_X11_turns.g 5 rfl) ?_
  refine jr_istore_n hC (D_X11_turns.g 6 rfl) (by decide) rfl ?_
  refine jr_iconst hC (D_X11_turns.g 7 rfl) ?_
  refine jr_istore_n hC (D_X11_turns.g 8 rfl) (by decide) rfl ?_
  refine jr_pick [2, 3, 1, 0] rfl ?_
  refine jr_lp3 (fun (y2_11 : Int) (y3_11 : Int) (M_11 : jMem) => JW E X 4 0 0 M_11 11 [(0, q_r E th), (1, q_i x1), (2, q_i y2_11), (3, q_i y3_11)] []) ?_ jfuel 0 0 M h
  intro rec_11 hrec_11 y2_11 y3_11 M_11 h
  refine jr_iload_n hC (D_X11_turns.g 9 rfl) 3 rfl ?_
  refine jr_aload_n hC (D_X11_turns.g 10 rfl) 0 rfl ?_
  refine jr_getR hC fl_X11_19 rfl (D_X11_turns.g 11 rfl) h (fun r1 h => ?_)
  refine jr_cVi hC cl_X11_204 ⟨rfl, by decide⟩ (D_X11_turns.g 12 rfl) [] h (fun r M' e => c_X8_cells e) rfl rfl ⟨by decide, by decide⟩ (Nat.le_of_ble_eq_true rfl) ⟨Nat.le_of_ble_eq_true rfl, Nat.le_of_ble_eq_true rfl⟩ (fun v2 M3 h => ?_)
  refine jr_icmp_ge hC (D_X11_turns.g 13 rfl) 46 rfl h (fun h => ?_) (fun h => ?_)
  · refine jr_aload_n hC (D_X11_turns.g 14 rfl) 0 rfl ?_
    refine jr_iload_n hC (D_X11_turns.g 15 rfl) 3 rfl ?_
    refine jr_cVi hC cl_X11_184 ⟨rfl, by decide⟩ (D_X11_turns.g 16 rfl) [q_i y3_11] h (fun r M' e => c_X11_canTurn e) rfl rfl ⟨by decide, by decide⟩ (Nat.le_of_ble_eq_true rfl) ⟨Nat.le_of_ble_eq_true rfl, Nat.le_of_ble_eq_true rfl⟩ (fun v4 M5 h => ?_)
    refine jr_join h (fun j => ∀ (y2_40 : Int), j y2_40 = some (r, M') → JW E X 4 0 0 M5 40 [(0, q_r E th), (1, q_i x1), (2, q_i y2_40), (3, q_i y3_11)] []) ?_ ?_
    · intro y2_40 h
      refine jr_iinc hC (D_X11_turns.g 24 rfl) 3 rfl (by decide) rfl ?_
      refine jr_goto hC (D_X11_turns.g 25 rfl) 11 rfl ?_
      refine jr_pick [1, 2, 3, 0] rfl ?_
      exact hrec_11 y2_40 (y3_11 + 1) M5 h
    intro j_40 hj_40 h
    refine jr_if_eq hC (D_X11_turns.g 17 rfl) 40 rfl h (fun h => ?_) (fun h => ?_)
    · exact hj_40 y2_11 h
    refine jr_iload_n hC (D_X11_turns.g 18 rfl) 2 rfl ?_
    refine jr_iload_n hC (D_X11_turns.g 19 rfl) 1 rfl ?_
    refine jr_icmp_ne hC (D_X11_turns.g 20 rfl) 37 rfl h (fun h => ?_) (fun h => ?_)
    · refine jr_iload_n hC (D_X11_turns.g 21 rfl) 3 rfl ?_
      exact jr_iret hC (D_X11_turns.g 22 rfl) hr hE h
    refine jr_iinc hC (D_X11_turns.g 23 rfl) 2 rfl (by decide) rfl ?_
    refine jr_pick [1, 2, 0, 3] rfl ?_
    exact hj_40 (y2_11 + 1) h
  refine jr_iload_n hC (D_X11_turns.g 26 rfl) 1 rfl ?_
  refine jr_iconst hC (D_X11_turns.g 27 rfl) ?_
  refine jr_icmp_ne hC (D_X11_turns.g 28 rfl) 55 rfl h (fun h => ?_) (fun h => ?_)
  · refine jr_iload_n hC (D_X11_turns.g 29 rfl) 2 rfl ?_
    refine jr_goto hC (D_X11_turns.g 30 rfl) 56 rfl ?_
    exact jr_iret hC (D_X11_turns.g 32 rfl) hr hE h
  refine jr_iconst hC (D_X11_turns.g 31 rfl) ?_
  exact jr_iret hC (D_X11_turns.g 32 rfl) hr hE h
