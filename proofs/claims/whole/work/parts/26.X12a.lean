/-! ===== 26.X12a: by program ===== -/
def f_X12_plain (th : Nat) (x1 : Int) (M : jMem) : Option (Int × jMem) :=
(jm_gR 12 20 M th).bind fun r1 =>
(jm_st 20 M r1 x1 4).bind fun M2 =>
(jm_gR 12 21 M2 th).bind fun r3 =>
(jm_st 20 M2 r3 x1 4).bind fun M4 =>
(jm_gR 12 22 M4 th).bind fun r5 =>
(jm_st 20 M4 r5 x1 0).bind fun M6 =>
(jm_gR 12 25 M6 th).bind fun r7 =>
(jm_st 20 M6 r7 x1 0).bind fun M8 =>
(jm_gR 12 29 M8 th).bind fun r9 =>
(jm_st 20 M8 r9 x1 0).bind fun M10 =>
jlp2 (fun rec_37 (y2_37 : Int) (M_37 : jMem) =>
if jd_wr y2_37 < jd_wr 3 then ((jm_gR 12 30 M_37 th).bind fun r11 =>
(jm_st 20 M_37 r11 ((3 * x1) + y2_37) 0).bind fun M12 =>
(jm_gR 12 31 M12 th).bind fun r13 =>
(jm_st 20 M12 r13 ((3 * x1) + y2_37) 0).bind fun M14 =>
rec_37 (y2_37 + 1) M14)
else (some (0, M_37))) jfuel 0 M10
theorem D_X12_plain : jDs cX12_plain [(0, .aload_n 0, 1, 1), (1, .getfield 40, 3, 4), (4, .iload_n 1, 1, 5), (5, .iconst 4, 1, 6), (6, .iastore, 1, 7), (7, .aload_n 0, 1, 8), (8, .getfield 43, 3, 11), (11, .iload_n 1, 1, 12), (12, .iconst 4, 1, 13), (13, .iastore, 1, 14), (14, .aload_n 0, 1, 15), (15, .getfield 46, 3, 18), (18, .iload_n 1, 1, 19), (19, .iconst 0, 1, 20), (20, .iastore, 1, 21), (21, .aload_n 0, 1, 22), (22, .getfield 55, 3, 25), (25, .iload_n 1, 1, 26), (26, .iconst 0, 1, 27), (27, .iastore, 1, 28), (28, .aload_n 0, 1, 29), (29, .getfield 67, 3, 32), (32, .iload_n 1, 1, 33), (33, .iconst 0, 1, 34), (34, .iastore, 1, 35), (35, .iconst 0, 1, 36), (36, .istore_n 2, 1, 37), (37, .iload_n 2, 1, 38), (38, .iconst 3, 1, 39), (39, .if_icmp .ge 31, 3, 42), (42, .aload_n 0, 1, 43), (43, .getfield 70, 3, 46), (46, .iconst 3, 1, 47), (47, .iload_n 1, 1, 48), (48, .imul, 1, 49), (49, .iload_n 2, 1, 50), (50, .iadd, 1, 51), (51, .iconst 0, 1, 52), (52, .iastore, 1, 53), (53, .aload_n 0, 1, 54), (54, .getfield 73, 3, 57), (57, .iconst 3, 1, 58), (58, .iload_n 1, 1, 59), (59, .imul, 1, 60), (60, .iload_n 2, 1, 61), (61, .iadd, 1, 62), (62, .iconst 0, 1, 63), (63, .iastore, 1, 64), (64, .iinc 2 1, 3, 67), (67, .goto (-30), 3, 70), (70, .return_, 1, 71)] := by unfold jDs; decide +kernel
set_option maxRecDepth 100000 in
set_option maxHeartbeats 4000000 in
theorem c_X12_plain {E : jE} {th : Nat} {x1 : Int} {M : jMem} {r : Int} {M' : jMem} (h : f_X12_plain th x1 M = some (r, M')) : jMet E yX12_plain cX12_plain 3 (none) 2 0 0 [q_r E th, q_i x1] M (none) M' := by
  unfold f_X12_plain at h
  refine jMet.of RX12 rfl (by decide +kernel) (Nat.le_of_ble_eq_true rfl) [(0, q_r E th), (1, q_i x1)] rfl (fun X hC hE hr hn => ?_)
  refine jr_aload_n hC (D_X12_plain.g 0 rfl) 0 rfl ?_
  refine jr_getR hC fl_X12_40 rfl (D_X12_plain.g 1 rfl) h (fun r1 h => ?_)
  refine jr_iload_n hC (D_X12_plain.g 2 rfl) 1 rfl ?_
  refine jr_iconst hC (D_X12_plain.g 3 rfl) ?_
  refine jr_iast hC (D_X12_plain.g 4 rfl) h (fun M2 _ h => ?_)
  refine jr_aload_n hC (D_X12_plain.g 5 rfl) 0 rfl ?_
  refine jr_getR hC fl_X12_43 rfl (D_X12_plain.g 6 rfl) h (fun r3 h => ?_)
  refine jr_iload_n hC (D_X12_plain.g 7 rfl) 1 rfl ?_
  refine jr_iconst hC (D_X12_plain.g 8 rfl) ?_
  refine jr_iast hC (D_X12_plain.g 9 rfl) h (fun M4 _ h => ?_)
  refine jr_aload_n hC (D_X12_plain.g 10 rfl) 0 rfl ?_
  refine jr_getR hC fl_X12_46 rfl (D_X12_plain.g 11 rfl) h (fun r5 h => ?_)
  refine jr_iload_n hC (D_X12_plain.g 12 rfl) 1 rfl ?_
  refine jr_iconst hC (D_X12_plain.g 13 rfl) ?_
  refine jr_iast hC (D_X12_plain.g 14 rfl) h (fun M6 _ h => ?_)
  refine jr_aload_n hC (D_X12_plain.g 15 rfl) 0 rfl ?_
  refine jr_getR hC fl_X12_55 rfl (D_X12_plain.g 16 rfl) h (fun r7 h => ?_)
  refine jr_iload_n hC (D_X12_plain.g 17 rfl) 1 rfl ?_
  refine jr_iconst hC (D_X12_plain.g 18 rfl) ?_
  refine jr_iast hC (D_X12_plain.g 19 rfl) h (fun M8 _ h => ?_)
  refine jr_aload_n hC (D_X12_plain.g 20 rfl) 0 rfl ?_
  refine jr_getR hC fl_X12_67 rfl (D_X12_plain.g 21 rfl) h (fun r9 h => ?_)
  refine jr_iload_n hC (D_X12_plain.g 22 rfl) 1 rfl ?_
  refine jr_iconst hC (D_X12_plain.g 23 rfl) ?_
  refine jr_iast hC (D_X12_plain.g 24 rfl) h (fun M10 _ h => ?_)
  refine jr_iconst hC (D_X12_plain.g 25 rfl) ?_
  refine jr_istore_n hC (D_X12_plain.g 26 rfl) (by decide) rfl ?_
  refine jr_pick [1, 2, 0] rfl ?_
  refine jr_lp2 (fun (y2_37 : Int) (M_37 : jMem) => JW E X 3 0 0 M_37 37 [(0, q_r E th), (1, q_i x1), (2, q_i y2_37)] []) ?_ jfuel 0 M10 h
  intro rec_37 hrec_37 y2_37 M_37 h
  refine jr_iload_n hC (D_X12_plain.g 27 rfl) 2 rfl ?_
  refine jr_iconst hC (D_X12_plain.g 28 rfl) ?_
  refine jr_icmp_ge hC (D_X12_plain.g 29 rfl) 70 rfl h (fun h => ?_) (fun h => ?_)
  · refine jr_aload_n hC (D_X12_plain.g 30 rfl) 0 rfl ?_
    refine jr_getR hC fl_X12_70 rfl (D_X12_plain.g 31 rfl) h (fun r11 h => ?_)
    refine jr_iconst hC (D_X12_plain.g 32 rfl) ?_
    refine jr_iload_n hC (D_X12_plain.g 33 rfl) 1 rfl ?_
    refine jr_imul hC (D_X12_plain.g 34 rfl) ?_
    refine jr_iload_n hC (D_X12_plain.g 35 rfl) 2 rfl ?_
    refine jr_iadd hC (D_X12_plain.g 36 rfl) ?_
    refine jr_iconst hC (D_X12_plain.g 37 rfl) ?_
    refine jr_iast hC (D_X12_plain.g 38 rfl) h (fun M12 _ h => ?_)
    refine jr_aload_n hC (D_X12_plain.g 39 rfl) 0 rfl ?_
    refine jr_getR hC fl_X12_73 rfl (D_X12_plain.g 40 rfl) h (fun r13 h => ?_)
    refine jr_iconst hC (D_X12_plain.g 41 rfl) ?_
    refine jr_iload_n hC (D_X12_plain.g 42 rfl) 1 rfl ?_
    refine jr_imul hC (D_X12_plain.g 43 rfl) ?_
    refine jr_iload_n hC (D_X12_plain.g 44 rfl) 2 rfl ?_
    refine jr_iadd hC (D_X12_plain.g 45 rfl) ?_
    refine jr_iconst hC (D_X12_plain.g 46 rfl) ?_
    refine jr_iast hC (D_X12_plain.g 47 rfl) h (fun M14 _ h => ?_)
    refine jr_iinc hC (D_X12_plain.g 48 rfl) 2 rfl (by decide) rfl ?_
    refine jr_goto hC (D_X12_plain.g 49 rfl) 37 rfl ?_
    refine jr_pick [1, 2, 0] rfl ?_
    exact hrec_37 (y2_37 + 1) M14 h
  exact jr_vret hC (D_X12_plain.g 50 rfl) hr hE h
def f_X12_appends (x0 : Int) (x2 : Int) (M : jMem) : Option (Int × jMem) :=
jjq (fun (z0_21 : Int) =>
some (z0_21, M)) fun j_21 =>
if jd_wr x2 = 0 then (j_21 x0)
else (j_21 ((27 * x0) + (jd_wr ((x2 - 97) + 1))))
theorem D_X12_appends : jDs cX12_appends [(0, .iload_n 2, 1, 1), (1, .ifCond .ne 7, 3, 4), (4, .lload_n 0, 1, 5), (5, .goto 16, 3, 8), (8, .ldc2_w 187, 3, 11), (11, .lload_n 0, 1, 12), (12, .lmul, 1, 13), (13, .iload_n 2, 1, 14), (14, .bipush 97, 2, 16), (16, .isub, 1, 17), (17, .iconst 1, 1, 18), (18, .iadd, 1, 19), (19, .i2l, 1, 20), (20, .ladd, 1, 21), (21, .lreturn, 1, 22)] := by unfold jDs; decide +kernel
set_option maxRecDepth 100000 in
set_option maxHeartbeats 4000000 in
theorem c_X12_appends {E : jE} {x0 : Int} {x2 : Int} {M : jMem} {r : Int} {M' : jMem} (h : f_X12_appends x0 x2 M = some (r, M')) : jMet E yX12_appends cX12_appends 3 (some .long) 2 0 0 [q_l x0, q_i x2] M (some (q_l r)) M' := by
  unfold f_X12_appends at h
  refine jMet.of RX12 rfl (by decide +kernel) (Nat.le_of_ble_eq_true rfl) [(0, q_l x0), (2, q_i x2)] rfl (fun X hC hE hr hn => ?_)
  refine jr_iload_n hC (D_X12_appends.g 0 rfl) 1 rfl ?_
  refine jr_join h (fun j => ∀ (z0_21 : Int), j z0_21 = some (r, M') → JW E X 3 0 0 M 21 [] [q_l z0_21]) ?_ ?_
  · intro z0_21 h
    exact jr_lret hC (D_X12_appends.g 14 rfl) hr hE h
  intro j_21 hj_21 h
  refine jr_if_ne hC (D_X12_appends.g 1 rfl) 8 rfl h (fun h => ?_) (fun h => ?_)
  · refine jr_lload_n hC (D_X12_appends.g 2 rfl) 0 rfl ?_
    refine jr_goto hC (D_X12_appends.g 3 rfl) 21 rfl ?_
    refine jr_pick [] rfl ?_
    exact hj_21 x0 h
  refine jr_ldc2 hC (27) (jt_in (i := 1350) (by decide +kernel) rfl) (D_X12_appends.g 4 rfl) ?_
  refine jr_lload_n hC (D_X12_appends.g 5 rfl) 0 rfl ?_
  refine jr_lmul hC (D_X12_appends.g 6 rfl) ?_
  refine jr_iload_n hC (D_X12_appends.g 7 rfl) 1 rfl ?_
  refine jr_bipush hC (D_X12_appends.g 8 rfl) bp_97 ?_
  refine jr_isub hC (D_X12_appends.g 9 rfl) ?_
  refine jr_iconst hC (D_X12_appends.g 10 rfl) ?_
  refine jr_iadd hC (D_X12_appends.g 11 rfl) ?_
  refine jr_i2l hC (D_X12_appends.g 12 rfl) ?_
  refine jr_ladd hC (D_X12_appends.g 13 rfl) ?_
  refine jr_pick [] rfl ?_
  exact hj_21 ((27 * x0) + (jd_wr ((x2 - 97) + 1))) h
def f_X12_word (x0 : Int) (x1 : Int) (x2 : Int) (x3 : Int) (x4 : Int) (x5 : Int) (x6 : Int) (M : jMem) : Option (Int × jMem) :=
jbd (f_X12_appends 0 x0 M) fun v1 M2 =>
jbd (f_X12_appends v1 x1 M2) fun v3 M4 =>
jbd (f_X12_appends v3 x2 M4) fun v5 M6 =>
jbd (f_X12_appends v5 x3 M6) fun v7 M8 =>
jbd (f_X12_appends v7 x4 M8) fun v9 M10 =>
jbd (f_X12_appends v9 x5 M10) fun v11 M12 =>
jbd (f_X12_appends v11 x6 M12) fun v13 M14 =>
some (v13, M14)
theorem D_X12_word : jDs cX12_word [(0, .lconst 0, 1, 1), (1, .iload_n 0, 1, 2), (2, .invokestatic 189, 3, 5), (5, .iload_n 1, 1, 6), (6, .invokestatic 189, 3, 9), (9, .iload_n 2, 1, 10), (10, .invokestatic 189, 3, 13), (13, .iload_n 3, 1, 14), (14, .invokestatic 189, 3, 17), (17, .iload 4, 2, 19), (19, .invokestatic 189, 3, 22), (22, .iload 5, 2, 24), (24, .invokestatic 189, 3, 27), (27, .iload 6, 2, 29), (29, .invokestatic 189, 3, 32), (32, .lreturn, 1, 33)] := by unfold jDs; decide +kernel
set_option maxRecDepth 100000 in
set_option maxHeartbeats 4000000 in
theorem c_X12_word {E : jE} {x0 : Int} {x1 : Int} {x2 : Int} {x3 : Int} {x4 : Int} {x5 : Int} {x6 : Int} {M : jMem} {r : Int} {M' : jMem} (h : f_X12_word x0 x1 x2 x3 x4 x5 x6 M = some (r, M')) : jMet E yX12_word cX12_word 7 (some .long) 3 0 0 [q_i x0, q_i x1, q_i x2, q_i x3, q_i x4, q_i x5, q_i x6] M (some (q_l r)) M' := by
  unfold f_X12_word at h
  refine jMet.of RX12 rfl (by decide +kernel) (Nat.le_of_ble_eq_true rfl) [(0, q_i x0), (1, q_i x1), (2, q_i x2), (3, q_i x3), (4, q_i x4), (5, q_i x5), (6, q_i x6)] rfl (fun X hC hE hr hn => ?_)
  refine jr_lconst hC 0 (D_X12_word.g 0 rfl) (by decide +kernel) ?_
  refine jr_iload_n hC (D_X12_word.g 1 rfl) 0 rfl ?_
  refine jr_cSl hC cl_X12_189 (D_X12_word.g 2 rfl) [q_l 0, q_i x0] h (fun r M' e => c_X12_appends e) rfl rfl ⟨by decide, by decide⟩ (Nat.le_of_ble_eq_true rfl) ⟨Nat.le_of_ble_eq_true rfl, Nat.le_of_ble_eq_true rfl⟩ (fun v1 M2 h => ?_)
  refine jr_iload_n hC (D_X12_word.g 3 rfl) 1 rfl ?_
  refine jr_cSl hC cl_X12_189 (D_X12_word.g 4 rfl) [q_l v1, q_i x1] h (fun r M' e => c_X12_appends e) rfl rfl ⟨by decide, by decide⟩ (Nat.le_of_ble_eq_true rfl) ⟨Nat.le_of_ble_eq_true rfl, Nat.le_of_ble_eq_true rfl⟩ (fun v3 M4 h => ?_)
  refine jr_iload_n hC (D_X12_word.g 5 rfl) 2 rfl ?_
  refine jr_cSl hC cl_X12_189 (D_X12_word.g 6 rfl) [q_l v3, q_i x2] h (fun r M' e => c_X12_appends e) rfl rfl ⟨by decide, by decide⟩ (Nat.le_of_ble_eq_true rfl) ⟨Nat.le_of_ble_eq_true rfl, Nat.le_of_ble_eq_true rfl⟩ (fun v5 M6 h => ?_)
  refine jr_iload_n hC (D_X12_word.g 7 rfl) 3 rfl ?_
  refine jr_cSl hC cl_X12_189 (D_X12_word.g 8 rfl) [q_l v5, q_i x3] h (fun r M' e => c_X12_appends e) rfl rfl ⟨by decide, by decide⟩ (Nat.le_of_ble_eq_true rfl) ⟨Nat.le_of_ble_eq_true rfl, Nat.le_of_ble_eq_true rfl⟩ (fun v7 M8 h => ?_)
  refine jr_iload hC (D_X12_word.g 9 rfl) 4 rfl ?_
  refine jr_cSl hC cl_X12_189 (D_X12_word.g 10 rfl) [q_l v7, q_i x4] h (fun r M' e => c_X12_appends e) rfl rfl ⟨by decide, by decide⟩ (Nat.le_of_ble_eq_true rfl) ⟨Nat.le_of_ble_eq_true rfl, Nat.le_of_ble_eq_true rfl⟩ (fun v9 M10 h => ?_)
  refine jr_iload hC (D_X12_word.g 11 rfl) 5 rfl ?_
  refine jr_cSl hC cl_X12_189 (D_X12_word.g 12 rfl) [q_l v9, q_i x5] h (fun r M' e => c_X12_appends e) rfl rfl ⟨by decide, by decide⟩ (Nat.le_of_ble_eq_true rfl) ⟨Nat.le_of_ble_eq_true rfl, Nat.le_of_ble_eq_true rfl⟩ (fun v11 M12 h => ?_)
  refine jr_iload hC (D_X12_word.g 13 rfl) 6 rfl ?_
  refine jr_cSl hC cl_X12_189 (D_X12_word.g 14 rfl) [q_l v11, q_i x6] h (fun r M' e => c_X12_appends e) rfl rfl ⟨by decide, by decide⟩ (Nat.le_of_ble_eq_true rfl) ⟨Nat.le_of_ble_eq_true rfl, Nat.le_of_ble_eq_true rfl⟩ (fun v13 M14 h => ?_)
  exact jr_lret hC (D_X12_word.g 15 rfl) hr hE h
def f_X12_w (th : Nat) (M : jMem) : Option (Int × jMem) :=
(jm_gR 12 20 M th).bind fun r1 =>
(jm_gI 12 18 M th).bind fun v2 =>
(jm_ld 20 M r1 v2).bind fun v3 =>
some (v3, M)
theorem D_X12_w : jDs cX12_w [(0, .aload_n 0, 1, 1), (1, .getfield 40, 3, 4), (4, .aload_n 0, 1, 5), (5, .getfield 245, 3, 8), (8, .iaload, 1, 9), (9, .ireturn, 1, 10)] := by unfold jDs; decide +kernel
set_option maxRecDepth 100000 in
set_option maxHeartbeats 4000000 in
theorem c_X12_w {E : jE} {th : Nat} {M : jMem} {r : Int} {M' : jMem} (h : f_X12_w th M = some (r, M')) : jMet E yX12_w cX12_w 1 (some .int) 2 0 0 [q_r E th] M (some (q_i r)) M' := by
  unfold f_X12_w at h
  refine jMet.of RX12 rfl (by decide +kernel) (Nat.le_of_ble_eq_true rfl) [(0, q_r E th)] rfl (fun X hC hE hr hn => ?_)
  refine jr_aload_n hC (D_X12_w.g 0 rfl) 0 rfl ?_
  refine jr_getR hC fl_X12_40 rfl (D_X12_w.g 1 rfl) h (fun r1 h => ?_)
  refine jr_aload_n hC (D_X12_w.g 2 rfl) 0 rfl ?_
  refine jr_getI hC fl_X12_245 rfl (D_X12_w.g 3 rfl) h (fun v2 h => ?_)
  refine jr_iald hC (D_X12_w.g 4 rfl) h (fun v3 h => ?_)
  exact jr_iret hC (D_X12_w.g 5 rfl) hr hE h
def f_X12_begins (th : Nat) (M : jMem) : Option (Int × jMem) :=
jlp2 (fun rec_2 (y1_2 : Int) (M_2 : jMem) =>
if jd_wr y1_2 < jd_wr 75 then ((jm_gR 12 48 M_2 th).bind fun r1 =>
jjq (fun (z0_25 : Int) =>
(jm_st 20 M_2 r1 y1_2 z0_25).bind fun M2 =>
rec_2 (y1_2 + 1) M2) fun j_25 =>
if jd_wr y1_2 < jd_wr 18 then (j_25 (-2))
else (j_25 0))
else (jlp2 (fun rec_34 (y1_34 : Int) (M_34 : jMem) =>
if jd_wr y1_34 < jd_wr 36 then ((jm_gR 12 50 M_34 th).bind fun r3 =>
(jm_st 22 M_34 r3 y1_34 (jd_z 0)).bind fun M4 =>
rec_34 (y1_34 + 1) M4)
else ((jm_gI 12 18 M_34 th).bind fun v5 =>
jlp2 (fun rec_61 (y1_61 : Int) (M_61 : jMem) =>
(jm_gI 12 18 M_61 th).bind fun v6 =>
(jm_gR 12 22 M_61 th).bind fun r7 =>
(jm_gI 12 18 M_61 th).bind fun v8 =>
(jm_ld 20 M_61 r7 v8).bind fun v9 =>
if jd_wr y1_61 < jd_wr ((12 * v6) + v9) then ((jm_gR 12 50 M_61 th).bind fun r10 =>
jcall 12 M_61 th (f_X12_w th M_61) fun v11 M12 =>
(jm_gR 12 24 M12 th).bind fun r13 =>
(jm_ld 20 M12 r13 y1_61).bind fun v14 =>
(jm_gR 12 23 M12 th).bind fun r15 =>
(jm_ld 20 M12 r15 y1_61).bind fun v16 =>
(jm_st 22 M12 r10 ((v11 * v14) + v16) (jd_z 1)).bind fun M17 =>
rec_61 (y1_61 + 1) M17)
else (jlp2 (fun rec_114 (y1_114 : Int) (M_114 : jMem) =>
(jm_gR 12 25 M_114 th).bind fun r18 =>
(jm_gI 12 18 M_114 th).bind fun v19 =>
(jm_ld 20 M_114 r18 v19).bind fun v20 =>
if jd_wr y1_114 < jd_wr v20 then ((jm_gR 12 48 M_114 th).bind fun r21 =>
jcall 12 M_114 th (f_X12_w th M_114) fun v22 M23 =>
(jm_gR 12 27 M23 th).bind fun r24 =>
(jm_gI 12 18 M23 th).bind fun v25 =>
(jm_ld 20 M23 r24 ((18 * v25) + y1_114)).bind fun v26 =>
(jm_gR 12 26 M23 th).bind fun r27 =>
(jm_gI 12 18 M23 th).bind fun v28 =>
(jm_ld 20 M23 r27 ((18 * v28) + y1_114)).bind fun v29 =>
(jm_st 20 M23 r21 y1_114 ((v22 * v26) + v29)).bind fun M30 =>
(jm_gR 12 48 M30 th).bind fun r31 =>
(jm_gR 12 28 M30 th).bind fun r32 =>
(jm_gI 12 18 M30 th).bind fun v33 =>
(jm_ld 20 M30 r32 ((18 * v33) + y1_114)).bind fun v34 =>
(jm_st 20 M30 r31 (18 + y1_114) v34).bind fun M35 =>
rec_114 (y1_114 + 1) M35)
else ((jm_gR 12 29 M_114 th).bind fun r36 =>
(jm_gI 12 18 M_114 th).bind fun v37 =>
(jm_ld 20 M_114 r36 v37).bind fun v38 =>
(jm_pI 12 49 M_114 th v38).bind fun M39 =>
some (0, M39))) jfuel 0 M_61)) jfuel (12 * v5) M_34)) jfuel 0 M_2)) jfuel 0 M
theorem D_X12_begins : jDs cX12_begins [(0, .iconst 0, 1, 1), (1, .istore_n 1, 1, 2), (2, .iload_n 1, 1, 3), (3, .bipush 75, 2, 5), (5, .if_icmp .ge 27, 3, 8), (8, .aload_n 0, 1, 9), (9, .getfield 113, 3, 12), (12, .iload_n 1, 1, 13), (13, .iload_n 1, 1, 14), (14, .bipush 18, 2, 16), (16, .if_icmp .ge 8, 3, 19), (19, .bipush (-2), 2, 21), (21, .goto 4, 3, 24), (24, .iconst 0, 1, 25), (25, .iastore, 1, 26), (26, .iinc 1 1, 3, 29), (29, .goto (-27), 3, 32), (32, .iconst 0, 1, 33), (33, .istore_n 1, 1, 34), (34, .iload_n 1, 1, 35), (35, .bipush 36, 2, 37), (37, .if_icmp .ge 16, 3, 40), (40, .aload_n 0, 1, 41), (41, .getfield 116, 3, 44), (44, .iload_n 1, 1, 45), (45, .iconst 0, 1, 46), (46, .bastore, 1, 47), (47, .iinc 1 1, 3, 50), (50, .goto (-16), 3, 53), (53, .bipush 12, 2, 55), (55, .aload_n 0, 1, 56), (56, .getfield 245, 3, 59), (59, .imul, 1, 60), (60, .istore_n 1, 1, 61), (61, .iload_n 1, 1, 62), (62, .bipush 12, 2, 64), (64, .aload_n 0, 1, 65), (65, .getfield 245, 3, 68), (68, .imul, 1, 69), (69, .aload_n 0, 1, 70), (70, .getfield 46, 3, 73), (73, .aload_n 0, 1, 74), (74, .getfield 245, 3, 77), (77, .iaload, 1, 78), (78, .iadd, 1, 79), (79, .if_icmp .ge 33, 3, 82), (82, .aload_n 0, 1, 83), (83, .getfield 116, 3, 86), (86, .aload_n 0, 1, 87), (87, .invokevirtual 322, 3, 90), (90, .aload_n 0, 1, 91), (91, .getfield 52, 3, 94), (94, .iload_n 1, 1, 95), (95, .iaload, 1, 96), (96, .imul, 1, 97), (97, .aload_n 0, 1, 98), (98, .getfield 49, 3, 101), (101, .iload_n 1, 1, 102), (102, .iaload, 1, 103), (103, .iadd, 1, 104), (104, .iconst 1, 1, 105), (105, .bastore, 1, 106), (106, .iinc 1 1, 3, 109), (109, .goto (-48), 3, 112), (112, .iconst 0, 1, 113), (113, .istore_n 1, 1, 114), (114, .iload_n 1, 1, 115), (115, .aload_n 0, 1, 116), (116, .getfield 55, 3, 119), (119, .aload_n 0, 1, 120), (120, .getfield 245, 3, 123), (123, .iaload, 1, 124), (124, .if_icmp .ge 72, 3, 127), (127, .aload_n 0, 1, 128), (128, .getfield 113, 3, 131), (131, .iload_n 1, 1, 132), (132, .aload_n 0, 1, 133), (133, .invokevirtual 322, 3, 136), (136, .aload_n 0, 1, 137), (137, .getfield 61, 3, 140), (140, .bipush 18, 2, 142), (142, .aload_n 0, 1, 143), (143, .getfield 245, 3, 146), (146, .imul, 1, 147), (147, .iload_n 1, 1, 148), (148, .iadd, 1, 149), (149, .iaload, 1, 150), (150, .imul, 1, 151), (151, .aload_n 0, 1, 152), (152, .getfield 58, 3, 155), (155, .bipush 18, 2, 157), (157, .aload_n 0, 1, 158), (158, .getfield 245, 3, 161), (161, .imul, 1, 162), (162, .iload_n 1, 1, 163), (163, .iadd, 1, 164), (164, .iaload, 1, 165), (165, .iadd, 1, 166), (166, .iastore, 1, 167), (167, .aload_n 0, 1, 168), (168, .getfield 113, 3, 171), (171, .bipush 18, 2, 173), (173, .iload_n 1, 1, 174), (174, .iadd, 1, 175), (175, .aload_n 0, 1, 176), (176, .getfield 64, 3, 179), (179, .bipush 18, 2, 181), (181, .aload_n 0, 1, 182), (182, .getfield 245, 3, 185), (185, .imul, 1, 186), (186, .iload_n 1, 1, 187), (187, .iadd, 1, 188), (188, .iaload, 1, 189), (189, .iastore, 1, 190), (190, .iinc 1 1, 3, 193), (193, .goto (-79), 3, 196), (196, .aload_n 0, 1, 197), (197, .aload_n 0, 1, 198), (198, .getfield 67, 3, 201), (201, .aload_n 0, 1, 202), (202, .getfield 245, 3, 205), (205, .iaload, 1, 206), (206, .putfield 325, 3, 209), (209, .return_, 1, 210)] := by unfold jDs; decide +kernel
set_option maxRecDepth 100000 in
set_option maxHeartbeats 4000000 in
theorem c_X12_begins {E : jE} {th : Nat} {M : jMem} {r : Int} {M' : jMem} (h : f_X12_begins th M = some (r, M')) : jMet E yX12_begins cX12_begins 2 (none) 3 0 0 [q_r E th] M (none) M' := by
  unfold f_X12_begins at h
  refine jMet.of RX12 rfl (by decide +kernel) (Nat.le_of_ble_eq_true rfl) [(0, q_r E th)] rfl (fun X hC hE hr hn => ?_)
  refine jr_iconst hC (D_X12_begins.g 0 rfl) ?_
  refine jr_istore_n hC (D_X12_begins.g 1 rfl) (by decide) rfl ?_
  refine jr_pick [1, 0] rfl ?_
  refine jr_lp2 (fun (y1_2 : Int) (M_2 : jMem) => JW E X 2 0 0 M_2 2 [(0, q_r E th), (1, q_i y1_2)] []) ?_ jfuel 0 M h
  intro rec_2 hrec_2 y1_2 M_2 h
  refine jr_iload_n hC (D_X12_begins.g 2 rfl) 1 rfl ?_
  refine jr_bipush hC (D_X12_begins.g 3 rfl) bp_75 ?_
  refine jr_icmp_ge hC (D_X12_begins.g 4 rfl) 32 rfl h (fun h => ?_) (fun h => ?_)
  · refine jr_aload_n hC (D_X12_begins.g 5 rfl) 0 rfl ?_
    refine jr_getR hC fl_X12_113 rfl (D_X12_begins.g 6 rfl) h (fun r1 h => ?_)
    refine jr_iload_n hC (D_X12_begins.g 7 rfl) 1 rfl ?_
    refine jr_iload_n hC (D_X12_begins.g 8 rfl) 1 rfl ?_
    refine jr_bipush hC (D_X12_begins.g 9 rfl) bp_18 ?_
    refine jr_join h (fun j => ∀ (z0_25 : Int), j z0_25 = some (r, M') → JW E X 2 0 0 M_2 25 [(0, q_r E th), (1, q_i y1_2)] [q_i z0_25, q_i y1_2, q_r E r1]) ?_ ?_
    · intro z0_25 h
      refine jr_iast hC (D_X12_begins.g 14 rfl) h (fun M2 _ h => ?_)
      refine jr_iinc hC (D_X12_begins.g 15 rfl) 1 rfl (by decide) rfl ?_
      refine jr_goto hC (D_X12_begins.g 16 rfl) 2 rfl ?_
      refine jr_pick [1, 0] rfl ?_
      exact hrec_2 (y1_2 + 1) M2 h
    intro j_25 hj_25 h
    refine jr_icmp_ge hC (D_X12_begins.g 10 rfl) 24 rfl h (fun h => ?_) (fun h => ?_)
    · refine jr_bipush hC (D_X12_begins.g 11 rfl) bp_m2 ?_
      refine jr_goto hC (D_X12_begins.g 12 rfl) 25 rfl ?_
      exact hj_25 (-2) h
    refine jr_iconst hC (D_X12_begins.g 13 rfl) ?_
    exact hj_25 0 h
  refine jr_iconst hC (D_X12_begins.g 17 rfl) ?_
  refine jr_istore_n hC (D_X12_begins.g 18 rfl) (by decide) rfl ?_
  refine jr_pick [1, 0] rfl ?_
  refine jr_lp2 (fun (y1_34 : Int) (M_34 : jMem) => JW E X 2 0 0 M_34 34 [(0, q_r E th), (1, q_i y1_34)] []) ?_ jfuel 0 M_2 h
  intro rec_34 hrec_34 y1_34 M_34 h
  refine jr_iload_n hC (D_X12_begins.g 19 rfl) 1 rfl ?_
  refine jr_bipush hC (D_X12_begins.g 20 rfl) bp_36 ?_
  refine jr_icmp_ge hC (D_X12_begins.g 21 rfl) 53 rfl h (fun h => ?_) (fun h => ?_)
  · refine jr_aload_n hC (D_X12_begins.g 22 rfl) 0 rfl ?_
    refine jr_getR hC fl_X12_116 rfl (D_X12_begins.g 23 rfl) h (fun r3 h => ?_)
    refine jr_iload_n hC (D_X12_begins.g 24 rfl) 1 rfl ?_
    refine jr_iconst hC (D_X12_begins.g 25 rfl) ?_
    refine jr_zast hC (D_X12_begins.g 26 rfl) h (fun M4 _ h => ?_)
    refine jr_iinc hC (D_X12_begins.g 27 rfl) 1 rfl (by decide) rfl ?_
    refine jr_goto hC (D_X12_begins.g 28 rfl) 34 rfl ?_
    refine jr_pick [1, 0] rfl ?_
    exact hrec_34 (y1_34 + 1) M4 h
  refine jr_bipush hC (D_X12_begins.g 29 rfl) bp_12 ?_
  refine jr_aload_n hC (D_X12_begins.g 30 rfl) 0 rfl ?_
  refine jr_getI hC fl_X12_245 rfl (D_X12_begins.g 31 rfl) h (fun v5 h => ?_)
  refine jr_imul hC (D_X12_begins.g 32 rfl) ?_
  refine jr_istore_n hC (D_X12_begins.g 33 rfl) (by decide) rfl ?_
  refine jr_pick [1, 0] rfl ?_
  refine jr_lp2 (fun (y1_61 : Int) (M_61 : jMem) => JW E X 2 0 0 M_61 61 [(0, q_r E th), (1, q_i y1_61)] []) ?_ jfuel (12 * v5) M_34 h
  intro rec_61 hrec_61 y1_61 M_61 h
  refine jr_iload_n hC (D_X12_begins.g 34 rfl) 1 rfl ?_
  refine jr_bipush hC (D_X12_begins.g 35 rfl) bp_12 ?_
  refine jr_aload_n hC (D_X12_begins.g 36 rfl) 0 rfl ?_
  refine jr_getI hC fl_X12_245 rfl (D_X12_begins.g 37 rfl) h (fun v6 h => ?_)
  refine jr_imul hC (D_X12_begins.g 38 rfl) ?_
  refine jr_aload_n hC (D_X12_begins.g 39 rfl) 0 rfl ?_
  refine jr_getR hC fl_X12_46 rfl (D_X12_begins.g 40 rfl) h (fun r7 h => ?_)
  refine jr_aload_n hC (D_X12_begins.g 41 rfl) 0 rfl ?_
  refine jr_getI hC fl_X12_245 rfl (D_X12_begins.g 42 rfl) h (fun v8 h => ?_)
  refine jr_iald hC (D_X12_begins.g 43 rfl) h (fun v9 h => ?_)
  refine jr_iadd hC (D_X12_begins.g 44 rfl) ?_
  refine jr_icmp_ge hC (D_X12_begins.g 45 rfl) 112 rfl h (fun h => ?_) (fun h => ?_)
  · refine jr_aload_n hC (D_X12_begins.g 46 rfl) 0 rfl ?_
    refine jr_getR hC fl_X12_116 rfl (D_X12_begins.g 47 rfl) h (fun r10 h => ?_)
    refine jr_aload_n hC (D_X12_begins.g 48 rfl) 0 rfl ?_
    refine jr_cVi hC cl_X12_322 ⟨rfl, by decide⟩ (D_X12_begins.g 49 rfl) [] h (fun r M' e => c_X12_w e) rfl rfl ⟨by decide, by decide⟩ (Nat.le_of_ble_eq_true rfl) ⟨Nat.le_of_ble_eq_true rfl, Nat.le_of_ble_eq_true rfl⟩ (fun v11 M12 h => ?_)
    refine jr_aload_n hC (D_X12_begins.g 50 rfl) 0 rfl ?_
    refine jr_getR hC fl_X12_52 rfl (D_X12_begins.g 51 rfl) h (fun r13 h => ?_)
    refine jr_iload_n hC (D_X12_begins.g 52 rfl) 1 rfl ?_
    refine jr_iald hC (D_X12_begins.g 53 rfl) h (fun v14 h => ?_)
    refine jr_imul hC (D_X12_begins.g 54 rfl) ?_
    refine jr_aload_n hC (D_X12_begins.g 55 rfl) 0 rfl ?_
    refine jr_getR hC fl_X12_49 rfl (D_X12_begins.g 56 rfl) h (fun r15 h => ?_)
    refine jr_iload_n hC (D_X12_begins.g 57 rfl) 1 rfl ?_
    refine jr_iald hC (D_X12_begins.g 58 rfl) h (fun v16 h => ?_)
    refine jr_iadd hC (D_X12_begins.g 59 rfl) ?_
    refine jr_iconst hC (D_X12_begins.g 60 rfl) ?_
    refine jr_zast hC (D_X12_begins.g 61 rfl) h (fun M17 _ h => ?_)
    refine jr_iinc hC (D_X12_begins.g 62 rfl) 1 rfl (by decide) rfl ?_
    refine jr_goto hC (D_X12_begins.g 63 rfl) 61 rfl ?_
    refine jr_pick [1, 0] rfl ?_
    exact hrec_61 (y1_61 + 1) M17 h
  refine jr_iconst hC (D_X12_begins.g 64 rfl) ?_
  refine jr_istore_n hC (D_X12_begins.g 65 rfl) (by decide) rfl ?_
  refine jr_pick [1, 0] rfl ?_
  refine jr_lp2 (fun (y1_114 : Int) (M_114 : jMem) => JW E X 2 0 0 M_114 114 [(0, q_r E th), (1, q_i y1_114)] []) ?_ jfuel 0 M_61 h
  intro rec_114 hrec_114 y1_114 M_114 h
  refine jr_iload_n hC (D_X12_begins.g 66 rfl) 1 rfl ?_
  refine jr_aload_n hC (D_X12_begins.g 67 rfl) 0 rfl ?_
  refine jr_getR hC fl_X12_55 rfl (D_X12_begins.g 68 rfl) h (fun r18 h => ?_)
  refine jr_aload_n hC (D_X12_begins.g 69 rfl) 0 rfl ?_
  refine jr_getI hC fl_X12_245 rfl (D_X12_begins.g 70 rfl) h (fun v19 h => ?_)
  refine jr_iald hC (D_X12_begins.g 71 rfl) h (fun v20 h => ?_)
  refine jr_icmp_ge hC (D_X12_begins.g 72 rfl) 196 rfl h (fun h => ?_) (fun h => ?_)
  · refine jr_aload_n hC (D_X12_begins.g 73 rfl) 0 rfl ?_
    refine jr_getR hC fl_X12_113 rfl (D_X12_begins.g 74 rfl) h (fun r21 h => ?_)
    refine jr_iload_n hC (D_X12_begins.g 75 rfl) 1 rfl ?_
    refine jr_aload_n hC (D_X12_begins.g 76 rfl) 0 rfl ?_
    refine jr_cVi hC cl_X12_322 ⟨rfl, by decide⟩ (D_X12_begins.g 77 rfl) [] h (fun r M' e => c_X12_w e) rfl rfl ⟨by decide, by decide⟩ (Nat.le_of_ble_eq_true rfl) ⟨Nat.le_of_ble_eq_true rfl, Nat.le_of_ble_eq_true rfl⟩ (fun v22 M23 h => ?_)
    refine jr_aload_n hC (D_X12_begins.g 78 rfl) 0 rfl ?_
    refine jr_getR hC fl_X12_61 rfl (D_X12_begins.g 79 rfl) h (fun r24 h => ?_)
    refine jr_bipush hC (D_X12_begins.g 80 rfl) bp_18 ?_
    refine jr_aload_n hC (D_X12_begins.g 81 rfl) 0 rfl ?_
    refine jr_getI hC fl_X12_245 rfl (D_X12_begins.g 82 rfl) h (fun v25 h => ?_)
    refine jr_imul hC (D_X12_begins.g 83 rfl) ?_
    refine jr_iload_n hC (D_X12_begins.g 84 rfl) 1 rfl ?_
    refine jr_iadd hC (D_X12_begins.g 85 rfl) ?_
    refine jr_iald hC (D_X12_begins.g 86 rfl) h (fun v26 h => ?_)
    refine jr_imul hC (D_X12_begins.g 87 rfl) ?_
    refine jr_aload_n hC (D_X12_begins.g 88 rfl) 0 rfl ?_
    refine jr_getR hC fl_X12_58 rfl (D_X12_begins.g 89 rfl) h (fun r27 h => ?_)
    refine jr_bipush hC (D_X12_begins.g 90 rfl) bp_18 ?_
    refine jr_aload_n hC (D_X12_begins.g 91 rfl) 0 rfl ?_
    refine jr_getI hC fl_X12_245 rfl (D_X12_begins.g 92 rfl) h (fun v28 h => ?_)
    refine jr_imul hC (D_X12_begins.g 93 rfl) ?_
    refine jr_iload_n hC (D_X12_begins.g 94 rfl) 1 rfl ?_
    refine jr_iadd hC (D_X12_begins.g 95 rfl) ?_
    refine jr_iald hC (D_X12_begins.g 96 rfl) h (fun v29 h => ?_)
    refine jr_iadd hC (D_X12_begins.g 97 rfl) ?_
    refine jr_iast hC (D_X12_begins.g 98 rfl) h (fun M30 _ h => ?_)
    refine jr_aload_n hC (D_X12_begins.g 99 rfl) 0 rfl ?_
    refine jr_getR hC fl_X12_113 rfl (D_X12_begins.g 100 rfl) h (fun r31 h => ?_)
    refine jr_bipush hC (D_X12_begins.g 101 rfl) bp_18 ?_
    refine jr_iload_n hC (D_X12_begins.g 102 rfl) 1 rfl ?_
    refine jr_iadd hC (D_X12_begins.g 103 rfl) ?_
    refine jr_aload_n hC (D_X12_begins.g 104 rfl) 0 rfl ?_
    refine jr_getR hC fl_X12_64 rfl (D_X12_begins.g 105 rfl) h (fun r32 h => ?_)
    refine jr_bipush hC (D_X12_begins.g 106 rfl) bp_18 ?_
    refine jr_aload_n hC (D_X12_begins.g 107 rfl) 0 rfl ?_
    refine jr_getI hC fl_X12_245 rfl (D_X12_begins.g 108 rfl) h (fun v33 h => ?_)
    refine jr_imul hC (D_X12_begins.g 109 rfl) ?_
    refine jr_iload_n hC (D_X12_begins.g 110 rfl) 1 rfl ?_
    refine jr_iadd hC (D_X12_begins.g 111 rfl) ?_
    refine jr_iald hC (D_X12_begins.g 112 rfl) h (fun v34 h => ?_)
    refine jr_iast hC (D_X12_begins.g 113 rfl) h (fun M35 _ h => ?_)
    refine jr_iinc hC (D_X12_begins.g 114 rfl) 1 rfl (by decide) rfl ?_
    refine jr_goto hC (D_X12_begins.g 115 rfl) 114 rfl ?_
    refine jr_pick [1, 0] rfl ?_
    exact hrec_114 (y1_114 + 1) M35 h
  refine jr_aload_n hC (D_X12_begins.g 116 rfl) 0 rfl ?_
  refine jr_aload_n hC (D_X12_begins.g 117 rfl) 0 rfl ?_
  refine jr_getR hC fl_X12_67 rfl (D_X12_begins.g 118 rfl) h (fun r36 h => ?_)
  refine jr_aload_n hC (D_X12_begins.g 119 rfl) 0 rfl ?_
  refine jr_getI hC fl_X12_245 rfl (D_X12_begins.g 120 rfl) h (fun v37 h => ?_)
  refine jr_iald hC (D_X12_begins.g 121 rfl) h (fun v38 h => ?_)
  refine jr_putI hC fl_X12_325 rfl (jnfin rfl) (D_X12_begins.g 122 rfl) h (fun M39 _ h => ?_)
  exact jr_vret hC (D_X12_begins.g 123 rfl) hr hE h
def f_X12_keepsRow (th : Nat) (M : jMem) : Option (Int × jMem) :=
jlp2 (fun rec_2 (y1_2 : Int) (M_2 : jMem) =>
if jd_wr y1_2 < jd_wr 75 then ((jm_gR 12 47 M_2 th).bind fun r1 =>
(jm_gR 12 48 M_2 th).bind fun r2 =>
(jm_ld 20 M_2 r2 y1_2).bind fun v3 =>
(jm_st 20 M_2 r1 y1_2 v3).bind fun M4 =>
rec_2 (y1_2 + 1) M4)
else (some (0, M_2))) jfuel 0 M
theorem D_X12_keepsRow : jDs cX12_keepsRow [(0, .iconst 0, 1, 1), (1, .istore_n 1, 1, 2), (2, .iload_n 1, 1, 3), (3, .bipush 75, 2, 5), (5, .if_icmp .ge 21, 3, 8), (8, .aload_n 0, 1, 9), (9, .getfield 110, 3, 12), (12, .iload_n 1, 1, 13), (13, .aload_n 0, 1, 14), (14, .getfield 113, 3, 17), (17, .iload_n 1, 1, 18), (18, .iaload, 1, 19), (19, .iastore, 1, 20), (20, .iinc 1 1, 3, 23), (23, .goto (-21), 3, 26), (26, .return_, 1, 27)] := by unfold jDs; decide +kernel
set_option maxRecDepth 100000 in
set_option maxHeartbeats 4000000 in
theorem c_X12_keepsRow {E : jE} {th : Nat} {M : jMem} {r : Int} {M' : jMem} (h : f_X12_keepsRow th M = some (r, M')) : jMet E yX12_keepsRow cX12_keepsRow 2 (none) 2 0 0 [q_r E th] M (none) M' := by
  unfold f_X12_keepsRow at h
  refine jMet.of RX12 rfl (by decide +kernel) (Nat.le_of_ble_eq_true rfl) [(0, q_r E th)] rfl (fun X hC hE hr hn => ?_)
  refine jr_iconst hC (D_X12_keepsRow.g 0 rfl) ?_
  refine jr_istore_n hC (D_X12_keepsRow.g 1 rfl) (by decide) rfl ?_
  refine jr_pick [1, 0] rfl ?_
  refine jr_lp2 (fun (y1_2 : Int) (M_2 : jMem) => JW E X 2 0 0 M_2 2 [(0, q_r E th), (1, q_i y1_2)] []) ?_ jfuel 0 M h
  intro rec_2 hrec_2 y1_2 M_2 h
  refine jr_iload_n hC (D_X12_keepsRow.g 2 rfl) 1 rfl ?_
  refine jr_bipush hC (D_X12_keepsRow.g 3 rfl) bp_75 ?_
  refine jr_icmp_ge hC (D_X12_keepsRow.g 4 rfl) 26 rfl h (fun h => ?_) (fun h => ?_)
  · refine jr_aload_n hC (D_X12_keepsRow.g 5 rfl) 0 rfl ?_
    refine jr_getR hC fl_X12_110 rfl (D_X12_keepsRow.g 6 rfl) h (fun r1 h => ?_)
    refine jr_iload_n hC (D_X12_keepsRow.g 7 rfl) 1 rfl ?_
    refine jr_aload_n hC (D_X12_keepsRow.g 8 rfl) 0 rfl ?_
    refine jr_getR hC fl_X12_113 rfl (D_X12_keepsRow.g 9 rfl) h (fun r2 h => ?_)
    refine jr_iload_n hC (D_X12_keepsRow.g 10 rfl) 1 rfl ?_
    refine jr_iald hC (D_X12_keepsRow.g 11 rfl) h (fun v3 h => ?_)
    refine jr_iast hC (D_X12_keepsRow.g 12 rfl) h (fun M4 _ h => ?_)
    refine jr_iinc hC (D_X12_keepsRow.g 13 rfl) 1 rfl (by decide) rfl ?_
    refine jr_goto hC (D_X12_keepsRow.g 14 rfl) 2 rfl ?_
    refine jr_pick [1, 0] rfl ?_
    exact hrec_2 (y1_2 + 1) M4 h
  exact jr_vret hC (D_X12_keepsRow.g 15 rfl) hr hE h
def f_X12_put (th : Nat) (x1 : Int) (M : jMem) : Option (Int × jMem) :=
jlp2 (fun rec_3 (y2_3 : Int) (M_3 : jMem) =>
if jd_wr y2_3 < 0 then (some (0, M_3))
else ((jm_gR 12 1 M_3 th).bind fun r1 =>
(jm_gI 12 2 M_3 th).bind fun v2 =>
(jm_st 21 M_3 r1 v2 (jd_b (jd_b (jd_shr x1 y2_3)))).bind fun M3 =>
(jm_gI 12 2 M3 th).bind fun v4 =>
(jm_pI 12 2 M3 th (v4 + 1)).bind fun M5 =>
rec_3 (y2_3 + (-8)) M5)) jfuel 24 M
theorem D_X12_put : jDs cX12_put [(0, .bipush 24, 2, 2), (2, .istore_n 2, 1, 3), (3, .iload_n 2, 1, 4), (4, .ifCond .lt 32, 3, 7), (7, .aload_n 0, 1, 8), (8, .getfield 13, 3, 11), (11, .aload_n 0, 1, 12), (12, .getfield 178, 3, 15), (15, .iload_n 1, 1, 16), (16, .iload_n 2, 1, 17), (17, .ishr, 1, 18), (18, .i2b, 1, 19), (19, .bastore, 1, 20), (20, .aload_n 0, 1, 21), (21, .dup, 1, 22), (22, .getfield 178, 3, 25), (25, .iconst 1, 1, 26), (26, .iadd, 1, 27), (27, .putfield 178, 3, 30), (30, .iinc 2 (-8), 3, 33), (33, .goto (-30), 3, 36), (36, .return_, 1, 37)] := by unfold jDs; decide +kernel
set_option maxRecDepth 100000 in
set_option maxHeartbeats 4000000 in
theorem c_X12_put {E : jE} {th : Nat} {x1 : Int} {M : jMem} {r : Int} {M' : jMem} (h : f_X12_put th x1 M = some (r, M')) : jMet E yX12_put cX12_put 3 (none) 2 0 0 [q_r E th, q_i x1] M (none) M' := by
  unfold f_X12_put at h
  refine jMet.of RX12 rfl (by decide +kernel) (Nat.le_of_ble_eq_true rfl) [(0, q_r E th), (1, q_i x1)] rfl (fun X hC hE hr hn => ?_)
  refine jr_bipush hC (D_X12_put.g 0 rfl) bp_24 ?_
  refine jr_istore_n hC (D_X12_put.g 1 rfl) (by decide) rfl ?_
  refine jr_pick [1, 2, 0] rfl ?_
  refine jr_lp2 (fun (y2_3 : Int) (M_3 : jMem) => JW E X 3 0 0 M_3 3 [(0, q_r E th), (1, q_i x1), (2, q_i y2_3)] []) ?_ jfuel 24 M h
  intro rec_3 hrec_3 y2_3 M_3 h
  refine jr_iload_n hC (D_X12_put.g 2 rfl) 2 rfl ?_
  refine jr_if_lt hC (D_X12_put.g 3 rfl) 36 rfl h (fun h => ?_) (fun h => ?_)
  · exact jr_vret hC (D_X12_put.g 21 rfl) hr hE h
  refine jr_aload_n hC (D_X12_put.g 4 rfl) 0 rfl ?_
  refine jr_getR hC fl_X12_13 rfl (D_X12_put.g 5 rfl) h (fun r1 h => ?_)
  refine jr_aload_n hC (D_X12_put.g 6 rfl) 0 rfl ?_
  refine jr_getI hC fl_X12_178 rfl (D_X12_put.g 7 rfl) h (fun v2 h => ?_)
  refine jr_iload_n hC (D_X12_put.g 8 rfl) 1 rfl ?_
  refine jr_iload_n hC (D_X12_put.g 9 rfl) 2 rfl ?_
  refine jr_ishr hC (D_X12_put.g 10 rfl) ?_
  refine jr_i2b hC (D_X12_put.g 11 rfl) ?_
  refine jr_bast hC (D_X12_put.g 12 rfl) h (fun M3 _ h => ?_)
  refine jr_aload_n hC (D_X12_put.g 13 rfl) 0 rfl ?_
  refine jr_dup hC (D_X12_put.g 14 rfl) rfl ?_
  refine jr_getI hC fl_X12_178 rfl (D_X12_put.g 15 rfl) h (fun v4 h => ?_)
  refine jr_iconst hC (D_X12_put.g 16 rfl) ?_
  refine jr_iadd hC (D_X12_put.g 17 rfl) ?_
  refine jr_putI hC fl_X12_178 rfl (jnfin rfl) (D_X12_put.g 18 rfl) h (fun M5 _ h => ?_)
  refine jr_iinc hC (D_X12_put.g 19 rfl) 2 rfl (by decide) rfl ?_
  refine jr_goto hC (D_X12_put.g 20 rfl) 3 rfl ?_
  refine jr_pick [1, 2, 0] rfl ?_
  exact hrec_3 (y2_3 + (-8)) M5 h
def f_X12_feed (th : Nat) (x1 : Int) (x2 : Int) (x3 : Int) (x4 : Int) (x5 : Int) (M : jMem) : Option (Int × jMem) :=
(jm_gI 12 2 M th).bind fun v1 =>
if jd_wr (v1 + 20) ≤ jd_wr 2000 then (jcall 12 M th (f_X12_put th x1 M) fun _ M3 =>
jcall 12 M3 th (f_X12_put th x2 M3) fun _ M5 =>
jcall 12 M5 th (f_X12_put th x3 M5) fun _ M7 =>
jcall 12 M7 th (f_X12_put th x4 M7) fun _ M9 =>
jcall 12 M9 th (f_X12_put th x5 M9) fun _ M11 =>
(jm_gI 12 2 M11 th).bind fun v12 =>
some (v12, M11))
else (some ((-1), M))
theorem D_X12_feed : jDs cX12_feed [(0, .aload_n 0, 1, 1), (1, .getfield 178, 3, 4), (4, .bipush 20, 2, 6), (6, .iadd, 1, 7), (7, .sipush 2000, 3, 10), (10, .if_icmp .le 5, 3, 13), (13, .iconst (-1), 1, 14), (14, .ireturn, 1, 15), (15, .aload_n 0, 1, 16), (16, .iload_n 1, 1, 17), (17, .invokevirtual 181, 3, 20), (20, .aload_n 0, 1, 21), (21, .iload_n 2, 1, 22), (22, .invokevirtual 181, 3, 25), (25, .aload_n 0, 1, 26), (26, .iload_n 3, 1, 27), (27, .invokevirtual 181, 3, 30), (30, .aload_n 0, 1, 31), (31, .iload 4, 2, 33), (33, .invokevirtual 181, 3, 36), (36, .aload_n 0, 1, 37), (37, .iload 5, 2, 39), (39, .invokevirtual 181, 3, 42), (42, .aload_n 0, 1, 43), (43, .getfield 178, 3, 46), (46, .ireturn, 1, 47)] := by unfold jDs; decide +kernel
set_option maxRecDepth 100000 in
set_option maxHeartbeats 4000000 in
theorem c_X12_feed {E : jE} {th : Nat} {x1 : Int} {x2 : Int} {x3 : Int} {x4 : Int} {x5 : Int} {M : jMem} {r : Int} {M' : jMem} (h : f_X12_feed th x1 x2 x3 x4 x5 M = some (r, M')) : jMet E yX12_feed cX12_feed 6 (some .int) 3 0 0 [q_r E th, q_i x1, q_i x2, q_i x3, q_i x4, q_i x5] M (some (q_i r)) M' := by
  unfold f_X12_feed at h
  refine jMet.of RX12 rfl (by decide +kernel) (Nat.le_of_ble_eq_true rfl) [(0, q_r E th), (1, q_i x1), (2, q_i x2), (3, q_i x3), (4, q_i x4), (5, q_i x5)] rfl (fun X hC hE hr hn => ?_)
  refine jr_aload_n hC (D_X12_feed.g 0 rfl) 0 rfl ?_
  refine jr_getI hC fl_X12_178 rfl (D_X12_feed.g 1 rfl) h (fun v1 h => ?_)
  refine jr_bipush hC (D_X12_feed.g 2 rfl) bp_20 ?_
  refine jr_iadd hC (D_X12_feed.g 3 rfl) ?_
  refine jr_sipush hC (D_X12_feed.g 4 rfl) sp_2000 ?_
  refine jr_icmp_le hC (D_X12_feed.g 5 rfl) 15 rfl h (fun h => ?_) (fun h => ?_)
  · refine jr_aload_n hC (D_X12_feed.g 8 rfl) 0 rfl ?_
    refine jr_iload_n hC (D_X12_feed.g 9 rfl) 1 rfl ?_
    refine jr_cVv hC cl_X12_181 ⟨rfl, by decide⟩ (D_X12_feed.g 10 rfl) [q_i x1] h (fun r M' e => c_X12_put e) rfl rfl ⟨by decide, by decide⟩ (Nat.le_of_ble_eq_true rfl) ⟨Nat.le_of_ble_eq_true rfl, Nat.le_of_ble_eq_true rfl⟩ (fun _ M3 h => ?_)
    refine jr_aload_n hC (D_X12_feed.g 11 rfl) 0 rfl ?_
    refine jr_iload_n hC (D_X12_feed.g 12 rfl) 2 rfl ?_
    refine jr_cVv hC cl_X12_181 ⟨rfl, by decide⟩ (D_X12_feed.g 13 rfl) [q_i x2] h (fun r M' e => c_X12_put e) rfl rfl ⟨by decide, by decide⟩ (Nat.le_of_ble_eq_true rfl) ⟨Nat.le_of_ble_eq_true rfl, Nat.le_of_ble_eq_true rfl⟩ (fun _ M5 h => ?_)
    refine jr_aload_n hC (D_X12_feed.g 14 rfl) 0 rfl ?_
    refine jr_iload_n hC (D_X12_feed.g 15 rfl) 3 rfl ?_
    refine jr_cVv hC cl_X12_181 ⟨rfl, by decide⟩ (D_X12_feed.g 16 rfl) [q_i x3] h (fun r M' e => c_X12_put e) rfl rfl ⟨by decide, by decide⟩ (Nat.le_of_ble_eq_true rfl) ⟨Nat.le_of_ble_eq_true rfl, Nat.le_of_ble_eq_true rfl⟩ (fun _ M7 h => ?_)
    refine jr_aload_n hC (D_X12_feed.g 17 rfl) 0 rfl ?_
    refine jr_iload hC (D_X12_feed.g 18 rfl) 4 rfl ?_
    refine jr_cVv hC cl_X12_181 ⟨rfl, by decide⟩ (D_X12_feed.g 19 rfl) [q_i x4] h (fun r M' e => c_X12_put e) rfl rfl ⟨by decide, by decide⟩ (Nat.le_of_ble_eq_true rfl) ⟨Nat.le_of_ble_eq_true rfl, Nat.le_of_ble_eq_true rfl⟩ (fun _ M9 h => ?_)
    refine jr_aload_n hC (D_X12_feed.g 20 rfl) 0 rfl ?_
    refine jr_iload hC (D_X12_feed.g 21 rfl) 5 rfl ?_
    refine jr_cVv hC cl_X12_181 ⟨rfl, by decide⟩ (D_X12_feed.g 22 rfl) [q_i x5] h (fun r M' e => c_X12_put e) rfl rfl ⟨by decide, by decide⟩ (Nat.le_of_ble_eq_true rfl) ⟨Nat.le_of_ble_eq_true rfl, Nat.le_of_ble_eq_true rfl⟩ (fun _ M11 h => ?_)
    refine jr_aload_n hC (D_X12_feed.g 23 rfl) 0 rfl ?_
    refine jr_getI hC fl_X12_178 rfl (D_X12_feed.g 24 rfl) h (fun v12 h => ?_)
    exact jr_iret hC (D_X12_feed.g 25 rfl) hr hE h
  refine jr_iconst hC (D_X12_feed.g 6 rfl) ?_
  exact jr_iret hC (D_X12_feed.g 7 rfl) hr hE h
def f_X12_back (th : Nat) (x1 : Int) (M : jMem) : Option (Int × jMem) :=
if jd_wr x1 < 0 then (some ((-1), M))
else ((jm_gI 12 2 M th).bind fun v1 =>
if jd_wr x1 ≤ jd_wr v1 then ((jm_gI 12 2 M th).bind fun v2 =>
(jm_pI 12 2 M th (v2 - x1)).bind fun M3 =>
(jm_gI 12 2 M3 th).bind fun v4 =>
some (v4, M3))
else (some ((-1), M)))
theorem D_X12_back : jDs cX12_back [(0, .iload_n 1, 1, 1), (1, .ifCond .lt 11, 3, 4), (4, .iload_n 1, 1, 5), (5, .aload_n 0, 1, 6), (6, .getfield 178, 3, 9), (9, .if_icmp .le 5, 3, 12), (12, .iconst (-1), 1, 13), (13, .ireturn, 1, 14), (14, .aload_n 0, 1, 15), (15, .dup, 1, 16), (16, .getfield 178, 3, 19), (19, .iload_n 1, 1, 20), (20, .isub, 1, 21), (21, .putfield 178, 3, 24), (24, .aload_n 0, 1, 25), (25, .getfield 178, 3, 28), (28, .ireturn, 1, 29)] := by unfold jDs; decide +kernel
set_option maxRecDepth 100000 in
set_option maxHeartbeats 4000000 in
theorem c_X12_back {E : jE} {th : Nat} {x1 : Int} {M : jMem} {r : Int} {M' : jMem} (h : f_X12_back th x1 M = some (r, M')) : jMet E yX12_back cX12_back 2 (some .int) 2 0 0 [q_r E th, q_i x1] M (some (q_i r)) M' := by
  unfold f_X12_back at h
  refine jMet.of RX12 rfl (by decide +kernel) (Nat.le_of_ble_eq_true rfl) [(0, q_r E th), (1, q_i x1)] rfl (fun X hC hE hr hn => ?_)
  refine jr_iload_n hC (D_X12_back.g 0 rfl) 1 rfl ?_
  refine jr_if_lt hC (D_X12_back.g 1 rfl) 12 rfl h (fun h => ?_) (fun h => ?_)
  · refine jr_iconst hC (D_X12_back.g 6 rfl) ?_
    exact jr_iret hC (D_X12_back.g 7 rfl) hr hE h
  refine jr_iload_n hC (D_X12_back.g 2 rfl) 1 rfl ?_
  refine jr_aload_n hC (D_X12_back.g 3 rfl) 0 rfl ?_
  refine jr_getI hC fl_X12_178 rfl (D_X12_back.g 4 rfl) h (fun v1 h => ?_)
  refine jr_icmp_le hC (D_X12_back.g 5 rfl) 14 rfl h (fun h => ?_) (fun h => ?_)
  · refine jr_aload_n hC (D_X12_back.g 8 rfl) 0 rfl ?_
    refine jr_dup hC (D_X12_back.g 9 rfl) rfl ?_
    refine jr_getI hC fl_X12_178 rfl (D_X12_back.g 10 rfl) h (fun v2 h => ?_)
    refine jr_iload_n hC (D_X12_back.g 11 rfl) 1 rfl ?_
    refine jr_isub hC (D_X12_back.g 12 rfl) ?_
    refine jr_putI hC fl_X12_178 rfl (jnfin rfl) (D_X12_back.g 13 rfl) h (fun M3 _ h => ?_)
    refine jr_aload_n hC (D_X12_back.g 14 rfl) 0 rfl ?_
    refine jr_getI hC fl_X12_178 rfl (D_X12_back.g 15 rfl) h (fun v4 h => ?_)
    exact jr_iret hC (D_X12_back.g 16 rfl) hr hE h
  refine jr_iconst hC (D_X12_back.g 6 rfl) ?_
  exact jr_iret hC (D_X12_back.g 7 rfl) hr hE h
def f_X12_byteAt (th : Nat) (x1 : Int) (M : jMem) : Option (Int × jMem) :=
(jm_gI 12 4 M th).bind fun v1 =>
if jd_wr x1 < jd_wr v1 then ((jm_gR 12 3 M th).bind fun r2 =>
(jm_ld 21 M r2 x1).bind fun v3 =>
some ((jd_and v3 255), M))
else (some (0, M))
theorem D_X12_byteAt : jDs cX12_byteAt [(0, .iload_n 1, 1, 1), (1, .aload_n 0, 1, 2), (2, .getfield 184, 3, 5), (5, .if_icmp .ge 16, 3, 8), (8, .aload_n 0, 1, 9), (9, .getfield 17, 3, 12), (12, .iload_n 1, 1, 13), (13, .baload, 1, 14), (14, .sipush 255, 3, 17), (17, .iand, 1, 18), (18, .goto 4, 3, 21), (21, .iconst 0, 1, 22), (22, .ireturn, 1, 23)] := by unfold jDs; decide +kernel
set_option maxRecDepth 100000 in
set_option maxHeartbeats 4000000 in
theorem c_X12_byteAt {E : jE} {th : Nat} {x1 : Int} {M : jMem} {r : Int} {M' : jMem} (h : f_X12_byteAt th x1 M = some (r, M')) : jMet E yX12_byteAt cX12_byteAt 2 (some .int) 2 0 0 [q_r E th, q_i x1] M (some (q_i r)) M' := by
  unfold f_X12_byteAt at h
  refine jMet.of RX12 rfl (by decide +kernel) (Nat.le_of_ble_eq_true rfl) [(0, q_r E th), (1, q_i x1)] rfl (fun X hC hE hr hn => ?_)
  refine jr_iload_n hC (D_X12_byteAt.g 0 rfl) 1 rfl ?_
  refine jr_aload_n hC (D_X12_byteAt.g 1 rfl) 0 rfl ?_
  refine jr_getI hC fl_X12_184 rfl (D_X12_byteAt.g 2 rfl) h (fun v1 h => ?_)
  refine jr_icmp_ge hC (D_X12_byteAt.g 3 rfl) 21 rfl h (fun h => ?_) (fun h => ?_)
  · refine jr_aload_n hC (D_X12_byteAt.g 4 rfl) 0 rfl ?_
    refine jr_getR hC fl_X12_17 rfl (D_X12_byteAt.g 5 rfl) h (fun r2 h => ?_)
    refine jr_iload_n hC (D_X12_byteAt.g 6 rfl) 1 rfl ?_
    refine jr_bald hC (D_X12_byteAt.g 7 rfl) h (fun v3 h => ?_)
    refine jr_sipush hC (D_X12_byteAt.g 8 rfl) sp_255 ?_
    refine jr_iand hC (D_X12_byteAt.g 9 rfl) ?_
    refine jr_goto hC (D_X12_byteAt.g 10 rfl) 22 rfl ?_
    exact jr_iret hC (D_X12_byteAt.g 12 rfl) hr hE h
  refine jr_iconst hC (D_X12_byteAt.g 11 rfl) ?_
  exact jr_iret hC (D_X12_byteAt.g 12 rfl) hr hE h
def f_X12_isDigit (x0 : Int) (M : jMem) : Option (Int × jMem) :=
jjq (jm_z 0 M) fun j_16 =>
if jd_wr x0 < jd_wr 48 then (j_16 )
else (if jd_wr x0 ≤ jd_wr 57 then (jm_z 1 M)
else (j_16 ))
theorem D_X12_isDigit : jDs cX12_isDigit [(0, .iload_n 0, 1, 1), (1, .bipush 48, 2, 3), (3, .if_icmp .lt 13, 3, 6), (6, .iload_n 0, 1, 7), (7, .bipush 57, 2, 9), (9, .if_icmp .gt 7, 3, 12), (12, .iconst 1, 1, 13), (13, .goto 4, 3, 16), (16, .iconst 0, 1, 17), (17, .ireturn, 1, 18)] := by unfold jDs; decide +kernel
set_option maxRecDepth 100000 in
set_option maxHeartbeats 4000000 in
theorem c_X12_isDigit {E : jE} {x0 : Int} {M : jMem} {r : Int} {M' : jMem} (h : f_X12_isDigit x0 M = some (r, M')) : jMet E yX12_isDigit cX12_isDigit 1 (some .boolean) 2 0 0 [q_i x0] M (some (q_i r)) M' := by
  unfold f_X12_isDigit at h
  refine jMet.of RX12 rfl (by decide +kernel) (Nat.le_of_ble_eq_true rfl) [(0, q_i x0)] rfl (fun X hC hE hr hn => ?_)
  refine jr_iload_n hC (D_X12_isDigit.g 0 rfl) 0 rfl ?_
  refine jr_bipush hC (D_X12_isDigit.g 1 rfl) bp_48 ?_
  refine jr_join h (fun j => j = some (r, M') → JW E X 1 0 0 M 16 [] []) ?_ ?_
  · intro  h
    refine jr_iconst hC (D_X12_isDigit.g 8 rfl) ?_
    exact jr_zret hC (D_X12_isDigit.g 9 rfl) hr hE h
  intro j_16 hj_16 h
  refine jr_icmp_lt hC (D_X12_isDigit.g 2 rfl) 16 rfl h (fun h => ?_) (fun h => ?_)
  · refine jr_pick [] rfl ?_
    exact hj_16  h
  refine jr_iload_n hC (D_X12_isDigit.g 3 rfl) 0 rfl ?_
  refine jr_bipush hC (D_X12_isDigit.g 4 rfl) bp_57 ?_
  refine jr_icmp_gt hC (D_X12_isDigit.g 5 rfl) 16 rfl h (fun h => ?_) (fun h => ?_)
  · refine jr_iconst hC (D_X12_isDigit.g 6 rfl) ?_
    refine jr_goto hC (D_X12_isDigit.g 7 rfl) 17 rfl ?_
    exact jr_zret hC (D_X12_isDigit.g 9 rfl) hr hE h
  refine jr_pick [] rfl ?_
  exact hj_16  h
def f_X12_isLetter (x0 : Int) (M : jMem) : Option (Int × jMem) :=
jjq (jm_z 0 M) fun j_16 =>
if jd_wr x0 < jd_wr 97 then (j_16 )
else (if jd_wr x0 ≤ jd_wr 122 then (jm_z 1 M)
else (j_16 ))
theorem D_X12_isLetter : jDs cX12_isLetter [(0, .iload_n 0, 1, 1), (1, .bipush 97, 2, 3), (3, .if_icmp .lt 13, 3, 6), (6, .iload_n 0, 1, 7), (7, .bipush 122, 2, 9), (9, .if_icmp .gt 7, 3, 12), (12, .iconst 1, 1, 13), (13, .goto 4, 3, 16), (16, .iconst 0, 1, 17), (17, .ireturn, 1, 18)] := by unfold jDs; decide +kernel
set_option maxRecDepth 100000 in
set_option maxHeartbeats 4000000 in
theorem c_X12_isLetter {E : jE} {x0 : Int} {M : jMem} {r : Int} {M' : jMem} (h : f_X12_isLetter x0 M = some (r, M')) : jMet E yX12_isLetter cX12_isLetter 1 (some .boolean) 2 0 0 [q_i x0] M (some (q_i r)) M' := by
  unfold f_X12_isLetter at h
  refine jMet.of RX12 rfl (by decide +kernel) (Nat.le_of_ble_eq_true rfl) [(0, q_i x0)] rfl (fun X hC hE hr hn => ?_)
  refine jr_iload_n hC (D_X12_isLetter.g 0 rfl) 0 rfl ?_
  refine jr_bipush hC (D_X12_isLetter.g 1 rfl) bp_97 ?_
  refine jr_join h (fun j => j = some (r, M') → JW E X 1 0 0 M 16 [] []) ?_ ?_
  · intro  h
    refine jr_iconst hC (D_X12_isLetter.g 8 rfl) ?_
    exact jr_zret hC (D_X12_isLetter.g 9 rfl) hr hE h
  intro j_16 hj_16 h
  refine jr_icmp_lt hC (D_X12_isLetter.g 2 rfl) 16 rfl h (fun h => ?_) (fun h => ?_)
  · refine jr_pick [] rfl ?_
    exact hj_16  h
  refine jr_iload_n hC (D_X12_isLetter.g 3 rfl) 0 rfl ?_
  refine jr_bipush hC (D_X12_isLetter.g 4 rfl) bp_122 ?_
  refine jr_icmp_gt hC (D_X12_isLetter.g 5 rfl) 16 rfl h (fun h => ?_) (fun h => ?_)
  · refine jr_iconst hC (D_X12_isLetter.g 6 rfl) ?_
    refine jr_goto hC (D_X12_isLetter.g 7 rfl) 17 rfl ?_
    exact jr_zret hC (D_X12_isLetter.g 9 rfl) hr hE h
  refine jr_pick [] rfl ?_
  exact hj_16  h
def f_X12_token (th : Nat) (x1 : Int) (x2 : Int) (x3 : Int) (x4 : Int) (M : jMem) : Option (Int × jMem) :=
(jm_gR 12 5 M th).bind fun r1 =>
(jm_gI 12 10 M th).bind fun v2 =>
(jm_st 20 M r1 v2 x1).bind fun M3 =>
(jm_gR 12 6 M3 th).bind fun r4 =>
(jm_gI 12 10 M3 th).bind fun v5 =>
(jm_st 20 M3 r4 v5 x2).bind fun M6 =>
(jm_gR 12 7 M6 th).bind fun r7 =>
(jm_gI 12 10 M6 th).bind fun v8 =>
(jm_st 20 M6 r7 v8 x3).bind fun M9 =>
(jm_gR 12 8 M9 th).bind fun r10 =>
(jm_gI 12 10 M9 th).bind fun v11 =>
(jm_st 23 M9 r10 v11 x4).bind fun M12 =>
(jm_gI 12 10 M12 th).bind fun v13 =>
(jm_pI 12 10 M12 th (v13 + 1)).bind fun M14 =>
some (0, M14)
theorem D_X12_token : jDs cX12_token [(0, .aload_n 0, 1, 1), (1, .getfield 20, 3, 4), (4, .aload_n 0, 1, 5), (5, .getfield 193, 3, 8), (8, .iload_n 1, 1, 9), (9, .iastore, 1, 10), (10, .aload_n 0, 1, 11), (11, .getfield 24, 3, 14), (14, .aload_n 0, 1, 15), (15, .getfield 193, 3, 18), (18, .iload_n 2, 1, 19), (19, .iastore, 1, 20), (20, .aload_n 0, 1, 21), (21, .getfield 27, 3, 24), (24, .aload_n 0, 1, 25), (25, .getfield 193, 3, 28), (28, .iload_n 3, 1, 29), (29, .iastore, 1, 30), (30, .aload_n 0, 1, 31), (31, .getfield 30, 3, 34), (34, .aload_n 0, 1, 35), (35, .getfield 193, 3, 38), (38, .lload 4, 2, 40), (40, .lastore, 1, 41), (41, .aload_n 0, 1, 42), (42, .dup, 1, 43), (43, .getfield 193, 3, 46), (46, .iconst 1, 1, 47), (47, .iadd, 1, 48), (48, .putfield 193, 3, 51), (51, .return_, 1, 52)] := by unfold jDs; decide +kernel
set_option maxRecDepth 100000 in
set_option maxHeartbeats 4000000 in
theorem c_X12_token {E : jE} {th : Nat} {x1 : Int} {x2 : Int} {x3 : Int} {x4 : Int} {M : jMem} {r : Int} {M' : jMem} (h : f_X12_token th x1 x2 x3 x4 M = some (r, M')) : jMet E yX12_token cX12_token 6 (none) 2 0 0 [q_r E th, q_i x1, q_i x2, q_i x3, q_l x4] M (none) M' := by
  unfold f_X12_token at h
  refine jMet.of RX12 rfl (by decide +kernel) (Nat.le_of_ble_eq_true rfl) [(0, q_r E th), (1, q_i x1), (2, q_i x2), (3, q_i x3), (4, q_l x4)] rfl (fun X hC hE hr hn => ?_)
  refine jr_aload_n hC (D_X12_token.g 0 rfl) 0 rfl ?_
  refine jr_getR hC fl_X12_20 rfl (D_X12_token.g 1 rfl) h (fun r1 h => ?_)
  refine jr_aload_n hC (D_X12_token.g 2 rfl) 0 rfl ?_
  refine jr_getI hC fl_X12_193 rfl (D_X12_token.g 3 rfl) h (fun v2 h => ?_)
  refine jr_iload_n hC (D_X12_token.g 4 rfl) 1 rfl ?_
  refine jr_iast hC (D_X12_token.g 5 rfl) h (fun M3 _ h => ?_)
  refine jr_aload_n hC (D_X12_token.g 6 rfl) 0 rfl ?_
  refine jr_getR hC fl_X12_24 rfl (D_X12_token.g 7 rfl) h (fun r4 h => ?_)
  refine jr_aload_n hC (D_X12_token.g 8 rfl) 0 rfl ?_
  refine jr_getI hC fl_X12_193 rfl (D_X12_token.g 9 rfl) h (fun v5 h => ?_)
  refine jr_iload_n hC (D_X12_token.g 10 rfl) 2 rfl ?_
  refine jr_iast hC (D_X12_token.g 11 rfl) h (fun M6 _ h => ?_)
  refine jr_aload_n hC (D_X12_token.g 12 rfl) 0 rfl ?_
  refine jr_getR hC fl_X12_27 rfl (D_X12_token.g 13 rfl) h (fun r7 h => ?_)
  refine jr_aload_n hC (D_X12_token.g 14 rfl) 0 rfl ?_
  refine jr_getI hC fl_X12_193 rfl (D_X12_token.g 15 rfl) h (fun v8 h => ?_)
  refine jr_iload_n hC (D_X12_token.g 16 rfl) 3 rfl ?_
  refine jr_iast hC (D_X12_token.g 17 rfl) h (fun M9 _ h => ?_)
  refine jr_aload_n hC (D_X12_token.g 18 rfl) 0 rfl ?_
  refine jr_getR hC fl_X12_30 rfl (D_X12_token.g 19 rfl) h (fun r10 h => ?_)
  refine jr_aload_n hC (D_X12_token.g 20 rfl) 0 rfl ?_
  refine jr_getI hC fl_X12_193 rfl (D_X12_token.g 21 rfl) h (fun v11 h => ?_)
  refine jr_lload hC (D_X12_token.g 22 rfl) 4 rfl ?_
  refine jr_last hC (D_X12_token.g 23 rfl) h (fun M12 _ h => ?_)
  refine jr_aload_n hC (D_X12_token.g 24 rfl) 0 rfl ?_
  refine jr_dup hC (D_X12_token.g 25 rfl) rfl ?_
  refine jr_getI hC fl_X12_193 rfl (D_X12_token.g 26 rfl) h (fun v13 h => ?_)
  refine jr_iconst hC (D_X12_token.g 27 rfl) ?_
  refine jr_iadd hC (D_X12_token.g 28 rfl) ?_
  refine jr_putI hC fl_X12_193 rfl (jnfin rfl) (D_X12_token.g 29 rfl) h (fun M14 _ h => ?_)
  exact jr_vret hC (D_X12_token.g 30 rfl) hr hE h
def f_X12_sign (th : Nat) (x1 : Int) (x2 : Int) (x3 : Int) (M : jMem) : Option (Int × jMem) :=
jjq (fun (z0_43 : Int) =>
jjq (fun (y4_55 : Int) =>
jjq (fun (y4_65 : Int) =>
jjq (fun (y4_75 : Int) =>
jjq (fun (y4_85 : Int) =>
jjq (fun (y4_95 : Int) =>
jcall 12 M th (f_X12_token th y4_95 x1 0 0 M) fun _ M2 =>
some (1, M2)) fun j_95 =>
if jd_wr x2 = jd_wr 60 then (j_95 13)
else (j_95 y4_85)) fun j_85 =>
if jd_wr x2 = jd_wr 47 then (j_85 15)
else (j_85 y4_75)) fun j_75 =>
if jd_wr x2 = jd_wr 42 then (j_75 10)
else (j_75 y4_65)) fun j_65 =>
if jd_wr x2 = jd_wr 45 then (j_65 9)
else (j_65 y4_55)) fun j_55 =>
if jd_wr x2 = jd_wr 43 then (j_55 8)
else (j_55 z0_43)) fun j_43 =>
if jd_wr x2 = jd_wr 59 then (j_43 4)
else (if jd_wr x2 = jd_wr 61 then (j_43 5)
else (if jd_wr x2 = jd_wr 40 then (j_43 6)
else (if jd_wr x2 = jd_wr 41 then (j_43 7)
else (j_43 3))))
theorem D_X12_sign : jDs cX12_sign [(0, .iload_n 2, 1, 1), (1, .bipush 59, 2, 3), (3, .if_icmp .ne 7, 3, 6), (6, .iconst 4, 1, 7), (7, .goto 36, 3, 10), (10, .iload_n 2, 1, 11), (11, .bipush 61, 2, 13), (13, .if_icmp .ne 7, 3, 16), (16, .iconst 5, 1, 17), (17, .goto 26, 3, 20), (20, .iload_n 2, 1, 21), (21, .bipush 40, 2, 23), (23, .if_icmp .ne 8, 3, 26), (26, .bipush 6, 2, 28), (28, .goto 15, 3, 31), (31, .iload_n 2, 1, 32), (32, .bipush 41, 2, 34), (34, .if_icmp .ne 8, 3, 37), (37, .bipush 7, 2, 39), (39, .goto 4, 3, 42), (42, .iconst 3, 1, 43), (43, .istore 4, 2, 45), (45, .iload_n 2, 1, 46), (46, .bipush 43, 2, 48), (48, .if_icmp .ne 7, 3, 51), (51, .bipush 8, 2, 53), (53, .istore 4, 2, 55), (55, .iload_n 2, 1, 56), (56, .bipush 45, 2, 58), (58, .if_icmp .ne 7, 3, 61), (61, .bipush 9, 2, 63), (63, .istore 4, 2, 65), (65, .iload_n 2, 1, 66), (66, .bipush 42, 2, 68), (68, .if_icmp .ne 7, 3, 71), (71, .bipush 10, 2, 73), (73, .istore 4, 2, 75), (75, .iload_n 2, 1, 76), (76, .bipush 47, 2, 78), (78, .if_icmp .ne 7, 3, 81), (81, .bipush 15, 2, 83), (83, .istore 4, 2, 85), (85, .iload_n 2, 1, 86), (86, .bipush 60, 2, 88), (88, .if_icmp .ne 7, 3, 91), (91, .bipush 13, 2, 93), (93, .istore 4, 2, 95), (95, .aload_n 0, 1, 96), (96, .iload 4, 2, 98), (98, .iload_n 1, 1, 99), (99, .iconst 0, 1, 100), (100, .lconst 0, 1, 101), (101, .invokevirtual 200, 3, 104), (104, .iconst 1, 1, 105), (105, .ireturn, 1, 106)] := by unfold jDs; decide +kernel
set_option maxRecDepth 100000 in
set_option maxHeartbeats 4000000 in
theorem c_X12_sign {E : jE} {th : Nat} {x1 : Int} {x2 : Int} {x3 : Int} {M : jMem} {r : Int} {M' : jMem} (h : f_X12_sign th x1 x2 x3 M = some (r, M')) : jMet E yX12_sign cX12_sign 5 (some .int) 3 0 0 [q_r E th, q_i x1, q_i x2, q_i x3] M (some (q_i r)) M' := by
  unfold f_X12_sign at h
  refine jMet.of RX12 rfl (by decide +kernel) (Nat.le_of_ble_eq_true rfl) [(0, q_r E th), (1, q_i x1), (2, q_i x2), (3, q_i x3)] rfl (fun X hC hE hr hn => ?_)
  refine jr_iload_n hC (D_X12_sign.g 0 rfl) 2 rfl ?_
  refine jr_bipush hC (D_X12_sign.g 1 rfl) bp_59 ?_
  refine jr_join h (fun j => ∀ (z0_43 : Int), j z0_43 = some (r, M') → JW E X 5 0 0 M 43 [(0, q_r E th), (1, q_i x1), (2, q_i x2)] [q_i z0_43]) ?_ ?_
  · intro z0_43 h
    refine jr_istore hC (D_X12_sign.g 21 rfl) (by decide) rfl ?_
    refine jr_iload_n hC (D_X12_sign.g 22 rfl) 3 rfl ?_
    refine jr_bipush hC (D_X12_sign.g 23 rfl) bp_43 ?_
    refine jr_join h (fun j => ∀ (y4_55 : Int), j y4_55 = some (r, M') → JW E X 5 0 0 M 55 [(0, q_r E th), (1, q_i x1), (2, q_i x2), (4, q_i y4_55)] []) ?_ ?_
    · intro y4_55 h
      refine jr_iload_n hC (D_X12_sign.g 27 rfl) 2 rfl ?_
      refine jr_bipush hC (D_X12_sign.g 28 rfl) bp_45 ?_
      refine jr_join h (fun j => ∀ (y4_65 : Int), j y4_65 = some (r, M') → JW E X 5 0 0 M 65 [(0, q_r E th), (1, q_i x1), (2, q_i x2), (4, q_i y4_65)] []) ?_ ?_
      · intro y4_65 h
        refine jr_iload_n hC (D_X12_sign.g 32 rfl) 2 rfl ?_
        refine jr_bipush hC (D_X12_sign.g 33 rfl) bp_42 ?_
        refine jr_join h (fun j => ∀ (y4_75 : Int), j y4_75 = some (r, M') → JW E X 5 0 0 M 75 [(0, q_r E th), (1, q_i x1), (2, q_i x2), (4, q_i y4_75)] []) ?_ ?_
        · intro y4_75 h
          refine jr_iload_n hC (D_X12_sign.g 37 rfl) 2 rfl ?_
          refine jr_bipush hC (D_X12_sign.g 38 rfl) bp_47 ?_
          refine jr_join h (fun j => ∀ (y4_85 : Int), j y4_85 = some (r, M') → JW E X 5 0 0 M 85 [(0, q_r E th), (1, q_i x1), (2, q_i x2), (4, q_i y4_85)] []) ?_ ?_
          · intro y4_85 h
            refine jr_iload_n hC (D_X12_sign.g 42 rfl) 2 rfl ?_
            refine jr_bipush hC (D_X12_sign.g 43 rfl) bp_60 ?_
            refine jr_join h (fun j => ∀ (y4_95 : Int), j y4_95 = some (r, M') → JW E X 5 0 0 M 95 [(0, q_r E th), (1, q_i x1), (4, q_i y4_95)] []) ?_ ?_
            · intro y4_95 h
              refine jr_aload_n hC (D_X12_sign.g 47 rfl) 0 rfl ?_
              refine jr_iload hC (D_X12_sign.g 48 rfl) 2 rfl ?_
              refine jr_iload_n hC (D_X12_sign.g 49 rfl) 1 rfl ?_
              refine jr_iconst hC (D_X12_sign.g 50 rfl) ?_
              refine jr_lconst hC 0 (D_X12_sign.g 51 rfl) (by decide +kernel) ?_
              refine jr_cVv hC cl_X12_200 ⟨rfl, by decide⟩ (D_X12_sign.g 52 rfl) [q_i y4_95, q_i x1, q_i 0, q_l 0] h (fun r M' e => c_X12_token e) rfl rfl ⟨by decide, by decide⟩ (Nat.le_of_ble_eq_true rfl) ⟨Nat.le_of_ble_eq_true rfl, Nat.le_of_ble_eq_true rfl⟩ (fun _ M2 h => ?_)
              refine jr_iconst hC (D_X12_sign.g 53 rfl) ?_
              exact jr_iret hC (D_X12_sign.g 54 rfl) hr hE h
            intro j_95 hj_95 h
            refine jr_icmp_ne hC (D_X12_sign.g 44 rfl) 95 rfl h (fun h => ?_) (fun h => ?_)
            · refine jr_bipush hC (D_X12_sign.g 45 rfl) bp_13 ?_
              refine jr_istore hC (D_X12_sign.g 46 rfl) (by decide) rfl ?_
              refine jr_pick [1, 2, 0] rfl ?_
              exact hj_95 13 h
            refine jr_pick [0, 1, 3] rfl ?_
            exact hj_95 y4_85 h
          intro j_85 hj_85 h
          refine jr_icmp_ne hC (D_X12_sign.g 39 rfl) 85 rfl h (fun h => ?_) (fun h => ?_)
          · refine jr_bipush hC (D_X12_sign.g 40 rfl) bp_15 ?_
            refine jr_istore hC (D_X12_sign.g 41 rfl) (by decide) rfl ?_
            refine jr_pick [1, 2, 3, 0] rfl ?_
            exact hj_85 15 h
          exact hj_85 y4_75 h
        intro j_75 hj_75 h
        refine jr_icmp_ne hC (D_X12_sign.g 34 rfl) 75 rfl h (fun h => ?_) (fun h => ?_)
        · refine jr_bipush hC (D_X12_sign.g 35 rfl) bp_10 ?_
          refine jr_istore hC (D_X12_sign.g 36 rfl) (by decide) rfl ?_
          refine jr_pick [1, 2, 3, 0] rfl ?_
          exact hj_75 10 h
        exact hj_75 y4_65 h
      intro j_65 hj_65 h
      refine jr_icmp_ne hC (D_X12_sign.g 29 rfl) 65 rfl h (fun h => ?_) (fun h => ?_)
      · refine jr_bipush hC (D_X12_sign.g 30 rfl) bp_9 ?_
        refine jr_istore hC (D_X12_sign.g 31 rfl) (by decide) rfl ?_
        refine jr_pick [1, 2, 3, 0] rfl ?_
        exact hj_65 9 h
      exact hj_65 y4_55 h
    intro j_55 hj_55 h
    refine jr_icmp_ne hC (D_X12_sign.g 24 rfl) 55 rfl h (fun h => ?_) (fun h => ?_)
    · refine jr_bipush hC (D_X12_sign.g 25 rfl) bp_8 ?_
      refine jr_istore hC (D_X12_sign.g 26 rfl) (by decide) rfl ?_
      refine jr_pick [1, 2, 3, 0] rfl ?_
      exact hj_55 8 h
    refine jr_pick [1, 2, 3, 0] rfl ?_
    exact hj_55 z0_43 h
  intro j_43 hj_43 h
  refine jr_icmp_ne hC (D_X12_sign.g 2 rfl) 10 rfl h (fun h => ?_) (fun h => ?_)
  · refine jr_iconst hC (D_X12_sign.g 3 rfl) ?_
    refine jr_goto hC (D_X12_sign.g 4 rfl) 43 rfl ?_
    refine jr_pick [0, 1, 2] rfl ?_
    exact hj_43 4 h
  refine jr_iload_n hC (D_X12_sign.g 5 rfl) 2 rfl ?_
  refine jr_bipush hC (D_X12_sign.g 6 rfl) bp_61 ?_
  refine jr_icmp_ne hC (D_X12_sign.g 7 rfl) 20 rfl h (fun h => ?_) (fun h => ?_)
  · refine jr_iconst hC (D_X12_sign.g 8 rfl) ?_
    refine jr_goto hC (D_X12_sign.g 9 rfl) 43 rfl ?_
    refine jr_pick [0, 1, 2] rfl ?_
    exact hj_43 5 h
  refine jr_iload_n hC (D_X12_sign.g 10 rfl) 2 rfl ?_
  refine jr_bipush hC (D_X12_sign.g 11 rfl) bp_40 ?_
  refine jr_icmp_ne hC (D_X12_sign.g 12 rfl) 31 rfl h (fun h => ?_) (fun h => ?_)
  · refine jr_bipush hC (D_X12_sign.g 13 rfl) bp_6 ?_
    refine jr_goto hC (D_X12_sign.g 14 rfl) 43 rfl ?_
    refine jr_pick [0, 1, 2] rfl ?_
    exact hj_43 6 h
  refine jr_iload_n hC (D_X12_sign.g 15 rfl) 2 rfl ?_
  refine jr_bipush hC (D_X12_sign.g 16 rfl) bp_41 ?_
  refine jr_icmp_ne hC (D_X12_sign.g 17 rfl) 42 rfl h (fun h => ?_) (fun h => ?_)
  · refine jr_bipush hC (D_X12_sign.g 18 rfl) bp_7 ?_
    refine jr_goto hC (D_X12_sign.g 19 rfl) 43 rfl ?_
    refine jr_pick [0, 1, 2] rfl ?_
    exact hj_43 7 h
  refine jr_iconst hC (D_X12_sign.g 20 rfl) ?_
  refine jr_pick [0, 1, 2] rfl ?_
  exact hj_43 3 h
def f_X12_cut (th : Nat) (M : jMem) : Option (Int × jMem) :=
(jm_pI 12 10 M th 0).bind fun M1 =>
jlp2 (fun rec_7 (y1_7 : Int) (M_7 : jMem) =>
(jm_gI 12 10 M_7 th).bind fun v2 =>
if jd_wr v2 ≤ jd_wr 400 then (jcall 12 M_7 th (f_X12_byteAt th y1_7 M_7) fun v3 M4 =>
(jm_gI 12 4 M4 th).bind fun v5 =>
if jd_wr y1_7 < jd_wr v5 then (jjq (fun (y1_291 : Int) (M_291 : jMem) =>
rec_7 y1_291 M_291) fun j_291 =>
jjq (j_291 (y1_7 + 1) M4) fun j_67 =>
if jd_wr v3 = jd_wr 9 then (j_67 )
else (if jd_wr v3 = jd_wr 10 then (j_67 )
else (if jd_wr v3 = jd_wr 13 then (j_67 )
else (if jd_wr v3 = jd_wr 32 then (j_67 )
else (jbd (f_X12_isLetter v3 M4) fun v6 M7 =>
if jd_wr v6 = 0 then (jbd (f_X12_isDigit v3 M7) fun v8 M9 =>
if jd_wr v8 = 0 then (jcall 12 M9 th (f_X12_byteAt th (y1_7 + 1) M9) fun v10 M11 =>
jcall 12 M11 th (f_X12_sign th y1_7 v3 v10 M11) fun v12 M13 =>
j_291 (y1_7 + v12) M13)
else (jlp3 (fun rec_208 (y3_208 : Int) (y4_208 : Int) (M_208 : jMem) =>
jcall 12 M_208 th (f_X12_byteAt th (y1_7 + y3_208) M_208) fun v14 M15 =>
jbd (f_X12_isDigit v14 M15) fun v16 M17 =>
if jd_wr v16 = 0 then (jjq (fun (z0_261 : Int) =>
jcall 12 M17 th (f_X12_token th z0_261 y1_7 y4_208 0 M17) fun _ M19 =>
j_291 (y1_7 + y3_208) M19) fun j_261 =>
if jd_wr y3_208 ≤ jd_wr 4 then (j_261 2)
else (j_261 3))
else (jjq (fun (y4_244 : Int) (M_244 : jMem) =>
rec_208 (y3_208 + 1) y4_244 M_244) fun j_244 =>
if jd_wr y3_208 < jd_wr 4 then (jcall 12 M17 th (f_X12_byteAt th (y1_7 + y3_208) M17) fun v20 M21 =>
j_244 (((10 * y4_208) + v20) - 48) M21)
else (j_244 y4_208 M17))) jfuel 0 0 M9))
else (jlp3 (fun rec_85 (y3_85 : Int) (y4_85 : Int) (M_85 : jMem) =>
jcall 12 M_85 th (f_X12_byteAt th (y1_7 + y3_85) M_85) fun v22 M23 =>
jbd (f_X12_isLetter v22 M23) fun v24 M25 =>
if jd_wr v24 = 0 then (jjq (fun (z0_135 : Int) =>
jjq (fun (y6_179 : Int) =>
jcall 12 M25 th (f_X12_token th y6_179 y1_7 0 y4_85 M25) fun _ M27 =>
j_291 (y1_7 + y3_85) M27) fun j_179 =>
if jd_wr y3_85 ≤ jd_wr 8 then (jlp2 (fun rec_146 (y6_146 : Int) (y7_146 : Int) =>
if jd_wr y7_146 < jd_wr 19 then ((jm_gR 12 9 M25 th).bind fun r28 =>
(jm_ld 23 M25 r28 y7_146).bind fun v29 =>
jjq (fun (y6_173 : Int) =>
rec_146 y6_173 (y7_146 + 1)) fun j_173 =>
if jd_wr (jd_lcmp v29 y4_85) = 0 then (j_173 (20 + y7_146))
else (j_173 y6_146))
else (j_179 y6_146)) jfuel z0_135 0)
else (j_179 z0_135)) fun j_135 =>
if jd_wr y3_85 ≤ jd_wr 8 then (j_135 1)
else (j_135 3))
else (jjq (fun (y4_118 : Int) (M_118 : jMem) =>
rec_85 (y3_85 + 1) y4_118 M_118) fun j_118 =>
if jd_wr y3_85 < jd_wr 8 then (jcall 12 M25 th (f_X12_byteAt th (y1_7 + y3_85) M25) fun v30 M31 =>
jbd (f_X12_appends y4_85 v30 M31) fun v32 M33 =>
j_118 v32 M33)
else (j_118 y4_85 M25))) jfuel 0 0 M7))))))
else ((jm_gI 12 4 M4 th).bind fun v34 =>
jcall 12 M4 th (f_X12_token th 0 v34 0 0 M4) fun _ M36 =>
some (0, M36)))
else (some (0, M_7))) jfuel 0 M1
theorem D_X12_cut : jDs cX12_cut [(0, .aload_n 0, 1, 1), (1, .iconst 0, 1, 2), (2, .putfield 193, 3, 5), (5, .iconst 0, 1, 6), (6, .istore_n 1, 1, 7), (7, .aload_n 0, 1, 8), (8, .getfield 193, 3, 11), (11, .sipush 400, 3, 14), (14, .if_icmp .gt 280, 3, 17), (17, .aload_n 0, 1, 18), (18, .iload_n 1, 1, 19), (19, .invokevirtual 196, 3, 22), (22, .istore_n 2, 1, 23), (23, .iload_n 1, 1, 24), (24, .aload_n 0, 1, 25), (25, .getfield 184, 3, 28), (28, .if_icmp .lt 15, 3, 31), (31, .aload_n 0, 1, 32), (32, .iconst 0, 1, 33), (33, .aload_n 0, 1, 34), (34, .getfield 184, 3, 37), (37, .iconst 0, 1, 38), (38, .lconst 0, 1, 39), (39, .invokevirtual 200, 3, 42), (42, .return_, 1, 43), (43, .iload_n 2, 1, 44), (44, .bipush 9, 2, 46), (46, .if_icmp .eq 21, 3, 49), (49, .iload_n 2, 1, 50), (50, .bipush 10, 2, 52), (52, .if_icmp .eq 15, 3, 55), (55, .iload_n 2, 1, 56), (56, .bipush 13, 2, 58), (58, .if_icmp .eq 9, 3, 61), (61, .iload_n 2, 1, 62), (62, .bipush 32, 2, 64), (64, .if_icmp .ne 9, 3, 67), (67, .iinc 1 1, 3, 70), (70, .goto 221, 3, 73), (73, .iload_n 2, 1, 74), (74, .invokestatic 204, 3, 77), (77, .ifCond .eq 119, 3, 80), (80, .iconst 0, 1, 81), (81, .istore_n 3, 1, 82), (82, .lconst 0, 1, 83), (83, .lstore 4, 2, 85), (85, .aload_n 0, 1, 86), (86, .iload_n 1, 1, 87), (87, .iload_n 3, 1, 88), (88, .iadd, 1, 89), (89, .invokevirtual 196, 3, 92), (92, .invokestatic 204, 3, 95), (95, .ifCond .eq 29, 3, 98), (98, .iload_n 3, 1, 99), (99, .bipush 8, 2, 101), (101, .if_icmp .ge 17, 3, 104), (104, .lload 4, 2, 106), (106, .aload_n 0, 1, 107), (107, .iload_n 1, 1, 108), (108, .iload_n 3, 1, 109), (109, .iadd, 1, 110), (110, .invokevirtual 196, 3, 113), (113, .invokestatic 189, 3, 116), (116, .lstore 4, 2, 118), (118, .iinc 3 1, 3, 121), (121, .goto (-36), 3, 124), (124, .iload_n 3, 1, 125), (125, .bipush 8, 2, 127), (127, .if_icmp .le 7, 3, 130), (130, .iconst 3, 1, 131), (131, .goto 4, 3, 134), (134, .iconst 1, 1, 135), (135, .istore 6, 2, 137), (137, .iload_n 3, 1, 138), (138, .bipush 8, 2, 140), (140, .if_icmp .gt 39, 3, 143), (143, .iconst 0, 1, 144), (144, .istore 7, 2, 146), (146, .iload 7, 2, 148), (148, .bipush 19, 2, 150), (150, .if_icmp .ge 29, 3, 153), (153, .aload_n 0, 1, 154), (154, .getfield 34, 3, 157), (157, .iload 7, 2, 159), (159, .laload, 1, 160), (160, .lload 4, 2, 162), (162, .lcmp, 1, 163), (163, .ifCond .ne 10, 3, 166), (166, .bipush 20, 2, 168), (168, .iload 7, 2, 170), (170, .iadd, 1, 171), (171, .istore 6, 2, 173), (173, .iinc 7 1, 3, 176), (176, .goto (-30), 3, 179), (179, .aload_n 0, 1, 180), (180, .iload 6, 2, 182), (182, .iload_n 1, 1, 183), (183, .iconst 0, 1, 184), (184, .lload 4, 2, 186), (186, .invokevirtual 200, 3, 189), (189, .iload_n 1, 1, 190), (190, .iload_n 3, 1, 191), (191, .iadd, 1, 192), (192, .istore_n 1, 1, 193), (193, .goto 98, 3, 196), (196, .iload_n 2, 1, 197), (197, .invokestatic 208, 3, 200), (200, .ifCond .eq 75, 3, 203), (203, .iconst 0, 1, 204), (204, .istore_n 3, 1, 205), (205, .iconst 0, 1, 206), (206, .istore 4, 2, 208), (208, .aload_n 0, 1, 209), (209, .iload_n 1, 1, 210), (210, .iload_n 3, 1, 211), (211, .iadd, 1, 212), (212, .invokevirtual 196, 3, 215), (215, .invokestatic 208, 3, 218), (218, .ifCond .eq 32, 3, 221), (221, .iload_n 3, 1, 222), (222, .iconst 4, 1, 223), (223, .if_icmp .ge 21, 3, 226), (226, .bipush 10, 2, 228), (228, .iload 4, 2, 230), (230, .imul, 1, 231), (231, .aload_n 0, 1, 232), (232, .iload_n 1, 1, 233), (233, .iload_n 3, 1, 234), (234, .iadd, 1, 235), (235, .invokevirtual 196, 3, 238), (238, .iadd, 1, 239), (239, .bipush 48, 2, 241), (241, .isub, 1, 242), (242, .istore 4, 2, 244), (244, .iinc 3 1, 3, 247), (247, .goto (-39), 3, 250), (250, .aload_n 0, 1, 251), (251, .iload_n 3, 1, 252), (252, .iconst 4, 1, 253), (253, .if_icmp .le 7, 3, 256), (256, .iconst 3, 1, 257), (257, .goto 4, 3, 260), (260, .iconst 2, 1, 261), (261, .iload_n 1, 1, 262), (262, .iload 4, 2, 264), (264, .lconst 0, 1, 265), (265, .invokevirtual 200, 3, 268), (268, .iload_n 1, 1, 269), (269, .iload_n 3, 1, 270), (270, .iadd, 1, 271), (271, .istore_n 1, 1, 272), (272, .goto 19, 3, 275), (275, .iload_n 1, 1, 276), (276, .aload_n 0, 1, 277), (277, .iload_n 1, 1, 278), (278, .iload_n 2, 1, 279), (279, .aload_n 0, 1, 280), (280, .iload_n 1, 1, 281), (281, .iconst 1, 1, 282), (282, .iadd, 1, 283), (283, .invokevirtual 196, 3, 286), (286, .invokevirtual 211, 3, 289), (289, .iadd, 1, 290), (290, .istore_n 1, 1, 291), (291, .goto (-284), 3, 294), (294, .return_, 1, 295)] := by unfold jDs; decide +kernel
set_option maxRecDepth 100000 in
set_option maxHeartbeats 4000000 in
theorem c_X12_cut {E : jE} {th : Nat} {M : jMem} {r : Int} {M' : jMem} (h : f_X12_cut th M = some (r, M')) : jMet E yX12_cut cX12_cut 8 (none) 4 0 0 [q_r E th] M (none) M' := by
  unfold f_X12_cut at h
  refine jMet.of RX12 rfl (by decide +kernel) (Nat.le_of_ble_eq_true rfl) [(0, q_r E th)] rfl (fun X hC hE hr hn => ?_)
  refine jr_aload_n hC (D_X12_cut.g 0 rfl) 0 rfl ?_
  refine jr_iconst hC (D_X12_cut.g 1 rfl) ?_
  refine jr_putI hC fl_X12_193 rfl (jnfin rfl) (D_X12_cut.g 2 rfl) h (fun M1 _ h => ?_)
  refine jr_iconst hC (D_X12_cut.g 3 rfl) ?_
  refine jr_istore_n hC (D_X12_cut.g 4 rfl) (by decide) rfl ?_
  refine jr_pick [1, 0] rfl ?_
  refine jr_lp2 (fun (y1_7 : Int) (M_7 : jMem) => JW E X 8 0 0 M_7 7 [(0, q_r E th), (1, q_i y1_7)] []) ?_ jfuel 0 M1 h
  intro rec_7 hrec_7 y1_7 M_7 h
  refine jr_aload_n hC (D_X12_cut.g 5 rfl) 0 rfl ?_
  refine jr_getI hC fl_X12_193 rfl (D_X12_cut.g 6 rfl) h (fun v2 h => ?_)
  refine jr_sipush hC (D_X12_cut.g 7 rfl) sp_400 ?_
  refine jr_icmp_gt hC (D_X12_cut.g 8 rfl) 294 rfl h (fun h => ?_) (fun h => ?_)
  · refine jr_aload_n hC (D_X12_cut.g 9 rfl) 0 rfl ?_
    refine jr_iload_n hC (D_X12_cut.g 10 rfl) 1 rfl ?_
    refine jr_cVi hC cl_X12_196 ⟨rfl, by decide⟩ (D_X12_cut.g 11 rfl) [q_i y1_7] h (fun r M' e => c_X12_byteAt e) rfl rfl ⟨by decide, by decide⟩ (Nat.le_of_ble_eq_true rfl) ⟨Nat.le_of_ble_eq_true rfl, Nat.le_of_ble_eq_true rfl⟩ (fun v3 M4 h => ?_)
    refine jr_istore_n hC (D_X12_cut.g 12 rfl) (by decide) rfl ?_
    refine jr_iload_n hC (D_X12_cut.g 13 rfl) 2 rfl ?_
    refine jr_aload_n hC (D_X12_cut.g 14 rfl) 1 rfl ?_
    refine jr_getI hC fl_X12_184 rfl (D_X12_cut.g 15 rfl) h (fun v5 h => ?_)
    refine jr_icmp_lt hC (D_X12_cut.g 16 rfl) 43 rfl h (fun h => ?_) (fun h => ?_)
    · refine jr_iload_n hC (D_X12_cut.g 25 rfl) 0 rfl ?_
      refine jr_bipush hC (D_X12_cut.g 26 rfl) bp_9 ?_
      refine jr_join h (fun j => ∀ (y1_291 : Int) (M_291 : jMem), j y1_291 M_291 = some (r, M') → JW E X 8 0 0 M_291 291 [(0, q_r E th), (1, q_i y1_291)] []) ?_ ?_
      · intro y1_291 M_291 h
        refine jr_goto hC (D_X12_cut.g 164 rfl) 7 rfl ?_
        exact hrec_7 y1_291 M_291 h
      intro j_291 hj_291 h
      refine jr_join h (fun j => j = some (r, M') → JW E X 8 0 0 M4 67 [(0, q_r E th), (1, q_i y1_7)] []) ?_ ?_
      · intro  h
        refine jr_iinc hC (D_X12_cut.g 37 rfl) 1 rfl (by decide) rfl ?_
        refine jr_goto hC (D_X12_cut.g 38 rfl) 291 rfl ?_
        refine jr_pick [1, 0] rfl ?_
        exact hj_291 (y1_7 + 1) M4 h
      intro j_67 hj_67 h
      refine jr_icmp_eq hC (D_X12_cut.g 27 rfl) 67 rfl h (fun h => ?_) (fun h => ?_)
      · refine jr_pick [1, 2] rfl ?_
        exact hj_67  h
      refine jr_iload_n hC (D_X12_cut.g 28 rfl) 0 rfl ?_
      refine jr_bipush hC (D_X12_cut.g 29 rfl) bp_10 ?_
      refine jr_icmp_eq hC (D_X12_cut.g 30 rfl) 67 rfl h (fun h => ?_) (fun h => ?_)
      · refine jr_pick [1, 2] rfl ?_
        exact hj_67  h
      refine jr_iload_n hC (D_X12_cut.g 31 rfl) 0 rfl ?_
      refine jr_bipush hC (D_X12_cut.g 32 rfl) bp_13 ?_
      refine jr_icmp_eq hC (D_X12_cut.g 33 rfl) 67 rfl h (fun h => ?_) (fun h => ?_)
      · refine jr_pick [1, 2] rfl ?_
        exact hj_67  h
      refine jr_iload_n hC (D_X12_cut.g 34 rfl) 0 rfl ?_
      refine jr_bipush hC (D_X12_cut.g 35 rfl) bp_32 ?_
      refine jr_icmp_ne hC (D_X12_cut.g 36 rfl) 73 rfl h (fun h => ?_) (fun h => ?_)
      · refine jr_pick [1, 2] rfl ?_
        exact hj_67  h
      refine jr_iload_n hC (D_X12_cut.g 39 rfl) 0 rfl ?_
      refine jr_cSi hC cl_X12_204 (D_X12_cut.g 40 rfl) [q_i v3] h (fun r M' e => c_X12_isLetter e) rfl rfl ⟨by decide, by decide⟩ (Nat.le_of_ble_eq_true rfl) ⟨Nat.le_of_ble_eq_true rfl, Nat.le_of_ble_eq_true rfl⟩ (fun v6 M7 h => ?_)
      refine jr_if_eq hC (D_X12_cut.g 41 rfl) 196 rfl h (fun h => ?_) (fun h => ?_)
      · refine jr_iload_n hC (D_X12_cut.g 105 rfl) 0 rfl ?_
        refine jr_cSi hC cl_X12_208 (D_X12_cut.g 106 rfl) [q_i v3] h (fun r M' e => c_X12_isDigit e) rfl rfl ⟨by decide, by decide⟩ (Nat.le_of_ble_eq_true rfl) ⟨Nat.le_of_ble_eq_true rfl, Nat.le_of_ble_eq_true rfl⟩ (fun v8 M9 h => ?_)
        refine jr_if_eq hC (D_X12_cut.g 107 rfl) 275 rfl h (fun h => ?_) (fun h => ?_)
        · refine jr_iload_n hC (D_X12_cut.g 152 rfl) 2 rfl ?_
          refine jr_aload_n hC (D_X12_cut.g 153 rfl) 1 rfl ?_
          refine jr_iload_n hC (D_X12_cut.g 154 rfl) 2 rfl ?_
          refine jr_iload_n hC (D_X12_cut.g 155 rfl) 0 rfl ?_
          refine jr_aload_n hC (D_X12_cut.g 156 rfl) 1 rfl ?_
          refine jr_iload_n hC (D_X12_cut.g 157 rfl) 2 rfl ?_
          refine jr_iconst hC (D_X12_cut.g 158 rfl) ?_
          refine jr_iadd hC (D_X12_cut.g 159 rfl) ?_
          refine jr_cVi hC cl_X12_196 ⟨rfl, by decide⟩ (D_X12_cut.g 160 rfl) [q_i (y1_7 + 1)] h (fun r M' e => c_X12_byteAt e) rfl rfl ⟨by decide, by decide⟩ (Nat.le_of_ble_eq_true rfl) ⟨Nat.le_of_ble_eq_true rfl, Nat.le_of_ble_eq_true rfl⟩ (fun v10 M11 h => ?_)
          refine jr_cVi hC cl_X12_211 ⟨rfl, by decide⟩ (D_X12_cut.g 161 rfl) [q_i y1_7, q_i v3, q_i v10] h (fun r M' e => c_X12_sign e) rfl rfl ⟨by decide, by decide⟩ (Nat.le_of_ble_eq_true rfl) ⟨Nat.le_of_ble_eq_true rfl, Nat.le_of_ble_eq_true rfl⟩ (fun v12 M13 h => ?_)
          refine jr_iadd hC (D_X12_cut.g 162 rfl) ?_
          refine jr_istore_n hC (D_X12_cut.g 163 rfl) (by decide) rfl ?_
          refine jr_pick [2, 0] rfl ?_
          exact hj_291 (y1_7 + v12) M13 h
        refine jr_iconst hC (D_X12_cut.g 108 rfl) ?_
        refine jr_istore_n hC (D_X12_cut.g 109 rfl) (by decide) rfl ?_
        refine jr_iconst hC (D_X12_cut.g 110 rfl) ?_
        refine jr_istore hC (D_X12_cut.g 111 rfl) (by decide) rfl ?_
        refine jr_pick [3, 4, 1, 0] rfl ?_
        refine jr_lp3 (fun (y3_208 : Int) (y4_208 : Int) (M_208 : jMem) => JW E X 8 0 0 M_208 208 [(0, q_r E th), (1, q_i y1_7), (3, q_i y3_208), (4, q_i y4_208)] []) ?_ jfuel 0 0 M9 h
        intro rec_208 hrec_208 y3_208 y4_208 M_208 h
        refine jr_aload_n hC (D_X12_cut.g 112 rfl) 0 rfl ?_
        refine jr_iload_n hC (D_X12_cut.g 113 rfl) 1 rfl ?_
        refine jr_iload_n hC (D_X12_cut.g 114 rfl) 2 rfl ?_
        refine jr_iadd hC (D_X12_cut.g 115 rfl) ?_
        refine jr_cVi hC cl_X12_196 ⟨rfl, by decide⟩ (D_X12_cut.g 116 rfl) [q_i (y1_7 + y3_208)] h (fun r M' e => c_X12_byteAt e) rfl rfl ⟨by decide, by decide⟩ (Nat.le_of_ble_eq_true rfl) ⟨Nat.le_of_ble_eq_true rfl, Nat.le_of_ble_eq_true rfl⟩ (fun v14 M15 h => ?_)
        refine jr_cSi hC cl_X12_208 (D_X12_cut.g 117 rfl) [q_i v14] h (fun r M' e => c_X12_isDigit e) rfl rfl ⟨by decide, by decide⟩ (Nat.le_of_ble_eq_true rfl) ⟨Nat.le_of_ble_eq_true rfl, Nat.le_of_ble_eq_true rfl⟩ (fun v16 M17 h => ?_)
        refine jr_if_eq hC (D_X12_cut.g 118 rfl) 250 rfl h (fun h => ?_) (fun h => ?_)
        · refine jr_aload_n hC (D_X12_cut.g 136 rfl) 0 rfl ?_
          refine jr_iload_n hC (D_X12_cut.g 137 rfl) 2 rfl ?_
          refine jr_iconst hC (D_X12_cut.g 138 rfl) ?_
          refine jr_join h (fun j => ∀ (z0_261 : Int), j z0_261 = some (r, M') → JW E X 8 0 0 M17 261 [(0, q_r E th), (1, q_i y1_7), (3, q_i y3_208), (4, q_i y4_208)] [q_i z0_261, q_r E th]) ?_ ?_
          · intro z0_261 h
            refine jr_iload_n hC (D_X12_cut.g 143 rfl) 1 rfl ?_
            refine jr_iload hC (D_X12_cut.g 144 rfl) 3 rfl ?_
            refine jr_lconst hC 0 (D_X12_cut.g 145 rfl) (by decide +kernel) ?_
            refine jr_cVv hC cl_X12_200 ⟨rfl, by decide⟩ (D_X12_cut.g 146 rfl) [q_i z0_261, q_i y1_7, q_i y4_208, q_l 0] h (fun r M' e => c_X12_token e) rfl rfl ⟨by decide, by decide⟩ (Nat.le_of_ble_eq_true rfl) ⟨Nat.le_of_ble_eq_true rfl, Nat.le_of_ble_eq_true rfl⟩ (fun _ M19 h => ?_)
            refine jr_iload_n hC (D_X12_cut.g 147 rfl) 1 rfl ?_
            refine jr_iload_n hC (D_X12_cut.g 148 rfl) 2 rfl ?_
            refine jr_iadd hC (D_X12_cut.g 149 rfl) ?_
            refine jr_istore_n hC (D_X12_cut.g 150 rfl) (by decide) rfl ?_
            refine jr_goto hC (D_X12_cut.g 151 rfl) 291 rfl ?_
            refine jr_pick [1, 0] rfl ?_
            exact hj_291 (y1_7 + y3_208) M19 h
          intro j_261 hj_261 h
          refine jr_icmp_le hC (D_X12_cut.g 139 rfl) 260 rfl h (fun h => ?_) (fun h => ?_)
          · refine jr_iconst hC (D_X12_cut.g 142 rfl) ?_
            exact hj_261 2 h
          refine jr_iconst hC (D_X12_cut.g 140 rfl) ?_
          refine jr_goto hC (D_X12_cut.g 141 rfl) 261 rfl ?_
          exact hj_261 3 h
        refine jr_iload_n hC (D_X12_cut.g 119 rfl) 2 rfl ?_
        refine jr_iconst hC (D_X12_cut.g 120 rfl) ?_
        refine jr_join h (fun j => ∀ (y4_244 : Int) (M_244 : jMem), j y4_244 M_244 = some (r, M') → JW E X 8 0 0 M_244 244 [(0, q_r E th), (1, q_i y1_7), (3, q_i y3_208), (4, q_i y4_244)] []) ?_ ?_
        · intro y4_244 M_244 h
          refine jr_iinc hC (D_X12_cut.g 134 rfl) 2 rfl (by decide) rfl ?_
          refine jr_goto hC (D_X12_cut.g 135 rfl) 208 rfl ?_
          refine jr_pick [1, 2, 0, 3] rfl ?_
          exact hrec_208 (y3_208 + 1) y4_244 M_244 h
        intro j_244 hj_244 h
        refine jr_icmp_ge hC (D_X12_cut.g 121 rfl) 244 rfl h (fun h => ?_) (fun h => ?_)
        · refine jr_bipush hC (D_X12_cut.g 122 rfl) bp_10 ?_
          refine jr_iload hC (D_X12_cut.g 123 rfl) 3 rfl ?_
          refine jr_imul hC (D_X12_cut.g 124 rfl) ?_
          refine jr_aload_n hC (D_X12_cut.g 125 rfl) 0 rfl ?_
          refine jr_iload_n hC (D_X12_cut.g 126 rfl) 1 rfl ?_
          refine jr_iload_n hC (D_X12_cut.g 127 rfl) 2 rfl ?_
          refine jr_iadd hC (D_X12_cut.g 128 rfl) ?_
          refine jr_cVi hC cl_X12_196 ⟨rfl, by decide⟩ (D_X12_cut.g 129 rfl) [q_i (y1_7 + y3_208)] h (fun r M' e => c_X12_byteAt e) rfl rfl ⟨by decide, by decide⟩ (Nat.le_of_ble_eq_true rfl) ⟨Nat.le_of_ble_eq_true rfl, Nat.le_of_ble_eq_true rfl⟩ (fun v20 M21 h => ?_)
          refine jr_iadd hC (D_X12_cut.g 130 rfl) ?_
          refine jr_bipush hC (D_X12_cut.g 131 rfl) bp_48 ?_
          refine jr_isub hC (D_X12_cut.g 132 rfl) ?_
          refine jr_istore hC (D_X12_cut.g 133 rfl) (by decide) rfl ?_
          refine jr_pick [1, 2, 3, 0] rfl ?_
          exact hj_244 (((10 * y4_208) + v20) - 48) M21 h
        exact hj_244 y4_208 M17 h
      refine jr_iconst hC (D_X12_cut.g 42 rfl) ?_
      refine jr_istore_n hC (D_X12_cut.g 43 rfl) (by decide) rfl ?_
      refine jr_lconst hC 0 (D_X12_cut.g 44 rfl) (by decide +kernel) ?_
      refine jr_lstore hC (D_X12_cut.g 45 rfl) (by decide) rfl ?_
      refine jr_pick [3, 4, 1, 0] rfl ?_
      refine jr_lp3 (fun (y3_85 : Int) (y4_85 : Int) (M_85 : jMem) => JW E X 8 0 0 M_85 85 [(0, q_r E th), (1, q_i y1_7), (3, q_i y3_85), (4, q_l y4_85)] []) ?_ jfuel 0 0 M7 h
      intro rec_85 hrec_85 y3_85 y4_85 M_85 h
      refine jr_aload_n hC (D_X12_cut.g 46 rfl) 0 rfl ?_
      refine jr_iload_n hC (D_X12_cut.g 47 rfl) 1 rfl ?_
      refine jr_iload_n hC (D_X12_cut.g 48 rfl) 2 rfl ?_
      refine jr_iadd hC (D_X12_cut.g 49 rfl) ?_
      refine jr_cVi hC cl_X12_196 ⟨rfl, by decide⟩ (D_X12_cut.g 50 rfl) [q_i (y1_7 + y3_85)] h (fun r M' e => c_X12_byteAt e) rfl rfl ⟨by decide, by decide⟩ (Nat.le_of_ble_eq_true rfl) ⟨Nat.le_of_ble_eq_true rfl, Nat.le_of_ble_eq_true rfl⟩ (fun v22 M23 h => ?_)
      refine jr_cSi hC cl_X12_204 (D_X12_cut.g 51 rfl) [q_i v22] h (fun r M' e => c_X12_isLetter e) rfl rfl ⟨by decide, by decide⟩ (Nat.le_of_ble_eq_true rfl) ⟨Nat.le_of_ble_eq_true rfl, Nat.le_of_ble_eq_true rfl⟩ (fun v24 M25 h => ?_)
      refine jr_if_eq hC (D_X12_cut.g 52 rfl) 124 rfl h (fun h => ?_) (fun h => ?_)
      · refine jr_iload_n hC (D_X12_cut.g 66 rfl) 2 rfl ?_
        refine jr_bipush hC (D_X12_cut.g 67 rfl) bp_8 ?_
        refine jr_join h (fun j => ∀ (z0_135 : Int), j z0_135 = some (r, M') → JW E X 8 0 0 M25 135 [(0, q_r E th), (1, q_i y1_7), (3, q_i y3_85), (4, q_l y4_85)] [q_i z0_135]) ?_ ?_
        · intro z0_135 h
          refine jr_istore hC (D_X12_cut.g 72 rfl) (by decide) rfl ?_
          refine jr_iload_n hC (D_X12_cut.g 73 rfl) 3 rfl ?_
          refine jr_bipush hC (D_X12_cut.g 74 rfl) bp_8 ?_
          refine jr_join h (fun j => ∀ (y6_179 : Int), j y6_179 = some (r, M') → JW E X 8 0 0 M25 179 [(0, q_r E th), (1, q_i y1_7), (3, q_i y3_85), (4, q_l y4_85), (6, q_i y6_179)] []) ?_ ?_
          · intro y6_179 h
            refine jr_aload_n hC (D_X12_cut.g 94 rfl) 0 rfl ?_
            refine jr_iload hC (D_X12_cut.g 95 rfl) 4 rfl ?_
            refine jr_iload_n hC (D_X12_cut.g 96 rfl) 1 rfl ?_
            refine jr_iconst hC (D_X12_cut.g 97 rfl) ?_
            refine jr_lload hC (D_X12_cut.g 98 rfl) 3 rfl ?_
            refine jr_cVv hC cl_X12_200 ⟨rfl, by decide⟩ (D_X12_cut.g 99 rfl) [q_i y6_179, q_i y1_7, q_i 0, q_l y4_85] h (fun r M' e => c_X12_token e) rfl rfl ⟨by decide, by decide⟩ (Nat.le_of_ble_eq_true rfl) ⟨Nat.le_of_ble_eq_true rfl, Nat.le_of_ble_eq_true rfl⟩ (fun _ M27 h => ?_)
            refine jr_iload_n hC (D_X12_cut.g 100 rfl) 1 rfl ?_
            refine jr_iload_n hC (D_X12_cut.g 101 rfl) 2 rfl ?_
            refine jr_iadd hC (D_X12_cut.g 102 rfl) ?_
            refine jr_istore_n hC (D_X12_cut.g 103 rfl) (by decide) rfl ?_
            refine jr_goto hC (D_X12_cut.g 104 rfl) 291 rfl ?_
            refine jr_pick [1, 0] rfl ?_
            exact hj_291 (y1_7 + y3_85) M27 h
          intro j_179 hj_179 h
          refine jr_icmp_gt hC (D_X12_cut.g 75 rfl) 179 rfl h (fun h => ?_) (fun h => ?_)
          · refine jr_iconst hC (D_X12_cut.g 76 rfl) ?_
            refine jr_istore hC (D_X12_cut.g 77 rfl) (by decide) rfl ?_
            refine jr_pick [2, 3, 4, 5, 1, 0] rfl ?_
            refine jr_lp2 (fun (y6_146 : Int) (y7_146 : Int) => JW E X 8 0 0 M25 146 [(0, q_r E th), (1, q_i y1_7), (3, q_i y3_85), (4, q_l y4_85), (6, q_i y6_146), (7, q_i y7_146)] []) ?_ jfuel z0_135 0 h
            intro rec_146 hrec_146 y6_146 y7_146 h
            refine jr_iload hC (D_X12_cut.g 78 rfl) 5 rfl ?_
            refine jr_bipush hC (D_X12_cut.g 79 rfl) bp_19 ?_
            refine jr_icmp_ge hC (D_X12_cut.g 80 rfl) 179 rfl h (fun h => ?_) (fun h => ?_)
            · refine jr_aload_n hC (D_X12_cut.g 81 rfl) 0 rfl ?_
              refine jr_getR hC fl_X12_34 rfl (D_X12_cut.g 82 rfl) h (fun r28 h => ?_)
              refine jr_iload hC (D_X12_cut.g 83 rfl) 5 rfl ?_
              refine jr_lald hC (D_X12_cut.g 84 rfl) h (fun v29 h => ?_)
              refine jr_lload hC (D_X12_cut.g 85 rfl) 3 rfl ?_
              refine jr_lcmp hC (D_X12_cut.g 86 rfl) ?_
              refine jr_join h (fun j => ∀ (y6_173 : Int), j y6_173 = some (r, M') → JW E X 8 0 0 M25 173 [(0, q_r E th), (1, q_i y1_7), (3, q_i y3_85), (4, q_l y4_85), (6, q_i y6_173), (7, q_i y7_146)] []) ?_ ?_
              · intro y6_173 h
                refine jr_iinc hC (D_X12_cut.g 92 rfl) 5 rfl (by decide) rfl ?_
                refine jr_goto hC (D_X12_cut.g 93 rfl) 146 rfl ?_
                refine jr_pick [1, 2, 3, 4, 5, 0] rfl ?_
                exact hrec_146 y6_173 (y7_146 + 1) h
              intro j_173 hj_173 h
              refine jr_if_ne hC (D_X12_cut.g 87 rfl) 173 rfl h (fun h => ?_) (fun h => ?_)
              · refine jr_bipush hC (D_X12_cut.g 88 rfl) bp_20 ?_
                refine jr_iload hC (D_X12_cut.g 89 rfl) 5 rfl ?_
                refine jr_iadd hC (D_X12_cut.g 90 rfl) ?_
                refine jr_istore hC (D_X12_cut.g 91 rfl) (by decide) rfl ?_
                refine jr_pick [1, 2, 3, 4, 0, 5] rfl ?_
                exact hj_173 (20 + y7_146) h
              exact hj_173 y6_146 h
            refine jr_pick [0, 1, 2, 3, 4] rfl ?_
            exact hj_179 y6_146 h
          refine jr_pick [1, 2, 3, 4, 0] rfl ?_
          exact hj_179 z0_135 h
        intro j_135 hj_135 h
        refine jr_icmp_le hC (D_X12_cut.g 68 rfl) 134 rfl h (fun h => ?_) (fun h => ?_)
        · refine jr_iconst hC (D_X12_cut.g 71 rfl) ?_
          exact hj_135 1 h
        refine jr_iconst hC (D_X12_cut.g 69 rfl) ?_
        refine jr_goto hC (D_X12_cut.g 70 rfl) 135 rfl ?_
        exact hj_135 3 h
      refine jr_iload_n hC (D_X12_cut.g 53 rfl) 2 rfl ?_
      refine jr_bipush hC (D_X12_cut.g 54 rfl) bp_8 ?_
      refine jr_join h (fun j => ∀ (y4_118 : Int) (M_118 : jMem), j y4_118 M_118 = some (r, M') → JW E X 8 0 0 M_118 118 [(0, q_r E th), (1, q_i y1_7), (3, q_i y3_85), (4, q_l y4_118)] []) ?_ ?_
      · intro y4_118 M_118 h
        refine jr_iinc hC (D_X12_cut.g 64 rfl) 2 rfl (by decide) rfl ?_
        refine jr_goto hC (D_X12_cut.g 65 rfl) 85 rfl ?_
        refine jr_pick [1, 2, 0, 3] rfl ?_
        exact hrec_85 (y3_85 + 1) y4_118 M_118 h
      intro j_118 hj_118 h
      refine jr_icmp_ge hC (D_X12_cut.g 55 rfl) 118 rfl h (fun h => ?_) (fun h => ?_)
      · refine jr_lload hC (D_X12_cut.g 56 rfl) 3 rfl ?_
        refine jr_aload_n hC (D_X12_cut.g 57 rfl) 0 rfl ?_
        refine jr_iload_n hC (D_X12_cut.g 58 rfl) 1 rfl ?_
        refine jr_iload_n hC (D_X12_cut.g 59 rfl) 2 rfl ?_
        refine jr_iadd hC (D_X12_cut.g 60 rfl) ?_
        refine jr_cVi hC cl_X12_196 ⟨rfl, by decide⟩ (D_X12_cut.g 61 rfl) [q_i (y1_7 + y3_85)] h (fun r M' e => c_X12_byteAt e) rfl rfl ⟨by decide, by decide⟩ (Nat.le_of_ble_eq_true rfl) ⟨Nat.le_of_ble_eq_true rfl, Nat.le_of_ble_eq_true rfl⟩ (fun v30 M31 h => ?_)
        refine jr_cSl hC cl_X12_189 (D_X12_cut.g 62 rfl) [q_l y4_85, q_i v30] h (fun r M' e => c_X12_appends e) rfl rfl ⟨by decide, by decide⟩ (Nat.le_of_ble_eq_true rfl) ⟨Nat.le_of_ble_eq_true rfl, Nat.le_of_ble_eq_true rfl⟩ (fun v32 M33 h => ?_)
        refine jr_lstore hC (D_X12_cut.g 63 rfl) (by decide) rfl ?_
        refine jr_pick [1, 2, 3, 0] rfl ?_
        exact hj_118 v32 M33 h
      exact hj_118 y4_85 M25 h
    refine jr_aload_n hC (D_X12_cut.g 17 rfl) 1 rfl ?_
    refine jr_iconst hC (D_X12_cut.g 18 rfl) ?_
    refine jr_aload_n hC (D_X12_cut.g 19 rfl) 1 rfl ?_
    refine jr_getI hC fl_X12_184 rfl (D_X12_cut.g 20 rfl) h (fun v34 h => ?_)
    refine jr_iconst hC (D_X12_cut.g 21 rfl) ?_
    refine jr_lconst hC 0 (D_X12_cut.g 22 rfl) (by decide +kernel) ?_
    refine jr_cVv hC cl_X12_200 ⟨rfl, by decide⟩ (D_X12_cut.g 23 rfl) [q_i 0, q_i v34, q_i 0, q_l 0] h (fun r M' e => c_X12_token e) rfl rfl ⟨by decide, by decide⟩ (Nat.le_of_ble_eq_true rfl) ⟨Nat.le_of_ble_eq_true rfl, Nat.le_of_ble_eq_true rfl⟩ (fun _ M36 h => ?_)
    exact jr_vret hC (D_X12_cut.g 24 rfl) hr hE h
  exact jr_vret hC (D_X12_cut.g 165 rfl) hr hE h
def f_X12_is (th : Nat) (x1 : Int) (M : jMem) : Option (Int × jMem) :=
(jm_gI 12 13 M th).bind fun v1 =>
jjq (jm_z 0 M) fun j_24 =>
if jd_wr v1 = 0 then ((jm_gR 12 5 M th).bind fun r2 =>
(jm_gI 12 11 M th).bind fun v3 =>
(jm_ld 20 M r2 v3).bind fun v4 =>
if jd_wr v4 = jd_wr x1 then (jm_z 1 M)
else (j_24 ))
else (j_24 )
theorem D_X12_is : jDs cX12_is [(0, .aload_n 0, 1, 1), (1, .getfield 215, 3, 4), (4, .ifCond .ne 20, 3, 7), (7, .aload_n 0, 1, 8), (8, .getfield 20, 3, 11), (11, .aload_n 0, 1, 12), (12, .getfield 218, 3, 15), (15, .iaload, 1, 16), (16, .iload_n 1, 1, 17), (17, .if_icmp .ne 7, 3, 20), (20, .iconst 1, 1, 21), (21, .goto 4, 3, 24), (24, .iconst 0, 1, 25), (25, .ireturn, 1, 26)] := by unfold jDs; decide +kernel
set_option maxRecDepth 100000 in
set_option maxHeartbeats 4000000 in
theorem c_X12_is {E : jE} {th : Nat} {x1 : Int} {M : jMem} {r : Int} {M' : jMem} (h : f_X12_is th x1 M = some (r, M')) : jMet E yX12_is cX12_is 2 (some .boolean) 2 0 0 [q_r E th, q_i x1] M (some (q_i r)) M' := by
  unfold f_X12_is at h
  refine jMet.of RX12 rfl (by decide +kernel) (Nat.le_of_ble_eq_true rfl) [(0, q_r E th), (1, q_i x1)] rfl (fun X hC hE hr hn => ?_)
  refine jr_aload_n hC (D_X12_is.g 0 rfl) 0 rfl ?_
  refine jr_getI hC fl_X12_215 rfl (D_X12_is.g 1 rfl) h (fun v1 h => ?_)
  refine jr_join h (fun j => j = some (r, M') → JW E X 2 0 0 M 24 [] []) ?_ ?_
  · intro  h
    refine jr_iconst hC (D_X12_is.g 12 rfl) ?_
    exact jr_zret hC (D_X12_is.g 13 rfl) hr hE h
  intro j_24 hj_24 h
  refine jr_if_ne hC (D_X12_is.g 2 rfl) 24 rfl h (fun h => ?_) (fun h => ?_)
  · refine jr_aload_n hC (D_X12_is.g 3 rfl) 0 rfl ?_
    refine jr_getR hC fl_X12_20 rfl (D_X12_is.g 4 rfl) h (fun r2 h => ?_)
    refine jr_aload_n hC (D_X12_is.g 5 rfl) 0 rfl ?_
    refine jr_getI hC fl_X12_218 rfl (D_X12_is.g 6 rfl) h (fun v3 h => ?_)
    refine jr_iald hC (D_X12_is.g 7 rfl) h (fun v4 h => ?_)
    refine jr_iload_n hC (D_X12_is.g 8 rfl) 1 rfl ?_
    refine jr_icmp_ne hC (D_X12_is.g 9 rfl) 24 rfl h (fun h => ?_) (fun h => ?_)
    · refine jr_iconst hC (D_X12_is.g 10 rfl) ?_
      refine jr_goto hC (D_X12_is.g 11 rfl) 25 rfl ?_
      exact jr_zret hC (D_X12_is.g 13 rfl) hr hE h
    refine jr_pick [] rfl ?_
    exact hj_24  h
  refine jr_pick [] rfl ?_
  exact hj_24  h
def f_X12_fail (th : Nat) (x1 : Int) (M : jMem) : Option (Int × jMem) :=
(jm_gI 12 13 M th).bind fun v1 =>
if jd_wr v1 ≤ 0 then ((jm_pI 12 13 M th x1).bind fun M2 =>
(jm_gR 12 6 M2 th).bind fun r3 =>
(jm_gI 12 11 M2 th).bind fun v4 =>
(jm_ld 20 M2 r3 v4).bind fun v5 =>
(jm_pI 12 14 M2 th v5).bind fun M6 =>
some (0, M6))
else (some (0, M))
theorem D_X12_fail : jDs cX12_fail [(0, .aload_n 0, 1, 1), (1, .getfield 215, 3, 4), (4, .ifCond .le 4, 3, 7), (7, .return_, 1, 8), (8, .aload_n 0, 1, 9), (9, .iload_n 1, 1, 10), (10, .putfield 215, 3, 13), (13, .aload_n 0, 1, 14), (14, .aload_n 0, 1, 15), (15, .getfield 24, 3, 18), (18, .aload_n 0, 1, 19), (19, .getfield 218, 3, 22), (22, .iaload, 1, 23), (23, .putfield 221, 3, 26), (26, .return_, 1, 27)] := by unfold jDs; decide +kernel
set_option maxRecDepth 100000 in
set_option maxHeartbeats 4000000 in
theorem c_X12_fail {E : jE} {th : Nat} {x1 : Int} {M : jMem} {r : Int} {M' : jMem} (h : f_X12_fail th x1 M = some (r, M')) : jMet E yX12_fail cX12_fail 2 (none) 2 0 0 [q_r E th, q_i x1] M (none) M' := by
  unfold f_X12_fail at h
  refine jMet.of RX12 rfl (by decide +kernel) (Nat.le_of_ble_eq_true rfl) [(0, q_r E th), (1, q_i x1)] rfl (fun X hC hE hr hn => ?_)
  refine jr_aload_n hC (D_X12_fail.g 0 rfl) 0 rfl ?_
  refine jr_getI hC fl_X12_215 rfl (D_X12_fail.g 1 rfl) h (fun v1 h => ?_)
  refine jr_if_le hC (D_X12_fail.g 2 rfl) 8 rfl h (fun h => ?_) (fun h => ?_)
  · refine jr_aload_n hC (D_X12_fail.g 4 rfl) 0 rfl ?_
    refine jr_iload_n hC (D_X12_fail.g 5 rfl) 1 rfl ?_
    refine jr_putI hC fl_X12_215 rfl (jnfin rfl) (D_X12_fail.g 6 rfl) h (fun M2 _ h => ?_)
    refine jr_aload_n hC (D_X12_fail.g 7 rfl) 0 rfl ?_
    refine jr_aload_n hC (D_X12_fail.g 8 rfl) 0 rfl ?_
    refine jr_getR hC fl_X12_24 rfl (D_X12_fail.g 9 rfl) h (fun r3 h => ?_)
    refine jr_aload_n hC (D_X12_fail.g 10 rfl) 0 rfl ?_
    refine jr_getI hC fl_X12_218 rfl (D_X12_fail.g 11 rfl) h (fun v4 h => ?_)
    refine jr_iald hC (D_X12_fail.g 12 rfl) h (fun v5 h => ?_)
    refine jr_putI hC fl_X12_221 rfl (jnfin rfl) (D_X12_fail.g 13 rfl) h (fun M6 _ h => ?_)
    exact jr_vret hC (D_X12_fail.g 14 rfl) hr hE h
  exact jr_vret hC (D_X12_fail.g 3 rfl) hr hE h
def f_X12_wrong (th : Nat) (x1 : Int) (x2 : Int) (M : jMem) : Option (Int × jMem) :=
(jm_gR 12 6 M th).bind fun r1 =>
(jm_ld 20 M r1 x2).bind fun v2 =>
(jm_gI 12 13 M th).bind fun v3 =>
if jd_wr v3 ≤ 0 then ((jm_gI 12 15 M th).bind fun v4 =>
jjq ((jm_pI 12 15 M th x1).bind fun M5 =>
(jm_pI 12 16 M5 th v2).bind fun M6 =>
some (0, M6)) fun j_46 =>
if jd_wr v4 = 0 then (j_46 )
else ((jm_gI 12 16 M th).bind fun v7 =>
if jd_wr v2 ≤ jd_wr v7 then ((jm_gI 12 16 M th).bind fun v8 =>
if jd_wr v2 = jd_wr v8 then ((jm_gI 12 15 M th).bind fun v9 =>
if jd_wr x1 < jd_wr v9 then (j_46 )
else (some (0, M)))
else (j_46 ))
else (some (0, M))))
else (some (0, M))
theorem D_X12_wrong : jDs cX12_wrong [(0, .aload_n 0, 1, 1), (1, .getfield 24, 3, 4), (4, .iload_n 2, 1, 5), (5, .iaload, 1, 6), (6, .istore_n 3, 1, 7), (7, .aload_n 0, 1, 8), (8, .getfield 215, 3, 11), (11, .ifCond .gt 34, 3, 14), (14, .aload_n 0, 1, 15), (15, .getfield 224, 3, 18), (18, .ifCond .eq 28, 3, 21), (21, .iload_n 3, 1, 22), (22, .aload_n 0, 1, 23), (23, .getfield 227, 3, 26), (26, .if_icmp .gt 19, 3, 29), (29, .iload_n 3, 1, 30), (30, .aload_n 0, 1, 31), (31, .getfield 227, 3, 34), (34, .if_icmp .ne 12, 3, 37), (37, .iload_n 1, 1, 38), (38, .aload_n 0, 1, 39), (39, .getfield 224, 3, 42), (42, .if_icmp .lt 4, 3, 45), (45, .return_, 1, 46), (46, .aload_n 0, 1, 47), (47, .iload_n 1, 1, 48), (48, .putfield 224, 3, 51), (51, .aload_n 0, 1, 52), (52, .iload_n 3, 1, 53), (53, .putfield 227, 3, 56), (56, .return_, 1, 57)] := by unfold jDs; decide +kernel
set_option maxRecDepth 100000 in
set_option maxHeartbeats 4000000 in
theorem c_X12_wrong {E : jE} {th : Nat} {x1 : Int} {x2 : Int} {M : jMem} {r : Int} {M' : jMem} (h : f_X12_wrong th x1 x2 M = some (r, M')) : jMet E yX12_wrong cX12_wrong 4 (none) 2 0 0 [q_r E th, q_i x1, q_i x2] M (none) M' := by
  unfold f_X12_wrong at h
  refine jMet.of RX12 rfl (by decide +kernel) (Nat.le_of_ble_eq_true rfl) [(0, q_r E th), (1, q_i x1), (2, q_i x2)] rfl (fun X hC hE hr hn => ?_)
  refine jr_aload_n hC (D_X12_wrong.g 0 rfl) 0 rfl ?_
  refine jr_getR hC fl_X12_24 rfl (D_X12_wrong.g 1 rfl) h (fun r1 h => ?_)
  refine jr_iload_n hC (D_X12_wrong.g 2 rfl) 2 rfl ?_
  refine jr_iald hC (D_X12_wrong.g 3 rfl) h (fun v2 h => ?_)
  refine jr_istore_n hC (D_X12_wrong.g 4 rfl) (by decide) rfl ?_
  refine jr_aload_n hC (D_X12_wrong.g 5 rfl) 1 rfl ?_
  refine jr_getI hC fl_X12_215 rfl (D_X12_wrong.g 6 rfl) h (fun v3 h => ?_)
  refine jr_if_gt hC (D_X12_wrong.g 7 rfl) 45 rfl h (fun h => ?_) (fun h => ?_)
  · refine jr_aload_n hC (D_X12_wrong.g 8 rfl) 1 rfl ?_
    refine jr_getI hC fl_X12_224 rfl (D_X12_wrong.g 9 rfl) h (fun v4 h => ?_)
    refine jr_join h (fun j => j = some (r, M') → JW E X 4 0 0 M 46 [(0, q_r E th), (1, q_i x1), (3, q_i v2)] []) ?_ ?_
    · intro  h
      refine jr_aload_n hC (D_X12_wrong.g 24 rfl) 0 rfl ?_
      refine jr_iload_n hC (D_X12_wrong.g 25 rfl) 1 rfl ?_
      refine jr_putI hC fl_X12_224 rfl (jnfin rfl) (D_X12_wrong.g 26 rfl) h (fun M5 _ h => ?_)
      refine jr_aload_n hC (D_X12_wrong.g 27 rfl) 0 rfl ?_
      refine jr_iload_n hC (D_X12_wrong.g 28 rfl) 2 rfl ?_
      refine jr_putI hC fl_X12_227 rfl (jnfin rfl) (D_X12_wrong.g 29 rfl) h (fun M6 _ h => ?_)
      exact jr_vret hC (D_X12_wrong.g 30 rfl) hr hE h
    intro j_46 hj_46 h
    refine jr_if_eq hC (D_X12_wrong.g 10 rfl) 46 rfl h (fun h => ?_) (fun h => ?_)
    · refine jr_pick [1, 2, 0] rfl ?_
      exact hj_46  h
    refine jr_iload_n hC (D_X12_wrong.g 11 rfl) 0 rfl ?_
    refine jr_aload_n hC (D_X12_wrong.g 12 rfl) 1 rfl ?_
    refine jr_getI hC fl_X12_227 rfl (D_X12_wrong.g 13 rfl) h (fun v7 h => ?_)
    refine jr_icmp_gt hC (D_X12_wrong.g 14 rfl) 45 rfl h (fun h => ?_) (fun h => ?_)
    · refine jr_iload_n hC (D_X12_wrong.g 15 rfl) 0 rfl ?_
      refine jr_aload_n hC (D_X12_wrong.g 16 rfl) 1 rfl ?_
      refine jr_getI hC fl_X12_227 rfl (D_X12_wrong.g 17 rfl) h (fun v8 h => ?_)
      refine jr_icmp_ne hC (D_X12_wrong.g 18 rfl) 46 rfl h (fun h => ?_) (fun h => ?_)
      · refine jr_iload_n hC (D_X12_wrong.g 19 rfl) 2 rfl ?_
        refine jr_aload_n hC (D_X12_wrong.g 20 rfl) 1 rfl ?_
        refine jr_getI hC fl_X12_224 rfl (D_X12_wrong.g 21 rfl) h (fun v9 h => ?_)
        refine jr_icmp_lt hC (D_X12_wrong.g 22 rfl) 46 rfl h (fun h => ?_) (fun h => ?_)
        · refine jr_pick [1, 2, 0] rfl ?_
          exact hj_46  h
        exact jr_vret hC (D_X12_wrong.g 23 rfl) hr hE h
      refine jr_pick [1, 2, 0] rfl ?_
      exact hj_46  h
    exact jr_vret hC (D_X12_wrong.g 23 rfl) hr hE h
  exact jr_vret hC (D_X12_wrong.g 23 rfl) hr hE h
def f_X12_goesOn (th : Nat) (M : jMem) : Option (Int × jMem) :=
(jm_gI 12 11 M th).bind fun v1 =>
if jd_wr v1 = jd_wr 400 then (jcall 12 M th (f_X12_fail th 2 M) fun _ M3 =>
some (0, M3))
else ((jm_gI 12 11 M th).bind fun v4 =>
(jm_pI 12 11 M th (v4 + 1)).bind fun M5 =>
some (0, M5))
theorem D_X12_goesOn : jDs cX12_goesOn [(0, .aload_n 0, 1, 1), (1, .getfield 218, 3, 4), (4, .sipush 400, 3, 7), (7, .if_icmp .ne 11, 3, 10), (10, .aload_n 0, 1, 11), (11, .iconst 2, 1, 12), (12, .invokevirtual 230, 3, 15), (15, .goto 13, 3, 18), (18, .aload_n 0, 1, 19), (19, .dup, 1, 20), (20, .getfield 218, 3, 23), (23, .iconst 1, 1, 24), (24, .iadd, 1, 25), (25, .putfield 218, 3, 28), (28, .return_, 1, 29)] := by unfold jDs; decide +kernel
set_option maxRecDepth 100000 in
set_option maxHeartbeats 4000000 in
theorem c_X12_goesOn {E : jE} {th : Nat} {M : jMem} {r : Int} {M' : jMem} (h : f_X12_goesOn th M = some (r, M')) : jMet E yX12_goesOn cX12_goesOn 1 (none) 3 0 0 [q_r E th] M (none) M' := by
  unfold f_X12_goesOn at h
  refine jMet.of RX12 rfl (by decide +kernel) (Nat.le_of_ble_eq_true rfl) [(0, q_r E th)] rfl (fun X hC hE hr hn => ?_)
  refine jr_aload_n hC (D_X12_goesOn.g 0 rfl) 0 rfl ?_
  refine jr_getI hC fl_X12_218 rfl (D_X12_goesOn.g 1 rfl) h (fun v1 h => ?_)
  refine jr_sipush hC (D_X12_goesOn.g 2 rfl) sp_400 ?_
  refine jr_icmp_ne hC (D_X12_goesOn.g 3 rfl) 18 rfl h (fun h => ?_) (fun h => ?_)
  · refine jr_aload_n hC (D_X12_goesOn.g 4 rfl) 0 rfl ?_
    refine jr_iconst hC (D_X12_goesOn.g 5 rfl) ?_
    refine jr_cVv hC cl_X12_230 ⟨rfl, by decide⟩ (D_X12_goesOn.g 6 rfl) [q_i 2] h (fun r M' e => c_X12_fail e) rfl rfl ⟨by decide, by decide⟩ (Nat.le_of_ble_eq_true rfl) ⟨Nat.le_of_ble_eq_true rfl, Nat.le_of_ble_eq_true rfl⟩ (fun _ M3 h => ?_)
    refine jr_goto hC (D_X12_goesOn.g 7 rfl) 28 rfl ?_
    exact jr_vret hC (D_X12_goesOn.g 14 rfl) hr hE h
  refine jr_aload_n hC (D_X12_goesOn.g 8 rfl) 0 rfl ?_
  refine jr_dup hC (D_X12_goesOn.g 9 rfl) rfl ?_
  refine jr_getI hC fl_X12_218 rfl (D_X12_goesOn.g 10 rfl) h (fun v4 h => ?_)
  refine jr_iconst hC (D_X12_goesOn.g 11 rfl) ?_
  refine jr_iadd hC (D_X12_goesOn.g 12 rfl) ?_
  refine jr_putI hC fl_X12_218 rfl (jnfin rfl) (D_X12_goesOn.g 13 rfl) h (fun M5 _ h => ?_)
  exact jr_vret hC (D_X12_goesOn.g 14 rfl) hr hE h
def f_X12_must (th : Nat) (x1 : Int) (M : jMem) : Option (Int × jMem) :=
jcall 12 M th (f_X12_is th x1 M) fun v1 M2 =>
if jd_wr v1 = 0 then (jcall 12 M2 th (f_X12_fail th 1 M2) fun _ M4 =>
some (0, M4))
else (jcall 12 M2 th (f_X12_goesOn th M2) fun _ M6 =>
some (0, M6))
theorem D_X12_must : jDs cX12_must [(0, .aload_n 0, 1, 1), (1, .iload_n 1, 1, 2), (2, .invokevirtual 233, 3, 5), (5, .ifCond .eq 10, 3, 8), (8, .aload_n 0, 1, 9), (9, .invokevirtual 236, 3, 12), (12, .goto 8, 3, 15), (15, .aload_n 0, 1, 16), (16, .iconst 1, 1, 17), (17, .invokevirtual 230, 3, 20), (20, .return_, 1, 21)] := by unfold jDs; decide +kernel
set_option maxRecDepth 100000 in
set_option maxHeartbeats 4000000 in
theorem c_X12_must {E : jE} {th : Nat} {x1 : Int} {M : jMem} {r : Int} {M' : jMem} (h : f_X12_must th x1 M = some (r, M')) : jMet E yX12_must cX12_must 2 (none) 4 0 0 [q_r E th, q_i x1] M (none) M' := by
  unfold f_X12_must at h
  refine jMet.of RX12 rfl (by decide +kernel) (Nat.le_of_ble_eq_true rfl) [(0, q_r E th), (1, q_i x1)] rfl (fun X hC hE hr hn => ?_)
  refine jr_aload_n hC (D_X12_must.g 0 rfl) 0 rfl ?_
  refine jr_iload_n hC (D_X12_must.g 1 rfl) 1 rfl ?_
  refine jr_cVi hC cl_X12_233 ⟨rfl, by decide⟩ (D_X12_must.g 2 rfl) [q_i x1] h (fun r M' e => c_X12_is e) rfl rfl ⟨by decide, by decide⟩ (Nat.le_of_ble_eq_true rfl) ⟨Nat.le_of_ble_eq_true rfl, Nat.le_of_ble_eq_true rfl⟩ (fun v1 M2 h => ?_)
  refine jr_if_eq hC (D_X12_must.g 3 rfl) 15 rfl h (fun h => ?_) (fun h => ?_)
  · refine jr_aload_n hC (D_X12_must.g 7 rfl) 0 rfl ?_
    refine jr_iconst hC (D_X12_must.g 8 rfl) ?_
    refine jr_cVv hC cl_X12_230 ⟨rfl, by decide⟩ (D_X12_must.g 9 rfl) [q_i 1] h (fun r M' e => c_X12_fail e) rfl rfl ⟨by decide, by decide⟩ (Nat.le_of_ble_eq_true rfl) ⟨Nat.le_of_ble_eq_true rfl, Nat.le_of_ble_eq_true rfl⟩ (fun _ M4 h => ?_)
    exact jr_vret hC (D_X12_must.g 10 rfl) hr hE h
  refine jr_aload_n hC (D_X12_must.g 4 rfl) 0 rfl ?_
  refine jr_cVv hC cl_X12_236 ⟨rfl, by decide⟩ (D_X12_must.g 5 rfl) [] h (fun r M' e => c_X12_goesOn e) rfl rfl ⟨by decide, by decide⟩ (Nat.le_of_ble_eq_true rfl) ⟨Nat.le_of_ble_eq_true rfl, Nat.le_of_ble_eq_true rfl⟩ (fun _ M6 h => ?_)
  refine jr_goto hC (D_X12_must.g 6 rfl) 20 rfl ?_
  exact jr_vret hC (D_X12_must.g 10 rfl) hr hE h
def f_X12_bounded (th : Nat) (x1 : Int) (x2 : Int) (M : jMem) : Option (Int × jMem) :=
(jm_gI 12 13 M th).bind fun v1 =>
jjq (fun (M_15 : jMem) =>
jcall 12 M_15 th (f_X12_fail th 1 M_15) fun _ M3 =>
some (x1, M3)) fun j_15 =>
if jd_wr v1 ≤ 0 then (jcall 12 M th (f_X12_is th 2 M) fun v4 M5 =>
if jd_wr v4 = 0 then (j_15 M5)
else ((jm_gR 12 7 M5 th).bind fun r6 =>
(jm_gI 12 11 M5 th).bind fun v7 =>
(jm_ld 20 M5 r6 v7).bind fun v8 =>
jjq (fun (M_51 : jMem) =>
jcall 12 M_51 th (f_X12_goesOn th M_51) fun _ M10 =>
some (v8, M10)) fun j_51 =>
jjq ((jm_gI 12 11 M5 th).bind fun v11 =>
jcall 12 M5 th (f_X12_wrong th 5 v11 M5) fun _ M13 =>
j_51 M13) fun j_42 =>
if jd_wr v8 < jd_wr x1 then (j_42 )
else (if jd_wr v8 ≤ jd_wr x2 then (j_51 M5)
else (j_42 ))))
else (j_15 M)
theorem D_X12_bounded : jDs cX12_bounded [(0, .aload_n 0, 1, 1), (1, .getfield 215, 3, 4), (4, .ifCond .gt 11, 3, 7), (7, .aload_n 0, 1, 8), (8, .iconst 2, 1, 9), (9, .invokevirtual 233, 3, 12), (12, .ifCond .ne 10, 3, 15), (15, .aload_n 0, 1, 16), (16, .iconst 1, 1, 17), (17, .invokevirtual 230, 3, 20), (20, .iload_n 1, 1, 21), (21, .ireturn, 1, 22), (22, .aload_n 0, 1, 23), (23, .getfield 27, 3, 26), (26, .aload_n 0, 1, 27), (27, .getfield 218, 3, 30), (30, .iaload, 1, 31), (31, .istore_n 3, 1, 32), (32, .iload_n 3, 1, 33), (33, .iload_n 1, 1, 34), (34, .if_icmp .lt 8, 3, 37), (37, .iload_n 3, 1, 38), (38, .iload_n 2, 1, 39), (39, .if_icmp .le 12, 3, 42), (42, .aload_n 0, 1, 43), (43, .iconst 5, 1, 44), (44, .aload_n 0, 1, 45), (45, .getfield 218, 3, 48), (48, .invokevirtual 264, 3, 51), (51, .aload_n 0, 1, 52), (52, .invokevirtual 236, 3, 55), (55, .iload_n 3, 1, 56), (56, .ireturn, 1, 57)] := by unfold jDs; decide +kernel
set_option maxRecDepth 100000 in
set_option maxHeartbeats 4000000 in
theorem c_X12_bounded {E : jE} {th : Nat} {x1 : Int} {x2 : Int} {M : jMem} {r : Int} {M' : jMem} (h : f_X12_bounded th x1 x2 M = some (r, M')) : jMet E yX12_bounded cX12_bounded 4 (some .int) 4 0 0 [q_r E th, q_i x1, q_i x2] M (some (q_i r)) M' := by
  unfold f_X12_bounded at h
  refine jMet.of RX12 rfl (by decide +kernel) (Nat.le_of_ble_eq_true rfl) [(0, q_r E th), (1, q_i x1), (2, q_i x2)] rfl (fun X hC hE hr hn => ?_)
  refine jr_aload_n hC (D_X12_bounded.g 0 rfl) 0 rfl ?_
  refine jr_getI hC fl_X12_215 rfl (D_X12_bounded.g 1 rfl) h (fun v1 h => ?_)
  refine jr_join h (fun j => ∀ (M_15 : jMem), j M_15 = some (r, M') → JW E X 4 0 0 M_15 15 [(0, q_r E th), (1, q_i x1)] []) ?_ ?_
  · intro M_15 h
    refine jr_aload_n hC (D_X12_bounded.g 7 rfl) 0 rfl ?_
    refine jr_iconst hC (D_X12_bounded.g 8 rfl) ?_
    refine jr_cVv hC cl_X12_230 ⟨rfl, by decide⟩ (D_X12_bounded.g 9 rfl) [q_i 1] h (fun r M' e => c_X12_fail e) rfl rfl ⟨by decide, by decide⟩ (Nat.le_of_ble_eq_true rfl) ⟨Nat.le_of_ble_eq_true rfl, Nat.le_of_ble_eq_true rfl⟩ (fun _ M3 h => ?_)
    refine jr_iload_n hC (D_X12_bounded.g 10 rfl) 1 rfl ?_
    exact jr_iret hC (D_X12_bounded.g 11 rfl) hr hE h
  intro j_15 hj_15 h
  refine jr_if_gt hC (D_X12_bounded.g 2 rfl) 15 rfl h (fun h => ?_) (fun h => ?_)
  · refine jr_aload_n hC (D_X12_bounded.g 3 rfl) 0 rfl ?_
    refine jr_iconst hC (D_X12_bounded.g 4 rfl) ?_
    refine jr_cVi hC cl_X12_233 ⟨rfl, by decide⟩ (D_X12_bounded.g 5 rfl) [q_i 2] h (fun r M' e => c_X12_is e) rfl rfl ⟨by decide, by decide⟩ (Nat.le_of_ble_eq_true rfl) ⟨Nat.le_of_ble_eq_true rfl, Nat.le_of_ble_eq_true rfl⟩ (fun v4 M5 h => ?_)
    refine jr_if_ne hC (D_X12_bounded.g 6 rfl) 22 rfl h (fun h => ?_) (fun h => ?_)
    · refine jr_pick [0, 1] rfl ?_
      exact hj_15 M5 h
    refine jr_aload_n hC (D_X12_bounded.g 12 rfl) 0 rfl ?_
    refine jr_getR hC fl_X12_27 rfl (D_X12_bounded.g 13 rfl) h (fun r6 h => ?_)
    refine jr_aload_n hC (D_X12_bounded.g 14 rfl) 0 rfl ?_
    refine jr_getI hC fl_X12_218 rfl (D_X12_bounded.g 15 rfl) h (fun v7 h => ?_)
    refine jr_iald hC (D_X12_bounded.g 16 rfl) h (fun v8 h => ?_)
    refine jr_istore_n hC (D_X12_bounded.g 17 rfl) (by decide) rfl ?_
    refine jr_iload_n hC (D_X12_bounded.g 18 rfl) 0 rfl ?_
    refine jr_iload_n hC (D_X12_bounded.g 19 rfl) 2 rfl ?_
    refine jr_join h (fun j => ∀ (M_51 : jMem), j M_51 = some (r, M') → JW E X 4 0 0 M_51 51 [(0, q_r E th), (3, q_i v8)] []) ?_ ?_
    · intro M_51 h
      refine jr_aload_n hC (D_X12_bounded.g 29 rfl) 0 rfl ?_
      refine jr_cVv hC cl_X12_236 ⟨rfl, by decide⟩ (D_X12_bounded.g 30 rfl) [] h (fun r M' e => c_X12_goesOn e) rfl rfl ⟨by decide, by decide⟩ (Nat.le_of_ble_eq_true rfl) ⟨Nat.le_of_ble_eq_true rfl, Nat.le_of_ble_eq_true rfl⟩ (fun _ M10 h => ?_)
      refine jr_iload_n hC (D_X12_bounded.g 31 rfl) 1 rfl ?_
      exact jr_iret hC (D_X12_bounded.g 32 rfl) hr hE h
    intro j_51 hj_51 h
    refine jr_join h (fun j => j = some (r, M') → JW E X 4 0 0 M5 42 [(0, q_r E th), (3, q_i v8)] []) ?_ ?_
    · intro  h
      refine jr_aload_n hC (D_X12_bounded.g 24 rfl) 0 rfl ?_
      refine jr_iconst hC (D_X12_bounded.g 25 rfl) ?_
      refine jr_aload_n hC (D_X12_bounded.g 26 rfl) 0 rfl ?_
      refine jr_getI hC fl_X12_218 rfl (D_X12_bounded.g 27 rfl) h (fun v11 h => ?_)
      refine jr_cVv hC cl_X12_264 ⟨rfl, by decide⟩ (D_X12_bounded.g 28 rfl) [q_i 5, q_i v11] h (fun r M' e => c_X12_wrong e) rfl rfl ⟨by decide, by decide⟩ (Nat.le_of_ble_eq_true rfl) ⟨Nat.le_of_ble_eq_true rfl, Nat.le_of_ble_eq_true rfl⟩ (fun _ M13 h => ?_)
      exact hj_51 M13 h
    intro j_42 hj_42 h
    refine jr_icmp_lt hC (D_X12_bounded.g 20 rfl) 42 rfl h (fun h => ?_) (fun h => ?_)
    · refine jr_pick [1, 0] rfl ?_
      exact hj_42  h
    refine jr_iload_n hC (D_X12_bounded.g 21 rfl) 0 rfl ?_
    refine jr_iload_n hC (D_X12_bounded.g 22 rfl) 3 rfl ?_
    refine jr_icmp_le hC (D_X12_bounded.g 23 rfl) 51 rfl h (fun h => ?_) (fun h => ?_)
    · refine jr_pick [1, 0] rfl ?_
      exact hj_51 M5 h
    refine jr_pick [1, 0] rfl ?_
    exact hj_42  h
  refine jr_pick [0, 1] rfl ?_
  exact hj_15 M h
def f_X12_roomFor (th : Nat) (x1 : Int) (x2 : Int) (M : jMem) : Option (Int × jMem) :=
jjq (fun (M_10 : jMem) =>
(jm_gI 12 13 M_10 th).bind fun v1 =>
if jd_wr v1 = 0 then (jcall 12 M_10 th (f_X12_goesOn th M_10) fun _ M3 =>
some (0, M3))
else (some (0, M_10))) fun j_10 =>
if jd_wr x1 = jd_wr x2 then (jcall 12 M th (f_X12_fail th 2 M) fun _ M5 =>
j_10 M5)
else (j_10 M)
theorem D_X12_roomFor : jDs cX12_roomFor [(0, .iload_n 1, 1, 1), (1, .iload_n 2, 1, 2), (2, .if_icmp .ne 8, 3, 5), (5, .aload_n 0, 1, 6), (6, .iconst 2, 1, 7), (7, .invokevirtual 230, 3, 10), (10, .aload_n 0, 1, 11), (11, .getfield 215, 3, 14), (14, .ifCond .ne 7, 3, 17), (17, .aload_n 0, 1, 18), (18, .invokevirtual 236, 3, 21), (21, .return_, 1, 22)] := by unfold jDs; decide +kernel
set_option maxRecDepth 100000 in
set_option maxHeartbeats 4000000 in
theorem c_X12_roomFor {E : jE} {th : Nat} {x1 : Int} {x2 : Int} {M : jMem} {r : Int} {M' : jMem} (h : f_X12_roomFor th x1 x2 M = some (r, M')) : jMet E yX12_roomFor cX12_roomFor 3 (none) 4 0 0 [q_r E th, q_i x1, q_i x2] M (none) M' := by
  unfold f_X12_roomFor at h
  refine jMet.of RX12 rfl (by decide +kernel) (Nat.le_of_ble_eq_true rfl) [(0, q_r E th), (1, q_i x1), (2, q_i x2)] rfl (fun X hC hE hr hn => ?_)
  refine jr_iload_n hC (D_X12_roomFor.g 0 rfl) 1 rfl ?_
  refine jr_iload_n hC (D_X12_roomFor.g 1 rfl) 2 rfl ?_
  refine jr_join h (fun j => ∀ (M_10 : jMem), j M_10 = some (r, M') → JW E X 3 0 0 M_10 10 [(0, q_r E th)] []) ?_ ?_
  · intro M_10 h
    refine jr_aload_n hC (D_X12_roomFor.g 6 rfl) 0 rfl ?_
    refine jr_getI hC fl_X12_215 rfl (D_X12_roomFor.g 7 rfl) h (fun v1 h => ?_)
    refine jr_if_ne hC (D_X12_roomFor.g 8 rfl) 21 rfl h (fun h => ?_) (fun h => ?_)
    · refine jr_aload_n hC (D_X12_roomFor.g 9 rfl) 0 rfl ?_
      refine jr_cVv hC cl_X12_236 ⟨rfl, by decide⟩ (D_X12_roomFor.g 10 rfl) [] h (fun r M' e => c_X12_goesOn e) rfl rfl ⟨by decide, by decide⟩ (Nat.le_of_ble_eq_true rfl) ⟨Nat.le_of_ble_eq_true rfl, Nat.le_of_ble_eq_true rfl⟩ (fun _ M3 h => ?_)
      exact jr_vret hC (D_X12_roomFor.g 11 rfl) hr hE h
    exact jr_vret hC (D_X12_roomFor.g 11 rfl) hr hE h
  intro j_10 hj_10 h
  refine jr_icmp_ne hC (D_X12_roomFor.g 2 rfl) 10 rfl h (fun h => ?_) (fun h => ?_)
  · refine jr_aload_n hC (D_X12_roomFor.g 3 rfl) 0 rfl ?_
    refine jr_iconst hC (D_X12_roomFor.g 4 rfl) ?_
    refine jr_cVv hC cl_X12_230 ⟨rfl, by decide⟩ (D_X12_roomFor.g 5 rfl) [q_i 2] h (fun r M' e => c_X12_fail e) rfl rfl ⟨by decide, by decide⟩ (Nat.le_of_ble_eq_true rfl) ⟨Nat.le_of_ble_eq_true rfl, Nat.le_of_ble_eq_true rfl⟩ (fun _ M5 h => ?_)
    refine jr_pick [0] rfl ?_
    exact hj_10 M5 h
  refine jr_pick [0] rfl ?_
  exact hj_10 M h
def f_X12_emit (th : Nat) (x1 : Int) (x2 : Int) (M : jMem) : Option (Int × jMem) :=
(jm_gR 12 39 M th).bind fun r1 =>
(jm_gI 12 38 M th).bind fun v2 =>
(jm_st 20 M r1 v2 x1).bind fun M3 =>
(jm_gR 12 40 M3 th).bind fun r4 =>
(jm_gI 12 38 M3 th).bind fun v5 =>
(jm_st 20 M3 r4 v5 x2).bind fun M6 =>
(jm_gI 12 38 M6 th).bind fun v7 =>
(jm_pI 12 38 M6 th (v7 + 1)).bind fun M8 =>
some (0, M8)
theorem D_X12_emit : jDs cX12_emit [(0, .aload_n 0, 1, 1), (1, .getfield 92, 3, 4), (4, .aload_n 0, 1, 5), (5, .getfield 254, 3, 8), (8, .iload_n 1, 1, 9), (9, .iastore, 1, 10), (10, .aload_n 0, 1, 11), (11, .getfield 95, 3, 14), (14, .aload_n 0, 1, 15), (15, .getfield 254, 3, 18), (18, .iload_n 2, 1, 19), (19, .iastore, 1, 20), (20, .aload_n 0, 1, 21), (21, .dup, 1, 22), (22, .getfield 254, 3, 25), (25, .iconst 1, 1, 26), (26, .iadd, 1, 27), (27, .putfield 254, 3, 30), (30, .return_, 1, 31)] := by unfold jDs; decide +kernel
set_option maxRecDepth 100000 in
set_option maxHeartbeats 4000000 in
theorem c_X12_emit {E : jE} {th : Nat} {x1 : Int} {x2 : Int} {M : jMem} {r : Int} {M' : jMem} (h : f_X12_emit th x1 x2 M = some (r, M')) : jMet E yX12_emit cX12_emit 3 (none) 2 0 0 [q_r E th, q_i x1, q_i x2] M (none) M' := by
  unfold f_X12_emit at h
  refine jMet.of RX12 rfl (by decide +kernel) (Nat.le_of_ble_eq_true rfl) [(0, q_r E th), (1, q_i x1), (2, q_i x2)] rfl (fun X hC hE hr hn => ?_)
  refine jr_aload_n hC (D_X12_emit.g 0 rfl) 0 rfl ?_
  refine jr_getR hC fl_X12_92 rfl (D_X12_emit.g 1 rfl) h (fun r1 h => ?_)
  refine jr_aload_n hC (D_X12_emit.g 2 rfl) 0 rfl ?_
  refine jr_getI hC fl_X12_254 rfl (D_X12_emit.g 3 rfl) h (fun v2 h => ?_)
  refine jr_iload_n hC (D_X12_emit.g 4 rfl) 1 rfl ?_
  refine jr_iast hC (D_X12_emit.g 5 rfl) h (fun M3 _ h => ?_)
  refine jr_aload_n hC (D_X12_emit.g 6 rfl) 0 rfl ?_
  refine jr_getR hC fl_X12_95 rfl (D_X12_emit.g 7 rfl) h (fun r4 h => ?_)
  refine jr_aload_n hC (D_X12_emit.g 8 rfl) 0 rfl ?_
  refine jr_getI hC fl_X12_254 rfl (D_X12_emit.g 9 rfl) h (fun v5 h => ?_)
  refine jr_iload_n hC (D_X12_emit.g 10 rfl) 2 rfl ?_
  refine jr_iast hC (D_X12_emit.g 11 rfl) h (fun M6 _ h => ?_)
  refine jr_aload_n hC (D_X12_emit.g 12 rfl) 0 rfl ?_
  refine jr_dup hC (D_X12_emit.g 13 rfl) rfl ?_
  refine jr_getI hC fl_X12_254 rfl (D_X12_emit.g 14 rfl) h (fun v7 h => ?_)
  refine jr_iconst hC (D_X12_emit.g 15 rfl) ?_
  refine jr_iadd hC (D_X12_emit.g 16 rfl) ?_
  refine jr_putI hC fl_X12_254 rfl (jnfin rfl) (D_X12_emit.g 17 rfl) h (fun M8 _ h => ?_)
  exact jr_vret hC (D_X12_emit.g 18 rfl) hr hE h
def f_X12_unit (th : Nat) (M : jMem) : Option (Int × jMem) :=
jcall 12 M th (f_X12_is th 2 M) fun v1 M2 =>
if jd_wr v1 = 0 then ((jm_gI 12 13 M2 th).bind fun v3 =>
jjq (jcall 12 M2 th (f_X12_fail th 1 M2) fun _ M5 =>
some (0, M5)) fun j_88 =>
if jd_wr v3 = 0 then ((jm_gR 12 5 M2 th).bind fun r6 =>
(jm_gI 12 11 M2 th).bind fun v7 =>
(jm_ld 20 M2 r6 v7).bind fun v8 =>
if jd_wr v8 < jd_wr 30 then (j_88 )
else ((jm_gR 12 5 M2 th).bind fun r9 =>
(jm_gI 12 11 M2 th).bind fun v10 =>
(jm_ld 20 M2 r9 v10).bind fun v11 =>
if jd_wr v11 ≤ jd_wr 38 then ((jm_gR 12 5 M2 th).bind fun r12 =>
(jm_gI 12 11 M2 th).bind fun v13 =>
(jm_ld 20 M2 r12 v13).bind fun v14 =>
jcall 12 M2 th (f_X12_emit th 1 (v14 - 30) M2) fun _ M16 =>
jcall 12 M16 th (f_X12_goesOn th M16) fun _ M18 =>
some (0, M18))
else (j_88 )))
else (j_88 ))
else ((jm_gR 12 7 M2 th).bind fun r19 =>
(jm_gI 12 11 M2 th).bind fun v20 =>
(jm_ld 20 M2 r19 v20).bind fun v21 =>
jcall 12 M2 th (f_X12_emit th 0 v21 M2) fun _ M23 =>
jcall 12 M23 th (f_X12_goesOn th M23) fun _ M25 =>
some (0, M25))
theorem D_X12_unit : jDs cX12_unit [(0, .aload_n 0, 1, 1), (1, .iconst 2, 1, 2), (2, .invokevirtual 233, 3, 5), (5, .ifCond .eq 24, 3, 8), (8, .aload_n 0, 1, 9), (9, .iconst 0, 1, 10), (10, .aload_n 0, 1, 11), (11, .getfield 27, 3, 14), (14, .aload_n 0, 1, 15), (15, .getfield 218, 3, 18), (18, .iaload, 1, 19), (19, .invokevirtual 300, 3, 22), (22, .aload_n 0, 1, 23), (23, .invokevirtual 236, 3, 26), (26, .goto 67, 3, 29), (29, .aload_n 0, 1, 30), (30, .getfield 215, 3, 33), (33, .ifCond .ne 55, 3, 36), (36, .aload_n 0, 1, 37), (37, .getfield 20, 3, 40), (40, .aload_n 0, 1, 41), (41, .getfield 218, 3, 44), (44, .iaload, 1, 45), (45, .bipush 30, 2, 47), (47, .if_icmp .lt 41, 3, 50), (50, .aload_n 0, 1, 51), (51, .getfield 20, 3, 54), (54, .aload_n 0, 1, 55), (55, .getfield 218, 3, 58), (58, .iaload, 1, 59), (59, .bipush 38, 2, 61), (61, .if_icmp .gt 27, 3, 64), (64, .aload_n 0, 1, 65), (65, .iconst 1, 1, 66), (66, .aload_n 0, 1, 67), (67, .getfield 20, 3, 70), (70, .aload_n 0, 1, 71), (71, .getfield 218, 3, 74), (74, .iaload, 1, 75), (75, .bipush 30, 2, 77), (77, .isub, 1, 78), (78, .invokevirtual 300, 3, 81), (81, .aload_n 0, 1, 82), (82, .invokevirtual 236, 3, 85), (85, .goto 8, 3, 88), (88, .aload_n 0, 1, 89), (89, .iconst 1, 1, 90), (90, .invokevirtual 230, 3, 93), (93, .return_, 1, 94)] := by unfold jDs; decide +kernel
set_option maxRecDepth 100000 in
set_option maxHeartbeats 4000000 in
theorem c_X12_unit {E : jE} {th : Nat} {M : jMem} {r : Int} {M' : jMem} (h : f_X12_unit th M = some (r, M')) : jMet E yX12_unit cX12_unit 1 (none) 4 0 0 [q_r E th] M (none) M' := by
  unfold f_X12_unit at h
  refine jMet.of RX12 rfl (by decide +kernel) (Nat.le_of_ble_eq_true rfl) [(0, q_r E th)] rfl (fun X hC hE hr hn => ?_)
  refine jr_aload_n hC (D_X12_unit.g 0 rfl) 0 rfl ?_
  refine jr_iconst hC (D_X12_unit.g 1 rfl) ?_
  refine jr_cVi hC cl_X12_233 ⟨rfl, by decide⟩ (D_X12_unit.g 2 rfl) [q_i 2] h (fun r M' e => c_X12_is e) rfl rfl ⟨by decide, by decide⟩ (Nat.le_of_ble_eq_true rfl) ⟨Nat.le_of_ble_eq_true rfl, Nat.le_of_ble_eq_true rfl⟩ (fun v1 M2 h => ?_)
  refine jr_if_eq hC (D_X12_unit.g 3 rfl) 29 rfl h (fun h => ?_) (fun h => ?_)
  · refine jr_aload_n hC (D_X12_unit.g 15 rfl) 0 rfl ?_
    refine jr_getI hC fl_X12_215 rfl (D_X12_unit.g 16 rfl) h (fun v3 h => ?_)
    refine jr_join h (fun j => j = some (r, M') → JW E X 1 0 0 M2 88 [(0, q_r E th)] []) ?_ ?_
    · intro  h
      refine jr_aload_n hC (D_X12_unit.g 45 rfl) 0 rfl ?_
      refine jr_iconst hC (D_X12_unit.g 46 rfl) ?_
      refine jr_cVv hC cl_X12_230 ⟨rfl, by decide⟩ (D_X12_unit.g 47 rfl) [q_i 1] h (fun r M' e => c_X12_fail e) rfl rfl ⟨by decide, by decide⟩ (Nat.le_of_ble_eq_true rfl) ⟨Nat.le_of_ble_eq_true rfl, Nat.le_of_ble_eq_true rfl⟩ (fun _ M5 h => ?_)
      exact jr_vret hC (D_X12_unit.g 48 rfl) hr hE h
    intro j_88 hj_88 h
    refine jr_if_ne hC (D_X12_unit.g 17 rfl) 88 rfl h (fun h => ?_) (fun h => ?_)
    · refine jr_aload_n hC (D_X12_unit.g 18 rfl) 0 rfl ?_
      refine jr_getR hC fl_X12_20 rfl (D_X12_unit.g 19 rfl) h (fun r6 h => ?_)
      refine jr_aload_n hC (D_X12_unit.g 20 rfl) 0 rfl ?_
      refine jr_getI hC fl_X12_218 rfl (D_X12_unit.g 21 rfl) h (fun v7 h => ?_)
      refine jr_iald hC (D_X12_unit.g 22 rfl) h (fun v8 h => ?_)
      refine jr_bipush hC (D_X12_unit.g 23 rfl) bp_30 ?_
      refine jr_icmp_lt hC (D_X12_unit.g 24 rfl) 88 rfl h (fun h => ?_) (fun h => ?_)
      · exact hj_88  h
      refine jr_aload_n hC (D_X12_unit.g 25 rfl) 0 rfl ?_
      refine jr_getR hC fl_X12_20 rfl (D_X12_unit.g 26 rfl) h (fun r9 h => ?_)
      refine jr_aload_n hC (D_X12_unit.g 27 rfl) 0 rfl ?_
      refine jr_getI hC fl_X12_218 rfl (D_X12_unit.g 28 rfl) h (fun v10 h => ?_)
      refine jr_iald hC (D_X12_unit.g 29 rfl) h (fun v11 h => ?_)
      refine jr_bipush hC (D_X12_unit.g 30 rfl) bp_38 ?_
      refine jr_icmp_gt hC (D_X12_unit.g 31 rfl) 88 rfl h (fun h => ?_) (fun h => ?_)
      · refine jr_aload_n hC (D_X12_unit.g 32 rfl) 0 rfl ?_
        refine jr_iconst hC (D_X12_unit.g 33 rfl) ?_
        refine jr_aload_n hC (D_X12_unit.g 34 rfl) 0 rfl ?_
        refine jr_getR hC fl_X12_20 rfl (D_X12_unit.g 35 rfl) h (fun r12 h => ?_)
        refine jr_aload_n hC (D_X12_unit.g 36 rfl) 0 rfl ?_
        refine jr_getI hC fl_X12_218 rfl (D_X12_unit.g 37 rfl) h (fun v13 h => ?_)
        refine jr_iald hC (D_X12_unit.g 38 rfl) h (fun v14 h => ?_)
        refine jr_bipush hC (D_X12_unit.g 39 rfl) bp_30 ?_
        refine jr_isub hC (D_X12_unit.g 40 rfl) ?_
        refine jr_cVv hC cl_X12_300 ⟨rfl, by decide⟩ (D_X12_unit.g 41 rfl) [q_i 1, q_i (v14 - 30)] h (fun r M' e => c_X12_emit e) rfl rfl ⟨by decide, by decide⟩ (Nat.le_of_ble_eq_true rfl) ⟨Nat.le_of_ble_eq_true rfl, Nat.le_of_ble_eq_true rfl⟩ (fun _ M16 h => ?_)
        refine jr_aload_n hC (D_X12_unit.g 42 rfl) 0 rfl ?_
        refine jr_cVv hC cl_X12_236 ⟨rfl, by decide⟩ (D_X12_unit.g 43 rfl) [] h (fun r M' e => c_X12_goesOn e) rfl rfl ⟨by decide, by decide⟩ (Nat.le_of_ble_eq_true rfl) ⟨Nat.le_of_ble_eq_true rfl, Nat.le_of_ble_eq_true rfl⟩ (fun _ M18 h => ?_)
        refine jr_goto hC (D_X12_unit.g 44 rfl) 93 rfl ?_
        exact jr_vret hC (D_X12_unit.g 48 rfl) hr hE h
      exact hj_88  h
    exact hj_88  h
  refine jr_aload_n hC (D_X12_unit.g 4 rfl) 0 rfl ?_
  refine jr_iconst hC (D_X12_unit.g 5 rfl) ?_
  refine jr_aload_n hC (D_X12_unit.g 6 rfl) 0 rfl ?_
  refine jr_getR hC fl_X12_27 rfl (D_X12_unit.g 7 rfl) h (fun r19 h => ?_)
  refine jr_aload_n hC (D_X12_unit.g 8 rfl) 0 rfl ?_
  refine jr_getI hC fl_X12_218 rfl (D_X12_unit.g 9 rfl) h (fun v20 h => ?_)
  refine jr_iald hC (D_X12_unit.g 10 rfl) h (fun v21 h => ?_)
  refine jr_cVv hC cl_X12_300 ⟨rfl, by decide⟩ (D_X12_unit.g 11 rfl) [q_i 0, q_i v21] h (fun r M' e => c_X12_emit e) rfl rfl ⟨by decide, by decide⟩ (Nat.le_of_ble_eq_true rfl) ⟨Nat.le_of_ble_eq_true rfl, Nat.le_of_ble_eq_true rfl⟩ (fun _ M23 h => ?_)
  refine jr_aload_n hC (D_X12_unit.g 12 rfl) 0 rfl ?_
  refine jr_cVv hC cl_X12_236 ⟨rfl, by decide⟩ (D_X12_unit.g 13 rfl) [] h (fun r M' e => c_X12_goesOn e) rfl rfl ⟨by decide, by decide⟩ (Nat.le_of_ble_eq_true rfl) ⟨Nat.le_of_ble_eq_true rfl, Nat.le_of_ble_eq_true rfl⟩ (fun _ M25 h => ?_)
  refine jr_goto hC (D_X12_unit.g 14 rfl) 93 rfl ?_
  exact jr_vret hC (D_X12_unit.g 48 rfl) hr hE h
def f_X12_comesOut (th : Nat) (x1 : Int) (M : jMem) : Option (Int × jMem) :=
jlp1 (fun rec_0 (M_0 : jMem) =>
(jm_gI 12 43 M_0 th).bind fun v1 =>
if jd_wr v1 ≤ 0 then (some (0, M_0))
else ((jm_gR 12 42 M_0 th).bind fun r2 =>
(jm_gI 12 43 M_0 th).bind fun v3 =>
(jm_ld 20 M_0 r2 (v3 - 1)).bind fun v4 =>
if jd_wr v4 = jd_wr 6 then (some (0, M_0))
else (jjq ((jm_gI 12 43 M_0 th).bind fun v5 =>
(jm_pI 12 43 M_0 th (v5 - 1)).bind fun M6 =>
jjq (fun (z0_84 : Int) =>
jcall 12 M6 th (f_X12_emit th z0_84 0 M6) fun _ M8 =>
rec_0 M8) fun j_84 =>
if jd_wr v4 = jd_wr 8 then (j_84 2)
else (if jd_wr v4 = jd_wr 9 then (j_84 3)
else (if jd_wr v4 = jd_wr 10 then (j_84 4)
else (j_84 5)))) fun j_42 =>
if jd_wr x1 = 0 then (j_42 )
else (if jd_wr v4 = jd_wr 8 then (some (0, M_0))
else (if jd_wr v4 = jd_wr 9 then (some (0, M_0))
else (j_42 )))))) jfuel M
theorem D_X12_comesOut : jDs cX12_comesOut [(0, .aload_n 0, 1, 1), (1, .getfield 297, 3, 4), (4, .ifCond .le 87, 3, 7), (7, .aload_n 0, 1, 8), (8, .getfield 101, 3, 11), (11, .aload_n 0, 1, 12), (12, .getfield 297, 3, 15), (15, .iconst 1, 1, 16), (16, .isub, 1, 17), (17, .iaload, 1, 18), (18, .istore_n 2, 1, 19), (19, .iload_n 2, 1, 20), (20, .bipush 6, 2, 22), (22, .if_icmp .eq 19, 3, 25), (25, .iload_n 1, 1, 26), (26, .ifCond .eq 16, 3, 29), (29, .iload_n 2, 1, 30), (30, .bipush 8, 2, 32), (32, .if_icmp .eq 9, 3, 35), (35, .iload_n 2, 1, 36), (36, .bipush 9, 2, 38), (38, .if_icmp .ne 4, 3, 41), (41, .return_, 1, 42), (42, .aload_n 0, 1, 43), (43, .dup, 1, 44), (44, .getfield 297, 3, 47), (47, .iconst 1, 1, 48), (48, .isub, 1, 49), (49, .putfield 297, 3, 52), (52, .aload_n 0, 1, 53), (53, .iload_n 2, 1, 54), (54, .bipush 8, 2, 56), (56, .if_icmp .ne 7, 3, 59), (59, .iconst 2, 1, 60), (60, .goto 24, 3, 63), (63, .iload_n 2, 1, 64), (64, .bipush 9, 2, 66), (66, .if_icmp .ne 7, 3, 69), (69, .iconst 3, 1, 70), (70, .goto 14, 3, 73), (73, .iload_n 2, 1, 74), (74, .bipush 10, 2, 76), (76, .if_icmp .ne 7, 3, 79), (79, .iconst 4, 1, 80), (80, .goto 4, 3, 83), (83, .iconst 5, 1, 84), (84, .iconst 0, 1, 85), (85, .invokevirtual 300, 3, 88), (88, .goto (-88), 3, 91), (91, .return_, 1, 92)] := by unfold jDs; decide +kernel
set_option maxRecDepth 100000 in
set_option maxHeartbeats 4000000 in
theorem c_X12_comesOut {E : jE} {th : Nat} {x1 : Int} {M : jMem} {r : Int} {M' : jMem} (h : f_X12_comesOut th x1 M = some (r, M')) : jMet E yX12_comesOut cX12_comesOut 3 (none) 3 0 0 [q_r E th, q_i x1] M (none) M' := by
  unfold f_X12_comesOut at h
  refine jMet.of RX12 rfl (by decide +kernel) (Nat.le_of_ble_eq_true rfl) [(0, q_r E th), (1, q_i x1)] rfl (fun X hC hE hr hn => ?_)
  refine jr_lp1 (fun (M_0 : jMem) => JW E X 3 0 0 M_0 0 [(0, q_r E th), (1, q_i x1)] []) ?_ jfuel M h
  intro rec_0 hrec_0 M_0 h
  refine jr_aload_n hC (D_X12_comesOut.g 0 rfl) 0 rfl ?_
  refine jr_getI hC fl_X12_297 rfl (D_X12_comesOut.g 1 rfl) h (fun v1 h => ?_)
  refine jr_if_le hC (D_X12_comesOut.g 2 rfl) 91 rfl h (fun h => ?_) (fun h => ?_)
  · exact jr_vret hC (D_X12_comesOut.g 49 rfl) hr hE h
  refine jr_aload_n hC (D_X12_comesOut.g 3 rfl) 0 rfl ?_
  refine jr_getR hC fl_X12_101 rfl (D_X12_comesOut.g 4 rfl) h (fun r2 h => ?_)
  refine jr_aload_n hC (D_X12_comesOut.g 5 rfl) 0 rfl ?_
  refine jr_getI hC fl_X12_297 rfl (D_X12_comesOut.g 6 rfl) h (fun v3 h => ?_)
  refine jr_iconst hC (D_X12_comesOut.g 7 rfl) ?_
  refine jr_isub hC (D_X12_comesOut.g 8 rfl) ?_
  refine jr_iald hC (D_X12_comesOut.g 9 rfl) h (fun v4 h => ?_)
  refine jr_istore_n hC (D_X12_comesOut.g 10 rfl) (by decide) rfl ?_
  refine jr_iload_n hC (D_X12_comesOut.g 11 rfl) 0 rfl ?_
  refine jr_bipush hC (D_X12_comesOut.g 12 rfl) bp_6 ?_
  refine jr_icmp_eq hC (D_X12_comesOut.g 13 rfl) 41 rfl h (fun h => ?_) (fun h => ?_)
  · exact jr_vret hC (D_X12_comesOut.g 22 rfl) hr hE h
  refine jr_iload_n hC (D_X12_comesOut.g 14 rfl) 2 rfl ?_
  refine jr_join h (fun j => j = some (r, M') → JW E X 3 0 0 M_0 42 [(0, q_r E th), (1, q_i x1), (2, q_i v4)] []) ?_ ?_
  · intro  h
    refine jr_aload_n hC (D_X12_comesOut.g 23 rfl) 0 rfl ?_
    refine jr_dup hC (D_X12_comesOut.g 24 rfl) rfl ?_
    refine jr_getI hC fl_X12_297 rfl (D_X12_comesOut.g 25 rfl) h (fun v5 h => ?_)
    refine jr_iconst hC (D_X12_comesOut.g 26 rfl) ?_
    refine jr_isub hC (D_X12_comesOut.g 27 rfl) ?_
    refine jr_putI hC fl_X12_297 rfl (jnfin rfl) (D_X12_comesOut.g 28 rfl) h (fun M6 _ h => ?_)
    refine jr_aload_n hC (D_X12_comesOut.g 29 rfl) 0 rfl ?_
    refine jr_iload_n hC (D_X12_comesOut.g 30 rfl) 2 rfl ?_
    refine jr_bipush hC (D_X12_comesOut.g 31 rfl) bp_8 ?_
    refine jr_join h (fun j => ∀ (z0_84 : Int), j z0_84 = some (r, M') → JW E X 3 0 0 M6 84 [(0, q_r E th), (1, q_i x1)] [q_i z0_84, q_r E th]) ?_ ?_
    · intro z0_84 h
      refine jr_iconst hC (D_X12_comesOut.g 46 rfl) ?_
      refine jr_cVv hC cl_X12_300 ⟨rfl, by decide⟩ (D_X12_comesOut.g 47 rfl) [q_i z0_84, q_i 0] h (fun r M' e => c_X12_emit e) rfl rfl ⟨by decide, by decide⟩ (Nat.le_of_ble_eq_true rfl) ⟨Nat.le_of_ble_eq_true rfl, Nat.le_of_ble_eq_true rfl⟩ (fun _ M8 h => ?_)
      refine jr_goto hC (D_X12_comesOut.g 48 rfl) 0 rfl ?_
      exact hrec_0 M8 h
    intro j_84 hj_84 h
    refine jr_icmp_ne hC (D_X12_comesOut.g 32 rfl) 63 rfl h (fun h => ?_) (fun h => ?_)
    · refine jr_iconst hC (D_X12_comesOut.g 33 rfl) ?_
      refine jr_goto hC (D_X12_comesOut.g 34 rfl) 84 rfl ?_
      refine jr_pick [0, 1] rfl ?_
      exact hj_84 2 h
    refine jr_iload_n hC (D_X12_comesOut.g 35 rfl) 2 rfl ?_
    refine jr_bipush hC (D_X12_comesOut.g 36 rfl) bp_9 ?_
    refine jr_icmp_ne hC (D_X12_comesOut.g 37 rfl) 73 rfl h (fun h => ?_) (fun h => ?_)
    · refine jr_iconst hC (D_X12_comesOut.g 38 rfl) ?_
      refine jr_goto hC (D_X12_comesOut.g 39 rfl) 84 rfl ?_
      refine jr_pick [0, 1] rfl ?_
      exact hj_84 3 h
    refine jr_iload_n hC (D_X12_comesOut.g 40 rfl) 2 rfl ?_
    refine jr_bipush hC (D_X12_comesOut.g 41 rfl) bp_10 ?_
    refine jr_icmp_ne hC (D_X12_comesOut.g 42 rfl) 83 rfl h (fun h => ?_) (fun h => ?_)
    · refine jr_iconst hC (D_X12_comesOut.g 43 rfl) ?_
      refine jr_goto hC (D_X12_comesOut.g 44 rfl) 84 rfl ?_
      refine jr_pick [0, 1] rfl ?_
      exact hj_84 4 h
    refine jr_iconst hC (D_X12_comesOut.g 45 rfl) ?_
    refine jr_pick [0, 1] rfl ?_
    exact hj_84 5 h
  intro j_42 hj_42 h
  refine jr_if_eq hC (D_X12_comesOut.g 15 rfl) 42 rfl h (fun h => ?_) (fun h => ?_)
  · refine jr_pick [1, 2, 0] rfl ?_
    exact hj_42  h
  refine jr_iload_n hC (D_X12_comesOut.g 16 rfl) 0 rfl ?_
  refine jr_bipush hC (D_X12_comesOut.g 17 rfl) bp_8 ?_
  refine jr_icmp_eq hC (D_X12_comesOut.g 18 rfl) 41 rfl h (fun h => ?_) (fun h => ?_)
  · exact jr_vret hC (D_X12_comesOut.g 22 rfl) hr hE h
  refine jr_iload_n hC (D_X12_comesOut.g 19 rfl) 0 rfl ?_
  refine jr_bipush hC (D_X12_comesOut.g 20 rfl) bp_9 ?_
  refine jr_icmp_ne hC (D_X12_comesOut.g 21 rfl) 42 rfl h (fun h => ?_) (fun h => ?_)
  · exact jr_vret hC (D_X12_comesOut.g 22 rfl) hr hE h
  refine jr_pick [1, 2, 0] rfl ?_
  exact hj_42  h
def f_X12_expression (th : Nat) (M : jMem) : Option (Int × jMem) :=
(jm_pI 12 43 M th 0).bind fun M1 =>
(jm_gI 12 12 M1 th).bind fun v2 =>
jlp2 (fun rec_12 (y2_12 : Int) (M_12 : jMem) =>
if jd_wr y2_12 = 0 then (some (0, M_12))
else ((jm_gI 12 13 M_12 th).bind fun v3 =>
if jd_wr v3 = 0 then (jlp1 (fun rec_23 (M_23 : jMem) =>
jcall 12 M_23 th (f_X12_is th 6 M_23) fun v4 M5 =>
if jd_wr v4 = 0 then (jcall 12 M5 th (f_X12_unit th M5) fun _ M7 =>
(jm_gI 12 13 M7 th).bind fun v8 =>
if jd_wr v8 ≤ 0 then (jlp1 (fun rec_96 (M_96 : jMem) =>
jcall 12 M_96 th (f_X12_is th 7 M_96) fun v9 M10 =>
jjq (jcall 12 M10 th (f_X12_is th 8 M10) fun v11 M12 =>
jjq (fun (z0_186 : Int) (M_186 : jMem) =>
if jd_wr z0_186 = 0 then ((jm_gI 12 12 M_186 th).bind fun v13 =>
jjq (fun (M_204 : jMem) =>
jcall 12 M_204 th (f_X12_comesOut th 0 M_204) fun _ M15 =>
some (0, M15)) fun j_204 =>
if jd_wr v13 ≤ jd_wr v2 then (j_204 M_186)
else (jcall 12 M_186 th (f_X12_fail th 1 M_186) fun _ M17 =>
j_204 M17))
else (jcall 12 M_186 th (f_X12_is th 10 M_186) fun v18 M19 =>
jjq (fun (z0_234 : Int) (M_234 : jMem) =>
jcall 12 M_234 th (f_X12_comesOut th z0_234 M_234) fun _ M21 =>
(jm_gR 12 42 M21 th).bind fun r22 =>
(jm_gI 12 43 M21 th).bind fun v23 =>
(jm_gR 12 5 M21 th).bind fun r24 =>
(jm_gI 12 11 M21 th).bind fun v25 =>
(jm_ld 20 M21 r24 v25).bind fun v26 =>
(jm_st 20 M21 r22 v23 v26).bind fun M27 =>
(jm_gI 12 43 M27 th).bind fun v28 =>
(jm_pI 12 43 M27 th (v28 + 1)).bind fun M29 =>
jcall 12 M29 th (f_X12_goesOn th M29) fun _ M31 =>
rec_12 z0_186 M31) fun j_234 =>
jjq (fun (M_229 : jMem) =>
j_234 1 M_229) fun j_229 =>
if jd_wr v18 = 0 then (jcall 12 M19 th (f_X12_is th 15 M19) fun v32 M33 =>
if jd_wr v32 = 0 then (j_234 0 M33)
else (j_229 M33))
else (j_229 M19))) fun j_186 =>
jjq (fun (M_181 : jMem) =>
j_186 1 M_181) fun j_181 =>
if jd_wr v11 = 0 then (jcall 12 M12 th (f_X12_is th 9 M12) fun v34 M35 =>
if jd_wr v34 = 0 then (jcall 12 M35 th (f_X12_is th 10 M35) fun v36 M37 =>
if jd_wr v36 = 0 then (jcall 12 M37 th (f_X12_is th 15 M37) fun v38 M39 =>
if jd_wr v38 = 0 then (j_186 0 M39)
else (j_181 M39))
else (j_181 M37))
else (j_181 M35))
else (j_181 M12)) fun j_145 =>
if jd_wr v9 = 0 then (j_145 )
else ((jm_gI 12 12 M10 th).bind fun v40 =>
if jd_wr v40 ≤ jd_wr v2 then (j_145 )
else (jcall 12 M10 th (f_X12_comesOut th 0 M10) fun _ M42 =>
(jm_gI 12 43 M42 th).bind fun v43 =>
(jm_pI 12 43 M42 th (v43 - 1)).bind fun M44 =>
(jm_gI 12 12 M44 th).bind fun v45 =>
(jm_pI 12 12 M44 th (v45 - 1)).bind fun M46 =>
jcall 12 M46 th (f_X12_goesOn th M46) fun _ M48 =>
rec_96 M48))) jfuel M7)
else (some (0, M7)))
else ((jm_gI 12 12 M5 th).bind fun v49 =>
jjq (fun (M_46 : jMem) =>
(jm_gI 12 12 M_46 th).bind fun v50 =>
(jm_pI 12 12 M_46 th (v50 + 1)).bind fun M51 =>
jcall 12 M51 th (f_X12_goesOn th M51) fun _ M53 =>
(jm_gR 12 42 M53 th).bind fun r54 =>
(jm_gI 12 43 M53 th).bind fun v55 =>
(jm_st 20 M53 r54 v55 6).bind fun M56 =>
(jm_gI 12 43 M56 th).bind fun v57 =>
(jm_pI 12 43 M56 th (v57 + 1)).bind fun M58 =>
rec_23 M58) fun j_46 =>
if jd_wr v49 = jd_wr 6 then (jcall 12 M5 th (f_X12_fail th 2 M5) fun _ M60 =>
j_46 M60)
else (j_46 M5))) jfuel M_12)
else (some (0, M_12)))) jfuel 1 M1
theorem D_X12_expression : jDs cX12_expression [(0, .aload_n 0, 1, 1), (1, .iconst 0, 1, 2), (2, .putfield 297, 3, 5), (5, .aload_n 0, 1, 6), (6, .getfield 242, 3, 9), (9, .istore_n 1, 1, 10), (10, .iconst 1, 1, 11), (11, .istore_n 2, 1, 12), (12, .iload_n 2, 1, 13), (13, .ifCond .eq 259, 3, 16), (16, .aload_n 0, 1, 17), (17, .getfield 215, 3, 20), (20, .ifCond .ne 252, 3, 23), (23, .aload_n 0, 1, 24), (24, .bipush 6, 2, 26), (26, .invokevirtual 233, 3, 29), (29, .ifCond .eq 55, 3, 32), (32, .aload_n 0, 1, 33), (33, .getfield 242, 3, 36), (36, .bipush 6, 2, 38), (38, .if_icmp .ne 8, 3, 41), (41, .aload_n 0, 1, 42), (42, .iconst 2, 1, 43), (43, .invokevirtual 230, 3, 46), (46, .aload_n 0, 1, 47), (47, .dup, 1, 48), (48, .getfield 242, 3, 51), (51, .iconst 1, 1, 52), (52, .iadd, 1, 53), (53, .putfield 242, 3, 56), (56, .aload_n 0, 1, 57), (57, .invokevirtual 236, 3, 60), (60, .aload_n 0, 1, 61), (61, .getfield 101, 3, 64), (64, .aload_n 0, 1, 65), (65, .getfield 297, 3, 68), (68, .bipush 6, 2, 70), (70, .iastore, 1, 71), (71, .aload_n 0, 1, 72), (72, .dup, 1, 73), (73, .getfield 297, 3, 76), (76, .iconst 1, 1, 77), (77, .iadd, 1, 78), (78, .putfield 297, 3, 81), (81, .goto (-58), 3, 84), (84, .aload_n 0, 1, 85), (85, .invokevirtual 303, 3, 88), (88, .aload_n 0, 1, 89), (89, .getfield 215, 3, 92), (92, .ifCond .le 4, 3, 95), (95, .return_, 1, 96), (96, .aload_n 0, 1, 97), (97, .bipush 7, 2, 99), (99, .invokevirtual 233, 3, 102), (102, .ifCond .eq 43, 3, 105), (105, .aload_n 0, 1, 106), (106, .getfield 242, 3, 109), (109, .iload_n 1, 1, 110), (110, .if_icmp .le 35, 3, 113), (113, .aload_n 0, 1, 114), (114, .iconst 0, 1, 115), (115, .invokevirtual 306, 3, 118), (118, .aload_n 0, 1, 119), (119, .dup, 1, 120), (120, .getfield 297, 3, 123), (123, .iconst 1, 1, 124), (124, .isub, 1, 125), (125, .putfield 297, 3, 128), (128, .aload_n 0, 1, 129), (129, .dup, 1, 130), (130, .getfield 242, 3, 133), (133, .iconst 1, 1, 134), (134, .isub, 1, 135), (135, .putfield 242, 3, 138), (138, .aload_n 0, 1, 139), (139, .invokevirtual 236, 3, 142), (142, .goto (-46), 3, 145), (145, .aload_n 0, 1, 146), (146, .bipush 8, 2, 148), (148, .invokevirtual 233, 3, 151), (151, .ifCond .ne 30, 3, 154), (154, .aload_n 0, 1, 155), (155, .bipush 9, 2, 157), (157, .invokevirtual 233, 3, 160), (160, .ifCond .ne 21, 3, 163), (163, .aload_n 0, 1, 164), (164, .bipush 10, 2, 166), (166, .invokevirtual 233, 3, 169), (169, .ifCond .ne 12, 3, 172), (172, .aload_n 0, 1, 173), (173, .bipush 15, 2, 175), (175, .invokevirtual 233, 3, 178), (178, .ifCond .eq 7, 3, 181), (181, .iconst 1, 1, 182), (182, .goto 4, 3, 185), (185, .iconst 0, 1, 186), (186, .istore_n 2, 1, 187), (187, .iload_n 2, 1, 188), (188, .ifCond .ne 22, 3, 191), (191, .aload_n 0, 1, 192), (192, .getfield 242, 3, 195), (195, .iload_n 1, 1, 196), (196, .if_icmp .le 8, 3, 199), (199, .aload_n 0, 1, 200), (200, .iconst 1, 1, 201), (201, .invokevirtual 230, 3, 204), (204, .aload_n 0, 1, 205), (205, .iconst 0, 1, 206), (206, .invokevirtual 306, 3, 209), (209, .return_, 1, 210), (210, .aload_n 0, 1, 211), (211, .aload_n 0, 1, 212), (212, .bipush 10, 2, 214), (214, .invokevirtual 233, 3, 217), (217, .ifCond .ne 12, 3, 220), (220, .aload_n 0, 1, 221), (221, .bipush 15, 2, 223), (223, .invokevirtual 233, 3, 226), (226, .ifCond .eq 7, 3, 229), (229, .iconst 1, 1, 230), (230, .goto 4, 3, 233), (233, .iconst 0, 1, 234), (234, .invokevirtual 306, 3, 237), (237, .aload_n 0, 1, 238), (238, .getfield 101, 3, 241), (241, .aload_n 0, 1, 242), (242, .getfield 297, 3, 245), (245, .aload_n 0, 1, 246), (246, .getfield 20, 3, 249), (249, .aload_n 0, 1, 250), (250, .getfield 218, 3, 253), (253, .iaload, 1, 254), (254, .iastore, 1, 255), (255, .aload_n 0, 1, 256), (256, .dup, 1, 257), (257, .getfield 297, 3, 260), (260, .iconst 1, 1, 261), (261, .iadd, 1, 262), (262, .putfield 297, 3, 265), (265, .aload_n 0, 1, 266), (266, .invokevirtual 236, 3, 269), (269, .goto (-257), 3, 272), (272, .return_, 1, 273)] := by unfold jDs; decide +kernel
set_option maxRecDepth 100000 in
set_option maxHeartbeats 4000000 in
theorem c_X12_expression {E : jE} {th : Nat} {M : jMem} {r : Int} {M' : jMem} (h : f_X12_expression th M = some (r, M')) : jMet E yX12_expression cX12_expression 3 (none) 5 0 0 [q_r E th] M (none) M' := by
  unfold f_X12_expression at h
  refine jMet.of RX12 rfl (by decide +kernel) (Nat.le_of_ble_eq_true rfl) [(0, q_r E th)] rfl (fun X hC hE hr hn => ?_)
  refine jr_aload_n hC (D_X12_expression.g 0 rfl) 0 rfl ?_
  refine jr_iconst hC (D_X12_expression.g 1 rfl) ?_
  refine jr_putI hC fl_X12_297 rfl (jnfin rfl) (D_X12_expression.g 2 rfl) h (fun M1 _ h => ?_)
  refine jr_aload_n hC (D_X12_expression.g 3 rfl) 0 rfl ?_
  refine jr_getI hC fl_X12_242 rfl (D_X12_expression.g 4 rfl) h (fun v2 h => ?_)
  refine jr_istore_n hC (D_X12_expression.g 5 rfl) (by decide) rfl ?_
  refine jr_iconst hC (D_X12_expression.g 6 rfl) ?_
  refine jr_istore_n hC (D_X12_expression.g 7 rfl) (by decide) rfl ?_
  refine jr_pick [2, 1, 0] rfl ?_
  refine jr_lp2 (fun (y2_12 : Int) (M_12 : jMem) => JW E X 3 0 0 M_12 12 [(0, q_r E th), (1, q_i v2), (2, q_i y2_12)] []) ?_ jfuel 1 M1 h
  intro rec_12 hrec_12 y2_12 M_12 h
  refine jr_iload_n hC (D_X12_expression.g 8 rfl) 2 rfl ?_
  refine jr_if_eq hC (D_X12_expression.g 9 rfl) 272 rfl h (fun h => ?_) (fun h => ?_)
  · exact jr_vret hC (D_X12_expression.g 142 rfl) hr hE h
  refine jr_aload_n hC (D_X12_expression.g 10 rfl) 0 rfl ?_
  refine jr_getI hC fl_X12_215 rfl (D_X12_expression.g 11 rfl) h (fun v3 h => ?_)
  refine jr_if_ne hC (D_X12_expression.g 12 rfl) 272 rfl h (fun h => ?_) (fun h => ?_)
  · refine jr_pick [0, 1] rfl ?_
    refine jr_lp1 (fun (M_23 : jMem) => JW E X 3 0 0 M_23 23 [(0, q_r E th), (1, q_i v2)] []) ?_ jfuel M_12 h
    intro rec_23 hrec_23 M_23 h
    refine jr_aload_n hC (D_X12_expression.g 13 rfl) 0 rfl ?_
    refine jr_bipush hC (D_X12_expression.g 14 rfl) bp_6 ?_
    refine jr_cVi hC cl_X12_233 ⟨rfl, by decide⟩ (D_X12_expression.g 15 rfl) [q_i 6] h (fun r M' e => c_X12_is e) rfl rfl ⟨by decide, by decide⟩ (Nat.le_of_ble_eq_true rfl) ⟨Nat.le_of_ble_eq_true rfl, Nat.le_of_ble_eq_true rfl⟩ (fun v4 M5 h => ?_)
    refine jr_if_eq hC (D_X12_expression.g 16 rfl) 84 rfl h (fun h => ?_) (fun h => ?_)
    · refine jr_aload_n hC (D_X12_expression.g 45 rfl) 0 rfl ?_
      refine jr_cVv hC cl_X12_303 ⟨rfl, by decide⟩ (D_X12_expression.g 46 rfl) [] h (fun r M' e => c_X12_unit e) rfl rfl ⟨by decide, by decide⟩ (Nat.le_of_ble_eq_true rfl) ⟨Nat.le_of_ble_eq_true rfl, Nat.le_of_ble_eq_true rfl⟩ (fun _ M7 h => ?_)
      refine jr_aload_n hC (D_X12_expression.g 47 rfl) 0 rfl ?_
      refine jr_getI hC fl_X12_215 rfl (D_X12_expression.g 48 rfl) h (fun v8 h => ?_)
      refine jr_if_le hC (D_X12_expression.g 49 rfl) 96 rfl h (fun h => ?_) (fun h => ?_)
      · refine jr_lp1 (fun (M_96 : jMem) => JW E X 3 0 0 M_96 96 [(0, q_r E th), (1, q_i v2)] []) ?_ jfuel M7 h
        intro rec_96 hrec_96 M_96 h
        refine jr_aload_n hC (D_X12_expression.g 51 rfl) 0 rfl ?_
        refine jr_bipush hC (D_X12_expression.g 52 rfl) bp_7 ?_
        refine jr_cVi hC cl_X12_233 ⟨rfl, by decide⟩ (D_X12_expression.g 53 rfl) [q_i 7] h (fun r M' e => c_X12_is e) rfl rfl ⟨by decide, by decide⟩ (Nat.le_of_ble_eq_true rfl) ⟨Nat.le_of_ble_eq_true rfl, Nat.le_of_ble_eq_true rfl⟩ (fun v9 M10 h => ?_)
        refine jr_join h (fun j => j = some (r, M') → JW E X 3 0 0 M10 145 [(0, q_r E th), (1, q_i v2)] []) ?_ ?_
        · intro  h
          refine jr_aload_n hC (D_X12_expression.g 77 rfl) 0 rfl ?_
          refine jr_bipush hC (D_X12_expression.g 78 rfl) bp_8 ?_
          refine jr_cVi hC cl_X12_233 ⟨rfl, by decide⟩ (D_X12_expression.g 79 rfl) [q_i 8] h (fun r M' e => c_X12_is e) rfl rfl ⟨by decide, by decide⟩ (Nat.le_of_ble_eq_true rfl) ⟨Nat.le_of_ble_eq_true rfl, Nat.le_of_ble_eq_true rfl⟩ (fun v11 M12 h => ?_)
          refine jr_join h (fun j => ∀ (z0_186 : Int) (M_186 : jMem), j z0_186 M_186 = some (r, M') → JW E X 3 0 0 M_186 186 [(0, q_r E th), (1, q_i v2)] [q_i z0_186]) ?_ ?_
          · intro z0_186 M_186 h
            refine jr_istore_n hC (D_X12_expression.g 96 rfl) (by decide) rfl ?_
            refine jr_iload_n hC (D_X12_expression.g 97 rfl) 0 rfl ?_
            refine jr_if_ne hC (D_X12_expression.g 98 rfl) 210 rfl h (fun h => ?_) (fun h => ?_)
            · refine jr_aload_n hC (D_X12_expression.g 99 rfl) 1 rfl ?_
              refine jr_getI hC fl_X12_242 rfl (D_X12_expression.g 100 rfl) h (fun v13 h => ?_)
              refine jr_iload_n hC (D_X12_expression.g 101 rfl) 2 rfl ?_
              refine jr_join h (fun j => ∀ (M_204 : jMem), j M_204 = some (r, M') → JW E X 3 0 0 M_204 204 [(0, q_r E th)] []) ?_ ?_
              · intro M_204 h
                refine jr_aload_n hC (D_X12_expression.g 106 rfl) 0 rfl ?_
                refine jr_iconst hC (D_X12_expression.g 107 rfl) ?_
                refine jr_cVv hC cl_X12_306 ⟨rfl, by decide⟩ (D_X12_expression.g 108 rfl) [q_i 0] h (fun r M' e => c_X12_comesOut e) rfl rfl ⟨by decide, by decide⟩ (Nat.le_of_ble_eq_true rfl) ⟨Nat.le_of_ble_eq_true rfl, Nat.le_of_ble_eq_true rfl⟩ (fun _ M15 h => ?_)
                exact jr_vret hC (D_X12_expression.g 109 rfl) hr hE h
              intro j_204 hj_204 h
              refine jr_icmp_le hC (D_X12_expression.g 102 rfl) 204 rfl h (fun h => ?_) (fun h => ?_)
              · refine jr_pick [1] rfl ?_
                exact hj_204 M_186 h
              refine jr_aload_n hC (D_X12_expression.g 103 rfl) 1 rfl ?_
              refine jr_iconst hC (D_X12_expression.g 104 rfl) ?_
              refine jr_cVv hC cl_X12_230 ⟨rfl, by decide⟩ (D_X12_expression.g 105 rfl) [q_i 1] h (fun r M' e => c_X12_fail e) rfl rfl ⟨by decide, by decide⟩ (Nat.le_of_ble_eq_true rfl) ⟨Nat.le_of_ble_eq_true rfl, Nat.le_of_ble_eq_true rfl⟩ (fun _ M17 h => ?_)
              refine jr_pick [1] rfl ?_
              exact hj_204 M17 h
            refine jr_aload_n hC (D_X12_expression.g 110 rfl) 1 rfl ?_
            refine jr_aload_n hC (D_X12_expression.g 111 rfl) 1 rfl ?_
            refine jr_bipush hC (D_X12_expression.g 112 rfl) bp_10 ?_
            refine jr_cVi hC cl_X12_233 ⟨rfl, by decide⟩ (D_X12_expression.g 113 rfl) [q_i 10] h (fun r M' e => c_X12_is e) rfl rfl ⟨by decide, by decide⟩ (Nat.le_of_ble_eq_true rfl) ⟨Nat.le_of_ble_eq_true rfl, Nat.le_of_ble_eq_true rfl⟩ (fun v18 M19 h => ?_)
            refine jr_join h (fun j => ∀ (z0_234 : Int) (M_234 : jMem), j z0_234 M_234 = some (r, M') → JW E X 3 0 0 M_234 234 [(0, q_r E th), (1, q_i v2), (2, q_i z0_186)] [q_i z0_234, q_r E th]) ?_ ?_
            · intro z0_234 M_234 h
              refine jr_cVv hC cl_X12_306 ⟨rfl, by decide⟩ (D_X12_expression.g 122 rfl) [q_i z0_234] h (fun r M' e => c_X12_comesOut e) rfl rfl ⟨by decide, by decide⟩ (Nat.le_of_ble_eq_true rfl) ⟨Nat.le_of_ble_eq_true rfl, Nat.le_of_ble_eq_true rfl⟩ (fun _ M21 h => ?_)
              refine jr_aload_n hC (D_X12_expression.g 123 rfl) 0 rfl ?_
              refine jr_getR hC fl_X12_101 rfl (D_X12_expression.g 124 rfl) h (fun r22 h => ?_)
              refine jr_aload_n hC (D_X12_expression.g 125 rfl) 0 rfl ?_
              refine jr_getI hC fl_X12_297 rfl (D_X12_expression.g 126 rfl) h (fun v23 h => ?_)
              refine jr_aload_n hC (D_X12_expression.g 127 rfl) 0 rfl ?_
              refine jr_getR hC fl_X12_20 rfl (D_X12_expression.g 128 rfl) h (fun r24 h => ?_)
              refine jr_aload_n hC (D_X12_expression.g 129 rfl) 0 rfl ?_
              refine jr_getI hC fl_X12_218 rfl (D_X12_expression.g 130 rfl) h (fun v25 h => ?_)
              refine jr_iald hC (D_X12_expression.g 131 rfl) h (fun v26 h => ?_)
              refine jr_iast hC (D_X12_expression.g 132 rfl) h (fun M27 _ h => ?_)
              refine jr_aload_n hC (D_X12_expression.g 133 rfl) 0 rfl ?_
              refine jr_dup hC (D_X12_expression.g 134 rfl) rfl ?_
              refine jr_getI hC fl_X12_297 rfl (D_X12_expression.g 135 rfl) h (fun v28 h => ?_)
              refine jr_iconst hC (D_X12_expression.g 136 rfl) ?_
              refine jr_iadd hC (D_X12_expression.g 137 rfl) ?_
              refine jr_putI hC fl_X12_297 rfl (jnfin rfl) (D_X12_expression.g 138 rfl) h (fun M29 _ h => ?_)
              refine jr_aload_n hC (D_X12_expression.g 139 rfl) 0 rfl ?_
              refine jr_cVv hC cl_X12_236 ⟨rfl, by decide⟩ (D_X12_expression.g 140 rfl) [] h (fun r M' e => c_X12_goesOn e) rfl rfl ⟨by decide, by decide⟩ (Nat.le_of_ble_eq_true rfl) ⟨Nat.le_of_ble_eq_true rfl, Nat.le_of_ble_eq_true rfl⟩ (fun _ M31 h => ?_)
              refine jr_goto hC (D_X12_expression.g 141 rfl) 12 rfl ?_
              exact hrec_12 z0_186 M31 h
            intro j_234 hj_234 h
            refine jr_join h (fun j => ∀ (M_229 : jMem), j M_229 = some (r, M') → JW E X 3 0 0 M_229 229 [(0, q_r E th), (1, q_i v2), (2, q_i z0_186)] [q_r E th]) ?_ ?_
            · intro M_229 h
              refine jr_iconst hC (D_X12_expression.g 119 rfl) ?_
              refine jr_goto hC (D_X12_expression.g 120 rfl) 234 rfl ?_
              exact hj_234 1 M_229 h
            intro j_229 hj_229 h
            refine jr_if_ne hC (D_X12_expression.g 114 rfl) 229 rfl h (fun h => ?_) (fun h => ?_)
            · refine jr_aload_n hC (D_X12_expression.g 115 rfl) 1 rfl ?_
              refine jr_bipush hC (D_X12_expression.g 116 rfl) bp_15 ?_
              refine jr_cVi hC cl_X12_233 ⟨rfl, by decide⟩ (D_X12_expression.g 117 rfl) [q_i 15] h (fun r M' e => c_X12_is e) rfl rfl ⟨by decide, by decide⟩ (Nat.le_of_ble_eq_true rfl) ⟨Nat.le_of_ble_eq_true rfl, Nat.le_of_ble_eq_true rfl⟩ (fun v32 M33 h => ?_)
              refine jr_if_eq hC (D_X12_expression.g 118 rfl) 233 rfl h (fun h => ?_) (fun h => ?_)
              · refine jr_iconst hC (D_X12_expression.g 121 rfl) ?_
                refine jr_pick [1, 2, 0] rfl ?_
                exact hj_234 0 M33 h
              refine jr_pick [1, 2, 0] rfl ?_
              exact hj_229 M33 h
            refine jr_pick [1, 2, 0] rfl ?_
            exact hj_229 M19 h
          intro j_186 hj_186 h
          refine jr_join h (fun j => ∀ (M_181 : jMem), j M_181 = some (r, M') → JW E X 3 0 0 M_181 181 [(0, q_r E th), (1, q_i v2)] []) ?_ ?_
          · intro M_181 h
            refine jr_iconst hC (D_X12_expression.g 93 rfl) ?_
            refine jr_goto hC (D_X12_expression.g 94 rfl) 186 rfl ?_
            exact hj_186 1 M_181 h
          intro j_181 hj_181 h
          refine jr_if_ne hC (D_X12_expression.g 80 rfl) 181 rfl h (fun h => ?_) (fun h => ?_)
          · refine jr_aload_n hC (D_X12_expression.g 81 rfl) 0 rfl ?_
            refine jr_bipush hC (D_X12_expression.g 82 rfl) bp_9 ?_
            refine jr_cVi hC cl_X12_233 ⟨rfl, by decide⟩ (D_X12_expression.g 83 rfl) [q_i 9] h (fun r M' e => c_X12_is e) rfl rfl ⟨by decide, by decide⟩ (Nat.le_of_ble_eq_true rfl) ⟨Nat.le_of_ble_eq_true rfl, Nat.le_of_ble_eq_true rfl⟩ (fun v34 M35 h => ?_)
            refine jr_if_ne hC (D_X12_expression.g 84 rfl) 181 rfl h (fun h => ?_) (fun h => ?_)
            · refine jr_aload_n hC (D_X12_expression.g 85 rfl) 0 rfl ?_
              refine jr_bipush hC (D_X12_expression.g 86 rfl) bp_10 ?_
              refine jr_cVi hC cl_X12_233 ⟨rfl, by decide⟩ (D_X12_expression.g 87 rfl) [q_i 10] h (fun r M' e => c_X12_is e) rfl rfl ⟨by decide, by decide⟩ (Nat.le_of_ble_eq_true rfl) ⟨Nat.le_of_ble_eq_true rfl, Nat.le_of_ble_eq_true rfl⟩ (fun v36 M37 h => ?_)
              refine jr_if_ne hC (D_X12_expression.g 88 rfl) 181 rfl h (fun h => ?_) (fun h => ?_)
              · refine jr_aload_n hC (D_X12_expression.g 89 rfl) 0 rfl ?_
                refine jr_bipush hC (D_X12_expression.g 90 rfl) bp_15 ?_
                refine jr_cVi hC cl_X12_233 ⟨rfl, by decide⟩ (D_X12_expression.g 91 rfl) [q_i 15] h (fun r M' e => c_X12_is e) rfl rfl ⟨by decide, by decide⟩ (Nat.le_of_ble_eq_true rfl) ⟨Nat.le_of_ble_eq_true rfl, Nat.le_of_ble_eq_true rfl⟩ (fun v38 M39 h => ?_)
                refine jr_if_eq hC (D_X12_expression.g 92 rfl) 185 rfl h (fun h => ?_) (fun h => ?_)
                · refine jr_iconst hC (D_X12_expression.g 95 rfl) ?_
                  exact hj_186 0 M39 h
                exact hj_181 M39 h
              exact hj_181 M37 h
            exact hj_181 M35 h
          exact hj_181 M12 h
        intro j_145 hj_145 h
        refine jr_if_eq hC (D_X12_expression.g 54 rfl) 145 rfl h (fun h => ?_) (fun h => ?_)
        · exact hj_145  h
        refine jr_aload_n hC (D_X12_expression.g 55 rfl) 0 rfl ?_
        refine jr_getI hC fl_X12_242 rfl (D_X12_expression.g 56 rfl) h (fun v40 h => ?_)
        refine jr_iload_n hC (D_X12_expression.g 57 rfl) 1 rfl ?_
        refine jr_icmp_le hC (D_X12_expression.g 58 rfl) 145 rfl h (fun h => ?_) (fun h => ?_)
        · exact hj_145  h
        refine jr_aload_n hC (D_X12_expression.g 59 rfl) 0 rfl ?_
        refine jr_iconst hC (D_X12_expression.g 60 rfl) ?_
        refine jr_cVv hC cl_X12_306 ⟨rfl, by decide⟩ (D_X12_expression.g 61 rfl) [q_i 0] h (fun r M' e => c_X12_comesOut e) rfl rfl ⟨by decide, by decide⟩ (Nat.le_of_ble_eq_true rfl) ⟨Nat.le_of_ble_eq_true rfl, Nat.le_of_ble_eq_true rfl⟩ (fun _ M42 h => ?_)
        refine jr_aload_n hC (D_X12_expression.g 62 rfl) 0 rfl ?_
        refine jr_dup hC (D_X12_expression.g 63 rfl) rfl ?_
        refine jr_getI hC fl_X12_297 rfl (D_X12_expression.g 64 rfl) h (fun v43 h => ?_)
        refine jr_iconst hC (D_X12_expression.g 65 rfl) ?_
        refine jr_isub hC (D_X12_expression.g 66 rfl) ?_
        refine jr_putI hC fl_X12_297 rfl (jnfin rfl) (D_X12_expression.g 67 rfl) h (fun M44 _ h => ?_)
        refine jr_aload_n hC (D_X12_expression.g 68 rfl) 0 rfl ?_
        refine jr_dup hC (D_X12_expression.g 69 rfl) rfl ?_
        refine jr_getI hC fl_X12_242 rfl (D_X12_expression.g 70 rfl) h (fun v45 h => ?_)
        refine jr_iconst hC (D_X12_expression.g 71 rfl) ?_
        refine jr_isub hC (D_X12_expression.g 72 rfl) ?_
        refine jr_putI hC fl_X12_242 rfl (jnfin rfl) (D_X12_expression.g 73 rfl) h (fun M46 _ h => ?_)
        refine jr_aload_n hC (D_X12_expression.g 74 rfl) 0 rfl ?_
        refine jr_cVv hC cl_X12_236 ⟨rfl, by decide⟩ (D_X12_expression.g 75 rfl) [] h (fun r M' e => c_X12_goesOn e) rfl rfl ⟨by decide, by decide⟩ (Nat.le_of_ble_eq_true rfl) ⟨Nat.le_of_ble_eq_true rfl, Nat.le_of_ble_eq_true rfl⟩ (fun _ M48 h => ?_)
        refine jr_goto hC (D_X12_expression.g 76 rfl) 96 rfl ?_
        exact hrec_96 M48 h
      exact jr_vret hC (D_X12_expression.g 50 rfl) hr hE h
    refine jr_aload_n hC (D_X12_expression.g 17 rfl) 0 rfl ?_
    refine jr_getI hC fl_X12_242 rfl (D_X12_expression.g 18 rfl) h (fun v49 h => ?_)
    refine jr_bipush hC (D_X12_expression.g 19 rfl) bp_6 ?_
    refine jr_join h (fun j => ∀ (M_46 : jMem), j M_46 = some (r, M') → JW E X 3 0 0 M_46 46 [(0, q_r E th), (1, q_i v2)] []) ?_ ?_
    · intro M_46 h
      refine jr_aload_n hC (D_X12_expression.g 24 rfl) 0 rfl ?_
      refine jr_dup hC (D_X12_expression.g 25 rfl) rfl ?_
      refine jr_getI hC fl_X12_242 rfl (D_X12_expression.g 26 rfl) h (fun v50 h => ?_)
      refine jr_iconst hC (D_X12_expression.g 27 rfl) ?_
      refine jr_iadd hC (D_X12_expression.g 28 rfl) ?_
      refine jr_putI hC fl_X12_242 rfl (jnfin rfl) (D_X12_expression.g 29 rfl) h (fun M51 _ h => ?_)
      refine jr_aload_n hC (D_X12_expression.g 30 rfl) 0 rfl ?_
      refine jr_cVv hC cl_X12_236 ⟨rfl, by decide⟩ (D_X12_expression.g 31 rfl) [] h (fun r M' e => c_X12_goesOn e) rfl rfl ⟨by decide, by decide⟩ (Nat.le_of_ble_eq_true rfl) ⟨Nat.le_of_ble_eq_true rfl, Nat.le_of_ble_eq_true rfl⟩ (fun _ M53 h => ?_)
      refine jr_aload_n hC (D_X12_expression.g 32 rfl) 0 rfl ?_
      refine jr_getR hC fl_X12_101 rfl (D_X12_expression.g 33 rfl) h (fun r54 h => ?_)
      refine jr_aload_n hC (D_X12_expression.g 34 rfl) 0 rfl ?_
      refine jr_getI hC fl_X12_297 rfl (D_X12_expression.g 35 rfl) h (fun v55 h => ?_)
      refine jr_bipush hC (D_X12_expression.g 36 rfl) bp_6 ?_
      refine jr_iast hC (D_X12_expression.g 37 rfl) h (fun M56 _ h => ?_)
      refine jr_aload_n hC (D_X12_expression.g 38 rfl) 0 rfl ?_
      refine jr_dup hC (D_X12_expression.g 39 rfl) rfl ?_
      refine jr_getI hC fl_X12_297 rfl (D_X12_expression.g 40 rfl) h (fun v57 h => ?_)
      refine jr_iconst hC (D_X12_expression.g 41 rfl) ?_
      refine jr_iadd hC (D_X12_expression.g 42 rfl) ?_
      refine jr_putI hC fl_X12_297 rfl (jnfin rfl) (D_X12_expression.g 43 rfl) h (fun M58 _ h => ?_)
      refine jr_goto hC (D_X12_expression.g 44 rfl) 23 rfl ?_
      exact hrec_23 M58 h
    intro j_46 hj_46 h
    refine jr_icmp_ne hC (D_X12_expression.g 20 rfl) 46 rfl h (fun h => ?_) (fun h => ?_)
    · refine jr_aload_n hC (D_X12_expression.g 21 rfl) 0 rfl ?_
      refine jr_iconst hC (D_X12_expression.g 22 rfl) ?_
      refine jr_cVv hC cl_X12_230 ⟨rfl, by decide⟩ (D_X12_expression.g 23 rfl) [q_i 2] h (fun r M' e => c_X12_fail e) rfl rfl ⟨by decide, by decide⟩ (Nat.le_of_ble_eq_true rfl) ⟨Nat.le_of_ble_eq_true rfl, Nat.le_of_ble_eq_true rfl⟩ (fun _ M60 h => ?_)
      exact hj_46 M60 h
    exact hj_46 M5 h
  exact jr_vret hC (D_X12_expression.g 142 rfl) hr hE h
def f_X12_term (th : Nat) (M : jMem) : Option (Int × jMem) :=
(jm_gR 12 36 M th).bind fun r1 =>
(jm_gI 12 32 M th).bind fun v2 =>
(jm_gI 12 38 M th).bind fun v3 =>
(jm_st 20 M r1 v2 v3).bind fun M4 =>
(jm_gI 12 13 M4 th).bind fun v5 =>
jjq (fun (M_24 : jMem) =>
(jm_gR 12 37 M_24 th).bind fun r6 =>
(jm_gI 12 32 M_24 th).bind fun v7 =>
(jm_gI 12 38 M_24 th).bind fun v8 =>
(jm_st 20 M_24 r6 v7 v8).bind fun M9 =>
(jm_gI 12 32 M9 th).bind fun v10 =>
(jm_pI 12 32 M9 th (v10 + 1)).bind fun M11 =>
some (0, M11)) fun j_24 =>
if jd_wr v5 = 0 then (jcall 12 M4 th (f_X12_expression th M4) fun _ M13 =>
j_24 M13)
else (j_24 M4)
theorem D_X12_term : jDs cX12_term [(0, .aload_n 0, 1, 1), (1, .getfield 86, 3, 4), (4, .aload_n 0, 1, 5), (5, .getfield 251, 3, 8), (8, .aload_n 0, 1, 9), (9, .getfield 254, 3, 12), (12, .iastore, 1, 13), (13, .aload_n 0, 1, 14), (14, .getfield 215, 3, 17), (17, .ifCond .ne 7, 3, 20), (20, .aload_n 0, 1, 21), (21, .invokevirtual 291, 3, 24), (24, .aload_n 0, 1, 25), (25, .getfield 89, 3, 28), (28, .aload_n 0, 1, 29), (29, .getfield 251, 3, 32), (32, .aload_n 0, 1, 33), (33, .getfield 254, 3, 36), (36, .iastore, 1, 37), (37, .aload_n 0, 1, 38), (38, .dup, 1, 39), (39, .getfield 251, 3, 42), (42, .iconst 1, 1, 43), (43, .iadd, 1, 44), (44, .putfield 251, 3, 47), (47, .return_, 1, 48)] := by unfold jDs; decide +kernel
set_option maxRecDepth 100000 in
set_option maxHeartbeats 4000000 in
theorem c_X12_term {E : jE} {th : Nat} {M : jMem} {r : Int} {M' : jMem} (h : f_X12_term th M = some (r, M')) : jMet E yX12_term cX12_term 1 (none) 6 0 0 [q_r E th] M (none) M' := by
  unfold f_X12_term at h
  refine jMet.of RX12 rfl (by decide +kernel) (Nat.le_of_ble_eq_true rfl) [(0, q_r E th)] rfl (fun X hC hE hr hn => ?_)
  refine jr_aload_n hC (D_X12_term.g 0 rfl) 0 rfl ?_
  refine jr_getR hC fl_X12_86 rfl (D_X12_term.g 1 rfl) h (fun r1 h => ?_)
  refine jr_aload_n hC (D_X12_term.g 2 rfl) 0 rfl ?_
  refine jr_getI hC fl_X12_251 rfl (D_X12_term.g 3 rfl) h (fun v2 h => ?_)
  refine jr_aload_n hC (D_X12_term.g 4 rfl) 0 rfl ?_
  refine jr_getI hC fl_X12_254 rfl (D_X12_term.g 5 rfl) h (fun v3 h => ?_)
  refine jr_iast hC (D_X12_term.g 6 rfl) h (fun M4 _ h => ?_)
  refine jr_aload_n hC (D_X12_term.g 7 rfl) 0 rfl ?_
  refine jr_getI hC fl_X12_215 rfl (D_X12_term.g 8 rfl) h (fun v5 h => ?_)
  refine jr_join h (fun j => ∀ (M_24 : jMem), j M_24 = some (r, M') → JW E X 1 0 0 M_24 24 [(0, q_r E th)] []) ?_ ?_
  · intro M_24 h
    refine jr_aload_n hC (D_X12_term.g 12 rfl) 0 rfl ?_
    refine jr_getR hC fl_X12_89 rfl (D_X12_term.g 13 rfl) h (fun r6 h => ?_)
    refine jr_aload_n hC (D_X12_term.g 14 rfl) 0 rfl ?_
    refine jr_getI hC fl_X12_251 rfl (D_X12_term.g 15 rfl) h (fun v7 h => ?_)
    refine jr_aload_n hC (D_X12_term.g 16 rfl) 0 rfl ?_
    refine jr_getI hC fl_X12_254 rfl (D_X12_term.g 17 rfl) h (fun v8 h => ?_)
    refine jr_iast hC (D_X12_term.g 18 rfl) h (fun M9 _ h => ?_)
    refine jr_aload_n hC (D_X12_term.g 19 rfl) 0 rfl ?_
    refine jr_dup hC (D_X12_term.g 20 rfl) rfl ?_
    refine jr_getI hC fl_X12_251 rfl (D_X12_term.g 21 rfl) h (fun v10 h => ?_)
    refine jr_iconst hC (D_X12_term.g 22 rfl) ?_
    refine jr_iadd hC (D_X12_term.g 23 rfl) ?_
    refine jr_putI hC fl_X12_251 rfl (jnfin rfl) (D_X12_term.g 24 rfl) h (fun M11 _ h => ?_)
    exact jr_vret hC (D_X12_term.g 25 rfl) hr hE h
  intro j_24 hj_24 h
  refine jr_if_ne hC (D_X12_term.g 9 rfl) 24 rfl h (fun h => ?_) (fun h => ?_)
  · refine jr_aload_n hC (D_X12_term.g 10 rfl) 0 rfl ?_
    refine jr_cVv hC cl_X12_291 ⟨rfl, by decide⟩ (D_X12_term.g 11 rfl) [] h (fun r M' e => c_X12_expression e) rfl rfl ⟨by decide, by decide⟩ (Nat.le_of_ble_eq_true rfl) ⟨Nat.le_of_ble_eq_true rfl, Nat.le_of_ble_eq_true rfl⟩ (fun _ M13 h => ?_)
    exact hj_24 M13 h
  exact hj_24 M4 h
def f_X12_tellLaw (th : Nat) (x1 : Int) (M : jMem) : Option (Int × jMem) :=
jcall 12 M th (f_X12_must th 5 M) fun _ M2 =>
(jm_gI 12 32 M2 th).bind fun v3 =>
jlp2 (fun rec_12 (y3_12 : Int) (M_12 : jMem) =>
(jm_gI 12 13 M_12 th).bind fun v4 =>
jjq (fun (M_129 : jMem) =>
(jm_gR 12 33 M_129 th).bind fun r5 =>
(jm_gI 12 32 M_129 th).bind fun v6 =>
(jm_st 22 M_129 r5 v6 (jd_z 0)).bind fun M7 =>
jcall 12 M7 th (f_X12_term th M7) fun _ M9 =>
jcall 12 M9 th (f_X12_must th 4 M9) fun _ M11 =>
(jm_gI 12 13 M11 th).bind fun v12 =>
if jd_wr v12 ≤ 0 then ((jm_gR 12 30 M11 th).bind fun r13 =>
(jm_gI 12 19 M11 th).bind fun v14 =>
(jm_st 20 M11 r13 ((3 * v14) + x1) v3).bind fun M15 =>
(jm_gR 12 31 M15 th).bind fun r16 =>
(jm_gI 12 19 M15 th).bind fun v17 =>
(jm_gI 12 32 M15 th).bind fun v18 =>
(jm_st 20 M15 r16 ((3 * v17) + x1) v18).bind fun M19 =>
some (0, M19))
else (some (0, M11))) fun j_129 =>
if jd_wr v4 = 0 then (jcall 12 M_12 th (f_X12_is th 27 M_12) fun v20 M21 =>
if jd_wr v20 = 0 then (j_129 M21)
else (jjq (fun (M_38 : jMem) =>
(jm_gI 12 13 M_38 th).bind fun v22 =>
if jd_wr v22 ≤ 0 then (jcall 12 M_38 th (f_X12_goesOn th M_38) fun _ M24 =>
(jm_gR 12 33 M24 th).bind fun r25 =>
(jm_gI 12 32 M24 th).bind fun v26 =>
(jm_st 22 M24 r25 v26 (jd_z 1)).bind fun M27 =>
(jm_gR 12 34 M27 th).bind fun r28 =>
(jm_gI 12 32 M27 th).bind fun v29 =>
(jm_gI 12 38 M27 th).bind fun v30 =>
(jm_st 20 M27 r28 v29 v30).bind fun M31 =>
jcall 12 M31 th (f_X12_expression th M31) fun _ M33 =>
jcall 12 M33 th (f_X12_must th 13 M33) fun _ M35 =>
(jm_gR 12 35 M35 th).bind fun r36 =>
(jm_gI 12 32 M35 th).bind fun v37 =>
(jm_gI 12 38 M35 th).bind fun v38 =>
(jm_st 20 M35 r36 v37 v38).bind fun M39 =>
(jm_gI 12 13 M39 th).bind fun v40 =>
jjq (fun (M_110 : jMem) =>
jcall 12 M_110 th (f_X12_must th 28 M_110) fun _ M42 =>
jcall 12 M42 th (f_X12_term th M42) fun _ M44 =>
jcall 12 M44 th (f_X12_must th 29 M44) fun _ M46 =>
rec_12 (y3_12 + 1) M46) fun j_110 =>
if jd_wr v40 = 0 then (jcall 12 M39 th (f_X12_expression th M39) fun _ M48 =>
j_110 M48)
else (j_110 M39))
else (some (0, M_38))) fun j_38 =>
if jd_wr y3_12 = jd_wr 4 then (jcall 12 M21 th (f_X12_fail th 2 M21) fun _ M50 =>
j_38 M50)
else (j_38 M21)))
else (j_129 M_12)) jfuel 0 M2
theorem D_X12_tellLaw : jDs cX12_tellLaw [(0, .aload_n 0, 1, 1), (1, .iconst 5, 1, 2), (2, .invokevirtual 282, 3, 5), (5, .aload_n 0, 1, 6), (6, .getfield 251, 3, 9), (9, .istore_n 2, 1, 10), (10, .iconst 0, 1, 11), (11, .istore_n 3, 1, 12), (12, .aload_n 0, 1, 13), (13, .getfield 215, 3, 16), (16, .ifCond .ne 113, 3, 19), (19, .aload_n 0, 1, 20), (20, .bipush 27, 2, 22), (22, .invokevirtual 233, 3, 25), (25, .ifCond .eq 104, 3, 28), (28, .iload_n 3, 1, 29), (29, .iconst 4, 1, 30), (30, .if_icmp .ne 8, 3, 33), (33, .aload_n 0, 1, 34), (34, .iconst 2, 1, 35), (35, .invokevirtual 230, 3, 38), (38, .aload_n 0, 1, 39), (39, .getfield 215, 3, 42), (42, .ifCond .le 4, 3, 45), (45, .return_, 1, 46), (46, .iinc 3 1, 3, 49), (49, .aload_n 0, 1, 50), (50, .invokevirtual 236, 3, 53), (53, .aload_n 0, 1, 54), (54, .getfield 76, 3, 57), (57, .aload_n 0, 1, 58), (58, .getfield 251, 3, 61), (61, .iconst 1, 1, 62), (62, .bastore, 1, 63), (63, .aload_n 0, 1, 64), (64, .getfield 80, 3, 67), (67, .aload_n 0, 1, 68), (68, .getfield 251, 3, 71), (71, .aload_n 0, 1, 72), (72, .getfield 254, 3, 75), (75, .iastore, 1, 76), (76, .aload_n 0, 1, 77), (77, .invokevirtual 291, 3, 80), (80, .aload_n 0, 1, 81), (81, .bipush 13, 2, 83), (83, .invokevirtual 282, 3, 86), (86, .aload_n 0, 1, 87), (87, .getfield 83, 3, 90), (90, .aload_n 0, 1, 91), (91, .getfield 251, 3, 94), (94, .aload_n 0, 1, 95), (95, .getfield 254, 3, 98), (98, .iastore, 1, 99), (99, .aload_n 0, 1, 100), (100, .getfield 215, 3, 103), (103, .ifCond .ne 7, 3, 106), (106, .aload_n 0, 1, 107), (107, .invokevirtual 291, 3, 110), (110, .aload_n 0, 1, 111), (111, .bipush 28, 2, 113), (113, .invokevirtual 282, 3, 116), (116, .aload_n 0, 1, 117), (117, .invokevirtual 294, 3, 120), (120, .aload_n 0, 1, 121), (121, .bipush 29, 2, 123), (123, .invokevirtual 282, 3, 126), (126, .goto (-114), 3, 129), (129, .aload_n 0, 1, 130), (130, .getfield 76, 3, 133), (133, .aload_n 0, 1, 134), (134, .getfield 251, 3, 137), (137, .iconst 0, 1, 138), (138, .bastore, 1, 139), (139, .aload_n 0, 1, 140), (140, .invokevirtual 294, 3, 143), (143, .aload_n 0, 1, 144), (144, .iconst 4, 1, 145), (145, .invokevirtual 282, 3, 148), (148, .aload_n 0, 1, 149), (149, .getfield 215, 3, 152), (152, .ifCond .le 4, 3, 155), (155, .return_, 1, 156), (156, .aload_n 0, 1, 157), (157, .getfield 70, 3, 160), (160, .iconst 3, 1, 161), (161, .aload_n 0, 1, 162), (162, .getfield 248, 3, 165), (165, .imul, 1, 166), (166, .iload_n 1, 1, 167), (167, .iadd, 1, 168), (168, .iload_n 2, 1, 169), (169, .iastore, 1, 170), (170, .aload_n 0, 1, 171), (171, .getfield 73, 3, 174), (174, .iconst 3, 1, 175), (175, .aload_n 0, 1, 176), (176, .getfield 248, 3, 179), (179, .imul, 1, 180), (180, .iload_n 1, 1, 181), (181, .iadd, 1, 182), (182, .aload_n 0, 1, 183), (183, .getfield 251, 3, 186), (186, .iastore, 1, 187), (187, .return_, 1, 188)] := by unfold jDs; decide +kernel
set_option maxRecDepth 100000 in
set_option maxHeartbeats 4000000 in
theorem c_X12_tellLaw {E : jE} {th : Nat} {x1 : Int} {M : jMem} {r : Int} {M' : jMem} (h : f_X12_tellLaw th x1 M = some (r, M')) : jMet E yX12_tellLaw cX12_tellLaw 4 (none) 7 0 0 [q_r E th, q_i x1] M (none) M' := by
  unfold f_X12_tellLaw at h
  refine jMet.of RX12 rfl (by decide +kernel) (Nat.le_of_ble_eq_true rfl) [(0, q_r E th), (1, q_i x1)] rfl (fun X hC hE hr hn => ?_)
  refine jr_aload_n hC (D_X12_tellLaw.g 0 rfl) 0 rfl ?_
  refine jr_iconst hC (D_X12_tellLaw.g 1 rfl) ?_
  refine jr_cVv hC cl_X12_282 ⟨rfl, by decide⟩ (D_X12_tellLaw.g 2 rfl) [q_i 5] h (fun r M' e => c_X12_must e) rfl rfl ⟨by decide, by decide⟩ (Nat.le_of_ble_eq_true rfl) ⟨Nat.le_of_ble_eq_true rfl, Nat.le_of_ble_eq_true rfl⟩ (fun _ M2 h => ?_)
  refine jr_aload_n hC (D_X12_tellLaw.g 3 rfl) 0 rfl ?_
  refine jr_getI hC fl_X12_251 rfl (D_X12_tellLaw.g 4 rfl) h (fun v3 h => ?_)
  refine jr_istore_n hC (D_X12_tellLaw.g 5 rfl) (by decide) rfl ?_
  refine jr_iconst hC (D_X12_tellLaw.g 6 rfl) ?_
  refine jr_istore_n hC (D_X12_tellLaw.g 7 rfl) (by decide) rfl ?_
  refine jr_pick [2, 3, 1, 0] rfl ?_
  refine jr_lp2 (fun (y3_12 : Int) (M_12 : jMem) => JW E X 4 0 0 M_12 12 [(0, q_r E th), (1, q_i x1), (2, q_i v3), (3, q_i y3_12)] []) ?_ jfuel 0 M2 h
  intro rec_12 hrec_12 y3_12 M_12 h
  refine jr_aload_n hC (D_X12_tellLaw.g 8 rfl) 0 rfl ?_
  refine jr_getI hC fl_X12_215 rfl (D_X12_tellLaw.g 9 rfl) h (fun v4 h => ?_)
  refine jr_join h (fun j => ∀ (M_129 : jMem), j M_129 = some (r, M') → JW E X 4 0 0 M_129 129 [(0, q_r E th), (1, q_i x1), (2, q_i v3)] []) ?_ ?_
  · intro M_129 h
    refine jr_aload_n hC (D_X12_tellLaw.g 67 rfl) 0 rfl ?_
    refine jr_getR hC fl_X12_76 rfl (D_X12_tellLaw.g 68 rfl) h (fun r5 h => ?_)
    refine jr_aload_n hC (D_X12_tellLaw.g 69 rfl) 0 rfl ?_
    refine jr_getI hC fl_X12_251 rfl (D_X12_tellLaw.g 70 rfl) h (fun v6 h => ?_)
    refine jr_iconst hC (D_X12_tellLaw.g 71 rfl) ?_
    refine jr_zast hC (D_X12_tellLaw.g 72 rfl) h (fun M7 _ h => ?_)
    refine jr_aload_n hC (D_X12_tellLaw.g 73 rfl) 0 rfl ?_
    refine jr_cVv hC cl_X12_294 ⟨rfl, by decide⟩ (D_X12_tellLaw.g 74 rfl) [] h (fun r M' e => c_X12_term e) rfl rfl ⟨by decide, by decide⟩ (Nat.le_of_ble_eq_true rfl) ⟨Nat.le_of_ble_eq_true rfl, Nat.le_of_ble_eq_true rfl⟩ (fun _ M9 h => ?_)
    refine jr_aload_n hC (D_X12_tellLaw.g 75 rfl) 0 rfl ?_
    refine jr_iconst hC (D_X12_tellLaw.g 76 rfl) ?_
    refine jr_cVv hC cl_X12_282 ⟨rfl, by decide⟩ (D_X12_tellLaw.g 77 rfl) [q_i 4] h (fun r M' e => c_X12_must e) rfl rfl ⟨by decide, by decide⟩ (Nat.le_of_ble_eq_true rfl) ⟨Nat.le_of_ble_eq_true rfl, Nat.le_of_ble_eq_true rfl⟩ (fun _ M11 h => ?_)
    refine jr_aload_n hC (D_X12_tellLaw.g 78 rfl) 0 rfl ?_
    refine jr_getI hC fl_X12_215 rfl (D_X12_tellLaw.g 79 rfl) h (fun v12 h => ?_)
    refine jr_if_le hC (D_X12_tellLaw.g 80 rfl) 156 rfl h (fun h => ?_) (fun h => ?_)
    · refine jr_aload_n hC (D_X12_tellLaw.g 82 rfl) 0 rfl ?_
      refine jr_getR hC fl_X12_70 rfl (D_X12_tellLaw.g 83 rfl) h (fun r13 h => ?_)
      refine jr_iconst hC (D_X12_tellLaw.g 84 rfl) ?_
      refine jr_aload_n hC (D_X12_tellLaw.g 85 rfl) 0 rfl ?_
      refine jr_getI hC fl_X12_248 rfl (D_X12_tellLaw.g 86 rfl) h (fun v14 h => ?_)
      refine jr_imul hC (D_X12_tellLaw.g 87 rfl) ?_
      refine jr_iload_n hC (D_X12_tellLaw.g 88 rfl) 1 rfl ?_
      refine jr_iadd hC (D_X12_tellLaw.g 89 rfl) ?_
      refine jr_iload_n hC (D_X12_tellLaw.g 90 rfl) 2 rfl ?_
      refine jr_iast hC (D_X12_tellLaw.g 91 rfl) h (fun M15 _ h => ?_)
      refine jr_aload_n hC (D_X12_tellLaw.g 92 rfl) 0 rfl ?_
      refine jr_getR hC fl_X12_73 rfl (D_X12_tellLaw.g 93 rfl) h (fun r16 h => ?_)
      refine jr_iconst hC (D_X12_tellLaw.g 94 rfl) ?_
      refine jr_aload_n hC (D_X12_tellLaw.g 95 rfl) 0 rfl ?_
      refine jr_getI hC fl_X12_248 rfl (D_X12_tellLaw.g 96 rfl) h (fun v17 h => ?_)
      refine jr_imul hC (D_X12_tellLaw.g 97 rfl) ?_
      refine jr_iload_n hC (D_X12_tellLaw.g 98 rfl) 1 rfl ?_
      refine jr_iadd hC (D_X12_tellLaw.g 99 rfl) ?_
      refine jr_aload_n hC (D_X12_tellLaw.g 100 rfl) 0 rfl ?_
      refine jr_getI hC fl_X12_251 rfl (D_X12_tellLaw.g 101 rfl) h (fun v18 h => ?_)
      refine jr_iast hC (D_X12_tellLaw.g 102 rfl) h (fun M19 _ h => ?_)
      exact jr_vret hC (D_X12_tellLaw.g 103 rfl) hr hE h
    exact jr_vret hC (D_X12_tellLaw.g 81 rfl) hr hE h
  intro j_129 hj_129 h
  refine jr_if_ne hC (D_X12_tellLaw.g 10 rfl) 129 rfl h (fun h => ?_) (fun h => ?_)
  · refine jr_aload_n hC (D_X12_tellLaw.g 11 rfl) 0 rfl ?_
    refine jr_bipush hC (D_X12_tellLaw.g 12 rfl) bp_27 ?_
    refine jr_cVi hC cl_X12_233 ⟨rfl, by decide⟩ (D_X12_tellLaw.g 13 rfl) [q_i 27] h (fun r M' e => c_X12_is e) rfl rfl ⟨by decide, by decide⟩ (Nat.le_of_ble_eq_true rfl) ⟨Nat.le_of_ble_eq_true rfl, Nat.le_of_ble_eq_true rfl⟩ (fun v20 M21 h => ?_)
    refine jr_if_eq hC (D_X12_tellLaw.g 14 rfl) 129 rfl h (fun h => ?_) (fun h => ?_)
    · refine jr_pick [0, 1, 2] rfl ?_
      exact hj_129 M21 h
    refine jr_iload_n hC (D_X12_tellLaw.g 15 rfl) 3 rfl ?_
    refine jr_iconst hC (D_X12_tellLaw.g 16 rfl) ?_
    refine jr_join h (fun j => ∀ (M_38 : jMem), j M_38 = some (r, M') → JW E X 4 0 0 M_38 38 [(0, q_r E th), (1, q_i x1), (2, q_i v3), (3, q_i y3_12)] []) ?_ ?_
    · intro M_38 h
      refine jr_aload_n hC (D_X12_tellLaw.g 21 rfl) 0 rfl ?_
      refine jr_getI hC fl_X12_215 rfl (D_X12_tellLaw.g 22 rfl) h (fun v22 h => ?_)
      refine jr_if_le hC (D_X12_tellLaw.g 23 rfl) 46 rfl h (fun h => ?_) (fun h => ?_)
      · refine jr_iinc hC (D_X12_tellLaw.g 25 rfl) 3 rfl (by decide) rfl ?_
        refine jr_aload_n hC (D_X12_tellLaw.g 26 rfl) 1 rfl ?_
        refine jr_cVv hC cl_X12_236 ⟨rfl, by decide⟩ (D_X12_tellLaw.g 27 rfl) [] h (fun r M' e => c_X12_goesOn e) rfl rfl ⟨by decide, by decide⟩ (Nat.le_of_ble_eq_true rfl) ⟨Nat.le_of_ble_eq_true rfl, Nat.le_of_ble_eq_true rfl⟩ (fun _ M24 h => ?_)
        refine jr_aload_n hC (D_X12_tellLaw.g 28 rfl) 1 rfl ?_
        refine jr_getR hC fl_X12_76 rfl (D_X12_tellLaw.g 29 rfl) h (fun r25 h => ?_)
        refine jr_aload_n hC (D_X12_tellLaw.g 30 rfl) 1 rfl ?_
        refine jr_getI hC fl_X12_251 rfl (D_X12_tellLaw.g 31 rfl) h (fun v26 h => ?_)
        refine jr_iconst hC (D_X12_tellLaw.g 32 rfl) ?_
        refine jr_zast hC (D_X12_tellLaw.g 33 rfl) h (fun M27 _ h => ?_)
        refine jr_aload_n hC (D_X12_tellLaw.g 34 rfl) 1 rfl ?_
        refine jr_getR hC fl_X12_80 rfl (D_X12_tellLaw.g 35 rfl) h (fun r28 h => ?_)
        refine jr_aload_n hC (D_X12_tellLaw.g 36 rfl) 1 rfl ?_
        refine jr_getI hC fl_X12_251 rfl (D_X12_tellLaw.g 37 rfl) h (fun v29 h => ?_)
        refine jr_aload_n hC (D_X12_tellLaw.g 38 rfl) 1 rfl ?_
        refine jr_getI hC fl_X12_254 rfl (D_X12_tellLaw.g 39 rfl) h (fun v30 h => ?_)
        refine jr_iast hC (D_X12_tellLaw.g 40 rfl) h (fun M31 _ h => ?_)
        refine jr_aload_n hC (D_X12_tellLaw.g 41 rfl) 1 rfl ?_
        refine jr_cVv hC cl_X12_291 ⟨rfl, by decide⟩ (D_X12_tellLaw.g 42 rfl) [] h (fun r M' e => c_X12_expression e) rfl rfl ⟨by decide, by decide⟩ (Nat.le_of_ble_eq_true rfl) ⟨Nat.le_of_ble_eq_true rfl, Nat.le_of_ble_eq_true rfl⟩ (fun _ M33 h => ?_)
        refine jr_aload_n hC (D_X12_tellLaw.g 43 rfl) 1 rfl ?_
        refine jr_bipush hC (D_X12_tellLaw.g 44 rfl) bp_13 ?_
        refine jr_cVv hC cl_X12_282 ⟨rfl, by decide⟩ (D_X12_tellLaw.g 45 rfl) [q_i 13] h (fun r M' e => c_X12_must e) rfl rfl ⟨by decide, by decide⟩ (Nat.le_of_ble_eq_true rfl) ⟨Nat.le_of_ble_eq_true rfl, Nat.le_of_ble_eq_true rfl⟩ (fun _ M35 h => ?_)
        refine jr_aload_n hC (D_X12_tellLaw.g 46 rfl) 1 rfl ?_
        refine jr_getR hC fl_X12_83 rfl (D_X12_tellLaw.g 47 rfl) h (fun r36 h => ?_)
        refine jr_aload_n hC (D_X12_tellLaw.g 48 rfl) 1 rfl ?_
        refine jr_getI hC fl_X12_251 rfl (D_X12_tellLaw.g 49 rfl) h (fun v37 h => ?_)
        refine jr_aload_n hC (D_X12_tellLaw.g 50 rfl) 1 rfl ?_
        refine jr_getI hC fl_X12_254 rfl (D_X12_tellLaw.g 51 rfl) h (fun v38 h => ?_)
        refine jr_iast hC (D_X12_tellLaw.g 52 rfl) h (fun M39 _ h => ?_)
        refine jr_aload_n hC (D_X12_tellLaw.g 53 rfl) 1 rfl ?_
        refine jr_getI hC fl_X12_215 rfl (D_X12_tellLaw.g 54 rfl) h (fun v40 h => ?_)
        refine jr_join h (fun j => ∀ (M_110 : jMem), j M_110 = some (r, M') → JW E X 4 0 0 M_110 110 [(0, q_r E th), (1, q_i x1), (2, q_i v3), (3, q_i (y3_12 + 1))] []) ?_ ?_
        · intro M_110 h
          refine jr_aload_n hC (D_X12_tellLaw.g 58 rfl) 0 rfl ?_
          refine jr_bipush hC (D_X12_tellLaw.g 59 rfl) bp_28 ?_
          refine jr_cVv hC cl_X12_282 ⟨rfl, by decide⟩ (D_X12_tellLaw.g 60 rfl) [q_i 28] h (fun r M' e => c_X12_must e) rfl rfl ⟨by decide, by decide⟩ (Nat.le_of_ble_eq_true rfl) ⟨Nat.le_of_ble_eq_true rfl, Nat.le_of_ble_eq_true rfl⟩ (fun _ M42 h => ?_)
          refine jr_aload_n hC (D_X12_tellLaw.g 61 rfl) 0 rfl ?_
          refine jr_cVv hC cl_X12_294 ⟨rfl, by decide⟩ (D_X12_tellLaw.g 62 rfl) [] h (fun r M' e => c_X12_term e) rfl rfl ⟨by decide, by decide⟩ (Nat.le_of_ble_eq_true rfl) ⟨Nat.le_of_ble_eq_true rfl, Nat.le_of_ble_eq_true rfl⟩ (fun _ M44 h => ?_)
          refine jr_aload_n hC (D_X12_tellLaw.g 63 rfl) 0 rfl ?_
          refine jr_bipush hC (D_X12_tellLaw.g 64 rfl) bp_29 ?_
          refine jr_cVv hC cl_X12_282 ⟨rfl, by decide⟩ (D_X12_tellLaw.g 65 rfl) [q_i 29] h (fun r M' e => c_X12_must e) rfl rfl ⟨by decide, by decide⟩ (Nat.le_of_ble_eq_true rfl) ⟨Nat.le_of_ble_eq_true rfl, Nat.le_of_ble_eq_true rfl⟩ (fun _ M46 h => ?_)
          refine jr_goto hC (D_X12_tellLaw.g 66 rfl) 12 rfl ?_
          exact hrec_12 (y3_12 + 1) M46 h
        intro j_110 hj_110 h
        refine jr_if_ne hC (D_X12_tellLaw.g 55 rfl) 110 rfl h (fun h => ?_) (fun h => ?_)
        · refine jr_aload_n hC (D_X12_tellLaw.g 56 rfl) 1 rfl ?_
          refine jr_cVv hC cl_X12_291 ⟨rfl, by decide⟩ (D_X12_tellLaw.g 57 rfl) [] h (fun r M' e => c_X12_expression e) rfl rfl ⟨by decide, by decide⟩ (Nat.le_of_ble_eq_true rfl) ⟨Nat.le_of_ble_eq_true rfl, Nat.le_of_ble_eq_true rfl⟩ (fun _ M48 h => ?_)
          refine jr_pick [1, 2, 3, 0] rfl ?_
          exact hj_110 M48 h
        refine jr_pick [1, 2, 3, 0] rfl ?_
        exact hj_110 M39 h
      exact jr_vret hC (D_X12_tellLaw.g 24 rfl) hr hE h
    intro j_38 hj_38 h
    refine jr_icmp_ne hC (D_X12_tellLaw.g 17 rfl) 38 rfl h (fun h => ?_) (fun h => ?_)
    · refine jr_aload_n hC (D_X12_tellLaw.g 18 rfl) 0 rfl ?_
      refine jr_iconst hC (D_X12_tellLaw.g 19 rfl) ?_
      refine jr_cVv hC cl_X12_230 ⟨rfl, by decide⟩ (D_X12_tellLaw.g 20 rfl) [q_i 2] h (fun r M' e => c_X12_fail e) rfl rfl ⟨by decide, by decide⟩ (Nat.le_of_ble_eq_true rfl) ⟨Nat.le_of_ble_eq_true rfl, Nat.le_of_ble_eq_true rfl⟩ (fun _ M50 h => ?_)
      exact hj_38 M50 h
    exact hj_38 M21 h
  refine jr_pick [0, 1, 2] rfl ?_
  exact hj_129 M_12 h
def f_X12_tellOne (th : Nat) (M : jMem) : Option (Int × jMem) :=
(jm_gR 12 5 M th).bind fun r1 =>
(jm_gI 12 11 M th).bind fun v2 =>
(jm_ld 20 M r1 v2).bind fun v3 =>
jjq ((jm_gR 12 5 M th).bind fun r4 =>
(jm_gI 12 11 M th).bind fun v5 =>
(jm_ld 20 M r4 v5).bind fun v6 =>
jjq (fun (M_345 : jMem) =>
(jm_gI 12 13 M_345 th).bind fun v7 =>
if jd_wr v7 ≤ 0 then (jcall 12 M_345 th (f_X12_goesOn th M_345) fun _ M9 =>
jcall 12 M9 th (f_X12_tellLaw th (v6 - 23) M9) fun _ M11 =>
some (0, M11))
else (some (0, M_345))) fun j_345 =>
jjq (jcall 12 M th (f_X12_fail th 1 M) fun _ M13 =>
j_345 M13) fun j_340 =>
if jd_wr (v6 - 23) < 0 then (j_340 )
else ((jm_gR 12 5 M th).bind fun r14 =>
(jm_gI 12 11 M th).bind fun v15 =>
(jm_ld 20 M r14 v15).bind fun v16 =>
if jd_wr v16 ≤ jd_wr 25 then (j_345 M)
else (j_340 ))) fun j_309 =>
if jd_wr v3 = 20 then (jcall 12 M th (f_X12_goesOn th M) fun _ M18 =>
(jm_gR 12 20 M18 th).bind fun r19 =>
(jm_gI 12 19 M18 th).bind fun v20 =>
jcall 12 M18 th (f_X12_bounded th 2 6 M18) fun v21 M22 =>
(jm_st 20 M22 r19 v20 v21).bind fun M23 =>
(jm_gR 12 21 M23 th).bind fun r24 =>
(jm_gI 12 19 M23 th).bind fun v25 =>
jcall 12 M23 th (f_X12_bounded th 2 6 M23) fun v26 M27 =>
(jm_st 20 M27 r24 v25 v26).bind fun M28 =>
jcall 12 M28 th (f_X12_must th 4 M28) fun _ M30 =>
some (0, M30))
else if jd_wr v3 = 21 then ((jm_gR 12 22 M th).bind fun r31 =>
(jm_gI 12 19 M th).bind fun v32 =>
(jm_ld 20 M r31 v32).bind fun v33 =>
jcall 12 M th (f_X12_roomFor th v33 12 M) fun _ M35 =>
(jm_gI 12 13 M35 th).bind fun v36 =>
if jd_wr v36 ≤ 0 then ((jm_gI 12 19 M35 th).bind fun v37 =>
(jm_gR 12 22 M35 th).bind fun r38 =>
(jm_gI 12 19 M35 th).bind fun v39 =>
(jm_ld 20 M35 r38 v39).bind fun v40 =>
(jm_gR 12 23 M35 th).bind fun r41 =>
jcall 12 M35 th (f_X12_bounded th 0 5 M35) fun v42 M43 =>
(jm_st 20 M43 r41 ((12 * v37) + v40) v42).bind fun M44 =>
(jm_gR 12 24 M44 th).bind fun r45 =>
jcall 12 M44 th (f_X12_bounded th 0 5 M44) fun v46 M47 =>
(jm_st 20 M47 r45 ((12 * v37) + v40) v46).bind fun M48 =>
jcall 12 M48 th (f_X12_must th 4 M48) fun _ M50 =>
(jm_gR 12 22 M50 th).bind fun r51 =>
(jm_gI 12 19 M50 th).bind fun v52 =>
(jm_ld 20 M50 r51 v52).bind fun v53 =>
(jm_st 20 M50 r51 v52 (v53 + 1)).bind fun M54 =>
some (0, M54))
else (some (0, M35)))
else if jd_wr v3 = 22 then ((jm_gR 12 25 M th).bind fun r55 =>
(jm_gI 12 19 M th).bind fun v56 =>
(jm_ld 20 M r55 v56).bind fun v57 =>
jcall 12 M th (f_X12_roomFor th v57 18 M) fun _ M59 =>
(jm_gI 12 13 M59 th).bind fun v60 =>
if jd_wr v60 ≤ 0 then ((jm_gI 12 19 M59 th).bind fun v61 =>
(jm_gR 12 25 M59 th).bind fun r62 =>
(jm_gI 12 19 M59 th).bind fun v63 =>
(jm_ld 20 M59 r62 v63).bind fun v64 =>
(jm_gR 12 26 M59 th).bind fun r65 =>
jcall 12 M59 th (f_X12_bounded th 0 5 M59) fun v66 M67 =>
(jm_st 20 M67 r65 ((18 * v61) + v64) v66).bind fun M68 =>
(jm_gR 12 27 M68 th).bind fun r69 =>
jcall 12 M68 th (f_X12_bounded th 0 5 M68) fun v70 M71 =>
(jm_st 20 M71 r69 ((18 * v61) + v64) v70).bind fun M72 =>
(jm_gR 12 28 M72 th).bind fun r73 =>
jcall 12 M72 th (f_X12_bounded th 0 1 M72) fun v74 M75 =>
(jm_st 20 M75 r73 ((18 * v61) + v64) v74).bind fun M76 =>
jcall 12 M76 th (f_X12_must th 4 M76) fun _ M78 =>
(jm_gR 12 25 M78 th).bind fun r79 =>
(jm_gI 12 19 M78 th).bind fun v80 =>
(jm_ld 20 M78 r79 v80).bind fun v81 =>
(jm_st 20 M78 r79 v80 (v81 + 1)).bind fun M82 =>
some (0, M82))
else (some (0, M59)))
else if jd_wr v3 = 23 then (j_309 )
else if jd_wr v3 = 24 then (j_309 )
else if jd_wr v3 = 25 then (j_309 )
else if jd_wr v3 = 26 then (jcall 12 M th (f_X12_goesOn th M) fun _ M84 =>
(jm_gR 12 29 M84 th).bind fun r85 =>
(jm_gI 12 19 M84 th).bind fun v86 =>
jcall 12 M84 th (f_X12_bounded th 0 9999 M84) fun v87 M88 =>
(jm_st 20 M88 r85 v86 v87).bind fun M89 =>
jcall 12 M89 th (f_X12_must th 4 M89) fun _ M91 =>
some (0, M91))
else (j_309 )
theorem D_X12_tellOne : jDs cX12_tellOne [(0, .aload_n 0, 1, 1), (1, .getfield 20, 3, 4), (4, .aload_n 0, 1, 5), (5, .getfield 218, 3, 8), (8, .iaload, 1, 9), (9, .tableswitch 300 20 26 #[43, 87, 173, 300, 300, 300, 271], 43, 52), (52, .aload_n 0, 1, 53), (53, .invokevirtual 236, 3, 56), (56, .aload_n 0, 1, 57), (57, .getfield 40, 3, 60), (60, .aload_n 0, 1, 61), (61, .getfield 248, 3, 64), (64, .aload_n 0, 1, 65), (65, .iconst 2, 1, 66), (66, .bipush 6, 2, 68), (68, .invokevirtual 278, 3, 71), (71, .iastore, 1, 72), (72, .aload_n 0, 1, 73), (73, .getfield 43, 3, 76), (76, .aload_n 0, 1, 77), (77, .getfield 248, 3, 80), (80, .aload_n 0, 1, 81), (81, .iconst 2, 1, 82), (82, .bipush 6, 2, 84), (84, .invokevirtual 278, 3, 87), (87, .iastore, 1, 88), (88, .aload_n 0, 1, 89), (89, .iconst 4, 1, 90), (90, .invokevirtual 282, 3, 93), (93, .goto 269, 3, 96), (96, .aload_n 0, 1, 97), (97, .aload_n 0, 1, 98), (98, .getfield 46, 3, 101), (101, .aload_n 0, 1, 102), (102, .getfield 248, 3, 105), (105, .iaload, 1, 106), (106, .bipush 12, 2, 108), (108, .invokevirtual 285, 3, 111), (111, .aload_n 0, 1, 112), (112, .getfield 215, 3, 115), (115, .ifCond .le 4, 3, 118), (118, .return_, 1, 119), (119, .bipush 12, 2, 121), (121, .aload_n 0, 1, 122), (122, .getfield 248, 3, 125), (125, .imul, 1, 126), (126, .aload_n 0, 1, 127), (127, .getfield 46, 3, 130), (130, .aload_n 0, 1, 131), (131, .getfield 248, 3, 134), (134, .iaload, 1, 135), (135, .iadd, 1, 136), (136, .istore_n 1, 1, 137), (137, .aload_n 0, 1, 138), (138, .getfield 49, 3, 141), (141, .iload_n 1, 1, 142), (142, .aload_n 0, 1, 143), (143, .iconst 0, 1, 144), (144, .iconst 5, 1, 145), (145, .invokevirtual 278, 3, 148), (148, .iastore, 1, 149), (149, .aload_n 0, 1, 150), (150, .getfield 52, 3, 153), (153, .iload_n 1, 1, 154), (154, .aload_n 0, 1, 155), (155, .iconst 0, 1, 156), (156, .iconst 5, 1, 157), (157, .invokevirtual 278, 3, 160), (160, .iastore, 1, 161), (161, .aload_n 0, 1, 162), (162, .iconst 4, 1, 163), (163, .invokevirtual 282, 3, 166), (166, .aload_n 0, 1, 167), (167, .getfield 46, 3, 170), (170, .aload_n 0, 1, 171), (171, .getfield 248, 3, 174), (174, .dup2, 1, 175), (175, .iaload, 1, 176), (176, .iconst 1, 1, 177), (177, .iadd, 1, 178), (178, .iastore, 1, 179), (179, .goto 183, 3, 182), (182, .aload_n 0, 1, 183), (183, .aload_n 0, 1, 184), (184, .getfield 55, 3, 187), (187, .aload_n 0, 1, 188), (188, .getfield 248, 3, 191), (191, .iaload, 1, 192), (192, .bipush 18, 2, 194), (194, .invokevirtual 285, 3, 197), (197, .aload_n 0, 1, 198), (198, .getfield 215, 3, 201), (201, .ifCond .le 4, 3, 204), (204, .return_, 1, 205), (205, .bipush 18, 2, 207), (207, .aload_n 0, 1, 208), (208, .getfield 248, 3, 211), (211, .imul, 1, 212), (212, .aload_n 0, 1, 213), (213, .getfield 55, 3, 216), (216, .aload_n 0, 1, 217), (217, .getfield 248, 3, 220), (220, .iaload, 1, 221), (221, .iadd, 1, 222), (222, .istore_n 1, 1, 223), (223, .aload_n 0, 1, 224), (224, .getfield 58, 3, 227), (227, .iload_n 1, 1, 228), (228, .aload_n 0, 1, 229), (229, .iconst 0, 1, 230), (230, .iconst 5, 1, 231), (231, .invokevirtual 278, 3, 234), (234, .iastore, 1, 235), (235, .aload_n 0, 1, 236), (236, .getfield 61, 3, 239), (239, .iload_n 1, 1, 240), (240, .aload_n 0, 1, 241), (241, .iconst 0, 1, 242), (242, .iconst 5, 1, 243), (243, .invokevirtual 278, 3, 246), (246, .iastore, 1, 247), (247, .aload_n 0, 1, 248), (248, .getfield 64, 3, 251), (251, .iload_n 1, 1, 252), (252, .aload_n 0, 1, 253), (253, .iconst 0, 1, 254), (254, .iconst 1, 1, 255), (255, .invokevirtual 278, 3, 258), (258, .iastore, 1, 259), (259, .aload_n 0, 1, 260), (260, .iconst 4, 1, 261), (261, .invokevirtual 282, 3, 264), (264, .aload_n 0, 1, 265), (265, .getfield 55, 3, 268), (268, .aload_n 0, 1, 269), (269, .getfield 248, 3, 272), (272, .dup2, 1, 273), (273, .iaload, 1, 274), (274, .iconst 1, 1, 275), (275, .iadd, 1, 276), (276, .iastore, 1, 277), (277, .goto 85, 3, 280), (280, .aload_n 0, 1, 281), (281, .invokevirtual 236, 3, 284), (284, .aload_n 0, 1, 285), (285, .getfield 67, 3, 288), (288, .aload_n 0, 1, 289), (289, .getfield 248, 3, 292), (292, .aload_n 0, 1, 293), (293, .iconst 0, 1, 294), (294, .sipush 9999, 3, 297), (297, .invokevirtual 278, 3, 300), (300, .iastore, 1, 301), (301, .aload_n 0, 1, 302), (302, .iconst 4, 1, 303), (303, .invokevirtual 282, 3, 306), (306, .goto 56, 3, 309), (309, .aload_n 0, 1, 310), (310, .getfield 20, 3, 313), (313, .aload_n 0, 1, 314), (314, .getfield 218, 3, 317), (317, .iaload, 1, 318), (318, .bipush 23, 2, 320), (320, .isub, 1, 321), (321, .istore_n 1, 1, 322), (322, .iload_n 1, 1, 323), (323, .ifCond .lt 17, 3, 326), (326, .aload_n 0, 1, 327), (327, .getfield 20, 3, 330), (330, .aload_n 0, 1, 331), (331, .getfield 218, 3, 334), (334, .iaload, 1, 335), (335, .bipush 25, 2, 337), (337, .if_icmp .le 8, 3, 340), (340, .aload_n 0, 1, 341), (341, .iconst 1, 1, 342), (342, .invokevirtual 230, 3, 345), (345, .aload_n 0, 1, 346), (346, .getfield 215, 3, 349), (349, .ifCond .le 4, 3, 352), (352, .return_, 1, 353), (353, .aload_n 0, 1, 354), (354, .invokevirtual 236, 3, 357), (357, .aload_n 0, 1, 358), (358, .iload_n 1, 1, 359), (359, .invokevirtual 288, 3, 362), (362, .return_, 1, 363)] := by unfold jDs; decide +kernel
set_option maxRecDepth 100000 in
set_option maxHeartbeats 4000000 in
theorem c_X12_tellOne {E : jE} {th : Nat} {M : jMem} {r : Int} {M' : jMem} (h : f_X12_tellOne th M = some (r, M')) : jMet E yX12_tellOne cX12_tellOne 2 (none) 8 0 0 [q_r E th] M (none) M' := by
  unfold f_X12_tellOne at h
  refine jMet.of RX12 rfl (by decide +kernel) (Nat.le_of_ble_eq_true rfl) [(0, q_r E th)] rfl (fun X hC hE hr hn => ?_)
  refine jr_aload_n hC (D_X12_tellOne.g 0 rfl) 0 rfl ?_
  refine jr_getR hC fl_X12_20 rfl (D_X12_tellOne.g 1 rfl) h (fun r1 h => ?_)
  refine jr_aload_n hC (D_X12_tellOne.g 2 rfl) 0 rfl ?_
  refine jr_getI hC fl_X12_218 rfl (D_X12_tellOne.g 3 rfl) h (fun v2 h => ?_)
  refine jr_iald hC (D_X12_tellOne.g 4 rfl) h (fun v3 h => ?_)
  refine jr_join h (fun j => j = some (r, M') → JW E X 2 0 0 M 309 [(0, q_r E th)] []) ?_ ?_
  · intro  h
    refine jr_aload_n hC (D_X12_tellOne.g 157 rfl) 0 rfl ?_
    refine jr_getR hC fl_X12_20 rfl (D_X12_tellOne.g 158 rfl) h (fun r4 h => ?_)
    refine jr_aload_n hC (D_X12_tellOne.g 159 rfl) 0 rfl ?_
    refine jr_getI hC fl_X12_218 rfl (D_X12_tellOne.g 160 rfl) h (fun v5 h => ?_)
    refine jr_iald hC (D_X12_tellOne.g 161 rfl) h (fun v6 h => ?_)
    refine jr_bipush hC (D_X12_tellOne.g 162 rfl) bp_23 ?_
    refine jr_isub hC (D_X12_tellOne.g 163 rfl) ?_
    refine jr_istore_n hC (D_X12_tellOne.g 164 rfl) (by decide) rfl ?_
    refine jr_iload_n hC (D_X12_tellOne.g 165 rfl) 0 rfl ?_
    refine jr_join h (fun j => ∀ (M_345 : jMem), j M_345 = some (r, M') → JW E X 2 0 0 M_345 345 [(0, q_r E th), (1, q_i (v6 - 23))] []) ?_ ?_
    · intro M_345 h
      refine jr_aload_n hC (D_X12_tellOne.g 177 rfl) 0 rfl ?_
      refine jr_getI hC fl_X12_215 rfl (D_X12_tellOne.g 178 rfl) h (fun v7 h => ?_)
      refine jr_if_le hC (D_X12_tellOne.g 179 rfl) 353 rfl h (fun h => ?_) (fun h => ?_)
      · refine jr_aload_n hC (D_X12_tellOne.g 181 rfl) 0 rfl ?_
        refine jr_cVv hC cl_X12_236 ⟨rfl, by decide⟩ (D_X12_tellOne.g 182 rfl) [] h (fun r M' e => c_X12_goesOn e) rfl rfl ⟨by decide, by decide⟩ (Nat.le_of_ble_eq_true rfl) ⟨Nat.le_of_ble_eq_true rfl, Nat.le_of_ble_eq_true rfl⟩ (fun _ M9 h => ?_)
        refine jr_aload_n hC (D_X12_tellOne.g 183 rfl) 0 rfl ?_
        refine jr_iload_n hC (D_X12_tellOne.g 184 rfl) 1 rfl ?_
        refine jr_cVv hC cl_X12_288 ⟨rfl, by decide⟩ (D_X12_tellOne.g 185 rfl) [q_i (v6 - 23)] h (fun r M' e => c_X12_tellLaw e) rfl rfl ⟨by decide, by decide⟩ (Nat.le_of_ble_eq_true rfl) ⟨Nat.le_of_ble_eq_true rfl, Nat.le_of_ble_eq_true rfl⟩ (fun _ M11 h => ?_)
        exact jr_vret hC (D_X12_tellOne.g 186 rfl) hr hE h
      exact jr_vret hC (D_X12_tellOne.g 180 rfl) hr hE h
    intro j_345 hj_345 h
    refine jr_join h (fun j => j = some (r, M') → JW E X 2 0 0 M 340 [(0, q_r E th), (1, q_i (v6 - 23))] []) ?_ ?_
    · intro  h
      refine jr_aload_n hC (D_X12_tellOne.g 174 rfl) 0 rfl ?_
      refine jr_iconst hC (D_X12_tellOne.g 175 rfl) ?_
      refine jr_cVv hC cl_X12_230 ⟨rfl, by decide⟩ (D_X12_tellOne.g 176 rfl) [q_i 1] h (fun r M' e => c_X12_fail e) rfl rfl ⟨by decide, by decide⟩ (Nat.le_of_ble_eq_true rfl) ⟨Nat.le_of_ble_eq_true rfl, Nat.le_of_ble_eq_true rfl⟩ (fun _ M13 h => ?_)
      exact hj_345 M13 h
    intro j_340 hj_340 h
    refine jr_if_lt hC (D_X12_tellOne.g 166 rfl) 340 rfl h (fun h => ?_) (fun h => ?_)
    · refine jr_pick [1, 0] rfl ?_
      exact hj_340  h
    refine jr_aload_n hC (D_X12_tellOne.g 167 rfl) 1 rfl ?_
    refine jr_getR hC fl_X12_20 rfl (D_X12_tellOne.g 168 rfl) h (fun r14 h => ?_)
    refine jr_aload_n hC (D_X12_tellOne.g 169 rfl) 1 rfl ?_
    refine jr_getI hC fl_X12_218 rfl (D_X12_tellOne.g 170 rfl) h (fun v15 h => ?_)
    refine jr_iald hC (D_X12_tellOne.g 171 rfl) h (fun v16 h => ?_)
    refine jr_bipush hC (D_X12_tellOne.g 172 rfl) bp_25 ?_
    refine jr_icmp_le hC (D_X12_tellOne.g 173 rfl) 345 rfl h (fun h => ?_) (fun h => ?_)
    · refine jr_pick [1, 0] rfl ?_
      exact hj_345 M h
    refine jr_pick [1, 0] rfl ?_
    exact hj_340  h
  intro j_309 hj_309 h
  by_cases c_0 : jd_wr v3 = 20
  · have h := jif_t h c_0
    refine jr_tswIn hC (D_X12_tellOne.g 5 rfl) 0 c_0 (by decide) rfl 52 rfl ?_
    refine jr_aload_n hC (D_X12_tellOne.g 6 rfl) 0 rfl ?_
    refine jr_cVv hC cl_X12_236 ⟨rfl, by decide⟩ (D_X12_tellOne.g 7 rfl) [] h (fun r M' e => c_X12_goesOn e) rfl rfl ⟨by decide, by decide⟩ (Nat.le_of_ble_eq_true rfl) ⟨Nat.le_of_ble_eq_true rfl, Nat.le_of_ble_eq_true rfl⟩ (fun _ M18 h => ?_)
    refine jr_aload_n hC (D_X12_tellOne.g 8 rfl) 0 rfl ?_
    refine jr_getR hC fl_X12_40 rfl (D_X12_tellOne.g 9 rfl) h (fun r19 h => ?_)
    refine jr_aload_n hC (D_X12_tellOne.g 10 rfl) 0 rfl ?_
    refine jr_getI hC fl_X12_248 rfl (D_X12_tellOne.g 11 rfl) h (fun v20 h => ?_)
    refine jr_aload_n hC (D_X12_tellOne.g 12 rfl) 0 rfl ?_
    refine jr_iconst hC (D_X12_tellOne.g 13 rfl) ?_
    refine jr_bipush hC (D_X12_tellOne.g 14 rfl) bp_6 ?_
    refine jr_cVi hC cl_X12_278 ⟨rfl, by decide⟩ (D_X12_tellOne.g 15 rfl) [q_i 2, q_i 6] h (fun r M' e => c_X12_bounded e) rfl rfl ⟨by decide, by decide⟩ (Nat.le_of_ble_eq_true rfl) ⟨Nat.le_of_ble_eq_true rfl, Nat.le_of_ble_eq_true rfl⟩ (fun v21 M22 h => ?_)
    refine jr_iast hC (D_X12_tellOne.g 16 rfl) h (fun M23 _ h => ?_)
    refine jr_aload_n hC (D_X12_tellOne.g 17 rfl) 0 rfl ?_
    refine jr_getR hC fl_X12_43 rfl (D_X12_tellOne.g 18 rfl) h (fun r24 h => ?_)
    refine jr_aload_n hC (D_X12_tellOne.g 19 rfl) 0 rfl ?_
    refine jr_getI hC fl_X12_248 rfl (D_X12_tellOne.g 20 rfl) h (fun v25 h => ?_)
    refine jr_aload_n hC (D_X12_tellOne.g 21 rfl) 0 rfl ?_
    refine jr_iconst hC (D_X12_tellOne.g 22 rfl) ?_
    refine jr_bipush hC (D_X12_tellOne.g 23 rfl) bp_6 ?_
    refine jr_cVi hC cl_X12_278 ⟨rfl, by decide⟩ (D_X12_tellOne.g 24 rfl) [q_i 2, q_i 6] h (fun r M' e => c_X12_bounded e) rfl rfl ⟨by decide, by decide⟩ (Nat.le_of_ble_eq_true rfl) ⟨Nat.le_of_ble_eq_true rfl, Nat.le_of_ble_eq_true rfl⟩ (fun v26 M27 h => ?_)
    refine jr_iast hC (D_X12_tellOne.g 25 rfl) h (fun M28 _ h => ?_)
    refine jr_aload_n hC (D_X12_tellOne.g 26 rfl) 0 rfl ?_
    refine jr_iconst hC (D_X12_tellOne.g 27 rfl) ?_
    refine jr_cVv hC cl_X12_282 ⟨rfl, by decide⟩ (D_X12_tellOne.g 28 rfl) [q_i 4] h (fun r M' e => c_X12_must e) rfl rfl ⟨by decide, by decide⟩ (Nat.le_of_ble_eq_true rfl) ⟨Nat.le_of_ble_eq_true rfl, Nat.le_of_ble_eq_true rfl⟩ (fun _ M30 h => ?_)
    refine jr_goto hC (D_X12_tellOne.g 29 rfl) 362 rfl ?_
    exact jr_vret hC (D_X12_tellOne.g 186 rfl) hr hE h
  replace h := jif_f h c_0
  by_cases c_1 : jd_wr v3 = 21
  · have h := jif_t h c_1
    refine jr_tswIn hC (D_X12_tellOne.g 5 rfl) 1 c_1 (by decide) rfl 96 rfl ?_
    refine jr_aload_n hC (D_X12_tellOne.g 30 rfl) 0 rfl ?_
    refine jr_aload_n hC (D_X12_tellOne.g 31 rfl) 0 rfl ?_
    refine jr_getR hC fl_X12_46 rfl (D_X12_tellOne.g 32 rfl) h (fun r31 h => ?_)
    refine jr_aload_n hC (D_X12_tellOne.g 33 rfl) 0 rfl ?_
    refine jr_getI hC fl_X12_248 rfl (D_X12_tellOne.g 34 rfl) h (fun v32 h => ?_)
    refine jr_iald hC (D_X12_tellOne.g 35 rfl) h (fun v33 h => ?_)
    refine jr_bipush hC (D_X12_tellOne.g 36 rfl) bp_12 ?_
    refine jr_cVv hC cl_X12_285 ⟨rfl, by decide⟩ (D_X12_tellOne.g 37 rfl) [q_i v33, q_i 12] h (fun r M' e => c_X12_roomFor e) rfl rfl ⟨by decide, by decide⟩ (Nat.le_of_ble_eq_true rfl) ⟨Nat.le_of_ble_eq_true rfl, Nat.le_of_ble_eq_true rfl⟩ (fun _ M35 h => ?_)
    refine jr_aload_n hC (D_X12_tellOne.g 38 rfl) 0 rfl ?_
    refine jr_getI hC fl_X12_215 rfl (D_X12_tellOne.g 39 rfl) h (fun v36 h => ?_)
    refine jr_if_le hC (D_X12_tellOne.g 40 rfl) 119 rfl h (fun h => ?_) (fun h => ?_)
    · refine jr_bipush hC (D_X12_tellOne.g 42 rfl) bp_12 ?_
      refine jr_aload_n hC (D_X12_tellOne.g 43 rfl) 0 rfl ?_
      refine jr_getI hC fl_X12_248 rfl (D_X12_tellOne.g 44 rfl) h (fun v37 h => ?_)
      refine jr_imul hC (D_X12_tellOne.g 45 rfl) ?_
      refine jr_aload_n hC (D_X12_tellOne.g 46 rfl) 0 rfl ?_
      refine jr_getR hC fl_X12_46 rfl (D_X12_tellOne.g 47 rfl) h (fun r38 h => ?_)
      refine jr_aload_n hC (D_X12_tellOne.g 48 rfl) 0 rfl ?_
      refine jr_getI hC fl_X12_248 rfl (D_X12_tellOne.g 49 rfl) h (fun v39 h => ?_)
      refine jr_iald hC (D_X12_tellOne.g 50 rfl) h (fun v40 h => ?_)
      refine jr_iadd hC (D_X12_tellOne.g 51 rfl) ?_
      refine jr_istore_n hC (D_X12_tellOne.g 52 rfl) (by decide) rfl ?_
      refine jr_aload_n hC (D_X12_tellOne.g 53 rfl) 1 rfl ?_
      refine jr_getR hC fl_X12_49 rfl (D_X12_tellOne.g 54 rfl) h (fun r41 h => ?_)
      refine jr_iload_n hC (D_X12_tellOne.g 55 rfl) 0 rfl ?_
      refine jr_aload_n hC (D_X12_tellOne.g 56 rfl) 1 rfl ?_
      refine jr_iconst hC (D_X12_tellOne.g 57 rfl) ?_
      refine jr_iconst hC (D_X12_tellOne.g 58 rfl) ?_
      refine jr_cVi hC cl_X12_278 ⟨rfl, by decide⟩ (D_X12_tellOne.g 59 rfl) [q_i 0, q_i 5] h (fun r M' e => c_X12_bounded e) rfl rfl ⟨by decide, by decide⟩ (Nat.le_of_ble_eq_true rfl) ⟨Nat.le_of_ble_eq_true rfl, Nat.le_of_ble_eq_true rfl⟩ (fun v42 M43 h => ?_)
      refine jr_iast hC (D_X12_tellOne.g 60 rfl) h (fun M44 _ h => ?_)
      refine jr_aload_n hC (D_X12_tellOne.g 61 rfl) 1 rfl ?_
      refine jr_getR hC fl_X12_52 rfl (D_X12_tellOne.g 62 rfl) h (fun r45 h => ?_)
      refine jr_iload_n hC (D_X12_tellOne.g 63 rfl) 0 rfl ?_
      refine jr_aload_n hC (D_X12_tellOne.g 64 rfl) 1 rfl ?_
      refine jr_iconst hC (D_X12_tellOne.g 65 rfl) ?_
      refine jr_iconst hC (D_X12_tellOne.g 66 rfl) ?_
      refine jr_cVi hC cl_X12_278 ⟨rfl, by decide⟩ (D_X12_tellOne.g 67 rfl) [q_i 0, q_i 5] h (fun r M' e => c_X12_bounded e) rfl rfl ⟨by decide, by decide⟩ (Nat.le_of_ble_eq_true rfl) ⟨Nat.le_of_ble_eq_true rfl, Nat.le_of_ble_eq_true rfl⟩ (fun v46 M47 h => ?_)
      refine jr_iast hC (D_X12_tellOne.g 68 rfl) h (fun M48 _ h => ?_)
      refine jr_aload_n hC (D_X12_tellOne.g 69 rfl) 1 rfl ?_
      refine jr_iconst hC (D_X12_tellOne.g 70 rfl) ?_
      refine jr_cVv hC cl_X12_282 ⟨rfl, by decide⟩ (D_X12_tellOne.g 71 rfl) [q_i 4] h (fun r M' e => c_X12_must e) rfl rfl ⟨by decide, by decide⟩ (Nat.le_of_ble_eq_true rfl) ⟨Nat.le_of_ble_eq_true rfl, Nat.le_of_ble_eq_true rfl⟩ (fun _ M50 h => ?_)
      refine jr_aload_n hC (D_X12_tellOne.g 72 rfl) 1 rfl ?_
      refine jr_getR hC fl_X12_46 rfl (D_X12_tellOne.g 73 rfl) h (fun r51 h => ?_)
      refine jr_aload_n hC (D_X12_tellOne.g 74 rfl) 1 rfl ?_
      refine jr_getI hC fl_X12_248 rfl (D_X12_tellOne.g 75 rfl) h (fun v52 h => ?_)
      refine jr_dup2 hC (D_X12_tellOne.g 76 rfl) rfl rfl ?_
      refine jr_iald hC (D_X12_tellOne.g 77 rfl) h (fun v53 h => ?_)
      refine jr_iconst hC (D_X12_tellOne.g 78 rfl) ?_
      refine jr_iadd hC (D_X12_tellOne.g 79 rfl) ?_
      refine jr_iast hC (D_X12_tellOne.g 80 rfl) h (fun M54 _ h => ?_)
      refine jr_goto hC (D_X12_tellOne.g 81 rfl) 362 rfl ?_
      exact jr_vret hC (D_X12_tellOne.g 186 rfl) hr hE h
    exact jr_vret hC (D_X12_tellOne.g 41 rfl) hr hE h
  replace h := jif_f h c_1
  by_cases c_2 : jd_wr v3 = 22
  · have h := jif_t h c_2
    refine jr_tswIn hC (D_X12_tellOne.g 5 rfl) 2 c_2 (by decide) rfl 182 rfl ?_
    refine jr_aload_n hC (D_X12_tellOne.g 82 rfl) 0 rfl ?_
    refine jr_aload_n hC (D_X12_tellOne.g 83 rfl) 0 rfl ?_
    refine jr_getR hC fl_X12_55 rfl (D_X12_tellOne.g 84 rfl) h (fun r55 h => ?_)
    refine jr_aload_n hC (D_X12_tellOne.g 85 rfl) 0 rfl ?_
    refine jr_getI hC fl_X12_248 rfl (D_X12_tellOne.g 86 rfl) h (fun v56 h => ?_)
    refine jr_iald hC (D_X12_tellOne.g 87 rfl) h (fun v57 h => ?_)
    refine jr_bipush hC (D_X12_tellOne.g 88 rfl) bp_18 ?_
    refine jr_cVv hC cl_X12_285 ⟨rfl, by decide⟩ (D_X12_tellOne.g 89 rfl) [q_i v57, q_i 18] h (fun r M' e => c_X12_roomFor e) rfl rfl ⟨by decide, by decide⟩ (Nat.le_of_ble_eq_true rfl) ⟨Nat.le_of_ble_eq_true rfl, Nat.le_of_ble_eq_true rfl⟩ (fun _ M59 h => ?_)
    refine jr_aload_n hC (D_X12_tellOne.g 90 rfl) 0 rfl ?_
    refine jr_getI hC fl_X12_215 rfl (D_X12_tellOne.g 91 rfl) h (fun v60 h => ?_)
    refine jr_if_le hC (D_X12_tellOne.g 92 rfl) 205 rfl h (fun h => ?_) (fun h => ?_)
    · refine jr_bipush hC (D_X12_tellOne.g 94 rfl) bp_18 ?_
      refine jr_aload_n hC (D_X12_tellOne.g 95 rfl) 0 rfl ?_
      refine jr_getI hC fl_X12_248 rfl (D_X12_tellOne.g 96 rfl) h (fun v61 h => ?_)
      refine jr_imul hC (D_X12_tellOne.g 97 rfl) ?_
      refine jr_aload_n hC (D_X12_tellOne.g 98 rfl) 0 rfl ?_
      refine jr_getR hC fl_X12_55 rfl (D_X12_tellOne.g 99 rfl) h (fun r62 h => ?_)
      refine jr_aload_n hC (D_X12_tellOne.g 100 rfl) 0 rfl ?_
      refine jr_getI hC fl_X12_248 rfl (D_X12_tellOne.g 101 rfl) h (fun v63 h => ?_)
      refine jr_iald hC (D_X12_tellOne.g 102 rfl) h (fun v64 h => ?_)
      refine jr_iadd hC (D_X12_tellOne.g 103 rfl) ?_
      refine jr_istore_n hC (D_X12_tellOne.g 104 rfl) (by decide) rfl ?_
      refine jr_aload_n hC (D_X12_tellOne.g 105 rfl) 1 rfl ?_
      refine jr_getR hC fl_X12_58 rfl (D_X12_tellOne.g 106 rfl) h (fun r65 h => ?_)
      refine jr_iload_n hC (D_X12_tellOne.g 107 rfl) 0 rfl ?_
      refine jr_aload_n hC (D_X12_tellOne.g 108 rfl) 1 rfl ?_
      refine jr_iconst hC (D_X12_tellOne.g 109 rfl) ?_
      refine jr_iconst hC (D_X12_tellOne.g 110 rfl) ?_
      refine jr_cVi hC cl_X12_278 ⟨rfl, by decide⟩ (D_X12_tellOne.g 111 rfl) [q_i 0, q_i 5] h (fun r M' e => c_X12_bounded e) rfl rfl ⟨by decide, by decide⟩ (Nat.le_of_ble_eq_true rfl) ⟨Nat.le_of_ble_eq_true rfl, Nat.le_of_ble_eq_true rfl⟩ (fun v66 M67 h => ?_)
      refine jr_iast hC (D_X12_tellOne.g 112 rfl) h (fun M68 _ h => ?_)
      refine jr_aload_n hC (D_X12_tellOne.g 113 rfl) 1 rfl ?_
      refine jr_getR hC fl_X12_61 rfl (D_X12_tellOne.g 114 rfl) h (fun r69 h => ?_)
      refine jr_iload_n hC (D_X12_tellOne.g 115 rfl) 0 rfl ?_
      refine jr_aload_n hC (D_X12_tellOne.g 116 rfl) 1 rfl ?_
      refine jr_iconst hC (D_X12_tellOne.g 117 rfl) ?_
      refine jr_iconst hC (D_X12_tellOne.g 118 rfl) ?_
      refine jr_cVi hC cl_X12_278 ⟨rfl, by decide⟩ (D_X12_tellOne.g 119 rfl) [q_i 0, q_i 5] h (fun r M' e => c_X12_bounded e) rfl rfl ⟨by decide, by decide⟩ (Nat.le_of_ble_eq_true rfl) ⟨Nat.le_of_ble_eq_true rfl, Nat.le_of_ble_eq_true rfl⟩ (fun v70 M71 h => ?_)
      refine jr_iast hC (D_X12_tellOne.g 120 rfl) h (fun M72 _ h => ?_)
      refine jr_aload_n hC (D_X12_tellOne.g 121 rfl) 1 rfl ?_
      refine jr_getR hC fl_X12_64 rfl (D_X12_tellOne.g 122 rfl) h (fun r73 h => ?_)
      refine jr_iload_n hC (D_X12_tellOne.g 123 rfl) 0 rfl ?_
      refine jr_aload_n hC (D_X12_tellOne.g 124 rfl) 1 rfl ?_
      refine jr_iconst hC (D_X12_tellOne.g 125 rfl) ?_
      refine jr_iconst hC (D_X12_tellOne.g 126 rfl) ?_
      refine jr_cVi hC cl_X12_278 ⟨rfl, by decide⟩ (D_X12_tellOne.g 127 rfl) [q_i 0, q_i 1] h (fun r M' e => c_X12_bounded e) rfl rfl ⟨by decide, by decide⟩ (Nat.le_of_ble_eq_true rfl) ⟨Nat.le_of_ble_eq_true rfl, Nat.le_of_ble_eq_true rfl⟩ (fun v74 M75 h => ?_)
      refine jr_iast hC (D_X12_tellOne.g 128 rfl) h (fun M76 _ h => ?_)
      refine jr_aload_n hC (D_X12_tellOne.g 129 rfl) 1 rfl ?_
      refine jr_iconst hC (D_X12_tellOne.g 130 rfl) ?_
      refine jr_cVv hC cl_X12_282 ⟨rfl, by decide⟩ (D_X12_tellOne.g 131 rfl) [q_i 4] h (fun r M' e => c_X12_must e) rfl rfl ⟨by decide, by decide⟩ (Nat.le_of_ble_eq_true rfl) ⟨Nat.le_of_ble_eq_true rfl, Nat.le_of_ble_eq_true rfl⟩ (fun _ M78 h => ?_)
      refine jr_aload_n hC (D_X12_tellOne.g 132 rfl) 1 rfl ?_
      refine jr_getR hC fl_X12_55 rfl (D_X12_tellOne.g 133 rfl) h (fun r79 h => ?_)
      refine jr_aload_n hC (D_X12_tellOne.g 134 rfl) 1 rfl ?_
      refine jr_getI hC fl_X12_248 rfl (D_X12_tellOne.g 135 rfl) h (fun v80 h => ?_)
      refine jr_dup2 hC (D_X12_tellOne.g 136 rfl) rfl rfl ?_
      refine jr_iald hC (D_X12_tellOne.g 137 rfl) h (fun v81 h => ?_)
      refine jr_iconst hC (D_X12_tellOne.g 138 rfl) ?_
      refine jr_iadd hC (D_X12_tellOne.g 139 rfl) ?_
      refine jr_iast hC (D_X12_tellOne.g 140 rfl) h (fun M82 _ h => ?_)
      refine jr_goto hC (D_X12_tellOne.g 141 rfl) 362 rfl ?_
      exact jr_vret hC (D_X12_tellOne.g 186 rfl) hr hE h
    exact jr_vret hC (D_X12_tellOne.g 93 rfl) hr hE h
  replace h := jif_f h c_2
  by_cases c_3 : jd_wr v3 = 23
  · have h := jif_t h c_3
    refine jr_tswIn hC (D_X12_tellOne.g 5 rfl) 3 c_3 (by decide) rfl 309 rfl ?_
    exact hj_309  h
  replace h := jif_f h c_3
  by_cases c_4 : jd_wr v3 = 24
  · have h := jif_t h c_4
    refine jr_tswIn hC (D_X12_tellOne.g 5 rfl) 4 c_4 (by decide) rfl 309 rfl ?_
    exact hj_309  h
  replace h := jif_f h c_4
  by_cases c_5 : jd_wr v3 = 25
  · have h := jif_t h c_5
    refine jr_tswIn hC (D_X12_tellOne.g 5 rfl) 5 c_5 (by decide) rfl 309 rfl ?_
    exact hj_309  h
  replace h := jif_f h c_5
  by_cases c_6 : jd_wr v3 = 26
  · have h := jif_t h c_6
    refine jr_tswIn hC (D_X12_tellOne.g 5 rfl) 6 c_6 (by decide) rfl 280 rfl ?_
    refine jr_aload_n hC (D_X12_tellOne.g 142 rfl) 0 rfl ?_
    refine jr_cVv hC cl_X12_236 ⟨rfl, by decide⟩ (D_X12_tellOne.g 143 rfl) [] h (fun r M' e => c_X12_goesOn e) rfl rfl ⟨by decide, by decide⟩ (Nat.le_of_ble_eq_true rfl) ⟨Nat.le_of_ble_eq_true rfl, Nat.le_of_ble_eq_true rfl⟩ (fun _ M84 h => ?_)
    refine jr_aload_n hC (D_X12_tellOne.g 144 rfl) 0 rfl ?_
    refine jr_getR hC fl_X12_67 rfl (D_X12_tellOne.g 145 rfl) h (fun r85 h => ?_)
    refine jr_aload_n hC (D_X12_tellOne.g 146 rfl) 0 rfl ?_
    refine jr_getI hC fl_X12_248 rfl (D_X12_tellOne.g 147 rfl) h (fun v86 h => ?_)
    refine jr_aload_n hC (D_X12_tellOne.g 148 rfl) 0 rfl ?_
    refine jr_iconst hC (D_X12_tellOne.g 149 rfl) ?_
    refine jr_sipush hC (D_X12_tellOne.g 150 rfl) sp_9999 ?_
    refine jr_cVi hC cl_X12_278 ⟨rfl, by decide⟩ (D_X12_tellOne.g 151 rfl) [q_i 0, q_i 9999] h (fun r M' e => c_X12_bounded e) rfl rfl ⟨by decide, by decide⟩ (Nat.le_of_ble_eq_true rfl) ⟨Nat.le_of_ble_eq_true rfl, Nat.le_of_ble_eq_true rfl⟩ (fun v87 M88 h => ?_)
    refine jr_iast hC (D_X12_tellOne.g 152 rfl) h (fun M89 _ h => ?_)
    refine jr_aload_n hC (D_X12_tellOne.g 153 rfl) 0 rfl ?_
    refine jr_iconst hC (D_X12_tellOne.g 154 rfl) ?_
    refine jr_cVv hC cl_X12_282 ⟨rfl, by decide⟩ (D_X12_tellOne.g 155 rfl) [q_i 4] h (fun r M' e => c_X12_must e) rfl rfl ⟨by decide, by decide⟩ (Nat.le_of_ble_eq_true rfl) ⟨Nat.le_of_ble_eq_true rfl, Nat.le_of_ble_eq_true rfl⟩ (fun _ M91 h => ?_)
    refine jr_goto hC (D_X12_tellOne.g 156 rfl) 362 rfl ?_
    exact jr_vret hC (D_X12_tellOne.g 186 rfl) hr hE h
  replace h := jif_f h c_6
  refine jr_tswOut hC (D_X12_tellOne.g 5 rfl) (by omega) 309 rfl ?_
  exact hj_309  h
