/-! ===== 13.X7a: by program ===== -/
def f_X7_addFour (th : Nat) (x1 : Int) (M : jMem) : Option (Int × jMem) :=
jlp2 (fun rec_3 (y2_3 : Int) (M_3 : jMem) =>
if jd_wr y2_3 < 0 then (some (0, M_3))
else ((jm_gI 7 1 M_3 th).bind fun v1 =>
if jd_wr v1 < jd_wr 2000 then ((jm_gR 7 0 M_3 th).bind fun r2 =>
(jm_gI 7 1 M_3 th).bind fun v3 =>
(jm_st 21 M_3 r2 v3 (jd_b (jd_b (jd_ushr x1 y2_3)))).bind fun M4 =>
(jm_gI 7 1 M4 th).bind fun v5 =>
(jm_pI 7 1 M4 th (v5 + 1)).bind fun M6 =>
rec_3 (y2_3 + (-8)) M6)
else (some (0, M_3)))) jfuel 24 M
theorem D_X7_addFour : jDs cX7_addFour [(0, .bipush 24, 2, 2), (2, .istore_n 2, 1, 3), (3, .iload_n 2, 1, 4), (4, .ifCond .lt 42, 3, 7), (7, .aload_n 0, 1, 8), (8, .getfield 15, 3, 11), (11, .sipush 2000, 3, 14), (14, .if_icmp .ge 32, 3, 17), (17, .aload_n 0, 1, 18), (18, .getfield 9, 3, 21), (21, .aload_n 0, 1, 22), (22, .getfield 15, 3, 25), (25, .iload_n 1, 1, 26), (26, .iload_n 2, 1, 27), (27, .iushr, 1, 28), (28, .i2b, 1, 29), (29, .bastore, 1, 30), (30, .aload_n 0, 1, 31), (31, .dup, 1, 32), (32, .getfield 15, 3, 35), (35, .iconst 1, 1, 36), (36, .iadd, 1, 37), (37, .putfield 15, 3, 40), (40, .iinc 2 (-8), 3, 43), (43, .goto (-40), 3, 46), (46, .return_, 1, 47)] := by unfold jDs; decide +kernel
set_option maxRecDepth 100000 in
set_option maxHeartbeats 4000000 in
theorem c_X7_addFour {E : jE} {th : Nat} {x1 : Int} {M : jMem} {r : Int} {M' : jMem} (h : f_X7_addFour th x1 M = some (r, M')) : jMet E yX7_addFour cX7_addFour 3 (none) 2 0 0 [q_r E th, q_i x1] M (none) M' := by
  unfold f_X7_addFour at h
  refine jMet.of RX7 rfl (by decide +kernel) (Nat.le_of_ble_eq_true rfl) [(0, q_r E th), (1, q_i x1)] rfl (fun X hC hE hr hn => ?_)
  refine jr_bipush hC (D_X7_addFour.g 0 rfl) bp_24 ?_
  refine jr_istore_n hC (D_X7_addFour.g 1 rfl) (by decide) rfl ?_
  refine jr_pick [1, 2, 0] rfl ?_
  refine jr_lp2 (fun (y2_3 : Int) (M_3 : jMem) => JW E X 3 0 0 M_3 3 [(0, q_r E th), (1, q_i x1), (2, q_i y2_3)] []) ?_ jfuel 24 M h
  intro rec_3 hrec_3 y2_3 M_3 h
  refine jr_iload_n hC (D_X7_addFour.g 2 rfl) 2 rfl ?_
  refine jr_if_lt hC (D_X7_addFour.g 3 rfl) 46 rfl h (fun h => ?_) (fun h => ?_)
  · exact jr_vret hC (D_X7_addFour.g 25 rfl) hr hE h
  refine jr_aload_n hC (D_X7_addFour.g 4 rfl) 0 rfl ?_
  refine jr_getI hC fl_X7_15 rfl (D_X7_addFour.g 5 rfl) h (fun v1 h => ?_)
  refine jr_sipush hC (D_X7_addFour.g 6 rfl) sp_2000 ?_
  refine jr_icmp_ge hC (D_X7_addFour.g 7 rfl) 46 rfl h (fun h => ?_) (fun h => ?_)
  · refine jr_aload_n hC (D_X7_addFour.g 8 rfl) 0 rfl ?_
    refine jr_getR hC fl_X7_9 rfl (D_X7_addFour.g 9 rfl) h (fun r2 h => ?_)
    refine jr_aload_n hC (D_X7_addFour.g 10 rfl) 0 rfl ?_
    refine jr_getI hC fl_X7_15 rfl (D_X7_addFour.g 11 rfl) h (fun v3 h => ?_)
    refine jr_iload_n hC (D_X7_addFour.g 12 rfl) 1 rfl ?_
    refine jr_iload_n hC (D_X7_addFour.g 13 rfl) 2 rfl ?_
    refine jr_iushr hC (D_X7_addFour.g 14 rfl) ?_
    refine jr_i2b hC (D_X7_addFour.g 15 rfl) ?_
    refine jr_bast hC (D_X7_addFour.g 16 rfl) h (fun M4 _ h => ?_)
    refine jr_aload_n hC (D_X7_addFour.g 17 rfl) 0 rfl ?_
    refine jr_dup hC (D_X7_addFour.g 18 rfl) rfl ?_
    refine jr_getI hC fl_X7_15 rfl (D_X7_addFour.g 19 rfl) h (fun v5 h => ?_)
    refine jr_iconst hC (D_X7_addFour.g 20 rfl) ?_
    refine jr_iadd hC (D_X7_addFour.g 21 rfl) ?_
    refine jr_putI hC fl_X7_15 rfl (jnfin rfl) (D_X7_addFour.g 22 rfl) h (fun M6 _ h => ?_)
    refine jr_iinc hC (D_X7_addFour.g 23 rfl) 2 rfl (by decide) rfl ?_
    refine jr_goto hC (D_X7_addFour.g 24 rfl) 3 rfl ?_
    refine jr_pick [1, 2, 0] rfl ?_
    exact hrec_3 (y2_3 + (-8)) M6 h
  exact jr_vret hC (D_X7_addFour.g 25 rfl) hr hE h
def f_X7_at (th : Nat) (x1 : Int) (M : jMem) : Option (Int × jMem) :=
jjq (some ((-1), M)) fun j_25 =>
if jd_wr x1 < 0 then (j_25 )
else ((jm_gI 7 1 M th).bind fun v1 =>
if jd_wr x1 < jd_wr v1 then ((jm_gR 7 0 M th).bind fun r2 =>
(jm_ld 21 M r2 x1).bind fun v3 =>
some ((jd_and v3 255), M))
else (j_25 ))
theorem D_X7_at : jDs cX7_at [(0, .iload_n 1, 1, 1), (1, .ifCond .lt 24, 3, 4), (4, .iload_n 1, 1, 5), (5, .aload_n 0, 1, 6), (6, .getfield 15, 3, 9), (9, .if_icmp .ge 16, 3, 12), (12, .aload_n 0, 1, 13), (13, .getfield 9, 3, 16), (16, .iload_n 1, 1, 17), (17, .baload, 1, 18), (18, .sipush 255, 3, 21), (21, .iand, 1, 22), (22, .goto 4, 3, 25), (25, .iconst (-1), 1, 26), (26, .ireturn, 1, 27)] := by unfold jDs; decide +kernel
set_option maxRecDepth 100000 in
set_option maxHeartbeats 4000000 in
theorem c_X7_at {E : jE} {th : Nat} {x1 : Int} {M : jMem} {r : Int} {M' : jMem} (h : f_X7_at th x1 M = some (r, M')) : jMet E yX7_at cX7_at 2 (some .int) 2 0 0 [q_r E th, q_i x1] M (some (q_i r)) M' := by
  unfold f_X7_at at h
  refine jMet.of RX7 rfl (by decide +kernel) (Nat.le_of_ble_eq_true rfl) [(0, q_r E th), (1, q_i x1)] rfl (fun X hC hE hr hn => ?_)
  refine jr_iload_n hC (D_X7_at.g 0 rfl) 1 rfl ?_
  refine jr_join h (fun j => j = some (r, M') → JW E X 2 0 0 M 25 [] []) ?_ ?_
  · intro  h
    refine jr_iconst hC (D_X7_at.g 13 rfl) ?_
    exact jr_iret hC (D_X7_at.g 14 rfl) hr hE h
  intro j_25 hj_25 h
  refine jr_if_lt hC (D_X7_at.g 1 rfl) 25 rfl h (fun h => ?_) (fun h => ?_)
  · refine jr_pick [] rfl ?_
    exact hj_25  h
  refine jr_iload_n hC (D_X7_at.g 2 rfl) 1 rfl ?_
  refine jr_aload_n hC (D_X7_at.g 3 rfl) 0 rfl ?_
  refine jr_getI hC fl_X7_15 rfl (D_X7_at.g 4 rfl) h (fun v1 h => ?_)
  refine jr_icmp_ge hC (D_X7_at.g 5 rfl) 25 rfl h (fun h => ?_) (fun h => ?_)
  · refine jr_aload_n hC (D_X7_at.g 6 rfl) 0 rfl ?_
    refine jr_getR hC fl_X7_9 rfl (D_X7_at.g 7 rfl) h (fun r2 h => ?_)
    refine jr_iload_n hC (D_X7_at.g 8 rfl) 1 rfl ?_
    refine jr_bald hC (D_X7_at.g 9 rfl) h (fun v3 h => ?_)
    refine jr_sipush hC (D_X7_at.g 10 rfl) sp_255 ?_
    refine jr_iand hC (D_X7_at.g 11 rfl) ?_
    refine jr_goto hC (D_X7_at.g 12 rfl) 26 rfl ?_
    exact jr_iret hC (D_X7_at.g 14 rfl) hr hE h
  refine jr_pick [] rfl ?_
  exact hj_25  h
