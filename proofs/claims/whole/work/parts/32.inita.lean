def f_X7_init (th : Nat) (M : jMem) : Option (Int × jMem) :=
jnw M 21 2000 fun q1 M2 =>
(jm_pR 7 0 M2 th q1).bind fun M3 =>
(jm_pI 7 1 M3 th 0).bind fun M4 =>
some (0, M4)
theorem D_X7_init : jDs cX7_init [(0, .aload_n 0, 1, 1), (1, .invokespecial 3, 3, 4), (4, .aload_n 0, 1, 5), (5, .sipush 2000, 3, 8), (8, .newarray .byte, 2, 10), (10, .putfield 9, 3, 13), (13, .aload_n 0, 1, 14), (14, .iconst 0, 1, 15), (15, .putfield 15, 3, 18), (18, .return_, 1, 19)] := by unfold jDs; decide +kernel
set_option maxRecDepth 100000 in
set_option maxHeartbeats 4000000 in
theorem c_X7_init {E : jE} {th : Nat} {M : jMem} {r : Int} {M' : jMem} (h : f_X7_init th M = some (r, M')) : jMet E yX7_init cX7_init 1 (none) 2 1 2000 [q_r E th] M (none) M' := by
  unfold f_X7_init at h
  refine jMet.of RX7 rfl (by decide +kernel) (Nat.le_of_ble_eq_true rfl) [(0, q_r E th)] rfl (fun X hC hE hr hn => ?_)
  refine jr_aload_n hC (D_X7_init.g 0 rfl) 0 rfl ?_
  refine jr_objInit hC (jt_all [159, 152, 153] (by decide +kernel) (by decide +kernel)) (D_X7_init.g 1 rfl) (by decide) (Nat.le_of_ble_eq_true rfl) ?_
  refine jr_aload_n hC (D_X7_init.g 2 rfl) 0 rfl ?_
  refine jr_sipush hC (D_X7_init.g 3 rfl) sp_2000 ?_
  refine jr_newa hC 21 1 2000 rfl (by decide) rfl (by decide +kernel) (by decide +kernel) (jt_in (i := 170) (by decide +kernel) rfl) (D_X7_init.g 4 rfl) ⟨Nat.le_of_ble_eq_true rfl, Nat.le_of_ble_eq_true rfl⟩ 1 2000 rfl rfl h (fun q1 M2 h => ?_)
  refine jr_putR hC fl_X7_9 rfl (jyfin rfl hn) (D_X7_init.g 5 rfl) h (fun M3 _ h => ?_)
  refine jr_aload_n hC (D_X7_init.g 6 rfl) 0 rfl ?_
  refine jr_iconst hC (D_X7_init.g 7 rfl) ?_
  refine jr_putI hC fl_X7_15 rfl (jnfin rfl) (D_X7_init.g 8 rfl) h (fun M4 _ h => ?_)
  exact jr_vret hC (D_X7_init.g 9 rfl) hr hE h
def f_X10_init (th : Nat) (M : jMem) : Option (Int × jMem) :=
jnw M 20 20 fun q1 M2 =>
(jm_pR 10 0 M2 th q1).bind fun M3 =>
jnw M3 22 20 fun q4 M5 =>
(jm_pR 10 1 M5 th q4).bind fun M6 =>
some (0, M6)
theorem D_X10_init : jDs cX10_init [(0, .aload_n 0, 1, 1), (1, .invokespecial 3, 3, 4), (4, .aload_n 0, 1, 5), (5, .bipush 20, 2, 7), (7, .newarray .int, 2, 9), (9, .putfield 9, 3, 12), (12, .aload_n 0, 1, 13), (13, .bipush 20, 2, 15), (15, .newarray .boolean, 2, 17), (17, .putfield 15, 3, 20), (20, .return_, 1, 21)] := by unfold jDs; decide +kernel
set_option maxRecDepth 100000 in
set_option maxHeartbeats 4000000 in
theorem c_X10_init {E : jE} {th : Nat} {M : jMem} {r : Int} {M' : jMem} (h : f_X10_init th M = some (r, M')) : jMet E yX10_init cX10_init 1 (none) 2 2 40 [q_r E th] M (none) M' := by
  unfold f_X10_init at h
  refine jMet.of RX10 rfl (by decide +kernel) (Nat.le_of_ble_eq_true rfl) [(0, q_r E th)] rfl (fun X hC hE hr hn => ?_)
  refine jr_aload_n hC (D_X10_init.g 0 rfl) 0 rfl ?_
  refine jr_objInit hC (jt_all [428, 152, 153] (by decide +kernel) (by decide +kernel)) (D_X10_init.g 1 rfl) (by decide) (Nat.le_of_ble_eq_true rfl) ?_
  refine jr_aload_n hC (D_X10_init.g 2 rfl) 0 rfl ?_
  refine jr_bipush hC (D_X10_init.g 3 rfl) bp_20 ?_
  refine jr_newa hC 20 0 20 rfl (by decide) rfl (by decide +kernel) (by decide +kernel) (jt_in (i := 199) (by decide +kernel) rfl) (D_X10_init.g 4 rfl) ⟨Nat.le_of_ble_eq_true rfl, Nat.le_of_ble_eq_true rfl⟩ 1 20 rfl rfl h (fun q1 M2 h => ?_)
  refine jr_putR hC fl_X10_9 rfl (jyfin rfl hn) (D_X10_init.g 5 rfl) h (fun M3 _ h => ?_)
  refine jr_aload_n hC (D_X10_init.g 6 rfl) 0 rfl ?_
  refine jr_bipush hC (D_X10_init.g 7 rfl) bp_20 ?_
  refine jr_newa hC 22 2 20 rfl (by decide) rfl (by decide +kernel) (by decide +kernel) (jt_in (i := 200) (by decide +kernel) rfl) (D_X10_init.g 8 rfl) ⟨Nat.le_of_ble_eq_true rfl, Nat.le_of_ble_eq_true rfl⟩ 2 40 rfl rfl h (fun q4 M5 h => ?_)
  refine jr_putR hC fl_X10_15 rfl (jyfin rfl hn) (D_X10_init.g 9 rfl) h (fun M6 _ h => ?_)
  exact jr_vret hC (D_X10_init.g 10 rfl) hr hE h
def f_X6_init (th : Nat) (M : jMem) : Option (Int × jMem) :=
jnw M 20 18 fun q1 M2 =>
(jm_pR 6 0 M2 th q1).bind fun M3 =>
jnw M3 22 18 fun q4 M5 =>
(jm_pR 6 1 M5 th q4).bind fun M6 =>
jnw M6 20 18 fun q7 M8 =>
(jm_pR 6 2 M8 th q7).bind fun M9 =>
jnw M9 20 18 fun q10 M11 =>
(jm_pR 6 3 M11 th q10).bind fun M12 =>
jnw M12 20 36 fun q13 M14 =>
(jm_pR 6 4 M14 th q13).bind fun M15 =>
jcall 6 M15 th (f_X6_clear th 4 M15) fun _ M17 =>
some (0, M17)
theorem D_X6_init : jDs cX6_init [(0, .aload_n 0, 1, 1), (1, .invokespecial 3, 3, 4), (4, .aload_n 0, 1, 5), (5, .bipush 18, 2, 7), (7, .newarray .int, 2, 9), (9, .putfield 9, 3, 12), (12, .aload_n 0, 1, 13), (13, .bipush 18, 2, 15), (15, .newarray .boolean, 2, 17), (17, .putfield 15, 3, 20), (20, .aload_n 0, 1, 21), (21, .bipush 18, 2, 23), (23, .newarray .int, 2, 25), (25, .putfield 19, 3, 28), (28, .aload_n 0, 1, 29), (29, .bipush 18, 2, 31), (31, .newarray .int, 2, 33), (33, .putfield 22, 3, 36), (36, .aload_n 0, 1, 37), (37, .bipush 36, 2, 39), (39, .newarray .int, 2, 41), (41, .putfield 25, 3, 44), (44, .aload_n 0, 1, 45), (45, .iconst 4, 1, 46), (46, .invokevirtual 28, 3, 49), (49, .return_, 1, 50)] := by unfold jDs; decide +kernel
set_option maxRecDepth 100000 in
set_option maxHeartbeats 4000000 in
theorem c_X6_init {E : jE} {th : Nat} {M : jMem} {r : Int} {M' : jMem} (h : f_X6_init th M = some (r, M')) : jMet E yX6_init cX6_init 1 (none) 5 5 108 [q_r E th] M (none) M' := by
  unfold f_X6_init at h
  refine jMet.of RX6 rfl (by decide +kernel) (Nat.le_of_ble_eq_true rfl) [(0, q_r E th)] rfl (fun X hC hE hr hn => ?_)
  refine jr_aload_n hC (D_X6_init.g 0 rfl) 0 rfl ?_
  refine jr_objInit hC (jt_all [338, 152, 153] (by decide +kernel) (by decide +kernel)) (D_X6_init.g 1 rfl) (by decide) (Nat.le_of_ble_eq_true rfl) ?_
  refine jr_aload_n hC (D_X6_init.g 2 rfl) 0 rfl ?_
  refine jr_bipush hC (D_X6_init.g 3 rfl) bp_18 ?_
  refine jr_newa hC 20 0 18 rfl (by decide) rfl (by decide +kernel) (by decide +kernel) (jt_in (i := 199) (by decide +kernel) rfl) (D_X6_init.g 4 rfl) ⟨Nat.le_of_ble_eq_true rfl, Nat.le_of_ble_eq_true rfl⟩ 1 18 rfl rfl h (fun q1 M2 h => ?_)
  refine jr_putR hC fl_X6_9 rfl (jyfin rfl hn) (D_X6_init.g 5 rfl) h (fun M3 _ h => ?_)
  refine jr_aload_n hC (D_X6_init.g 6 rfl) 0 rfl ?_
  refine jr_bipush hC (D_X6_init.g 7 rfl) bp_18 ?_
  refine jr_newa hC 22 2 18 rfl (by decide) rfl (by decide +kernel) (by decide +kernel) (jt_in (i := 200) (by decide +kernel) rfl) (D_X6_init.g 8 rfl) ⟨Nat.le_of_ble_eq_true rfl, Nat.le_of_ble_eq_true rfl⟩ 2 36 rfl rfl h (fun q4 M5 h => ?_)
  refine jr_putR hC fl_X6_15 rfl (jyfin rfl hn) (D_X6_init.g 9 rfl) h (fun M6 _ h => ?_)
  refine jr_aload_n hC (D_X6_init.g 10 rfl) 0 rfl ?_
  refine jr_bipush hC (D_X6_init.g 11 rfl) bp_18 ?_
  refine jr_newa hC 20 0 18 rfl (by decide) rfl (by decide +kernel) (by decide +kernel) (jt_in (i := 199) (by decide +kernel) rfl) (D_X6_init.g 12 rfl) ⟨Nat.le_of_ble_eq_true rfl, Nat.le_of_ble_eq_true rfl⟩ 3 54 rfl rfl h (fun q7 M8 h => ?_)
  refine jr_putR hC fl_X6_19 rfl (jyfin rfl hn) (D_X6_init.g 13 rfl) h (fun M9 _ h => ?_)
  refine jr_aload_n hC (D_X6_init.g 14 rfl) 0 rfl ?_
  refine jr_bipush hC (D_X6_init.g 15 rfl) bp_18 ?_
  refine jr_newa hC 20 0 18 rfl (by decide) rfl (by decide +kernel) (by decide +kernel) (jt_in (i := 199) (by decide +kernel) rfl) (D_X6_init.g 16 rfl) ⟨Nat.le_of_ble_eq_true rfl, Nat.le_of_ble_eq_true rfl⟩ 4 72 rfl rfl h (fun q10 M11 h => ?_)
  refine jr_putR hC fl_X6_22 rfl (jyfin rfl hn) (D_X6_init.g 17 rfl) h (fun M12 _ h => ?_)
  refine jr_aload_n hC (D_X6_init.g 18 rfl) 0 rfl ?_
  refine jr_bipush hC (D_X6_init.g 19 rfl) bp_36 ?_
  refine jr_newa hC 20 0 36 rfl (by decide) rfl (by decide +kernel) (by decide +kernel) (jt_in (i := 199) (by decide +kernel) rfl) (D_X6_init.g 20 rfl) ⟨Nat.le_of_ble_eq_true rfl, Nat.le_of_ble_eq_true rfl⟩ 5 108 rfl rfl h (fun q13 M14 h => ?_)
  refine jr_putR hC fl_X6_25 rfl (jyfin rfl hn) (D_X6_init.g 21 rfl) h (fun M15 _ h => ?_)
  refine jr_aload_n hC (D_X6_init.g 22 rfl) 0 rfl ?_
  refine jr_iconst hC (D_X6_init.g 23 rfl) ?_
  refine jr_cVv hC cl_X6_28 ⟨rfl, by decide⟩ (D_X6_init.g 24 rfl) [q_i 4] h (fun r M' e => c_X6_clear e) rfl rfl ⟨by decide, by decide⟩ (Nat.le_of_ble_eq_true rfl) ⟨Nat.le_of_ble_eq_true rfl, Nat.le_of_ble_eq_true rfl⟩ (fun _ M17 h => ?_)
  exact jr_vret hC (D_X6_init.g 25 rfl) hr hE h
def f_X2_init (th : Nat) (M : jMem) : Option (Int × jMem) :=
jnw M 20 404 fun q1 M2 =>
(jm_pR 2 0 M2 th q1).bind fun M3 =>
jnw M3 20 404 fun q4 M5 =>
(jm_pR 2 1 M5 th q4).bind fun M6 =>
jnw M6 20 3 fun q7 M8 =>
(jm_pR 2 2 M8 th q7).bind fun M9 =>
jnw M9 20 32 fun q10 M11 =>
(jm_pR 2 3 M11 th q10).bind fun M12 =>
some (0, M12)
theorem D_X2_init : jDs cX2_init [(0, .aload_n 0, 1, 1), (1, .invokespecial 3, 3, 4), (4, .aload_n 0, 1, 5), (5, .sipush 404, 3, 8), (8, .newarray .int, 2, 10), (10, .putfield 11, 3, 13), (13, .aload_n 0, 1, 14), (14, .sipush 404, 3, 17), (17, .newarray .int, 2, 19), (19, .putfield 15, 3, 22), (22, .aload_n 0, 1, 23), (23, .iconst 3, 1, 24), (24, .newarray .int, 2, 26), (26, .putfield 18, 3, 29), (29, .aload_n 0, 1, 30), (30, .bipush 32, 2, 32), (32, .newarray .int, 2, 34), (34, .putfield 21, 3, 37), (37, .return_, 1, 38)] := by unfold jDs; decide +kernel
set_option maxRecDepth 100000 in
set_option maxHeartbeats 4000000 in
theorem c_X2_init {E : jE} {th : Nat} {M : jMem} {r : Int} {M' : jMem} (h : f_X2_init th M = some (r, M')) : jMet E yX2_init cX2_init 1 (none) 2 4 843 [q_r E th] M (none) M' := by
  unfold f_X2_init at h
  refine jMet.of RX2 rfl (by decide +kernel) (Nat.le_of_ble_eq_true rfl) [(0, q_r E th)] rfl (fun X hC hE hr hn => ?_)
  refine jr_aload_n hC (D_X2_init.g 0 rfl) 0 rfl ?_
  refine jr_objInit hC (jt_all [182, 152, 153] (by decide +kernel) (by decide +kernel)) (D_X2_init.g 1 rfl) (by decide) (Nat.le_of_ble_eq_true rfl) ?_
  refine jr_aload_n hC (D_X2_init.g 2 rfl) 0 rfl ?_
  refine jr_sipush hC (D_X2_init.g 3 rfl) sp_404 ?_
  refine jr_newa hC 20 0 404 rfl (by decide) rfl (by decide +kernel) (by decide +kernel) (jt_in (i := 199) (by decide +kernel) rfl) (D_X2_init.g 4 rfl) ⟨Nat.le_of_ble_eq_true rfl, Nat.le_of_ble_eq_true rfl⟩ 1 404 rfl rfl h (fun q1 M2 h => ?_)
  refine jr_putR hC fl_X2_11 rfl (jyfin rfl hn) (D_X2_init.g 5 rfl) h (fun M3 _ h => ?_)
  refine jr_aload_n hC (D_X2_init.g 6 rfl) 0 rfl ?_
  refine jr_sipush hC (D_X2_init.g 7 rfl) sp_404 ?_
  refine jr_newa hC 20 0 404 rfl (by decide) rfl (by decide +kernel) (by decide +kernel) (jt_in (i := 199) (by decide +kernel) rfl) (D_X2_init.g 8 rfl) ⟨Nat.le_of_ble_eq_true rfl, Nat.le_of_ble_eq_true rfl⟩ 2 808 rfl rfl h (fun q4 M5 h => ?_)
  refine jr_putR hC fl_X2_15 rfl (jyfin rfl hn) (D_X2_init.g 9 rfl) h (fun M6 _ h => ?_)
  refine jr_aload_n hC (D_X2_init.g 10 rfl) 0 rfl ?_
  refine jr_iconst hC (D_X2_init.g 11 rfl) ?_
  refine jr_newa hC 20 0 3 rfl (by decide) rfl (by decide +kernel) (by decide +kernel) (jt_in (i := 199) (by decide +kernel) rfl) (D_X2_init.g 12 rfl) ⟨Nat.le_of_ble_eq_true rfl, Nat.le_of_ble_eq_true rfl⟩ 3 811 rfl rfl h (fun q7 M8 h => ?_)
  refine jr_putR hC fl_X2_18 rfl (jyfin rfl hn) (D_X2_init.g 13 rfl) h (fun M9 _ h => ?_)
  refine jr_aload_n hC (D_X2_init.g 14 rfl) 0 rfl ?_
  refine jr_bipush hC (D_X2_init.g 15 rfl) bp_32 ?_
  refine jr_newa hC 20 0 32 rfl (by decide) rfl (by decide +kernel) (by decide +kernel) (jt_in (i := 199) (by decide +kernel) rfl) (D_X2_init.g 16 rfl) ⟨Nat.le_of_ble_eq_true rfl, Nat.le_of_ble_eq_true rfl⟩ 4 843 rfl rfl h (fun q10 M11 h => ?_)
  refine jr_putR hC fl_X2_21 rfl (jyfin rfl hn) (D_X2_init.g 17 rfl) h (fun M12 _ h => ?_)
  exact jr_vret hC (D_X2_init.g 18 rfl) hr hE h
def f_X8_init (th : Nat) (M : jMem) : Option (Int × jMem) :=
jnw M 20 12 fun q1 M2 =>
(jm_pR 8 5 M2 th q1).bind fun M3 =>
jnw M3 20 12 fun q4 M5 =>
(jm_pR 8 6 M5 th q4).bind fun M6 =>
jnw M6 20 18 fun q7 M8 =>
(jm_pR 8 7 M8 th q7).bind fun M9 =>
jnw M9 20 18 fun q10 M11 =>
(jm_pR 8 8 M11 th q10).bind fun M12 =>
jnw M12 20 18 fun q13 M14 =>
(jm_pR 8 9 M14 th q13).bind fun M15 =>
jnw M15 22 36 fun q16 M17 =>
(jm_pR 8 10 M17 th q16).bind fun M18 =>
jnw M18 22 36 fun q19 M20 =>
(jm_pR 8 11 M20 th q19).bind fun M21 =>
jnw M21 2 0 fun q22 M23 =>
jbd (f_X2_init q22 M23) fun _ M25 =>
(jm_pR 8 12 M25 th q22).bind fun M26 =>
jcall 8 M26 th (f_X8_clear th M26) fun _ M28 =>
some (0, M28)
theorem D_X8_init : jDs cX8_init [(0, .aload_n 0, 1, 1), (1, .invokespecial 3, 3, 4), (4, .aload_n 0, 1, 5), (5, .bipush 12, 2, 7), (7, .newarray .int, 2, 9), (9, .putfield 9, 3, 12), (12, .aload_n 0, 1, 13), (13, .bipush 12, 2, 15), (15, .newarray .int, 2, 17), (17, .putfield 15, 3, 20), (20, .aload_n 0, 1, 21), (21, .bipush 18, 2, 23), (23, .newarray .int, 2, 25), (25, .putfield 18, 3, 28), (28, .aload_n 0, 1, 29), (29, .bipush 18, 2, 31), (31, .newarray .int, 2, 33), (33, .putfield 21, 3, 36), (36, .aload_n 0, 1, 37), (37, .bipush 18, 2, 39), (39, .newarray .int, 2, 41), (41, .putfield 24, 3, 44), (44, .aload_n 0, 1, 45), (45, .bipush 36, 2, 47), (47, .newarray .boolean, 2, 49), (49, .putfield 27, 3, 52), (52, .aload_n 0, 1, 53), (53, .bipush 36, 2, 55), (55, .newarray .boolean, 2, 57), (57, .putfield 31, 3, 60), (60, .aload_n 0, 1, 61), (61, .new 34, 3, 64), (64, .dup, 1, 65), (65, .invokespecial 36, 3, 68), (68, .putfield 37, 3, 71), (71, .aload_n 0, 1, 72), (72, .invokevirtual 41, 3, 75), (75, .return_, 1, 76)] := by unfold jDs; decide +kernel
set_option maxRecDepth 100000 in
set_option maxHeartbeats 4000000 in
theorem c_X8_init {E : jE} {th : Nat} {M : jMem} {r : Int} {M' : jMem} (h : f_X8_init th M = some (r, M')) : jMet E yX8_init cX8_init 1 (none) 5 12 998 [q_r E th] M (none) M' := by
  unfold f_X8_init at h
  refine jMet.of RX8 rfl (by decide +kernel) (Nat.le_of_ble_eq_true rfl) [(0, q_r E th)] rfl (fun X hC hE hr hn => ?_)
  refine jr_aload_n hC (D_X8_init.g 0 rfl) 0 rfl ?_
  refine jr_objInit hC (jt_all [176, 152, 153] (by decide +kernel) (by decide +kernel)) (D_X8_init.g 1 rfl) (by decide) (Nat.le_of_ble_eq_true rfl) ?_
  refine jr_aload_n hC (D_X8_init.g 2 rfl) 0 rfl ?_
  refine jr_bipush hC (D_X8_init.g 3 rfl) bp_12 ?_
  refine jr_newa hC 20 0 12 rfl (by decide) rfl (by decide +kernel) (by decide +kernel) (jt_in (i := 199) (by decide +kernel) rfl) (D_X8_init.g 4 rfl) ⟨Nat.le_of_ble_eq_true rfl, Nat.le_of_ble_eq_true rfl⟩ 1 12 rfl rfl h (fun q1 M2 h => ?_)
  refine jr_putR hC fl_X8_9 rfl (jyfin rfl hn) (D_X8_init.g 5 rfl) h (fun M3 _ h => ?_)
  refine jr_aload_n hC (D_X8_init.g 6 rfl) 0 rfl ?_
  refine jr_bipush hC (D_X8_init.g 7 rfl) bp_12 ?_
  refine jr_newa hC 20 0 12 rfl (by decide) rfl (by decide +kernel) (by decide +kernel) (jt_in (i := 199) (by decide +kernel) rfl) (D_X8_init.g 8 rfl) ⟨Nat.le_of_ble_eq_true rfl, Nat.le_of_ble_eq_true rfl⟩ 2 24 rfl rfl h (fun q4 M5 h => ?_)
  refine jr_putR hC fl_X8_15 rfl (jyfin rfl hn) (D_X8_init.g 9 rfl) h (fun M6 _ h => ?_)
  refine jr_aload_n hC (D_X8_init.g 10 rfl) 0 rfl ?_
  refine jr_bipush hC (D_X8_init.g 11 rfl) bp_18 ?_
  refine jr_newa hC 20 0 18 rfl (by decide) rfl (by decide +kernel) (by decide +kernel) (jt_in (i := 199) (by decide +kernel) rfl) (D_X8_init.g 12 rfl) ⟨Nat.le_of_ble_eq_true rfl, Nat.le_of_ble_eq_true rfl⟩ 3 42 rfl rfl h (fun q7 M8 h => ?_)
  refine jr_putR hC fl_X8_18 rfl (jyfin rfl hn) (D_X8_init.g 13 rfl) h (fun M9 _ h => ?_)
  refine jr_aload_n hC (D_X8_init.g 14 rfl) 0 rfl ?_
  refine jr_bipush hC (D_X8_init.g 15 rfl) bp_18 ?_
  refine jr_newa hC 20 0 18 rfl (by decide) rfl (by decide +kernel) (by decide +kernel) (jt_in (i := 199) (by decide +kernel) rfl) (D_X8_init.g 16 rfl) ⟨Nat.le_of_ble_eq_true rfl, Nat.le_of_ble_eq_true rfl⟩ 4 60 rfl rfl h (fun q10 M11 h => ?_)
  refine jr_putR hC fl_X8_21 rfl (jyfin rfl hn) (D_X8_init.g 17 rfl) h (fun M12 _ h => ?_)
  refine jr_aload_n hC (D_X8_init.g 18 rfl) 0 rfl ?_
  refine jr_bipush hC (D_X8_init.g 19 rfl) bp_18 ?_
  refine jr_newa hC 20 0 18 rfl (by decide) rfl (by decide +kernel) (by decide +kernel) (jt_in (i := 199) (by decide +kernel) rfl) (D_X8_init.g 20 rfl) ⟨Nat.le_of_ble_eq_true rfl, Nat.le_of_ble_eq_true rfl⟩ 5 78 rfl rfl h (fun q13 M14 h => ?_)
  refine jr_putR hC fl_X8_24 rfl (jyfin rfl hn) (D_X8_init.g 21 rfl) h (fun M15 _ h => ?_)
  refine jr_aload_n hC (D_X8_init.g 22 rfl) 0 rfl ?_
  refine jr_bipush hC (D_X8_init.g 23 rfl) bp_36 ?_
  refine jr_newa hC 22 2 36 rfl (by decide) rfl (by decide +kernel) (by decide +kernel) (jt_in (i := 200) (by decide +kernel) rfl) (D_X8_init.g 24 rfl) ⟨Nat.le_of_ble_eq_true rfl, Nat.le_of_ble_eq_true rfl⟩ 6 114 rfl rfl h (fun q16 M17 h => ?_)
  refine jr_putR hC fl_X8_27 rfl (jyfin rfl hn) (D_X8_init.g 25 rfl) h (fun M18 _ h => ?_)
  refine jr_aload_n hC (D_X8_init.g 26 rfl) 0 rfl ?_
  refine jr_bipush hC (D_X8_init.g 27 rfl) bp_36 ?_
  refine jr_newa hC 22 2 36 rfl (by decide) rfl (by decide +kernel) (by decide +kernel) (jt_in (i := 200) (by decide +kernel) rfl) (D_X8_init.g 28 rfl) ⟨Nat.le_of_ble_eq_true rfl, Nat.le_of_ble_eq_true rfl⟩ 7 150 rfl rfl h (fun q19 M20 h => ?_)
  refine jr_putR hC fl_X8_31 rfl (jyfin rfl hn) (D_X8_init.g 29 rfl) h (fun M21 _ h => ?_)
  refine jr_aload_n hC (D_X8_init.g 30 rfl) 0 rfl ?_
  refine jr_new hC jc2 (jt_all [177, 178, 127] (by decide +kernel) (by decide +kernel)) (D_X8_init.g 31 rfl) ⟨Nat.le_of_ble_eq_true rfl, Nat.le_of_ble_eq_true rfl⟩ 8 155 rfl rfl h (fun q22 M23 h => ?_)
  refine jr_dup hC (D_X8_init.g 32 rfl) rfl ?_
  refine jr_cN hC 4 843 cl_X8_36 (D_X8_init.g 33 rfl) [] h (fun r M' e => c_X2_init e) rfl rfl ⟨by decide, by decide⟩ (Nat.le_of_ble_eq_true rfl) ⟨Nat.le_of_ble_eq_true rfl, Nat.le_of_ble_eq_true rfl⟩ 12 998 rfl rfl (fun _ M25 h => ?_)
  refine jr_putR hC fl_X8_37 rfl (jyfin rfl hn) (D_X8_init.g 34 rfl) h (fun M26 _ h => ?_)
  refine jr_aload_n hC (D_X8_init.g 35 rfl) 0 rfl ?_
  refine jr_cVv hC cl_X8_41 ⟨rfl, by decide⟩ (D_X8_init.g 36 rfl) [] h (fun r M' e => c_X8_clear e) rfl rfl ⟨by decide, by decide⟩ (Nat.le_of_ble_eq_true rfl) ⟨Nat.le_of_ble_eq_true rfl, Nat.le_of_ble_eq_true rfl⟩ (fun _ M28 h => ?_)
  exact jr_vret hC (D_X8_init.g 37 rfl) hr hE h
def f_X9_init (th : Nat) (a1 : Nat) (M : jMem) : Option (Int × jMem) :=
(jm_pR 9 0 M th a1).bind fun M1 =>
jnw M1 20 401 fun q2 M3 =>
(jm_pR 9 1 M3 th q2).bind fun M4 =>
jnw M4 20 401 fun q5 M6 =>
(jm_pR 9 2 M6 th q5).bind fun M7 =>
jnw M7 20 401 fun q8 M9 =>
(jm_pR 9 3 M9 th q8).bind fun M10 =>
some (0, M10)
theorem D_X9_init : jDs cX9_init [(0, .aload_n 0, 1, 1), (1, .invokespecial 3, 3, 4), (4, .aload_n 0, 1, 5), (5, .aload_n 1, 1, 6), (6, .putfield 9, 3, 9), (9, .aload_n 0, 1, 10), (10, .sipush 401, 3, 13), (13, .newarray .int, 2, 15), (15, .putfield 15, 3, 18), (18, .aload_n 0, 1, 19), (19, .sipush 401, 3, 22), (22, .newarray .int, 2, 24), (24, .putfield 19, 3, 27), (27, .aload_n 0, 1, 28), (28, .sipush 401, 3, 31), (31, .newarray .int, 2, 33), (33, .putfield 22, 3, 36), (36, .return_, 1, 37)] := by unfold jDs; decide +kernel
set_option maxRecDepth 100000 in
set_option maxHeartbeats 4000000 in
theorem c_X9_init {E : jE} {th : Nat} {a1 : Nat} {M : jMem} {r : Int} {M' : jMem} (h : f_X9_init th a1 M = some (r, M')) : jMet E yX9_init cX9_init 2 (none) 2 3 1203 [q_r E th, q_r E a1] M (none) M' := by
  unfold f_X9_init at h
  refine jMet.of RX9 rfl (by decide +kernel) (Nat.le_of_ble_eq_true rfl) [(0, q_r E th), (1, q_r E a1)] rfl (fun X hC hE hr hn => ?_)
  refine jr_aload_n hC (D_X9_init.g 0 rfl) 0 rfl ?_
  refine jr_objInit hC (jt_all [287, 152, 153] (by decide +kernel) (by decide +kernel)) (D_X9_init.g 1 rfl) (by decide) (Nat.le_of_ble_eq_true rfl) ?_
  refine jr_aload_n hC (D_X9_init.g 2 rfl) 0 rfl ?_
  refine jr_aload_n hC (D_X9_init.g 3 rfl) 1 rfl ?_
  refine jr_putR hC fl_X9_9 rfl (jyfin rfl hn) (D_X9_init.g 4 rfl) h (fun M1 _ h => ?_)
  refine jr_aload_n hC (D_X9_init.g 5 rfl) 0 rfl ?_
  refine jr_sipush hC (D_X9_init.g 6 rfl) sp_401 ?_
  refine jr_newa hC 20 0 401 rfl (by decide) rfl (by decide +kernel) (by decide +kernel) (jt_in (i := 199) (by decide +kernel) rfl) (D_X9_init.g 7 rfl) ⟨Nat.le_of_ble_eq_true rfl, Nat.le_of_ble_eq_true rfl⟩ 1 401 rfl rfl h (fun q2 M3 h => ?_)
  refine jr_putR hC fl_X9_15 rfl (jyfin rfl hn) (D_X9_init.g 8 rfl) h (fun M4 _ h => ?_)
  refine jr_aload_n hC (D_X9_init.g 9 rfl) 0 rfl ?_
  refine jr_sipush hC (D_X9_init.g 10 rfl) sp_401 ?_
  refine jr_newa hC 20 0 401 rfl (by decide) rfl (by decide +kernel) (by decide +kernel) (jt_in (i := 199) (by decide +kernel) rfl) (D_X9_init.g 11 rfl) ⟨Nat.le_of_ble_eq_true rfl, Nat.le_of_ble_eq_true rfl⟩ 2 802 rfl rfl h (fun q5 M6 h => ?_)
  refine jr_putR hC fl_X9_19 rfl (jyfin rfl hn) (D_X9_init.g 12 rfl) h (fun M7 _ h => ?_)
  refine jr_aload_n hC (D_X9_init.g 13 rfl) 0 rfl ?_
  refine jr_sipush hC (D_X9_init.g 14 rfl) sp_401 ?_
  refine jr_newa hC 20 0 401 rfl (by decide) rfl (by decide +kernel) (by decide +kernel) (jt_in (i := 199) (by decide +kernel) rfl) (D_X9_init.g 15 rfl) ⟨Nat.le_of_ble_eq_true rfl, Nat.le_of_ble_eq_true rfl⟩ 3 1203 rfl rfl h (fun q8 M9 h => ?_)
  refine jr_putR hC fl_X9_22 rfl (jyfin rfl hn) (D_X9_init.g 16 rfl) h (fun M10 _ h => ?_)
  exact jr_vret hC (D_X9_init.g 17 rfl) hr hE h
def f_X3_init (th : Nat) (a1 : Nat) (a2 : Nat) (M : jMem) : Option (Int × jMem) :=
(jm_pR 3 0 M th a1).bind fun M1 =>
(jm_pR 3 2 M1 th a2).bind fun M2 =>
jnw M2 9 0 fun q3 M4 =>
jbd (f_X9_init q3 a1 M4) fun _ M6 =>
(jm_pR 3 1 M6 th q3).bind fun M7 =>
(jm_pI 3 8 M7 th (-1)).bind fun M8 =>
some (0, M8)
theorem D_X3_init : jDs cX3_init [(0, .aload_n 0, 1, 1), (1, .invokespecial 3, 3, 4), (4, .aload_n 0, 1, 5), (5, .aload_n 1, 1, 6), (6, .putfield 9, 3, 9), (9, .aload_n 0, 1, 10), (10, .aload_n 2, 1, 11), (11, .putfield 15, 3, 14), (14, .aload_n 0, 1, 15), (15, .new 19, 3, 18), (18, .dup, 1, 19), (19, .aload_n 1, 1, 20), (20, .invokespecial 21, 3, 23), (23, .putfield 24, 3, 26), (26, .aload_n 0, 1, 27), (27, .iconst (-1), 1, 28), (28, .putfield 28, 3, 31), (31, .return_, 1, 32)] := by unfold jDs; decide +kernel
set_option maxRecDepth 100000 in
set_option maxHeartbeats 4000000 in
theorem c_X3_init {E : jE} {th : Nat} {a1 : Nat} {a2 : Nat} {M : jMem} {r : Int} {M' : jMem} (h : f_X3_init th a1 a2 M = some (r, M')) : jMet E yX3_init cX3_init 3 (none) 3 4 1208 [q_r E th, q_r E a1, q_r E a2] M (none) M' := by
  unfold f_X3_init at h
  refine jMet.of RX3 rfl (by decide +kernel) (Nat.le_of_ble_eq_true rfl) [(0, q_r E th), (1, q_r E a1), (2, q_r E a2)] rfl (fun X hC hE hr hn => ?_)
  refine jr_aload_n hC (D_X3_init.g 0 rfl) 0 rfl ?_
  refine jr_objInit hC (jt_all [281, 152, 153] (by decide +kernel) (by decide +kernel)) (D_X3_init.g 1 rfl) (by decide) (Nat.le_of_ble_eq_true rfl) ?_
  refine jr_aload_n hC (D_X3_init.g 2 rfl) 0 rfl ?_
  refine jr_aload_n hC (D_X3_init.g 3 rfl) 1 rfl ?_
  refine jr_putR hC fl_X3_9 rfl (jyfin rfl hn) (D_X3_init.g 4 rfl) h (fun M1 _ h => ?_)
  refine jr_aload_n hC (D_X3_init.g 5 rfl) 0 rfl ?_
  refine jr_aload_n hC (D_X3_init.g 6 rfl) 2 rfl ?_
  refine jr_putR hC fl_X3_15 rfl (jnfin2 rfl) (D_X3_init.g 7 rfl) h (fun M2 _ h => ?_)
  refine jr_aload_n hC (D_X3_init.g 8 rfl) 0 rfl ?_
  refine jr_new hC jc9 (jt_all [282, 283, 129] (by decide +kernel) (by decide +kernel)) (D_X3_init.g 9 rfl) ⟨Nat.le_of_ble_eq_true rfl, Nat.le_of_ble_eq_true rfl⟩ 1 5 rfl rfl h (fun q3 M4 h => ?_)
  refine jr_dup hC (D_X3_init.g 10 rfl) rfl ?_
  refine jr_aload_n hC (D_X3_init.g 11 rfl) 1 rfl ?_
  refine jr_cN hC 3 1203 cl_X3_21 (D_X3_init.g 12 rfl) [q_r E a1] h (fun r M' e => c_X9_init e) rfl rfl ⟨by decide, by decide⟩ (Nat.le_of_ble_eq_true rfl) ⟨Nat.le_of_ble_eq_true rfl, Nat.le_of_ble_eq_true rfl⟩ 4 1208 rfl rfl (fun _ M6 h => ?_)
  refine jr_putR hC fl_X3_24 rfl (jyfin rfl hn) (D_X3_init.g 13 rfl) h (fun M7 _ h => ?_)
  refine jr_aload_n hC (D_X3_init.g 14 rfl) 0 rfl ?_
  refine jr_iconst hC (D_X3_init.g 15 rfl) ?_
  refine jr_putI hC fl_X3_28 rfl (jnfin rfl) (D_X3_init.g 16 rfl) h (fun M8 _ h => ?_)
  exact jr_vret hC (D_X3_init.g 17 rfl) hr hE h
def f_X4_init (th : Nat) (M : jMem) : Option (Int × jMem) :=
jnw M 20 7 fun q1 M2 =>
(jm_pR 4 0 M2 th q1).bind fun M3 =>
jnw M3 20 7 fun q4 M5 =>
(jm_pR 4 1 M5 th q4).bind fun M6 =>
jnw M6 20 7 fun q7 M8 =>
(jm_pR 4 2 M8 th q7).bind fun M9 =>
jnm M9 7 64 fun q10 M11 =>
(jm_pR 4 4 M11 th q10).bind fun M12 =>
jnw M12 20 64 fun q13 M14 =>
(jm_pR 4 3 M14 th q13).bind fun M15 =>
jlp2 (fun rec_50 (y1_50 : Int) (M_50 : jMem) =>
if jd_wr y1_50 < jd_wr 64 then ((jm_gR 4 3 M_50 th).bind fun r16 =>
jbd (f_X4_countOddRuns y1_50 M_50) fun v17 M18 =>
(jm_st 20 M18 r16 y1_50 v17).bind fun M19 =>
rec_50 (y1_50 + 1) M19)
else (some (0, M_50))) jfuel 0 M15
theorem D_X4_init : jDs cX4_init [(0, .aload_n 0, 1, 1), (1, .invokespecial 3, 3, 4), (4, .aload_n 0, 1, 5), (5, .bipush 7, 2, 7), (7, .newarray .int, 2, 9), (9, .putfield 9, 3, 12), (12, .aload_n 0, 1, 13), (13, .bipush 7, 2, 15), (15, .newarray .int, 2, 17), (17, .putfield 15, 3, 20), (20, .aload_n 0, 1, 21), (21, .bipush 7, 2, 23), (23, .newarray .int, 2, 25), (25, .putfield 18, 3, 28), (28, .aload_n 0, 1, 29), (29, .bipush 7, 2, 31), (31, .bipush 64, 2, 33), (33, .multianewarray 21 2, 4, 37), (37, .putfield 23, 3, 40), (40, .aload_n 0, 1, 41), (41, .bipush 64, 2, 43), (43, .newarray .int, 2, 45), (45, .putfield 26, 3, 48), (48, .iconst 0, 1, 49), (49, .istore_n 1, 1, 50), (50, .iload_n 1, 1, 51), (51, .bipush 64, 2, 53), (53, .if_icmp .ge 19, 3, 56), (56, .aload_n 0, 1, 57), (57, .getfield 26, 3, 60), (60, .iload_n 1, 1, 61), (61, .iload_n 1, 1, 62), (62, .invokestatic 29, 3, 65), (65, .iastore, 1, 66), (66, .iinc 1 1, 3, 69), (69, .goto (-19), 3, 72), (72, .return_, 1, 73)] := by unfold jDs; decide +kernel
set_option maxRecDepth 100000 in
set_option maxHeartbeats 4000000 in
theorem c_X4_init {E : jE} {th : Nat} {M : jMem} {r : Int} {M' : jMem} (h : f_X4_init th M = some (r, M')) : jMet E yX4_init cX4_init 2 (none) 3 12 540 [q_r E th] M (none) M' := by
  unfold f_X4_init at h
  refine jMet.of RX4 rfl (by decide +kernel) (Nat.le_of_ble_eq_true rfl) [(0, q_r E th)] rfl (fun X hC hE hr hn => ?_)
  refine jr_aload_n hC (D_X4_init.g 0 rfl) 0 rfl ?_
  refine jr_objInit hC (jt_all [447, 152, 153] (by decide +kernel) (by decide +kernel)) (D_X4_init.g 1 rfl) (by decide) (Nat.le_of_ble_eq_true rfl) ?_
  refine jr_aload_n hC (D_X4_init.g 2 rfl) 0 rfl ?_
  refine jr_bipush hC (D_X4_init.g 3 rfl) bp_7 ?_
  refine jr_newa hC 20 0 7 rfl (by decide) rfl (by decide +kernel) (by decide +kernel) (jt_in (i := 199) (by decide +kernel) rfl) (D_X4_init.g 4 rfl) ⟨Nat.le_of_ble_eq_true rfl, Nat.le_of_ble_eq_true rfl⟩ 1 7 rfl rfl h (fun q1 M2 h => ?_)
  refine jr_putR hC fl_X4_9 rfl (jyfin rfl hn) (D_X4_init.g 5 rfl) h (fun M3 _ h => ?_)
  refine jr_aload_n hC (D_X4_init.g 6 rfl) 0 rfl ?_
  refine jr_bipush hC (D_X4_init.g 7 rfl) bp_7 ?_
  refine jr_newa hC 20 0 7 rfl (by decide) rfl (by decide +kernel) (by decide +kernel) (jt_in (i := 199) (by decide +kernel) rfl) (D_X4_init.g 8 rfl) ⟨Nat.le_of_ble_eq_true rfl, Nat.le_of_ble_eq_true rfl⟩ 2 14 rfl rfl h (fun q4 M5 h => ?_)
  refine jr_putR hC fl_X4_15 rfl (jyfin rfl hn) (D_X4_init.g 9 rfl) h (fun M6 _ h => ?_)
  refine jr_aload_n hC (D_X4_init.g 10 rfl) 0 rfl ?_
  refine jr_bipush hC (D_X4_init.g 11 rfl) bp_7 ?_
  refine jr_newa hC 20 0 7 rfl (by decide) rfl (by decide +kernel) (by decide +kernel) (jt_in (i := 199) (by decide +kernel) rfl) (D_X4_init.g 12 rfl) ⟨Nat.le_of_ble_eq_true rfl, Nat.le_of_ble_eq_true rfl⟩ 3 21 rfl rfl h (fun q7 M8 h => ?_)
  refine jr_putR hC fl_X4_18 rfl (jyfin rfl hn) (D_X4_init.g 13 rfl) h (fun M9 _ h => ?_)
  refine jr_aload_n hC (D_X4_init.g 14 rfl) 0 rfl ?_
  refine jr_bipush hC (D_X4_init.g 15 rfl) bp_7 ?_
  refine jr_bipush hC (D_X4_init.g 16 rfl) bp_64 ?_
  refine jr_mnew hC 7 64 (by decide +kernel) (by decide +kernel) (by decide +kernel) (by decide +kernel) (jt_all [448, 199] (by decide +kernel) (by decide +kernel)) (D_X4_init.g 17 rfl) ⟨Nat.le_of_ble_eq_true rfl, Nat.le_of_ble_eq_true rfl⟩ 11 476 rfl rfl h (fun q10 M11 h => ?_)
  refine jr_putR hC fl_X4_23 rfl (jyfin rfl hn) (D_X4_init.g 18 rfl) h (fun M12 _ h => ?_)
  refine jr_aload_n hC (D_X4_init.g 19 rfl) 0 rfl ?_
  refine jr_bipush hC (D_X4_init.g 20 rfl) bp_64 ?_
  refine jr_newa hC 20 0 64 rfl (by decide) rfl (by decide +kernel) (by decide +kernel) (jt_in (i := 199) (by decide +kernel) rfl) (D_X4_init.g 21 rfl) ⟨Nat.le_of_ble_eq_true rfl, Nat.le_of_ble_eq_true rfl⟩ 12 540 rfl rfl h (fun q13 M14 h => ?_)
  refine jr_putR hC fl_X4_26 rfl (jyfin rfl hn) (D_X4_init.g 22 rfl) h (fun M15 _ h => ?_)
  refine jr_iconst hC (D_X4_init.g 23 rfl) ?_
  refine jr_istore_n hC (D_X4_init.g 24 rfl) (by decide) rfl ?_
  refine jr_pick [1, 0] rfl ?_
  refine jr_lp2 (fun (y1_50 : Int) (M_50 : jMem) => JW E X 2 12 540 M_50 50 [(0, q_r E th), (1, q_i y1_50)] []) ?_ jfuel 0 M15 h
  intro rec_50 hrec_50 y1_50 M_50 h
  refine jr_iload_n hC (D_X4_init.g 25 rfl) 1 rfl ?_
  refine jr_bipush hC (D_X4_init.g 26 rfl) bp_64 ?_
  refine jr_icmp_ge hC (D_X4_init.g 27 rfl) 72 rfl h (fun h => ?_) (fun h => ?_)
  · refine jr_aload_n hC (D_X4_init.g 28 rfl) 0 rfl ?_
    refine jr_getR hC fl_X4_26 rfl (D_X4_init.g 29 rfl) h (fun r16 h => ?_)
    refine jr_iload_n hC (D_X4_init.g 30 rfl) 1 rfl ?_
    refine jr_iload_n hC (D_X4_init.g 31 rfl) 1 rfl ?_
    refine jr_cSi hC cl_X4_29 (D_X4_init.g 32 rfl) [q_i y1_50] h (fun r M' e => c_X4_countOddRuns e) rfl rfl ⟨by decide, by decide⟩ (Nat.le_of_ble_eq_true rfl) ⟨Nat.le_of_ble_eq_true rfl, Nat.le_of_ble_eq_true rfl⟩ (fun v17 M18 h => ?_)
    refine jr_iast hC (D_X4_init.g 33 rfl) h (fun M19 _ h => ?_)
    refine jr_iinc hC (D_X4_init.g 34 rfl) 1 rfl (by decide) rfl ?_
    refine jr_goto hC (D_X4_init.g 35 rfl) 50 rfl ?_
    refine jr_pick [1, 0] rfl ?_
    exact hrec_50 (y1_50 + 1) M19 h
  exact jr_vret hC (D_X4_init.g 36 rfl) hr hE h
def f_X0_init (th : Nat) (M : jMem) : Option (Int × jMem) :=
jnm M 7 64 fun q1 M2 =>
(jm_pR 0 0 M2 th q1).bind fun M3 =>
jnm M3 7 64 fun q4 M5 =>
(jm_pR 0 1 M5 th q4).bind fun M6 =>
jnw M6 20 7 fun q7 M8 =>
(jm_pR 0 2 M8 th q7).bind fun M9 =>
jnw M9 20 7 fun q10 M11 =>
(jm_pR 0 3 M11 th q10).bind fun M12 =>
some (0, M12)
theorem D_X0_init : jDs cX0_init [(0, .aload_n 0, 1, 1), (1, .invokespecial 3, 3, 4), (4, .aload_n 0, 1, 5), (5, .bipush 7, 2, 7), (7, .bipush 64, 2, 9), (9, .multianewarray 9 2, 4, 13), (13, .putfield 11, 3, 16), (16, .aload_n 0, 1, 17), (17, .bipush 7, 2, 19), (19, .bipush 64, 2, 21), (21, .multianewarray 9 2, 4, 25), (25, .putfield 16, 3, 28), (28, .aload_n 0, 1, 29), (29, .bipush 7, 2, 31), (31, .newarray .int, 2, 33), (33, .putfield 19, 3, 36), (36, .aload_n 0, 1, 37), (37, .bipush 7, 2, 39), (39, .newarray .int, 2, 41), (41, .putfield 23, 3, 44), (44, .return_, 1, 45)] := by unfold jDs; decide +kernel
set_option maxRecDepth 100000 in
set_option maxHeartbeats 4000000 in
theorem c_X0_init {E : jE} {th : Nat} {M : jMem} {r : Int} {M' : jMem} (h : f_X0_init th M = some (r, M')) : jMet E yX0_init cX0_init 1 (none) 2 18 924 [q_r E th] M (none) M' := by
  unfold f_X0_init at h
  refine jMet.of RX0 rfl (by decide +kernel) (Nat.le_of_ble_eq_true rfl) [(0, q_r E th)] rfl (fun X hC hE hr hn => ?_)
  refine jr_aload_n hC (D_X0_init.g 0 rfl) 0 rfl ?_
  refine jr_objInit hC (jt_all [511, 152, 153] (by decide +kernel) (by decide +kernel)) (D_X0_init.g 1 rfl) (by decide) (Nat.le_of_ble_eq_true rfl) ?_
  refine jr_aload_n hC (D_X0_init.g 2 rfl) 0 rfl ?_
  refine jr_bipush hC (D_X0_init.g 3 rfl) bp_7 ?_
  refine jr_bipush hC (D_X0_init.g 4 rfl) bp_64 ?_
  refine jr_mnew hC 7 64 (by decide +kernel) (by decide +kernel) (by decide +kernel) (by decide +kernel) (jt_all [512, 199] (by decide +kernel) (by decide +kernel)) (D_X0_init.g 5 rfl) ⟨Nat.le_of_ble_eq_true rfl, Nat.le_of_ble_eq_true rfl⟩ 8 455 rfl rfl h (fun q1 M2 h => ?_)
  refine jr_putR hC fl_X0_11 rfl (jyfin rfl hn) (D_X0_init.g 6 rfl) h (fun M3 _ h => ?_)
  refine jr_aload_n hC (D_X0_init.g 7 rfl) 0 rfl ?_
  refine jr_bipush hC (D_X0_init.g 8 rfl) bp_7 ?_
  refine jr_bipush hC (D_X0_init.g 9 rfl) bp_64 ?_
  refine jr_mnew hC 7 64 (by decide +kernel) (by decide +kernel) (by decide +kernel) (by decide +kernel) (jt_all [512, 199] (by decide +kernel) (by decide +kernel)) (D_X0_init.g 10 rfl) ⟨Nat.le_of_ble_eq_true rfl, Nat.le_of_ble_eq_true rfl⟩ 16 910 rfl rfl h (fun q4 M5 h => ?_)
  refine jr_putR hC fl_X0_16 rfl (jyfin rfl hn) (D_X0_init.g 11 rfl) h (fun M6 _ h => ?_)
  refine jr_aload_n hC (D_X0_init.g 12 rfl) 0 rfl ?_
  refine jr_bipush hC (D_X0_init.g 13 rfl) bp_7 ?_
  refine jr_newa hC 20 0 7 rfl (by decide) rfl (by decide +kernel) (by decide +kernel) (jt_in (i := 199) (by decide +kernel) rfl) (D_X0_init.g 14 rfl) ⟨Nat.le_of_ble_eq_true rfl, Nat.le_of_ble_eq_true rfl⟩ 17 917 rfl rfl h (fun q7 M8 h => ?_)
  refine jr_putR hC fl_X0_19 rfl (jyfin rfl hn) (D_X0_init.g 15 rfl) h (fun M9 _ h => ?_)
  refine jr_aload_n hC (D_X0_init.g 16 rfl) 0 rfl ?_
  refine jr_bipush hC (D_X0_init.g 17 rfl) bp_7 ?_
  refine jr_newa hC 20 0 7 rfl (by decide) rfl (by decide +kernel) (by decide +kernel) (jt_in (i := 199) (by decide +kernel) rfl) (D_X0_init.g 18 rfl) ⟨Nat.le_of_ble_eq_true rfl, Nat.le_of_ble_eq_true rfl⟩ 18 924 rfl rfl h (fun q10 M11 h => ?_)
  refine jr_putR hC fl_X0_23 rfl (jyfin rfl hn) (D_X0_init.g 19 rfl) h (fun M12 _ h => ?_)
  exact jr_vret hC (D_X0_init.g 20 rfl) hr hE h
def f_X5_init (th : Nat) (M : jMem) : Option (Int × jMem) :=
jnm M 7 64 fun q1 M2 =>
(jm_pR 5 0 M2 th q1).bind fun M3 =>
jnw M3 20 36 fun q4 M5 =>
(jm_pR 5 1 M5 th q4).bind fun M6 =>
jnw M6 20 36 fun q7 M8 =>
(jm_pR 5 2 M8 th q7).bind fun M9 =>
some (0, M9)
theorem D_X5_init : jDs cX5_init [(0, .aload_n 0, 1, 1), (1, .invokespecial 3, 3, 4), (4, .aload_n 0, 1, 5), (5, .bipush 7, 2, 7), (7, .bipush 64, 2, 9), (9, .multianewarray 9 2, 4, 13), (13, .putfield 11, 3, 16), (16, .aload_n 0, 1, 17), (17, .bipush 36, 2, 19), (19, .newarray .int, 2, 21), (21, .putfield 16, 3, 24), (24, .aload_n 0, 1, 25), (25, .bipush 36, 2, 27), (27, .newarray .int, 2, 29), (29, .putfield 20, 3, 32), (32, .return_, 1, 33)] := by unfold jDs; decide +kernel
set_option maxRecDepth 100000 in
set_option maxHeartbeats 4000000 in
theorem c_X5_init {E : jE} {th : Nat} {M : jMem} {r : Int} {M' : jMem} (h : f_X5_init th M = some (r, M')) : jMet E yX5_init cX5_init 1 (none) 2 10 527 [q_r E th] M (none) M' := by
  unfold f_X5_init at h
  refine jMet.of RX5 rfl (by decide +kernel) (Nat.le_of_ble_eq_true rfl) [(0, q_r E th)] rfl (fun X hC hE hr hn => ?_)
  refine jr_aload_n hC (D_X5_init.g 0 rfl) 0 rfl ?_
  refine jr_objInit hC (jt_all [491, 152, 153] (by decide +kernel) (by decide +kernel)) (D_X5_init.g 1 rfl) (by decide) (Nat.le_of_ble_eq_true rfl) ?_
  refine jr_aload_n hC (D_X5_init.g 2 rfl) 0 rfl ?_
  refine jr_bipush hC (D_X5_init.g 3 rfl) bp_7 ?_
  refine jr_bipush hC (D_X5_init.g 4 rfl) bp_64 ?_
  refine jr_mnew hC 7 64 (by decide +kernel) (by decide +kernel) (by decide +kernel) (by decide +kernel) (jt_all [492, 199] (by decide +kernel) (by decide +kernel)) (D_X5_init.g 5 rfl) ⟨Nat.le_of_ble_eq_true rfl, Nat.le_of_ble_eq_true rfl⟩ 8 455 rfl rfl h (fun q1 M2 h => ?_)
  refine jr_putR hC fl_X5_11 rfl (jyfin rfl hn) (D_X5_init.g 6 rfl) h (fun M3 _ h => ?_)
  refine jr_aload_n hC (D_X5_init.g 7 rfl) 0 rfl ?_
  refine jr_bipush hC (D_X5_init.g 8 rfl) bp_36 ?_
  refine jr_newa hC 20 0 36 rfl (by decide) rfl (by decide +kernel) (by decide +kernel) (jt_in (i := 199) (by decide +kernel) rfl) (D_X5_init.g 9 rfl) ⟨Nat.le_of_ble_eq_true rfl, Nat.le_of_ble_eq_true rfl⟩ 9 491 rfl rfl h (fun q4 M5 h => ?_)
  refine jr_putR hC fl_X5_16 rfl (jyfin rfl hn) (D_X5_init.g 10 rfl) h (fun M6 _ h => ?_)
  refine jr_aload_n hC (D_X5_init.g 11 rfl) 0 rfl ?_
  refine jr_bipush hC (D_X5_init.g 12 rfl) bp_36 ?_
  refine jr_newa hC 20 0 36 rfl (by decide) rfl (by decide +kernel) (by decide +kernel) (jt_in (i := 199) (by decide +kernel) rfl) (D_X5_init.g 13 rfl) ⟨Nat.le_of_ble_eq_true rfl, Nat.le_of_ble_eq_true rfl⟩ 10 527 rfl rfl h (fun q7 M8 h => ?_)
  refine jr_putR hC fl_X5_20 rfl (jyfin rfl hn) (D_X5_init.g 14 rfl) h (fun M9 _ h => ?_)
  exact jr_vret hC (D_X5_init.g 15 rfl) hr hE h
