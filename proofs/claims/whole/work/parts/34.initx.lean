def f_X11_init (th : Nat) (M : jMem) : Option (Int × jMem) :=
jnw M 7 0 fun q1 M2 =>
jbd (f_X7_init q1 M2) fun _ M4 =>
(jm_pR 11 0 M4 th q1).bind fun M5 =>
jnw M5 8 0 fun q6 M7 =>
jbd (f_X8_init q6 M7) fun _ M9 =>
(jm_pR 11 2 M9 th q6).bind fun M10 =>
jnw M10 8 0 fun q11 M12 =>
jbd (f_X8_init q11 M12) fun _ M14 =>
(jm_pR 11 3 M14 th q11).bind fun M15 =>
jnw M15 3 0 fun q16 M17 =>
(jm_gR 11 0 M17 th).bind fun r18 =>
(jm_gR 11 3 M17 th).bind fun r19 =>
jbd (f_X3_init q16 r18 r19 M17) fun _ M21 =>
(jm_pR 11 1 M21 th q16).bind fun M22 =>
jnw M22 6 0 fun q23 M24 =>
jbd (f_X6_init q23 M24) fun _ M26 =>
(jm_pR 11 4 M26 th q23).bind fun M27 =>
jnw M27 6 0 fun q28 M29 =>
jbd (f_X6_init q28 M29) fun _ M31 =>
(jm_pR 11 5 M31 th q28).bind fun M32 =>
jnw M32 1 0 fun q33 M34 =>
jbd (f_X1_init q33 M34) fun _ M36 =>
(jm_pR 11 6 M36 th q33).bind fun M37 =>
jnw M37 10 0 fun q38 M39 =>
jbd (f_X10_init q38 M39) fun _ M41 =>
(jm_pR 11 7 M41 th q38).bind fun M42 =>
jnw M42 4 0 fun q43 M44 =>
jbd (f_X4_init q43 M44) fun _ M46 =>
(jm_pR 11 8 M46 th q43).bind fun M47 =>
jnw M47 4 0 fun q48 M49 =>
jbd (f_X4_init q48 M49) fun _ M51 =>
(jm_pR 11 9 M51 th q48).bind fun M52 =>
jnw M52 5 0 fun q53 M54 =>
jbd (f_X5_init q53 M54) fun _ M56 =>
(jm_pR 11 10 M56 th q53).bind fun M57 =>
jnw M57 0 0 fun q58 M59 =>
jbd (f_X0_init q58 M59) fun _ M61 =>
(jm_pR 11 11 M61 th q58).bind fun M62 =>
jnw M62 20 7 fun q63 M64 =>
(jm_pR 11 12 M64 th q63).bind fun M65 =>
jnw M65 20 7 fun q66 M67 =>
(jm_pR 11 13 M67 th q66).bind fun M68 =>
jcall 11 M68 th (f_X11_startOver th M68) fun _ M70 =>
some (0, M70)
theorem D_X11_init : jDs cX11_init [(0, .aload_n 0, 1, 1), (1, .invokespecial 3, 3, 4), (4, .aload_n 0, 1, 5), (5, .new 9, 3, 8), (8, .dup, 1, 9), (9, .invokespecial 11, 3, 12), (12, .putfield 12, 3, 15), (15, .aload_n 0, 1, 16), (16, .new 16, 3, 19), (19, .dup, 1, 20), (20, .invokespecial 18, 3, 23), (23, .putfield 19, 3, 26), (26, .aload_n 0, 1, 27), (27, .new 16, 3, 30), (30, .dup, 1, 31), (31, .invokespecial 18, 3, 34), (34, .putfield 23, 3, 37), (37, .aload_n 0, 1, 38), (38, .new 26, 3, 41), (41, .dup, 1, 42), (42, .aload_n 0, 1, 43), (43, .getfield 12, 3, 46), (46, .aload_n 0, 1, 47), (47, .getfield 23, 3, 50), (50, .invokespecial 28, 3, 53), (53, .putfield 31, 3, 56), (56, .aload_n 0, 1, 57), (57, .new 35, 3, 60), (60, .dup, 1, 61), (61, .invokespecial 37, 3, 64), (64, .putfield 38, 3, 67), (67, .aload_n 0, 1, 68), (68, .new 35, 3, 71), (71, .dup, 1, 72), (72, .invokespecial 37, 3, 75), (75, .putfield 42, 3, 78), (78, .aload_n 0, 1, 79), (79, .new 45, 3, 82), (82, .dup, 1, 83), (83, .invokespecial 47, 3, 86), (86, .putfield 48, 3, 89), (89, .aload_n 0, 1, 90), (90, .new 52, 3, 93), (93, .dup, 1, 94), (94, .invokespecial 54, 3, 97), (97, .putfield 55, 3, 100), (100, .aload_n 0, 1, 101), (101, .new 59, 3, 104), (104, .dup, 1, 105), (105, .invokespecial 61, 3, 108), (108, .putfield 62, 3, 111), (111, .aload_n 0, 1, 112), (112, .new 59, 3, 115), (115, .dup, 1, 116), (116, .invokespecial 61, 3, 119), (119, .putfield 66, 3, 122), (122, .aload_n 0, 1, 123), (123, .new 69, 3, 126), (126, .dup, 1, 127), (127, .invokespecial 71, 3, 130), (130, .putfield 72, 3, 133), (133, .aload_n 0, 1, 134), (134, .new 76, 3, 137), (137, .dup, 1, 138), (138, .invokespecial 78, 3, 141), (141, .putfield 79, 3, 144), (144, .aload_n 0, 1, 145), (145, .bipush 7, 2, 147), (147, .newarray .int, 2, 149), (149, .putfield 83, 3, 152), (152, .aload_n 0, 1, 153), (153, .bipush 7, 2, 155), (155, .newarray .int, 2, 157), (157, .putfield 87, 3, 160), (160, .aload_n 0, 1, 161), (161, .invokevirtual 90, 3, 164), (164, .return_, 1, 165)] := by unfold jDs; decide +kernel
set_option maxRecDepth 100000 in
set_option maxHeartbeats 4000000 in
theorem c_X11_init {E : jE} {th : Nat} {M : jMem} {r : Int} {M' : jMem} (h : f_X11_init th M = some (r, M')) : jMet E yX11_init cX11_init 1 (none) 7 368 13214 [q_r E th] M (none) M' := by
  unfold f_X11_init at h
  refine jMet.of RX11 rfl (by decide +kernel) (Nat.le_of_ble_eq_true rfl) [(0, q_r E th)] rfl (fun X hC hE hr hn => ?_)
  refine jr_aload_n hC (D_X11_init.g 0 rfl) 0 rfl ?_
  refine jr_objInit hC (jt_all [151, 152, 153] (by decide +kernel) (by decide +kernel)) (D_X11_init.g 1 rfl) (by decide) (Nat.le_of_ble_eq_true rfl) ?_
  refine jr_aload_n hC (D_X11_init.g 2 rfl) 0 rfl ?_
  refine jr_new hC jc7 (jt_all [154, 155, 125] (by decide +kernel) (by decide +kernel)) (D_X11_init.g 3 rfl) ⟨Nat.le_of_ble_eq_true rfl, Nat.le_of_ble_eq_true rfl⟩ 1 2 rfl rfl h (fun q1 M2 h => ?_)
  refine jr_dup hC (D_X11_init.g 4 rfl) rfl ?_
  refine jr_cN hC 1 2000 cl_X11_11 (D_X11_init.g 5 rfl) [] h (fun r M' e => c_X7_init e) rfl rfl ⟨by decide, by decide⟩ (Nat.le_of_ble_eq_true rfl) ⟨Nat.le_of_ble_eq_true rfl, Nat.le_of_ble_eq_true rfl⟩ 2 2002 rfl rfl (fun _ M4 h => ?_)
  refine jr_putR hC fl_X11_12 rfl (jyfin rfl hn) (D_X11_init.g 6 rfl) h (fun M5 _ h => ?_)
  refine jr_aload_n hC (D_X11_init.g 7 rfl) 0 rfl ?_
  refine jr_new hC jc8 (jt_all [171, 172, 126] (by decide +kernel) (by decide +kernel)) (D_X11_init.g 8 rfl) ⟨Nat.le_of_ble_eq_true rfl, Nat.le_of_ble_eq_true rfl⟩ 3 2015 rfl rfl h (fun q6 M7 h => ?_)
  refine jr_dup hC (D_X11_init.g 9 rfl) rfl ?_
  refine jr_cN hC 12 998 cl_X11_18 (D_X11_init.g 10 rfl) [] h (fun r M' e => c_X8_init e) rfl rfl ⟨by decide, by decide⟩ (Nat.le_of_ble_eq_true rfl) ⟨Nat.le_of_ble_eq_true rfl, Nat.le_of_ble_eq_true rfl⟩ 15 3013 rfl rfl (fun _ M9 h => ?_)
  refine jr_putR hC fl_X11_19 rfl (jnfin2 rfl) (D_X11_init.g 11 rfl) h (fun M10 _ h => ?_)
  refine jr_aload_n hC (D_X11_init.g 12 rfl) 0 rfl ?_
  refine jr_new hC jc8 (jt_all [171, 172, 126] (by decide +kernel) (by decide +kernel)) (D_X11_init.g 13 rfl) ⟨Nat.le_of_ble_eq_true rfl, Nat.le_of_ble_eq_true rfl⟩ 16 3026 rfl rfl h (fun q11 M12 h => ?_)
  refine jr_dup hC (D_X11_init.g 14 rfl) rfl ?_
  refine jr_cN hC 12 998 cl_X11_18 (D_X11_init.g 15 rfl) [] h (fun r M' e => c_X8_init e) rfl rfl ⟨by decide, by decide⟩ (Nat.le_of_ble_eq_true rfl) ⟨Nat.le_of_ble_eq_true rfl, Nat.le_of_ble_eq_true rfl⟩ 28 4024 rfl rfl (fun _ M14 h => ?_)
  refine jr_putR hC fl_X11_23 rfl (jnfin2 rfl) (D_X11_init.g 16 rfl) h (fun M15 _ h => ?_)
  refine jr_aload_n hC (D_X11_init.g 17 rfl) 0 rfl ?_
  refine jr_new hC jc3 (jt_all [276, 277, 128] (by decide +kernel) (by decide +kernel)) (D_X11_init.g 18 rfl) ⟨Nat.le_of_ble_eq_true rfl, Nat.le_of_ble_eq_true rfl⟩ 29 4033 rfl rfl h (fun q16 M17 h => ?_)
  refine jr_dup hC (D_X11_init.g 19 rfl) rfl ?_
  refine jr_aload_n hC (D_X11_init.g 20 rfl) 0 rfl ?_
  refine jr_getR hC fl_X11_12 rfl (D_X11_init.g 21 rfl) h (fun r18 h => ?_)
  refine jr_aload_n hC (D_X11_init.g 22 rfl) 0 rfl ?_
  refine jr_getR hC fl_X11_23 rfl (D_X11_init.g 23 rfl) h (fun r19 h => ?_)
  refine jr_cN hC 4 1208 cl_X11_28 (D_X11_init.g 24 rfl) [q_r E r18, q_r E r19] h (fun r M' e => c_X3_init e) rfl rfl ⟨by decide, by decide⟩ (Nat.le_of_ble_eq_true rfl) ⟨Nat.le_of_ble_eq_true rfl, Nat.le_of_ble_eq_true rfl⟩ 33 5241 rfl rfl (fun _ M21 h => ?_)
  refine jr_putR hC fl_X11_31 rfl (jyfin rfl hn) (D_X11_init.g 25 rfl) h (fun M22 _ h => ?_)
  refine jr_aload_n hC (D_X11_init.g 26 rfl) 0 rfl ?_
  refine jr_new hC jc6 (jt_all [333, 334, 130] (by decide +kernel) (by decide +kernel)) (D_X11_init.g 27 rfl) ⟨Nat.le_of_ble_eq_true rfl, Nat.le_of_ble_eq_true rfl⟩ 34 5251 rfl rfl h (fun q23 M24 h => ?_)
  refine jr_dup hC (D_X11_init.g 28 rfl) rfl ?_
  refine jr_cN hC 5 108 cl_X11_37 (D_X11_init.g 29 rfl) [] h (fun r M' e => c_X6_init e) rfl rfl ⟨by decide, by decide⟩ (Nat.le_of_ble_eq_true rfl) ⟨Nat.le_of_ble_eq_true rfl, Nat.le_of_ble_eq_true rfl⟩ 39 5359 rfl rfl (fun _ M26 h => ?_)
  refine jr_putR hC fl_X11_38 rfl (jyfin rfl hn) (D_X11_init.g 30 rfl) h (fun M27 _ h => ?_)
  refine jr_aload_n hC (D_X11_init.g 31 rfl) 0 rfl ?_
  refine jr_new hC jc6 (jt_all [333, 334, 130] (by decide +kernel) (by decide +kernel)) (D_X11_init.g 32 rfl) ⟨Nat.le_of_ble_eq_true rfl, Nat.le_of_ble_eq_true rfl⟩ 40 5369 rfl rfl h (fun q28 M29 h => ?_)
  refine jr_dup hC (D_X11_init.g 33 rfl) rfl ?_
  refine jr_cN hC 5 108 cl_X11_37 (D_X11_init.g 34 rfl) [] h (fun r M' e => c_X6_init e) rfl rfl ⟨by decide, by decide⟩ (Nat.le_of_ble_eq_true rfl) ⟨Nat.le_of_ble_eq_true rfl, Nat.le_of_ble_eq_true rfl⟩ 45 5477 rfl rfl (fun _ M31 h => ?_)
  refine jr_putR hC fl_X11_42 rfl (jyfin rfl hn) (D_X11_init.g 35 rfl) h (fun M32 _ h => ?_)
  refine jr_aload_n hC (D_X11_init.g 36 rfl) 0 rfl ?_
  refine jr_new hC jc1 (jt_all [397, 398, 132] (by decide +kernel) (by decide +kernel)) (D_X11_init.g 37 rfl) ⟨Nat.le_of_ble_eq_true rfl, Nat.le_of_ble_eq_true rfl⟩ 46 5482 rfl rfl h (fun q33 M34 h => ?_)
  refine jr_dup hC (D_X11_init.g 38 rfl) rfl ?_
  refine jr_cN hC 261 5120 cl_X11_47 (D_X11_init.g 39 rfl) [] h (fun r M' e => c_X1_init e) rfl rfl ⟨by decide, by decide⟩ (Nat.le_of_ble_eq_true rfl) ⟨Nat.le_of_ble_eq_true rfl, Nat.le_of_ble_eq_true rfl⟩ 307 10602 rfl rfl (fun _ M36 h => ?_)
  refine jr_putR hC fl_X11_48 rfl (jyfin rfl hn) (D_X11_init.g 40 rfl) h (fun M37 _ h => ?_)
  refine jr_aload_n hC (D_X11_init.g 41 rfl) 0 rfl ?_
  refine jr_new hC jc10 (jt_all [423, 424, 133] (by decide +kernel) (by decide +kernel)) (D_X11_init.g 42 rfl) ⟨Nat.le_of_ble_eq_true rfl, Nat.le_of_ble_eq_true rfl⟩ 308 10605 rfl rfl h (fun q38 M39 h => ?_)
  refine jr_dup hC (D_X11_init.g 43 rfl) rfl ?_
  refine jr_cN hC 2 40 cl_X11_54 (D_X11_init.g 44 rfl) [] h (fun r M' e => c_X10_init e) rfl rfl ⟨by decide, by decide⟩ (Nat.le_of_ble_eq_true rfl) ⟨Nat.le_of_ble_eq_true rfl, Nat.le_of_ble_eq_true rfl⟩ 310 10645 rfl rfl (fun _ M41 h => ?_)
  refine jr_putR hC fl_X11_55 rfl (jyfin rfl hn) (D_X11_init.g 45 rfl) h (fun M42 _ h => ?_)
  refine jr_aload_n hC (D_X11_init.g 46 rfl) 0 rfl ?_
  refine jr_new hC jc4 (jt_all [442, 443, 134] (by decide +kernel) (by decide +kernel)) (D_X11_init.g 47 rfl) ⟨Nat.le_of_ble_eq_true rfl, Nat.le_of_ble_eq_true rfl⟩ 311 10653 rfl rfl h (fun q43 M44 h => ?_)
  refine jr_dup hC (D_X11_init.g 48 rfl) rfl ?_
  refine jr_cN hC 12 540 cl_X11_61 (D_X11_init.g 49 rfl) [] h (fun r M' e => c_X4_init e) rfl rfl ⟨by decide, by decide⟩ (Nat.le_of_ble_eq_true rfl) ⟨Nat.le_of_ble_eq_true rfl, Nat.le_of_ble_eq_true rfl⟩ 323 11193 rfl rfl (fun _ M46 h => ?_)
  refine jr_putR hC fl_X11_62 rfl (jyfin rfl hn) (D_X11_init.g 50 rfl) h (fun M47 _ h => ?_)
  refine jr_aload_n hC (D_X11_init.g 51 rfl) 0 rfl ?_
  refine jr_new hC jc4 (jt_all [442, 443, 134] (by decide +kernel) (by decide +kernel)) (D_X11_init.g 52 rfl) ⟨Nat.le_of_ble_eq_true rfl, Nat.le_of_ble_eq_true rfl⟩ 324 11201 rfl rfl h (fun q48 M49 h => ?_)
  refine jr_dup hC (D_X11_init.g 53 rfl) rfl ?_
  refine jr_cN hC 12 540 cl_X11_61 (D_X11_init.g 54 rfl) [] h (fun r M' e => c_X4_init e) rfl rfl ⟨by decide, by decide⟩ (Nat.le_of_ble_eq_true rfl) ⟨Nat.le_of_ble_eq_true rfl, Nat.le_of_ble_eq_true rfl⟩ 336 11741 rfl rfl (fun _ M51 h => ?_)
  refine jr_putR hC fl_X11_66 rfl (jyfin rfl hn) (D_X11_init.g 55 rfl) h (fun M52 _ h => ?_)
  refine jr_aload_n hC (D_X11_init.g 56 rfl) 0 rfl ?_
  refine jr_new hC jc5 (jt_all [486, 487, 135] (by decide +kernel) (by decide +kernel)) (D_X11_init.g 57 rfl) ⟨Nat.le_of_ble_eq_true rfl, Nat.le_of_ble_eq_true rfl⟩ 337 11745 rfl rfl h (fun q53 M54 h => ?_)
  refine jr_dup hC (D_X11_init.g 58 rfl) rfl ?_
  refine jr_cN hC 10 527 cl_X11_71 (D_X11_init.g 59 rfl) [] h (fun r M' e => c_X5_init e) rfl rfl ⟨by decide, by decide⟩ (Nat.le_of_ble_eq_true rfl) ⟨Nat.le_of_ble_eq_true rfl, Nat.le_of_ble_eq_true rfl⟩ 347 12272 rfl rfl (fun _ M56 h => ?_)
  refine jr_putR hC fl_X11_72 rfl (jyfin rfl hn) (D_X11_init.g 60 rfl) h (fun M57 _ h => ?_)
  refine jr_aload_n hC (D_X11_init.g 61 rfl) 0 rfl ?_
  refine jr_new hC jc0 (jt_all [506, 507, 136] (by decide +kernel) (by decide +kernel)) (D_X11_init.g 62 rfl) ⟨Nat.le_of_ble_eq_true rfl, Nat.le_of_ble_eq_true rfl⟩ 348 12276 rfl rfl h (fun q58 M59 h => ?_)
  refine jr_dup hC (D_X11_init.g 63 rfl) rfl ?_
  refine jr_cN hC 18 924 cl_X11_78 (D_X11_init.g 64 rfl) [] h (fun r M' e => c_X0_init e) rfl rfl ⟨by decide, by decide⟩ (Nat.le_of_ble_eq_true rfl) ⟨Nat.le_of_ble_eq_true rfl, Nat.le_of_ble_eq_true rfl⟩ 366 13200 rfl rfl (fun _ M61 h => ?_)
  refine jr_putR hC fl_X11_79 rfl (jyfin rfl hn) (D_X11_init.g 65 rfl) h (fun M62 _ h => ?_)
  refine jr_aload_n hC (D_X11_init.g 66 rfl) 0 rfl ?_
  refine jr_bipush hC (D_X11_init.g 67 rfl) bp_7 ?_
  refine jr_newa hC 20 0 7 rfl (by decide) rfl (by decide +kernel) (by decide +kernel) (jt_in (i := 199) (by decide +kernel) rfl) (D_X11_init.g 68 rfl) ⟨Nat.le_of_ble_eq_true rfl, Nat.le_of_ble_eq_true rfl⟩ 367 13207 rfl rfl h (fun q63 M64 h => ?_)
  refine jr_putR hC fl_X11_83 rfl (jyfin rfl hn) (D_X11_init.g 69 rfl) h (fun M65 _ h => ?_)
  refine jr_aload_n hC (D_X11_init.g 70 rfl) 0 rfl ?_
  refine jr_bipush hC (D_X11_init.g 71 rfl) bp_7 ?_
  refine jr_newa hC 20 0 7 rfl (by decide) rfl (by decide +kernel) (by decide +kernel) (jt_in (i := 199) (by decide +kernel) rfl) (D_X11_init.g 72 rfl) ⟨Nat.le_of_ble_eq_true rfl, Nat.le_of_ble_eq_true rfl⟩ 368 13214 rfl rfl h (fun q66 M67 h => ?_)
  refine jr_putR hC fl_X11_87 rfl (jyfin rfl hn) (D_X11_init.g 73 rfl) h (fun M68 _ h => ?_)
  refine jr_aload_n hC (D_X11_init.g 74 rfl) 0 rfl ?_
  refine jr_cVv hC cl_X11_90 ⟨rfl, by decide⟩ (D_X11_init.g 75 rfl) [] h (fun r M' e => c_X11_startOver e) rfl rfl ⟨by decide, by decide⟩ (Nat.le_of_ble_eq_true rfl) ⟨Nat.le_of_ble_eq_true rfl, Nat.le_of_ble_eq_true rfl⟩ (fun _ M70 h => ?_)
  exact jr_vret hC (D_X11_init.g 76 rfl) hr hE h
