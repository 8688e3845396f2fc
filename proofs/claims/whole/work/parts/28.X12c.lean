/-! ===== 28.X12c: by program ===== -/
def f_X12_lay (th : Nat) (x1 : Int) (x2 : Int) (M : jMem) : Option (Int × jMem) :=
jcall 12 M th (f_X12_isCell th x1 M) fun v1 M2 =>
if jd_wr v1 = 0 then (some ((-1), M2))
else (jbd (f_X12_in x2 0 1 M2) fun v3 M4 =>
if jd_wr v3 = 0 then (some ((-1), M4))
else (jcall 12 M4 th (f_X12_copies th M4) fun _ M6 =>
jcall 12 M6 th (f_X12_isFree th x1 M6) fun v7 M8 =>
if jd_wr v7 = 0 then (some ((-1), M8))
else (jcall 12 M8 th (f_X12_secondCell th x1 x2 M8) fun v9 M10 =>
jcall 12 M10 th (f_X12_isFree th v9 M10) fun v11 M12 =>
if jd_wr v11 = 0 then (some ((-1), M12))
else (jlp2 (fun rec_48 (y3_48 : Int) (M_48 : jMem) =>
jcall 12 M_48 th (f_X12_lies th y3_48 M_48) fun v13 M14 =>
if jd_wr v13 = 0 then (jcall 12 M14 th (f_X12_laid th y3_48 x1 x2 M14) fun _ M16 =>
(jm_gR 12 48 M16 th).bind fun r17 =>
(jm_ld 20 M16 r17 73).bind fun v18 =>
jcall 12 M16 th (f_X12_tellsOf th y3_48 2 0 99 M16) fun v19 M20 =>
(jm_st 20 M20 r17 73 (v18 + v19)).bind fun M21 =>
jcall 12 M21 th (f_X12_records th M21) fun _ M23 =>
some (y3_48, M23))
else (rec_48 (y3_48 + 1) M14)) jfuel 0 M12))))
theorem D_X12_lay : jDs cX12_lay [(0, .aload_n 0, 1, 1), (1, .iload_n 1, 1, 2), (2, .invokevirtual 338, 3, 5), (5, .ifCond .eq 12, 3, 8), (8, .iload_n 2, 1, 9), (9, .iconst 0, 1, 10), (10, .iconst 1, 1, 11), (11, .invokestatic 318, 3, 14), (14, .ifCond .ne 5, 3, 17), (17, .iconst (-1), 1, 18), (18, .ireturn, 1, 19), (19, .aload_n 0, 1, 20), (20, .invokevirtual 385, 3, 23), (23, .aload_n 0, 1, 24), (24, .iload_n 1, 1, 25), (25, .invokevirtual 391, 3, 28), (28, .ifCond .eq 16, 3, 31), (31, .aload_n 0, 1, 32), (32, .aload_n 0, 1, 33), (33, .iload_n 1, 1, 34), (34, .iload_n 2, 1, 35), (35, .invokevirtual 364, 3, 38), (38, .invokevirtual 391, 3, 41), (41, .ifCond .ne 5, 3, 44), (44, .iconst (-1), 1, 45), (45, .ireturn, 1, 46), (46, .iconst 0, 1, 47), (47, .istore_n 3, 1, 48), (48, .aload_n 0, 1, 49), (49, .iload_n 3, 1, 50), (50, .invokevirtual 332, 3, 53), (53, .ifCond .eq 9, 3, 56), (56, .iinc 3 1, 3, 59), (59, .goto (-11), 3, 62), (62, .aload_n 0, 1, 63), (63, .iload_n 3, 1, 64), (64, .iload_n 1, 1, 65), (65, .iload_n 2, 1, 66), (66, .invokevirtual 360, 3, 69), (69, .aload_n 0, 1, 70), (70, .getfield 113, 3, 73), (73, .bipush 73, 2, 75), (75, .dup2, 1, 76), (76, .iaload, 1, 77), (77, .aload_n 0, 1, 78), (78, .iload_n 3, 1, 79), (79, .iconst 2, 1, 80), (80, .iconst 0, 1, 81), (81, .bipush 99, 2, 83), (83, .invokevirtual 356, 3, 86), (86, .iadd, 1, 87), (87, .iastore, 1, 88), (88, .aload_n 0, 1, 89), (89, .invokevirtual 394, 3, 92), (92, .iload_n 3, 1, 93), (93, .ireturn, 1, 94)] := by unfold jDs; decide +kernel
set_option maxRecDepth 100000 in
set_option maxHeartbeats 4000000 in
theorem c_X12_lay {E : jE} {th : Nat} {x1 : Int} {x2 : Int} {M : jMem} {r : Int} {M' : jMem} (h : f_X12_lay th x1 x2 M = some (r, M')) : jMet E yX12_lay cX12_lay 4 (some .int) 6 0 0 [q_r E th, q_i x1, q_i x2] M (some (q_i r)) M' := by
  unfold f_X12_lay at h
  refine jMet.of RX12 rfl (by decide +kernel) (Nat.le_of_ble_eq_true rfl) [(0, q_r E th), (1, q_i x1), (2, q_i x2)] rfl (fun X hC hE hr hn => ?_)
  refine jr_aload_n hC (D_X12_lay.g 0 rfl) 0 rfl ?_
  refine jr_iload_n hC (D_X12_lay.g 1 rfl) 1 rfl ?_
  refine jr_cVi hC cl_X12_338 ⟨rfl, by decide⟩ (D_X12_lay.g 2 rfl) [q_i x1] h (fun r M' e => c_X12_isCell e) rfl rfl ⟨by decide, by decide⟩ (Nat.le_of_ble_eq_true rfl) ⟨Nat.le_of_ble_eq_true rfl, Nat.le_of_ble_eq_true rfl⟩ (fun v1 M2 h => ?_)
  refine jr_if_eq hC (D_X12_lay.g 3 rfl) 17 rfl h (fun h => ?_) (fun h => ?_)
  · refine jr_iconst hC (D_X12_lay.g 9 rfl) ?_
    exact jr_iret hC (D_X12_lay.g 10 rfl) hr hE h
  refine jr_iload_n hC (D_X12_lay.g 4 rfl) 2 rfl ?_
  refine jr_iconst hC (D_X12_lay.g 5 rfl) ?_
  refine jr_iconst hC (D_X12_lay.g 6 rfl) ?_
  refine jr_cSi hC cl_X12_318 (D_X12_lay.g 7 rfl) [q_i x2, q_i 0, q_i 1] h (fun r M' e => c_X12_in e) rfl rfl ⟨by decide, by decide⟩ (Nat.le_of_ble_eq_true rfl) ⟨Nat.le_of_ble_eq_true rfl, Nat.le_of_ble_eq_true rfl⟩ (fun v3 M4 h => ?_)
  refine jr_if_ne hC (D_X12_lay.g 8 rfl) 19 rfl h (fun h => ?_) (fun h => ?_)
  · refine jr_iconst hC (D_X12_lay.g 9 rfl) ?_
    exact jr_iret hC (D_X12_lay.g 10 rfl) hr hE h
  refine jr_aload_n hC (D_X12_lay.g 11 rfl) 0 rfl ?_
  refine jr_cVv hC cl_X12_385 ⟨rfl, by decide⟩ (D_X12_lay.g 12 rfl) [] h (fun r M' e => c_X12_copies e) rfl rfl ⟨by decide, by decide⟩ (Nat.le_of_ble_eq_true rfl) ⟨Nat.le_of_ble_eq_true rfl, Nat.le_of_ble_eq_true rfl⟩ (fun _ M6 h => ?_)
  refine jr_aload_n hC (D_X12_lay.g 13 rfl) 0 rfl ?_
  refine jr_iload_n hC (D_X12_lay.g 14 rfl) 1 rfl ?_
  refine jr_cVi hC cl_X12_391 ⟨rfl, by decide⟩ (D_X12_lay.g 15 rfl) [q_i x1] h (fun r M' e => c_X12_isFree e) rfl rfl ⟨by decide, by decide⟩ (Nat.le_of_ble_eq_true rfl) ⟨Nat.le_of_ble_eq_true rfl, Nat.le_of_ble_eq_true rfl⟩ (fun v7 M8 h => ?_)
  refine jr_if_eq hC (D_X12_lay.g 16 rfl) 44 rfl h (fun h => ?_) (fun h => ?_)
  · refine jr_iconst hC (D_X12_lay.g 24 rfl) ?_
    exact jr_iret hC (D_X12_lay.g 25 rfl) hr hE h
  refine jr_aload_n hC (D_X12_lay.g 17 rfl) 0 rfl ?_
  refine jr_aload_n hC (D_X12_lay.g 18 rfl) 0 rfl ?_
  refine jr_iload_n hC (D_X12_lay.g 19 rfl) 1 rfl ?_
  refine jr_iload_n hC (D_X12_lay.g 20 rfl) 2 rfl ?_
  refine jr_cVi hC cl_X12_364 ⟨rfl, by decide⟩ (D_X12_lay.g 21 rfl) [q_i x1, q_i x2] h (fun r M' e => c_X12_secondCell e) rfl rfl ⟨by decide, by decide⟩ (Nat.le_of_ble_eq_true rfl) ⟨Nat.le_of_ble_eq_true rfl, Nat.le_of_ble_eq_true rfl⟩ (fun v9 M10 h => ?_)
  refine jr_cVi hC cl_X12_391 ⟨rfl, by decide⟩ (D_X12_lay.g 22 rfl) [q_i v9] h (fun r M' e => c_X12_isFree e) rfl rfl ⟨by decide, by decide⟩ (Nat.le_of_ble_eq_true rfl) ⟨Nat.le_of_ble_eq_true rfl, Nat.le_of_ble_eq_true rfl⟩ (fun v11 M12 h => ?_)
  refine jr_if_ne hC (D_X12_lay.g 23 rfl) 46 rfl h (fun h => ?_) (fun h => ?_)
  · refine jr_iconst hC (D_X12_lay.g 24 rfl) ?_
    exact jr_iret hC (D_X12_lay.g 25 rfl) hr hE h
  refine jr_iconst hC (D_X12_lay.g 26 rfl) ?_
  refine jr_istore_n hC (D_X12_lay.g 27 rfl) (by decide) rfl ?_
  refine jr_pick [1, 2, 3, 0] rfl ?_
  refine jr_lp2 (fun (y3_48 : Int) (M_48 : jMem) => JW E X 4 0 0 M_48 48 [(0, q_r E th), (1, q_i x1), (2, q_i x2), (3, q_i y3_48)] []) ?_ jfuel 0 M12 h
  intro rec_48 hrec_48 y3_48 M_48 h
  refine jr_aload_n hC (D_X12_lay.g 28 rfl) 0 rfl ?_
  refine jr_iload_n hC (D_X12_lay.g 29 rfl) 3 rfl ?_
  refine jr_cVi hC cl_X12_332 ⟨rfl, by decide⟩ (D_X12_lay.g 30 rfl) [q_i y3_48] h (fun r M' e => c_X12_lies e) rfl rfl ⟨by decide, by decide⟩ (Nat.le_of_ble_eq_true rfl) ⟨Nat.le_of_ble_eq_true rfl, Nat.le_of_ble_eq_true rfl⟩ (fun v13 M14 h => ?_)
  refine jr_if_eq hC (D_X12_lay.g 31 rfl) 62 rfl h (fun h => ?_) (fun h => ?_)
  · refine jr_aload_n hC (D_X12_lay.g 34 rfl) 0 rfl ?_
    refine jr_iload_n hC (D_X12_lay.g 35 rfl) 3 rfl ?_
    refine jr_iload_n hC (D_X12_lay.g 36 rfl) 1 rfl ?_
    refine jr_iload_n hC (D_X12_lay.g 37 rfl) 2 rfl ?_
    refine jr_cVv hC cl_X12_360 ⟨rfl, by decide⟩ (D_X12_lay.g 38 rfl) [q_i y3_48, q_i x1, q_i x2] h (fun r M' e => c_X12_laid e) rfl rfl ⟨by decide, by decide⟩ (Nat.le_of_ble_eq_true rfl) ⟨Nat.le_of_ble_eq_true rfl, Nat.le_of_ble_eq_true rfl⟩ (fun _ M16 h => ?_)
    refine jr_aload_n hC (D_X12_lay.g 39 rfl) 0 rfl ?_
    refine jr_getR hC fl_X12_113 rfl (D_X12_lay.g 40 rfl) h (fun r17 h => ?_)
    refine jr_bipush hC (D_X12_lay.g 41 rfl) bp_73 ?_
    refine jr_dup2 hC (D_X12_lay.g 42 rfl) rfl rfl ?_
    refine jr_iald hC (D_X12_lay.g 43 rfl) h (fun v18 h => ?_)
    refine jr_aload_n hC (D_X12_lay.g 44 rfl) 0 rfl ?_
    refine jr_iload_n hC (D_X12_lay.g 45 rfl) 3 rfl ?_
    refine jr_iconst hC (D_X12_lay.g 46 rfl) ?_
    refine jr_iconst hC (D_X12_lay.g 47 rfl) ?_
    refine jr_bipush hC (D_X12_lay.g 48 rfl) bp_99 ?_
    refine jr_cVi hC cl_X12_356 ⟨rfl, by decide⟩ (D_X12_lay.g 49 rfl) [q_i y3_48, q_i 2, q_i 0, q_i 99] h (fun r M' e => c_X12_tellsOf e) rfl rfl ⟨by decide, by decide⟩ (Nat.le_of_ble_eq_true rfl) ⟨Nat.le_of_ble_eq_true rfl, Nat.le_of_ble_eq_true rfl⟩ (fun v19 M20 h => ?_)
    refine jr_iadd hC (D_X12_lay.g 50 rfl) ?_
    refine jr_iast hC (D_X12_lay.g 51 rfl) h (fun M21 _ h => ?_)
    refine jr_aload_n hC (D_X12_lay.g 52 rfl) 0 rfl ?_
    refine jr_cVv hC cl_X12_394 ⟨rfl, by decide⟩ (D_X12_lay.g 53 rfl) [] h (fun r M' e => c_X12_records e) rfl rfl ⟨by decide, by decide⟩ (Nat.le_of_ble_eq_true rfl) ⟨Nat.le_of_ble_eq_true rfl, Nat.le_of_ble_eq_true rfl⟩ (fun _ M23 h => ?_)
    refine jr_iload_n hC (D_X12_lay.g 54 rfl) 3 rfl ?_
    exact jr_iret hC (D_X12_lay.g 55 rfl) hr hE h
  refine jr_iinc hC (D_X12_lay.g 32 rfl) 3 rfl (by decide) rfl ?_
  refine jr_goto hC (D_X12_lay.g 33 rfl) 48 rfl ?_
  refine jr_pick [1, 2, 3, 0] rfl ?_
  exact hrec_48 (y3_48 + 1) M14 h
def f_X12_lift (th : Nat) (x1 : Int) (M : jMem) : Option (Int × jMem) :=
jcall 12 M th (f_X12_isCell th x1 M) fun v1 M2 =>
if jd_wr v1 = 0 then (jm_z 0 M2)
else (jcall 12 M2 th (f_X12_copies th M2) fun _ M4 =>
jcall 12 M4 th (f_X12_coupleAt th x1 M4) fun v5 M6 =>
if jd_wr v5 < 0 then (jm_z 0 M6)
else (jcall 12 M6 th (f_X12_lifted th v5 M6) fun _ M8 =>
jcall 12 M8 th (f_X12_records th M8) fun _ M10 =>
jm_z 1 M10))
theorem D_X12_lift : jDs cX12_lift [(0, .aload_n 0, 1, 1), (1, .iload_n 1, 1, 2), (2, .invokevirtual 338, 3, 5), (5, .ifCond .ne 5, 3, 8), (8, .iconst 0, 1, 9), (9, .ireturn, 1, 10), (10, .aload_n 0, 1, 11), (11, .invokevirtual 385, 3, 14), (14, .aload_n 0, 1, 15), (15, .iload_n 1, 1, 16), (16, .invokevirtual 341, 3, 19), (19, .istore_n 2, 1, 20), (20, .iload_n 2, 1, 21), (21, .ifCond .ge 5, 3, 24), (24, .iconst 0, 1, 25), (25, .ireturn, 1, 26), (26, .aload_n 0, 1, 27), (27, .iload_n 2, 1, 28), (28, .invokevirtual 379, 3, 31), (31, .aload_n 0, 1, 32), (32, .invokevirtual 394, 3, 35), (35, .iconst 1, 1, 36), (36, .ireturn, 1, 37)] := by unfold jDs; decide +kernel
set_option maxRecDepth 100000 in
set_option maxHeartbeats 4000000 in
theorem c_X12_lift {E : jE} {th : Nat} {x1 : Int} {M : jMem} {r : Int} {M' : jMem} (h : f_X12_lift th x1 M = some (r, M')) : jMet E yX12_lift cX12_lift 3 (some .boolean) 5 0 0 [q_r E th, q_i x1] M (some (q_i r)) M' := by
  unfold f_X12_lift at h
  refine jMet.of RX12 rfl (by decide +kernel) (Nat.le_of_ble_eq_true rfl) [(0, q_r E th), (1, q_i x1)] rfl (fun X hC hE hr hn => ?_)
  refine jr_aload_n hC (D_X12_lift.g 0 rfl) 0 rfl ?_
  refine jr_iload_n hC (D_X12_lift.g 1 rfl) 1 rfl ?_
  refine jr_cVi hC cl_X12_338 ⟨rfl, by decide⟩ (D_X12_lift.g 2 rfl) [q_i x1] h (fun r M' e => c_X12_isCell e) rfl rfl ⟨by decide, by decide⟩ (Nat.le_of_ble_eq_true rfl) ⟨Nat.le_of_ble_eq_true rfl, Nat.le_of_ble_eq_true rfl⟩ (fun v1 M2 h => ?_)
  refine jr_if_ne hC (D_X12_lift.g 3 rfl) 10 rfl h (fun h => ?_) (fun h => ?_)
  · refine jr_iconst hC (D_X12_lift.g 4 rfl) ?_
    exact jr_zret hC (D_X12_lift.g 5 rfl) hr hE h
  refine jr_aload_n hC (D_X12_lift.g 6 rfl) 0 rfl ?_
  refine jr_cVv hC cl_X12_385 ⟨rfl, by decide⟩ (D_X12_lift.g 7 rfl) [] h (fun r M' e => c_X12_copies e) rfl rfl ⟨by decide, by decide⟩ (Nat.le_of_ble_eq_true rfl) ⟨Nat.le_of_ble_eq_true rfl, Nat.le_of_ble_eq_true rfl⟩ (fun _ M4 h => ?_)
  refine jr_aload_n hC (D_X12_lift.g 8 rfl) 0 rfl ?_
  refine jr_iload_n hC (D_X12_lift.g 9 rfl) 1 rfl ?_
  refine jr_cVi hC cl_X12_341 ⟨rfl, by decide⟩ (D_X12_lift.g 10 rfl) [q_i x1] h (fun r M' e => c_X12_coupleAt e) rfl rfl ⟨by decide, by decide⟩ (Nat.le_of_ble_eq_true rfl) ⟨Nat.le_of_ble_eq_true rfl, Nat.le_of_ble_eq_true rfl⟩ (fun v5 M6 h => ?_)
  refine jr_istore_n hC (D_X12_lift.g 11 rfl) (by decide) rfl ?_
  refine jr_iload_n hC (D_X12_lift.g 12 rfl) 0 rfl ?_
  refine jr_if_ge hC (D_X12_lift.g 13 rfl) 26 rfl h (fun h => ?_) (fun h => ?_)
  · refine jr_iconst hC (D_X12_lift.g 14 rfl) ?_
    exact jr_zret hC (D_X12_lift.g 15 rfl) hr hE h
  refine jr_aload_n hC (D_X12_lift.g 16 rfl) 1 rfl ?_
  refine jr_iload_n hC (D_X12_lift.g 17 rfl) 0 rfl ?_
  refine jr_cVv hC cl_X12_379 ⟨rfl, by decide⟩ (D_X12_lift.g 18 rfl) [q_i v5] h (fun r M' e => c_X12_lifted e) rfl rfl ⟨by decide, by decide⟩ (Nat.le_of_ble_eq_true rfl) ⟨Nat.le_of_ble_eq_true rfl, Nat.le_of_ble_eq_true rfl⟩ (fun _ M8 h => ?_)
  refine jr_aload_n hC (D_X12_lift.g 19 rfl) 1 rfl ?_
  refine jr_cVv hC cl_X12_394 ⟨rfl, by decide⟩ (D_X12_lift.g 20 rfl) [] h (fun r M' e => c_X12_records e) rfl rfl ⟨by decide, by decide⟩ (Nat.le_of_ble_eq_true rfl) ⟨Nat.le_of_ble_eq_true rfl, Nat.le_of_ble_eq_true rfl⟩ (fun _ M10 h => ?_)
  refine jr_iconst hC (D_X12_lift.g 21 rfl) ?_
  exact jr_zret hC (D_X12_lift.g 22 rfl) hr hE h
def f_X12_turn (th : Nat) (x1 : Int) (M : jMem) : Option (Int × jMem) :=
jcall 12 M th (f_X12_copies th M) fun _ M2 =>
jcall 12 M2 th (f_X12_canTurn th x1 M2) fun v3 M4 =>
if jd_wr v3 = 0 then (some ((-1), M4))
else (jcall 12 M4 th (f_X12_turnAsks th M4) fun v5 M6 =>
(jm_gR 12 48 M6 th).bind fun r7 =>
(jm_gR 12 51 M6 th).bind fun r8 =>
(jm_ld 20 M6 r8 0).bind fun v9 =>
(jm_ld 20 M6 r7 (18 + v9)).bind fun v10 =>
(jm_gR 12 48 M6 th).bind fun r11 =>
(jm_gR 12 51 M6 th).bind fun r12 =>
(jm_ld 20 M6 r12 0).bind fun v13 =>
(jm_st 20 M6 r11 v13 x1).bind fun M14 =>
(jm_gR 12 48 M14 th).bind fun r15 =>
(jm_gR 12 51 M14 th).bind fun r16 =>
(jm_ld 20 M14 r16 1).bind fun v17 =>
jcall 12 M14 th (f_X12_secondCell th x1 (1 - (1 - v10)) M14) fun v18 M19 =>
(jm_st 20 M19 r15 v17 v18).bind fun M20 =>
jlp2 (fun rec_70 (y4_70 : Int) (M_70 : jMem) =>
if jd_wr y4_70 < jd_wr 2 then ((jm_gR 12 48 M_70 th).bind fun r21 =>
(jm_gR 12 51 M_70 th).bind fun r22 =>
(jm_ld 20 M_70 r22 y4_70).bind fun v23 =>
(jm_st 20 M_70 r21 (18 + v23) (1 - v10)).bind fun M24 =>
(jm_gR 12 48 M24 th).bind fun r25 =>
(jm_gR 12 51 M24 th).bind fun r26 =>
(jm_ld 20 M24 r26 y4_70).bind fun v27 =>
(jm_ld 20 M24 r25 (36 + v27)).bind fun v28 =>
(jm_st 20 M24 r25 (36 + v27) (v28 + 1)).bind fun M29 =>
rec_70 (y4_70 + 1) M29)
else ((jm_gR 12 48 M_70 th).bind fun r30 =>
(jm_ld 20 M_70 r30 73).bind fun v31 =>
(jm_st 20 M_70 r30 73 (v31 + v5)).bind fun M32 =>
jcall 12 M32 th (f_X12_records th M32) fun _ M34 =>
some (v5, M34))) jfuel 0 M20)
theorem D_X12_turn : jDs cX12_turn [(0, .aload_n 0, 1, 1), (1, .invokevirtual 385, 3, 4), (4, .aload_n 0, 1, 5), (5, .iload_n 1, 1, 6), (6, .invokevirtual 397, 3, 9), (9, .ifCond .ne 5, 3, 12), (12, .iconst (-1), 1, 13), (13, .ireturn, 1, 14), (14, .aload_n 0, 1, 15), (15, .invokevirtual 400, 3, 18), (18, .istore_n 2, 1, 19), (19, .iconst 1, 1, 20), (20, .aload_n 0, 1, 21), (21, .getfield 113, 3, 24), (24, .bipush 18, 2, 26), (26, .aload_n 0, 1, 27), (27, .getfield 119, 3, 30), (30, .iconst 0, 1, 31), (31, .iaload, 1, 32), (32, .iadd, 1, 33), (33, .iaload, 1, 34), (34, .isub, 1, 35), (35, .istore_n 3, 1, 36), (36, .aload_n 0, 1, 37), (37, .getfield 113, 3, 40), (40, .aload_n 0, 1, 41), (41, .getfield 119, 3, 44), (44, .iconst 0, 1, 45), (45, .iaload, 1, 46), (46, .iload_n 1, 1, 47), (47, .iastore, 1, 48), (48, .aload_n 0, 1, 49), (49, .getfield 113, 3, 52), (52, .aload_n 0, 1, 53), (53, .getfield 119, 3, 56), (56, .iconst 1, 1, 57), (57, .iaload, 1, 58), (58, .aload_n 0, 1, 59), (59, .iload_n 1, 1, 60), (60, .iconst 1, 1, 61), (61, .iload_n 3, 1, 62), (62, .isub, 1, 63), (63, .invokevirtual 364, 3, 66), (66, .iastore, 1, 67), (67, .iconst 0, 1, 68), (68, .istore 4, 2, 70), (70, .iload 4, 2, 72), (72, .iconst 2, 1, 73), (73, .if_icmp .ge 44, 3, 76), (76, .aload_n 0, 1, 77), (77, .getfield 113, 3, 80), (80, .bipush 18, 2, 82), (82, .aload_n 0, 1, 83), (83, .getfield 119, 3, 86), (86, .iload 4, 2, 88), (88, .iaload, 1, 89), (89, .iadd, 1, 90), (90, .iload_n 3, 1, 91), (91, .iastore, 1, 92), (92, .aload_n 0, 1, 93), (93, .getfield 113, 3, 96), (96, .bipush 36, 2, 98), (98, .aload_n 0, 1, 99), (99, .getfield 119, 3, 102), (102, .iload 4, 2, 104), (104, .iaload, 1, 105), (105, .iadd, 1, 106), (106, .dup2, 1, 107), (107, .iaload, 1, 108), (108, .iconst 1, 1, 109), (109, .iadd, 1, 110), (110, .iastore, 1, 111), (111, .iinc 4 1, 3, 114), (114, .goto (-44), 3, 117), (117, .aload_n 0, 1, 118), (118, .getfield 113, 3, 121), (121, .bipush 73, 2, 123), (123, .dup2, 1, 124), (124, .iaload, 1, 125), (125, .iload_n 2, 1, 126), (126, .iadd, 1, 127), (127, .iastore, 1, 128), (128, .aload_n 0, 1, 129), (129, .invokevirtual 394, 3, 132), (132, .iload_n 2, 1, 133), (133, .ireturn, 1, 134)] := by unfold jDs; decide +kernel
set_option maxRecDepth 100000 in
set_option maxHeartbeats 4000000 in
theorem c_X12_turn {E : jE} {th : Nat} {x1 : Int} {M : jMem} {r : Int} {M' : jMem} (h : f_X12_turn th x1 M = some (r, M')) : jMet E yX12_turn cX12_turn 5 (some .int) 7 0 0 [q_r E th, q_i x1] M (some (q_i r)) M' := by
  unfold f_X12_turn at h
  refine jMet.of RX12 rfl (by decide +kernel) (Nat.le_of_ble_eq_true rfl) [(0, q_r E th), (1, q_i x1)] rfl (fun X hC hE hr hn => ?_)
  refine jr_aload_n hC (D_X12_turn.g 0 rfl) 0 rfl ?_
  refine jr_cVv hC cl_X12_385 ⟨rfl, by decide⟩ (D_X12_turn.g 1 rfl) [] h (fun r M' e => c_X12_copies e) rfl rfl ⟨by decide, by decide⟩ (Nat.le_of_ble_eq_true rfl) ⟨Nat.le_of_ble_eq_true rfl, Nat.le_of_ble_eq_true rfl⟩ (fun _ M2 h => ?_)
  refine jr_aload_n hC (D_X12_turn.g 2 rfl) 0 rfl ?_
  refine jr_iload_n hC (D_X12_turn.g 3 rfl) 1 rfl ?_
  refine jr_cVi hC cl_X12_397 ⟨rfl, by decide⟩ (D_X12_turn.g 4 rfl) [q_i x1] h (fun r M' e => c_X12_canTurn e) rfl rfl ⟨by decide, by decide⟩ (Nat.le_of_ble_eq_true rfl) ⟨Nat.le_of_ble_eq_true rfl, Nat.le_of_ble_eq_true rfl⟩ (fun v3 M4 h => ?_)
  refine jr_if_ne hC (D_X12_turn.g 5 rfl) 14 rfl h (fun h => ?_) (fun h => ?_)
  · refine jr_iconst hC (D_X12_turn.g 6 rfl) ?_
    exact jr_iret hC (D_X12_turn.g 7 rfl) hr hE h
  refine jr_aload_n hC (D_X12_turn.g 8 rfl) 0 rfl ?_
  refine jr_cVi hC cl_X12_400 ⟨rfl, by decide⟩ (D_X12_turn.g 9 rfl) [] h (fun r M' e => c_X12_turnAsks e) rfl rfl ⟨by decide, by decide⟩ (Nat.le_of_ble_eq_true rfl) ⟨Nat.le_of_ble_eq_true rfl, Nat.le_of_ble_eq_true rfl⟩ (fun v5 M6 h => ?_)
  refine jr_istore_n hC (D_X12_turn.g 10 rfl) (by decide) rfl ?_
  refine jr_iconst hC (D_X12_turn.g 11 rfl) ?_
  refine jr_aload_n hC (D_X12_turn.g 12 rfl) 1 rfl ?_
  refine jr_getR hC fl_X12_113 rfl (D_X12_turn.g 13 rfl) h (fun r7 h => ?_)
  refine jr_bipush hC (D_X12_turn.g 14 rfl) bp_18 ?_
  refine jr_aload_n hC (D_X12_turn.g 15 rfl) 1 rfl ?_
  refine jr_getR hC fl_X12_119 rfl (D_X12_turn.g 16 rfl) h (fun r8 h => ?_)
  refine jr_iconst hC (D_X12_turn.g 17 rfl) ?_
  refine jr_iald hC (D_X12_turn.g 18 rfl) h (fun v9 h => ?_)
  refine jr_iadd hC (D_X12_turn.g 19 rfl) ?_
  refine jr_iald hC (D_X12_turn.g 20 rfl) h (fun v10 h => ?_)
  refine jr_isub hC (D_X12_turn.g 21 rfl) ?_
  refine jr_istore_n hC (D_X12_turn.g 22 rfl) (by decide) rfl ?_
  refine jr_aload_n hC (D_X12_turn.g 23 rfl) 2 rfl ?_
  refine jr_getR hC fl_X12_113 rfl (D_X12_turn.g 24 rfl) h (fun r11 h => ?_)
  refine jr_aload_n hC (D_X12_turn.g 25 rfl) 2 rfl ?_
  refine jr_getR hC fl_X12_119 rfl (D_X12_turn.g 26 rfl) h (fun r12 h => ?_)
  refine jr_iconst hC (D_X12_turn.g 27 rfl) ?_
  refine jr_iald hC (D_X12_turn.g 28 rfl) h (fun v13 h => ?_)
  refine jr_iload_n hC (D_X12_turn.g 29 rfl) 3 rfl ?_
  refine jr_iast hC (D_X12_turn.g 30 rfl) h (fun M14 _ h => ?_)
  refine jr_aload_n hC (D_X12_turn.g 31 rfl) 2 rfl ?_
  refine jr_getR hC fl_X12_113 rfl (D_X12_turn.g 32 rfl) h (fun r15 h => ?_)
  refine jr_aload_n hC (D_X12_turn.g 33 rfl) 2 rfl ?_
  refine jr_getR hC fl_X12_119 rfl (D_X12_turn.g 34 rfl) h (fun r16 h => ?_)
  refine jr_iconst hC (D_X12_turn.g 35 rfl) ?_
  refine jr_iald hC (D_X12_turn.g 36 rfl) h (fun v17 h => ?_)
  refine jr_aload_n hC (D_X12_turn.g 37 rfl) 2 rfl ?_
  refine jr_iload_n hC (D_X12_turn.g 38 rfl) 3 rfl ?_
  refine jr_iconst hC (D_X12_turn.g 39 rfl) ?_
  refine jr_iload_n hC (D_X12_turn.g 40 rfl) 0 rfl ?_
  refine jr_isub hC (D_X12_turn.g 41 rfl) ?_
  refine jr_cVi hC cl_X12_364 ⟨rfl, by decide⟩ (D_X12_turn.g 42 rfl) [q_i x1, q_i (1 - (1 - v10))] h (fun r M' e => c_X12_secondCell e) rfl rfl ⟨by decide, by decide⟩ (Nat.le_of_ble_eq_true rfl) ⟨Nat.le_of_ble_eq_true rfl, Nat.le_of_ble_eq_true rfl⟩ (fun v18 M19 h => ?_)
  refine jr_iast hC (D_X12_turn.g 43 rfl) h (fun M20 _ h => ?_)
  refine jr_iconst hC (D_X12_turn.g 44 rfl) ?_
  refine jr_istore hC (D_X12_turn.g 45 rfl) (by decide) rfl ?_
  refine jr_pick [3, 2, 1, 0] rfl ?_
  refine jr_lp2 (fun (y4_70 : Int) (M_70 : jMem) => JW E X 5 0 0 M_70 70 [(0, q_r E th), (2, q_i v5), (3, q_i (1 - v10)), (4, q_i y4_70)] []) ?_ jfuel 0 M20 h
  intro rec_70 hrec_70 y4_70 M_70 h
  refine jr_iload hC (D_X12_turn.g 46 rfl) 3 rfl ?_
  refine jr_iconst hC (D_X12_turn.g 47 rfl) ?_
  refine jr_icmp_ge hC (D_X12_turn.g 48 rfl) 117 rfl h (fun h => ?_) (fun h => ?_)
  · refine jr_aload_n hC (D_X12_turn.g 49 rfl) 0 rfl ?_
    refine jr_getR hC fl_X12_113 rfl (D_X12_turn.g 50 rfl) h (fun r21 h => ?_)
    refine jr_bipush hC (D_X12_turn.g 51 rfl) bp_18 ?_
    refine jr_aload_n hC (D_X12_turn.g 52 rfl) 0 rfl ?_
    refine jr_getR hC fl_X12_119 rfl (D_X12_turn.g 53 rfl) h (fun r22 h => ?_)
    refine jr_iload hC (D_X12_turn.g 54 rfl) 3 rfl ?_
    refine jr_iald hC (D_X12_turn.g 55 rfl) h (fun v23 h => ?_)
    refine jr_iadd hC (D_X12_turn.g 56 rfl) ?_
    refine jr_iload_n hC (D_X12_turn.g 57 rfl) 2 rfl ?_
    refine jr_iast hC (D_X12_turn.g 58 rfl) h (fun M24 _ h => ?_)
    refine jr_aload_n hC (D_X12_turn.g 59 rfl) 0 rfl ?_
    refine jr_getR hC fl_X12_113 rfl (D_X12_turn.g 60 rfl) h (fun r25 h => ?_)
    refine jr_bipush hC (D_X12_turn.g 61 rfl) bp_36 ?_
    refine jr_aload_n hC (D_X12_turn.g 62 rfl) 0 rfl ?_
    refine jr_getR hC fl_X12_119 rfl (D_X12_turn.g 63 rfl) h (fun r26 h => ?_)
    refine jr_iload hC (D_X12_turn.g 64 rfl) 3 rfl ?_
    refine jr_iald hC (D_X12_turn.g 65 rfl) h (fun v27 h => ?_)
    refine jr_iadd hC (D_X12_turn.g 66 rfl) ?_
    refine jr_dup2 hC (D_X12_turn.g 67 rfl) rfl rfl ?_
    refine jr_iald hC (D_X12_turn.g 68 rfl) h (fun v28 h => ?_)
    refine jr_iconst hC (D_X12_turn.g 69 rfl) ?_
    refine jr_iadd hC (D_X12_turn.g 70 rfl) ?_
    refine jr_iast hC (D_X12_turn.g 71 rfl) h (fun M29 _ h => ?_)
    refine jr_iinc hC (D_X12_turn.g 72 rfl) 3 rfl (by decide) rfl ?_
    refine jr_goto hC (D_X12_turn.g 73 rfl) 70 rfl ?_
    refine jr_pick [1, 2, 3, 0] rfl ?_
    exact hrec_70 (y4_70 + 1) M29 h
  refine jr_aload_n hC (D_X12_turn.g 74 rfl) 0 rfl ?_
  refine jr_getR hC fl_X12_113 rfl (D_X12_turn.g 75 rfl) h (fun r30 h => ?_)
  refine jr_bipush hC (D_X12_turn.g 76 rfl) bp_73 ?_
  refine jr_dup2 hC (D_X12_turn.g 77 rfl) rfl rfl ?_
  refine jr_iald hC (D_X12_turn.g 78 rfl) h (fun v31 h => ?_)
  refine jr_iload_n hC (D_X12_turn.g 79 rfl) 1 rfl ?_
  refine jr_iadd hC (D_X12_turn.g 80 rfl) ?_
  refine jr_iast hC (D_X12_turn.g 81 rfl) h (fun M32 _ h => ?_)
  refine jr_aload_n hC (D_X12_turn.g 82 rfl) 0 rfl ?_
  refine jr_cVv hC cl_X12_394 ⟨rfl, by decide⟩ (D_X12_turn.g 83 rfl) [] h (fun r M' e => c_X12_records e) rfl rfl ⟨by decide, by decide⟩ (Nat.le_of_ble_eq_true rfl) ⟨Nat.le_of_ble_eq_true rfl, Nat.le_of_ble_eq_true rfl⟩ (fun _ M34 h => ?_)
  refine jr_iload_n hC (D_X12_turn.g 84 rfl) 1 rfl ?_
  exact jr_iret hC (D_X12_turn.g 85 rfl) hr hE h
def f_X12_isLong (x0 : Int) (M : jMem) : Option (Int × jMem) :=
jbd (f_X12_in x0 0 60 M) fun v1 M2 =>
jm_z v1 M2
theorem D_X12_isLong : jDs cX12_isLong [(0, .iload_n 0, 1, 1), (1, .iconst 0, 1, 2), (2, .bipush 60, 2, 4), (4, .invokestatic 318, 3, 7), (7, .ireturn, 1, 8)] := by unfold jDs; decide +kernel
set_option maxRecDepth 100000 in
set_option maxHeartbeats 4000000 in
theorem c_X12_isLong {E : jE} {x0 : Int} {M : jMem} {r : Int} {M' : jMem} (h : f_X12_isLong x0 M = some (r, M')) : jMet E yX12_isLong cX12_isLong 1 (some .boolean) 3 0 0 [q_i x0] M (some (q_i r)) M' := by
  unfold f_X12_isLong at h
  refine jMet.of RX12 rfl (by decide +kernel) (Nat.le_of_ble_eq_true rfl) [(0, q_i x0)] rfl (fun X hC hE hr hn => ?_)
  refine jr_iload_n hC (D_X12_isLong.g 0 rfl) 0 rfl ?_
  refine jr_iconst hC (D_X12_isLong.g 1 rfl) ?_
  refine jr_bipush hC (D_X12_isLong.g 2 rfl) bp_60 ?_
  refine jr_cSi hC cl_X12_318 (D_X12_isLong.g 3 rfl) [q_i x0, q_i 0, q_i 60] h (fun r M' e => c_X12_in e) rfl rfl ⟨by decide, by decide⟩ (Nat.le_of_ble_eq_true rfl) ⟨Nat.le_of_ble_eq_true rfl, Nat.le_of_ble_eq_true rfl⟩ (fun v1 M2 h => ?_)
  exact jr_zret hC (D_X12_isLong.g 4 rfl) hr hE h
def f_X12_seasons (th : Nat) (x1 : Int) (M : jMem) : Option (Int × jMem) :=
jbd (f_X12_isLong x1 M) fun v1 M2 =>
if jd_wr v1 = 0 then (some ((-1), M2))
else (if jd_wr x1 = 0 then ((jm_gR 12 47 M2 th).bind fun r3 =>
(jm_ld 20 M2 r3 72).bind fun v4 =>
some (v4, M2))
else (jcall 12 M2 th (f_X12_copies th M2) fun _ M6 =>
jcall 12 M6 th (f_X12_goes th x1 M6) fun _ M8 =>
jcall 12 M8 th (f_X12_records th M8) fun _ M10 =>
(jm_gR 12 47 M10 th).bind fun r11 =>
(jm_ld 20 M10 r11 72).bind fun v12 =>
some (v12, M10)))
theorem D_X12_seasons : jDs cX12_seasons [(0, .iload_n 1, 1, 1), (1, .invokestatic 403, 3, 4), (4, .ifCond .ne 5, 3, 7), (7, .iconst (-1), 1, 8), (8, .ireturn, 1, 9), (9, .iload_n 1, 1, 10), (10, .ifCond .ne 11, 3, 13), (13, .aload_n 0, 1, 14), (14, .getfield 110, 3, 17), (17, .bipush 72, 2, 19), (19, .iaload, 1, 20), (20, .ireturn, 1, 21), (21, .aload_n 0, 1, 22), (22, .invokevirtual 385, 3, 25), (25, .aload_n 0, 1, 26), (26, .iload_n 1, 1, 27), (27, .invokevirtual 406, 3, 30), (30, .aload_n 0, 1, 31), (31, .invokevirtual 394, 3, 34), (34, .aload_n 0, 1, 35), (35, .getfield 110, 3, 38), (38, .bipush 72, 2, 40), (40, .iaload, 1, 41), (41, .ireturn, 1, 42)] := by unfold jDs; decide +kernel
set_option maxRecDepth 100000 in
set_option maxHeartbeats 4000000 in
theorem c_X12_seasons {E : jE} {th : Nat} {x1 : Int} {M : jMem} {r : Int} {M' : jMem} (h : f_X12_seasons th x1 M = some (r, M')) : jMet E yX12_seasons cX12_seasons 2 (some .int) 8 0 0 [q_r E th, q_i x1] M (some (q_i r)) M' := by
  unfold f_X12_seasons at h
  refine jMet.of RX12 rfl (by decide +kernel) (Nat.le_of_ble_eq_true rfl) [(0, q_r E th), (1, q_i x1)] rfl (fun X hC hE hr hn => ?_)
  refine jr_iload_n hC (D_X12_seasons.g 0 rfl) 1 rfl ?_
  refine jr_cSi hC cl_X12_403 (D_X12_seasons.g 1 rfl) [q_i x1] h (fun r M' e => c_X12_isLong e) rfl rfl ⟨by decide, by decide⟩ (Nat.le_of_ble_eq_true rfl) ⟨Nat.le_of_ble_eq_true rfl, Nat.le_of_ble_eq_true rfl⟩ (fun v1 M2 h => ?_)
  refine jr_if_ne hC (D_X12_seasons.g 2 rfl) 9 rfl h (fun h => ?_) (fun h => ?_)
  · refine jr_iconst hC (D_X12_seasons.g 3 rfl) ?_
    exact jr_iret hC (D_X12_seasons.g 4 rfl) hr hE h
  refine jr_iload_n hC (D_X12_seasons.g 5 rfl) 1 rfl ?_
  refine jr_if_ne hC (D_X12_seasons.g 6 rfl) 21 rfl h (fun h => ?_) (fun h => ?_)
  · refine jr_aload_n hC (D_X12_seasons.g 7 rfl) 0 rfl ?_
    refine jr_getR hC fl_X12_110 rfl (D_X12_seasons.g 8 rfl) h (fun r3 h => ?_)
    refine jr_bipush hC (D_X12_seasons.g 9 rfl) bp_72 ?_
    refine jr_iald hC (D_X12_seasons.g 10 rfl) h (fun v4 h => ?_)
    exact jr_iret hC (D_X12_seasons.g 11 rfl) hr hE h
  refine jr_aload_n hC (D_X12_seasons.g 12 rfl) 0 rfl ?_
  refine jr_cVv hC cl_X12_385 ⟨rfl, by decide⟩ (D_X12_seasons.g 13 rfl) [] h (fun r M' e => c_X12_copies e) rfl rfl ⟨by decide, by decide⟩ (Nat.le_of_ble_eq_true rfl) ⟨Nat.le_of_ble_eq_true rfl, Nat.le_of_ble_eq_true rfl⟩ (fun _ M6 h => ?_)
  refine jr_aload_n hC (D_X12_seasons.g 14 rfl) 0 rfl ?_
  refine jr_iload_n hC (D_X12_seasons.g 15 rfl) 1 rfl ?_
  refine jr_cVv hC cl_X12_406 ⟨rfl, by decide⟩ (D_X12_seasons.g 16 rfl) [q_i x1] h (fun r M' e => c_X12_goes e) rfl rfl ⟨by decide, by decide⟩ (Nat.le_of_ble_eq_true rfl) ⟨Nat.le_of_ble_eq_true rfl, Nat.le_of_ble_eq_true rfl⟩ (fun _ M8 h => ?_)
  refine jr_aload_n hC (D_X12_seasons.g 17 rfl) 0 rfl ?_
  refine jr_cVv hC cl_X12_394 ⟨rfl, by decide⟩ (D_X12_seasons.g 18 rfl) [] h (fun r M' e => c_X12_records e) rfl rfl ⟨by decide, by decide⟩ (Nat.le_of_ble_eq_true rfl) ⟨Nat.le_of_ble_eq_true rfl, Nat.le_of_ble_eq_true rfl⟩ (fun _ M10 h => ?_)
  refine jr_aload_n hC (D_X12_seasons.g 19 rfl) 0 rfl ?_
  refine jr_getR hC fl_X12_110 rfl (D_X12_seasons.g 20 rfl) h (fun r11 h => ?_)
  refine jr_bipush hC (D_X12_seasons.g 21 rfl) bp_72 ?_
  refine jr_iald hC (D_X12_seasons.g 22 rfl) h (fun v12 h => ?_)
  exact jr_iret hC (D_X12_seasons.g 23 rfl) hr hE h
def f_X12_undo (th : Nat) (M : jMem) : Option (Int × jMem) :=
(jm_gI 12 53 M th).bind fun v1 =>
if jd_wr v1 = 0 then (jm_z 0 M)
else ((jm_gI 12 53 M th).bind fun v2 =>
(jm_pI 12 53 M th (v2 - 1)).bind fun M3 =>
jlp2 (fun rec_21 (y1_21 : Int) (M_21 : jMem) =>
if jd_wr y1_21 < jd_wr 75 then ((jm_gR 12 47 M_21 th).bind fun r4 =>
(jm_gR 12 54 M_21 th).bind fun r5 =>
(jm_gI 12 53 M_21 th).bind fun v6 =>
(jm_ld 20 M_21 r5 ((75 * v6) + y1_21)).bind fun v7 =>
(jm_st 20 M_21 r4 y1_21 v7).bind fun M8 =>
rec_21 (y1_21 + 1) M8)
else (jm_z 1 M_21)) jfuel 0 M3)
theorem D_X12_undo : jDs cX12_undo [(0, .aload_n 0, 1, 1), (1, .getfield 268, 3, 4), (4, .ifCond .ne 5, 3, 7), (7, .iconst 0, 1, 8), (8, .ireturn, 1, 9), (9, .aload_n 0, 1, 10), (10, .dup, 1, 11), (11, .getfield 268, 3, 14), (14, .iconst 1, 1, 15), (15, .isub, 1, 16), (16, .putfield 268, 3, 19), (19, .iconst 0, 1, 20), (20, .istore_n 1, 1, 21), (21, .iload_n 1, 1, 22), (22, .bipush 75, 2, 24), (24, .if_icmp .ge 29, 3, 27), (27, .aload_n 0, 1, 28), (28, .getfield 110, 3, 31), (31, .iload_n 1, 1, 32), (32, .aload_n 0, 1, 33), (33, .getfield 125, 3, 36), (36, .bipush 75, 2, 38), (38, .aload_n 0, 1, 39), (39, .getfield 268, 3, 42), (42, .imul, 1, 43), (43, .iload_n 1, 1, 44), (44, .iadd, 1, 45), (45, .iaload, 1, 46), (46, .iastore, 1, 47), (47, .iinc 1 1, 3, 50), (50, .goto (-29), 3, 53), (53, .iconst 1, 1, 54), (54, .ireturn, 1, 55)] := by unfold jDs; decide +kernel
set_option maxRecDepth 100000 in
set_option maxHeartbeats 4000000 in
theorem c_X12_undo {E : jE} {th : Nat} {M : jMem} {r : Int} {M' : jMem} (h : f_X12_undo th M = some (r, M')) : jMet E yX12_undo cX12_undo 2 (some .boolean) 2 0 0 [q_r E th] M (some (q_i r)) M' := by
  unfold f_X12_undo at h
  refine jMet.of RX12 rfl (by decide +kernel) (Nat.le_of_ble_eq_true rfl) [(0, q_r E th)] rfl (fun X hC hE hr hn => ?_)
  refine jr_aload_n hC (D_X12_undo.g 0 rfl) 0 rfl ?_
  refine jr_getI hC fl_X12_268 rfl (D_X12_undo.g 1 rfl) h (fun v1 h => ?_)
  refine jr_if_ne hC (D_X12_undo.g 2 rfl) 9 rfl h (fun h => ?_) (fun h => ?_)
  · refine jr_iconst hC (D_X12_undo.g 3 rfl) ?_
    exact jr_zret hC (D_X12_undo.g 4 rfl) hr hE h
  refine jr_aload_n hC (D_X12_undo.g 5 rfl) 0 rfl ?_
  refine jr_dup hC (D_X12_undo.g 6 rfl) rfl ?_
  refine jr_getI hC fl_X12_268 rfl (D_X12_undo.g 7 rfl) h (fun v2 h => ?_)
  refine jr_iconst hC (D_X12_undo.g 8 rfl) ?_
  refine jr_isub hC (D_X12_undo.g 9 rfl) ?_
  refine jr_putI hC fl_X12_268 rfl (jnfin rfl) (D_X12_undo.g 10 rfl) h (fun M3 _ h => ?_)
  refine jr_iconst hC (D_X12_undo.g 11 rfl) ?_
  refine jr_istore_n hC (D_X12_undo.g 12 rfl) (by decide) rfl ?_
  refine jr_pick [1, 0] rfl ?_
  refine jr_lp2 (fun (y1_21 : Int) (M_21 : jMem) => JW E X 2 0 0 M_21 21 [(0, q_r E th), (1, q_i y1_21)] []) ?_ jfuel 0 M3 h
  intro rec_21 hrec_21 y1_21 M_21 h
  refine jr_iload_n hC (D_X12_undo.g 13 rfl) 1 rfl ?_
  refine jr_bipush hC (D_X12_undo.g 14 rfl) bp_75 ?_
  refine jr_icmp_ge hC (D_X12_undo.g 15 rfl) 53 rfl h (fun h => ?_) (fun h => ?_)
  · refine jr_aload_n hC (D_X12_undo.g 16 rfl) 0 rfl ?_
    refine jr_getR hC fl_X12_110 rfl (D_X12_undo.g 17 rfl) h (fun r4 h => ?_)
    refine jr_iload_n hC (D_X12_undo.g 18 rfl) 1 rfl ?_
    refine jr_aload_n hC (D_X12_undo.g 19 rfl) 0 rfl ?_
    refine jr_getR hC fl_X12_125 rfl (D_X12_undo.g 20 rfl) h (fun r5 h => ?_)
    refine jr_bipush hC (D_X12_undo.g 21 rfl) bp_75 ?_
    refine jr_aload_n hC (D_X12_undo.g 22 rfl) 0 rfl ?_
    refine jr_getI hC fl_X12_268 rfl (D_X12_undo.g 23 rfl) h (fun v6 h => ?_)
    refine jr_imul hC (D_X12_undo.g 24 rfl) ?_
    refine jr_iload_n hC (D_X12_undo.g 25 rfl) 1 rfl ?_
    refine jr_iadd hC (D_X12_undo.g 26 rfl) ?_
    refine jr_iald hC (D_X12_undo.g 27 rfl) h (fun v7 h => ?_)
    refine jr_iast hC (D_X12_undo.g 28 rfl) h (fun M8 _ h => ?_)
    refine jr_iinc hC (D_X12_undo.g 29 rfl) 1 rfl (by decide) rfl ?_
    refine jr_goto hC (D_X12_undo.g 30 rfl) 21 rfl ?_
    refine jr_pick [1, 0] rfl ?_
    exact hrec_21 (y1_21 + 1) M8 h
  refine jr_iconst hC (D_X12_undo.g 31 rfl) ?_
  exact jr_zret hC (D_X12_undo.g 32 rfl) hr hE h
def f_X12_waysIn (th : Nat) (x1 : Int) (x2 : Int) (M : jMem) : Option (Int × jMem) :=
if jd_wr x1 = 0 then ((jm_gR 12 55 M th).bind fun r1 =>
(jm_ld 20 M r1 x2).bind fun v2 =>
some (v2, M))
else ((jm_gR 12 56 M th).bind fun r3 =>
(jm_ld 20 M r3 x2).bind fun v4 =>
some (v4, M))
theorem D_X12_waysIn : jDs cX12_waysIn [(0, .iload_n 1, 1, 1), (1, .ifCond .eq 12, 3, 4), (4, .aload_n 0, 1, 5), (5, .getfield 131, 3, 8), (8, .iload_n 2, 1, 9), (9, .iaload, 1, 10), (10, .goto 9, 3, 13), (13, .aload_n 0, 1, 14), (14, .getfield 128, 3, 17), (17, .iload_n 2, 1, 18), (18, .iaload, 1, 19), (19, .ireturn, 1, 20)] := by unfold jDs; decide +kernel
set_option maxRecDepth 100000 in
set_option maxHeartbeats 4000000 in
theorem c_X12_waysIn {E : jE} {th : Nat} {x1 : Int} {x2 : Int} {M : jMem} {r : Int} {M' : jMem} (h : f_X12_waysIn th x1 x2 M = some (r, M')) : jMet E yX12_waysIn cX12_waysIn 3 (some .int) 2 0 0 [q_r E th, q_i x1, q_i x2] M (some (q_i r)) M' := by
  unfold f_X12_waysIn at h
  refine jMet.of RX12 rfl (by decide +kernel) (Nat.le_of_ble_eq_true rfl) [(0, q_r E th), (1, q_i x1), (2, q_i x2)] rfl (fun X hC hE hr hn => ?_)
  refine jr_iload_n hC (D_X12_waysIn.g 0 rfl) 1 rfl ?_
  refine jr_if_eq hC (D_X12_waysIn.g 1 rfl) 13 rfl h (fun h => ?_) (fun h => ?_)
  · refine jr_aload_n hC (D_X12_waysIn.g 7 rfl) 0 rfl ?_
    refine jr_getR hC fl_X12_128 rfl (D_X12_waysIn.g 8 rfl) h (fun r1 h => ?_)
    refine jr_iload_n hC (D_X12_waysIn.g 9 rfl) 2 rfl ?_
    refine jr_iald hC (D_X12_waysIn.g 10 rfl) h (fun v2 h => ?_)
    exact jr_iret hC (D_X12_waysIn.g 11 rfl) hr hE h
  refine jr_aload_n hC (D_X12_waysIn.g 2 rfl) 0 rfl ?_
  refine jr_getR hC fl_X12_131 rfl (D_X12_waysIn.g 3 rfl) h (fun r3 h => ?_)
  refine jr_iload_n hC (D_X12_waysIn.g 4 rfl) 2 rfl ?_
  refine jr_iald hC (D_X12_waysIn.g 5 rfl) h (fun v4 h => ?_)
  refine jr_goto hC (D_X12_waysIn.g 6 rfl) 19 rfl ?_
  exact jr_iret hC (D_X12_waysIn.g 11 rfl) hr hE h
def f_X12_acrossIn (th : Nat) (x1 : Int) (x2 : Int) (x3 : Int) (M : jMem) : Option (Int × jMem) :=
jcall 12 M th (f_X12_secondCell th x2 0 M) fun v1 M2 =>
if jd_wr v1 < 0 then (some (0, M2))
else (if jd_wr (jd_and x3 2) = 0 then ((jm_gR 12 57 M2 th).bind fun r3 =>
(jm_ld 22 M2 r3 v1).bind fun v4 =>
if jd_wr v4 = 0 then (jjq (jcall 12 M2 th (f_X12_waysIn th x1 (((64 * x2) + 64) + (jd_shr (jd_or x3 2) 1)) M2) fun v5 M6 =>
some (v5, M6)) fun j_54 =>
if jd_wr x1 = 0 then (j_54 )
else ((jm_gR 12 58 M2 th).bind fun r7 =>
(jm_ld 22 M2 r7 x2).bind fun v8 =>
if jd_wr v8 = 0 then ((jm_gR 12 58 M2 th).bind fun r9 =>
(jm_ld 22 M2 r9 v1).bind fun v10 =>
if jd_wr v10 = 0 then (j_54 )
else (some (0, M2)))
else (some (0, M2))))
else (some (0, M2)))
else (some (0, M2)))
theorem D_X12_acrossIn : jDs cX12_acrossIn [(0, .aload_n 0, 1, 1), (1, .iload_n 2, 1, 2), (2, .iconst 0, 1, 3), (3, .invokevirtual 364, 3, 6), (6, .istore 4, 2, 8), (8, .iload 4, 2, 10), (10, .ifCond .lt 42, 3, 13), (13, .iload_n 3, 1, 14), (14, .iconst 2, 1, 15), (15, .iand, 1, 16), (16, .ifCond .ne 36, 3, 19), (19, .aload_n 0, 1, 20), (20, .getfield 134, 3, 23), (23, .iload 4, 2, 25), (25, .baload, 1, 26), (26, .ifCond .ne 26, 3, 29), (29, .iload_n 1, 1, 30), (30, .ifCond .eq 24, 3, 33), (33, .aload_n 0, 1, 34), (34, .getfield 137, 3, 37), (37, .iload_n 2, 1, 38), (38, .baload, 1, 39), (39, .ifCond .ne 13, 3, 42), (42, .aload_n 0, 1, 43), (43, .getfield 137, 3, 46), (46, .iload 4, 2, 48), (48, .baload, 1, 49), (49, .ifCond .eq 5, 3, 52), (52, .iconst 0, 1, 53), (53, .ireturn, 1, 54), (54, .aload_n 0, 1, 55), (55, .iload_n 1, 1, 56), (56, .bipush 64, 2, 58), (58, .iload_n 2, 1, 59), (59, .imul, 1, 60), (60, .bipush 64, 2, 62), (62, .iadd, 1, 63), (63, .iload_n 3, 1, 64), (64, .iconst 2, 1, 65), (65, .ior, 1, 66), (66, .iconst 1, 1, 67), (67, .ishr, 1, 68), (68, .iadd, 1, 69), (69, .invokevirtual 409, 3, 72), (72, .ireturn, 1, 73)] := by unfold jDs; decide +kernel
set_option maxRecDepth 100000 in
set_option maxHeartbeats 4000000 in
theorem c_X12_acrossIn {E : jE} {th : Nat} {x1 : Int} {x2 : Int} {x3 : Int} {M : jMem} {r : Int} {M' : jMem} (h : f_X12_acrossIn th x1 x2 x3 M = some (r, M')) : jMet E yX12_acrossIn cX12_acrossIn 5 (some .int) 4 0 0 [q_r E th, q_i x1, q_i x2, q_i x3] M (some (q_i r)) M' := by
  unfold f_X12_acrossIn at h
  refine jMet.of RX12 rfl (by decide +kernel) (Nat.le_of_ble_eq_true rfl) [(0, q_r E th), (1, q_i x1), (2, q_i x2), (3, q_i x3)] rfl (fun X hC hE hr hn => ?_)
  refine jr_aload_n hC (D_X12_acrossIn.g 0 rfl) 0 rfl ?_
  refine jr_iload_n hC (D_X12_acrossIn.g 1 rfl) 2 rfl ?_
  refine jr_iconst hC (D_X12_acrossIn.g 2 rfl) ?_
  refine jr_cVi hC cl_X12_364 ⟨rfl, by decide⟩ (D_X12_acrossIn.g 3 rfl) [q_i x2, q_i 0] h (fun r M' e => c_X12_secondCell e) rfl rfl ⟨by decide, by decide⟩ (Nat.le_of_ble_eq_true rfl) ⟨Nat.le_of_ble_eq_true rfl, Nat.le_of_ble_eq_true rfl⟩ (fun v1 M2 h => ?_)
  refine jr_istore hC (D_X12_acrossIn.g 4 rfl) (by decide) rfl ?_
  refine jr_iload hC (D_X12_acrossIn.g 5 rfl) 0 rfl ?_
  refine jr_if_lt hC (D_X12_acrossIn.g 6 rfl) 52 rfl h (fun h => ?_) (fun h => ?_)
  · refine jr_iconst hC (D_X12_acrossIn.g 28 rfl) ?_
    exact jr_iret hC (D_X12_acrossIn.g 29 rfl) hr hE h
  refine jr_iload_n hC (D_X12_acrossIn.g 7 rfl) 4 rfl ?_
  refine jr_iconst hC (D_X12_acrossIn.g 8 rfl) ?_
  refine jr_iand hC (D_X12_acrossIn.g 9 rfl) ?_
  refine jr_if_ne hC (D_X12_acrossIn.g 10 rfl) 52 rfl h (fun h => ?_) (fun h => ?_)
  · refine jr_aload_n hC (D_X12_acrossIn.g 11 rfl) 1 rfl ?_
    refine jr_getR hC fl_X12_134 rfl (D_X12_acrossIn.g 12 rfl) h (fun r3 h => ?_)
    refine jr_iload hC (D_X12_acrossIn.g 13 rfl) 0 rfl ?_
    refine jr_zald hC (D_X12_acrossIn.g 14 rfl) h (fun v4 h => ?_)
    refine jr_if_ne hC (D_X12_acrossIn.g 15 rfl) 52 rfl h (fun h => ?_) (fun h => ?_)
    · refine jr_iload_n hC (D_X12_acrossIn.g 16 rfl) 2 rfl ?_
      refine jr_join h (fun j => j = some (r, M') → JW E X 5 0 0 M2 54 [(0, q_r E th), (1, q_i x1), (2, q_i x2), (3, q_i x3)] []) ?_ ?_
      · intro  h
        refine jr_aload_n hC (D_X12_acrossIn.g 30 rfl) 0 rfl ?_
        refine jr_iload_n hC (D_X12_acrossIn.g 31 rfl) 1 rfl ?_
        refine jr_bipush hC (D_X12_acrossIn.g 32 rfl) bp_64 ?_
        refine jr_iload_n hC (D_X12_acrossIn.g 33 rfl) 2 rfl ?_
        refine jr_imul hC (D_X12_acrossIn.g 34 rfl) ?_
        refine jr_bipush hC (D_X12_acrossIn.g 35 rfl) bp_64 ?_
        refine jr_iadd hC (D_X12_acrossIn.g 36 rfl) ?_
        refine jr_iload_n hC (D_X12_acrossIn.g 37 rfl) 3 rfl ?_
        refine jr_iconst hC (D_X12_acrossIn.g 38 rfl) ?_
        refine jr_ior hC (D_X12_acrossIn.g 39 rfl) ?_
        refine jr_iconst hC (D_X12_acrossIn.g 40 rfl) ?_
        refine jr_ishr hC (D_X12_acrossIn.g 41 rfl) ?_
        refine jr_iadd hC (D_X12_acrossIn.g 42 rfl) ?_
        refine jr_cVi hC cl_X12_409 ⟨rfl, by decide⟩ (D_X12_acrossIn.g 43 rfl) [q_i x1, q_i (((64 * x2) + 64) + (jd_shr (jd_or x3 2) 1))] h (fun r M' e => c_X12_waysIn e) rfl rfl ⟨by decide, by decide⟩ (Nat.le_of_ble_eq_true rfl) ⟨Nat.le_of_ble_eq_true rfl, Nat.le_of_ble_eq_true rfl⟩ (fun v5 M6 h => ?_)
        exact jr_iret hC (D_X12_acrossIn.g 44 rfl) hr hE h
      intro j_54 hj_54 h
      refine jr_if_eq hC (D_X12_acrossIn.g 17 rfl) 54 rfl h (fun h => ?_) (fun h => ?_)
      · refine jr_pick [1, 2, 3, 4] rfl ?_
        exact hj_54  h
      refine jr_aload_n hC (D_X12_acrossIn.g 18 rfl) 1 rfl ?_
      refine jr_getR hC fl_X12_137 rfl (D_X12_acrossIn.g 19 rfl) h (fun r7 h => ?_)
      refine jr_iload_n hC (D_X12_acrossIn.g 20 rfl) 3 rfl ?_
      refine jr_zald hC (D_X12_acrossIn.g 21 rfl) h (fun v8 h => ?_)
      refine jr_if_ne hC (D_X12_acrossIn.g 22 rfl) 52 rfl h (fun h => ?_) (fun h => ?_)
      · refine jr_aload_n hC (D_X12_acrossIn.g 23 rfl) 1 rfl ?_
        refine jr_getR hC fl_X12_137 rfl (D_X12_acrossIn.g 24 rfl) h (fun r9 h => ?_)
        refine jr_iload hC (D_X12_acrossIn.g 25 rfl) 0 rfl ?_
        refine jr_zald hC (D_X12_acrossIn.g 26 rfl) h (fun v10 h => ?_)
        refine jr_if_eq hC (D_X12_acrossIn.g 27 rfl) 54 rfl h (fun h => ?_) (fun h => ?_)
        · refine jr_pick [1, 2, 3, 4] rfl ?_
          exact hj_54  h
        refine jr_iconst hC (D_X12_acrossIn.g 28 rfl) ?_
        exact jr_iret hC (D_X12_acrossIn.g 29 rfl) hr hE h
      refine jr_iconst hC (D_X12_acrossIn.g 28 rfl) ?_
      exact jr_iret hC (D_X12_acrossIn.g 29 rfl) hr hE h
    refine jr_iconst hC (D_X12_acrossIn.g 28 rfl) ?_
    exact jr_iret hC (D_X12_acrossIn.g 29 rfl) hr hE h
  refine jr_iconst hC (D_X12_acrossIn.g 28 rfl) ?_
  exact jr_iret hC (D_X12_acrossIn.g 29 rfl) hr hE h
def f_X12_maskDown (th : Nat) (x1 : Int) (M : jMem) : Option (Int × jMem) :=
jcall 12 M th (f_X12_w th M) fun v1 M2 =>
some ((jd_or (jd_shr x1 1) (jd_shl 1 (v1 - 1))), M2)
theorem D_X12_maskDown : jDs cX12_maskDown [(0, .iload_n 1, 1, 1), (1, .iconst 1, 1, 2), (2, .ishr, 1, 3), (3, .iconst 1, 1, 4), (4, .aload_n 0, 1, 5), (5, .invokevirtual 322, 3, 8), (8, .iconst 1, 1, 9), (9, .isub, 1, 10), (10, .ishl, 1, 11), (11, .ior, 1, 12), (12, .ireturn, 1, 13)] := by unfold jDs; decide +kernel
set_option maxRecDepth 100000 in
set_option maxHeartbeats 4000000 in
theorem c_X12_maskDown {E : jE} {th : Nat} {x1 : Int} {M : jMem} {r : Int} {M' : jMem} (h : f_X12_maskDown th x1 M = some (r, M')) : jMet E yX12_maskDown cX12_maskDown 2 (some .int) 3 0 0 [q_r E th, q_i x1] M (some (q_i r)) M' := by
  unfold f_X12_maskDown at h
  refine jMet.of RX12 rfl (by decide +kernel) (Nat.le_of_ble_eq_true rfl) [(0, q_r E th), (1, q_i x1)] rfl (fun X hC hE hr hn => ?_)
  refine jr_iload_n hC (D_X12_maskDown.g 0 rfl) 1 rfl ?_
  refine jr_iconst hC (D_X12_maskDown.g 1 rfl) ?_
  refine jr_ishr hC (D_X12_maskDown.g 2 rfl) ?_
  refine jr_iconst hC (D_X12_maskDown.g 3 rfl) ?_
  refine jr_aload_n hC (D_X12_maskDown.g 4 rfl) 0 rfl ?_
  refine jr_cVi hC cl_X12_322 ⟨rfl, by decide⟩ (D_X12_maskDown.g 5 rfl) [] h (fun r M' e => c_X12_w e) rfl rfl ⟨by decide, by decide⟩ (Nat.le_of_ble_eq_true rfl) ⟨Nat.le_of_ble_eq_true rfl, Nat.le_of_ble_eq_true rfl⟩ (fun v1 M2 h => ?_)
  refine jr_iconst hC (D_X12_maskDown.g 6 rfl) ?_
  refine jr_isub hC (D_X12_maskDown.g 7 rfl) ?_
  refine jr_ishl hC (D_X12_maskDown.g 8 rfl) ?_
  refine jr_ior hC (D_X12_maskDown.g 9 rfl) ?_
  exact jr_iret hC (D_X12_maskDown.g 10 rfl) hr hE h
def f_X12_downIn (th : Nat) (x1 : Int) (x2 : Int) (x3 : Int) (M : jMem) : Option (Int × jMem) :=
jcall 12 M th (f_X12_secondCell th x2 1 M) fun v1 M2 =>
if jd_wr v1 < 0 then (some (0, M2))
else ((jm_gR 12 57 M2 th).bind fun r3 =>
(jm_ld 22 M2 r3 v1).bind fun v4 =>
if jd_wr v4 = 0 then (jjq (jcall 12 M2 th (f_X12_maskDown th x3 M2) fun v5 M6 =>
jcall 12 M6 th (f_X12_waysIn th x1 (((64 * x2) + 64) + v5) M6) fun v7 M8 =>
some (v7, M8)) fun j_48 =>
if jd_wr x1 = 0 then (j_48 )
else ((jm_gR 12 59 M2 th).bind fun r9 =>
(jm_ld 22 M2 r9 x2).bind fun v10 =>
if jd_wr v10 = 0 then ((jm_gR 12 59 M2 th).bind fun r11 =>
(jm_ld 22 M2 r11 v1).bind fun v12 =>
if jd_wr v12 = 0 then (j_48 )
else (some (0, M2)))
else (some (0, M2))))
else (some (0, M2)))
theorem D_X12_downIn : jDs cX12_downIn [(0, .aload_n 0, 1, 1), (1, .iload_n 2, 1, 2), (2, .iconst 1, 1, 3), (3, .invokevirtual 364, 3, 6), (6, .istore 4, 2, 8), (8, .iload 4, 2, 10), (10, .ifCond .lt 36, 3, 13), (13, .aload_n 0, 1, 14), (14, .getfield 134, 3, 17), (17, .iload 4, 2, 19), (19, .baload, 1, 20), (20, .ifCond .ne 26, 3, 23), (23, .iload_n 1, 1, 24), (24, .ifCond .eq 24, 3, 27), (27, .aload_n 0, 1, 28), (28, .getfield 140, 3, 31), (31, .iload_n 2, 1, 32), (32, .baload, 1, 33), (33, .ifCond .ne 13, 3, 36), (36, .aload_n 0, 1, 37), (37, .getfield 140, 3, 40), (40, .iload 4, 2, 42), (42, .baload, 1, 43), (43, .ifCond .eq 5, 3, 46), (46, .iconst 0, 1, 47), (47, .ireturn, 1, 48), (48, .aload_n 0, 1, 49), (49, .iload_n 1, 1, 50), (50, .bipush 64, 2, 52), (52, .iload_n 2, 1, 53), (53, .imul, 1, 54), (54, .bipush 64, 2, 56), (56, .iadd, 1, 57), (57, .aload_n 0, 1, 58), (58, .iload_n 3, 1, 59), (59, .invokevirtual 413, 3, 62), (62, .iadd, 1, 63), (63, .invokevirtual 409, 3, 66), (66, .ireturn, 1, 67)] := by unfold jDs; decide +kernel
set_option maxRecDepth 100000 in
set_option maxHeartbeats 4000000 in
theorem c_X12_downIn {E : jE} {th : Nat} {x1 : Int} {x2 : Int} {x3 : Int} {M : jMem} {r : Int} {M' : jMem} (h : f_X12_downIn th x1 x2 x3 M = some (r, M')) : jMet E yX12_downIn cX12_downIn 5 (some .int) 4 0 0 [q_r E th, q_i x1, q_i x2, q_i x3] M (some (q_i r)) M' := by
  unfold f_X12_downIn at h
  refine jMet.of RX12 rfl (by decide +kernel) (Nat.le_of_ble_eq_true rfl) [(0, q_r E th), (1, q_i x1), (2, q_i x2), (3, q_i x3)] rfl (fun X hC hE hr hn => ?_)
  refine jr_aload_n hC (D_X12_downIn.g 0 rfl) 0 rfl ?_
  refine jr_iload_n hC (D_X12_downIn.g 1 rfl) 2 rfl ?_
  refine jr_iconst hC (D_X12_downIn.g 2 rfl) ?_
  refine jr_cVi hC cl_X12_364 ⟨rfl, by decide⟩ (D_X12_downIn.g 3 rfl) [q_i x2, q_i 1] h (fun r M' e => c_X12_secondCell e) rfl rfl ⟨by decide, by decide⟩ (Nat.le_of_ble_eq_true rfl) ⟨Nat.le_of_ble_eq_true rfl, Nat.le_of_ble_eq_true rfl⟩ (fun v1 M2 h => ?_)
  refine jr_istore hC (D_X12_downIn.g 4 rfl) (by decide) rfl ?_
  refine jr_iload hC (D_X12_downIn.g 5 rfl) 0 rfl ?_
  refine jr_if_lt hC (D_X12_downIn.g 6 rfl) 46 rfl h (fun h => ?_) (fun h => ?_)
  · refine jr_iconst hC (D_X12_downIn.g 24 rfl) ?_
    exact jr_iret hC (D_X12_downIn.g 25 rfl) hr hE h
  refine jr_aload_n hC (D_X12_downIn.g 7 rfl) 1 rfl ?_
  refine jr_getR hC fl_X12_134 rfl (D_X12_downIn.g 8 rfl) h (fun r3 h => ?_)
  refine jr_iload hC (D_X12_downIn.g 9 rfl) 0 rfl ?_
  refine jr_zald hC (D_X12_downIn.g 10 rfl) h (fun v4 h => ?_)
  refine jr_if_ne hC (D_X12_downIn.g 11 rfl) 46 rfl h (fun h => ?_) (fun h => ?_)
  · refine jr_iload_n hC (D_X12_downIn.g 12 rfl) 2 rfl ?_
    refine jr_join h (fun j => j = some (r, M') → JW E X 5 0 0 M2 48 [(0, q_r E th), (1, q_i x1), (2, q_i x2), (3, q_i x3)] []) ?_ ?_
    · intro  h
      refine jr_aload_n hC (D_X12_downIn.g 26 rfl) 0 rfl ?_
      refine jr_iload_n hC (D_X12_downIn.g 27 rfl) 1 rfl ?_
      refine jr_bipush hC (D_X12_downIn.g 28 rfl) bp_64 ?_
      refine jr_iload_n hC (D_X12_downIn.g 29 rfl) 2 rfl ?_
      refine jr_imul hC (D_X12_downIn.g 30 rfl) ?_
      refine jr_bipush hC (D_X12_downIn.g 31 rfl) bp_64 ?_
      refine jr_iadd hC (D_X12_downIn.g 32 rfl) ?_
      refine jr_aload_n hC (D_X12_downIn.g 33 rfl) 0 rfl ?_
      refine jr_iload_n hC (D_X12_downIn.g 34 rfl) 3 rfl ?_
      refine jr_cVi hC cl_X12_413 ⟨rfl, by decide⟩ (D_X12_downIn.g 35 rfl) [q_i x3] h (fun r M' e => c_X12_maskDown e) rfl rfl ⟨by decide, by decide⟩ (Nat.le_of_ble_eq_true rfl) ⟨Nat.le_of_ble_eq_true rfl, Nat.le_of_ble_eq_true rfl⟩ (fun v5 M6 h => ?_)
      refine jr_iadd hC (D_X12_downIn.g 36 rfl) ?_
      refine jr_cVi hC cl_X12_409 ⟨rfl, by decide⟩ (D_X12_downIn.g 37 rfl) [q_i x1, q_i (((64 * x2) + 64) + v5)] h (fun r M' e => c_X12_waysIn e) rfl rfl ⟨by decide, by decide⟩ (Nat.le_of_ble_eq_true rfl) ⟨Nat.le_of_ble_eq_true rfl, Nat.le_of_ble_eq_true rfl⟩ (fun v7 M8 h => ?_)
      exact jr_iret hC (D_X12_downIn.g 38 rfl) hr hE h
    intro j_48 hj_48 h
    refine jr_if_eq hC (D_X12_downIn.g 13 rfl) 48 rfl h (fun h => ?_) (fun h => ?_)
    · refine jr_pick [1, 2, 3, 4] rfl ?_
      exact hj_48  h
    refine jr_aload_n hC (D_X12_downIn.g 14 rfl) 1 rfl ?_
    refine jr_getR hC fl_X12_140 rfl (D_X12_downIn.g 15 rfl) h (fun r9 h => ?_)
    refine jr_iload_n hC (D_X12_downIn.g 16 rfl) 3 rfl ?_
    refine jr_zald hC (D_X12_downIn.g 17 rfl) h (fun v10 h => ?_)
    refine jr_if_ne hC (D_X12_downIn.g 18 rfl) 46 rfl h (fun h => ?_) (fun h => ?_)
    · refine jr_aload_n hC (D_X12_downIn.g 19 rfl) 1 rfl ?_
      refine jr_getR hC fl_X12_140 rfl (D_X12_downIn.g 20 rfl) h (fun r11 h => ?_)
      refine jr_iload hC (D_X12_downIn.g 21 rfl) 0 rfl ?_
      refine jr_zald hC (D_X12_downIn.g 22 rfl) h (fun v12 h => ?_)
      refine jr_if_eq hC (D_X12_downIn.g 23 rfl) 48 rfl h (fun h => ?_) (fun h => ?_)
      · refine jr_pick [1, 2, 3, 4] rfl ?_
        exact hj_48  h
      refine jr_iconst hC (D_X12_downIn.g 24 rfl) ?_
      exact jr_iret hC (D_X12_downIn.g 25 rfl) hr hE h
    refine jr_iconst hC (D_X12_downIn.g 24 rfl) ?_
    exact jr_iret hC (D_X12_downIn.g 25 rfl) hr hE h
  refine jr_iconst hC (D_X12_downIn.g 24 rfl) ?_
  exact jr_iret hC (D_X12_downIn.g 25 rfl) hr hE h
def f_X12_countAt (th : Nat) (x1 : Int) (x2 : Int) (x3 : Int) (M : jMem) : Option (Int × jMem) :=
jjq (jcall 12 M th (f_X12_waysIn th x1 (((64 * x2) + 64) + (jd_shr x3 1)) M) fun v1 M2 =>
some (v1, M2)) fun j_16 =>
if jd_wr (jd_and x3 1) = jd_wr 1 then (j_16 )
else ((jm_gR 12 57 M th).bind fun r3 =>
(jm_ld 22 M r3 x2).bind fun v4 =>
if jd_wr v4 = 0 then (jcall 12 M th (f_X12_acrossIn th x1 x2 x3 M) fun v5 M6 =>
jcall 12 M6 th (f_X12_downIn th x1 x2 x3 M6) fun v7 M8 =>
some ((v5 + v7), M8))
else (j_16 ))
theorem D_X12_countAt : jDs cX12_countAt [(0, .iload_n 3, 1, 1), (1, .iconst 1, 1, 2), (2, .iand, 1, 3), (3, .iconst 1, 1, 4), (4, .if_icmp .eq 12, 3, 7), (7, .aload_n 0, 1, 8), (8, .getfield 134, 3, 11), (11, .iload_n 2, 1, 12), (12, .baload, 1, 13), (13, .ifCond .eq 20, 3, 16), (16, .aload_n 0, 1, 17), (17, .iload_n 1, 1, 18), (18, .bipush 64, 2, 20), (20, .iload_n 2, 1, 21), (21, .imul, 1, 22), (22, .bipush 64, 2, 24), (24, .iadd, 1, 25), (25, .iload_n 3, 1, 26), (26, .iconst 1, 1, 27), (27, .ishr, 1, 28), (28, .iadd, 1, 29), (29, .invokevirtual 409, 3, 32), (32, .ireturn, 1, 33), (33, .aload_n 0, 1, 34), (34, .iload_n 1, 1, 35), (35, .iload_n 2, 1, 36), (36, .iload_n 3, 1, 37), (37, .invokevirtual 416, 3, 40), (40, .aload_n 0, 1, 41), (41, .iload_n 1, 1, 42), (42, .iload_n 2, 1, 43), (43, .iload_n 3, 1, 44), (44, .invokevirtual 420, 3, 47), (47, .iadd, 1, 48), (48, .ireturn, 1, 49)] := by unfold jDs; decide +kernel
set_option maxRecDepth 100000 in
set_option maxHeartbeats 4000000 in
theorem c_X12_countAt {E : jE} {th : Nat} {x1 : Int} {x2 : Int} {x3 : Int} {M : jMem} {r : Int} {M' : jMem} (h : f_X12_countAt th x1 x2 x3 M = some (r, M')) : jMet E yX12_countAt cX12_countAt 4 (some .int) 5 0 0 [q_r E th, q_i x1, q_i x2, q_i x3] M (some (q_i r)) M' := by
  unfold f_X12_countAt at h
  refine jMet.of RX12 rfl (by decide +kernel) (Nat.le_of_ble_eq_true rfl) [(0, q_r E th), (1, q_i x1), (2, q_i x2), (3, q_i x3)] rfl (fun X hC hE hr hn => ?_)
  refine jr_iload_n hC (D_X12_countAt.g 0 rfl) 3 rfl ?_
  refine jr_iconst hC (D_X12_countAt.g 1 rfl) ?_
  refine jr_iand hC (D_X12_countAt.g 2 rfl) ?_
  refine jr_iconst hC (D_X12_countAt.g 3 rfl) ?_
  refine jr_join h (fun j => j = some (r, M') → JW E X 4 0 0 M 16 [(0, q_r E th), (1, q_i x1), (2, q_i x2), (3, q_i x3)] []) ?_ ?_
  · intro  h
    refine jr_aload_n hC (D_X12_countAt.g 10 rfl) 0 rfl ?_
    refine jr_iload_n hC (D_X12_countAt.g 11 rfl) 1 rfl ?_
    refine jr_bipush hC (D_X12_countAt.g 12 rfl) bp_64 ?_
    refine jr_iload_n hC (D_X12_countAt.g 13 rfl) 2 rfl ?_
    refine jr_imul hC (D_X12_countAt.g 14 rfl) ?_
    refine jr_bipush hC (D_X12_countAt.g 15 rfl) bp_64 ?_
    refine jr_iadd hC (D_X12_countAt.g 16 rfl) ?_
    refine jr_iload_n hC (D_X12_countAt.g 17 rfl) 3 rfl ?_
    refine jr_iconst hC (D_X12_countAt.g 18 rfl) ?_
    refine jr_ishr hC (D_X12_countAt.g 19 rfl) ?_
    refine jr_iadd hC (D_X12_countAt.g 20 rfl) ?_
    refine jr_cVi hC cl_X12_409 ⟨rfl, by decide⟩ (D_X12_countAt.g 21 rfl) [q_i x1, q_i (((64 * x2) + 64) + (jd_shr x3 1))] h (fun r M' e => c_X12_waysIn e) rfl rfl ⟨by decide, by decide⟩ (Nat.le_of_ble_eq_true rfl) ⟨Nat.le_of_ble_eq_true rfl, Nat.le_of_ble_eq_true rfl⟩ (fun v1 M2 h => ?_)
    exact jr_iret hC (D_X12_countAt.g 22 rfl) hr hE h
  intro j_16 hj_16 h
  refine jr_icmp_eq hC (D_X12_countAt.g 4 rfl) 16 rfl h (fun h => ?_) (fun h => ?_)
  · exact hj_16  h
  refine jr_aload_n hC (D_X12_countAt.g 5 rfl) 0 rfl ?_
  refine jr_getR hC fl_X12_134 rfl (D_X12_countAt.g 6 rfl) h (fun r3 h => ?_)
  refine jr_iload_n hC (D_X12_countAt.g 7 rfl) 2 rfl ?_
  refine jr_zald hC (D_X12_countAt.g 8 rfl) h (fun v4 h => ?_)
  refine jr_if_eq hC (D_X12_countAt.g 9 rfl) 33 rfl h (fun h => ?_) (fun h => ?_)
  · refine jr_aload_n hC (D_X12_countAt.g 23 rfl) 0 rfl ?_
    refine jr_iload_n hC (D_X12_countAt.g 24 rfl) 1 rfl ?_
    refine jr_iload_n hC (D_X12_countAt.g 25 rfl) 2 rfl ?_
    refine jr_iload_n hC (D_X12_countAt.g 26 rfl) 3 rfl ?_
    refine jr_cVi hC cl_X12_416 ⟨rfl, by decide⟩ (D_X12_countAt.g 27 rfl) [q_i x1, q_i x2, q_i x3] h (fun r M' e => c_X12_acrossIn e) rfl rfl ⟨by decide, by decide⟩ (Nat.le_of_ble_eq_true rfl) ⟨Nat.le_of_ble_eq_true rfl, Nat.le_of_ble_eq_true rfl⟩ (fun v5 M6 h => ?_)
    refine jr_aload_n hC (D_X12_countAt.g 28 rfl) 0 rfl ?_
    refine jr_iload_n hC (D_X12_countAt.g 29 rfl) 1 rfl ?_
    refine jr_iload_n hC (D_X12_countAt.g 30 rfl) 2 rfl ?_
    refine jr_iload_n hC (D_X12_countAt.g 31 rfl) 3 rfl ?_
    refine jr_cVi hC cl_X12_420 ⟨rfl, by decide⟩ (D_X12_countAt.g 32 rfl) [q_i x1, q_i x2, q_i x3] h (fun r M' e => c_X12_downIn e) rfl rfl ⟨by decide, by decide⟩ (Nat.le_of_ble_eq_true rfl) ⟨Nat.le_of_ble_eq_true rfl, Nat.le_of_ble_eq_true rfl⟩ (fun v7 M8 h => ?_)
    refine jr_iadd hC (D_X12_countAt.g 33 rfl) ?_
    exact jr_iret hC (D_X12_countAt.g 34 rfl) hr hE h
  exact hj_16  h
def f_X12_counts (th : Nat) (x1 : Int) (M : jMem) : Option (Int × jMem) :=
jcall 12 M th (f_X12_cells th M) fun v1 M2 =>
jlp2 (fun rec_5 (y2_5 : Int) (M_5 : jMem) =>
if jd_wr y2_5 < 0 then (jcall 12 M_5 th (f_X12_waysIn th x1 0 M_5) fun v3 M4 =>
some (v3, M4))
else (jlp2 (fun rec_11 (y3_11 : Int) (M_11 : jMem) =>
if jd_wr y3_11 < jd_wr 64 then (jcall 12 M_11 th (f_X12_cells th M_11) fun v5 M6 =>
jjq (fun (z0_44 : Int) (M_44 : jMem) =>
jjq (fun (M_79 : jMem) =>
rec_11 (y3_11 + 1) M_79) fun j_79 =>
if jd_wr x1 = 0 then ((jm_gR 12 55 M_44 th).bind fun r7 =>
(jm_st 20 M_44 r7 ((64 * y2_5) + y3_11) z0_44).bind fun M8 =>
j_79 M8)
else ((jm_gR 12 56 M_44 th).bind fun r9 =>
(jm_st 20 M_44 r9 ((64 * y2_5) + y3_11) z0_44).bind fun M10 =>
j_79 M10)) fun j_44 =>
if jd_wr y2_5 = jd_wr v5 then (if jd_wr y3_11 = 0 then (j_44 1 M6)
else (j_44 0 M6))
else (jcall 12 M6 th (f_X12_countAt th x1 y2_5 y3_11 M6) fun v11 M12 =>
j_44 v11 M12))
else (rec_5 (y2_5 + (-1)) M_11)) jfuel 0 M_5)) jfuel v1 M2
theorem D_X12_counts : jDs cX12_counts [(0, .aload_n 0, 1, 1), (1, .invokevirtual 314, 3, 4), (4, .istore_n 2, 1, 5), (5, .iload_n 2, 1, 6), (6, .ifCond .lt 85, 3, 9), (9, .iconst 0, 1, 10), (10, .istore_n 3, 1, 11), (11, .iload_n 3, 1, 12), (12, .bipush 64, 2, 14), (14, .if_icmp .ge 71, 3, 17), (17, .iload_n 2, 1, 18), (18, .aload_n 0, 1, 19), (19, .invokevirtual 314, 3, 22), (22, .if_icmp .ne 15, 3, 25), (25, .iload_n 3, 1, 26), (26, .ifCond .ne 7, 3, 29), (29, .iconst 1, 1, 30), (30, .goto 14, 3, 33), (33, .iconst 0, 1, 34), (34, .goto 10, 3, 37), (37, .aload_n 0, 1, 38), (38, .iload_n 1, 1, 39), (39, .iload_n 2, 1, 40), (40, .iload_n 3, 1, 41), (41, .invokevirtual 423, 3, 44), (44, .istore 4, 2, 46), (46, .iload_n 1, 1, 47), (47, .ifCond .eq 19, 3, 50), (50, .aload_n 0, 1, 51), (51, .getfield 131, 3, 54), (54, .bipush 64, 2, 56), (56, .iload_n 2, 1, 57), (57, .imul, 1, 58), (58, .iload_n 3, 1, 59), (59, .iadd, 1, 60), (60, .iload 4, 2, 62), (62, .iastore, 1, 63), (63, .goto 16, 3, 66), (66, .aload_n 0, 1, 67), (67, .getfield 128, 3, 70), (70, .bipush 64, 2, 72), (72, .iload_n 2, 1, 73), (73, .imul, 1, 74), (74, .iload_n 3, 1, 75), (75, .iadd, 1, 76), (76, .iload 4, 2, 78), (78, .iastore, 1, 79), (79, .iinc 3 1, 3, 82), (82, .goto (-71), 3, 85), (85, .iinc 2 (-1), 3, 88), (88, .goto (-83), 3, 91), (91, .aload_n 0, 1, 92), (92, .iload_n 1, 1, 93), (93, .iconst 0, 1, 94), (94, .invokevirtual 409, 3, 97), (97, .ireturn, 1, 98)] := by unfold jDs; decide +kernel
set_option maxRecDepth 100000 in
set_option maxHeartbeats 4000000 in
theorem c_X12_counts {E : jE} {th : Nat} {x1 : Int} {M : jMem} {r : Int} {M' : jMem} (h : f_X12_counts th x1 M = some (r, M')) : jMet E yX12_counts cX12_counts 5 (some .int) 6 0 0 [q_r E th, q_i x1] M (some (q_i r)) M' := by
  unfold f_X12_counts at h
  refine jMet.of RX12 rfl (by decide +kernel) (Nat.le_of_ble_eq_true rfl) [(0, q_r E th), (1, q_i x1)] rfl (fun X hC hE hr hn => ?_)
  refine jr_aload_n hC (D_X12_counts.g 0 rfl) 0 rfl ?_
  refine jr_cVi hC cl_X12_314 ⟨rfl, by decide⟩ (D_X12_counts.g 1 rfl) [] h (fun r M' e => c_X12_cells e) rfl rfl ⟨by decide, by decide⟩ (Nat.le_of_ble_eq_true rfl) ⟨Nat.le_of_ble_eq_true rfl, Nat.le_of_ble_eq_true rfl⟩ (fun v1 M2 h => ?_)
  refine jr_istore_n hC (D_X12_counts.g 2 rfl) (by decide) rfl ?_
  refine jr_pick [1, 2, 0] rfl ?_
  refine jr_lp2 (fun (y2_5 : Int) (M_5 : jMem) => JW E X 5 0 0 M_5 5 [(0, q_r E th), (1, q_i x1), (2, q_i y2_5)] []) ?_ jfuel v1 M2 h
  intro rec_5 hrec_5 y2_5 M_5 h
  refine jr_iload_n hC (D_X12_counts.g 3 rfl) 2 rfl ?_
  refine jr_if_lt hC (D_X12_counts.g 4 rfl) 91 rfl h (fun h => ?_) (fun h => ?_)
  · refine jr_aload_n hC (D_X12_counts.g 51 rfl) 0 rfl ?_
    refine jr_iload_n hC (D_X12_counts.g 52 rfl) 1 rfl ?_
    refine jr_iconst hC (D_X12_counts.g 53 rfl) ?_
    refine jr_cVi hC cl_X12_409 ⟨rfl, by decide⟩ (D_X12_counts.g 54 rfl) [q_i x1, q_i 0] h (fun r M' e => c_X12_waysIn e) rfl rfl ⟨by decide, by decide⟩ (Nat.le_of_ble_eq_true rfl) ⟨Nat.le_of_ble_eq_true rfl, Nat.le_of_ble_eq_true rfl⟩ (fun v3 M4 h => ?_)
    exact jr_iret hC (D_X12_counts.g 55 rfl) hr hE h
  refine jr_iconst hC (D_X12_counts.g 5 rfl) ?_
  refine jr_istore_n hC (D_X12_counts.g 6 rfl) (by decide) rfl ?_
  refine jr_pick [1, 2, 3, 0] rfl ?_
  refine jr_lp2 (fun (y3_11 : Int) (M_11 : jMem) => JW E X 5 0 0 M_11 11 [(0, q_r E th), (1, q_i x1), (2, q_i y2_5), (3, q_i y3_11)] []) ?_ jfuel 0 M_5 h
  intro rec_11 hrec_11 y3_11 M_11 h
  refine jr_iload_n hC (D_X12_counts.g 7 rfl) 3 rfl ?_
  refine jr_bipush hC (D_X12_counts.g 8 rfl) bp_64 ?_
  refine jr_icmp_ge hC (D_X12_counts.g 9 rfl) 85 rfl h (fun h => ?_) (fun h => ?_)
  · refine jr_iload_n hC (D_X12_counts.g 10 rfl) 2 rfl ?_
    refine jr_aload_n hC (D_X12_counts.g 11 rfl) 0 rfl ?_
    refine jr_cVi hC cl_X12_314 ⟨rfl, by decide⟩ (D_X12_counts.g 12 rfl) [] h (fun r M' e => c_X12_cells e) rfl rfl ⟨by decide, by decide⟩ (Nat.le_of_ble_eq_true rfl) ⟨Nat.le_of_ble_eq_true rfl, Nat.le_of_ble_eq_true rfl⟩ (fun v5 M6 h => ?_)
    refine jr_join h (fun j => ∀ (z0_44 : Int) (M_44 : jMem), j z0_44 M_44 = some (r, M') → JW E X 5 0 0 M_44 44 [(0, q_r E th), (1, q_i x1), (2, q_i y2_5), (3, q_i y3_11)] [q_i z0_44]) ?_ ?_
    · intro z0_44 M_44 h
      refine jr_istore hC (D_X12_counts.g 25 rfl) (by decide) rfl ?_
      refine jr_iload_n hC (D_X12_counts.g 26 rfl) 2 rfl ?_
      refine jr_join h (fun j => ∀ (M_79 : jMem), j M_79 = some (r, M') → JW E X 5 0 0 M_79 79 [(0, q_r E th), (1, q_i x1), (2, q_i y2_5), (3, q_i y3_11)] []) ?_ ?_
      · intro M_79 h
        refine jr_iinc hC (D_X12_counts.g 47 rfl) 3 rfl (by decide) rfl ?_
        refine jr_goto hC (D_X12_counts.g 48 rfl) 11 rfl ?_
        refine jr_pick [1, 2, 3, 0] rfl ?_
        exact hrec_11 (y3_11 + 1) M_79 h
      intro j_79 hj_79 h
      refine jr_if_eq hC (D_X12_counts.g 27 rfl) 66 rfl h (fun h => ?_) (fun h => ?_)
      · refine jr_aload_n hC (D_X12_counts.g 38 rfl) 1 rfl ?_
        refine jr_getR hC fl_X12_128 rfl (D_X12_counts.g 39 rfl) h (fun r7 h => ?_)
        refine jr_bipush hC (D_X12_counts.g 40 rfl) bp_64 ?_
        refine jr_iload_n hC (D_X12_counts.g 41 rfl) 3 rfl ?_
        refine jr_imul hC (D_X12_counts.g 42 rfl) ?_
        refine jr_iload_n hC (D_X12_counts.g 43 rfl) 4 rfl ?_
        refine jr_iadd hC (D_X12_counts.g 44 rfl) ?_
        refine jr_iload hC (D_X12_counts.g 45 rfl) 0 rfl ?_
        refine jr_iast hC (D_X12_counts.g 46 rfl) h (fun M8 _ h => ?_)
        refine jr_pick [1, 2, 3, 4] rfl ?_
        exact hj_79 M8 h
      refine jr_aload_n hC (D_X12_counts.g 28 rfl) 1 rfl ?_
      refine jr_getR hC fl_X12_131 rfl (D_X12_counts.g 29 rfl) h (fun r9 h => ?_)
      refine jr_bipush hC (D_X12_counts.g 30 rfl) bp_64 ?_
      refine jr_iload_n hC (D_X12_counts.g 31 rfl) 3 rfl ?_
      refine jr_imul hC (D_X12_counts.g 32 rfl) ?_
      refine jr_iload_n hC (D_X12_counts.g 33 rfl) 4 rfl ?_
      refine jr_iadd hC (D_X12_counts.g 34 rfl) ?_
      refine jr_iload hC (D_X12_counts.g 35 rfl) 0 rfl ?_
      refine jr_iast hC (D_X12_counts.g 36 rfl) h (fun M10 _ h => ?_)
      refine jr_goto hC (D_X12_counts.g 37 rfl) 79 rfl ?_
      refine jr_pick [1, 2, 3, 4] rfl ?_
      exact hj_79 M10 h
    intro j_44 hj_44 h
    refine jr_icmp_ne hC (D_X12_counts.g 13 rfl) 37 rfl h (fun h => ?_) (fun h => ?_)
    · refine jr_iload_n hC (D_X12_counts.g 14 rfl) 3 rfl ?_
      refine jr_if_ne hC (D_X12_counts.g 15 rfl) 33 rfl h (fun h => ?_) (fun h => ?_)
      · refine jr_iconst hC (D_X12_counts.g 16 rfl) ?_
        refine jr_goto hC (D_X12_counts.g 17 rfl) 44 rfl ?_
        exact hj_44 1 M6 h
      refine jr_iconst hC (D_X12_counts.g 18 rfl) ?_
      refine jr_goto hC (D_X12_counts.g 19 rfl) 44 rfl ?_
      exact hj_44 0 M6 h
    refine jr_aload_n hC (D_X12_counts.g 20 rfl) 0 rfl ?_
    refine jr_iload_n hC (D_X12_counts.g 21 rfl) 1 rfl ?_
    refine jr_iload_n hC (D_X12_counts.g 22 rfl) 2 rfl ?_
    refine jr_iload_n hC (D_X12_counts.g 23 rfl) 3 rfl ?_
    refine jr_cVi hC cl_X12_423 ⟨rfl, by decide⟩ (D_X12_counts.g 24 rfl) [q_i x1, q_i y2_5, q_i y3_11] h (fun r M' e => c_X12_countAt e) rfl rfl ⟨by decide, by decide⟩ (Nat.le_of_ble_eq_true rfl) ⟨Nat.le_of_ble_eq_true rfl, Nat.le_of_ble_eq_true rfl⟩ (fun v11 M12 h => ?_)
    exact hj_44 v11 M12 h
  refine jr_iinc hC (D_X12_counts.g 49 rfl) 2 rfl (by decide) rfl ?_
  refine jr_goto hC (D_X12_counts.g 50 rfl) 5 rfl ?_
  refine jr_pick [1, 2, 0] rfl ?_
  exact hrec_5 (y2_5 + (-1)) M_11 h
def f_X12_closesHoles (th : Nat) (M : jMem) : Option (Int × jMem) :=
jlp2 (fun rec_2 (y1_2 : Int) (M_2 : jMem) =>
if jd_wr y1_2 < jd_wr 36 then ((jm_gR 12 57 M_2 th).bind fun r1 =>
(jm_gR 12 50 M_2 th).bind fun r2 =>
(jm_ld 22 M_2 r2 y1_2).bind fun v3 =>
(jm_st 22 M_2 r1 y1_2 (jd_z v3)).bind fun M4 =>
rec_2 (y1_2 + 1) M4)
else (some (0, M_2))) jfuel 0 M
theorem D_X12_closesHoles : jDs cX12_closesHoles [(0, .iconst 0, 1, 1), (1, .istore_n 1, 1, 2), (2, .iload_n 1, 1, 3), (3, .bipush 36, 2, 5), (5, .if_icmp .ge 21, 3, 8), (8, .aload_n 0, 1, 9), (9, .getfield 134, 3, 12), (12, .iload_n 1, 1, 13), (13, .aload_n 0, 1, 14), (14, .getfield 116, 3, 17), (17, .iload_n 1, 1, 18), (18, .baload, 1, 19), (19, .bastore, 1, 20), (20, .iinc 1 1, 3, 23), (23, .goto (-21), 3, 26), (26, .return_, 1, 27)] := by unfold jDs; decide +kernel
set_option maxRecDepth 100000 in
set_option maxHeartbeats 4000000 in
theorem c_X12_closesHoles {E : jE} {th : Nat} {M : jMem} {r : Int} {M' : jMem} (h : f_X12_closesHoles th M = some (r, M')) : jMet E yX12_closesHoles cX12_closesHoles 2 (none) 2 0 0 [q_r E th] M (none) M' := by
  unfold f_X12_closesHoles at h
  refine jMet.of RX12 rfl (by decide +kernel) (Nat.le_of_ble_eq_true rfl) [(0, q_r E th)] rfl (fun X hC hE hr hn => ?_)
  refine jr_iconst hC (D_X12_closesHoles.g 0 rfl) ?_
  refine jr_istore_n hC (D_X12_closesHoles.g 1 rfl) (by decide) rfl ?_
  refine jr_pick [1, 0] rfl ?_
  refine jr_lp2 (fun (y1_2 : Int) (M_2 : jMem) => JW E X 2 0 0 M_2 2 [(0, q_r E th), (1, q_i y1_2)] []) ?_ jfuel 0 M h
  intro rec_2 hrec_2 y1_2 M_2 h
  refine jr_iload_n hC (D_X12_closesHoles.g 2 rfl) 1 rfl ?_
  refine jr_bipush hC (D_X12_closesHoles.g 3 rfl) bp_36 ?_
  refine jr_icmp_ge hC (D_X12_closesHoles.g 4 rfl) 26 rfl h (fun h => ?_) (fun h => ?_)
  · refine jr_aload_n hC (D_X12_closesHoles.g 5 rfl) 0 rfl ?_
    refine jr_getR hC fl_X12_134 rfl (D_X12_closesHoles.g 6 rfl) h (fun r1 h => ?_)
    refine jr_iload_n hC (D_X12_closesHoles.g 7 rfl) 1 rfl ?_
    refine jr_aload_n hC (D_X12_closesHoles.g 8 rfl) 0 rfl ?_
    refine jr_getR hC fl_X12_116 rfl (D_X12_closesHoles.g 9 rfl) h (fun r2 h => ?_)
    refine jr_iload_n hC (D_X12_closesHoles.g 10 rfl) 1 rfl ?_
    refine jr_zald hC (D_X12_closesHoles.g 11 rfl) h (fun v3 h => ?_)
    refine jr_zast hC (D_X12_closesHoles.g 12 rfl) h (fun M4 _ h => ?_)
    refine jr_iinc hC (D_X12_closesHoles.g 13 rfl) 1 rfl (by decide) rfl ?_
    refine jr_goto hC (D_X12_closesHoles.g 14 rfl) 2 rfl ?_
    refine jr_pick [1, 0] rfl ?_
    exact hrec_2 (y1_2 + 1) M4 h
  exact jr_vret hC (D_X12_closesHoles.g 15 rfl) hr hE h
def f_X12_closesTaken (th : Nat) (M : jMem) : Option (Int × jMem) :=
jlp2 (fun rec_2 (y1_2 : Int) (M_2 : jMem) =>
if jd_wr y1_2 < jd_wr 36 then ((jm_gR 12 57 M_2 th).bind fun r1 =>
(jm_gR 12 50 M_2 th).bind fun r2 =>
(jm_ld 22 M_2 r2 y1_2).bind fun v3 =>
jjq (fun (z0_35 : Int) (M_35 : jMem) =>
(jm_st 22 M_35 r1 y1_2 (jd_z z0_35)).bind fun M4 =>
rec_2 (y1_2 + 1) M4) fun j_35 =>
jjq (fun (M_30 : jMem) =>
j_35 1 M_30) fun j_30 =>
if jd_wr v3 = 0 then (jcall 12 M_2 th (f_X12_coupleAt th y1_2 M_2) fun v5 M6 =>
if jd_wr v5 < 0 then (j_35 0 M6)
else (j_30 M6))
else (j_30 M_2))
else (some (0, M_2))) jfuel 0 M
theorem D_X12_closesTaken : jDs cX12_closesTaken [(0, .iconst 0, 1, 1), (1, .istore_n 1, 1, 2), (2, .iload_n 1, 1, 3), (3, .bipush 36, 2, 5), (5, .if_icmp .ge 37, 3, 8), (8, .aload_n 0, 1, 9), (9, .getfield 134, 3, 12), (12, .iload_n 1, 1, 13), (13, .aload_n 0, 1, 14), (14, .getfield 116, 3, 17), (17, .iload_n 1, 1, 18), (18, .baload, 1, 19), (19, .ifCond .ne 11, 3, 22), (22, .aload_n 0, 1, 23), (23, .iload_n 1, 1, 24), (24, .invokevirtual 341, 3, 27), (27, .ifCond .lt 7, 3, 30), (30, .iconst 1, 1, 31), (31, .goto 4, 3, 34), (34, .iconst 0, 1, 35), (35, .bastore, 1, 36), (36, .iinc 1 1, 3, 39), (39, .goto (-37), 3, 42), (42, .return_, 1, 43)] := by unfold jDs; decide +kernel
set_option maxRecDepth 100000 in
set_option maxHeartbeats 4000000 in
theorem c_X12_closesTaken {E : jE} {th : Nat} {M : jMem} {r : Int} {M' : jMem} (h : f_X12_closesTaken th M = some (r, M')) : jMet E yX12_closesTaken cX12_closesTaken 2 (none) 5 0 0 [q_r E th] M (none) M' := by
  unfold f_X12_closesTaken at h
  refine jMet.of RX12 rfl (by decide +kernel) (Nat.le_of_ble_eq_true rfl) [(0, q_r E th)] rfl (fun X hC hE hr hn => ?_)
  refine jr_iconst hC (D_X12_closesTaken.g 0 rfl) ?_
  refine jr_istore_n hC (D_X12_closesTaken.g 1 rfl) (by decide) rfl ?_
  refine jr_pick [1, 0] rfl ?_
  refine jr_lp2 (fun (y1_2 : Int) (M_2 : jMem) => JW E X 2 0 0 M_2 2 [(0, q_r E th), (1, q_i y1_2)] []) ?_ jfuel 0 M h
  intro rec_2 hrec_2 y1_2 M_2 h
  refine jr_iload_n hC (D_X12_closesTaken.g 2 rfl) 1 rfl ?_
  refine jr_bipush hC (D_X12_closesTaken.g 3 rfl) bp_36 ?_
  refine jr_icmp_ge hC (D_X12_closesTaken.g 4 rfl) 42 rfl h (fun h => ?_) (fun h => ?_)
  · refine jr_aload_n hC (D_X12_closesTaken.g 5 rfl) 0 rfl ?_
    refine jr_getR hC fl_X12_134 rfl (D_X12_closesTaken.g 6 rfl) h (fun r1 h => ?_)
    refine jr_iload_n hC (D_X12_closesTaken.g 7 rfl) 1 rfl ?_
    refine jr_aload_n hC (D_X12_closesTaken.g 8 rfl) 0 rfl ?_
    refine jr_getR hC fl_X12_116 rfl (D_X12_closesTaken.g 9 rfl) h (fun r2 h => ?_)
    refine jr_iload_n hC (D_X12_closesTaken.g 10 rfl) 1 rfl ?_
    refine jr_zald hC (D_X12_closesTaken.g 11 rfl) h (fun v3 h => ?_)
    refine jr_join h (fun j => ∀ (z0_35 : Int) (M_35 : jMem), j z0_35 M_35 = some (r, M') → JW E X 2 0 0 M_35 35 [(0, q_r E th), (1, q_i y1_2)] [q_i z0_35, q_i y1_2, q_r E r1]) ?_ ?_
    · intro z0_35 M_35 h
      refine jr_zast hC (D_X12_closesTaken.g 20 rfl) h (fun M4 _ h => ?_)
      refine jr_iinc hC (D_X12_closesTaken.g 21 rfl) 1 rfl (by decide) rfl ?_
      refine jr_goto hC (D_X12_closesTaken.g 22 rfl) 2 rfl ?_
      refine jr_pick [1, 0] rfl ?_
      exact hrec_2 (y1_2 + 1) M4 h
    intro j_35 hj_35 h
    refine jr_join h (fun j => ∀ (M_30 : jMem), j M_30 = some (r, M') → JW E X 2 0 0 M_30 30 [(0, q_r E th), (1, q_i y1_2)] [q_i y1_2, q_r E r1]) ?_ ?_
    · intro M_30 h
      refine jr_iconst hC (D_X12_closesTaken.g 17 rfl) ?_
      refine jr_goto hC (D_X12_closesTaken.g 18 rfl) 35 rfl ?_
      exact hj_35 1 M_30 h
    intro j_30 hj_30 h
    refine jr_if_ne hC (D_X12_closesTaken.g 12 rfl) 30 rfl h (fun h => ?_) (fun h => ?_)
    · refine jr_aload_n hC (D_X12_closesTaken.g 13 rfl) 0 rfl ?_
      refine jr_iload_n hC (D_X12_closesTaken.g 14 rfl) 1 rfl ?_
      refine jr_cVi hC cl_X12_341 ⟨rfl, by decide⟩ (D_X12_closesTaken.g 15 rfl) [q_i y1_2] h (fun r M' e => c_X12_coupleAt e) rfl rfl ⟨by decide, by decide⟩ (Nat.le_of_ble_eq_true rfl) ⟨Nat.le_of_ble_eq_true rfl, Nat.le_of_ble_eq_true rfl⟩ (fun v5 M6 h => ?_)
      refine jr_if_lt hC (D_X12_closesTaken.g 16 rfl) 34 rfl h (fun h => ?_) (fun h => ?_)
      · refine jr_iconst hC (D_X12_closesTaken.g 19 rfl) ?_
        exact hj_35 0 M6 h
      exact hj_30 M6 h
    exact hj_30 M_2 h
  exact jr_vret hC (D_X12_closesTaken.g 23 rfl) hr hE h
def f_X12_countsAll (th : Nat) (M : jMem) : Option (Int × jMem) :=
jcall 12 M th (f_X12_closesHoles th M) fun _ M2 =>
jcall 12 M2 th (f_X12_counts th 0 M2) fun v3 M4 =>
some (v3, M4)
theorem D_X12_countsAll : jDs cX12_countsAll [(0, .aload_n 0, 1, 1), (1, .invokevirtual 426, 3, 4), (4, .aload_n 0, 1, 5), (5, .iconst 0, 1, 6), (6, .invokevirtual 429, 3, 9), (9, .ireturn, 1, 10)] := by unfold jDs; decide +kernel
set_option maxRecDepth 100000 in
set_option maxHeartbeats 4000000 in
theorem c_X12_countsAll {E : jE} {th : Nat} {M : jMem} {r : Int} {M' : jMem} (h : f_X12_countsAll th M = some (r, M')) : jMet E yX12_countsAll cX12_countsAll 1 (some .int) 7 0 0 [q_r E th] M (some (q_i r)) M' := by
  unfold f_X12_countsAll at h
  refine jMet.of RX12 rfl (by decide +kernel) (Nat.le_of_ble_eq_true rfl) [(0, q_r E th)] rfl (fun X hC hE hr hn => ?_)
  refine jr_aload_n hC (D_X12_countsAll.g 0 rfl) 0 rfl ?_
  refine jr_cVv hC cl_X12_426 ⟨rfl, by decide⟩ (D_X12_countsAll.g 1 rfl) [] h (fun r M' e => c_X12_closesHoles e) rfl rfl ⟨by decide, by decide⟩ (Nat.le_of_ble_eq_true rfl) ⟨Nat.le_of_ble_eq_true rfl, Nat.le_of_ble_eq_true rfl⟩ (fun _ M2 h => ?_)
  refine jr_aload_n hC (D_X12_countsAll.g 2 rfl) 0 rfl ?_
  refine jr_iconst hC (D_X12_countsAll.g 3 rfl) ?_
  refine jr_cVi hC cl_X12_429 ⟨rfl, by decide⟩ (D_X12_countsAll.g 4 rfl) [q_i 0] h (fun r M' e => c_X12_counts e) rfl rfl ⟨by decide, by decide⟩ (Nat.le_of_ble_eq_true rfl) ⟨Nat.le_of_ble_eq_true rfl, Nat.le_of_ble_eq_true rfl⟩ (fun v3 M4 h => ?_)
  exact jr_iret hC (D_X12_countsAll.g 5 rfl) hr hE h
def f_X12_countsRest (th : Nat) (M : jMem) : Option (Int × jMem) :=
jcall 12 M th (f_X12_closesTaken th M) fun _ M2 =>
jcall 12 M2 th (f_X12_counts th 0 M2) fun v3 M4 =>
some (v3, M4)
theorem D_X12_countsRest : jDs cX12_countsRest [(0, .aload_n 0, 1, 1), (1, .invokevirtual 433, 3, 4), (4, .aload_n 0, 1, 5), (5, .iconst 0, 1, 6), (6, .invokevirtual 429, 3, 9), (9, .ireturn, 1, 10)] := by unfold jDs; decide +kernel
set_option maxRecDepth 100000 in
set_option maxHeartbeats 4000000 in
theorem c_X12_countsRest {E : jE} {th : Nat} {M : jMem} {r : Int} {M' : jMem} (h : f_X12_countsRest th M = some (r, M')) : jMet E yX12_countsRest cX12_countsRest 1 (some .int) 7 0 0 [q_r E th] M (some (q_i r)) M' := by
  unfold f_X12_countsRest at h
  refine jMet.of RX12 rfl (by decide +kernel) (Nat.le_of_ble_eq_true rfl) [(0, q_r E th)] rfl (fun X hC hE hr hn => ?_)
  refine jr_aload_n hC (D_X12_countsRest.g 0 rfl) 0 rfl ?_
  refine jr_cVv hC cl_X12_433 ⟨rfl, by decide⟩ (D_X12_countsRest.g 1 rfl) [] h (fun r M' e => c_X12_closesTaken e) rfl rfl ⟨by decide, by decide⟩ (Nat.le_of_ble_eq_true rfl) ⟨Nat.le_of_ble_eq_true rfl, Nat.le_of_ble_eq_true rfl⟩ (fun _ M2 h => ?_)
  refine jr_aload_n hC (D_X12_countsRest.g 2 rfl) 0 rfl ?_
  refine jr_iconst hC (D_X12_countsRest.g 3 rfl) ?_
  refine jr_cVi hC cl_X12_429 ⟨rfl, by decide⟩ (D_X12_countsRest.g 4 rfl) [q_i 0] h (fun r M' e => c_X12_counts e) rfl rfl ⟨by decide, by decide⟩ (Nat.le_of_ble_eq_true rfl) ⟨Nat.le_of_ble_eq_true rfl, Nat.le_of_ble_eq_true rfl⟩ (fun v3 M4 h => ?_)
  exact jr_iret hC (D_X12_countsRest.g 5 rfl) hr hE h
def f_X12_all (th : Nat) (M : jMem) : Option (Int × jMem) :=
jcall 12 M th (f_X12_countsAll th M) fun v1 M2 =>
some (v1, M2)
theorem D_X12_all : jDs cX12_all [(0, .aload_n 0, 1, 1), (1, .invokevirtual 436, 3, 4), (4, .ireturn, 1, 5)] := by unfold jDs; decide +kernel
set_option maxRecDepth 100000 in
set_option maxHeartbeats 4000000 in
theorem c_X12_all {E : jE} {th : Nat} {M : jMem} {r : Int} {M' : jMem} (h : f_X12_all th M = some (r, M')) : jMet E yX12_all cX12_all 1 (some .int) 8 0 0 [q_r E th] M (some (q_i r)) M' := by
  unfold f_X12_all at h
  refine jMet.of RX12 rfl (by decide +kernel) (Nat.le_of_ble_eq_true rfl) [(0, q_r E th)] rfl (fun X hC hE hr hn => ?_)
  refine jr_aload_n hC (D_X12_all.g 0 rfl) 0 rfl ?_
  refine jr_cVi hC cl_X12_436 ⟨rfl, by decide⟩ (D_X12_all.g 1 rfl) [] h (fun r M' e => c_X12_countsAll e) rfl rfl ⟨by decide, by decide⟩ (Nat.le_of_ble_eq_true rfl) ⟨Nat.le_of_ble_eq_true rfl, Nat.le_of_ble_eq_true rfl⟩ (fun v1 M2 h => ?_)
  exact jr_iret hC (D_X12_all.g 2 rfl) hr hE h
def f_X12_rest (th : Nat) (M : jMem) : Option (Int × jMem) :=
jcall 12 M th (f_X12_copies th M) fun _ M2 =>
jcall 12 M2 th (f_X12_countsRest th M2) fun v3 M4 =>
some (v3, M4)
theorem D_X12_rest : jDs cX12_rest [(0, .aload_n 0, 1, 1), (1, .invokevirtual 385, 3, 4), (4, .aload_n 0, 1, 5), (5, .invokevirtual 439, 3, 8), (8, .ireturn, 1, 9)] := by unfold jDs; decide +kernel
set_option maxRecDepth 100000 in
set_option maxHeartbeats 4000000 in
theorem c_X12_rest {E : jE} {th : Nat} {M : jMem} {r : Int} {M' : jMem} (h : f_X12_rest th M = some (r, M')) : jMet E yX12_rest cX12_rest 1 (some .int) 8 0 0 [q_r E th] M (some (q_i r)) M' := by
  unfold f_X12_rest at h
  refine jMet.of RX12 rfl (by decide +kernel) (Nat.le_of_ble_eq_true rfl) [(0, q_r E th)] rfl (fun X hC hE hr hn => ?_)
  refine jr_aload_n hC (D_X12_rest.g 0 rfl) 0 rfl ?_
  refine jr_cVv hC cl_X12_385 ⟨rfl, by decide⟩ (D_X12_rest.g 1 rfl) [] h (fun r M' e => c_X12_copies e) rfl rfl ⟨by decide, by decide⟩ (Nat.le_of_ble_eq_true rfl) ⟨Nat.le_of_ble_eq_true rfl, Nat.le_of_ble_eq_true rfl⟩ (fun _ M2 h => ?_)
  refine jr_aload_n hC (D_X12_rest.g 2 rfl) 0 rfl ?_
  refine jr_cVi hC cl_X12_439 ⟨rfl, by decide⟩ (D_X12_rest.g 3 rfl) [] h (fun r M' e => c_X12_countsRest e) rfl rfl ⟨by decide, by decide⟩ (Nat.le_of_ble_eq_true rfl) ⟨Nat.le_of_ble_eq_true rfl, Nat.le_of_ble_eq_true rfl⟩ (fun v3 M4 h => ?_)
  exact jr_iret hC (D_X12_rest.g 4 rfl) hr hE h
def f_X12_countsWith (th : Nat) (x1 : Int) (x2 : Int) (M : jMem) : Option (Int × jMem) :=
jcall 12 M th (f_X12_closesTaken th M) fun _ M2 =>
if jd_wr x2 < 0 then (some (0, M2))
else ((jm_gR 12 57 M2 th).bind fun r3 =>
(jm_ld 22 M2 r3 x1).bind fun v4 =>
if jd_wr v4 = 0 then ((jm_gR 12 57 M2 th).bind fun r5 =>
(jm_ld 22 M2 r5 x2).bind fun v6 =>
if jd_wr v6 = 0 then ((jm_gR 12 57 M2 th).bind fun r7 =>
(jm_st 22 M2 r7 x1 (jd_z 1)).bind fun M8 =>
(jm_gR 12 57 M8 th).bind fun r9 =>
(jm_st 22 M8 r9 x2 (jd_z 1)).bind fun M10 =>
jcall 12 M10 th (f_X12_counts th 0 M10) fun v11 M12 =>
some (v11, M12))
else (some (0, M2)))
else (some (0, M2)))
theorem D_X12_countsWith : jDs cX12_countsWith [(0, .aload_n 0, 1, 1), (1, .invokevirtual 433, 3, 4), (4, .iload_n 2, 1, 5), (5, .ifCond .lt 21, 3, 8), (8, .aload_n 0, 1, 9), (9, .getfield 134, 3, 12), (12, .iload_n 1, 1, 13), (13, .baload, 1, 14), (14, .ifCond .ne 12, 3, 17), (17, .aload_n 0, 1, 18), (18, .getfield 134, 3, 21), (21, .iload_n 2, 1, 22), (22, .baload, 1, 23), (23, .ifCond .eq 5, 3, 26), (26, .iconst 0, 1, 27), (27, .ireturn, 1, 28), (28, .aload_n 0, 1, 29), (29, .getfield 134, 3, 32), (32, .iload_n 1, 1, 33), (33, .iconst 1, 1, 34), (34, .bastore, 1, 35), (35, .aload_n 0, 1, 36), (36, .getfield 134, 3, 39), (39, .iload_n 2, 1, 40), (40, .iconst 1, 1, 41), (41, .bastore, 1, 42), (42, .aload_n 0, 1, 43), (43, .iconst 0, 1, 44), (44, .invokevirtual 429, 3, 47), (47, .ireturn, 1, 48)] := by unfold jDs; decide +kernel
set_option maxRecDepth 100000 in
set_option maxHeartbeats 4000000 in
theorem c_X12_countsWith {E : jE} {th : Nat} {x1 : Int} {x2 : Int} {M : jMem} {r : Int} {M' : jMem} (h : f_X12_countsWith th x1 x2 M = some (r, M')) : jMet E yX12_countsWith cX12_countsWith 3 (some .int) 7 0 0 [q_r E th, q_i x1, q_i x2] M (some (q_i r)) M' := by
  unfold f_X12_countsWith at h
  refine jMet.of RX12 rfl (by decide +kernel) (Nat.le_of_ble_eq_true rfl) [(0, q_r E th), (1, q_i x1), (2, q_i x2)] rfl (fun X hC hE hr hn => ?_)
  refine jr_aload_n hC (D_X12_countsWith.g 0 rfl) 0 rfl ?_
  refine jr_cVv hC cl_X12_433 ⟨rfl, by decide⟩ (D_X12_countsWith.g 1 rfl) [] h (fun r M' e => c_X12_closesTaken e) rfl rfl ⟨by decide, by decide⟩ (Nat.le_of_ble_eq_true rfl) ⟨Nat.le_of_ble_eq_true rfl, Nat.le_of_ble_eq_true rfl⟩ (fun _ M2 h => ?_)
  refine jr_iload_n hC (D_X12_countsWith.g 2 rfl) 2 rfl ?_
  refine jr_if_lt hC (D_X12_countsWith.g 3 rfl) 26 rfl h (fun h => ?_) (fun h => ?_)
  · refine jr_iconst hC (D_X12_countsWith.g 14 rfl) ?_
    exact jr_iret hC (D_X12_countsWith.g 15 rfl) hr hE h
  refine jr_aload_n hC (D_X12_countsWith.g 4 rfl) 0 rfl ?_
  refine jr_getR hC fl_X12_134 rfl (D_X12_countsWith.g 5 rfl) h (fun r3 h => ?_)
  refine jr_iload_n hC (D_X12_countsWith.g 6 rfl) 1 rfl ?_
  refine jr_zald hC (D_X12_countsWith.g 7 rfl) h (fun v4 h => ?_)
  refine jr_if_ne hC (D_X12_countsWith.g 8 rfl) 26 rfl h (fun h => ?_) (fun h => ?_)
  · refine jr_aload_n hC (D_X12_countsWith.g 9 rfl) 0 rfl ?_
    refine jr_getR hC fl_X12_134 rfl (D_X12_countsWith.g 10 rfl) h (fun r5 h => ?_)
    refine jr_iload_n hC (D_X12_countsWith.g 11 rfl) 2 rfl ?_
    refine jr_zald hC (D_X12_countsWith.g 12 rfl) h (fun v6 h => ?_)
    refine jr_if_eq hC (D_X12_countsWith.g 13 rfl) 28 rfl h (fun h => ?_) (fun h => ?_)
    · refine jr_aload_n hC (D_X12_countsWith.g 16 rfl) 0 rfl ?_
      refine jr_getR hC fl_X12_134 rfl (D_X12_countsWith.g 17 rfl) h (fun r7 h => ?_)
      refine jr_iload_n hC (D_X12_countsWith.g 18 rfl) 1 rfl ?_
      refine jr_iconst hC (D_X12_countsWith.g 19 rfl) ?_
      refine jr_zast hC (D_X12_countsWith.g 20 rfl) h (fun M8 _ h => ?_)
      refine jr_aload_n hC (D_X12_countsWith.g 21 rfl) 0 rfl ?_
      refine jr_getR hC fl_X12_134 rfl (D_X12_countsWith.g 22 rfl) h (fun r9 h => ?_)
      refine jr_iload_n hC (D_X12_countsWith.g 23 rfl) 2 rfl ?_
      refine jr_iconst hC (D_X12_countsWith.g 24 rfl) ?_
      refine jr_zast hC (D_X12_countsWith.g 25 rfl) h (fun M10 _ h => ?_)
      refine jr_aload_n hC (D_X12_countsWith.g 26 rfl) 0 rfl ?_
      refine jr_iconst hC (D_X12_countsWith.g 27 rfl) ?_
      refine jr_cVi hC cl_X12_429 ⟨rfl, by decide⟩ (D_X12_countsWith.g 28 rfl) [q_i 0] h (fun r M' e => c_X12_counts e) rfl rfl ⟨by decide, by decide⟩ (Nat.le_of_ble_eq_true rfl) ⟨Nat.le_of_ble_eq_true rfl, Nat.le_of_ble_eq_true rfl⟩ (fun v11 M12 h => ?_)
      exact jr_iret hC (D_X12_countsWith.g 29 rfl) hr hE h
    refine jr_iconst hC (D_X12_countsWith.g 14 rfl) ?_
    exact jr_iret hC (D_X12_countsWith.g 15 rfl) hr hE h
  refine jr_iconst hC (D_X12_countsWith.g 14 rfl) ?_
  exact jr_iret hC (D_X12_countsWith.g 15 rfl) hr hE h
def f_X12_cellBeside (th : Nat) (x1 : Int) (x2 : Int) (M : jMem) : Option (Int × jMem) :=
if jd_wr x2 = 0 then (jcall 12 M th (f_X12_secondCell th x1 0 M) fun v1 M2 =>
some (v1, M2))
else if jd_wr x2 = 1 then (jcall 12 M th (f_X12_secondCell th x1 1 M) fun v3 M4 =>
some (v3, M4))
else if jd_wr x2 = 2 then (jcall 12 M th (f_X12_w th M) fun v5 M6 =>
(jm_rm x1 v5).bind fun v7 =>
if jd_wr v7 = 0 then (some ((-1), M6))
else (some ((x1 - 1), M6)))
else (jcall 12 M th (f_X12_w th M) fun v8 M9 =>
if jd_wr x1 < jd_wr v8 then (some ((-1), M9))
else (jcall 12 M9 th (f_X12_w th M9) fun v10 M11 =>
some ((x1 - v10), M11)))
theorem D_X12_cellBeside : jDs cX12_cellBeside [(0, .iload_n 2, 1, 1), (1, .tableswitch 58 0 2 #[27, 34, 41], 27, 28), (28, .aload_n 0, 1, 29), (29, .iload_n 1, 1, 30), (30, .iconst 0, 1, 31), (31, .invokevirtual 364, 3, 34), (34, .ireturn, 1, 35), (35, .aload_n 0, 1, 36), (36, .iload_n 1, 1, 37), (37, .iconst 1, 1, 38), (38, .invokevirtual 364, 3, 41), (41, .ireturn, 1, 42), (42, .iload_n 1, 1, 43), (43, .aload_n 0, 1, 44), (44, .invokevirtual 322, 3, 47), (47, .irem, 1, 48), (48, .ifCond .ne 7, 3, 51), (51, .iconst (-1), 1, 52), (52, .goto 6, 3, 55), (55, .iload_n 1, 1, 56), (56, .iconst 1, 1, 57), (57, .isub, 1, 58), (58, .ireturn, 1, 59), (59, .iload_n 1, 1, 60), (60, .aload_n 0, 1, 61), (61, .invokevirtual 322, 3, 64), (64, .if_icmp .ge 7, 3, 67), (67, .iconst (-1), 1, 68), (68, .goto 9, 3, 71), (71, .iload_n 1, 1, 72), (72, .aload_n 0, 1, 73), (73, .invokevirtual 322, 3, 76), (76, .isub, 1, 77), (77, .ireturn, 1, 78)] := by unfold jDs; decide +kernel
set_option maxRecDepth 100000 in
set_option maxHeartbeats 4000000 in
theorem c_X12_cellBeside {E : jE} {th : Nat} {x1 : Int} {x2 : Int} {M : jMem} {r : Int} {M' : jMem} (h : f_X12_cellBeside th x1 x2 M = some (r, M')) : jMet E yX12_cellBeside cX12_cellBeside 3 (some .int) 4 0 0 [q_r E th, q_i x1, q_i x2] M (some (q_i r)) M' := by
  unfold f_X12_cellBeside at h
  refine jMet.of RX12 rfl (by decide +kernel) (Nat.le_of_ble_eq_true rfl) [(0, q_r E th), (1, q_i x1), (2, q_i x2)] rfl (fun X hC hE hr hn => ?_)
  refine jr_iload_n hC (D_X12_cellBeside.g 0 rfl) 2 rfl ?_
  by_cases c_0 : jd_wr x2 = 0
  · have h := jif_t h c_0
    refine jr_tswIn hC (D_X12_cellBeside.g 1 rfl) 0 c_0 (by decide) rfl 28 rfl ?_
    refine jr_aload_n hC (D_X12_cellBeside.g 2 rfl) 0 rfl ?_
    refine jr_iload_n hC (D_X12_cellBeside.g 3 rfl) 1 rfl ?_
    refine jr_iconst hC (D_X12_cellBeside.g 4 rfl) ?_
    refine jr_cVi hC cl_X12_364 ⟨rfl, by decide⟩ (D_X12_cellBeside.g 5 rfl) [q_i x1, q_i 0] h (fun r M' e => c_X12_secondCell e) rfl rfl ⟨by decide, by decide⟩ (Nat.le_of_ble_eq_true rfl) ⟨Nat.le_of_ble_eq_true rfl, Nat.le_of_ble_eq_true rfl⟩ (fun v1 M2 h => ?_)
    exact jr_iret hC (D_X12_cellBeside.g 6 rfl) hr hE h
  replace h := jif_f h c_0
  by_cases c_1 : jd_wr x2 = 1
  · have h := jif_t h c_1
    refine jr_tswIn hC (D_X12_cellBeside.g 1 rfl) 1 c_1 (by decide) rfl 35 rfl ?_
    refine jr_aload_n hC (D_X12_cellBeside.g 7 rfl) 0 rfl ?_
    refine jr_iload_n hC (D_X12_cellBeside.g 8 rfl) 1 rfl ?_
    refine jr_iconst hC (D_X12_cellBeside.g 9 rfl) ?_
    refine jr_cVi hC cl_X12_364 ⟨rfl, by decide⟩ (D_X12_cellBeside.g 10 rfl) [q_i x1, q_i 1] h (fun r M' e => c_X12_secondCell e) rfl rfl ⟨by decide, by decide⟩ (Nat.le_of_ble_eq_true rfl) ⟨Nat.le_of_ble_eq_true rfl, Nat.le_of_ble_eq_true rfl⟩ (fun v3 M4 h => ?_)
    exact jr_iret hC (D_X12_cellBeside.g 11 rfl) hr hE h
  replace h := jif_f h c_1
  by_cases c_2 : jd_wr x2 = 2
  · have h := jif_t h c_2
    refine jr_tswIn hC (D_X12_cellBeside.g 1 rfl) 2 c_2 (by decide) rfl 42 rfl ?_
    refine jr_iload_n hC (D_X12_cellBeside.g 12 rfl) 1 rfl ?_
    refine jr_aload_n hC (D_X12_cellBeside.g 13 rfl) 0 rfl ?_
    refine jr_cVi hC cl_X12_322 ⟨rfl, by decide⟩ (D_X12_cellBeside.g 14 rfl) [] h (fun r M' e => c_X12_w e) rfl rfl ⟨by decide, by decide⟩ (Nat.le_of_ble_eq_true rfl) ⟨Nat.le_of_ble_eq_true rfl, Nat.le_of_ble_eq_true rfl⟩ (fun v5 M6 h => ?_)
    refine jr_irem hC (D_X12_cellBeside.g 15 rfl) h (fun v7 _ h => ?_)
    refine jr_if_ne hC (D_X12_cellBeside.g 16 rfl) 55 rfl h (fun h => ?_) (fun h => ?_)
    · refine jr_iconst hC (D_X12_cellBeside.g 17 rfl) ?_
      refine jr_goto hC (D_X12_cellBeside.g 18 rfl) 58 rfl ?_
      exact jr_iret hC (D_X12_cellBeside.g 22 rfl) hr hE h
    refine jr_iload_n hC (D_X12_cellBeside.g 19 rfl) 1 rfl ?_
    refine jr_iconst hC (D_X12_cellBeside.g 20 rfl) ?_
    refine jr_isub hC (D_X12_cellBeside.g 21 rfl) ?_
    exact jr_iret hC (D_X12_cellBeside.g 22 rfl) hr hE h
  replace h := jif_f h c_2
  refine jr_tswOut hC (D_X12_cellBeside.g 1 rfl) (by omega) 59 rfl ?_
  refine jr_iload_n hC (D_X12_cellBeside.g 23 rfl) 1 rfl ?_
  refine jr_aload_n hC (D_X12_cellBeside.g 24 rfl) 0 rfl ?_
  refine jr_cVi hC cl_X12_322 ⟨rfl, by decide⟩ (D_X12_cellBeside.g 25 rfl) [] h (fun r M' e => c_X12_w e) rfl rfl ⟨by decide, by decide⟩ (Nat.le_of_ble_eq_true rfl) ⟨Nat.le_of_ble_eq_true rfl, Nat.le_of_ble_eq_true rfl⟩ (fun v8 M9 h => ?_)
  refine jr_icmp_ge hC (D_X12_cellBeside.g 26 rfl) 71 rfl h (fun h => ?_) (fun h => ?_)
  · refine jr_iconst hC (D_X12_cellBeside.g 27 rfl) ?_
    refine jr_goto hC (D_X12_cellBeside.g 28 rfl) 77 rfl ?_
    exact jr_iret hC (D_X12_cellBeside.g 33 rfl) hr hE h
  refine jr_iload_n hC (D_X12_cellBeside.g 29 rfl) 1 rfl ?_
  refine jr_aload_n hC (D_X12_cellBeside.g 30 rfl) 0 rfl ?_
  refine jr_cVi hC cl_X12_322 ⟨rfl, by decide⟩ (D_X12_cellBeside.g 31 rfl) [] h (fun r M' e => c_X12_w e) rfl rfl ⟨by decide, by decide⟩ (Nat.le_of_ble_eq_true rfl) ⟨Nat.le_of_ble_eq_true rfl, Nat.le_of_ble_eq_true rfl⟩ (fun v10 M11 h => ?_)
  refine jr_isub hC (D_X12_cellBeside.g 32 rfl) ?_
  exact jr_iret hC (D_X12_cellBeside.g 33 rfl) hr hE h
def f_X12_across (th : Nat) (x1 : Int) (M : jMem) : Option (Int × jMem) :=
jcall 12 M th (f_X12_isCell th x1 M) fun v1 M2 =>
if jd_wr v1 = 0 then (some ((-1), M2))
else ((jm_gR 12 50 M2 th).bind fun r3 =>
(jm_ld 22 M2 r3 x1).bind fun v4 =>
if jd_wr v4 = 0 then (jcall 12 M2 th (f_X12_copies th M2) fun _ M6 =>
jcall 12 M6 th (f_X12_coupleAt th x1 M6) fun v7 M8 =>
if jd_wr v7 < 0 then (jcall 12 M8 th (f_X12_cellBeside th x1 0 M8) fun v9 M10 =>
jcall 12 M10 th (f_X12_countsWith th x1 v9 M10) fun v11 M12 =>
jcall 12 M12 th (f_X12_cellBeside th x1 2 M12) fun v13 M14 =>
jcall 12 M14 th (f_X12_countsWith th x1 v13 M14) fun v15 M16 =>
some ((v11 + v15), M16))
else ((jm_gR 12 48 M8 th).bind fun r17 =>
(jm_ld 20 M8 r17 (18 + v7)).bind fun v18 =>
if jd_wr v18 = 0 then (jcall 12 M8 th (f_X12_countsRest th M8) fun v19 M20 =>
some (v19, M20))
else (some (0, M8))))
else (some ((-1), M2)))
theorem D_X12_across : jDs cX12_across [(0, .aload_n 0, 1, 1), (1, .iload_n 1, 1, 2), (2, .invokevirtual 338, 3, 5), (5, .ifCond .eq 12, 3, 8), (8, .aload_n 0, 1, 9), (9, .getfield 116, 3, 12), (12, .iload_n 1, 1, 13), (13, .baload, 1, 14), (14, .ifCond .eq 5, 3, 17), (17, .iconst (-1), 1, 18), (18, .ireturn, 1, 19), (19, .aload_n 0, 1, 20), (20, .invokevirtual 385, 3, 23), (23, .aload_n 0, 1, 24), (24, .iload_n 1, 1, 25), (25, .invokevirtual 341, 3, 28), (28, .istore_n 2, 1, 29), (29, .iload_n 2, 1, 30), (30, .ifCond .lt 24, 3, 33), (33, .aload_n 0, 1, 34), (34, .getfield 113, 3, 37), (37, .bipush 18, 2, 39), (39, .iload_n 2, 1, 40), (40, .iadd, 1, 41), (41, .iaload, 1, 42), (42, .ifCond .ne 10, 3, 45), (45, .aload_n 0, 1, 46), (46, .invokevirtual 439, 3, 49), (49, .goto 4, 3, 52), (52, .iconst 0, 1, 53), (53, .ireturn, 1, 54), (54, .aload_n 0, 1, 55), (55, .iload_n 1, 1, 56), (56, .aload_n 0, 1, 57), (57, .iload_n 1, 1, 58), (58, .iconst 0, 1, 59), (59, .invokevirtual 442, 3, 62), (62, .invokevirtual 445, 3, 65), (65, .aload_n 0, 1, 66), (66, .iload_n 1, 1, 67), (67, .aload_n 0, 1, 68), (68, .iload_n 1, 1, 69), (69, .iconst 2, 1, 70), (70, .invokevirtual 442, 3, 73), (73, .invokevirtual 445, 3, 76), (76, .iadd, 1, 77), (77, .ireturn, 1, 78)] := by unfold jDs; decide +kernel
set_option maxRecDepth 100000 in
set_option maxHeartbeats 4000000 in
theorem c_X12_across {E : jE} {th : Nat} {x1 : Int} {M : jMem} {r : Int} {M' : jMem} (h : f_X12_across th x1 M = some (r, M')) : jMet E yX12_across cX12_across 3 (some .int) 8 0 0 [q_r E th, q_i x1] M (some (q_i r)) M' := by
  unfold f_X12_across at h
  refine jMet.of RX12 rfl (by decide +kernel) (Nat.le_of_ble_eq_true rfl) [(0, q_r E th), (1, q_i x1)] rfl (fun X hC hE hr hn => ?_)
  refine jr_aload_n hC (D_X12_across.g 0 rfl) 0 rfl ?_
  refine jr_iload_n hC (D_X12_across.g 1 rfl) 1 rfl ?_
  refine jr_cVi hC cl_X12_338 ⟨rfl, by decide⟩ (D_X12_across.g 2 rfl) [q_i x1] h (fun r M' e => c_X12_isCell e) rfl rfl ⟨by decide, by decide⟩ (Nat.le_of_ble_eq_true rfl) ⟨Nat.le_of_ble_eq_true rfl, Nat.le_of_ble_eq_true rfl⟩ (fun v1 M2 h => ?_)
  refine jr_if_eq hC (D_X12_across.g 3 rfl) 17 rfl h (fun h => ?_) (fun h => ?_)
  · refine jr_iconst hC (D_X12_across.g 9 rfl) ?_
    exact jr_iret hC (D_X12_across.g 10 rfl) hr hE h
  refine jr_aload_n hC (D_X12_across.g 4 rfl) 0 rfl ?_
  refine jr_getR hC fl_X12_116 rfl (D_X12_across.g 5 rfl) h (fun r3 h => ?_)
  refine jr_iload_n hC (D_X12_across.g 6 rfl) 1 rfl ?_
  refine jr_zald hC (D_X12_across.g 7 rfl) h (fun v4 h => ?_)
  refine jr_if_eq hC (D_X12_across.g 8 rfl) 19 rfl h (fun h => ?_) (fun h => ?_)
  · refine jr_aload_n hC (D_X12_across.g 11 rfl) 0 rfl ?_
    refine jr_cVv hC cl_X12_385 ⟨rfl, by decide⟩ (D_X12_across.g 12 rfl) [] h (fun r M' e => c_X12_copies e) rfl rfl ⟨by decide, by decide⟩ (Nat.le_of_ble_eq_true rfl) ⟨Nat.le_of_ble_eq_true rfl, Nat.le_of_ble_eq_true rfl⟩ (fun _ M6 h => ?_)
    refine jr_aload_n hC (D_X12_across.g 13 rfl) 0 rfl ?_
    refine jr_iload_n hC (D_X12_across.g 14 rfl) 1 rfl ?_
    refine jr_cVi hC cl_X12_341 ⟨rfl, by decide⟩ (D_X12_across.g 15 rfl) [q_i x1] h (fun r M' e => c_X12_coupleAt e) rfl rfl ⟨by decide, by decide⟩ (Nat.le_of_ble_eq_true rfl) ⟨Nat.le_of_ble_eq_true rfl, Nat.le_of_ble_eq_true rfl⟩ (fun v7 M8 h => ?_)
    refine jr_istore_n hC (D_X12_across.g 16 rfl) (by decide) rfl ?_
    refine jr_iload_n hC (D_X12_across.g 17 rfl) 0 rfl ?_
    refine jr_if_lt hC (D_X12_across.g 18 rfl) 54 rfl h (fun h => ?_) (fun h => ?_)
    · refine jr_aload_n hC (D_X12_across.g 31 rfl) 1 rfl ?_
      refine jr_iload_n hC (D_X12_across.g 32 rfl) 2 rfl ?_
      refine jr_aload_n hC (D_X12_across.g 33 rfl) 1 rfl ?_
      refine jr_iload_n hC (D_X12_across.g 34 rfl) 2 rfl ?_
      refine jr_iconst hC (D_X12_across.g 35 rfl) ?_
      refine jr_cVi hC cl_X12_442 ⟨rfl, by decide⟩ (D_X12_across.g 36 rfl) [q_i x1, q_i 0] h (fun r M' e => c_X12_cellBeside e) rfl rfl ⟨by decide, by decide⟩ (Nat.le_of_ble_eq_true rfl) ⟨Nat.le_of_ble_eq_true rfl, Nat.le_of_ble_eq_true rfl⟩ (fun v9 M10 h => ?_)
      refine jr_cVi hC cl_X12_445 ⟨rfl, by decide⟩ (D_X12_across.g 37 rfl) [q_i x1, q_i v9] h (fun r M' e => c_X12_countsWith e) rfl rfl ⟨by decide, by decide⟩ (Nat.le_of_ble_eq_true rfl) ⟨Nat.le_of_ble_eq_true rfl, Nat.le_of_ble_eq_true rfl⟩ (fun v11 M12 h => ?_)
      refine jr_aload_n hC (D_X12_across.g 38 rfl) 1 rfl ?_
      refine jr_iload_n hC (D_X12_across.g 39 rfl) 2 rfl ?_
      refine jr_aload_n hC (D_X12_across.g 40 rfl) 1 rfl ?_
      refine jr_iload_n hC (D_X12_across.g 41 rfl) 2 rfl ?_
      refine jr_iconst hC (D_X12_across.g 42 rfl) ?_
      refine jr_cVi hC cl_X12_442 ⟨rfl, by decide⟩ (D_X12_across.g 43 rfl) [q_i x1, q_i 2] h (fun r M' e => c_X12_cellBeside e) rfl rfl ⟨by decide, by decide⟩ (Nat.le_of_ble_eq_true rfl) ⟨Nat.le_of_ble_eq_true rfl, Nat.le_of_ble_eq_true rfl⟩ (fun v13 M14 h => ?_)
      refine jr_cVi hC cl_X12_445 ⟨rfl, by decide⟩ (D_X12_across.g 44 rfl) [q_i x1, q_i v13] h (fun r M' e => c_X12_countsWith e) rfl rfl ⟨by decide, by decide⟩ (Nat.le_of_ble_eq_true rfl) ⟨Nat.le_of_ble_eq_true rfl, Nat.le_of_ble_eq_true rfl⟩ (fun v15 M16 h => ?_)
      refine jr_iadd hC (D_X12_across.g 45 rfl) ?_
      exact jr_iret hC (D_X12_across.g 46 rfl) hr hE h
    refine jr_aload_n hC (D_X12_across.g 19 rfl) 1 rfl ?_
    refine jr_getR hC fl_X12_113 rfl (D_X12_across.g 20 rfl) h (fun r17 h => ?_)
    refine jr_bipush hC (D_X12_across.g 21 rfl) bp_18 ?_
    refine jr_iload_n hC (D_X12_across.g 22 rfl) 0 rfl ?_
    refine jr_iadd hC (D_X12_across.g 23 rfl) ?_
    refine jr_iald hC (D_X12_across.g 24 rfl) h (fun v18 h => ?_)
    refine jr_if_ne hC (D_X12_across.g 25 rfl) 52 rfl h (fun h => ?_) (fun h => ?_)
    · refine jr_aload_n hC (D_X12_across.g 26 rfl) 1 rfl ?_
      refine jr_cVi hC cl_X12_439 ⟨rfl, by decide⟩ (D_X12_across.g 27 rfl) [] h (fun r M' e => c_X12_countsRest e) rfl rfl ⟨by decide, by decide⟩ (Nat.le_of_ble_eq_true rfl) ⟨Nat.le_of_ble_eq_true rfl, Nat.le_of_ble_eq_true rfl⟩ (fun v19 M20 h => ?_)
      refine jr_goto hC (D_X12_across.g 28 rfl) 53 rfl ?_
      exact jr_iret hC (D_X12_across.g 30 rfl) hr hE h
    refine jr_iconst hC (D_X12_across.g 29 rfl) ?_
    exact jr_iret hC (D_X12_across.g 30 rfl) hr hE h
  refine jr_iconst hC (D_X12_across.g 9 rfl) ?_
  exact jr_iret hC (D_X12_across.g 10 rfl) hr hE h
def f_X12_frozenAt (th : Nat) (x1 : Int) (x2 : Int) (M : jMem) : Option (Int × jMem) :=
if jd_wr x2 = 0 then (some ((-2), M))
else (jcall 12 M th (f_X12_isFree th x1 M) fun v1 M2 =>
if jd_wr v1 = 0 then (some ((-2), M2))
else (jlp2 (fun rec_17 (y3_17 : Int) (M_17 : jMem) =>
if jd_wr y3_17 < jd_wr 4 then (jcall 12 M_17 th (f_X12_cellBeside th x1 y3_17 M_17) fun v3 M4 =>
jcall 12 M4 th (f_X12_countsWith th x1 v3 M4) fun v5 M6 =>
if jd_wr v5 = jd_wr x2 then (jcall 12 M6 th (f_X12_cellBeside th x1 y3_17 M6) fun v7 M8 =>
some (v7, M8))
else (rec_17 (y3_17 + 1) M6))
else (some ((-2), M_17))) jfuel 0 M2))
theorem D_X12_frozenAt : jDs cX12_frozenAt [(0, .iload_n 2, 1, 1), (1, .ifCond .eq 11, 3, 4), (4, .aload_n 0, 1, 5), (5, .iload_n 1, 1, 6), (6, .invokevirtual 391, 3, 9), (9, .ifCond .ne 6, 3, 12), (12, .bipush (-2), 2, 14), (14, .ireturn, 1, 15), (15, .iconst 0, 1, 16), (16, .istore_n 3, 1, 17), (17, .iload_n 3, 1, 18), (18, .iconst 4, 1, 19), (19, .if_icmp .ge 31, 3, 22), (22, .aload_n 0, 1, 23), (23, .iload_n 1, 1, 24), (24, .aload_n 0, 1, 25), (25, .iload_n 1, 1, 26), (26, .iload_n 3, 1, 27), (27, .invokevirtual 442, 3, 30), (30, .invokevirtual 445, 3, 33), (33, .iload_n 2, 1, 34), (34, .if_icmp .ne 10, 3, 37), (37, .aload_n 0, 1, 38), (38, .iload_n 1, 1, 39), (39, .iload_n 3, 1, 40), (40, .invokevirtual 442, 3, 43), (43, .ireturn, 1, 44), (44, .iinc 3 1, 3, 47), (47, .goto (-30), 3, 50), (50, .bipush (-2), 2, 52), (52, .ireturn, 1, 53)] := by unfold jDs; decide +kernel
set_option maxRecDepth 100000 in
set_option maxHeartbeats 4000000 in
theorem c_X12_frozenAt {E : jE} {th : Nat} {x1 : Int} {x2 : Int} {M : jMem} {r : Int} {M' : jMem} (h : f_X12_frozenAt th x1 x2 M = some (r, M')) : jMet E yX12_frozenAt cX12_frozenAt 4 (some .int) 8 0 0 [q_r E th, q_i x1, q_i x2] M (some (q_i r)) M' := by
  unfold f_X12_frozenAt at h
  refine jMet.of RX12 rfl (by decide +kernel) (Nat.le_of_ble_eq_true rfl) [(0, q_r E th), (1, q_i x1), (2, q_i x2)] rfl (fun X hC hE hr hn => ?_)
  refine jr_iload_n hC (D_X12_frozenAt.g 0 rfl) 2 rfl ?_
  refine jr_if_eq hC (D_X12_frozenAt.g 1 rfl) 12 rfl h (fun h => ?_) (fun h => ?_)
  · refine jr_bipush hC (D_X12_frozenAt.g 6 rfl) bp_m2 ?_
    exact jr_iret hC (D_X12_frozenAt.g 7 rfl) hr hE h
  refine jr_aload_n hC (D_X12_frozenAt.g 2 rfl) 0 rfl ?_
  refine jr_iload_n hC (D_X12_frozenAt.g 3 rfl) 1 rfl ?_
  refine jr_cVi hC cl_X12_391 ⟨rfl, by decide⟩ (D_X12_frozenAt.g 4 rfl) [q_i x1] h (fun r M' e => c_X12_isFree e) rfl rfl ⟨by decide, by decide⟩ (Nat.le_of_ble_eq_true rfl) ⟨Nat.le_of_ble_eq_true rfl, Nat.le_of_ble_eq_true rfl⟩ (fun v1 M2 h => ?_)
  refine jr_if_ne hC (D_X12_frozenAt.g 5 rfl) 15 rfl h (fun h => ?_) (fun h => ?_)
  · refine jr_bipush hC (D_X12_frozenAt.g 6 rfl) bp_m2 ?_
    exact jr_iret hC (D_X12_frozenAt.g 7 rfl) hr hE h
  refine jr_iconst hC (D_X12_frozenAt.g 8 rfl) ?_
  refine jr_istore_n hC (D_X12_frozenAt.g 9 rfl) (by decide) rfl ?_
  refine jr_pick [1, 2, 3, 0] rfl ?_
  refine jr_lp2 (fun (y3_17 : Int) (M_17 : jMem) => JW E X 4 0 0 M_17 17 [(0, q_r E th), (1, q_i x1), (2, q_i x2), (3, q_i y3_17)] []) ?_ jfuel 0 M2 h
  intro rec_17 hrec_17 y3_17 M_17 h
  refine jr_iload_n hC (D_X12_frozenAt.g 10 rfl) 3 rfl ?_
  refine jr_iconst hC (D_X12_frozenAt.g 11 rfl) ?_
  refine jr_icmp_ge hC (D_X12_frozenAt.g 12 rfl) 50 rfl h (fun h => ?_) (fun h => ?_)
  · refine jr_aload_n hC (D_X12_frozenAt.g 13 rfl) 0 rfl ?_
    refine jr_iload_n hC (D_X12_frozenAt.g 14 rfl) 1 rfl ?_
    refine jr_aload_n hC (D_X12_frozenAt.g 15 rfl) 0 rfl ?_
    refine jr_iload_n hC (D_X12_frozenAt.g 16 rfl) 1 rfl ?_
    refine jr_iload_n hC (D_X12_frozenAt.g 17 rfl) 3 rfl ?_
    refine jr_cVi hC cl_X12_442 ⟨rfl, by decide⟩ (D_X12_frozenAt.g 18 rfl) [q_i x1, q_i y3_17] h (fun r M' e => c_X12_cellBeside e) rfl rfl ⟨by decide, by decide⟩ (Nat.le_of_ble_eq_true rfl) ⟨Nat.le_of_ble_eq_true rfl, Nat.le_of_ble_eq_true rfl⟩ (fun v3 M4 h => ?_)
    refine jr_cVi hC cl_X12_445 ⟨rfl, by decide⟩ (D_X12_frozenAt.g 19 rfl) [q_i x1, q_i v3] h (fun r M' e => c_X12_countsWith e) rfl rfl ⟨by decide, by decide⟩ (Nat.le_of_ble_eq_true rfl) ⟨Nat.le_of_ble_eq_true rfl, Nat.le_of_ble_eq_true rfl⟩ (fun v5 M6 h => ?_)
    refine jr_iload_n hC (D_X12_frozenAt.g 20 rfl) 2 rfl ?_
    refine jr_icmp_ne hC (D_X12_frozenAt.g 21 rfl) 44 rfl h (fun h => ?_) (fun h => ?_)
    · refine jr_aload_n hC (D_X12_frozenAt.g 22 rfl) 0 rfl ?_
      refine jr_iload_n hC (D_X12_frozenAt.g 23 rfl) 1 rfl ?_
      refine jr_iload_n hC (D_X12_frozenAt.g 24 rfl) 3 rfl ?_
      refine jr_cVi hC cl_X12_442 ⟨rfl, by decide⟩ (D_X12_frozenAt.g 25 rfl) [q_i x1, q_i y3_17] h (fun r M' e => c_X12_cellBeside e) rfl rfl ⟨by decide, by decide⟩ (Nat.le_of_ble_eq_true rfl) ⟨Nat.le_of_ble_eq_true rfl, Nat.le_of_ble_eq_true rfl⟩ (fun v7 M8 h => ?_)
      exact jr_iret hC (D_X12_frozenAt.g 26 rfl) hr hE h
    refine jr_iinc hC (D_X12_frozenAt.g 27 rfl) 3 rfl (by decide) rfl ?_
    refine jr_goto hC (D_X12_frozenAt.g 28 rfl) 17 rfl ?_
    refine jr_pick [1, 2, 3, 0] rfl ?_
    exact hrec_17 (y3_17 + 1) M6 h
  refine jr_bipush hC (D_X12_frozenAt.g 29 rfl) bp_m2 ?_
  exact jr_iret hC (D_X12_frozenAt.g 30 rfl) hr hE h
def f_X12_frozen (th : Nat) (x1 : Int) (M : jMem) : Option (Int × jMem) :=
jjq (fun (M_15 : jMem) =>
jcall 12 M_15 th (f_X12_copies th M_15) fun _ M2 =>
jcall 12 M2 th (f_X12_countsRest th M2) fun v3 M4 =>
if jd_wr x1 = jd_wr (-1) then (jlp3 (fun rec_41 (y3_41 : Int) (y4_41 : Int) (M_41 : jMem) =>
jcall 12 M_41 th (f_X12_cells th M_41) fun v5 M6 =>
if jd_wr y4_41 < jd_wr v5 then (jcall 12 M6 th (f_X12_frozenAt th y4_41 v3 M6) fun v7 M8 =>
jjq (fun (y3_63 : Int) =>
rec_41 y3_63 (y4_41 + 1) M8) fun j_63 =>
if jd_wr v7 < 0 then (j_63 y3_41)
else (j_63 (y3_41 + 1)))
else (some (y3_41, M6))) jfuel 0 0 M4)
else (jcall 12 M4 th (f_X12_frozenAt th x1 v3 M4) fun v9 M10 =>
some (v9, M10))) fun j_15 =>
if jd_wr x1 = jd_wr (-1) then (j_15 M)
else (jcall 12 M th (f_X12_isCell th x1 M) fun v11 M12 =>
if jd_wr v11 = 0 then (some ((-1), M12))
else (j_15 M12))
theorem D_X12_frozen : jDs cX12_frozen [(0, .iload_n 1, 1, 1), (1, .iconst (-1), 1, 2), (2, .if_icmp .eq 13, 3, 5), (5, .aload_n 0, 1, 6), (6, .iload_n 1, 1, 7), (7, .invokevirtual 338, 3, 10), (10, .ifCond .ne 5, 3, 13), (13, .iconst (-1), 1, 14), (14, .ireturn, 1, 15), (15, .aload_n 0, 1, 16), (16, .invokevirtual 385, 3, 19), (19, .aload_n 0, 1, 20), (20, .invokevirtual 439, 3, 23), (23, .istore_n 2, 1, 24), (24, .iload_n 1, 1, 25), (25, .iconst (-1), 1, 26), (26, .if_icmp .eq 10, 3, 29), (29, .aload_n 0, 1, 30), (30, .iload_n 1, 1, 31), (31, .iload_n 2, 1, 32), (32, .invokevirtual 448, 3, 35), (35, .ireturn, 1, 36), (36, .iconst 0, 1, 37), (37, .istore_n 3, 1, 38), (38, .iconst 0, 1, 39), (39, .istore 4, 2, 41), (41, .iload 4, 2, 43), (43, .aload_n 0, 1, 44), (44, .invokevirtual 314, 3, 47), (47, .if_icmp .ge 22, 3, 50), (50, .aload_n 0, 1, 51), (51, .iload 4, 2, 53), (53, .iload_n 2, 1, 54), (54, .invokevirtual 448, 3, 57), (57, .ifCond .lt 6, 3, 60), (60, .iinc 3 1, 3, 63), (63, .iinc 4 1, 3, 66), (66, .goto (-25), 3, 69), (69, .iload_n 3, 1, 70), (70, .ireturn, 1, 71)] := by unfold jDs; decide +kernel
set_option maxRecDepth 100000 in
set_option maxHeartbeats 4000000 in
theorem c_X12_frozen {E : jE} {th : Nat} {x1 : Int} {M : jMem} {r : Int} {M' : jMem} (h : f_X12_frozen th x1 M = some (r, M')) : jMet E yX12_frozen cX12_frozen 5 (some .int) 9 0 0 [q_r E th, q_i x1] M (some (q_i r)) M' := by
  unfold f_X12_frozen at h
  refine jMet.of RX12 rfl (by decide +kernel) (Nat.le_of_ble_eq_true rfl) [(0, q_r E th), (1, q_i x1)] rfl (fun X hC hE hr hn => ?_)
  refine jr_iload_n hC (D_X12_frozen.g 0 rfl) 1 rfl ?_
  refine jr_iconst hC (D_X12_frozen.g 1 rfl) ?_
  refine jr_join h (fun j => ∀ (M_15 : jMem), j M_15 = some (r, M') → JW E X 5 0 0 M_15 15 [(0, q_r E th), (1, q_i x1)] []) ?_ ?_
  · intro M_15 h
    refine jr_aload_n hC (D_X12_frozen.g 9 rfl) 0 rfl ?_
    refine jr_cVv hC cl_X12_385 ⟨rfl, by decide⟩ (D_X12_frozen.g 10 rfl) [] h (fun r M' e => c_X12_copies e) rfl rfl ⟨by decide, by decide⟩ (Nat.le_of_ble_eq_true rfl) ⟨Nat.le_of_ble_eq_true rfl, Nat.le_of_ble_eq_true rfl⟩ (fun _ M2 h => ?_)
    refine jr_aload_n hC (D_X12_frozen.g 11 rfl) 0 rfl ?_
    refine jr_cVi hC cl_X12_439 ⟨rfl, by decide⟩ (D_X12_frozen.g 12 rfl) [] h (fun r M' e => c_X12_countsRest e) rfl rfl ⟨by decide, by decide⟩ (Nat.le_of_ble_eq_true rfl) ⟨Nat.le_of_ble_eq_true rfl, Nat.le_of_ble_eq_true rfl⟩ (fun v3 M4 h => ?_)
    refine jr_istore_n hC (D_X12_frozen.g 13 rfl) (by decide) rfl ?_
    refine jr_iload_n hC (D_X12_frozen.g 14 rfl) 2 rfl ?_
    refine jr_iconst hC (D_X12_frozen.g 15 rfl) ?_
    refine jr_icmp_eq hC (D_X12_frozen.g 16 rfl) 36 rfl h (fun h => ?_) (fun h => ?_)
    · refine jr_iconst hC (D_X12_frozen.g 22 rfl) ?_
      refine jr_istore_n hC (D_X12_frozen.g 23 rfl) (by decide) rfl ?_
      refine jr_iconst hC (D_X12_frozen.g 24 rfl) ?_
      refine jr_istore hC (D_X12_frozen.g 25 rfl) (by decide) rfl ?_
      refine jr_pick [3, 2, 1, 0] rfl ?_
      refine jr_lp3 (fun (y3_41 : Int) (y4_41 : Int) (M_41 : jMem) => JW E X 5 0 0 M_41 41 [(0, q_r E th), (2, q_i v3), (3, q_i y3_41), (4, q_i y4_41)] []) ?_ jfuel 0 0 M4 h
      intro rec_41 hrec_41 y3_41 y4_41 M_41 h
      refine jr_iload hC (D_X12_frozen.g 26 rfl) 3 rfl ?_
      refine jr_aload_n hC (D_X12_frozen.g 27 rfl) 0 rfl ?_
      refine jr_cVi hC cl_X12_314 ⟨rfl, by decide⟩ (D_X12_frozen.g 28 rfl) [] h (fun r M' e => c_X12_cells e) rfl rfl ⟨by decide, by decide⟩ (Nat.le_of_ble_eq_true rfl) ⟨Nat.le_of_ble_eq_true rfl, Nat.le_of_ble_eq_true rfl⟩ (fun v5 M6 h => ?_)
      refine jr_icmp_ge hC (D_X12_frozen.g 29 rfl) 69 rfl h (fun h => ?_) (fun h => ?_)
      · refine jr_aload_n hC (D_X12_frozen.g 30 rfl) 0 rfl ?_
        refine jr_iload hC (D_X12_frozen.g 31 rfl) 3 rfl ?_
        refine jr_iload_n hC (D_X12_frozen.g 32 rfl) 1 rfl ?_
        refine jr_cVi hC cl_X12_448 ⟨rfl, by decide⟩ (D_X12_frozen.g 33 rfl) [q_i y4_41, q_i v3] h (fun r M' e => c_X12_frozenAt e) rfl rfl ⟨by decide, by decide⟩ (Nat.le_of_ble_eq_true rfl) ⟨Nat.le_of_ble_eq_true rfl, Nat.le_of_ble_eq_true rfl⟩ (fun v7 M8 h => ?_)
        refine jr_join h (fun j => ∀ (y3_63 : Int), j y3_63 = some (r, M') → JW E X 5 0 0 M8 63 [(0, q_r E th), (2, q_i v3), (3, q_i y3_63), (4, q_i y4_41)] []) ?_ ?_
        · intro y3_63 h
          refine jr_iinc hC (D_X12_frozen.g 36 rfl) 3 rfl (by decide) rfl ?_
          refine jr_goto hC (D_X12_frozen.g 37 rfl) 41 rfl ?_
          refine jr_pick [1, 2, 3, 0] rfl ?_
          exact hrec_41 y3_63 (y4_41 + 1) M8 h
        intro j_63 hj_63 h
        refine jr_if_lt hC (D_X12_frozen.g 34 rfl) 63 rfl h (fun h => ?_) (fun h => ?_)
        · exact hj_63 y3_41 h
        refine jr_iinc hC (D_X12_frozen.g 35 rfl) 2 rfl (by decide) rfl ?_
        refine jr_pick [1, 2, 0, 3] rfl ?_
        exact hj_63 (y3_41 + 1) h
      refine jr_iload_n hC (D_X12_frozen.g 38 rfl) 2 rfl ?_
      exact jr_iret hC (D_X12_frozen.g 39 rfl) hr hE h
    refine jr_aload_n hC (D_X12_frozen.g 17 rfl) 1 rfl ?_
    refine jr_iload_n hC (D_X12_frozen.g 18 rfl) 2 rfl ?_
    refine jr_iload_n hC (D_X12_frozen.g 19 rfl) 0 rfl ?_
    refine jr_cVi hC cl_X12_448 ⟨rfl, by decide⟩ (D_X12_frozen.g 20 rfl) [q_i x1, q_i v3] h (fun r M' e => c_X12_frozenAt e) rfl rfl ⟨by decide, by decide⟩ (Nat.le_of_ble_eq_true rfl) ⟨Nat.le_of_ble_eq_true rfl, Nat.le_of_ble_eq_true rfl⟩ (fun v9 M10 h => ?_)
    exact jr_iret hC (D_X12_frozen.g 21 rfl) hr hE h
  intro j_15 hj_15 h
  refine jr_icmp_eq hC (D_X12_frozen.g 2 rfl) 15 rfl h (fun h => ?_) (fun h => ?_)
  · exact hj_15 M h
  refine jr_aload_n hC (D_X12_frozen.g 3 rfl) 0 rfl ?_
  refine jr_iload_n hC (D_X12_frozen.g 4 rfl) 1 rfl ?_
  refine jr_cVi hC cl_X12_338 ⟨rfl, by decide⟩ (D_X12_frozen.g 5 rfl) [q_i x1] h (fun r M' e => c_X12_isCell e) rfl rfl ⟨by decide, by decide⟩ (Nat.le_of_ble_eq_true rfl) ⟨Nat.le_of_ble_eq_true rfl, Nat.le_of_ble_eq_true rfl⟩ (fun v11 M12 h => ?_)
  refine jr_if_ne hC (D_X12_frozen.g 6 rfl) 15 rfl h (fun h => ?_) (fun h => ?_)
  · refine jr_iconst hC (D_X12_frozen.g 7 rfl) ?_
    exact jr_iret hC (D_X12_frozen.g 8 rfl) hr hE h
  exact hj_15 M12 h
def f_X12_more (th : Nat) (M : jMem) : Option (Int × jMem) :=
jcall 12 M th (f_X12_copies th M) fun _ M2 =>
jlp3 (fun rec_8 (y1_8 : Int) (y2_8 : Int) (M_8 : jMem) =>
jcall 12 M_8 th (f_X12_cells th M_8) fun v3 M4 =>
if jd_wr y2_8 < jd_wr v3 then (jcall 12 M4 th (f_X12_isFree th y2_8 M4) fun v5 M6 =>
jjq (fun (y1_40 : Int) (M_40 : jMem) =>
rec_8 y1_40 (y2_8 + 1) M_40) fun j_40 =>
if jd_wr v5 = 0 then (j_40 y1_8 M6)
else (jcall 12 M6 th (f_X12_isBlack th y2_8 M6) fun v7 M8 =>
jjq (fun (z0_38 : Int) =>
j_40 (y1_8 + z0_38) M8) fun j_38 =>
if jd_wr v7 = 0 then (j_38 (-1))
else (j_38 1)))
else (some (y1_8, M4))) jfuel 0 0 M2
theorem D_X12_more : jDs cX12_more [(0, .aload_n 0, 1, 1), (1, .invokevirtual 385, 3, 4), (4, .iconst 0, 1, 5), (5, .istore_n 1, 1, 6), (6, .iconst 0, 1, 7), (7, .istore_n 2, 1, 8), (8, .iload_n 2, 1, 9), (9, .aload_n 0, 1, 10), (10, .invokevirtual 314, 3, 13), (13, .if_icmp .ge 33, 3, 16), (16, .aload_n 0, 1, 17), (17, .iload_n 2, 1, 18), (18, .invokevirtual 391, 3, 21), (21, .ifCond .eq 19, 3, 24), (24, .iload_n 1, 1, 25), (25, .aload_n 0, 1, 26), (26, .iload_n 2, 1, 27), (27, .invokevirtual 388, 3, 30), (30, .ifCond .eq 7, 3, 33), (33, .iconst 1, 1, 34), (34, .goto 4, 3, 37), (37, .iconst (-1), 1, 38), (38, .iadd, 1, 39), (39, .istore_n 1, 1, 40), (40, .iinc 2 1, 3, 43), (43, .goto (-35), 3, 46), (46, .iload_n 1, 1, 47), (47, .ireturn, 1, 48)] := by unfold jDs; decide +kernel
set_option maxRecDepth 100000 in
set_option maxHeartbeats 4000000 in
theorem c_X12_more {E : jE} {th : Nat} {M : jMem} {r : Int} {M' : jMem} (h : f_X12_more th M = some (r, M')) : jMet E yX12_more cX12_more 3 (some .int) 6 0 0 [q_r E th] M (some (q_i r)) M' := by
  unfold f_X12_more at h
  refine jMet.of RX12 rfl (by decide +kernel) (Nat.le_of_ble_eq_true rfl) [(0, q_r E th)] rfl (fun X hC hE hr hn => ?_)
  refine jr_aload_n hC (D_X12_more.g 0 rfl) 0 rfl ?_
  refine jr_cVv hC cl_X12_385 ⟨rfl, by decide⟩ (D_X12_more.g 1 rfl) [] h (fun r M' e => c_X12_copies e) rfl rfl ⟨by decide, by decide⟩ (Nat.le_of_ble_eq_true rfl) ⟨Nat.le_of_ble_eq_true rfl, Nat.le_of_ble_eq_true rfl⟩ (fun _ M2 h => ?_)
  refine jr_iconst hC (D_X12_more.g 2 rfl) ?_
  refine jr_istore_n hC (D_X12_more.g 3 rfl) (by decide) rfl ?_
  refine jr_iconst hC (D_X12_more.g 4 rfl) ?_
  refine jr_istore_n hC (D_X12_more.g 5 rfl) (by decide) rfl ?_
  refine jr_pick [2, 1, 0] rfl ?_
  refine jr_lp3 (fun (y1_8 : Int) (y2_8 : Int) (M_8 : jMem) => JW E X 3 0 0 M_8 8 [(0, q_r E th), (1, q_i y1_8), (2, q_i y2_8)] []) ?_ jfuel 0 0 M2 h
  intro rec_8 hrec_8 y1_8 y2_8 M_8 h
  refine jr_iload_n hC (D_X12_more.g 6 rfl) 2 rfl ?_
  refine jr_aload_n hC (D_X12_more.g 7 rfl) 0 rfl ?_
  refine jr_cVi hC cl_X12_314 ⟨rfl, by decide⟩ (D_X12_more.g 8 rfl) [] h (fun r M' e => c_X12_cells e) rfl rfl ⟨by decide, by decide⟩ (Nat.le_of_ble_eq_true rfl) ⟨Nat.le_of_ble_eq_true rfl, Nat.le_of_ble_eq_true rfl⟩ (fun v3 M4 h => ?_)
  refine jr_icmp_ge hC (D_X12_more.g 9 rfl) 46 rfl h (fun h => ?_) (fun h => ?_)
  · refine jr_aload_n hC (D_X12_more.g 10 rfl) 0 rfl ?_
    refine jr_iload_n hC (D_X12_more.g 11 rfl) 2 rfl ?_
    refine jr_cVi hC cl_X12_391 ⟨rfl, by decide⟩ (D_X12_more.g 12 rfl) [q_i y2_8] h (fun r M' e => c_X12_isFree e) rfl rfl ⟨by decide, by decide⟩ (Nat.le_of_ble_eq_true rfl) ⟨Nat.le_of_ble_eq_true rfl, Nat.le_of_ble_eq_true rfl⟩ (fun v5 M6 h => ?_)
    refine jr_join h (fun j => ∀ (y1_40 : Int) (M_40 : jMem), j y1_40 M_40 = some (r, M') → JW E X 3 0 0 M_40 40 [(0, q_r E th), (1, q_i y1_40), (2, q_i y2_8)] []) ?_ ?_
    · intro y1_40 M_40 h
      refine jr_iinc hC (D_X12_more.g 24 rfl) 2 rfl (by decide) rfl ?_
      refine jr_goto hC (D_X12_more.g 25 rfl) 8 rfl ?_
      refine jr_pick [1, 2, 0] rfl ?_
      exact hrec_8 y1_40 (y2_8 + 1) M_40 h
    intro j_40 hj_40 h
    refine jr_if_eq hC (D_X12_more.g 13 rfl) 40 rfl h (fun h => ?_) (fun h => ?_)
    · exact hj_40 y1_8 M6 h
    refine jr_iload_n hC (D_X12_more.g 14 rfl) 1 rfl ?_
    refine jr_aload_n hC (D_X12_more.g 15 rfl) 0 rfl ?_
    refine jr_iload_n hC (D_X12_more.g 16 rfl) 2 rfl ?_
    refine jr_cVi hC cl_X12_388 ⟨rfl, by decide⟩ (D_X12_more.g 17 rfl) [q_i y2_8] h (fun r M' e => c_X12_isBlack e) rfl rfl ⟨by decide, by decide⟩ (Nat.le_of_ble_eq_true rfl) ⟨Nat.le_of_ble_eq_true rfl, Nat.le_of_ble_eq_true rfl⟩ (fun v7 M8 h => ?_)
    refine jr_join h (fun j => ∀ (z0_38 : Int), j z0_38 = some (r, M') → JW E X 3 0 0 M8 38 [(0, q_r E th), (2, q_i y2_8)] [q_i z0_38, q_i y1_8]) ?_ ?_
    · intro z0_38 h
      refine jr_iadd hC (D_X12_more.g 22 rfl) ?_
      refine jr_istore_n hC (D_X12_more.g 23 rfl) (by decide) rfl ?_
      refine jr_pick [1, 0, 2] rfl ?_
      exact hj_40 (y1_8 + z0_38) M8 h
    intro j_38 hj_38 h
    refine jr_if_eq hC (D_X12_more.g 18 rfl) 37 rfl h (fun h => ?_) (fun h => ?_)
    · refine jr_iconst hC (D_X12_more.g 21 rfl) ?_
      refine jr_pick [0, 2] rfl ?_
      exact hj_38 (-1) h
    refine jr_iconst hC (D_X12_more.g 19 rfl) ?_
    refine jr_goto hC (D_X12_more.g 20 rfl) 38 rfl ?_
    refine jr_pick [0, 2] rfl ?_
    exact hj_38 1 h
  refine jr_iload_n hC (D_X12_more.g 26 rfl) 1 rfl ?_
  exact jr_iret hC (D_X12_more.g 27 rfl) hr hE h
def f_X12_mostAt (th : Nat) (x1 : Int) (x2 : Int) (M : jMem) : Option (Int × jMem) :=
(jm_gR 12 56 M th).bind fun r1 =>
(jm_ld 20 M r1 (((64 * x1) + 64) + (jd_shr x2 1))).bind fun v2 =>
if jd_wr (jd_and x2 1) = jd_wr 1 then (some (v2, M))
else ((jm_gR 12 57 M th).bind fun r3 =>
(jm_ld 22 M r3 x1).bind fun v4 =>
if jd_wr v4 = 0 then (jcall 12 M th (f_X12_secondCell th x1 0 M) fun v5 M6 =>
jjq (fun (y3_95 : Int) =>
jcall 12 M6 th (f_X12_secondCell th x1 1 M6) fun v7 M8 =>
if jd_wr v7 < 0 then (some (y3_95, M8))
else ((jm_gR 12 57 M8 th).bind fun r9 =>
(jm_ld 22 M8 r9 v7).bind fun v10 =>
if jd_wr v10 = 0 then ((jm_gR 12 56 M8 th).bind fun r11 =>
jcall 12 M8 th (f_X12_maskDown th x2 M8) fun v12 M13 =>
(jm_ld 20 M13 r11 (((64 * x1) + 64) + v12)).bind fun v14 =>
if jd_wr (1 + v14) ≤ jd_wr y3_95 then (some (y3_95, M13))
else (some ((1 + v14), M13)))
else (some (y3_95, M8)))) fun j_95 =>
if jd_wr v5 < 0 then (j_95 v2)
else (if jd_wr (jd_and x2 2) = 0 then ((jm_gR 12 57 M6 th).bind fun r15 =>
(jm_ld 22 M6 r15 v5).bind fun v16 =>
if jd_wr v16 = 0 then ((jm_gR 12 56 M6 th).bind fun r17 =>
(jm_ld 20 M6 r17 (((64 * x1) + 64) + (jd_shr (jd_or x2 2) 1))).bind fun v18 =>
if jd_wr (1 + v18) ≤ jd_wr v2 then (j_95 v2)
else (j_95 (1 + v18)))
else (j_95 v2))
else (j_95 v2)))
else (some (v2, M)))
theorem D_X12_mostAt : jDs cX12_mostAt [(0, .aload_n 0, 1, 1), (1, .getfield 131, 3, 4), (4, .bipush 64, 2, 6), (6, .iload_n 1, 1, 7), (7, .imul, 1, 8), (8, .bipush 64, 2, 10), (10, .iadd, 1, 11), (11, .iload_n 2, 1, 12), (12, .iconst 1, 1, 13), (13, .ishr, 1, 14), (14, .iadd, 1, 15), (15, .iaload, 1, 16), (16, .istore_n 3, 1, 17), (17, .iload_n 2, 1, 18), (18, .iconst 1, 1, 19), (19, .iand, 1, 20), (20, .iconst 1, 1, 21), (21, .if_icmp .eq 12, 3, 24), (24, .aload_n 0, 1, 25), (25, .getfield 134, 3, 28), (28, .iload_n 1, 1, 29), (29, .baload, 1, 30), (30, .ifCond .eq 5, 3, 33), (33, .iload_n 3, 1, 34), (34, .ireturn, 1, 35), (35, .aload_n 0, 1, 36), (36, .iload_n 1, 1, 37), (37, .iconst 0, 1, 38), (38, .invokevirtual 364, 3, 41), (41, .istore 4, 2, 43), (43, .iload 4, 2, 45), (45, .ifCond .lt 50, 3, 48), (48, .iload_n 2, 1, 49), (49, .iconst 2, 1, 50), (50, .iand, 1, 51), (51, .ifCond .ne 44, 3, 54), (54, .aload_n 0, 1, 55), (55, .getfield 134, 3, 58), (58, .iload 4, 2, 60), (60, .baload, 1, 61), (61, .ifCond .ne 34, 3, 64), (64, .iconst 1, 1, 65), (65, .aload_n 0, 1, 66), (66, .getfield 131, 3, 69), (69, .bipush 64, 2, 71), (71, .iload_n 1, 1, 72), (72, .imul, 1, 73), (73, .bipush 64, 2, 75), (75, .iadd, 1, 76), (76, .iload_n 2, 1, 77), (77, .iconst 2, 1, 78), (78, .ior, 1, 79), (79, .iconst 1, 1, 80), (80, .ishr, 1, 81), (81, .iadd, 1, 82), (82, .iaload, 1, 83), (83, .iadd, 1, 84), (84, .istore 5, 2, 86), (86, .iload 5, 2, 88), (88, .iload_n 3, 1, 89), (89, .if_icmp .le 6, 3, 92), (92, .iload 5, 2, 94), (94, .istore_n 3, 1, 95), (95, .aload_n 0, 1, 96), (96, .iload_n 1, 1, 97), (97, .iconst 1, 1, 98), (98, .invokevirtual 364, 3, 101), (101, .istore 4, 2, 103), (103, .iload 4, 2, 105), (105, .ifCond .lt 44, 3, 108), (108, .aload_n 0, 1, 109), (109, .getfield 134, 3, 112), (112, .iload 4, 2, 114), (114, .baload, 1, 115), (115, .ifCond .ne 34, 3, 118), (118, .iconst 1, 1, 119), (119, .aload_n 0, 1, 120), (120, .getfield 131, 3, 123), (123, .bipush 64, 2, 125), (125, .iload_n 1, 1, 126), (126, .imul, 1, 127), (127, .bipush 64, 2, 129), (129, .iadd, 1, 130), (130, .aload_n 0, 1, 131), (131, .iload_n 2, 1, 132), (132, .invokevirtual 413, 3, 135), (135, .iadd, 1, 136), (136, .iaload, 1, 137), (137, .iadd, 1, 138), (138, .istore 5, 2, 140), (140, .iload 5, 2, 142), (142, .iload_n 3, 1, 143), (143, .if_icmp .le 6, 3, 146), (146, .iload 5, 2, 148), (148, .istore_n 3, 1, 149), (149, .iload_n 3, 1, 150), (150, .ireturn, 1, 151)] := by unfold jDs; decide +kernel
set_option maxRecDepth 100000 in
set_option maxHeartbeats 4000000 in
theorem c_X12_mostAt {E : jE} {th : Nat} {x1 : Int} {x2 : Int} {M : jMem} {r : Int} {M' : jMem} (h : f_X12_mostAt th x1 x2 M = some (r, M')) : jMet E yX12_mostAt cX12_mostAt 6 (some .int) 4 0 0 [q_r E th, q_i x1, q_i x2] M (some (q_i r)) M' := by
  unfold f_X12_mostAt at h
  refine jMet.of RX12 rfl (by decide +kernel) (Nat.le_of_ble_eq_true rfl) [(0, q_r E th), (1, q_i x1), (2, q_i x2)] rfl (fun X hC hE hr hn => ?_)
  refine jr_aload_n hC (D_X12_mostAt.g 0 rfl) 0 rfl ?_
  refine jr_getR hC fl_X12_131 rfl (D_X12_mostAt.g 1 rfl) h (fun r1 h => ?_)
  refine jr_bipush hC (D_X12_mostAt.g 2 rfl) bp_64 ?_
  refine jr_iload_n hC (D_X12_mostAt.g 3 rfl) 1 rfl ?_
  refine jr_imul hC (D_X12_mostAt.g 4 rfl) ?_
  refine jr_bipush hC (D_X12_mostAt.g 5 rfl) bp_64 ?_
  refine jr_iadd hC (D_X12_mostAt.g 6 rfl) ?_
  refine jr_iload_n hC (D_X12_mostAt.g 7 rfl) 2 rfl ?_
  refine jr_iconst hC (D_X12_mostAt.g 8 rfl) ?_
  refine jr_ishr hC (D_X12_mostAt.g 9 rfl) ?_
  refine jr_iadd hC (D_X12_mostAt.g 10 rfl) ?_
  refine jr_iald hC (D_X12_mostAt.g 11 rfl) h (fun v2 h => ?_)
  refine jr_istore_n hC (D_X12_mostAt.g 12 rfl) (by decide) rfl ?_
  refine jr_iload_n hC (D_X12_mostAt.g 13 rfl) 3 rfl ?_
  refine jr_iconst hC (D_X12_mostAt.g 14 rfl) ?_
  refine jr_iand hC (D_X12_mostAt.g 15 rfl) ?_
  refine jr_iconst hC (D_X12_mostAt.g 16 rfl) ?_
  refine jr_icmp_eq hC (D_X12_mostAt.g 17 rfl) 33 rfl h (fun h => ?_) (fun h => ?_)
  · refine jr_iload_n hC (D_X12_mostAt.g 23 rfl) 0 rfl ?_
    exact jr_iret hC (D_X12_mostAt.g 24 rfl) hr hE h
  refine jr_aload_n hC (D_X12_mostAt.g 18 rfl) 1 rfl ?_
  refine jr_getR hC fl_X12_134 rfl (D_X12_mostAt.g 19 rfl) h (fun r3 h => ?_)
  refine jr_iload_n hC (D_X12_mostAt.g 20 rfl) 2 rfl ?_
  refine jr_zald hC (D_X12_mostAt.g 21 rfl) h (fun v4 h => ?_)
  refine jr_if_eq hC (D_X12_mostAt.g 22 rfl) 35 rfl h (fun h => ?_) (fun h => ?_)
  · refine jr_aload_n hC (D_X12_mostAt.g 25 rfl) 1 rfl ?_
    refine jr_iload_n hC (D_X12_mostAt.g 26 rfl) 2 rfl ?_
    refine jr_iconst hC (D_X12_mostAt.g 27 rfl) ?_
    refine jr_cVi hC cl_X12_364 ⟨rfl, by decide⟩ (D_X12_mostAt.g 28 rfl) [q_i x1, q_i 0] h (fun r M' e => c_X12_secondCell e) rfl rfl ⟨by decide, by decide⟩ (Nat.le_of_ble_eq_true rfl) ⟨Nat.le_of_ble_eq_true rfl, Nat.le_of_ble_eq_true rfl⟩ (fun v5 M6 h => ?_)
    refine jr_istore hC (D_X12_mostAt.g 29 rfl) (by decide) rfl ?_
    refine jr_iload hC (D_X12_mostAt.g 30 rfl) 0 rfl ?_
    refine jr_join h (fun j => ∀ (y3_95 : Int), j y3_95 = some (r, M') → JW E X 6 0 0 M6 95 [(0, q_r E th), (1, q_i x1), (2, q_i x2), (3, q_i y3_95)] []) ?_ ?_
    · intro y3_95 h
      refine jr_aload_n hC (D_X12_mostAt.g 63 rfl) 0 rfl ?_
      refine jr_iload_n hC (D_X12_mostAt.g 64 rfl) 1 rfl ?_
      refine jr_iconst hC (D_X12_mostAt.g 65 rfl) ?_
      refine jr_cVi hC cl_X12_364 ⟨rfl, by decide⟩ (D_X12_mostAt.g 66 rfl) [q_i x1, q_i 1] h (fun r M' e => c_X12_secondCell e) rfl rfl ⟨by decide, by decide⟩ (Nat.le_of_ble_eq_true rfl) ⟨Nat.le_of_ble_eq_true rfl, Nat.le_of_ble_eq_true rfl⟩ (fun v7 M8 h => ?_)
      refine jr_istore hC (D_X12_mostAt.g 67 rfl) (by decide) rfl ?_
      refine jr_iload hC (D_X12_mostAt.g 68 rfl) 0 rfl ?_
      refine jr_if_lt hC (D_X12_mostAt.g 69 rfl) 149 rfl h (fun h => ?_) (fun h => ?_)
      · refine jr_iload_n hC (D_X12_mostAt.g 95 rfl) 4 rfl ?_
        exact jr_iret hC (D_X12_mostAt.g 96 rfl) hr hE h
      refine jr_aload_n hC (D_X12_mostAt.g 70 rfl) 1 rfl ?_
      refine jr_getR hC fl_X12_134 rfl (D_X12_mostAt.g 71 rfl) h (fun r9 h => ?_)
      refine jr_iload hC (D_X12_mostAt.g 72 rfl) 0 rfl ?_
      refine jr_zald hC (D_X12_mostAt.g 73 rfl) h (fun v10 h => ?_)
      refine jr_if_ne hC (D_X12_mostAt.g 74 rfl) 149 rfl h (fun h => ?_) (fun h => ?_)
      · refine jr_iconst hC (D_X12_mostAt.g 75 rfl) ?_
        refine jr_aload_n hC (D_X12_mostAt.g 76 rfl) 1 rfl ?_
        refine jr_getR hC fl_X12_131 rfl (D_X12_mostAt.g 77 rfl) h (fun r11 h => ?_)
        refine jr_bipush hC (D_X12_mostAt.g 78 rfl) bp_64 ?_
        refine jr_iload_n hC (D_X12_mostAt.g 79 rfl) 2 rfl ?_
        refine jr_imul hC (D_X12_mostAt.g 80 rfl) ?_
        refine jr_bipush hC (D_X12_mostAt.g 81 rfl) bp_64 ?_
        refine jr_iadd hC (D_X12_mostAt.g 82 rfl) ?_
        refine jr_aload_n hC (D_X12_mostAt.g 83 rfl) 1 rfl ?_
        refine jr_iload_n hC (D_X12_mostAt.g 84 rfl) 3 rfl ?_
        refine jr_cVi hC cl_X12_413 ⟨rfl, by decide⟩ (D_X12_mostAt.g 85 rfl) [q_i x2] h (fun r M' e => c_X12_maskDown e) rfl rfl ⟨by decide, by decide⟩ (Nat.le_of_ble_eq_true rfl) ⟨Nat.le_of_ble_eq_true rfl, Nat.le_of_ble_eq_true rfl⟩ (fun v12 M13 h => ?_)
        refine jr_iadd hC (D_X12_mostAt.g 86 rfl) ?_
        refine jr_iald hC (D_X12_mostAt.g 87 rfl) h (fun v14 h => ?_)
        refine jr_iadd hC (D_X12_mostAt.g 88 rfl) ?_
        refine jr_istore hC (D_X12_mostAt.g 89 rfl) (by decide) rfl ?_
        refine jr_iload hC (D_X12_mostAt.g 90 rfl) 0 rfl ?_
        refine jr_iload_n hC (D_X12_mostAt.g 91 rfl) 5 rfl ?_
        refine jr_icmp_le hC (D_X12_mostAt.g 92 rfl) 149 rfl h (fun h => ?_) (fun h => ?_)
        · refine jr_iload_n hC (D_X12_mostAt.g 95 rfl) 5 rfl ?_
          exact jr_iret hC (D_X12_mostAt.g 96 rfl) hr hE h
        refine jr_iload hC (D_X12_mostAt.g 93 rfl) 0 rfl ?_
        refine jr_istore_n hC (D_X12_mostAt.g 94 rfl) (by decide) rfl ?_
        refine jr_iload_n hC (D_X12_mostAt.g 95 rfl) 0 rfl ?_
        exact jr_iret hC (D_X12_mostAt.g 96 rfl) hr hE h
      refine jr_iload_n hC (D_X12_mostAt.g 95 rfl) 4 rfl ?_
      exact jr_iret hC (D_X12_mostAt.g 96 rfl) hr hE h
    intro j_95 hj_95 h
    refine jr_if_lt hC (D_X12_mostAt.g 31 rfl) 95 rfl h (fun h => ?_) (fun h => ?_)
    · refine jr_pick [2, 3, 4, 1] rfl ?_
      exact hj_95 v2 h
    refine jr_iload_n hC (D_X12_mostAt.g 32 rfl) 4 rfl ?_
    refine jr_iconst hC (D_X12_mostAt.g 33 rfl) ?_
    refine jr_iand hC (D_X12_mostAt.g 34 rfl) ?_
    refine jr_if_ne hC (D_X12_mostAt.g 35 rfl) 95 rfl h (fun h => ?_) (fun h => ?_)
    · refine jr_aload_n hC (D_X12_mostAt.g 36 rfl) 2 rfl ?_
      refine jr_getR hC fl_X12_134 rfl (D_X12_mostAt.g 37 rfl) h (fun r15 h => ?_)
      refine jr_iload hC (D_X12_mostAt.g 38 rfl) 0 rfl ?_
      refine jr_zald hC (D_X12_mostAt.g 39 rfl) h (fun v16 h => ?_)
      refine jr_if_ne hC (D_X12_mostAt.g 40 rfl) 95 rfl h (fun h => ?_) (fun h => ?_)
      · refine jr_iconst hC (D_X12_mostAt.g 41 rfl) ?_
        refine jr_aload_n hC (D_X12_mostAt.g 42 rfl) 2 rfl ?_
        refine jr_getR hC fl_X12_131 rfl (D_X12_mostAt.g 43 rfl) h (fun r17 h => ?_)
        refine jr_bipush hC (D_X12_mostAt.g 44 rfl) bp_64 ?_
        refine jr_iload_n hC (D_X12_mostAt.g 45 rfl) 3 rfl ?_
        refine jr_imul hC (D_X12_mostAt.g 46 rfl) ?_
        refine jr_bipush hC (D_X12_mostAt.g 47 rfl) bp_64 ?_
        refine jr_iadd hC (D_X12_mostAt.g 48 rfl) ?_
        refine jr_iload_n hC (D_X12_mostAt.g 49 rfl) 4 rfl ?_
        refine jr_iconst hC (D_X12_mostAt.g 50 rfl) ?_
        refine jr_ior hC (D_X12_mostAt.g 51 rfl) ?_
        refine jr_iconst hC (D_X12_mostAt.g 52 rfl) ?_
        refine jr_ishr hC (D_X12_mostAt.g 53 rfl) ?_
        refine jr_iadd hC (D_X12_mostAt.g 54 rfl) ?_
        refine jr_iald hC (D_X12_mostAt.g 55 rfl) h (fun v18 h => ?_)
        refine jr_iadd hC (D_X12_mostAt.g 56 rfl) ?_
        refine jr_istore hC (D_X12_mostAt.g 57 rfl) (by decide) rfl ?_
        refine jr_iload hC (D_X12_mostAt.g 58 rfl) 0 rfl ?_
        refine jr_iload_n hC (D_X12_mostAt.g 59 rfl) 2 rfl ?_
        refine jr_icmp_le hC (D_X12_mostAt.g 60 rfl) 95 rfl h (fun h => ?_) (fun h => ?_)
        · refine jr_pick [3, 4, 5, 2] rfl ?_
          exact hj_95 v2 h
        refine jr_iload hC (D_X12_mostAt.g 61 rfl) 0 rfl ?_
        refine jr_istore_n hC (D_X12_mostAt.g 62 rfl) (by decide) rfl ?_
        refine jr_pick [3, 4, 5, 0] rfl ?_
        exact hj_95 (1 + v18) h
      refine jr_pick [2, 3, 4, 1] rfl ?_
      exact hj_95 v2 h
    refine jr_pick [2, 3, 4, 1] rfl ?_
    exact hj_95 v2 h
  refine jr_iload_n hC (D_X12_mostAt.g 23 rfl) 0 rfl ?_
  exact jr_iret hC (D_X12_mostAt.g 24 rfl) hr hE h
def f_X12_shortBy (th : Nat) (M : jMem) : Option (Int × jMem) :=
jcall 12 M th (f_X12_copies th M) fun _ M2 =>
jcall 12 M2 th (f_X12_closesTaken th M2) fun _ M4 =>
jcall 12 M4 th (f_X12_cells th M4) fun v5 M6 =>
jlp2 (fun rec_13 (y1_13 : Int) (M_13 : jMem) =>
if jd_wr y1_13 < 0 then (jcall 12 M_13 th (f_X12_freeMany th M_13) fun v7 M8 =>
(jm_gR 12 56 M8 th).bind fun r9 =>
(jm_ld 20 M8 r9 0).bind fun v10 =>
some ((v7 - (2 * v10)), M8))
else (jlp2 (fun rec_19 (y2_19 : Int) (M_19 : jMem) =>
if jd_wr y2_19 < jd_wr 64 then ((jm_gR 12 56 M_19 th).bind fun r11 =>
jcall 12 M_19 th (f_X12_cells th M_19) fun v12 M13 =>
jjq (fun (z0_53 : Int) (M_53 : jMem) =>
(jm_st 20 M_53 r11 ((64 * y1_13) + y2_19) z0_53).bind fun M14 =>
rec_19 (y2_19 + 1) M14) fun j_53 =>
if jd_wr y1_13 = jd_wr v12 then (j_53 0 M13)
else (jcall 12 M13 th (f_X12_mostAt th y1_13 y2_19 M13) fun v15 M16 =>
j_53 v15 M16))
else (rec_13 (y1_13 + (-1)) M_19)) jfuel 0 M_13)) jfuel v5 M6
theorem D_X12_shortBy : jDs cX12_shortBy [(0, .aload_n 0, 1, 1), (1, .invokevirtual 385, 3, 4), (4, .aload_n 0, 1, 5), (5, .invokevirtual 433, 3, 8), (8, .aload_n 0, 1, 9), (9, .invokevirtual 314, 3, 12), (12, .istore_n 1, 1, 13), (13, .iload_n 1, 1, 14), (14, .ifCond .lt 52, 3, 17), (17, .iconst 0, 1, 18), (18, .istore_n 2, 1, 19), (19, .iload_n 2, 1, 20), (20, .bipush 64, 2, 22), (22, .if_icmp .ge 38, 3, 25), (25, .aload_n 0, 1, 26), (26, .getfield 131, 3, 29), (29, .bipush 64, 2, 31), (31, .iload_n 1, 1, 32), (32, .imul, 1, 33), (33, .iload_n 2, 1, 34), (34, .iadd, 1, 35), (35, .iload_n 1, 1, 36), (36, .aload_n 0, 1, 37), (37, .invokevirtual 314, 3, 40), (40, .if_icmp .ne 7, 3, 43), (43, .iconst 0, 1, 44), (44, .goto 9, 3, 47), (47, .aload_n 0, 1, 48), (48, .iload_n 1, 1, 49), (49, .iload_n 2, 1, 50), (50, .invokevirtual 451, 3, 53), (53, .iastore, 1, 54), (54, .iinc 2 1, 3, 57), (57, .goto (-38), 3, 60), (60, .iinc 1 (-1), 3, 63), (63, .goto (-50), 3, 66), (66, .aload_n 0, 1, 67), (67, .invokevirtual 454, 3, 70), (70, .iconst 2, 1, 71), (71, .aload_n 0, 1, 72), (72, .getfield 131, 3, 75), (75, .iconst 0, 1, 76), (76, .iaload, 1, 77), (77, .imul, 1, 78), (78, .isub, 1, 79), (79, .ireturn, 1, 80)] := by unfold jDs; decide +kernel
set_option maxRecDepth 100000 in
set_option maxHeartbeats 4000000 in
theorem c_X12_shortBy {E : jE} {th : Nat} {M : jMem} {r : Int} {M' : jMem} (h : f_X12_shortBy th M = some (r, M')) : jMet E yX12_shortBy cX12_shortBy 3 (some .int) 6 0 0 [q_r E th] M (some (q_i r)) M' := by
  unfold f_X12_shortBy at h
  refine jMet.of RX12 rfl (by decide +kernel) (Nat.le_of_ble_eq_true rfl) [(0, q_r E th)] rfl (fun X hC hE hr hn => ?_)
  refine jr_aload_n hC (D_X12_shortBy.g 0 rfl) 0 rfl ?_
  refine jr_cVv hC cl_X12_385 ⟨rfl, by decide⟩ (D_X12_shortBy.g 1 rfl) [] h (fun r M' e => c_X12_copies e) rfl rfl ⟨by decide, by decide⟩ (Nat.le_of_ble_eq_true rfl) ⟨Nat.le_of_ble_eq_true rfl, Nat.le_of_ble_eq_true rfl⟩ (fun _ M2 h => ?_)
  refine jr_aload_n hC (D_X12_shortBy.g 2 rfl) 0 rfl ?_
  refine jr_cVv hC cl_X12_433 ⟨rfl, by decide⟩ (D_X12_shortBy.g 3 rfl) [] h (fun r M' e => c_X12_closesTaken e) rfl rfl ⟨by decide, by decide⟩ (Nat.le_of_ble_eq_true rfl) ⟨Nat.le_of_ble_eq_true rfl, Nat.le_of_ble_eq_true rfl⟩ (fun _ M4 h => ?_)
  refine jr_aload_n hC (D_X12_shortBy.g 4 rfl) 0 rfl ?_
  refine jr_cVi hC cl_X12_314 ⟨rfl, by decide⟩ (D_X12_shortBy.g 5 rfl) [] h (fun r M' e => c_X12_cells e) rfl rfl ⟨by decide, by decide⟩ (Nat.le_of_ble_eq_true rfl) ⟨Nat.le_of_ble_eq_true rfl, Nat.le_of_ble_eq_true rfl⟩ (fun v5 M6 h => ?_)
  refine jr_istore_n hC (D_X12_shortBy.g 6 rfl) (by decide) rfl ?_
  refine jr_pick [1, 0] rfl ?_
  refine jr_lp2 (fun (y1_13 : Int) (M_13 : jMem) => JW E X 3 0 0 M_13 13 [(0, q_r E th), (1, q_i y1_13)] []) ?_ jfuel v5 M6 h
  intro rec_13 hrec_13 y1_13 M_13 h
  refine jr_iload_n hC (D_X12_shortBy.g 7 rfl) 1 rfl ?_
  refine jr_if_lt hC (D_X12_shortBy.g 8 rfl) 66 rfl h (fun h => ?_) (fun h => ?_)
  · refine jr_aload_n hC (D_X12_shortBy.g 36 rfl) 0 rfl ?_
    refine jr_cVi hC cl_X12_454 ⟨rfl, by decide⟩ (D_X12_shortBy.g 37 rfl) [] h (fun r M' e => c_X12_freeMany e) rfl rfl ⟨by decide, by decide⟩ (Nat.le_of_ble_eq_true rfl) ⟨Nat.le_of_ble_eq_true rfl, Nat.le_of_ble_eq_true rfl⟩ (fun v7 M8 h => ?_)
    refine jr_iconst hC (D_X12_shortBy.g 38 rfl) ?_
    refine jr_aload_n hC (D_X12_shortBy.g 39 rfl) 0 rfl ?_
    refine jr_getR hC fl_X12_131 rfl (D_X12_shortBy.g 40 rfl) h (fun r9 h => ?_)
    refine jr_iconst hC (D_X12_shortBy.g 41 rfl) ?_
    refine jr_iald hC (D_X12_shortBy.g 42 rfl) h (fun v10 h => ?_)
    refine jr_imul hC (D_X12_shortBy.g 43 rfl) ?_
    refine jr_isub hC (D_X12_shortBy.g 44 rfl) ?_
    exact jr_iret hC (D_X12_shortBy.g 45 rfl) hr hE h
  refine jr_iconst hC (D_X12_shortBy.g 9 rfl) ?_
  refine jr_istore_n hC (D_X12_shortBy.g 10 rfl) (by decide) rfl ?_
  refine jr_pick [1, 2, 0] rfl ?_
  refine jr_lp2 (fun (y2_19 : Int) (M_19 : jMem) => JW E X 3 0 0 M_19 19 [(0, q_r E th), (1, q_i y1_13), (2, q_i y2_19)] []) ?_ jfuel 0 M_13 h
  intro rec_19 hrec_19 y2_19 M_19 h
  refine jr_iload_n hC (D_X12_shortBy.g 11 rfl) 2 rfl ?_
  refine jr_bipush hC (D_X12_shortBy.g 12 rfl) bp_64 ?_
  refine jr_icmp_ge hC (D_X12_shortBy.g 13 rfl) 60 rfl h (fun h => ?_) (fun h => ?_)
  · refine jr_aload_n hC (D_X12_shortBy.g 14 rfl) 0 rfl ?_
    refine jr_getR hC fl_X12_131 rfl (D_X12_shortBy.g 15 rfl) h (fun r11 h => ?_)
    refine jr_bipush hC (D_X12_shortBy.g 16 rfl) bp_64 ?_
    refine jr_iload_n hC (D_X12_shortBy.g 17 rfl) 1 rfl ?_
    refine jr_imul hC (D_X12_shortBy.g 18 rfl) ?_
    refine jr_iload_n hC (D_X12_shortBy.g 19 rfl) 2 rfl ?_
    refine jr_iadd hC (D_X12_shortBy.g 20 rfl) ?_
    refine jr_iload_n hC (D_X12_shortBy.g 21 rfl) 1 rfl ?_
    refine jr_aload_n hC (D_X12_shortBy.g 22 rfl) 0 rfl ?_
    refine jr_cVi hC cl_X12_314 ⟨rfl, by decide⟩ (D_X12_shortBy.g 23 rfl) [] h (fun r M' e => c_X12_cells e) rfl rfl ⟨by decide, by decide⟩ (Nat.le_of_ble_eq_true rfl) ⟨Nat.le_of_ble_eq_true rfl, Nat.le_of_ble_eq_true rfl⟩ (fun v12 M13 h => ?_)
    refine jr_join h (fun j => ∀ (z0_53 : Int) (M_53 : jMem), j z0_53 M_53 = some (r, M') → JW E X 3 0 0 M_53 53 [(0, q_r E th), (1, q_i y1_13), (2, q_i y2_19)] [q_i z0_53, q_i ((64 * y1_13) + y2_19), q_r E r11]) ?_ ?_
    · intro z0_53 M_53 h
      refine jr_iast hC (D_X12_shortBy.g 31 rfl) h (fun M14 _ h => ?_)
      refine jr_iinc hC (D_X12_shortBy.g 32 rfl) 2 rfl (by decide) rfl ?_
      refine jr_goto hC (D_X12_shortBy.g 33 rfl) 19 rfl ?_
      refine jr_pick [1, 2, 0] rfl ?_
      exact hrec_19 (y2_19 + 1) M14 h
    intro j_53 hj_53 h
    refine jr_icmp_ne hC (D_X12_shortBy.g 24 rfl) 47 rfl h (fun h => ?_) (fun h => ?_)
    · refine jr_iconst hC (D_X12_shortBy.g 25 rfl) ?_
      refine jr_goto hC (D_X12_shortBy.g 26 rfl) 53 rfl ?_
      exact hj_53 0 M13 h
    refine jr_aload_n hC (D_X12_shortBy.g 27 rfl) 0 rfl ?_
    refine jr_iload_n hC (D_X12_shortBy.g 28 rfl) 1 rfl ?_
    refine jr_iload_n hC (D_X12_shortBy.g 29 rfl) 2 rfl ?_
    refine jr_cVi hC cl_X12_451 ⟨rfl, by decide⟩ (D_X12_shortBy.g 30 rfl) [q_i y1_13, q_i y2_19] h (fun r M' e => c_X12_mostAt e) rfl rfl ⟨by decide, by decide⟩ (Nat.le_of_ble_eq_true rfl) ⟨Nat.le_of_ble_eq_true rfl, Nat.le_of_ble_eq_true rfl⟩ (fun v15 M16 h => ?_)
    exact hj_53 v15 M16 h
  refine jr_iinc hC (D_X12_shortBy.g 34 rfl) 1 rfl (by decide) rfl ?_
  refine jr_goto hC (D_X12_shortBy.g 35 rfl) 13 rfl ?_
  refine jr_pick [1, 0] rfl ?_
  exact hrec_13 (y1_13 + (-1)) M_19 h
def f_X12_fillsWays (th : Nat) (x1 : Int) (M : jMem) : Option (Int × jMem) :=
jlp4 (fun rec_7 (y2_7 : Int) (y3_7 : Int) (y4_7 : Int) (M_7 : jMem) =>
jcall 12 M_7 th (f_X12_cells th M_7) fun v1 M2 =>
if jd_wr y4_7 < jd_wr v1 then ((jm_gR 12 60 M2 th).bind fun r3 =>
(jm_st 20 M2 r3 y4_7 (-1)).bind fun M4 =>
jjq (fun (y2_111 : Int) (y3_111 : Int) (M_111 : jMem) =>
rec_7 y2_111 y3_111 (y4_7 + 1) M_111) fun j_111 =>
jjq (j_111 y2_7 (jd_shr y3_7 1) M4) fun j_41 =>
if jd_wr (jd_and y3_7 1) = jd_wr 1 then (j_41 )
else ((jm_gR 12 57 M4 th).bind fun r5 =>
(jm_ld 22 M4 r5 y4_7).bind fun v6 =>
if jd_wr v6 = 0 then (jcall 12 M4 th (f_X12_acrossIn th 0 y4_7 y3_7 M4) fun v7 M8 =>
(jm_gR 12 60 M8 th).bind fun r9 =>
jjq (fun (z0_75 : Int) =>
(jm_st 20 M8 r9 y4_7 z0_75).bind fun M10 =>
jjq (fun (y2_87 : Int) =>
(jm_gR 12 60 M10 th).bind fun r11 =>
(jm_ld 20 M10 r11 y4_7).bind fun v12 =>
jjq (fun (z0_110 : Int) (M_110 : jMem) =>
j_111 y2_87 z0_110 M_110) fun j_110 =>
if jd_wr v12 = 0 then (j_110 (jd_shr (jd_or y3_7 2) 1) M10)
else (jcall 12 M10 th (f_X12_maskDown th y3_7 M10) fun v13 M14 =>
j_110 v13 M14)) fun j_87 =>
if jd_wr y2_7 < jd_wr v7 then (j_87 y2_7)
else (j_87 (y2_7 - v7))) fun j_75 =>
if jd_wr y2_7 < jd_wr v7 then (j_75 0)
else (j_75 1))
else (j_41 )))
else (some (0, M2))) jfuel x1 0 0 M
theorem D_X12_fillsWays : jDs cX12_fillsWays [(0, .iload_n 1, 1, 1), (1, .istore_n 2, 1, 2), (2, .iconst 0, 1, 3), (3, .istore_n 3, 1, 4), (4, .iconst 0, 1, 5), (5, .istore 4, 2, 7), (7, .iload 4, 2, 9), (9, .aload_n 0, 1, 10), (10, .invokevirtual 314, 3, 13), (13, .if_icmp .ge 104, 3, 16), (16, .aload_n 0, 1, 17), (17, .getfield 143, 3, 20), (20, .iload 4, 2, 22), (22, .iconst (-1), 1, 23), (23, .iastore, 1, 24), (24, .iload_n 3, 1, 25), (25, .iconst 1, 1, 26), (26, .iand, 1, 27), (27, .iconst 1, 1, 28), (28, .if_icmp .eq 13, 3, 31), (31, .aload_n 0, 1, 32), (32, .getfield 134, 3, 35), (35, .iload 4, 2, 37), (37, .baload, 1, 38), (38, .ifCond .eq 10, 3, 41), (41, .iload_n 3, 1, 42), (42, .iconst 1, 1, 43), (43, .ishr, 1, 44), (44, .istore_n 3, 1, 45), (45, .goto 66, 3, 48), (48, .aload_n 0, 1, 49), (49, .iconst 0, 1, 50), (50, .iload 4, 2, 52), (52, .iload_n 3, 1, 53), (53, .invokevirtual 416, 3, 56), (56, .istore 5, 2, 58), (58, .aload_n 0, 1, 59), (59, .getfield 143, 3, 62), (62, .iload 4, 2, 64), (64, .iload_n 2, 1, 65), (65, .iload 5, 2, 67), (67, .if_icmp .ge 7, 3, 70), (70, .iconst 0, 1, 71), (71, .goto 4, 3, 74), (74, .iconst 1, 1, 75), (75, .iastore, 1, 76), (76, .iload_n 2, 1, 77), (77, .iload 5, 2, 79), (79, .if_icmp .lt 8, 3, 82), (82, .iload_n 2, 1, 83), (83, .iload 5, 2, 85), (85, .isub, 1, 86), (86, .istore_n 2, 1, 87), (87, .aload_n 0, 1, 88), (88, .getfield 143, 3, 91), (91, .iload 4, 2, 93), (93, .iaload, 1, 94), (94, .ifCond .ne 11, 3, 97), (97, .iload_n 3, 1, 98), (98, .iconst 2, 1, 99), (99, .ior, 1, 100), (100, .iconst 1, 1, 101), (101, .ishr, 1, 102), (102, .goto 8, 3, 105), (105, .aload_n 0, 1, 106), (106, .iload_n 3, 1, 107), (107, .invokevirtual 413, 3, 110), (110, .istore_n 3, 1, 111), (111, .iinc 4 1, 3, 114), (114, .goto (-107), 3, 117), (117, .return_, 1, 118)] := by unfold jDs; decide +kernel
set_option maxRecDepth 100000 in
set_option maxHeartbeats 4000000 in
theorem c_X12_fillsWays {E : jE} {th : Nat} {x1 : Int} {M : jMem} {r : Int} {M' : jMem} (h : f_X12_fillsWays th x1 M = some (r, M')) : jMet E yX12_fillsWays cX12_fillsWays 6 (none) 5 0 0 [q_r E th, q_i x1] M (none) M' := by
  unfold f_X12_fillsWays at h
  refine jMet.of RX12 rfl (by decide +kernel) (Nat.le_of_ble_eq_true rfl) [(0, q_r E th), (1, q_i x1)] rfl (fun X hC hE hr hn => ?_)
  refine jr_iload_n hC (D_X12_fillsWays.g 0 rfl) 1 rfl ?_
  refine jr_istore_n hC (D_X12_fillsWays.g 1 rfl) (by decide) rfl ?_
  refine jr_iconst hC (D_X12_fillsWays.g 2 rfl) ?_
  refine jr_istore_n hC (D_X12_fillsWays.g 3 rfl) (by decide) rfl ?_
  refine jr_iconst hC (D_X12_fillsWays.g 4 rfl) ?_
  refine jr_istore hC (D_X12_fillsWays.g 5 rfl) (by decide) rfl ?_
  refine jr_pick [3, 2, 1, 0] rfl ?_
  refine jr_lp4 (fun (y2_7 : Int) (y3_7 : Int) (y4_7 : Int) (M_7 : jMem) => JW E X 6 0 0 M_7 7 [(0, q_r E th), (2, q_i y2_7), (3, q_i y3_7), (4, q_i y4_7)] []) ?_ jfuel x1 0 0 M h
  intro rec_7 hrec_7 y2_7 y3_7 y4_7 M_7 h
  refine jr_iload hC (D_X12_fillsWays.g 6 rfl) 3 rfl ?_
  refine jr_aload_n hC (D_X12_fillsWays.g 7 rfl) 0 rfl ?_
  refine jr_cVi hC cl_X12_314 ⟨rfl, by decide⟩ (D_X12_fillsWays.g 8 rfl) [] h (fun r M' e => c_X12_cells e) rfl rfl ⟨by decide, by decide⟩ (Nat.le_of_ble_eq_true rfl) ⟨Nat.le_of_ble_eq_true rfl, Nat.le_of_ble_eq_true rfl⟩ (fun v1 M2 h => ?_)
  refine jr_icmp_ge hC (D_X12_fillsWays.g 9 rfl) 117 rfl h (fun h => ?_) (fun h => ?_)
  · refine jr_aload_n hC (D_X12_fillsWays.g 10 rfl) 0 rfl ?_
    refine jr_getR hC fl_X12_143 rfl (D_X12_fillsWays.g 11 rfl) h (fun r3 h => ?_)
    refine jr_iload hC (D_X12_fillsWays.g 12 rfl) 3 rfl ?_
    refine jr_iconst hC (D_X12_fillsWays.g 13 rfl) ?_
    refine jr_iast hC (D_X12_fillsWays.g 14 rfl) h (fun M4 _ h => ?_)
    refine jr_iload_n hC (D_X12_fillsWays.g 15 rfl) 2 rfl ?_
    refine jr_iconst hC (D_X12_fillsWays.g 16 rfl) ?_
    refine jr_iand hC (D_X12_fillsWays.g 17 rfl) ?_
    refine jr_iconst hC (D_X12_fillsWays.g 18 rfl) ?_
    refine jr_join h (fun j => ∀ (y2_111 : Int) (y3_111 : Int) (M_111 : jMem), j y2_111 y3_111 M_111 = some (r, M') → JW E X 6 0 0 M_111 111 [(0, q_r E th), (2, q_i y2_111), (3, q_i y3_111), (4, q_i y4_7)] []) ?_ ?_
    · intro y2_111 y3_111 M_111 h
      refine jr_iinc hC (D_X12_fillsWays.g 68 rfl) 3 rfl (by decide) rfl ?_
      refine jr_goto hC (D_X12_fillsWays.g 69 rfl) 7 rfl ?_
      refine jr_pick [1, 2, 3, 0] rfl ?_
      exact hrec_7 y2_111 y3_111 (y4_7 + 1) M_111 h
    intro j_111 hj_111 h
    refine jr_join h (fun j => j = some (r, M') → JW E X 6 0 0 M4 41 [(0, q_r E th), (2, q_i y2_7), (3, q_i y3_7), (4, q_i y4_7)] []) ?_ ?_
    · intro  h
      refine jr_iload_n hC (D_X12_fillsWays.g 25 rfl) 2 rfl ?_
      refine jr_iconst hC (D_X12_fillsWays.g 26 rfl) ?_
      refine jr_ishr hC (D_X12_fillsWays.g 27 rfl) ?_
      refine jr_istore_n hC (D_X12_fillsWays.g 28 rfl) (by decide) rfl ?_
      refine jr_goto hC (D_X12_fillsWays.g 29 rfl) 111 rfl ?_
      refine jr_pick [1, 2, 0, 3] rfl ?_
      exact hj_111 y2_7 (jd_shr y3_7 1) M4 h
    intro j_41 hj_41 h
    refine jr_icmp_eq hC (D_X12_fillsWays.g 19 rfl) 41 rfl h (fun h => ?_) (fun h => ?_)
    · exact hj_41  h
    refine jr_aload_n hC (D_X12_fillsWays.g 20 rfl) 0 rfl ?_
    refine jr_getR hC fl_X12_134 rfl (D_X12_fillsWays.g 21 rfl) h (fun r5 h => ?_)
    refine jr_iload hC (D_X12_fillsWays.g 22 rfl) 3 rfl ?_
    refine jr_zald hC (D_X12_fillsWays.g 23 rfl) h (fun v6 h => ?_)
    refine jr_if_eq hC (D_X12_fillsWays.g 24 rfl) 48 rfl h (fun h => ?_) (fun h => ?_)
    · refine jr_aload_n hC (D_X12_fillsWays.g 30 rfl) 0 rfl ?_
      refine jr_iconst hC (D_X12_fillsWays.g 31 rfl) ?_
      refine jr_iload hC (D_X12_fillsWays.g 32 rfl) 3 rfl ?_
      refine jr_iload_n hC (D_X12_fillsWays.g 33 rfl) 2 rfl ?_
      refine jr_cVi hC cl_X12_416 ⟨rfl, by decide⟩ (D_X12_fillsWays.g 34 rfl) [q_i 0, q_i y4_7, q_i y3_7] h (fun r M' e => c_X12_acrossIn e) rfl rfl ⟨by decide, by decide⟩ (Nat.le_of_ble_eq_true rfl) ⟨Nat.le_of_ble_eq_true rfl, Nat.le_of_ble_eq_true rfl⟩ (fun v7 M8 h => ?_)
      refine jr_istore hC (D_X12_fillsWays.g 35 rfl) (by decide) rfl ?_
      refine jr_aload_n hC (D_X12_fillsWays.g 36 rfl) 1 rfl ?_
      refine jr_getR hC fl_X12_143 rfl (D_X12_fillsWays.g 37 rfl) h (fun r9 h => ?_)
      refine jr_iload hC (D_X12_fillsWays.g 38 rfl) 4 rfl ?_
      refine jr_iload_n hC (D_X12_fillsWays.g 39 rfl) 2 rfl ?_
      refine jr_iload hC (D_X12_fillsWays.g 40 rfl) 0 rfl ?_
      refine jr_join h (fun j => ∀ (z0_75 : Int), j z0_75 = some (r, M') → JW E X 6 0 0 M8 75 [(0, q_r E th), (2, q_i y2_7), (3, q_i y3_7), (4, q_i y4_7), (5, q_i v7)] [q_i z0_75, q_i y4_7, q_r E r9]) ?_ ?_
      · intro z0_75 h
        refine jr_iast hC (D_X12_fillsWays.g 45 rfl) h (fun M10 _ h => ?_)
        refine jr_iload_n hC (D_X12_fillsWays.g 46 rfl) 1 rfl ?_
        refine jr_iload hC (D_X12_fillsWays.g 47 rfl) 4 rfl ?_
        refine jr_join h (fun j => ∀ (y2_87 : Int), j y2_87 = some (r, M') → JW E X 6 0 0 M10 87 [(0, q_r E th), (2, q_i y2_87), (3, q_i y3_7), (4, q_i y4_7)] []) ?_ ?_
        · intro y2_87 h
          refine jr_aload_n hC (D_X12_fillsWays.g 53 rfl) 0 rfl ?_
          refine jr_getR hC fl_X12_143 rfl (D_X12_fillsWays.g 54 rfl) h (fun r11 h => ?_)
          refine jr_iload hC (D_X12_fillsWays.g 55 rfl) 3 rfl ?_
          refine jr_iald hC (D_X12_fillsWays.g 56 rfl) h (fun v12 h => ?_)
          refine jr_join h (fun j => ∀ (z0_110 : Int) (M_110 : jMem), j z0_110 M_110 = some (r, M') → JW E X 6 0 0 M_110 110 [(0, q_r E th), (2, q_i y2_87), (4, q_i y4_7)] [q_i z0_110]) ?_ ?_
          · intro z0_110 M_110 h
            refine jr_istore_n hC (D_X12_fillsWays.g 67 rfl) (by decide) rfl ?_
            refine jr_pick [1, 2, 0, 3] rfl ?_
            exact hj_111 y2_87 z0_110 M_110 h
          intro j_110 hj_110 h
          refine jr_if_ne hC (D_X12_fillsWays.g 57 rfl) 105 rfl h (fun h => ?_) (fun h => ?_)
          · refine jr_iload_n hC (D_X12_fillsWays.g 58 rfl) 2 rfl ?_
            refine jr_iconst hC (D_X12_fillsWays.g 59 rfl) ?_
            refine jr_ior hC (D_X12_fillsWays.g 60 rfl) ?_
            refine jr_iconst hC (D_X12_fillsWays.g 61 rfl) ?_
            refine jr_ishr hC (D_X12_fillsWays.g 62 rfl) ?_
            refine jr_goto hC (D_X12_fillsWays.g 63 rfl) 110 rfl ?_
            refine jr_pick [0, 1, 3] rfl ?_
            exact hj_110 (jd_shr (jd_or y3_7 2) 1) M10 h
          refine jr_aload_n hC (D_X12_fillsWays.g 64 rfl) 0 rfl ?_
          refine jr_iload_n hC (D_X12_fillsWays.g 65 rfl) 2 rfl ?_
          refine jr_cVi hC cl_X12_413 ⟨rfl, by decide⟩ (D_X12_fillsWays.g 66 rfl) [q_i y3_7] h (fun r M' e => c_X12_maskDown e) rfl rfl ⟨by decide, by decide⟩ (Nat.le_of_ble_eq_true rfl) ⟨Nat.le_of_ble_eq_true rfl, Nat.le_of_ble_eq_true rfl⟩ (fun v13 M14 h => ?_)
          refine jr_pick [0, 1, 3] rfl ?_
          exact hj_110 v13 M14 h
        intro j_87 hj_87 h
        refine jr_icmp_lt hC (D_X12_fillsWays.g 48 rfl) 87 rfl h (fun h => ?_) (fun h => ?_)
        · refine jr_pick [0, 1, 2, 3] rfl ?_
          exact hj_87 y2_7 h
        refine jr_iload_n hC (D_X12_fillsWays.g 49 rfl) 1 rfl ?_
        refine jr_iload hC (D_X12_fillsWays.g 50 rfl) 4 rfl ?_
        refine jr_isub hC (D_X12_fillsWays.g 51 rfl) ?_
        refine jr_istore_n hC (D_X12_fillsWays.g 52 rfl) (by decide) rfl ?_
        refine jr_pick [1, 0, 2, 3] rfl ?_
        exact hj_87 (y2_7 - v7) h
      intro j_75 hj_75 h
      refine jr_icmp_ge hC (D_X12_fillsWays.g 41 rfl) 74 rfl h (fun h => ?_) (fun h => ?_)
      · refine jr_iconst hC (D_X12_fillsWays.g 42 rfl) ?_
        refine jr_goto hC (D_X12_fillsWays.g 43 rfl) 75 rfl ?_
        refine jr_pick [1, 2, 3, 4, 0] rfl ?_
        exact hj_75 0 h
      refine jr_iconst hC (D_X12_fillsWays.g 44 rfl) ?_
      refine jr_pick [1, 2, 3, 4, 0] rfl ?_
      exact hj_75 1 h
    exact hj_41  h
  exact jr_vret hC (D_X12_fillsWays.g 70 rfl) hr hE h
def f_X12_pave (th : Nat) (x1 : Int) (M : jMem) : Option (Int × jMem) :=
jcall 12 M th (f_X12_countsAll th M) fun v1 M2 =>
jbd (f_X12_in x1 0 (v1 - 1) M2) fun v3 M4 =>
if jd_wr v3 = 0 then (jm_z 0 M4)
else (jcall 12 M4 th (f_X12_copies th M4) fun _ M6 =>
jcall 12 M6 th (f_X12_fillsWays th x1 M6) fun _ M8 =>
jlp2 (fun rec_27 (y2_27 : Int) (M_27 : jMem) =>
if jd_wr y2_27 < jd_wr 18 then (jcall 12 M_27 th (f_X12_lifted th y2_27 M_27) fun _ M10 =>
rec_27 (y2_27 + 1) M10)
else (jlp3 (fun rec_48 (y2_48 : Int) (y3_48 : Int) (M_48 : jMem) =>
jcall 12 M_48 th (f_X12_cells th M_48) fun v11 M12 =>
if jd_wr y3_48 < jd_wr v11 then ((jm_gR 12 60 M12 th).bind fun r13 =>
(jm_ld 20 M12 r13 y3_48).bind fun v14 =>
jjq (fun (y2_83 : Int) (M_83 : jMem) =>
rec_48 y2_83 (y3_48 + 1) M_83) fun j_83 =>
if jd_wr v14 < 0 then (j_83 y2_48 M12)
else ((jm_gR 12 60 M12 th).bind fun r15 =>
(jm_ld 20 M12 r15 y3_48).bind fun v16 =>
jcall 12 M12 th (f_X12_laid th y2_48 y3_48 v16 M12) fun _ M18 =>
j_83 (y2_48 + 1) M18))
else (jcall 12 M12 th (f_X12_records th M12) fun _ M20 =>
jm_z 1 M20)) jfuel 0 0 M_27)) jfuel 0 M8)
theorem D_X12_pave : jDs cX12_pave [(0, .iload_n 1, 1, 1), (1, .iconst 0, 1, 2), (2, .aload_n 0, 1, 3), (3, .invokevirtual 436, 3, 6), (6, .iconst 1, 1, 7), (7, .isub, 1, 8), (8, .invokestatic 318, 3, 11), (11, .ifCond .ne 5, 3, 14), (14, .iconst 0, 1, 15), (15, .ireturn, 1, 16), (16, .aload_n 0, 1, 17), (17, .invokevirtual 385, 3, 20), (20, .aload_n 0, 1, 21), (21, .iload_n 1, 1, 22), (22, .invokevirtual 457, 3, 25), (25, .iconst 0, 1, 26), (26, .istore_n 2, 1, 27), (27, .iload_n 2, 1, 28), (28, .bipush 18, 2, 30), (30, .if_icmp .ge 14, 3, 33), (33, .aload_n 0, 1, 34), (34, .iload_n 2, 1, 35), (35, .invokevirtual 379, 3, 38), (38, .iinc 2 1, 3, 41), (41, .goto (-14), 3, 44), (44, .iconst 0, 1, 45), (45, .istore_n 2, 1, 46), (46, .iconst 0, 1, 47), (47, .istore_n 3, 1, 48), (48, .iload_n 3, 1, 49), (49, .aload_n 0, 1, 50), (50, .invokevirtual 314, 3, 53), (53, .if_icmp .ge 36, 3, 56), (56, .aload_n 0, 1, 57), (57, .getfield 143, 3, 60), (60, .iload_n 3, 1, 61), (61, .iaload, 1, 62), (62, .ifCond .ge 6, 3, 65), (65, .goto 18, 3, 68), (68, .aload_n 0, 1, 69), (69, .iload_n 2, 1, 70), (70, .iload_n 3, 1, 71), (71, .aload_n 0, 1, 72), (72, .getfield 143, 3, 75), (75, .iload_n 3, 1, 76), (76, .iaload, 1, 77), (77, .invokevirtual 360, 3, 80), (80, .iinc 2 1, 3, 83), (83, .iinc 3 1, 3, 86), (86, .goto (-38), 3, 89), (89, .aload_n 0, 1, 90), (90, .invokevirtual 394, 3, 93), (93, .iconst 1, 1, 94), (94, .ireturn, 1, 95)] := by unfold jDs; decide +kernel
set_option maxRecDepth 100000 in
set_option maxHeartbeats 4000000 in
theorem c_X12_pave {E : jE} {th : Nat} {x1 : Int} {M : jMem} {r : Int} {M' : jMem} (h : f_X12_pave th x1 M = some (r, M')) : jMet E yX12_pave cX12_pave 4 (some .boolean) 8 0 0 [q_r E th, q_i x1] M (some (q_i r)) M' := by
  unfold f_X12_pave at h
  refine jMet.of RX12 rfl (by decide +kernel) (Nat.le_of_ble_eq_true rfl) [(0, q_r E th), (1, q_i x1)] rfl (fun X hC hE hr hn => ?_)
  refine jr_iload_n hC (D_X12_pave.g 0 rfl) 1 rfl ?_
  refine jr_iconst hC (D_X12_pave.g 1 rfl) ?_
  refine jr_aload_n hC (D_X12_pave.g 2 rfl) 0 rfl ?_
  refine jr_cVi hC cl_X12_436 ⟨rfl, by decide⟩ (D_X12_pave.g 3 rfl) [] h (fun r M' e => c_X12_countsAll e) rfl rfl ⟨by decide, by decide⟩ (Nat.le_of_ble_eq_true rfl) ⟨Nat.le_of_ble_eq_true rfl, Nat.le_of_ble_eq_true rfl⟩ (fun v1 M2 h => ?_)
  refine jr_iconst hC (D_X12_pave.g 4 rfl) ?_
  refine jr_isub hC (D_X12_pave.g 5 rfl) ?_
  refine jr_cSi hC cl_X12_318 (D_X12_pave.g 6 rfl) [q_i x1, q_i 0, q_i (v1 - 1)] h (fun r M' e => c_X12_in e) rfl rfl ⟨by decide, by decide⟩ (Nat.le_of_ble_eq_true rfl) ⟨Nat.le_of_ble_eq_true rfl, Nat.le_of_ble_eq_true rfl⟩ (fun v3 M4 h => ?_)
  refine jr_if_ne hC (D_X12_pave.g 7 rfl) 16 rfl h (fun h => ?_) (fun h => ?_)
  · refine jr_iconst hC (D_X12_pave.g 8 rfl) ?_
    exact jr_zret hC (D_X12_pave.g 9 rfl) hr hE h
  refine jr_aload_n hC (D_X12_pave.g 10 rfl) 0 rfl ?_
  refine jr_cVv hC cl_X12_385 ⟨rfl, by decide⟩ (D_X12_pave.g 11 rfl) [] h (fun r M' e => c_X12_copies e) rfl rfl ⟨by decide, by decide⟩ (Nat.le_of_ble_eq_true rfl) ⟨Nat.le_of_ble_eq_true rfl, Nat.le_of_ble_eq_true rfl⟩ (fun _ M6 h => ?_)
  refine jr_aload_n hC (D_X12_pave.g 12 rfl) 0 rfl ?_
  refine jr_iload_n hC (D_X12_pave.g 13 rfl) 1 rfl ?_
  refine jr_cVv hC cl_X12_457 ⟨rfl, by decide⟩ (D_X12_pave.g 14 rfl) [q_i x1] h (fun r M' e => c_X12_fillsWays e) rfl rfl ⟨by decide, by decide⟩ (Nat.le_of_ble_eq_true rfl) ⟨Nat.le_of_ble_eq_true rfl, Nat.le_of_ble_eq_true rfl⟩ (fun _ M8 h => ?_)
  refine jr_iconst hC (D_X12_pave.g 15 rfl) ?_
  refine jr_istore_n hC (D_X12_pave.g 16 rfl) (by decide) rfl ?_
  refine jr_pick [1, 0] rfl ?_
  refine jr_lp2 (fun (y2_27 : Int) (M_27 : jMem) => JW E X 4 0 0 M_27 27 [(0, q_r E th), (2, q_i y2_27)] []) ?_ jfuel 0 M8 h
  intro rec_27 hrec_27 y2_27 M_27 h
  refine jr_iload_n hC (D_X12_pave.g 17 rfl) 1 rfl ?_
  refine jr_bipush hC (D_X12_pave.g 18 rfl) bp_18 ?_
  refine jr_icmp_ge hC (D_X12_pave.g 19 rfl) 44 rfl h (fun h => ?_) (fun h => ?_)
  · refine jr_aload_n hC (D_X12_pave.g 20 rfl) 0 rfl ?_
    refine jr_iload_n hC (D_X12_pave.g 21 rfl) 1 rfl ?_
    refine jr_cVv hC cl_X12_379 ⟨rfl, by decide⟩ (D_X12_pave.g 22 rfl) [q_i y2_27] h (fun r M' e => c_X12_lifted e) rfl rfl ⟨by decide, by decide⟩ (Nat.le_of_ble_eq_true rfl) ⟨Nat.le_of_ble_eq_true rfl, Nat.le_of_ble_eq_true rfl⟩ (fun _ M10 h => ?_)
    refine jr_iinc hC (D_X12_pave.g 23 rfl) 1 rfl (by decide) rfl ?_
    refine jr_goto hC (D_X12_pave.g 24 rfl) 27 rfl ?_
    refine jr_pick [1, 0] rfl ?_
    exact hrec_27 (y2_27 + 1) M10 h
  refine jr_iconst hC (D_X12_pave.g 25 rfl) ?_
  refine jr_istore_n hC (D_X12_pave.g 26 rfl) (by decide) rfl ?_
  refine jr_iconst hC (D_X12_pave.g 27 rfl) ?_
  refine jr_istore_n hC (D_X12_pave.g 28 rfl) (by decide) rfl ?_
  refine jr_pick [2, 1, 0] rfl ?_
  refine jr_lp3 (fun (y2_48 : Int) (y3_48 : Int) (M_48 : jMem) => JW E X 4 0 0 M_48 48 [(0, q_r E th), (2, q_i y2_48), (3, q_i y3_48)] []) ?_ jfuel 0 0 M_27 h
  intro rec_48 hrec_48 y2_48 y3_48 M_48 h
  refine jr_iload_n hC (D_X12_pave.g 29 rfl) 2 rfl ?_
  refine jr_aload_n hC (D_X12_pave.g 30 rfl) 0 rfl ?_
  refine jr_cVi hC cl_X12_314 ⟨rfl, by decide⟩ (D_X12_pave.g 31 rfl) [] h (fun r M' e => c_X12_cells e) rfl rfl ⟨by decide, by decide⟩ (Nat.le_of_ble_eq_true rfl) ⟨Nat.le_of_ble_eq_true rfl, Nat.le_of_ble_eq_true rfl⟩ (fun v11 M12 h => ?_)
  refine jr_icmp_ge hC (D_X12_pave.g 32 rfl) 89 rfl h (fun h => ?_) (fun h => ?_)
  · refine jr_aload_n hC (D_X12_pave.g 33 rfl) 0 rfl ?_
    refine jr_getR hC fl_X12_143 rfl (D_X12_pave.g 34 rfl) h (fun r13 h => ?_)
    refine jr_iload_n hC (D_X12_pave.g 35 rfl) 2 rfl ?_
    refine jr_iald hC (D_X12_pave.g 36 rfl) h (fun v14 h => ?_)
    refine jr_join h (fun j => ∀ (y2_83 : Int) (M_83 : jMem), j y2_83 M_83 = some (r, M') → JW E X 4 0 0 M_83 83 [(0, q_r E th), (2, q_i y2_83), (3, q_i y3_48)] []) ?_ ?_
    · intro y2_83 M_83 h
      refine jr_iinc hC (D_X12_pave.g 48 rfl) 2 rfl (by decide) rfl ?_
      refine jr_goto hC (D_X12_pave.g 49 rfl) 48 rfl ?_
      refine jr_pick [1, 2, 0] rfl ?_
      exact hrec_48 y2_83 (y3_48 + 1) M_83 h
    intro j_83 hj_83 h
    refine jr_if_ge hC (D_X12_pave.g 37 rfl) 68 rfl h (fun h => ?_) (fun h => ?_)
    · refine jr_goto hC (D_X12_pave.g 38 rfl) 83 rfl ?_
      exact hj_83 y2_48 M12 h
    refine jr_aload_n hC (D_X12_pave.g 39 rfl) 0 rfl ?_
    refine jr_iload_n hC (D_X12_pave.g 40 rfl) 1 rfl ?_
    refine jr_iload_n hC (D_X12_pave.g 41 rfl) 2 rfl ?_
    refine jr_aload_n hC (D_X12_pave.g 42 rfl) 0 rfl ?_
    refine jr_getR hC fl_X12_143 rfl (D_X12_pave.g 43 rfl) h (fun r15 h => ?_)
    refine jr_iload_n hC (D_X12_pave.g 44 rfl) 2 rfl ?_
    refine jr_iald hC (D_X12_pave.g 45 rfl) h (fun v16 h => ?_)
    refine jr_cVv hC cl_X12_360 ⟨rfl, by decide⟩ (D_X12_pave.g 46 rfl) [q_i y2_48, q_i y3_48, q_i v16] h (fun r M' e => c_X12_laid e) rfl rfl ⟨by decide, by decide⟩ (Nat.le_of_ble_eq_true rfl) ⟨Nat.le_of_ble_eq_true rfl, Nat.le_of_ble_eq_true rfl⟩ (fun _ M18 h => ?_)
    refine jr_iinc hC (D_X12_pave.g 47 rfl) 1 rfl (by decide) rfl ?_
    refine jr_pick [1, 0, 2] rfl ?_
    exact hj_83 (y2_48 + 1) M18 h
  refine jr_aload_n hC (D_X12_pave.g 50 rfl) 0 rfl ?_
  refine jr_cVv hC cl_X12_394 ⟨rfl, by decide⟩ (D_X12_pave.g 51 rfl) [] h (fun r M' e => c_X12_records e) rfl rfl ⟨by decide, by decide⟩ (Nat.le_of_ble_eq_true rfl) ⟨Nat.le_of_ble_eq_true rfl, Nat.le_of_ble_eq_true rfl⟩ (fun _ M20 h => ?_)
  refine jr_iconst hC (D_X12_pave.g 52 rfl) ?_
  exact jr_zret hC (D_X12_pave.g 53 rfl) hr hE h
def f_X12_fillsNow (th : Nat) (M : jMem) : Option (Int × jMem) :=
jcall 12 M th (f_X12_copies th M) fun _ M2 =>
jlp2 (fun rec_6 (y1_6 : Int) (M_6 : jMem) =>
if jd_wr y1_6 < jd_wr 36 then ((jm_gR 12 60 M_6 th).bind fun r3 =>
(jm_st 20 M_6 r3 y1_6 (-1)).bind fun M4 =>
rec_6 (y1_6 + 1) M4)
else (jlp2 (fun rec_27 (y1_27 : Int) (M_27 : jMem) =>
if jd_wr y1_27 < jd_wr 18 then (jcall 12 M_27 th (f_X12_lies th y1_27 M_27) fun v5 M6 =>
jjq (fun (M_61 : jMem) =>
rec_27 (y1_27 + 1) M_61) fun j_61 =>
if jd_wr v5 = 0 then (j_61 M6)
else ((jm_gR 12 60 M6 th).bind fun r7 =>
(jm_gR 12 48 M6 th).bind fun r8 =>
(jm_ld 20 M6 r8 y1_27).bind fun v9 =>
(jm_gR 12 48 M6 th).bind fun r10 =>
(jm_ld 20 M6 r10 (18 + y1_27)).bind fun v11 =>
(jm_st 20 M6 r7 v9 v11).bind fun M12 =>
j_61 M12))
else (some (0, M_27))) jfuel 0 M_6)) jfuel 0 M2
theorem D_X12_fillsNow : jDs cX12_fillsNow [(0, .aload_n 0, 1, 1), (1, .invokevirtual 385, 3, 4), (4, .iconst 0, 1, 5), (5, .istore_n 1, 1, 6), (6, .iload_n 1, 1, 7), (7, .bipush 36, 2, 9), (9, .if_icmp .ge 16, 3, 12), (12, .aload_n 0, 1, 13), (13, .getfield 143, 3, 16), (16, .iload_n 1, 1, 17), (17, .iconst (-1), 1, 18), (18, .iastore, 1, 19), (19, .iinc 1 1, 3, 22), (22, .goto (-16), 3, 25), (25, .iconst 0, 1, 26), (26, .istore_n 1, 1, 27), (27, .iload_n 1, 1, 28), (28, .bipush 18, 2, 30), (30, .if_icmp .ge 37, 3, 33), (33, .aload_n 0, 1, 34), (34, .iload_n 1, 1, 35), (35, .invokevirtual 332, 3, 38), (38, .ifCond .eq 23, 3, 41), (41, .aload_n 0, 1, 42), (42, .getfield 143, 3, 45), (45, .aload_n 0, 1, 46), (46, .getfield 113, 3, 49), (49, .iload_n 1, 1, 50), (50, .iaload, 1, 51), (51, .aload_n 0, 1, 52), (52, .getfield 113, 3, 55), (55, .bipush 18, 2, 57), (57, .iload_n 1, 1, 58), (58, .iadd, 1, 59), (59, .iaload, 1, 60), (60, .iastore, 1, 61), (61, .iinc 1 1, 3, 64), (64, .goto (-37), 3, 67), (67, .return_, 1, 68)] := by unfold jDs; decide +kernel
set_option maxRecDepth 100000 in
set_option maxHeartbeats 4000000 in
theorem c_X12_fillsNow {E : jE} {th : Nat} {M : jMem} {r : Int} {M' : jMem} (h : f_X12_fillsNow th M = some (r, M')) : jMet E yX12_fillsNow cX12_fillsNow 2 (none) 3 0 0 [q_r E th] M (none) M' := by
  unfold f_X12_fillsNow at h
  refine jMet.of RX12 rfl (by decide +kernel) (Nat.le_of_ble_eq_true rfl) [(0, q_r E th)] rfl (fun X hC hE hr hn => ?_)
  refine jr_aload_n hC (D_X12_fillsNow.g 0 rfl) 0 rfl ?_
  refine jr_cVv hC cl_X12_385 ⟨rfl, by decide⟩ (D_X12_fillsNow.g 1 rfl) [] h (fun r M' e => c_X12_copies e) rfl rfl ⟨by decide, by decide⟩ (Nat.le_of_ble_eq_true rfl) ⟨Nat.le_of_ble_eq_true rfl, Nat.le_of_ble_eq_true rfl⟩ (fun _ M2 h => ?_)
  refine jr_iconst hC (D_X12_fillsNow.g 2 rfl) ?_
  refine jr_istore_n hC (D_X12_fillsNow.g 3 rfl) (by decide) rfl ?_
  refine jr_pick [1, 0] rfl ?_
  refine jr_lp2 (fun (y1_6 : Int) (M_6 : jMem) => JW E X 2 0 0 M_6 6 [(0, q_r E th), (1, q_i y1_6)] []) ?_ jfuel 0 M2 h
  intro rec_6 hrec_6 y1_6 M_6 h
  refine jr_iload_n hC (D_X12_fillsNow.g 4 rfl) 1 rfl ?_
  refine jr_bipush hC (D_X12_fillsNow.g 5 rfl) bp_36 ?_
  refine jr_icmp_ge hC (D_X12_fillsNow.g 6 rfl) 25 rfl h (fun h => ?_) (fun h => ?_)
  · refine jr_aload_n hC (D_X12_fillsNow.g 7 rfl) 0 rfl ?_
    refine jr_getR hC fl_X12_143 rfl (D_X12_fillsNow.g 8 rfl) h (fun r3 h => ?_)
    refine jr_iload_n hC (D_X12_fillsNow.g 9 rfl) 1 rfl ?_
    refine jr_iconst hC (D_X12_fillsNow.g 10 rfl) ?_
    refine jr_iast hC (D_X12_fillsNow.g 11 rfl) h (fun M4 _ h => ?_)
    refine jr_iinc hC (D_X12_fillsNow.g 12 rfl) 1 rfl (by decide) rfl ?_
    refine jr_goto hC (D_X12_fillsNow.g 13 rfl) 6 rfl ?_
    refine jr_pick [1, 0] rfl ?_
    exact hrec_6 (y1_6 + 1) M4 h
  refine jr_iconst hC (D_X12_fillsNow.g 14 rfl) ?_
  refine jr_istore_n hC (D_X12_fillsNow.g 15 rfl) (by decide) rfl ?_
  refine jr_pick [1, 0] rfl ?_
  refine jr_lp2 (fun (y1_27 : Int) (M_27 : jMem) => JW E X 2 0 0 M_27 27 [(0, q_r E th), (1, q_i y1_27)] []) ?_ jfuel 0 M_6 h
  intro rec_27 hrec_27 y1_27 M_27 h
  refine jr_iload_n hC (D_X12_fillsNow.g 16 rfl) 1 rfl ?_
  refine jr_bipush hC (D_X12_fillsNow.g 17 rfl) bp_18 ?_
  refine jr_icmp_ge hC (D_X12_fillsNow.g 18 rfl) 67 rfl h (fun h => ?_) (fun h => ?_)
  · refine jr_aload_n hC (D_X12_fillsNow.g 19 rfl) 0 rfl ?_
    refine jr_iload_n hC (D_X12_fillsNow.g 20 rfl) 1 rfl ?_
    refine jr_cVi hC cl_X12_332 ⟨rfl, by decide⟩ (D_X12_fillsNow.g 21 rfl) [q_i y1_27] h (fun r M' e => c_X12_lies e) rfl rfl ⟨by decide, by decide⟩ (Nat.le_of_ble_eq_true rfl) ⟨Nat.le_of_ble_eq_true rfl, Nat.le_of_ble_eq_true rfl⟩ (fun v5 M6 h => ?_)
    refine jr_join h (fun j => ∀ (M_61 : jMem), j M_61 = some (r, M') → JW E X 2 0 0 M_61 61 [(0, q_r E th), (1, q_i y1_27)] []) ?_ ?_
    · intro M_61 h
      refine jr_iinc hC (D_X12_fillsNow.g 36 rfl) 1 rfl (by decide) rfl ?_
      refine jr_goto hC (D_X12_fillsNow.g 37 rfl) 27 rfl ?_
      refine jr_pick [1, 0] rfl ?_
      exact hrec_27 (y1_27 + 1) M_61 h
    intro j_61 hj_61 h
    refine jr_if_eq hC (D_X12_fillsNow.g 22 rfl) 61 rfl h (fun h => ?_) (fun h => ?_)
    · exact hj_61 M6 h
    refine jr_aload_n hC (D_X12_fillsNow.g 23 rfl) 0 rfl ?_
    refine jr_getR hC fl_X12_143 rfl (D_X12_fillsNow.g 24 rfl) h (fun r7 h => ?_)
    refine jr_aload_n hC (D_X12_fillsNow.g 25 rfl) 0 rfl ?_
    refine jr_getR hC fl_X12_113 rfl (D_X12_fillsNow.g 26 rfl) h (fun r8 h => ?_)
    refine jr_iload_n hC (D_X12_fillsNow.g 27 rfl) 1 rfl ?_
    refine jr_iald hC (D_X12_fillsNow.g 28 rfl) h (fun v9 h => ?_)
    refine jr_aload_n hC (D_X12_fillsNow.g 29 rfl) 0 rfl ?_
    refine jr_getR hC fl_X12_113 rfl (D_X12_fillsNow.g 30 rfl) h (fun r10 h => ?_)
    refine jr_bipush hC (D_X12_fillsNow.g 31 rfl) bp_18 ?_
    refine jr_iload_n hC (D_X12_fillsNow.g 32 rfl) 1 rfl ?_
    refine jr_iadd hC (D_X12_fillsNow.g 33 rfl) ?_
    refine jr_iald hC (D_X12_fillsNow.g 34 rfl) h (fun v11 h => ?_)
    refine jr_iast hC (D_X12_fillsNow.g 35 rfl) h (fun M12 _ h => ?_)
    exact hj_61 M12 h
  exact jr_vret hC (D_X12_fillsNow.g 38 rfl) hr hE h
def f_X12_rank (th : Nat) (M : jMem) : Option (Int × jMem) :=
jcall 12 M th (f_X12_countsAll th M) fun v1 M2 =>
jcall 12 M2 th (f_X12_fillsNow th M2) fun _ M4 =>
jcall 12 M4 th (f_X12_freeMany th M4) fun v5 M6 =>
if jd_wr v5 ≤ 0 then (jlp4 (fun rec_25 (y1_25 : Int) (y2_25 : Int) (y3_25 : Int) (M_25 : jMem) =>
jcall 12 M_25 th (f_X12_cells th M_25) fun v7 M8 =>
if jd_wr y3_25 < jd_wr v7 then ((jm_gR 12 60 M8 th).bind fun r9 =>
(jm_ld 20 M8 r9 y3_25).bind fun v10 =>
jjq (fun (y1_53 : Int) (M_53 : jMem) =>
(jm_gR 12 60 M_53 th).bind fun r11 =>
(jm_ld 20 M_53 r11 y3_25).bind fun v12 =>
jjq (fun (z0_90 : Int) (M_90 : jMem) =>
rec_25 y1_53 z0_90 (y3_25 + 1) M_90) fun j_90 =>
if jd_wr v12 < 0 then (j_90 (jd_shr y2_25 1) M_53)
else ((jm_gR 12 60 M_53 th).bind fun r13 =>
(jm_ld 20 M_53 r13 y3_25).bind fun v14 =>
if jd_wr v14 = 0 then (j_90 (jd_shr (jd_or y2_25 2) 1) M_53)
else (jcall 12 M_53 th (f_X12_maskDown th y2_25 M_53) fun v15 M16 =>
j_90 v15 M16))) fun j_53 =>
if jd_wr v10 = jd_wr 1 then (jcall 12 M8 th (f_X12_acrossIn th 0 y3_25 y2_25 M8) fun v17 M18 =>
j_53 (y1_25 + v17) M18)
else (j_53 y1_25 M8))
else (some (y1_25, M8))) jfuel 0 0 0 M6)
else (some ((-2), M6))
theorem D_X12_rank : jDs cX12_rank [(0, .aload_n 0, 1, 1), (1, .invokevirtual 436, 3, 4), (4, .pop, 1, 5), (5, .aload_n 0, 1, 6), (6, .invokevirtual 460, 3, 9), (9, .aload_n 0, 1, 10), (10, .invokevirtual 454, 3, 13), (13, .ifCond .le 6, 3, 16), (16, .bipush (-2), 2, 18), (18, .ireturn, 1, 19), (19, .iconst 0, 1, 20), (20, .istore_n 1, 1, 21), (21, .iconst 0, 1, 22), (22, .istore_n 2, 1, 23), (23, .iconst 0, 1, 24), (24, .istore_n 3, 1, 25), (25, .iload_n 3, 1, 26), (26, .aload_n 0, 1, 27), (27, .invokevirtual 314, 3, 30), (30, .if_icmp .ge 67, 3, 33), (33, .aload_n 0, 1, 34), (34, .getfield 143, 3, 37), (37, .iload_n 3, 1, 38), (38, .iaload, 1, 39), (39, .iconst 1, 1, 40), (40, .if_icmp .ne 13, 3, 43), (43, .iload_n 1, 1, 44), (44, .aload_n 0, 1, 45), (45, .iconst 0, 1, 46), (46, .iload_n 3, 1, 47), (47, .iload_n 2, 1, 48), (48, .invokevirtual 416, 3, 51), (51, .iadd, 1, 52), (52, .istore_n 1, 1, 53), (53, .aload_n 0, 1, 54), (54, .getfield 143, 3, 57), (57, .iload_n 3, 1, 58), (58, .iaload, 1, 59), (59, .ifCond .ge 9, 3, 62), (62, .iload_n 2, 1, 63), (63, .iconst 1, 1, 64), (64, .ishr, 1, 65), (65, .goto 25, 3, 68), (68, .aload_n 0, 1, 69), (69, .getfield 143, 3, 72), (72, .iload_n 3, 1, 73), (73, .iaload, 1, 74), (74, .ifCond .ne 11, 3, 77), (77, .iload_n 2, 1, 78), (78, .iconst 2, 1, 79), (79, .ior, 1, 80), (80, .iconst 1, 1, 81), (81, .ishr, 1, 82), (82, .goto 8, 3, 85), (85, .aload_n 0, 1, 86), (86, .iload_n 2, 1, 87), (87, .invokevirtual 413, 3, 90), (90, .istore_n 2, 1, 91), (91, .iinc 3 1, 3, 94), (94, .goto (-69), 3, 97), (97, .iload_n 1, 1, 98), (98, .ireturn, 1, 99)] := by unfold jDs; decide +kernel
set_option maxRecDepth 100000 in
set_option maxHeartbeats 4000000 in
theorem c_X12_rank {E : jE} {th : Nat} {M : jMem} {r : Int} {M' : jMem} (h : f_X12_rank th M = some (r, M')) : jMet E yX12_rank cX12_rank 4 (some .int) 8 0 0 [q_r E th] M (some (q_i r)) M' := by
  unfold f_X12_rank at h
  refine jMet.of RX12 rfl (by decide +kernel) (Nat.le_of_ble_eq_true rfl) [(0, q_r E th)] rfl (fun X hC hE hr hn => ?_)
  refine jr_aload_n hC (D_X12_rank.g 0 rfl) 0 rfl ?_
  refine jr_cVi hC cl_X12_436 ⟨rfl, by decide⟩ (D_X12_rank.g 1 rfl) [] h (fun r M' e => c_X12_countsAll e) rfl rfl ⟨by decide, by decide⟩ (Nat.le_of_ble_eq_true rfl) ⟨Nat.le_of_ble_eq_true rfl, Nat.le_of_ble_eq_true rfl⟩ (fun v1 M2 h => ?_)
  refine jr_pop hC (D_X12_rank.g 2 rfl) rfl ?_
  refine jr_aload_n hC (D_X12_rank.g 3 rfl) 0 rfl ?_
  refine jr_cVv hC cl_X12_460 ⟨rfl, by decide⟩ (D_X12_rank.g 4 rfl) [] h (fun r M' e => c_X12_fillsNow e) rfl rfl ⟨by decide, by decide⟩ (Nat.le_of_ble_eq_true rfl) ⟨Nat.le_of_ble_eq_true rfl, Nat.le_of_ble_eq_true rfl⟩ (fun _ M4 h => ?_)
  refine jr_aload_n hC (D_X12_rank.g 5 rfl) 0 rfl ?_
  refine jr_cVi hC cl_X12_454 ⟨rfl, by decide⟩ (D_X12_rank.g 6 rfl) [] h (fun r M' e => c_X12_freeMany e) rfl rfl ⟨by decide, by decide⟩ (Nat.le_of_ble_eq_true rfl) ⟨Nat.le_of_ble_eq_true rfl, Nat.le_of_ble_eq_true rfl⟩ (fun v5 M6 h => ?_)
  refine jr_if_le hC (D_X12_rank.g 7 rfl) 19 rfl h (fun h => ?_) (fun h => ?_)
  · refine jr_iconst hC (D_X12_rank.g 10 rfl) ?_
    refine jr_istore_n hC (D_X12_rank.g 11 rfl) (by decide) rfl ?_
    refine jr_iconst hC (D_X12_rank.g 12 rfl) ?_
    refine jr_istore_n hC (D_X12_rank.g 13 rfl) (by decide) rfl ?_
    refine jr_iconst hC (D_X12_rank.g 14 rfl) ?_
    refine jr_istore_n hC (D_X12_rank.g 15 rfl) (by decide) rfl ?_
    refine jr_pick [3, 2, 1, 0] rfl ?_
    refine jr_lp4 (fun (y1_25 : Int) (y2_25 : Int) (y3_25 : Int) (M_25 : jMem) => JW E X 4 0 0 M_25 25 [(0, q_r E th), (1, q_i y1_25), (2, q_i y2_25), (3, q_i y3_25)] []) ?_ jfuel 0 0 0 M6 h
    intro rec_25 hrec_25 y1_25 y2_25 y3_25 M_25 h
    refine jr_iload_n hC (D_X12_rank.g 16 rfl) 3 rfl ?_
    refine jr_aload_n hC (D_X12_rank.g 17 rfl) 0 rfl ?_
    refine jr_cVi hC cl_X12_314 ⟨rfl, by decide⟩ (D_X12_rank.g 18 rfl) [] h (fun r M' e => c_X12_cells e) rfl rfl ⟨by decide, by decide⟩ (Nat.le_of_ble_eq_true rfl) ⟨Nat.le_of_ble_eq_true rfl, Nat.le_of_ble_eq_true rfl⟩ (fun v7 M8 h => ?_)
    refine jr_icmp_ge hC (D_X12_rank.g 19 rfl) 97 rfl h (fun h => ?_) (fun h => ?_)
    · refine jr_aload_n hC (D_X12_rank.g 20 rfl) 0 rfl ?_
      refine jr_getR hC fl_X12_143 rfl (D_X12_rank.g 21 rfl) h (fun r9 h => ?_)
      refine jr_iload_n hC (D_X12_rank.g 22 rfl) 3 rfl ?_
      refine jr_iald hC (D_X12_rank.g 23 rfl) h (fun v10 h => ?_)
      refine jr_iconst hC (D_X12_rank.g 24 rfl) ?_
      refine jr_join h (fun j => ∀ (y1_53 : Int) (M_53 : jMem), j y1_53 M_53 = some (r, M') → JW E X 4 0 0 M_53 53 [(0, q_r E th), (1, q_i y1_53), (2, q_i y2_25), (3, q_i y3_25)] []) ?_ ?_
      · intro y1_53 M_53 h
        refine jr_aload_n hC (D_X12_rank.g 34 rfl) 0 rfl ?_
        refine jr_getR hC fl_X12_143 rfl (D_X12_rank.g 35 rfl) h (fun r11 h => ?_)
        refine jr_iload_n hC (D_X12_rank.g 36 rfl) 3 rfl ?_
        refine jr_iald hC (D_X12_rank.g 37 rfl) h (fun v12 h => ?_)
        refine jr_join h (fun j => ∀ (z0_90 : Int) (M_90 : jMem), j z0_90 M_90 = some (r, M') → JW E X 4 0 0 M_90 90 [(0, q_r E th), (1, q_i y1_53), (3, q_i y3_25)] [q_i z0_90]) ?_ ?_
        · intro z0_90 M_90 h
          refine jr_istore_n hC (D_X12_rank.g 57 rfl) (by decide) rfl ?_
          refine jr_iinc hC (D_X12_rank.g 58 rfl) 3 rfl (by decide) rfl ?_
          refine jr_goto hC (D_X12_rank.g 59 rfl) 25 rfl ?_
          refine jr_pick [2, 3, 1, 0] rfl ?_
          exact hrec_25 y1_53 z0_90 (y3_25 + 1) M_90 h
        intro j_90 hj_90 h
        refine jr_if_ge hC (D_X12_rank.g 38 rfl) 68 rfl h (fun h => ?_) (fun h => ?_)
        · refine jr_iload_n hC (D_X12_rank.g 39 rfl) 2 rfl ?_
          refine jr_iconst hC (D_X12_rank.g 40 rfl) ?_
          refine jr_ishr hC (D_X12_rank.g 41 rfl) ?_
          refine jr_goto hC (D_X12_rank.g 42 rfl) 90 rfl ?_
          refine jr_pick [0, 1, 3] rfl ?_
          exact hj_90 (jd_shr y2_25 1) M_53 h
        refine jr_aload_n hC (D_X12_rank.g 43 rfl) 0 rfl ?_
        refine jr_getR hC fl_X12_143 rfl (D_X12_rank.g 44 rfl) h (fun r13 h => ?_)
        refine jr_iload_n hC (D_X12_rank.g 45 rfl) 3 rfl ?_
        refine jr_iald hC (D_X12_rank.g 46 rfl) h (fun v14 h => ?_)
        refine jr_if_ne hC (D_X12_rank.g 47 rfl) 85 rfl h (fun h => ?_) (fun h => ?_)
        · refine jr_iload_n hC (D_X12_rank.g 48 rfl) 2 rfl ?_
          refine jr_iconst hC (D_X12_rank.g 49 rfl) ?_
          refine jr_ior hC (D_X12_rank.g 50 rfl) ?_
          refine jr_iconst hC (D_X12_rank.g 51 rfl) ?_
          refine jr_ishr hC (D_X12_rank.g 52 rfl) ?_
          refine jr_goto hC (D_X12_rank.g 53 rfl) 90 rfl ?_
          refine jr_pick [0, 1, 3] rfl ?_
          exact hj_90 (jd_shr (jd_or y2_25 2) 1) M_53 h
        refine jr_aload_n hC (D_X12_rank.g 54 rfl) 0 rfl ?_
        refine jr_iload_n hC (D_X12_rank.g 55 rfl) 2 rfl ?_
        refine jr_cVi hC cl_X12_413 ⟨rfl, by decide⟩ (D_X12_rank.g 56 rfl) [q_i y2_25] h (fun r M' e => c_X12_maskDown e) rfl rfl ⟨by decide, by decide⟩ (Nat.le_of_ble_eq_true rfl) ⟨Nat.le_of_ble_eq_true rfl, Nat.le_of_ble_eq_true rfl⟩ (fun v15 M16 h => ?_)
        refine jr_pick [0, 1, 3] rfl ?_
        exact hj_90 v15 M16 h
      intro j_53 hj_53 h
      refine jr_icmp_ne hC (D_X12_rank.g 25 rfl) 53 rfl h (fun h => ?_) (fun h => ?_)
      · refine jr_iload_n hC (D_X12_rank.g 26 rfl) 1 rfl ?_
        refine jr_aload_n hC (D_X12_rank.g 27 rfl) 0 rfl ?_
        refine jr_iconst hC (D_X12_rank.g 28 rfl) ?_
        refine jr_iload_n hC (D_X12_rank.g 29 rfl) 3 rfl ?_
        refine jr_iload_n hC (D_X12_rank.g 30 rfl) 2 rfl ?_
        refine jr_cVi hC cl_X12_416 ⟨rfl, by decide⟩ (D_X12_rank.g 31 rfl) [q_i 0, q_i y3_25, q_i y2_25] h (fun r M' e => c_X12_acrossIn e) rfl rfl ⟨by decide, by decide⟩ (Nat.le_of_ble_eq_true rfl) ⟨Nat.le_of_ble_eq_true rfl, Nat.le_of_ble_eq_true rfl⟩ (fun v17 M18 h => ?_)
        refine jr_iadd hC (D_X12_rank.g 32 rfl) ?_
        refine jr_istore_n hC (D_X12_rank.g 33 rfl) (by decide) rfl ?_
        refine jr_pick [1, 0, 2, 3] rfl ?_
        exact hj_53 (y1_25 + v17) M18 h
      exact hj_53 y1_25 M8 h
    refine jr_iload_n hC (D_X12_rank.g 60 rfl) 1 rfl ?_
    exact jr_iret hC (D_X12_rank.g 61 rfl) hr hE h
  refine jr_bipush hC (D_X12_rank.g 8 rfl) bp_m2 ?_
  exact jr_iret hC (D_X12_rank.g 9 rfl) hr hE h
def f_X12_fillsHills (th : Nat) (M : jMem) : Option (Int × jMem) :=
jlp2 (fun rec_2 (y1_2 : Int) (M_2 : jMem) =>
(jm_gR 12 21 M_2 th).bind fun r1 =>
(jm_gI 12 18 M_2 th).bind fun v2 =>
(jm_ld 20 M_2 r1 v2).bind fun v3 =>
if jd_wr y1_2 ≤ jd_wr v3 then (jjq (fun (M_52 : jMem) =>
jlp2 (fun rec_54 (y2_54 : Int) (M_54 : jMem) =>
jcall 12 M_54 th (f_X12_w th M_54) fun v4 M5 =>
if jd_wr y2_54 ≤ jd_wr v4 then ((jm_rm ((y2_54 - 1) + y1_2) 2).bind fun v6 =>
jjq (fun (z0_77 : Int) =>
(jm_gR 12 21 M5 th).bind fun r7 =>
(jm_gI 12 18 M5 th).bind fun v8 =>
(jm_ld 20 M5 r7 v8).bind fun v9 =>
jbd (f_X12_in y1_2 1 (v9 - 1) M5) fun v10 M11 =>
jjq (fun (z0_123 : Int) (M_123 : jMem) =>
(jm_gR 12 61 M_123 th).bind fun r12 =>
(jm_gR 12 61 M_123 th).bind fun r13 =>
(jm_ld 20 M_123 r13 (((7 * y1_2) + y2_54) - 1)).bind fun v14 =>
jjq (fun (z0_161 : Int) =>
(jm_st 20 M_123 r12 ((7 * y1_2) + y2_54) (v14 + z0_161)).bind fun M15 =>
rec_54 (y2_54 + 1) M15) fun j_161 =>
if jd_wr z0_123 = 0 then (j_161 z0_77)
else (j_161 ((-3) * z0_77))) fun j_123 =>
jjq (fun (M_122 : jMem) =>
j_123 0 M_122) fun j_122 =>
if jd_wr v10 = 0 then (j_122 M11)
else ((jm_gR 12 60 M11 th).bind fun r16 =>
jcall 12 M11 th (f_X12_w th M11) fun v17 M18 =>
(jm_ld 20 M18 r16 (((v17 * (y1_2 - 1)) + y2_54) - 1)).bind fun v19 =>
if jd_wr v19 = jd_wr 1 then (j_123 1 M18)
else (j_122 M18))) fun j_77 =>
if jd_wr v6 = 0 then (j_77 1)
else (j_77 (-1)))
else (rec_2 (y1_2 + 1) M5)) jfuel 1 M_52) fun j_52 =>
if jd_wr y1_2 ≤ 0 then (j_52 M_2)
else ((jm_gR 12 61 M_2 th).bind fun r20 =>
(jm_gR 12 61 M_2 th).bind fun r21 =>
(jm_ld 20 M_2 r21 ((7 * y1_2) - 7)).bind fun v22 =>
(jm_rm y1_2 2).bind fun v23 =>
jjq (fun (z0_50 : Int) =>
(jm_st 20 M_2 r20 (7 * y1_2) (v22 + z0_50)).bind fun M24 =>
j_52 M24) fun j_50 =>
if jd_wr v23 = 0 then (j_50 1)
else (j_50 (-1))))
else (some (0, M_2))) jfuel 0 M
theorem D_X12_fillsHills : jDs cX12_fillsHills [(0, .iconst 0, 1, 1), (1, .istore_n 1, 1, 2), (2, .iload_n 1, 1, 3), (3, .aload_n 0, 1, 4), (4, .getfield 43, 3, 7), (7, .aload_n 0, 1, 8), (8, .getfield 245, 3, 11), (11, .iaload, 1, 12), (12, .if_icmp .gt 163, 3, 15), (15, .iload_n 1, 1, 16), (16, .ifCond .le 36, 3, 19), (19, .aload_n 0, 1, 20), (20, .getfield 146, 3, 23), (23, .bipush 7, 2, 25), (25, .iload_n 1, 1, 26), (26, .imul, 1, 27), (27, .aload_n 0, 1, 28), (28, .getfield 146, 3, 31), (31, .bipush 7, 2, 33), (33, .iload_n 1, 1, 34), (34, .imul, 1, 35), (35, .bipush 7, 2, 37), (37, .isub, 1, 38), (38, .iaload, 1, 39), (39, .iload_n 1, 1, 40), (40, .iconst 2, 1, 41), (41, .irem, 1, 42), (42, .ifCond .ne 7, 3, 45), (45, .iconst 1, 1, 46), (46, .goto 4, 3, 49), (49, .iconst (-1), 1, 50), (50, .iadd, 1, 51), (51, .iastore, 1, 52), (52, .iconst 1, 1, 53), (53, .istore_n 2, 1, 54), (54, .iload_n 2, 1, 55), (55, .aload_n 0, 1, 56), (56, .invokevirtual 322, 3, 59), (59, .if_icmp .gt 110, 3, 62), (62, .iload_n 2, 1, 63), (63, .iconst 1, 1, 64), (64, .isub, 1, 65), (65, .iload_n 1, 1, 66), (66, .iadd, 1, 67), (67, .iconst 2, 1, 68), (68, .irem, 1, 69), (69, .ifCond .ne 7, 3, 72), (72, .iconst 1, 1, 73), (73, .goto 4, 3, 76), (76, .iconst (-1), 1, 77), (77, .istore_n 3, 1, 78), (78, .iload_n 1, 1, 79), (79, .iconst 1, 1, 80), (80, .aload_n 0, 1, 81), (81, .getfield 43, 3, 84), (84, .aload_n 0, 1, 85), (85, .getfield 245, 3, 88), (88, .iaload, 1, 89), (89, .iconst 1, 1, 90), (90, .isub, 1, 91), (91, .invokestatic 318, 3, 94), (94, .ifCond .eq 28, 3, 97), (97, .aload_n 0, 1, 98), (98, .getfield 143, 3, 101), (101, .aload_n 0, 1, 102), (102, .invokevirtual 322, 3, 105), (105, .iload_n 1, 1, 106), (106, .iconst 1, 1, 107), (107, .isub, 1, 108), (108, .imul, 1, 109), (109, .iload_n 2, 1, 110), (110, .iadd, 1, 111), (111, .iconst 1, 1, 112), (112, .isub, 1, 113), (113, .iaload, 1, 114), (114, .iconst 1, 1, 115), (115, .if_icmp .ne 7, 3, 118), (118, .iconst 1, 1, 119), (119, .goto 4, 3, 122), (122, .iconst 0, 1, 123), (123, .istore 4, 2, 125), (125, .aload_n 0, 1, 126), (126, .getfield 146, 3, 129), (129, .bipush 7, 2, 131), (131, .iload_n 1, 1, 132), (132, .imul, 1, 133), (133, .iload_n 2, 1, 134), (134, .iadd, 1, 135), (135, .aload_n 0, 1, 136), (136, .getfield 146, 3, 139), (139, .bipush 7, 2, 141), (141, .iload_n 1, 1, 142), (142, .imul, 1, 143), (143, .iload_n 2, 1, 144), (144, .iadd, 1, 145), (145, .iconst 1, 1, 146), (146, .isub, 1, 147), (147, .iaload, 1, 148), (148, .iload 4, 2, 150), (150, .ifCond .eq 10, 3, 153), (153, .bipush (-3), 2, 155), (155, .iload_n 3, 1, 156), (156, .imul, 1, 157), (157, .goto 4, 3, 160), (160, .iload_n 3, 1, 161), (161, .iadd, 1, 162), (162, .iastore, 1, 163), (163, .iinc 2 1, 3, 166), (166, .goto (-112), 3, 169), (169, .iinc 1 1, 3, 172), (172, .goto (-170), 3, 175), (175, .return_, 1, 176)] := by unfold jDs; decide +kernel
set_option maxRecDepth 100000 in
set_option maxHeartbeats 4000000 in
theorem c_X12_fillsHills {E : jE} {th : Nat} {M : jMem} {r : Int} {M' : jMem} (h : f_X12_fillsHills th M = some (r, M')) : jMet E yX12_fillsHills cX12_fillsHills 5 (none) 3 0 0 [q_r E th] M (none) M' := by
  unfold f_X12_fillsHills at h
  refine jMet.of RX12 rfl (by decide +kernel) (Nat.le_of_ble_eq_true rfl) [(0, q_r E th)] rfl (fun X hC hE hr hn => ?_)
  refine jr_iconst hC (D_X12_fillsHills.g 0 rfl) ?_
  refine jr_istore_n hC (D_X12_fillsHills.g 1 rfl) (by decide) rfl ?_
  refine jr_pick [1, 0] rfl ?_
  refine jr_lp2 (fun (y1_2 : Int) (M_2 : jMem) => JW E X 5 0 0 M_2 2 [(0, q_r E th), (1, q_i y1_2)] []) ?_ jfuel 0 M h
  intro rec_2 hrec_2 y1_2 M_2 h
  refine jr_iload_n hC (D_X12_fillsHills.g 2 rfl) 1 rfl ?_
  refine jr_aload_n hC (D_X12_fillsHills.g 3 rfl) 0 rfl ?_
  refine jr_getR hC fl_X12_43 rfl (D_X12_fillsHills.g 4 rfl) h (fun r1 h => ?_)
  refine jr_aload_n hC (D_X12_fillsHills.g 5 rfl) 0 rfl ?_
  refine jr_getI hC fl_X12_245 rfl (D_X12_fillsHills.g 6 rfl) h (fun v2 h => ?_)
  refine jr_iald hC (D_X12_fillsHills.g 7 rfl) h (fun v3 h => ?_)
  refine jr_icmp_gt hC (D_X12_fillsHills.g 8 rfl) 175 rfl h (fun h => ?_) (fun h => ?_)
  · refine jr_iload_n hC (D_X12_fillsHills.g 9 rfl) 1 rfl ?_
    refine jr_join h (fun j => ∀ (M_52 : jMem), j M_52 = some (r, M') → JW E X 5 0 0 M_52 52 [(0, q_r E th), (1, q_i y1_2)] []) ?_ ?_
    · intro M_52 h
      refine jr_iconst hC (D_X12_fillsHills.g 33 rfl) ?_
      refine jr_istore_n hC (D_X12_fillsHills.g 34 rfl) (by decide) rfl ?_
      refine jr_pick [1, 2, 0] rfl ?_
      refine jr_lp2 (fun (y2_54 : Int) (M_54 : jMem) => JW E X 5 0 0 M_54 54 [(0, q_r E th), (1, q_i y1_2), (2, q_i y2_54)] []) ?_ jfuel 1 M_52 h
      intro rec_54 hrec_54 y2_54 M_54 h
      refine jr_iload_n hC (D_X12_fillsHills.g 35 rfl) 2 rfl ?_
      refine jr_aload_n hC (D_X12_fillsHills.g 36 rfl) 0 rfl ?_
      refine jr_cVi hC cl_X12_322 ⟨rfl, by decide⟩ (D_X12_fillsHills.g 37 rfl) [] h (fun r M' e => c_X12_w e) rfl rfl ⟨by decide, by decide⟩ (Nat.le_of_ble_eq_true rfl) ⟨Nat.le_of_ble_eq_true rfl, Nat.le_of_ble_eq_true rfl⟩ (fun v4 M5 h => ?_)
      refine jr_icmp_gt hC (D_X12_fillsHills.g 38 rfl) 169 rfl h (fun h => ?_) (fun h => ?_)
      · refine jr_iload_n hC (D_X12_fillsHills.g 39 rfl) 2 rfl ?_
        refine jr_iconst hC (D_X12_fillsHills.g 40 rfl) ?_
        refine jr_isub hC (D_X12_fillsHills.g 41 rfl) ?_
        refine jr_iload_n hC (D_X12_fillsHills.g 42 rfl) 1 rfl ?_
        refine jr_iadd hC (D_X12_fillsHills.g 43 rfl) ?_
        refine jr_iconst hC (D_X12_fillsHills.g 44 rfl) ?_
        refine jr_irem hC (D_X12_fillsHills.g 45 rfl) h (fun v6 _ h => ?_)
        refine jr_join h (fun j => ∀ (z0_77 : Int), j z0_77 = some (r, M') → JW E X 5 0 0 M5 77 [(0, q_r E th), (1, q_i y1_2), (2, q_i y2_54)] [q_i z0_77]) ?_ ?_
        · intro z0_77 h
          refine jr_istore_n hC (D_X12_fillsHills.g 50 rfl) (by decide) rfl ?_
          refine jr_iload_n hC (D_X12_fillsHills.g 51 rfl) 2 rfl ?_
          refine jr_iconst hC (D_X12_fillsHills.g 52 rfl) ?_
          refine jr_aload_n hC (D_X12_fillsHills.g 53 rfl) 1 rfl ?_
          refine jr_getR hC fl_X12_43 rfl (D_X12_fillsHills.g 54 rfl) h (fun r7 h => ?_)
          refine jr_aload_n hC (D_X12_fillsHills.g 55 rfl) 1 rfl ?_
          refine jr_getI hC fl_X12_245 rfl (D_X12_fillsHills.g 56 rfl) h (fun v8 h => ?_)
          refine jr_iald hC (D_X12_fillsHills.g 57 rfl) h (fun v9 h => ?_)
          refine jr_iconst hC (D_X12_fillsHills.g 58 rfl) ?_
          refine jr_isub hC (D_X12_fillsHills.g 59 rfl) ?_
          refine jr_cSi hC cl_X12_318 (D_X12_fillsHills.g 60 rfl) [q_i y1_2, q_i 1, q_i (v9 - 1)] h (fun r M' e => c_X12_in e) rfl rfl ⟨by decide, by decide⟩ (Nat.le_of_ble_eq_true rfl) ⟨Nat.le_of_ble_eq_true rfl, Nat.le_of_ble_eq_true rfl⟩ (fun v10 M11 h => ?_)
          refine jr_join h (fun j => ∀ (z0_123 : Int) (M_123 : jMem), j z0_123 M_123 = some (r, M') → JW E X 5 0 0 M_123 123 [(0, q_r E th), (1, q_i y1_2), (2, q_i y2_54), (3, q_i z0_77)] [q_i z0_123]) ?_ ?_
          · intro z0_123 M_123 h
            refine jr_istore hC (D_X12_fillsHills.g 80 rfl) (by decide) rfl ?_
            refine jr_aload_n hC (D_X12_fillsHills.g 81 rfl) 1 rfl ?_
            refine jr_getR hC fl_X12_146 rfl (D_X12_fillsHills.g 82 rfl) h (fun r12 h => ?_)
            refine jr_bipush hC (D_X12_fillsHills.g 83 rfl) bp_7 ?_
            refine jr_iload_n hC (D_X12_fillsHills.g 84 rfl) 2 rfl ?_
            refine jr_imul hC (D_X12_fillsHills.g 85 rfl) ?_
            refine jr_iload_n hC (D_X12_fillsHills.g 86 rfl) 3 rfl ?_
            refine jr_iadd hC (D_X12_fillsHills.g 87 rfl) ?_
            refine jr_aload_n hC (D_X12_fillsHills.g 88 rfl) 1 rfl ?_
            refine jr_getR hC fl_X12_146 rfl (D_X12_fillsHills.g 89 rfl) h (fun r13 h => ?_)
            refine jr_bipush hC (D_X12_fillsHills.g 90 rfl) bp_7 ?_
            refine jr_iload_n hC (D_X12_fillsHills.g 91 rfl) 2 rfl ?_
            refine jr_imul hC (D_X12_fillsHills.g 92 rfl) ?_
            refine jr_iload_n hC (D_X12_fillsHills.g 93 rfl) 3 rfl ?_
            refine jr_iadd hC (D_X12_fillsHills.g 94 rfl) ?_
            refine jr_iconst hC (D_X12_fillsHills.g 95 rfl) ?_
            refine jr_isub hC (D_X12_fillsHills.g 96 rfl) ?_
            refine jr_iald hC (D_X12_fillsHills.g 97 rfl) h (fun v14 h => ?_)
            refine jr_iload hC (D_X12_fillsHills.g 98 rfl) 0 rfl ?_
            refine jr_join h (fun j => ∀ (z0_161 : Int), j z0_161 = some (r, M') → JW E X 5 0 0 M_123 161 [(0, q_r E th), (1, q_i y1_2), (2, q_i y2_54)] [q_i z0_161, q_i v14, q_i ((7 * y1_2) + y2_54), q_r E r12]) ?_ ?_
            · intro z0_161 h
              refine jr_iadd hC (D_X12_fillsHills.g 105 rfl) ?_
              refine jr_iast hC (D_X12_fillsHills.g 106 rfl) h (fun M15 _ h => ?_)
              refine jr_iinc hC (D_X12_fillsHills.g 107 rfl) 2 rfl (by decide) rfl ?_
              refine jr_goto hC (D_X12_fillsHills.g 108 rfl) 54 rfl ?_
              refine jr_pick [1, 2, 0] rfl ?_
              exact hrec_54 (y2_54 + 1) M15 h
            intro j_161 hj_161 h
            refine jr_if_eq hC (D_X12_fillsHills.g 99 rfl) 160 rfl h (fun h => ?_) (fun h => ?_)
            · refine jr_iload_n hC (D_X12_fillsHills.g 104 rfl) 4 rfl ?_
              refine jr_pick [1, 2, 3] rfl ?_
              exact hj_161 z0_77 h
            refine jr_bipush hC (D_X12_fillsHills.g 100 rfl) bp_m3 ?_
            refine jr_iload_n hC (D_X12_fillsHills.g 101 rfl) 4 rfl ?_
            refine jr_imul hC (D_X12_fillsHills.g 102 rfl) ?_
            refine jr_goto hC (D_X12_fillsHills.g 103 rfl) 161 rfl ?_
            refine jr_pick [1, 2, 3] rfl ?_
            exact hj_161 ((-3) * z0_77) h
          intro j_123 hj_123 h
          refine jr_join h (fun j => ∀ (M_122 : jMem), j M_122 = some (r, M') → JW E X 5 0 0 M_122 122 [(0, q_r E th), (1, q_i y1_2), (2, q_i y2_54), (3, q_i z0_77)] []) ?_ ?_
          · intro M_122 h
            refine jr_iconst hC (D_X12_fillsHills.g 79 rfl) ?_
            exact hj_123 0 M_122 h
          intro j_122 hj_122 h
          refine jr_if_eq hC (D_X12_fillsHills.g 61 rfl) 122 rfl h (fun h => ?_) (fun h => ?_)
          · refine jr_pick [1, 2, 3, 0] rfl ?_
            exact hj_122 M11 h
          refine jr_aload_n hC (D_X12_fillsHills.g 62 rfl) 1 rfl ?_
          refine jr_getR hC fl_X12_143 rfl (D_X12_fillsHills.g 63 rfl) h (fun r16 h => ?_)
          refine jr_aload_n hC (D_X12_fillsHills.g 64 rfl) 1 rfl ?_
          refine jr_cVi hC cl_X12_322 ⟨rfl, by decide⟩ (D_X12_fillsHills.g 65 rfl) [] h (fun r M' e => c_X12_w e) rfl rfl ⟨by decide, by decide⟩ (Nat.le_of_ble_eq_true rfl) ⟨Nat.le_of_ble_eq_true rfl, Nat.le_of_ble_eq_true rfl⟩ (fun v17 M18 h => ?_)
          refine jr_iload_n hC (D_X12_fillsHills.g 66 rfl) 2 rfl ?_
          refine jr_iconst hC (D_X12_fillsHills.g 67 rfl) ?_
          refine jr_isub hC (D_X12_fillsHills.g 68 rfl) ?_
          refine jr_imul hC (D_X12_fillsHills.g 69 rfl) ?_
          refine jr_iload_n hC (D_X12_fillsHills.g 70 rfl) 3 rfl ?_
          refine jr_iadd hC (D_X12_fillsHills.g 71 rfl) ?_
          refine jr_iconst hC (D_X12_fillsHills.g 72 rfl) ?_
          refine jr_isub hC (D_X12_fillsHills.g 73 rfl) ?_
          refine jr_iald hC (D_X12_fillsHills.g 74 rfl) h (fun v19 h => ?_)
          refine jr_iconst hC (D_X12_fillsHills.g 75 rfl) ?_
          refine jr_icmp_ne hC (D_X12_fillsHills.g 76 rfl) 122 rfl h (fun h => ?_) (fun h => ?_)
          · refine jr_iconst hC (D_X12_fillsHills.g 77 rfl) ?_
            refine jr_goto hC (D_X12_fillsHills.g 78 rfl) 123 rfl ?_
            refine jr_pick [1, 2, 3, 0] rfl ?_
            exact hj_123 1 M18 h
          refine jr_pick [1, 2, 3, 0] rfl ?_
          exact hj_122 M18 h
        intro j_77 hj_77 h
        refine jr_if_ne hC (D_X12_fillsHills.g 46 rfl) 76 rfl h (fun h => ?_) (fun h => ?_)
        · refine jr_iconst hC (D_X12_fillsHills.g 47 rfl) ?_
          refine jr_goto hC (D_X12_fillsHills.g 48 rfl) 77 rfl ?_
          exact hj_77 1 h
        refine jr_iconst hC (D_X12_fillsHills.g 49 rfl) ?_
        exact hj_77 (-1) h
      refine jr_iinc hC (D_X12_fillsHills.g 109 rfl) 1 rfl (by decide) rfl ?_
      refine jr_goto hC (D_X12_fillsHills.g 110 rfl) 2 rfl ?_
      refine jr_pick [1, 0] rfl ?_
      exact hrec_2 (y1_2 + 1) M5 h
    intro j_52 hj_52 h
    refine jr_if_le hC (D_X12_fillsHills.g 10 rfl) 52 rfl h (fun h => ?_) (fun h => ?_)
    · exact hj_52 M_2 h
    refine jr_aload_n hC (D_X12_fillsHills.g 11 rfl) 0 rfl ?_
    refine jr_getR hC fl_X12_146 rfl (D_X12_fillsHills.g 12 rfl) h (fun r20 h => ?_)
    refine jr_bipush hC (D_X12_fillsHills.g 13 rfl) bp_7 ?_
    refine jr_iload_n hC (D_X12_fillsHills.g 14 rfl) 1 rfl ?_
    refine jr_imul hC (D_X12_fillsHills.g 15 rfl) ?_
    refine jr_aload_n hC (D_X12_fillsHills.g 16 rfl) 0 rfl ?_
    refine jr_getR hC fl_X12_146 rfl (D_X12_fillsHills.g 17 rfl) h (fun r21 h => ?_)
    refine jr_bipush hC (D_X12_fillsHills.g 18 rfl) bp_7 ?_
    refine jr_iload_n hC (D_X12_fillsHills.g 19 rfl) 1 rfl ?_
    refine jr_imul hC (D_X12_fillsHills.g 20 rfl) ?_
    refine jr_bipush hC (D_X12_fillsHills.g 21 rfl) bp_7 ?_
    refine jr_isub hC (D_X12_fillsHills.g 22 rfl) ?_
    refine jr_iald hC (D_X12_fillsHills.g 23 rfl) h (fun v22 h => ?_)
    refine jr_iload_n hC (D_X12_fillsHills.g 24 rfl) 1 rfl ?_
    refine jr_iconst hC (D_X12_fillsHills.g 25 rfl) ?_
    refine jr_irem hC (D_X12_fillsHills.g 26 rfl) h (fun v23 _ h => ?_)
    refine jr_join h (fun j => ∀ (z0_50 : Int), j z0_50 = some (r, M') → JW E X 5 0 0 M_2 50 [(0, q_r E th), (1, q_i y1_2)] [q_i z0_50, q_i v22, q_i (7 * y1_2), q_r E r20]) ?_ ?_
    · intro z0_50 h
      refine jr_iadd hC (D_X12_fillsHills.g 31 rfl) ?_
      refine jr_iast hC (D_X12_fillsHills.g 32 rfl) h (fun M24 _ h => ?_)
      exact hj_52 M24 h
    intro j_50 hj_50 h
    refine jr_if_ne hC (D_X12_fillsHills.g 27 rfl) 49 rfl h (fun h => ?_) (fun h => ?_)
    · refine jr_iconst hC (D_X12_fillsHills.g 28 rfl) ?_
      refine jr_goto hC (D_X12_fillsHills.g 29 rfl) 50 rfl ?_
      exact hj_50 1 h
    refine jr_iconst hC (D_X12_fillsHills.g 30 rfl) ?_
    exact hj_50 (-1) h
  exact jr_vret hC (D_X12_fillsHills.g 111 rfl) hr hE h
def f_X12_isHilly (th : Nat) (M : jMem) : Option (Int × jMem) :=
jcall 12 M th (f_X12_copies th M) fun _ M2 =>
(jm_gR 12 22 M2 th).bind fun r3 =>
(jm_gI 12 18 M2 th).bind fun v4 =>
(jm_ld 20 M2 r3 v4).bind fun v5 =>
jjq (fun (M_27 : jMem) =>
jm_z 0 M_27) fun j_27 =>
if jd_wr v5 = 0 then (jcall 12 M2 th (f_X12_freeMany th M2) fun v6 M7 =>
if jd_wr v6 = 0 then (jm_z 1 M7)
else (j_27 M7))
else (j_27 M2)
theorem D_X12_isHilly : jDs cX12_isHilly [(0, .aload_n 0, 1, 1), (1, .invokevirtual 385, 3, 4), (4, .aload_n 0, 1, 5), (5, .getfield 46, 3, 8), (8, .aload_n 0, 1, 9), (9, .getfield 245, 3, 12), (12, .iaload, 1, 13), (13, .ifCond .ne 14, 3, 16), (16, .aload_n 0, 1, 17), (17, .invokevirtual 454, 3, 20), (20, .ifCond .ne 7, 3, 23), (23, .iconst 1, 1, 24), (24, .goto 4, 3, 27), (27, .iconst 0, 1, 28), (28, .ireturn, 1, 29)] := by unfold jDs; decide +kernel
set_option maxRecDepth 100000 in
set_option maxHeartbeats 4000000 in
theorem c_X12_isHilly {E : jE} {th : Nat} {M : jMem} {r : Int} {M' : jMem} (h : f_X12_isHilly th M = some (r, M')) : jMet E yX12_isHilly cX12_isHilly 1 (some .boolean) 5 0 0 [q_r E th] M (some (q_i r)) M' := by
  unfold f_X12_isHilly at h
  refine jMet.of RX12 rfl (by decide +kernel) (Nat.le_of_ble_eq_true rfl) [(0, q_r E th)] rfl (fun X hC hE hr hn => ?_)
  refine jr_aload_n hC (D_X12_isHilly.g 0 rfl) 0 rfl ?_
  refine jr_cVv hC cl_X12_385 ⟨rfl, by decide⟩ (D_X12_isHilly.g 1 rfl) [] h (fun r M' e => c_X12_copies e) rfl rfl ⟨by decide, by decide⟩ (Nat.le_of_ble_eq_true rfl) ⟨Nat.le_of_ble_eq_true rfl, Nat.le_of_ble_eq_true rfl⟩ (fun _ M2 h => ?_)
  refine jr_aload_n hC (D_X12_isHilly.g 2 rfl) 0 rfl ?_
  refine jr_getR hC fl_X12_46 rfl (D_X12_isHilly.g 3 rfl) h (fun r3 h => ?_)
  refine jr_aload_n hC (D_X12_isHilly.g 4 rfl) 0 rfl ?_
  refine jr_getI hC fl_X12_245 rfl (D_X12_isHilly.g 5 rfl) h (fun v4 h => ?_)
  refine jr_iald hC (D_X12_isHilly.g 6 rfl) h (fun v5 h => ?_)
  refine jr_join h (fun j => ∀ (M_27 : jMem), j M_27 = some (r, M') → JW E X 1 0 0 M_27 27 [] []) ?_ ?_
  · intro M_27 h
    refine jr_iconst hC (D_X12_isHilly.g 13 rfl) ?_
    exact jr_zret hC (D_X12_isHilly.g 14 rfl) hr hE h
  intro j_27 hj_27 h
  refine jr_if_ne hC (D_X12_isHilly.g 7 rfl) 27 rfl h (fun h => ?_) (fun h => ?_)
  · refine jr_aload_n hC (D_X12_isHilly.g 8 rfl) 0 rfl ?_
    refine jr_cVi hC cl_X12_454 ⟨rfl, by decide⟩ (D_X12_isHilly.g 9 rfl) [] h (fun r M' e => c_X12_freeMany e) rfl rfl ⟨by decide, by decide⟩ (Nat.le_of_ble_eq_true rfl) ⟨Nat.le_of_ble_eq_true rfl, Nat.le_of_ble_eq_true rfl⟩ (fun v6 M7 h => ?_)
    refine jr_if_ne hC (D_X12_isHilly.g 10 rfl) 27 rfl h (fun h => ?_) (fun h => ?_)
    · refine jr_iconst hC (D_X12_isHilly.g 11 rfl) ?_
      refine jr_goto hC (D_X12_isHilly.g 12 rfl) 28 rfl ?_
      exact jr_zret hC (D_X12_isHilly.g 14 rfl) hr hE h
    refine jr_pick [] rfl ?_
    exact hj_27 M7 h
  refine jr_pick [] rfl ?_
  exact hj_27 M2 h
def f_X12_fillsHillsNow (th : Nat) (M : jMem) : Option (Int × jMem) :=
jcall 12 M th (f_X12_fillsNow th M) fun _ M2 =>
jcall 12 M2 th (f_X12_fillsHills th M2) fun _ M4 =>
some (0, M4)
theorem D_X12_fillsHillsNow : jDs cX12_fillsHillsNow [(0, .aload_n 0, 1, 1), (1, .invokevirtual 460, 3, 4), (4, .aload_n 0, 1, 5), (5, .invokevirtual 463, 3, 8), (8, .return_, 1, 9)] := by unfold jDs; decide +kernel
set_option maxRecDepth 100000 in
set_option maxHeartbeats 4000000 in
theorem c_X12_fillsHillsNow {E : jE} {th : Nat} {M : jMem} {r : Int} {M' : jMem} (h : f_X12_fillsHillsNow th M = some (r, M')) : jMet E yX12_fillsHillsNow cX12_fillsHillsNow 1 (none) 4 0 0 [q_r E th] M (none) M' := by
  unfold f_X12_fillsHillsNow at h
  refine jMet.of RX12 rfl (by decide +kernel) (Nat.le_of_ble_eq_true rfl) [(0, q_r E th)] rfl (fun X hC hE hr hn => ?_)
  refine jr_aload_n hC (D_X12_fillsHillsNow.g 0 rfl) 0 rfl ?_
  refine jr_cVv hC cl_X12_460 ⟨rfl, by decide⟩ (D_X12_fillsHillsNow.g 1 rfl) [] h (fun r M' e => c_X12_fillsNow e) rfl rfl ⟨by decide, by decide⟩ (Nat.le_of_ble_eq_true rfl) ⟨Nat.le_of_ble_eq_true rfl, Nat.le_of_ble_eq_true rfl⟩ (fun _ M2 h => ?_)
  refine jr_aload_n hC (D_X12_fillsHillsNow.g 2 rfl) 0 rfl ?_
  refine jr_cVv hC cl_X12_463 ⟨rfl, by decide⟩ (D_X12_fillsHillsNow.g 3 rfl) [] h (fun r M' e => c_X12_fillsHills e) rfl rfl ⟨by decide, by decide⟩ (Nat.le_of_ble_eq_true rfl) ⟨Nat.le_of_ble_eq_true rfl, Nat.le_of_ble_eq_true rfl⟩ (fun _ M4 h => ?_)
  exact jr_vret hC (D_X12_fillsHillsNow.g 4 rfl) hr hE h
def f_X12_hill (th : Nat) (x1 : Int) (x2 : Int) (M : jMem) : Option (Int × jMem) :=
jcall 12 M th (f_X12_w th M) fun v1 M2 =>
jbd (f_X12_in x1 0 v1 M2) fun v3 M4 =>
if jd_wr v3 = 0 then (some ((-100), M4))
else ((jm_gR 12 21 M4 th).bind fun r5 =>
(jm_gI 12 18 M4 th).bind fun v6 =>
(jm_ld 20 M4 r5 v6).bind fun v7 =>
jbd (f_X12_in x2 0 v7 M4) fun v8 M9 =>
if jd_wr v8 = 0 then (some ((-100), M9))
else (jcall 12 M9 th (f_X12_isHilly th M9) fun v10 M11 =>
if jd_wr v10 = 0 then (some ((-100), M11))
else (jcall 12 M11 th (f_X12_fillsHillsNow th M11) fun _ M13 =>
(jm_gR 12 61 M13 th).bind fun r14 =>
(jm_ld 20 M13 r14 ((7 * x2) + x1)).bind fun v15 =>
some (v15, M13))))
theorem D_X12_hill : jDs cX12_hill [(0, .iload_n 1, 1, 1), (1, .iconst 0, 1, 2), (2, .aload_n 0, 1, 3), (3, .invokevirtual 322, 3, 6), (6, .invokestatic 318, 3, 9), (9, .ifCond .eq 27, 3, 12), (12, .iload_n 2, 1, 13), (13, .iconst 0, 1, 14), (14, .aload_n 0, 1, 15), (15, .getfield 43, 3, 18), (18, .aload_n 0, 1, 19), (19, .getfield 245, 3, 22), (22, .iaload, 1, 23), (23, .invokestatic 318, 3, 26), (26, .ifCond .eq 10, 3, 29), (29, .aload_n 0, 1, 30), (30, .invokevirtual 466, 3, 33), (33, .ifCond .ne 6, 3, 36), (36, .bipush (-100), 2, 38), (38, .ireturn, 1, 39), (39, .aload_n 0, 1, 40), (40, .invokevirtual 469, 3, 43), (43, .aload_n 0, 1, 44), (44, .getfield 146, 3, 47), (47, .bipush 7, 2, 49), (49, .iload_n 2, 1, 50), (50, .imul, 1, 51), (51, .iload_n 1, 1, 52), (52, .iadd, 1, 53), (53, .iaload, 1, 54), (54, .ireturn, 1, 55)] := by unfold jDs; decide +kernel
set_option maxRecDepth 100000 in
set_option maxHeartbeats 4000000 in
theorem c_X12_hill {E : jE} {th : Nat} {x1 : Int} {x2 : Int} {M : jMem} {r : Int} {M' : jMem} (h : f_X12_hill th x1 x2 M = some (r, M')) : jMet E yX12_hill cX12_hill 3 (some .int) 6 0 0 [q_r E th, q_i x1, q_i x2] M (some (q_i r)) M' := by
  unfold f_X12_hill at h
  refine jMet.of RX12 rfl (by decide +kernel) (Nat.le_of_ble_eq_true rfl) [(0, q_r E th), (1, q_i x1), (2, q_i x2)] rfl (fun X hC hE hr hn => ?_)
  refine jr_iload_n hC (D_X12_hill.g 0 rfl) 1 rfl ?_
  refine jr_iconst hC (D_X12_hill.g 1 rfl) ?_
  refine jr_aload_n hC (D_X12_hill.g 2 rfl) 0 rfl ?_
  refine jr_cVi hC cl_X12_322 ⟨rfl, by decide⟩ (D_X12_hill.g 3 rfl) [] h (fun r M' e => c_X12_w e) rfl rfl ⟨by decide, by decide⟩ (Nat.le_of_ble_eq_true rfl) ⟨Nat.le_of_ble_eq_true rfl, Nat.le_of_ble_eq_true rfl⟩ (fun v1 M2 h => ?_)
  refine jr_cSi hC cl_X12_318 (D_X12_hill.g 4 rfl) [q_i x1, q_i 0, q_i v1] h (fun r M' e => c_X12_in e) rfl rfl ⟨by decide, by decide⟩ (Nat.le_of_ble_eq_true rfl) ⟨Nat.le_of_ble_eq_true rfl, Nat.le_of_ble_eq_true rfl⟩ (fun v3 M4 h => ?_)
  refine jr_if_eq hC (D_X12_hill.g 5 rfl) 36 rfl h (fun h => ?_) (fun h => ?_)
  · refine jr_bipush hC (D_X12_hill.g 18 rfl) bp_m100 ?_
    exact jr_iret hC (D_X12_hill.g 19 rfl) hr hE h
  refine jr_iload_n hC (D_X12_hill.g 6 rfl) 2 rfl ?_
  refine jr_iconst hC (D_X12_hill.g 7 rfl) ?_
  refine jr_aload_n hC (D_X12_hill.g 8 rfl) 0 rfl ?_
  refine jr_getR hC fl_X12_43 rfl (D_X12_hill.g 9 rfl) h (fun r5 h => ?_)
  refine jr_aload_n hC (D_X12_hill.g 10 rfl) 0 rfl ?_
  refine jr_getI hC fl_X12_245 rfl (D_X12_hill.g 11 rfl) h (fun v6 h => ?_)
  refine jr_iald hC (D_X12_hill.g 12 rfl) h (fun v7 h => ?_)
  refine jr_cSi hC cl_X12_318 (D_X12_hill.g 13 rfl) [q_i x2, q_i 0, q_i v7] h (fun r M' e => c_X12_in e) rfl rfl ⟨by decide, by decide⟩ (Nat.le_of_ble_eq_true rfl) ⟨Nat.le_of_ble_eq_true rfl, Nat.le_of_ble_eq_true rfl⟩ (fun v8 M9 h => ?_)
  refine jr_if_eq hC (D_X12_hill.g 14 rfl) 36 rfl h (fun h => ?_) (fun h => ?_)
  · refine jr_bipush hC (D_X12_hill.g 18 rfl) bp_m100 ?_
    exact jr_iret hC (D_X12_hill.g 19 rfl) hr hE h
  refine jr_aload_n hC (D_X12_hill.g 15 rfl) 0 rfl ?_
  refine jr_cVi hC cl_X12_466 ⟨rfl, by decide⟩ (D_X12_hill.g 16 rfl) [] h (fun r M' e => c_X12_isHilly e) rfl rfl ⟨by decide, by decide⟩ (Nat.le_of_ble_eq_true rfl) ⟨Nat.le_of_ble_eq_true rfl, Nat.le_of_ble_eq_true rfl⟩ (fun v10 M11 h => ?_)
  refine jr_if_ne hC (D_X12_hill.g 17 rfl) 39 rfl h (fun h => ?_) (fun h => ?_)
  · refine jr_bipush hC (D_X12_hill.g 18 rfl) bp_m100 ?_
    exact jr_iret hC (D_X12_hill.g 19 rfl) hr hE h
  refine jr_aload_n hC (D_X12_hill.g 20 rfl) 0 rfl ?_
  refine jr_cVv hC cl_X12_469 ⟨rfl, by decide⟩ (D_X12_hill.g 21 rfl) [] h (fun r M' e => c_X12_fillsHillsNow e) rfl rfl ⟨by decide, by decide⟩ (Nat.le_of_ble_eq_true rfl) ⟨Nat.le_of_ble_eq_true rfl, Nat.le_of_ble_eq_true rfl⟩ (fun _ M13 h => ?_)
  refine jr_aload_n hC (D_X12_hill.g 22 rfl) 0 rfl ?_
  refine jr_getR hC fl_X12_146 rfl (D_X12_hill.g 23 rfl) h (fun r14 h => ?_)
  refine jr_bipush hC (D_X12_hill.g 24 rfl) bp_7 ?_
  refine jr_iload_n hC (D_X12_hill.g 25 rfl) 2 rfl ?_
  refine jr_imul hC (D_X12_hill.g 26 rfl) ?_
  refine jr_iload_n hC (D_X12_hill.g 27 rfl) 1 rfl ?_
  refine jr_iadd hC (D_X12_hill.g 28 rfl) ?_
  refine jr_iald hC (D_X12_hill.g 29 rfl) h (fun v15 h => ?_)
  exact jr_iret hC (D_X12_hill.g 30 rfl) hr hE h
