/-! ===== 11.J6a: by program ===== -/
def f_J6_bitCount_0f7a4 (x0 : Int) (M : jMem) : Option (Int × jMem) :=
some ((jd_and (((jd_and (((jd_and (x0 - (jd_and (jd_ushr x0 1) 1431655765)) 858993459) + (jd_and (jd_ushr (x0 - (jd_and (jd_ushr x0 1) 1431655765)) 2) 858993459)) + (jd_ushr ((jd_and (x0 - (jd_and (jd_ushr x0 1) 1431655765)) 858993459) + (jd_and (jd_ushr (x0 - (jd_and (jd_ushr x0 1) 1431655765)) 2) 858993459)) 4)) 252645135) + (jd_ushr (jd_and (((jd_and (x0 - (jd_and (jd_ushr x0 1) 1431655765)) 858993459) + (jd_and (jd_ushr (x0 - (jd_and (jd_ushr x0 1) 1431655765)) 2) 858993459)) + (jd_ushr ((jd_and (x0 - (jd_and (jd_ushr x0 1) 1431655765)) 858993459) + (jd_and (jd_ushr (x0 - (jd_and (jd_ushr x0 1) 1431655765)) 2) 858993459)) 4)) 252645135) 8)) + (jd_ushr ((jd_and (((jd_and (x0 - (jd_and (jd_ushr x0 1) 1431655765)) 858993459) + (jd_and (jd_ushr (x0 - (jd_and (jd_ushr x0 1) 1431655765)) 2) 858993459)) + (jd_ushr ((jd_and (x0 - (jd_and (jd_ushr x0 1) 1431655765)) 858993459) + (jd_and (jd_ushr (x0 - (jd_and (jd_ushr x0 1) 1431655765)) 2) 858993459)) 4)) 252645135) + (jd_ushr (jd_and (((jd_and (x0 - (jd_and (jd_ushr x0 1) 1431655765)) 858993459) + (jd_and (jd_ushr (x0 - (jd_and (jd_ushr x0 1) 1431655765)) 2) 858993459)) + (jd_ushr ((jd_and (x0 - (jd_and (jd_ushr x0 1) 1431655765)) 858993459) + (jd_and (jd_ushr (x0 - (jd_and (jd_ushr x0 1) 1431655765)) 2) 858993459)) 4)) 252645135) 8)) 16)) 63), M)
theorem D_J6_bitCount_0f7a4 : jDs cJ6_bitCount_0f7a4 [(0, .iload_n 0, 1, 1), (1, .iload_n 0, 1, 2), (2, .iconst 1, 1, 3), (3, .iushr, 1, 4), (4, .ldc_w 265, 3, 7), (7, .iand, 1, 8), (8, .isub, 1, 9), (9, .istore_n 0, 1, 10), (10, .iload_n 0, 1, 11), (11, .ldc_w 266, 3, 14), (14, .iand, 1, 15), (15, .iload_n 0, 1, 16), (16, .iconst 2, 1, 17), (17, .iushr, 1, 18), (18, .ldc_w 266, 3, 21), (21, .iand, 1, 22), (22, .iadd, 1, 23), (23, .istore_n 0, 1, 24), (24, .iload_n 0, 1, 25), (25, .iload_n 0, 1, 26), (26, .iconst 4, 1, 27), (27, .iushr, 1, 28), (28, .iadd, 1, 29), (29, .ldc_w 267, 3, 32), (32, .iand, 1, 33), (33, .istore_n 0, 1, 34), (34, .iload_n 0, 1, 35), (35, .iload_n 0, 1, 36), (36, .bipush 8, 2, 38), (38, .iushr, 1, 39), (39, .iadd, 1, 40), (40, .istore_n 0, 1, 41), (41, .iload_n 0, 1, 42), (42, .iload_n 0, 1, 43), (43, .bipush 16, 2, 45), (45, .iushr, 1, 46), (46, .iadd, 1, 47), (47, .istore_n 0, 1, 48), (48, .iload_n 0, 1, 49), (49, .bipush 63, 2, 51), (51, .iand, 1, 52), (52, .ireturn, 1, 53)] := by unfold jDs; decide +kernel
set_option maxRecDepth 100000 in
set_option maxHeartbeats 4000000 in
theorem c_J6_bitCount_0f7a4 {E : jE} {x0 : Int} {M : jMem} {r : Int} {M' : jMem} (h : f_J6_bitCount_0f7a4 x0 M = some (r, M')) : jMet E yJ6_bitCount_0f7a4 cJ6_bitCount_0f7a4 1 (some .int) 2 0 0 [q_i x0] M (some (q_i r)) M' := by
  unfold f_J6_bitCount_0f7a4 at h
  refine jMet.ofF RJ6 rfl (by decide +kernel) (Nat.le_of_ble_eq_true rfl) [(0, q_i x0)] rfl (fun X hC hE hr hn => ?_)
  refine jr_iload_n hC (D_J6_bitCount_0f7a4.g 0 rfl) 0 rfl ?_
  refine jr_iload_n hC (D_J6_bitCount_0f7a4.g 1 rfl) 0 rfl ?_
  refine jr_iconst hC (D_J6_bitCount_0f7a4.g 2 rfl) ?_
  refine jr_iushr hC (D_J6_bitCount_0f7a4.g 3 rfl) ?_
  refine jr_ldcw hC (1431655765) (jt_in (i := 1262) (by decide +kernel) rfl) (D_J6_bitCount_0f7a4.g 4 rfl) ?_
  refine jr_iand hC (D_J6_bitCount_0f7a4.g 5 rfl) ?_
  refine jr_isub hC (D_J6_bitCount_0f7a4.g 6 rfl) ?_
  refine jr_istore_n hC (D_J6_bitCount_0f7a4.g 7 rfl) (by decide) rfl ?_
  refine jr_iload_n hC (D_J6_bitCount_0f7a4.g 8 rfl) 0 rfl ?_
  refine jr_ldcw hC (858993459) (jt_in (i := 1263) (by decide +kernel) rfl) (D_J6_bitCount_0f7a4.g 9 rfl) ?_
  refine jr_iand hC (D_J6_bitCount_0f7a4.g 10 rfl) ?_
  refine jr_iload_n hC (D_J6_bitCount_0f7a4.g 11 rfl) 0 rfl ?_
  refine jr_iconst hC (D_J6_bitCount_0f7a4.g 12 rfl) ?_
  refine jr_iushr hC (D_J6_bitCount_0f7a4.g 13 rfl) ?_
  refine jr_ldcw hC (858993459) (jt_in (i := 1263) (by decide +kernel) rfl) (D_J6_bitCount_0f7a4.g 14 rfl) ?_
  refine jr_iand hC (D_J6_bitCount_0f7a4.g 15 rfl) ?_
  refine jr_iadd hC (D_J6_bitCount_0f7a4.g 16 rfl) ?_
  refine jr_istore_n hC (D_J6_bitCount_0f7a4.g 17 rfl) (by decide) rfl ?_
  refine jr_iload_n hC (D_J6_bitCount_0f7a4.g 18 rfl) 0 rfl ?_
  refine jr_iload_n hC (D_J6_bitCount_0f7a4.g 19 rfl) 0 rfl ?_
  refine jr_iconst hC (D_J6_bitCount_0f7a4.g 20 rfl) ?_
  refine jr_iushr hC (D_J6_bitCount_0f7a4.g 21 rfl) ?_
  refine jr_iadd hC (D_J6_bitCount_0f7a4.g 22 rfl) ?_
  refine jr_ldcw hC (252645135) (jt_in (i := 1264) (by decide +kernel) rfl) (D_J6_bitCount_0f7a4.g 23 rfl) ?_
  refine jr_iand hC (D_J6_bitCount_0f7a4.g 24 rfl) ?_
  refine jr_istore_n hC (D_J6_bitCount_0f7a4.g 25 rfl) (by decide) rfl ?_
  refine jr_iload_n hC (D_J6_bitCount_0f7a4.g 26 rfl) 0 rfl ?_
  refine jr_iload_n hC (D_J6_bitCount_0f7a4.g 27 rfl) 0 rfl ?_
  refine jr_bipush hC (D_J6_bitCount_0f7a4.g 28 rfl) bp_8 ?_
  refine jr_iushr hC (D_J6_bitCount_0f7a4.g 29 rfl) ?_
  refine jr_iadd hC (D_J6_bitCount_0f7a4.g 30 rfl) ?_
  refine jr_istore_n hC (D_J6_bitCount_0f7a4.g 31 rfl) (by decide) rfl ?_
  refine jr_iload_n hC (D_J6_bitCount_0f7a4.g 32 rfl) 0 rfl ?_
  refine jr_iload_n hC (D_J6_bitCount_0f7a4.g 33 rfl) 0 rfl ?_
  refine jr_bipush hC (D_J6_bitCount_0f7a4.g 34 rfl) bp_16 ?_
  refine jr_iushr hC (D_J6_bitCount_0f7a4.g 35 rfl) ?_
  refine jr_iadd hC (D_J6_bitCount_0f7a4.g 36 rfl) ?_
  refine jr_istore_n hC (D_J6_bitCount_0f7a4.g 37 rfl) (by decide) rfl ?_
  refine jr_iload_n hC (D_J6_bitCount_0f7a4.g 38 rfl) 0 rfl ?_
  refine jr_bipush hC (D_J6_bitCount_0f7a4.g 39 rfl) bp_63 ?_
  refine jr_iand hC (D_J6_bitCount_0f7a4.g 40 rfl) ?_
  exact jr_iret hC (D_J6_bitCount_0f7a4.g 41 rfl) hr hE h
