/-! ===== 16z.X4z: by program ===== -/
def f_X4_columnOf (x0 : Int) (x1 : Int) (M : jMem) : Option (Int × jMem) :=
if jd_wr x1 = 0 then (some (0, M))
else ((jm_rm x0 x1).bind fun v1 =>
some (v1, M))
theorem D_X4_columnOf : jDs cX4_columnOf [(0, .iload_n 1, 1, 1), (1, .ifCond .ne 7, 3, 4), (4, .iconst 0, 1, 5), (5, .goto 6, 3, 8), (8, .iload_n 0, 1, 9), (9, .iload_n 1, 1, 10), (10, .irem, 1, 11), (11, .ireturn, 1, 12)] := by unfold jDs; decide +kernel
set_option maxRecDepth 100000 in
set_option maxHeartbeats 4000000 in
theorem c_X4_columnOf {E : jE} {x0 : Int} {x1 : Int} {M : jMem} {r : Int} {M' : jMem} (h : f_X4_columnOf x0 x1 M = some (r, M')) : jMet E yX4_columnOf cX4_columnOf 2 (some .int) 2 0 0 [q_i x0, q_i x1] M (some (q_i r)) M' := by
  unfold f_X4_columnOf at h
  refine jMet.of RX4 rfl (by decide +kernel) (Nat.le_of_ble_eq_true rfl) [(0, q_i x0), (1, q_i x1)] rfl (fun X hC hE hr hn => ?_)
  refine jr_iload_n hC (D_X4_columnOf.g 0 rfl) 1 rfl ?_
  refine jr_if_ne hC (D_X4_columnOf.g 1 rfl) 8 rfl h (fun h => ?_) (fun h => ?_)
  · refine jr_iconst hC (D_X4_columnOf.g 2 rfl) ?_
    refine jr_goto hC (D_X4_columnOf.g 3 rfl) 11 rfl ?_
    exact jr_iret hC (D_X4_columnOf.g 7 rfl) hr hE h
  refine jr_iload_n hC (D_X4_columnOf.g 4 rfl) 0 rfl ?_
  refine jr_iload_n hC (D_X4_columnOf.g 5 rfl) 1 rfl ?_
  refine jr_irem hC (D_X4_columnOf.g 6 rfl) h (fun v1 _ h => ?_)
  exact jr_iret hC (D_X4_columnOf.g 7 rfl) hr hE h
def f_X4_rowOf (x0 : Int) (x1 : Int) (M : jMem) : Option (Int × jMem) :=
if jd_wr x1 = 0 then (some (0, M))
else ((jm_dv x0 x1).bind fun v1 =>
some (v1, M))
theorem D_X4_rowOf : jDs cX4_rowOf [(0, .iload_n 1, 1, 1), (1, .ifCond .ne 7, 3, 4), (4, .iconst 0, 1, 5), (5, .goto 6, 3, 8), (8, .iload_n 0, 1, 9), (9, .iload_n 1, 1, 10), (10, .idiv, 1, 11), (11, .ireturn, 1, 12)] := by unfold jDs; decide +kernel
set_option maxRecDepth 100000 in
set_option maxHeartbeats 4000000 in
theorem c_X4_rowOf {E : jE} {x0 : Int} {x1 : Int} {M : jMem} {r : Int} {M' : jMem} (h : f_X4_rowOf x0 x1 M = some (r, M')) : jMet E yX4_rowOf cX4_rowOf 2 (some .int) 2 0 0 [q_i x0, q_i x1] M (some (q_i r)) M' := by
  unfold f_X4_rowOf at h
  refine jMet.of RX4 rfl (by decide +kernel) (Nat.le_of_ble_eq_true rfl) [(0, q_i x0), (1, q_i x1)] rfl (fun X hC hE hr hn => ?_)
  refine jr_iload_n hC (D_X4_rowOf.g 0 rfl) 1 rfl ?_
  refine jr_if_ne hC (D_X4_rowOf.g 1 rfl) 8 rfl h (fun h => ?_) (fun h => ?_)
  · refine jr_iconst hC (D_X4_rowOf.g 2 rfl) ?_
    refine jr_goto hC (D_X4_rowOf.g 3 rfl) 11 rfl ?_
    exact jr_iret hC (D_X4_rowOf.g 7 rfl) hr hE h
  refine jr_iload_n hC (D_X4_rowOf.g 4 rfl) 0 rfl ?_
  refine jr_iload_n hC (D_X4_rowOf.g 5 rfl) 1 rfl ?_
  refine jr_idiv hC (D_X4_rowOf.g 6 rfl) h (fun v1 _ h => ?_)
  exact jr_iret hC (D_X4_rowOf.g 7 rfl) hr hE h
