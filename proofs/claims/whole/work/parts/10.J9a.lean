/-! ===== 10.J9a: by program ===== -/
def f_J9_abs_0f7a4 (x0 : Int) (M : jMem) : Option (Int × jMem) :=
if jd_wr x0 < 0 then (some ((0 - x0), M))
else (some (x0, M))
theorem D_J9_abs_0f7a4 : jDs cJ9_abs_0f7a4 [(0, .iload_n 0, 1, 1), (1, .ifCond .ge 8, 3, 4), (4, .iload_n 0, 1, 5), (5, .ineg, 1, 6), (6, .goto 4, 3, 9), (9, .iload_n 0, 1, 10), (10, .ireturn, 1, 11)] := by unfold jDs; decide +kernel
set_option maxRecDepth 100000 in
set_option maxHeartbeats 4000000 in
theorem c_J9_abs_0f7a4 {E : jE} {x0 : Int} {M : jMem} {r : Int} {M' : jMem} (h : f_J9_abs_0f7a4 x0 M = some (r, M')) : jMet E yJ9_abs_0f7a4 cJ9_abs_0f7a4 1 (some .int) 2 0 0 [q_i x0] M (some (q_i r)) M' := by
  unfold f_J9_abs_0f7a4 at h
  refine jMet.ofF RJ9 rfl (by decide +kernel) (Nat.le_of_ble_eq_true rfl) [(0, q_i x0)] rfl (fun X hC hE hr hn => ?_)
  refine jr_iload_n hC (D_J9_abs_0f7a4.g 0 rfl) 0 rfl ?_
  refine jr_if_ge hC (D_J9_abs_0f7a4.g 1 rfl) 9 rfl h (fun h => ?_) (fun h => ?_)
  · refine jr_iload_n hC (D_J9_abs_0f7a4.g 2 rfl) 0 rfl ?_
    refine jr_ineg hC (D_J9_abs_0f7a4.g 3 rfl) ?_
    refine jr_goto hC (D_J9_abs_0f7a4.g 4 rfl) 10 rfl ?_
    exact jr_iret hC (D_J9_abs_0f7a4.g 6 rfl) hr hE h
  refine jr_iload_n hC (D_J9_abs_0f7a4.g 5 rfl) 0 rfl ?_
  exact jr_iret hC (D_J9_abs_0f7a4.g 6 rfl) hr hE h
def f_J9_max_7cf53 (x0 : Int) (x1 : Int) (M : jMem) : Option (Int × jMem) :=
if jd_wr x0 < jd_wr x1 then (some (x1, M))
else (some (x0, M))
theorem D_J9_max_7cf53 : jDs cJ9_max_7cf53 [(0, .iload_n 0, 1, 1), (1, .iload_n 1, 1, 2), (2, .if_icmp .lt 7, 3, 5), (5, .iload_n 0, 1, 6), (6, .goto 4, 3, 9), (9, .iload_n 1, 1, 10), (10, .ireturn, 1, 11)] := by unfold jDs; decide +kernel
set_option maxRecDepth 100000 in
set_option maxHeartbeats 4000000 in
theorem c_J9_max_7cf53 {E : jE} {x0 : Int} {x1 : Int} {M : jMem} {r : Int} {M' : jMem} (h : f_J9_max_7cf53 x0 x1 M = some (r, M')) : jMet E yJ9_max_7cf53 cJ9_max_7cf53 2 (some .int) 2 0 0 [q_i x0, q_i x1] M (some (q_i r)) M' := by
  unfold f_J9_max_7cf53 at h
  refine jMet.ofF RJ9 rfl (by decide +kernel) (Nat.le_of_ble_eq_true rfl) [(0, q_i x0), (1, q_i x1)] rfl (fun X hC hE hr hn => ?_)
  refine jr_iload_n hC (D_J9_max_7cf53.g 0 rfl) 0 rfl ?_
  refine jr_iload_n hC (D_J9_max_7cf53.g 1 rfl) 1 rfl ?_
  refine jr_icmp_lt hC (D_J9_max_7cf53.g 2 rfl) 9 rfl h (fun h => ?_) (fun h => ?_)
  · refine jr_iload_n hC (D_J9_max_7cf53.g 5 rfl) 1 rfl ?_
    exact jr_iret hC (D_J9_max_7cf53.g 6 rfl) hr hE h
  refine jr_iload_n hC (D_J9_max_7cf53.g 3 rfl) 0 rfl ?_
  refine jr_goto hC (D_J9_max_7cf53.g 4 rfl) 10 rfl ?_
  exact jr_iret hC (D_J9_max_7cf53.g 6 rfl) hr hE h
def f_J9_min_7cf53 (x0 : Int) (x1 : Int) (M : jMem) : Option (Int × jMem) :=
if jd_wr x0 ≤ jd_wr x1 then (some (x0, M))
else (some (x1, M))
theorem D_J9_min_7cf53 : jDs cJ9_min_7cf53 [(0, .iload_n 0, 1, 1), (1, .iload_n 1, 1, 2), (2, .if_icmp .gt 7, 3, 5), (5, .iload_n 0, 1, 6), (6, .goto 4, 3, 9), (9, .iload_n 1, 1, 10), (10, .ireturn, 1, 11)] := by unfold jDs; decide +kernel
set_option maxRecDepth 100000 in
set_option maxHeartbeats 4000000 in
theorem c_J9_min_7cf53 {E : jE} {x0 : Int} {x1 : Int} {M : jMem} {r : Int} {M' : jMem} (h : f_J9_min_7cf53 x0 x1 M = some (r, M')) : jMet E yJ9_min_7cf53 cJ9_min_7cf53 2 (some .int) 2 0 0 [q_i x0, q_i x1] M (some (q_i r)) M' := by
  unfold f_J9_min_7cf53 at h
  refine jMet.ofF RJ9 rfl (by decide +kernel) (Nat.le_of_ble_eq_true rfl) [(0, q_i x0), (1, q_i x1)] rfl (fun X hC hE hr hn => ?_)
  refine jr_iload_n hC (D_J9_min_7cf53.g 0 rfl) 0 rfl ?_
  refine jr_iload_n hC (D_J9_min_7cf53.g 1 rfl) 1 rfl ?_
  refine jr_icmp_gt hC (D_J9_min_7cf53.g 2 rfl) 9 rfl h (fun h => ?_) (fun h => ?_)
  · refine jr_iload_n hC (D_J9_min_7cf53.g 3 rfl) 0 rfl ?_
    refine jr_goto hC (D_J9_min_7cf53.g 4 rfl) 10 rfl ?_
    exact jr_iret hC (D_J9_min_7cf53.g 6 rfl) hr hE h
  refine jr_iload_n hC (D_J9_min_7cf53.g 5 rfl) 1 rfl ?_
  exact jr_iret hC (D_J9_min_7cf53.g 6 rfl) hr hE h
