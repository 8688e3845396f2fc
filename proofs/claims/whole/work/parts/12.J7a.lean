/-! ===== 12.J7a: by program ===== -/
def f_J7_fill_53178 (a0 : Nat) (x1 : Int) (M : jMem) : Option (Int × jMem) :=
(jm_ln 20 M a0).bind fun v1 =>
jlp2 (fun rec_5 (y2_5 : Int) (M_5 : jMem) =>
if jd_wr y2_5 < jd_wr v1 then ((jm_st 20 M_5 a0 y2_5 x1).bind fun M2 =>
rec_5 (y2_5 + 1) M2)
else (some (0, M_5))) jfuel 0 M
theorem D_J7_fill_53178 : jDs cJ7_fill_53178 [(0, .iconst 0, 1, 1), (1, .istore_n 2, 1, 2), (2, .aload_n 0, 1, 3), (3, .arraylength, 1, 4), (4, .istore_n 3, 1, 5), (5, .iload_n 2, 1, 6), (6, .iload_n 3, 1, 7), (7, .if_icmp .ge 13, 3, 10), (10, .aload_n 0, 1, 11), (11, .iload_n 2, 1, 12), (12, .iload_n 1, 1, 13), (13, .iastore, 1, 14), (14, .iinc 2 1, 3, 17), (17, .goto (-12), 3, 20), (20, .return_, 1, 21)] := by unfold jDs; decide +kernel
set_option maxRecDepth 100000 in
set_option maxHeartbeats 4000000 in
theorem c_J7_fill_53178 {E : jE} {a0 : Nat} {x1 : Int} {M : jMem} {r : Int} {M' : jMem} (h : f_J7_fill_53178 a0 x1 M = some (r, M')) : jMet E yJ7_fill_53178 cJ7_fill_53178 4 (none) 2 0 0 [q_r E a0, q_i x1] M (none) M' := by
  unfold f_J7_fill_53178 at h
  refine jMet.ofF RJ7 rfl (by decide +kernel) (Nat.le_of_ble_eq_true rfl) [(0, q_r E a0), (1, q_i x1)] rfl (fun X hC hE hr hn => ?_)
  refine jr_iconst hC (D_J7_fill_53178.g 0 rfl) ?_
  refine jr_istore_n hC (D_J7_fill_53178.g 1 rfl) (by decide) rfl ?_
  refine jr_aload_n hC (D_J7_fill_53178.g 2 rfl) 1 rfl ?_
  refine jr_alen hC 20 0 rfl (by decide) (D_J7_fill_53178.g 3 rfl) h (fun v1 h => ?_)
  refine jr_istore_n hC (D_J7_fill_53178.g 4 rfl) (by decide) rfl ?_
  refine jr_pick [2, 3, 1, 0] rfl ?_
  refine jr_lp2 (fun (y2_5 : Int) (M_5 : jMem) => JW E X 4 0 0 M_5 5 [(0, q_r E a0), (1, q_i x1), (2, q_i y2_5), (3, q_i v1)] []) ?_ jfuel 0 M h
  intro rec_5 hrec_5 y2_5 M_5 h
  refine jr_iload_n hC (D_J7_fill_53178.g 5 rfl) 2 rfl ?_
  refine jr_iload_n hC (D_J7_fill_53178.g 6 rfl) 3 rfl ?_
  refine jr_icmp_ge hC (D_J7_fill_53178.g 7 rfl) 20 rfl h (fun h => ?_) (fun h => ?_)
  · refine jr_aload_n hC (D_J7_fill_53178.g 8 rfl) 0 rfl ?_
    refine jr_iload_n hC (D_J7_fill_53178.g 9 rfl) 2 rfl ?_
    refine jr_iload_n hC (D_J7_fill_53178.g 10 rfl) 1 rfl ?_
    refine jr_iast hC (D_J7_fill_53178.g 11 rfl) h (fun M2 _ h => ?_)
    refine jr_iinc hC (D_J7_fill_53178.g 12 rfl) 2 rfl (by decide) rfl ?_
    refine jr_goto hC (D_J7_fill_53178.g 13 rfl) 5 rfl ?_
    refine jr_pick [1, 2, 0, 3] rfl ?_
    exact hrec_5 (y2_5 + 1) M2 h
  exact jr_vret hC (D_J7_fill_53178.g 14 rfl) hr hE h
