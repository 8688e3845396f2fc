/-! ===== 14.X10a: by program ===== -/
def f_X10_note (th : Nat) (x1 : Int) (x2 : Int) (M : jMem) : Option (Int × jMem) :=
(jm_gI 10 2 M th).bind fun v1 =>
if jd_wr v1 < jd_wr 20 then ((jm_gR 10 0 M th).bind fun r2 =>
(jm_gI 10 2 M th).bind fun v3 =>
(jm_st 20 M r2 v3 x1).bind fun M4 =>
(jm_gR 10 1 M4 th).bind fun r5 =>
(jm_gI 10 2 M4 th).bind fun v6 =>
(jm_st 22 M4 r5 v6 (jd_z x2)).bind fun M7 =>
(jm_gI 10 2 M7 th).bind fun v8 =>
(jm_pI 10 2 M7 th (v8 + 1)).bind fun M9 =>
(jm_gI 10 2 M9 th).bind fun v10 =>
some ((v10 - 1), M9))
else (some ((-1), M))
theorem D_X10_note : jDs cX10_note [(0, .aload_n 0, 1, 1), (1, .getfield 19, 3, 4), (4, .bipush 20, 2, 6), (6, .if_icmp .lt 5, 3, 9), (9, .iconst (-1), 1, 10), (10, .ireturn, 1, 11), (11, .aload_n 0, 1, 12), (12, .getfield 9, 3, 15), (15, .aload_n 0, 1, 16), (16, .getfield 19, 3, 19), (19, .iload_n 1, 1, 20), (20, .iastore, 1, 21), (21, .aload_n 0, 1, 22), (22, .getfield 15, 3, 25), (25, .aload_n 0, 1, 26), (26, .getfield 19, 3, 29), (29, .iload_n 2, 1, 30), (30, .bastore, 1, 31), (31, .aload_n 0, 1, 32), (32, .dup, 1, 33), (33, .getfield 19, 3, 36), (36, .iconst 1, 1, 37), (37, .iadd, 1, 38), (38, .putfield 19, 3, 41), (41, .aload_n 0, 1, 42), (42, .getfield 19, 3, 45), (45, .iconst 1, 1, 46), (46, .isub, 1, 47), (47, .ireturn, 1, 48)] := by unfold jDs; decide +kernel
set_option maxRecDepth 100000 in
set_option maxHeartbeats 4000000 in
theorem c_X10_note {E : jE} {th : Nat} {x1 : Int} {x2 : Int} {M : jMem} {r : Int} {M' : jMem} (h : f_X10_note th x1 x2 M = some (r, M')) : jMet E yX10_note cX10_note 3 (some .int) 2 0 0 [q_r E th, q_i x1, q_i x2] M (some (q_i r)) M' := by
  unfold f_X10_note at h
  refine jMet.of RX10 rfl (by decide +kernel) (Nat.le_of_ble_eq_true rfl) [(0, q_r E th), (1, q_i x1), (2, q_i x2)] rfl (fun X hC hE hr hn => ?_)
  refine jr_aload_n hC (D_X10_note.g 0 rfl) 0 rfl ?_
  refine jr_getI hC fl_X10_19 rfl (D_X10_note.g 1 rfl) h (fun v1 h => ?_)
  refine jr_bipush hC (D_X10_note.g 2 rfl) bp_20 ?_
  refine jr_icmp_lt hC (D_X10_note.g 3 rfl) 11 rfl h (fun h => ?_) (fun h => ?_)
  · refine jr_aload_n hC (D_X10_note.g 6 rfl) 0 rfl ?_
    refine jr_getR hC fl_X10_9 rfl (D_X10_note.g 7 rfl) h (fun r2 h => ?_)
    refine jr_aload_n hC (D_X10_note.g 8 rfl) 0 rfl ?_
    refine jr_getI hC fl_X10_19 rfl (D_X10_note.g 9 rfl) h (fun v3 h => ?_)
    refine jr_iload_n hC (D_X10_note.g 10 rfl) 1 rfl ?_
    refine jr_iast hC (D_X10_note.g 11 rfl) h (fun M4 _ h => ?_)
    refine jr_aload_n hC (D_X10_note.g 12 rfl) 0 rfl ?_
    refine jr_getR hC fl_X10_15 rfl (D_X10_note.g 13 rfl) h (fun r5 h => ?_)
    refine jr_aload_n hC (D_X10_note.g 14 rfl) 0 rfl ?_
    refine jr_getI hC fl_X10_19 rfl (D_X10_note.g 15 rfl) h (fun v6 h => ?_)
    refine jr_iload_n hC (D_X10_note.g 16 rfl) 2 rfl ?_
    refine jr_zast hC (D_X10_note.g 17 rfl) h (fun M7 _ h => ?_)
    refine jr_aload_n hC (D_X10_note.g 18 rfl) 0 rfl ?_
    refine jr_dup hC (D_X10_note.g 19 rfl) rfl ?_
    refine jr_getI hC fl_X10_19 rfl (D_X10_note.g 20 rfl) h (fun v8 h => ?_)
    refine jr_iconst hC (D_X10_note.g 21 rfl) ?_
    refine jr_iadd hC (D_X10_note.g 22 rfl) ?_
    refine jr_putI hC fl_X10_19 rfl (jnfin rfl) (D_X10_note.g 23 rfl) h (fun M9 _ h => ?_)
    refine jr_aload_n hC (D_X10_note.g 24 rfl) 0 rfl ?_
    refine jr_getI hC fl_X10_19 rfl (D_X10_note.g 25 rfl) h (fun v10 h => ?_)
    refine jr_iconst hC (D_X10_note.g 26 rfl) ?_
    refine jr_isub hC (D_X10_note.g 27 rfl) ?_
    exact jr_iret hC (D_X10_note.g 28 rfl) hr hE h
  refine jr_iconst hC (D_X10_note.g 4 rfl) ?_
  exact jr_iret hC (D_X10_note.g 5 rfl) hr hE h
