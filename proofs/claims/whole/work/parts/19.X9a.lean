/-! ===== 19.X9a: by program ===== -/
def f_X9_kindOf (th : Nat) (x1 : Int) (M : jMem) : Option (Int × jMem) :=
jjq (some (0, M)) fun j_20 =>
if jd_wr x1 < 0 then (j_20 )
else (if jd_wr x1 < jd_wr 401 then ((jm_gR 9 1 M th).bind fun r1 =>
(jm_ld 20 M r1 x1).bind fun v2 =>
some (v2, M))
else (j_20 ))
theorem D_X9_kindOf : jDs cX9_kindOf [(0, .iload_n 1, 1, 1), (1, .ifCond .lt 19, 3, 4), (4, .iload_n 1, 1, 5), (5, .sipush 401, 3, 8), (8, .if_icmp .ge 12, 3, 11), (11, .aload_n 0, 1, 12), (12, .getfield 15, 3, 15), (15, .iload_n 1, 1, 16), (16, .iaload, 1, 17), (17, .goto 4, 3, 20), (20, .iconst 0, 1, 21), (21, .ireturn, 1, 22)] := by unfold jDs; decide +kernel
set_option maxRecDepth 100000 in
set_option maxHeartbeats 4000000 in
theorem c_X9_kindOf {E : jE} {th : Nat} {x1 : Int} {M : jMem} {r : Int} {M' : jMem} (h : f_X9_kindOf th x1 M = some (r, M')) : jMet E yX9_kindOf cX9_kindOf 2 (some .int) 2 0 0 [q_r E th, q_i x1] M (some (q_i r)) M' := by
  unfold f_X9_kindOf at h
  refine jMet.of RX9 rfl (by decide +kernel) (Nat.le_of_ble_eq_true rfl) [(0, q_r E th), (1, q_i x1)] rfl (fun X hC hE hr hn => ?_)
  refine jr_iload_n hC (D_X9_kindOf.g 0 rfl) 1 rfl ?_
  refine jr_join h (fun j => j = some (r, M') → JW E X 2 0 0 M 20 [] []) ?_ ?_
  · intro  h
    refine jr_iconst hC (D_X9_kindOf.g 10 rfl) ?_
    exact jr_iret hC (D_X9_kindOf.g 11 rfl) hr hE h
  intro j_20 hj_20 h
  refine jr_if_lt hC (D_X9_kindOf.g 1 rfl) 20 rfl h (fun h => ?_) (fun h => ?_)
  · refine jr_pick [] rfl ?_
    exact hj_20  h
  refine jr_iload_n hC (D_X9_kindOf.g 2 rfl) 1 rfl ?_
  refine jr_sipush hC (D_X9_kindOf.g 3 rfl) sp_401 ?_
  refine jr_icmp_ge hC (D_X9_kindOf.g 4 rfl) 20 rfl h (fun h => ?_) (fun h => ?_)
  · refine jr_aload_n hC (D_X9_kindOf.g 5 rfl) 0 rfl ?_
    refine jr_getR hC fl_X9_15 rfl (D_X9_kindOf.g 6 rfl) h (fun r1 h => ?_)
    refine jr_iload_n hC (D_X9_kindOf.g 7 rfl) 1 rfl ?_
    refine jr_iald hC (D_X9_kindOf.g 8 rfl) h (fun v2 h => ?_)
    refine jr_goto hC (D_X9_kindOf.g 9 rfl) 21 rfl ?_
    exact jr_iret hC (D_X9_kindOf.g 11 rfl) hr hE h
  refine jr_pick [] rfl ?_
  exact hj_20  h
def f_X9_placeOf (th : Nat) (x1 : Int) (M : jMem) : Option (Int × jMem) :=
jjq ((jm_gR 9 0 M th).bind fun r1 =>
(jm_gI 7 1 M r1).bind fun v2 =>
some (v2, M)) fun j_20 =>
if jd_wr x1 < 0 then (j_20 )
else (if jd_wr x1 < jd_wr 401 then ((jm_gR 9 2 M th).bind fun r3 =>
(jm_ld 20 M r3 x1).bind fun v4 =>
some (v4, M))
else (j_20 ))
theorem D_X9_placeOf : jDs cX9_placeOf [(0, .iload_n 1, 1, 1), (1, .ifCond .lt 19, 3, 4), (4, .iload_n 1, 1, 5), (5, .sipush 401, 3, 8), (8, .if_icmp .ge 12, 3, 11), (11, .aload_n 0, 1, 12), (12, .getfield 19, 3, 15), (15, .iload_n 1, 1, 16), (16, .iaload, 1, 17), (17, .goto 10, 3, 20), (20, .aload_n 0, 1, 21), (21, .getfield 9, 3, 24), (24, .getfield 25, 3, 27), (27, .ireturn, 1, 28)] := by unfold jDs; decide +kernel
set_option maxRecDepth 100000 in
set_option maxHeartbeats 4000000 in
theorem c_X9_placeOf {E : jE} {th : Nat} {x1 : Int} {M : jMem} {r : Int} {M' : jMem} (h : f_X9_placeOf th x1 M = some (r, M')) : jMet E yX9_placeOf cX9_placeOf 2 (some .int) 2 0 0 [q_r E th, q_i x1] M (some (q_i r)) M' := by
  unfold f_X9_placeOf at h
  refine jMet.of RX9 rfl (by decide +kernel) (Nat.le_of_ble_eq_true rfl) [(0, q_r E th), (1, q_i x1)] rfl (fun X hC hE hr hn => ?_)
  refine jr_iload_n hC (D_X9_placeOf.g 0 rfl) 1 rfl ?_
  refine jr_join h (fun j => j = some (r, M') → JW E X 2 0 0 M 20 [(0, q_r E th)] []) ?_ ?_
  · intro  h
    refine jr_aload_n hC (D_X9_placeOf.g 10 rfl) 0 rfl ?_
    refine jr_getR hC fl_X9_9 rfl (D_X9_placeOf.g 11 rfl) h (fun r1 h => ?_)
    refine jr_getI hC fl_X9_25 rfl (D_X9_placeOf.g 12 rfl) h (fun v2 h => ?_)
    exact jr_iret hC (D_X9_placeOf.g 13 rfl) hr hE h
  intro j_20 hj_20 h
  refine jr_if_lt hC (D_X9_placeOf.g 1 rfl) 20 rfl h (fun h => ?_) (fun h => ?_)
  · refine jr_pick [0] rfl ?_
    exact hj_20  h
  refine jr_iload_n hC (D_X9_placeOf.g 2 rfl) 1 rfl ?_
  refine jr_sipush hC (D_X9_placeOf.g 3 rfl) sp_401 ?_
  refine jr_icmp_ge hC (D_X9_placeOf.g 4 rfl) 20 rfl h (fun h => ?_) (fun h => ?_)
  · refine jr_aload_n hC (D_X9_placeOf.g 5 rfl) 0 rfl ?_
    refine jr_getR hC fl_X9_19 rfl (D_X9_placeOf.g 6 rfl) h (fun r3 h => ?_)
    refine jr_iload_n hC (D_X9_placeOf.g 7 rfl) 1 rfl ?_
    refine jr_iald hC (D_X9_placeOf.g 8 rfl) h (fun v4 h => ?_)
    refine jr_goto hC (D_X9_placeOf.g 9 rfl) 27 rfl ?_
    exact jr_iret hC (D_X9_placeOf.g 13 rfl) hr hE h
  refine jr_pick [0] rfl ?_
  exact hj_20  h
def f_X9_numberOf (th : Nat) (x1 : Int) (M : jMem) : Option (Int × jMem) :=
jjq (some (0, M)) fun j_20 =>
if jd_wr x1 < 0 then (j_20 )
else (if jd_wr x1 < jd_wr 401 then ((jm_gR 9 3 M th).bind fun r1 =>
(jm_ld 20 M r1 x1).bind fun v2 =>
some (v2, M))
else (j_20 ))
theorem D_X9_numberOf : jDs cX9_numberOf [(0, .iload_n 1, 1, 1), (1, .ifCond .lt 19, 3, 4), (4, .iload_n 1, 1, 5), (5, .sipush 401, 3, 8), (8, .if_icmp .ge 12, 3, 11), (11, .aload_n 0, 1, 12), (12, .getfield 22, 3, 15), (15, .iload_n 1, 1, 16), (16, .iaload, 1, 17), (17, .goto 4, 3, 20), (20, .iconst 0, 1, 21), (21, .ireturn, 1, 22)] := by unfold jDs; decide +kernel
set_option maxRecDepth 100000 in
set_option maxHeartbeats 4000000 in
theorem c_X9_numberOf {E : jE} {th : Nat} {x1 : Int} {M : jMem} {r : Int} {M' : jMem} (h : f_X9_numberOf th x1 M = some (r, M')) : jMet E yX9_numberOf cX9_numberOf 2 (some .int) 2 0 0 [q_r E th, q_i x1] M (some (q_i r)) M' := by
  unfold f_X9_numberOf at h
  refine jMet.of RX9 rfl (by decide +kernel) (Nat.le_of_ble_eq_true rfl) [(0, q_r E th), (1, q_i x1)] rfl (fun X hC hE hr hn => ?_)
  refine jr_iload_n hC (D_X9_numberOf.g 0 rfl) 1 rfl ?_
  refine jr_join h (fun j => j = some (r, M') → JW E X 2 0 0 M 20 [] []) ?_ ?_
  · intro  h
    refine jr_iconst hC (D_X9_numberOf.g 10 rfl) ?_
    exact jr_iret hC (D_X9_numberOf.g 11 rfl) hr hE h
  intro j_20 hj_20 h
  refine jr_if_lt hC (D_X9_numberOf.g 1 rfl) 20 rfl h (fun h => ?_) (fun h => ?_)
  · refine jr_pick [] rfl ?_
    exact hj_20  h
  refine jr_iload_n hC (D_X9_numberOf.g 2 rfl) 1 rfl ?_
  refine jr_sipush hC (D_X9_numberOf.g 3 rfl) sp_401 ?_
  refine jr_icmp_ge hC (D_X9_numberOf.g 4 rfl) 20 rfl h (fun h => ?_) (fun h => ?_)
  · refine jr_aload_n hC (D_X9_numberOf.g 5 rfl) 0 rfl ?_
    refine jr_getR hC fl_X9_22 rfl (D_X9_numberOf.g 6 rfl) h (fun r1 h => ?_)
    refine jr_iload_n hC (D_X9_numberOf.g 7 rfl) 1 rfl ?_
    refine jr_iald hC (D_X9_numberOf.g 8 rfl) h (fun v2 h => ?_)
    refine jr_goto hC (D_X9_numberOf.g 9 rfl) 21 rfl ?_
    exact jr_iret hC (D_X9_numberOf.g 11 rfl) hr hE h
  refine jr_pick [] rfl ?_
  exact hj_20  h
def f_X9_isBlank (x0 : Int) (M : jMem) : Option (Int × jMem) :=
jjq (jm_z 1 M) fun j_24 =>
if jd_wr x0 = jd_wr 9 then (j_24 )
else (if jd_wr x0 = jd_wr 10 then (j_24 )
else (if jd_wr x0 = jd_wr 13 then (j_24 )
else (if jd_wr x0 = jd_wr 32 then (j_24 )
else (jm_z 0 M))))
theorem D_X9_isBlank : jDs cX9_isBlank [(0, .iload_n 0, 1, 1), (1, .bipush 9, 2, 3), (3, .if_icmp .eq 21, 3, 6), (6, .iload_n 0, 1, 7), (7, .bipush 10, 2, 9), (9, .if_icmp .eq 15, 3, 12), (12, .iload_n 0, 1, 13), (13, .bipush 13, 2, 15), (15, .if_icmp .eq 9, 3, 18), (18, .iload_n 0, 1, 19), (19, .bipush 32, 2, 21), (21, .if_icmp .ne 7, 3, 24), (24, .iconst 1, 1, 25), (25, .goto 4, 3, 28), (28, .iconst 0, 1, 29), (29, .ireturn, 1, 30)] := by unfold jDs; decide +kernel
set_option maxRecDepth 100000 in
set_option maxHeartbeats 4000000 in
theorem c_X9_isBlank {E : jE} {x0 : Int} {M : jMem} {r : Int} {M' : jMem} (h : f_X9_isBlank x0 M = some (r, M')) : jMet E yX9_isBlank cX9_isBlank 1 (some .boolean) 2 0 0 [q_i x0] M (some (q_i r)) M' := by
  unfold f_X9_isBlank at h
  refine jMet.of RX9 rfl (by decide +kernel) (Nat.le_of_ble_eq_true rfl) [(0, q_i x0)] rfl (fun X hC hE hr hn => ?_)
  refine jr_iload_n hC (D_X9_isBlank.g 0 rfl) 0 rfl ?_
  refine jr_bipush hC (D_X9_isBlank.g 1 rfl) bp_9 ?_
  refine jr_join h (fun j => j = some (r, M') → JW E X 1 0 0 M 24 [] []) ?_ ?_
  · intro  h
    refine jr_iconst hC (D_X9_isBlank.g 12 rfl) ?_
    refine jr_goto hC (D_X9_isBlank.g 13 rfl) 29 rfl ?_
    exact jr_zret hC (D_X9_isBlank.g 15 rfl) hr hE h
  intro j_24 hj_24 h
  refine jr_icmp_eq hC (D_X9_isBlank.g 2 rfl) 24 rfl h (fun h => ?_) (fun h => ?_)
  · refine jr_pick [] rfl ?_
    exact hj_24  h
  refine jr_iload_n hC (D_X9_isBlank.g 3 rfl) 0 rfl ?_
  refine jr_bipush hC (D_X9_isBlank.g 4 rfl) bp_10 ?_
  refine jr_icmp_eq hC (D_X9_isBlank.g 5 rfl) 24 rfl h (fun h => ?_) (fun h => ?_)
  · refine jr_pick [] rfl ?_
    exact hj_24  h
  refine jr_iload_n hC (D_X9_isBlank.g 6 rfl) 0 rfl ?_
  refine jr_bipush hC (D_X9_isBlank.g 7 rfl) bp_13 ?_
  refine jr_icmp_eq hC (D_X9_isBlank.g 8 rfl) 24 rfl h (fun h => ?_) (fun h => ?_)
  · refine jr_pick [] rfl ?_
    exact hj_24  h
  refine jr_iload_n hC (D_X9_isBlank.g 9 rfl) 0 rfl ?_
  refine jr_bipush hC (D_X9_isBlank.g 10 rfl) bp_32 ?_
  refine jr_icmp_ne hC (D_X9_isBlank.g 11 rfl) 28 rfl h (fun h => ?_) (fun h => ?_)
  · refine jr_pick [] rfl ?_
    exact hj_24  h
  refine jr_iconst hC (D_X9_isBlank.g 14 rfl) ?_
  exact jr_zret hC (D_X9_isBlank.g 15 rfl) hr hE h
def f_X9_skipBlanks (th : Nat) (M : jMem) : Option (Int × jMem) :=
jlp2 (fun rec_2 (y1_2 : Int) (M_2 : jMem) =>
if jd_wr y1_2 < jd_wr 2000 then ((jm_gR 9 0 M_2 th).bind fun r1 =>
(jm_gI 9 4 M_2 th).bind fun v2 =>
jcall 7 M_2 r1 (f_X7_at r1 v2 M_2) fun v3 M4 =>
jbd (f_X9_isBlank v3 M4) fun v5 M6 =>
if jd_wr v5 = 0 then (some (0, M6))
else ((jm_gI 9 4 M6 th).bind fun v7 =>
(jm_pI 9 4 M6 th (v7 + 1)).bind fun M8 =>
rec_2 (y1_2 + 1) M8))
else (some (0, M_2))) jfuel 0 M
theorem D_X9_skipBlanks : jDs cX9_skipBlanks [(0, .iconst 0, 1, 1), (1, .istore_n 1, 1, 2), (2, .iload_n 1, 1, 3), (3, .sipush 2000, 3, 6), (6, .if_icmp .ge 36, 3, 9), (9, .aload_n 0, 1, 10), (10, .getfield 9, 3, 13), (13, .aload_n 0, 1, 14), (14, .getfield 31, 3, 17), (17, .invokevirtual 41, 3, 20), (20, .invokestatic 44, 3, 23), (23, .ifCond .eq 19, 3, 26), (26, .aload_n 0, 1, 27), (27, .dup, 1, 28), (28, .getfield 31, 3, 31), (31, .iconst 1, 1, 32), (32, .iadd, 1, 33), (33, .putfield 31, 3, 36), (36, .iinc 1 1, 3, 39), (39, .goto (-37), 3, 42), (42, .return_, 1, 43)] := by unfold jDs; decide +kernel
set_option maxRecDepth 100000 in
set_option maxHeartbeats 4000000 in
theorem c_X9_skipBlanks {E : jE} {th : Nat} {M : jMem} {r : Int} {M' : jMem} (h : f_X9_skipBlanks th M = some (r, M')) : jMet E yX9_skipBlanks cX9_skipBlanks 2 (none) 3 0 0 [q_r E th] M (none) M' := by
  unfold f_X9_skipBlanks at h
  refine jMet.of RX9 rfl (by decide +kernel) (Nat.le_of_ble_eq_true rfl) [(0, q_r E th)] rfl (fun X hC hE hr hn => ?_)
  refine jr_iconst hC (D_X9_skipBlanks.g 0 rfl) ?_
  refine jr_istore_n hC (D_X9_skipBlanks.g 1 rfl) (by decide) rfl ?_
  refine jr_pick [1, 0] rfl ?_
  refine jr_lp2 (fun (y1_2 : Int) (M_2 : jMem) => JW E X 2 0 0 M_2 2 [(0, q_r E th), (1, q_i y1_2)] []) ?_ jfuel 0 M h
  intro rec_2 hrec_2 y1_2 M_2 h
  refine jr_iload_n hC (D_X9_skipBlanks.g 2 rfl) 1 rfl ?_
  refine jr_sipush hC (D_X9_skipBlanks.g 3 rfl) sp_2000 ?_
  refine jr_icmp_ge hC (D_X9_skipBlanks.g 4 rfl) 42 rfl h (fun h => ?_) (fun h => ?_)
  · refine jr_aload_n hC (D_X9_skipBlanks.g 5 rfl) 0 rfl ?_
    refine jr_getR hC fl_X9_9 rfl (D_X9_skipBlanks.g 6 rfl) h (fun r1 h => ?_)
    refine jr_aload_n hC (D_X9_skipBlanks.g 7 rfl) 0 rfl ?_
    refine jr_getI hC fl_X9_31 rfl (D_X9_skipBlanks.g 8 rfl) h (fun v2 h => ?_)
    refine jr_cVi hC cl_X9_41 ⟨rfl, by decide⟩ (D_X9_skipBlanks.g 9 rfl) [q_i v2] h (fun r M' e => c_X7_at e) rfl rfl ⟨by decide, by decide⟩ (Nat.le_of_ble_eq_true rfl) ⟨Nat.le_of_ble_eq_true rfl, Nat.le_of_ble_eq_true rfl⟩ (fun v3 M4 h => ?_)
    refine jr_cSi hC cl_X9_44 (D_X9_skipBlanks.g 10 rfl) [q_i v3] h (fun r M' e => c_X9_isBlank e) rfl rfl ⟨by decide, by decide⟩ (Nat.le_of_ble_eq_true rfl) ⟨Nat.le_of_ble_eq_true rfl, Nat.le_of_ble_eq_true rfl⟩ (fun v5 M6 h => ?_)
    refine jr_if_eq hC (D_X9_skipBlanks.g 11 rfl) 42 rfl h (fun h => ?_) (fun h => ?_)
    · exact jr_vret hC (D_X9_skipBlanks.g 20 rfl) hr hE h
    refine jr_aload_n hC (D_X9_skipBlanks.g 12 rfl) 0 rfl ?_
    refine jr_dup hC (D_X9_skipBlanks.g 13 rfl) rfl ?_
    refine jr_getI hC fl_X9_31 rfl (D_X9_skipBlanks.g 14 rfl) h (fun v7 h => ?_)
    refine jr_iconst hC (D_X9_skipBlanks.g 15 rfl) ?_
    refine jr_iadd hC (D_X9_skipBlanks.g 16 rfl) ?_
    refine jr_putI hC fl_X9_31 rfl (jnfin rfl) (D_X9_skipBlanks.g 17 rfl) h (fun M8 _ h => ?_)
    refine jr_iinc hC (D_X9_skipBlanks.g 18 rfl) 1 rfl (by decide) rfl ?_
    refine jr_goto hC (D_X9_skipBlanks.g 19 rfl) 2 rfl ?_
    refine jr_pick [1, 0] rfl ?_
    exact hrec_2 (y1_2 + 1) M8 h
  exact jr_vret hC (D_X9_skipBlanks.g 20 rfl) hr hE h
def f_X9_isLetter (x0 : Int) (M : jMem) : Option (Int × jMem) :=
jjq (jm_z 0 M) fun j_16 =>
if jd_wr x0 < jd_wr 97 then (j_16 )
else (if jd_wr x0 ≤ jd_wr 122 then (jm_z 1 M)
else (j_16 ))
theorem D_X9_isLetter : jDs cX9_isLetter [(0, .iload_n 0, 1, 1), (1, .bipush 97, 2, 3), (3, .if_icmp .lt 13, 3, 6), (6, .iload_n 0, 1, 7), (7, .bipush 122, 2, 9), (9, .if_icmp .gt 7, 3, 12), (12, .iconst 1, 1, 13), (13, .goto 4, 3, 16), (16, .iconst 0, 1, 17), (17, .ireturn, 1, 18)] := by unfold jDs; decide +kernel
set_option maxRecDepth 100000 in
set_option maxHeartbeats 4000000 in
theorem c_X9_isLetter {E : jE} {x0 : Int} {M : jMem} {r : Int} {M' : jMem} (h : f_X9_isLetter x0 M = some (r, M')) : jMet E yX9_isLetter cX9_isLetter 1 (some .boolean) 2 0 0 [q_i x0] M (some (q_i r)) M' := by
  unfold f_X9_isLetter at h
  refine jMet.of RX9 rfl (by decide +kernel) (Nat.le_of_ble_eq_true rfl) [(0, q_i x0)] rfl (fun X hC hE hr hn => ?_)
  refine jr_iload_n hC (D_X9_isLetter.g 0 rfl) 0 rfl ?_
  refine jr_bipush hC (D_X9_isLetter.g 1 rfl) bp_97 ?_
  refine jr_join h (fun j => j = some (r, M') → JW E X 1 0 0 M 16 [] []) ?_ ?_
  · intro  h
    refine jr_iconst hC (D_X9_isLetter.g 8 rfl) ?_
    exact jr_zret hC (D_X9_isLetter.g 9 rfl) hr hE h
  intro j_16 hj_16 h
  refine jr_icmp_lt hC (D_X9_isLetter.g 2 rfl) 16 rfl h (fun h => ?_) (fun h => ?_)
  · refine jr_pick [] rfl ?_
    exact hj_16  h
  refine jr_iload_n hC (D_X9_isLetter.g 3 rfl) 0 rfl ?_
  refine jr_bipush hC (D_X9_isLetter.g 4 rfl) bp_122 ?_
  refine jr_icmp_gt hC (D_X9_isLetter.g 5 rfl) 16 rfl h (fun h => ?_) (fun h => ?_)
  · refine jr_iconst hC (D_X9_isLetter.g 6 rfl) ?_
    refine jr_goto hC (D_X9_isLetter.g 7 rfl) 17 rfl ?_
    exact jr_zret hC (D_X9_isLetter.g 9 rfl) hr hE h
  refine jr_pick [] rfl ?_
  exact hj_16  h
def f_X9_isWord (th : Nat) (x1 : Int) (x2 : Int) (M : jMem) : Option (Int × jMem) :=
jlp2 (fun rec_2 (y3_2 : Int) (M_2 : jMem) =>
if jd_wr y3_2 < jd_wr 8 then ((jm_gI 9 4 M_2 th).bind fun v1 =>
jjq (fun (z0_33 : Int) (M_33 : jMem) =>
(jm_sb 0 (x1 + y3_2)).bind fun v2 =>
if jd_wr v2 = jd_wr z0_33 then (rec_2 (y3_2 + 1) M_33)
else (jm_z 0 M_33)) fun j_33 =>
if jd_wr (x2 + y3_2) < jd_wr v1 then ((jm_gR 9 0 M_2 th).bind fun r3 =>
jcall 7 M_2 r3 (f_X7_at r3 (x2 + y3_2) M_2) fun v4 M5 =>
j_33 v4 M5)
else (j_33 32 M_2))
else (jm_z 1 M_2)) jfuel 0 M
theorem D_X9_isWord : jDs cX9_isWord [(0, .iconst 0, 1, 1), (1, .istore_n 3, 1, 2), (2, .iload_n 3, 1, 3), (3, .bipush 8, 2, 5), (5, .if_icmp .ge 51, 3, 8), (8, .iload_n 2, 1, 9), (9, .iload_n 3, 1, 10), (10, .iadd, 1, 11), (11, .aload_n 0, 1, 12), (12, .getfield 31, 3, 15), (15, .if_icmp .ge 16, 3, 18), (18, .aload_n 0, 1, 19), (19, .getfield 9, 3, 22), (22, .iload_n 2, 1, 23), (23, .iload_n 3, 1, 24), (24, .iadd, 1, 25), (25, .invokevirtual 41, 3, 28), (28, .goto 5, 3, 31), (31, .bipush 32, 2, 33), (33, .istore 4, 2, 35), (35, .ldc 72, 2, 37), (37, .iload_n 1, 1, 38), (38, .iload_n 3, 1, 39), (39, .iadd, 1, 40), (40, .invokevirtual 74, 3, 43), (43, .iload 4, 2, 45), (45, .if_icmp .eq 5, 3, 48), (48, .iconst 0, 1, 49), (49, .ireturn, 1, 50), (50, .iinc 3 1, 3, 53), (53, .goto (-51), 3, 56), (56, .iconst 1, 1, 57), (57, .ireturn, 1, 58)] := by unfold jDs; decide +kernel
set_option maxRecDepth 100000 in
set_option maxHeartbeats 4000000 in
theorem c_X9_isWord {E : jE} {th : Nat} {x1 : Int} {x2 : Int} {M : jMem} {r : Int} {M' : jMem} (h : f_X9_isWord th x1 x2 M = some (r, M')) : jMet E yX9_isWord cX9_isWord 5 (some .boolean) 8 0 0 [q_r E th, q_i x1, q_i x2] M (some (q_i r)) M' := by
  unfold f_X9_isWord at h
  refine jMet.of RX9 rfl (by decide +kernel) (Nat.le_of_ble_eq_true rfl) [(0, q_r E th), (1, q_i x1), (2, q_i x2)] rfl (fun X hC hE hr hn => ?_)
  refine jr_iconst hC (D_X9_isWord.g 0 rfl) ?_
  refine jr_istore_n hC (D_X9_isWord.g 1 rfl) (by decide) rfl ?_
  refine jr_pick [1, 2, 3, 0] rfl ?_
  refine jr_lp2 (fun (y3_2 : Int) (M_2 : jMem) => JW E X 5 0 0 M_2 2 [(0, q_r E th), (1, q_i x1), (2, q_i x2), (3, q_i y3_2)] []) ?_ jfuel 0 M h
  intro rec_2 hrec_2 y3_2 M_2 h
  refine jr_iload_n hC (D_X9_isWord.g 2 rfl) 3 rfl ?_
  refine jr_bipush hC (D_X9_isWord.g 3 rfl) bp_8 ?_
  refine jr_icmp_ge hC (D_X9_isWord.g 4 rfl) 56 rfl h (fun h => ?_) (fun h => ?_)
  · refine jr_iload_n hC (D_X9_isWord.g 5 rfl) 2 rfl ?_
    refine jr_iload_n hC (D_X9_isWord.g 6 rfl) 3 rfl ?_
    refine jr_iadd hC (D_X9_isWord.g 7 rfl) ?_
    refine jr_aload_n hC (D_X9_isWord.g 8 rfl) 0 rfl ?_
    refine jr_getI hC fl_X9_31 rfl (D_X9_isWord.g 9 rfl) h (fun v1 h => ?_)
    refine jr_join h (fun j => ∀ (z0_33 : Int) (M_33 : jMem), j z0_33 M_33 = some (r, M') → JW E X 5 0 0 M_33 33 [(0, q_r E th), (1, q_i x1), (2, q_i x2), (3, q_i y3_2)] [q_i z0_33]) ?_ ?_
    · intro z0_33 M_33 h
      refine jr_istore hC (D_X9_isWord.g 19 rfl) (by decide) rfl ?_
      refine jr_ldcS0 hC rfl (D_X9_isWord.g 20 rfl) ?_
      refine jr_iload_n hC (D_X9_isWord.g 21 rfl) 2 rfl ?_
      refine jr_iload_n hC (D_X9_isWord.g 22 rfl) 4 rfl ?_
      refine jr_iadd hC (D_X9_isWord.g 23 rfl) ?_
      refine jr_charAt hC 0 rfl (by decide) (by decide) (Nat.le_of_ble_eq_true rfl) (D_X9_isWord.g 24 rfl) h ⟨Nat.le_refl _, Nat.le_refl _⟩ (fun v2 h => ?_)
      refine jr_iload hC (D_X9_isWord.g 25 rfl) 0 rfl ?_
      refine jr_icmp_eq hC (D_X9_isWord.g 26 rfl) 50 rfl h (fun h => ?_) (fun h => ?_)
      · refine jr_iinc hC (D_X9_isWord.g 29 rfl) 4 rfl (by decide) rfl ?_
        refine jr_goto hC (D_X9_isWord.g 30 rfl) 2 rfl ?_
        refine jr_pick [2, 3, 4, 0] rfl ?_
        exact hrec_2 (y3_2 + 1) M_33 h
      refine jr_iconst hC (D_X9_isWord.g 27 rfl) ?_
      exact jr_zret hC (D_X9_isWord.g 28 rfl) hr hE h
    intro j_33 hj_33 h
    refine jr_icmp_ge hC (D_X9_isWord.g 10 rfl) 31 rfl h (fun h => ?_) (fun h => ?_)
    · refine jr_aload_n hC (D_X9_isWord.g 11 rfl) 0 rfl ?_
      refine jr_getR hC fl_X9_9 rfl (D_X9_isWord.g 12 rfl) h (fun r3 h => ?_)
      refine jr_iload_n hC (D_X9_isWord.g 13 rfl) 2 rfl ?_
      refine jr_iload_n hC (D_X9_isWord.g 14 rfl) 3 rfl ?_
      refine jr_iadd hC (D_X9_isWord.g 15 rfl) ?_
      refine jr_cVi hC cl_X9_41 ⟨rfl, by decide⟩ (D_X9_isWord.g 16 rfl) [q_i (x2 + y3_2)] h (fun r M' e => c_X7_at e) rfl rfl ⟨by decide, by decide⟩ (Nat.le_of_ble_eq_true rfl) ⟨Nat.le_of_ble_eq_true rfl, Nat.le_of_ble_eq_true rfl⟩ (fun v4 M5 h => ?_)
      refine jr_goto hC (D_X9_isWord.g 17 rfl) 33 rfl ?_
      exact hj_33 v4 M5 h
    refine jr_bipush hC (D_X9_isWord.g 18 rfl) bp_32 ?_
    exact hj_33 32 M_2 h
  refine jr_iconst hC (D_X9_isWord.g 31 rfl) ?_
  exact jr_zret hC (D_X9_isWord.g 32 rfl) hr hE h
def f_X9_cutWord (th : Nat) (x1 : Int) (M : jMem) : Option (Int × jMem) :=
jlp2 (fun rec_2 (y2_2 : Int) (M_2 : jMem) =>
jjq (fun (M_42 : jMem) =>
(jm_gI 9 4 M_42 th).bind fun v1 =>
if jd_wr (v1 - x1) ≤ jd_wr 8 then (jlp2 (fun rec_58 (y2_58 : Int) (M_58 : jMem) =>
if jd_wr y2_58 ≤ jd_wr 38 then (jcall 9 M_58 th (f_X9_isWord th ((y2_58 - 20) * 8) x1 M_58) fun v2 M3 =>
if jd_wr v2 = 0 then (rec_58 (y2_58 + 1) M3)
else (some (y2_58, M3)))
else (some (2, M_58))) jfuel 20 M_42)
else (some (1, M_42))) fun j_42 =>
if jd_wr y2_2 < jd_wr 2000 then ((jm_gR 9 0 M_2 th).bind fun r4 =>
(jm_gI 9 4 M_2 th).bind fun v5 =>
jcall 7 M_2 r4 (f_X7_at r4 v5 M_2) fun v6 M7 =>
jbd (f_X9_isLetter v6 M7) fun v8 M9 =>
if jd_wr v8 = 0 then (j_42 M9)
else ((jm_gI 9 4 M9 th).bind fun v10 =>
(jm_pI 9 4 M9 th (v10 + 1)).bind fun M11 =>
rec_2 (y2_2 + 1) M11))
else (j_42 M_2)) jfuel 0 M
theorem D_X9_cutWord : jDs cX9_cutWord [(0, .iconst 0, 1, 1), (1, .istore_n 2, 1, 2), (2, .iload_n 2, 1, 3), (3, .sipush 2000, 3, 6), (6, .if_icmp .ge 36, 3, 9), (9, .aload_n 0, 1, 10), (10, .getfield 9, 3, 13), (13, .aload_n 0, 1, 14), (14, .getfield 31, 3, 17), (17, .invokevirtual 41, 3, 20), (20, .invokestatic 48, 3, 23), (23, .ifCond .eq 19, 3, 26), (26, .aload_n 0, 1, 27), (27, .dup, 1, 28), (28, .getfield 31, 3, 31), (31, .iconst 1, 1, 32), (32, .iadd, 1, 33), (33, .putfield 31, 3, 36), (36, .iinc 2 1, 3, 39), (39, .goto (-37), 3, 42), (42, .aload_n 0, 1, 43), (43, .getfield 31, 3, 46), (46, .iload_n 1, 1, 47), (47, .isub, 1, 48), (48, .bipush 8, 2, 50), (50, .if_icmp .le 5, 3, 53), (53, .iconst 1, 1, 54), (54, .ireturn, 1, 55), (55, .bipush 20, 2, 57), (57, .istore_n 2, 1, 58), (58, .iload_n 2, 1, 59), (59, .bipush 38, 2, 61), (61, .if_icmp .gt 26, 3, 64), (64, .aload_n 0, 1, 65), (65, .iload_n 2, 1, 66), (66, .bipush 20, 2, 68), (68, .isub, 1, 69), (69, .bipush 8, 2, 71), (71, .imul, 1, 72), (72, .iload_n 1, 1, 73), (73, .invokevirtual 68, 3, 76), (76, .ifCond .eq 5, 3, 79), (79, .iload_n 2, 1, 80), (80, .ireturn, 1, 81), (81, .iinc 2 1, 3, 84), (84, .goto (-26), 3, 87), (87, .iconst 2, 1, 88), (88, .ireturn, 1, 89)] := by unfold jDs; decide +kernel
set_option maxRecDepth 100000 in
set_option maxHeartbeats 4000000 in
theorem c_X9_cutWord {E : jE} {th : Nat} {x1 : Int} {M : jMem} {r : Int} {M' : jMem} (h : f_X9_cutWord th x1 M = some (r, M')) : jMet E yX9_cutWord cX9_cutWord 3 (some .int) 9 0 0 [q_r E th, q_i x1] M (some (q_i r)) M' := by
  unfold f_X9_cutWord at h
  refine jMet.of RX9 rfl (by decide +kernel) (Nat.le_of_ble_eq_true rfl) [(0, q_r E th), (1, q_i x1)] rfl (fun X hC hE hr hn => ?_)
  refine jr_iconst hC (D_X9_cutWord.g 0 rfl) ?_
  refine jr_istore_n hC (D_X9_cutWord.g 1 rfl) (by decide) rfl ?_
  refine jr_pick [1, 2, 0] rfl ?_
  refine jr_lp2 (fun (y2_2 : Int) (M_2 : jMem) => JW E X 3 0 0 M_2 2 [(0, q_r E th), (1, q_i x1), (2, q_i y2_2)] []) ?_ jfuel 0 M h
  intro rec_2 hrec_2 y2_2 M_2 h
  refine jr_iload_n hC (D_X9_cutWord.g 2 rfl) 2 rfl ?_
  refine jr_sipush hC (D_X9_cutWord.g 3 rfl) sp_2000 ?_
  refine jr_join h (fun j => ∀ (M_42 : jMem), j M_42 = some (r, M') → JW E X 3 0 0 M_42 42 [(0, q_r E th), (1, q_i x1)] []) ?_ ?_
  · intro M_42 h
    refine jr_aload_n hC (D_X9_cutWord.g 20 rfl) 0 rfl ?_
    refine jr_getI hC fl_X9_31 rfl (D_X9_cutWord.g 21 rfl) h (fun v1 h => ?_)
    refine jr_iload_n hC (D_X9_cutWord.g 22 rfl) 1 rfl ?_
    refine jr_isub hC (D_X9_cutWord.g 23 rfl) ?_
    refine jr_bipush hC (D_X9_cutWord.g 24 rfl) bp_8 ?_
    refine jr_icmp_le hC (D_X9_cutWord.g 25 rfl) 55 rfl h (fun h => ?_) (fun h => ?_)
    · refine jr_bipush hC (D_X9_cutWord.g 28 rfl) bp_20 ?_
      refine jr_istore_n hC (D_X9_cutWord.g 29 rfl) (by decide) rfl ?_
      refine jr_pick [1, 2, 0] rfl ?_
      refine jr_lp2 (fun (y2_58 : Int) (M_58 : jMem) => JW E X 3 0 0 M_58 58 [(0, q_r E th), (1, q_i x1), (2, q_i y2_58)] []) ?_ jfuel 20 M_42 h
      intro rec_58 hrec_58 y2_58 M_58 h
      refine jr_iload_n hC (D_X9_cutWord.g 30 rfl) 2 rfl ?_
      refine jr_bipush hC (D_X9_cutWord.g 31 rfl) bp_38 ?_
      refine jr_icmp_gt hC (D_X9_cutWord.g 32 rfl) 87 rfl h (fun h => ?_) (fun h => ?_)
      · refine jr_aload_n hC (D_X9_cutWord.g 33 rfl) 0 rfl ?_
        refine jr_iload_n hC (D_X9_cutWord.g 34 rfl) 2 rfl ?_
        refine jr_bipush hC (D_X9_cutWord.g 35 rfl) bp_20 ?_
        refine jr_isub hC (D_X9_cutWord.g 36 rfl) ?_
        refine jr_bipush hC (D_X9_cutWord.g 37 rfl) bp_8 ?_
        refine jr_imul hC (D_X9_cutWord.g 38 rfl) ?_
        refine jr_iload_n hC (D_X9_cutWord.g 39 rfl) 1 rfl ?_
        refine jr_cVi hC cl_X9_68 ⟨rfl, by decide⟩ (D_X9_cutWord.g 40 rfl) [q_i ((y2_58 - 20) * 8), q_i x1] h (fun r M' e => c_X9_isWord e) rfl rfl ⟨by decide, by decide⟩ (Nat.le_of_ble_eq_true rfl) ⟨Nat.le_of_ble_eq_true rfl, Nat.le_of_ble_eq_true rfl⟩ (fun v2 M3 h => ?_)
        refine jr_if_eq hC (D_X9_cutWord.g 41 rfl) 81 rfl h (fun h => ?_) (fun h => ?_)
        · refine jr_iinc hC (D_X9_cutWord.g 44 rfl) 2 rfl (by decide) rfl ?_
          refine jr_goto hC (D_X9_cutWord.g 45 rfl) 58 rfl ?_
          refine jr_pick [1, 2, 0] rfl ?_
          exact hrec_58 (y2_58 + 1) M3 h
        refine jr_iload_n hC (D_X9_cutWord.g 42 rfl) 2 rfl ?_
        exact jr_iret hC (D_X9_cutWord.g 43 rfl) hr hE h
      refine jr_iconst hC (D_X9_cutWord.g 46 rfl) ?_
      exact jr_iret hC (D_X9_cutWord.g 47 rfl) hr hE h
    refine jr_iconst hC (D_X9_cutWord.g 26 rfl) ?_
    exact jr_iret hC (D_X9_cutWord.g 27 rfl) hr hE h
  intro j_42 hj_42 h
  refine jr_icmp_ge hC (D_X9_cutWord.g 4 rfl) 42 rfl h (fun h => ?_) (fun h => ?_)
  · refine jr_aload_n hC (D_X9_cutWord.g 5 rfl) 0 rfl ?_
    refine jr_getR hC fl_X9_9 rfl (D_X9_cutWord.g 6 rfl) h (fun r4 h => ?_)
    refine jr_aload_n hC (D_X9_cutWord.g 7 rfl) 0 rfl ?_
    refine jr_getI hC fl_X9_31 rfl (D_X9_cutWord.g 8 rfl) h (fun v5 h => ?_)
    refine jr_cVi hC cl_X9_41 ⟨rfl, by decide⟩ (D_X9_cutWord.g 9 rfl) [q_i v5] h (fun r M' e => c_X7_at e) rfl rfl ⟨by decide, by decide⟩ (Nat.le_of_ble_eq_true rfl) ⟨Nat.le_of_ble_eq_true rfl, Nat.le_of_ble_eq_true rfl⟩ (fun v6 M7 h => ?_)
    refine jr_cSi hC cl_X9_48 (D_X9_cutWord.g 10 rfl) [q_i v6] h (fun r M' e => c_X9_isLetter e) rfl rfl ⟨by decide, by decide⟩ (Nat.le_of_ble_eq_true rfl) ⟨Nat.le_of_ble_eq_true rfl, Nat.le_of_ble_eq_true rfl⟩ (fun v8 M9 h => ?_)
    refine jr_if_eq hC (D_X9_cutWord.g 11 rfl) 42 rfl h (fun h => ?_) (fun h => ?_)
    · refine jr_pick [0, 1] rfl ?_
      exact hj_42 M9 h
    refine jr_aload_n hC (D_X9_cutWord.g 12 rfl) 0 rfl ?_
    refine jr_dup hC (D_X9_cutWord.g 13 rfl) rfl ?_
    refine jr_getI hC fl_X9_31 rfl (D_X9_cutWord.g 14 rfl) h (fun v10 h => ?_)
    refine jr_iconst hC (D_X9_cutWord.g 15 rfl) ?_
    refine jr_iadd hC (D_X9_cutWord.g 16 rfl) ?_
    refine jr_putI hC fl_X9_31 rfl (jnfin rfl) (D_X9_cutWord.g 17 rfl) h (fun M11 _ h => ?_)
    refine jr_iinc hC (D_X9_cutWord.g 18 rfl) 2 rfl (by decide) rfl ?_
    refine jr_goto hC (D_X9_cutWord.g 19 rfl) 2 rfl ?_
    refine jr_pick [1, 2, 0] rfl ?_
    exact hrec_2 (y2_2 + 1) M11 h
  refine jr_pick [0, 1] rfl ?_
  exact hj_42 M_2 h
def f_X9_isDigit (x0 : Int) (M : jMem) : Option (Int × jMem) :=
jjq (jm_z 0 M) fun j_16 =>
if jd_wr x0 < jd_wr 48 then (j_16 )
else (if jd_wr x0 ≤ jd_wr 57 then (jm_z 1 M)
else (j_16 ))
theorem D_X9_isDigit : jDs cX9_isDigit [(0, .iload_n 0, 1, 1), (1, .bipush 48, 2, 3), (3, .if_icmp .lt 13, 3, 6), (6, .iload_n 0, 1, 7), (7, .bipush 57, 2, 9), (9, .if_icmp .gt 7, 3, 12), (12, .iconst 1, 1, 13), (13, .goto 4, 3, 16), (16, .iconst 0, 1, 17), (17, .ireturn, 1, 18)] := by unfold jDs; decide +kernel
set_option maxRecDepth 100000 in
set_option maxHeartbeats 4000000 in
theorem c_X9_isDigit {E : jE} {x0 : Int} {M : jMem} {r : Int} {M' : jMem} (h : f_X9_isDigit x0 M = some (r, M')) : jMet E yX9_isDigit cX9_isDigit 1 (some .boolean) 2 0 0 [q_i x0] M (some (q_i r)) M' := by
  unfold f_X9_isDigit at h
  refine jMet.of RX9 rfl (by decide +kernel) (Nat.le_of_ble_eq_true rfl) [(0, q_i x0)] rfl (fun X hC hE hr hn => ?_)
  refine jr_iload_n hC (D_X9_isDigit.g 0 rfl) 0 rfl ?_
  refine jr_bipush hC (D_X9_isDigit.g 1 rfl) bp_48 ?_
  refine jr_join h (fun j => j = some (r, M') → JW E X 1 0 0 M 16 [] []) ?_ ?_
  · intro  h
    refine jr_iconst hC (D_X9_isDigit.g 8 rfl) ?_
    exact jr_zret hC (D_X9_isDigit.g 9 rfl) hr hE h
  intro j_16 hj_16 h
  refine jr_icmp_lt hC (D_X9_isDigit.g 2 rfl) 16 rfl h (fun h => ?_) (fun h => ?_)
  · refine jr_pick [] rfl ?_
    exact hj_16  h
  refine jr_iload_n hC (D_X9_isDigit.g 3 rfl) 0 rfl ?_
  refine jr_bipush hC (D_X9_isDigit.g 4 rfl) bp_57 ?_
  refine jr_icmp_gt hC (D_X9_isDigit.g 5 rfl) 16 rfl h (fun h => ?_) (fun h => ?_)
  · refine jr_iconst hC (D_X9_isDigit.g 6 rfl) ?_
    refine jr_goto hC (D_X9_isDigit.g 7 rfl) 17 rfl ?_
    exact jr_zret hC (D_X9_isDigit.g 9 rfl) hr hE h
  refine jr_pick [] rfl ?_
  exact hj_16  h
def f_X9_cutNumber (th : Nat) (x1 : Int) (x2 : Int) (M : jMem) : Option (Int × jMem) :=
jlp3 (fun rec_5 (y3_5 : Int) (y4_5 : Int) (M_5 : jMem) =>
jjq (fun (M_66 : jMem) =>
(jm_gR 9 3 M_66 th).bind fun r1 =>
(jm_st 20 M_66 r1 x1 y3_5).bind fun M2 =>
(jm_gI 9 4 M2 th).bind fun v3 =>
if jd_wr (v3 - x2) ≤ jd_wr 4 then (some (3, M2))
else (some (1, M2))) fun j_66 =>
if jd_wr y4_5 < jd_wr 2000 then ((jm_gR 9 0 M_5 th).bind fun r4 =>
(jm_gI 9 4 M_5 th).bind fun v5 =>
jcall 7 M_5 r4 (f_X7_at r4 v5 M_5) fun v6 M7 =>
jbd (f_X9_isDigit v6 M7) fun v8 M9 =>
if jd_wr v8 = 0 then (j_66 M9)
else ((jm_gR 9 0 M9 th).bind fun r10 =>
(jm_gI 9 4 M9 th).bind fun v11 =>
jcall 7 M9 r10 (f_X7_at r10 v11 M9) fun v12 M13 =>
(jm_gI 9 4 M13 th).bind fun v14 =>
(jm_pI 9 4 M13 th (v14 + 1)).bind fun M15 =>
rec_5 (((y3_5 * 10) + v12) - 48) (y4_5 + 1) M15))
else (j_66 M_5)) jfuel 0 0 M
theorem D_X9_cutNumber : jDs cX9_cutNumber [(0, .iconst 0, 1, 1), (1, .istore_n 3, 1, 2), (2, .iconst 0, 1, 3), (3, .istore 4, 2, 5), (5, .iload 4, 2, 7), (7, .sipush 2000, 3, 10), (10, .if_icmp .ge 56, 3, 13), (13, .aload_n 0, 1, 14), (14, .getfield 9, 3, 17), (17, .aload_n 0, 1, 18), (18, .getfield 31, 3, 21), (21, .invokevirtual 41, 3, 24), (24, .invokestatic 54, 3, 27), (27, .ifCond .eq 39, 3, 30), (30, .iload_n 3, 1, 31), (31, .bipush 10, 2, 33), (33, .imul, 1, 34), (34, .aload_n 0, 1, 35), (35, .getfield 9, 3, 38), (38, .aload_n 0, 1, 39), (39, .getfield 31, 3, 42), (42, .invokevirtual 41, 3, 45), (45, .iadd, 1, 46), (46, .bipush 48, 2, 48), (48, .isub, 1, 49), (49, .istore_n 3, 1, 50), (50, .aload_n 0, 1, 51), (51, .dup, 1, 52), (52, .getfield 31, 3, 55), (55, .iconst 1, 1, 56), (56, .iadd, 1, 57), (57, .putfield 31, 3, 60), (60, .iinc 4 1, 3, 63), (63, .goto (-58), 3, 66), (66, .aload_n 0, 1, 67), (67, .getfield 22, 3, 70), (70, .iload_n 1, 1, 71), (71, .iload_n 3, 1, 72), (72, .iastore, 1, 73), (73, .aload_n 0, 1, 74), (74, .getfield 31, 3, 77), (77, .iload_n 2, 1, 78), (78, .isub, 1, 79), (79, .iconst 4, 1, 80), (80, .if_icmp .le 7, 3, 83), (83, .iconst 1, 1, 84), (84, .goto 4, 3, 87), (87, .iconst 3, 1, 88), (88, .ireturn, 1, 89)] := by unfold jDs; decide +kernel
set_option maxRecDepth 100000 in
set_option maxHeartbeats 4000000 in
theorem c_X9_cutNumber {E : jE} {th : Nat} {x1 : Int} {x2 : Int} {M : jMem} {r : Int} {M' : jMem} (h : f_X9_cutNumber th x1 x2 M = some (r, M')) : jMet E yX9_cutNumber cX9_cutNumber 5 (some .int) 3 0 0 [q_r E th, q_i x1, q_i x2] M (some (q_i r)) M' := by
  unfold f_X9_cutNumber at h
  refine jMet.of RX9 rfl (by decide +kernel) (Nat.le_of_ble_eq_true rfl) [(0, q_r E th), (1, q_i x1), (2, q_i x2)] rfl (fun X hC hE hr hn => ?_)
  refine jr_iconst hC (D_X9_cutNumber.g 0 rfl) ?_
  refine jr_istore_n hC (D_X9_cutNumber.g 1 rfl) (by decide) rfl ?_
  refine jr_iconst hC (D_X9_cutNumber.g 2 rfl) ?_
  refine jr_istore hC (D_X9_cutNumber.g 3 rfl) (by decide) rfl ?_
  refine jr_pick [2, 3, 4, 1, 0] rfl ?_
  refine jr_lp3 (fun (y3_5 : Int) (y4_5 : Int) (M_5 : jMem) => JW E X 5 0 0 M_5 5 [(0, q_r E th), (1, q_i x1), (2, q_i x2), (3, q_i y3_5), (4, q_i y4_5)] []) ?_ jfuel 0 0 M h
  intro rec_5 hrec_5 y3_5 y4_5 M_5 h
  refine jr_iload hC (D_X9_cutNumber.g 4 rfl) 4 rfl ?_
  refine jr_sipush hC (D_X9_cutNumber.g 5 rfl) sp_2000 ?_
  refine jr_join h (fun j => ∀ (M_66 : jMem), j M_66 = some (r, M') → JW E X 5 0 0 M_66 66 [(0, q_r E th), (1, q_i x1), (2, q_i x2), (3, q_i y3_5)] []) ?_ ?_
  · intro M_66 h
    refine jr_aload_n hC (D_X9_cutNumber.g 34 rfl) 0 rfl ?_
    refine jr_getR hC fl_X9_22 rfl (D_X9_cutNumber.g 35 rfl) h (fun r1 h => ?_)
    refine jr_iload_n hC (D_X9_cutNumber.g 36 rfl) 1 rfl ?_
    refine jr_iload_n hC (D_X9_cutNumber.g 37 rfl) 3 rfl ?_
    refine jr_iast hC (D_X9_cutNumber.g 38 rfl) h (fun M2 _ h => ?_)
    refine jr_aload_n hC (D_X9_cutNumber.g 39 rfl) 0 rfl ?_
    refine jr_getI hC fl_X9_31 rfl (D_X9_cutNumber.g 40 rfl) h (fun v3 h => ?_)
    refine jr_iload_n hC (D_X9_cutNumber.g 41 rfl) 2 rfl ?_
    refine jr_isub hC (D_X9_cutNumber.g 42 rfl) ?_
    refine jr_iconst hC (D_X9_cutNumber.g 43 rfl) ?_
    refine jr_icmp_le hC (D_X9_cutNumber.g 44 rfl) 87 rfl h (fun h => ?_) (fun h => ?_)
    · refine jr_iconst hC (D_X9_cutNumber.g 47 rfl) ?_
      exact jr_iret hC (D_X9_cutNumber.g 48 rfl) hr hE h
    refine jr_iconst hC (D_X9_cutNumber.g 45 rfl) ?_
    refine jr_goto hC (D_X9_cutNumber.g 46 rfl) 88 rfl ?_
    exact jr_iret hC (D_X9_cutNumber.g 48 rfl) hr hE h
  intro j_66 hj_66 h
  refine jr_icmp_ge hC (D_X9_cutNumber.g 6 rfl) 66 rfl h (fun h => ?_) (fun h => ?_)
  · refine jr_aload_n hC (D_X9_cutNumber.g 7 rfl) 0 rfl ?_
    refine jr_getR hC fl_X9_9 rfl (D_X9_cutNumber.g 8 rfl) h (fun r4 h => ?_)
    refine jr_aload_n hC (D_X9_cutNumber.g 9 rfl) 0 rfl ?_
    refine jr_getI hC fl_X9_31 rfl (D_X9_cutNumber.g 10 rfl) h (fun v5 h => ?_)
    refine jr_cVi hC cl_X9_41 ⟨rfl, by decide⟩ (D_X9_cutNumber.g 11 rfl) [q_i v5] h (fun r M' e => c_X7_at e) rfl rfl ⟨by decide, by decide⟩ (Nat.le_of_ble_eq_true rfl) ⟨Nat.le_of_ble_eq_true rfl, Nat.le_of_ble_eq_true rfl⟩ (fun v6 M7 h => ?_)
    refine jr_cSi hC cl_X9_54 (D_X9_cutNumber.g 12 rfl) [q_i v6] h (fun r M' e => c_X9_isDigit e) rfl rfl ⟨by decide, by decide⟩ (Nat.le_of_ble_eq_true rfl) ⟨Nat.le_of_ble_eq_true rfl, Nat.le_of_ble_eq_true rfl⟩ (fun v8 M9 h => ?_)
    refine jr_if_eq hC (D_X9_cutNumber.g 13 rfl) 66 rfl h (fun h => ?_) (fun h => ?_)
    · refine jr_pick [0, 1, 2, 3] rfl ?_
      exact hj_66 M9 h
    refine jr_iload_n hC (D_X9_cutNumber.g 14 rfl) 3 rfl ?_
    refine jr_bipush hC (D_X9_cutNumber.g 15 rfl) bp_10 ?_
    refine jr_imul hC (D_X9_cutNumber.g 16 rfl) ?_
    refine jr_aload_n hC (D_X9_cutNumber.g 17 rfl) 0 rfl ?_
    refine jr_getR hC fl_X9_9 rfl (D_X9_cutNumber.g 18 rfl) h (fun r10 h => ?_)
    refine jr_aload_n hC (D_X9_cutNumber.g 19 rfl) 0 rfl ?_
    refine jr_getI hC fl_X9_31 rfl (D_X9_cutNumber.g 20 rfl) h (fun v11 h => ?_)
    refine jr_cVi hC cl_X9_41 ⟨rfl, by decide⟩ (D_X9_cutNumber.g 21 rfl) [q_i v11] h (fun r M' e => c_X7_at e) rfl rfl ⟨by decide, by decide⟩ (Nat.le_of_ble_eq_true rfl) ⟨Nat.le_of_ble_eq_true rfl, Nat.le_of_ble_eq_true rfl⟩ (fun v12 M13 h => ?_)
    refine jr_iadd hC (D_X9_cutNumber.g 22 rfl) ?_
    refine jr_bipush hC (D_X9_cutNumber.g 23 rfl) bp_48 ?_
    refine jr_isub hC (D_X9_cutNumber.g 24 rfl) ?_
    refine jr_istore_n hC (D_X9_cutNumber.g 25 rfl) (by decide) rfl ?_
    refine jr_aload_n hC (D_X9_cutNumber.g 26 rfl) 1 rfl ?_
    refine jr_dup hC (D_X9_cutNumber.g 27 rfl) rfl ?_
    refine jr_getI hC fl_X9_31 rfl (D_X9_cutNumber.g 28 rfl) h (fun v14 h => ?_)
    refine jr_iconst hC (D_X9_cutNumber.g 29 rfl) ?_
    refine jr_iadd hC (D_X9_cutNumber.g 30 rfl) ?_
    refine jr_putI hC fl_X9_31 rfl (jnfin rfl) (D_X9_cutNumber.g 31 rfl) h (fun M15 _ h => ?_)
    refine jr_iinc hC (D_X9_cutNumber.g 32 rfl) 4 rfl (by decide) rfl ?_
    refine jr_goto hC (D_X9_cutNumber.g 33 rfl) 5 rfl ?_
    refine jr_pick [2, 3, 4, 1, 0] rfl ?_
    exact hrec_5 (((y3_5 * 10) + v12) - 48) (y4_5 + 1) M15 h
  refine jr_pick [0, 1, 2, 3] rfl ?_
  exact hj_66 M_5 h
def f_X9_cutOne (th : Nat) (x1 : Int) (M : jMem) : Option (Int × jMem) :=
(jm_gR 9 0 M th).bind fun r1 =>
(jm_gI 9 4 M th).bind fun v2 =>
jcall 7 M r1 (f_X7_at r1 v2 M) fun v3 M4 =>
if jd_wr v3 = jd_wr (-1) then (some (0, M4))
else (jbd (f_X9_isLetter v3 M4) fun v5 M6 =>
if jd_wr v5 = 0 then (jbd (f_X9_isDigit v3 M6) fun v7 M8 =>
if jd_wr v7 = 0 then ((jm_gI 9 4 M8 th).bind fun v9 =>
(jm_pI 9 4 M8 th (v9 + 1)).bind fun M10 =>
if jd_wr (jm_six 1 (jd_c v3)) < 0 then (some (1, M10))
else (some ((10 + (jm_six 1 (jd_c v3))), M10)))
else ((jm_gI 9 4 M8 th).bind fun v12 =>
jcall 9 M8 th (f_X9_cutNumber th x1 v12 M8) fun v13 M14 =>
some (v13, M14)))
else ((jm_gI 9 4 M6 th).bind fun v15 =>
jcall 9 M6 th (f_X9_cutWord th v15 M6) fun v16 M17 =>
some (v16, M17)))
theorem D_X9_cutOne : jDs cX9_cutOne [(0, .aload_n 0, 1, 1), (1, .getfield 9, 3, 4), (4, .aload_n 0, 1, 5), (5, .getfield 31, 3, 8), (8, .invokevirtual 41, 3, 11), (11, .istore_n 2, 1, 12), (12, .iload_n 2, 1, 13), (13, .iconst (-1), 1, 14), (14, .if_icmp .ne 5, 3, 17), (17, .iconst 0, 1, 18), (18, .ireturn, 1, 19), (19, .iload_n 2, 1, 20), (20, .invokestatic 48, 3, 23), (23, .ifCond .eq 12, 3, 26), (26, .aload_n 0, 1, 27), (27, .aload_n 0, 1, 28), (28, .getfield 31, 3, 31), (31, .invokevirtual 51, 3, 34), (34, .ireturn, 1, 35), (35, .iload_n 2, 1, 36), (36, .invokestatic 54, 3, 39), (39, .ifCond .eq 13, 3, 42), (42, .aload_n 0, 1, 43), (43, .iload_n 1, 1, 44), (44, .aload_n 0, 1, 45), (45, .getfield 31, 3, 48), (48, .invokevirtual 57, 3, 51), (51, .ireturn, 1, 52), (52, .aload_n 0, 1, 53), (53, .dup, 1, 54), (54, .getfield 31, 3, 57), (57, .iconst 1, 1, 58), (58, .iadd, 1, 59), (59, .putfield 31, 3, 62), (62, .ldc 61, 2, 64), (64, .iload_n 2, 1, 65), (65, .i2c, 1, 66), (66, .invokevirtual 63, 3, 69), (69, .istore_n 3, 1, 70), (70, .iload_n 3, 1, 71), (71, .ifCond .ge 7, 3, 74), (74, .iconst 1, 1, 75), (75, .goto 7, 3, 78), (78, .bipush 10, 2, 80), (80, .iload_n 3, 1, 81), (81, .iadd, 1, 82), (82, .ireturn, 1, 83)] := by unfold jDs; decide +kernel
set_option maxRecDepth 100000 in
set_option maxHeartbeats 4000000 in
theorem c_X9_cutOne {E : jE} {th : Nat} {x1 : Int} {M : jMem} {r : Int} {M' : jMem} (h : f_X9_cutOne th x1 M = some (r, M')) : jMet E yX9_cutOne cX9_cutOne 4 (some .int) 10 0 0 [q_r E th, q_i x1] M (some (q_i r)) M' := by
  unfold f_X9_cutOne at h
  refine jMet.of RX9 rfl (by decide +kernel) (Nat.le_of_ble_eq_true rfl) [(0, q_r E th), (1, q_i x1)] rfl (fun X hC hE hr hn => ?_)
  refine jr_aload_n hC (D_X9_cutOne.g 0 rfl) 0 rfl ?_
  refine jr_getR hC fl_X9_9 rfl (D_X9_cutOne.g 1 rfl) h (fun r1 h => ?_)
  refine jr_aload_n hC (D_X9_cutOne.g 2 rfl) 0 rfl ?_
  refine jr_getI hC fl_X9_31 rfl (D_X9_cutOne.g 3 rfl) h (fun v2 h => ?_)
  refine jr_cVi hC cl_X9_41 ⟨rfl, by decide⟩ (D_X9_cutOne.g 4 rfl) [q_i v2] h (fun r M' e => c_X7_at e) rfl rfl ⟨by decide, by decide⟩ (Nat.le_of_ble_eq_true rfl) ⟨Nat.le_of_ble_eq_true rfl, Nat.le_of_ble_eq_true rfl⟩ (fun v3 M4 h => ?_)
  refine jr_istore_n hC (D_X9_cutOne.g 5 rfl) (by decide) rfl ?_
  refine jr_iload_n hC (D_X9_cutOne.g 6 rfl) 0 rfl ?_
  refine jr_iconst hC (D_X9_cutOne.g 7 rfl) ?_
  refine jr_icmp_ne hC (D_X9_cutOne.g 8 rfl) 19 rfl h (fun h => ?_) (fun h => ?_)
  · refine jr_iconst hC (D_X9_cutOne.g 9 rfl) ?_
    exact jr_iret hC (D_X9_cutOne.g 10 rfl) hr hE h
  refine jr_iload_n hC (D_X9_cutOne.g 11 rfl) 0 rfl ?_
  refine jr_cSi hC cl_X9_48 (D_X9_cutOne.g 12 rfl) [q_i v3] h (fun r M' e => c_X9_isLetter e) rfl rfl ⟨by decide, by decide⟩ (Nat.le_of_ble_eq_true rfl) ⟨Nat.le_of_ble_eq_true rfl, Nat.le_of_ble_eq_true rfl⟩ (fun v5 M6 h => ?_)
  refine jr_if_eq hC (D_X9_cutOne.g 13 rfl) 35 rfl h (fun h => ?_) (fun h => ?_)
  · refine jr_iload_n hC (D_X9_cutOne.g 19 rfl) 0 rfl ?_
    refine jr_cSi hC cl_X9_54 (D_X9_cutOne.g 20 rfl) [q_i v3] h (fun r M' e => c_X9_isDigit e) rfl rfl ⟨by decide, by decide⟩ (Nat.le_of_ble_eq_true rfl) ⟨Nat.le_of_ble_eq_true rfl, Nat.le_of_ble_eq_true rfl⟩ (fun v7 M8 h => ?_)
    refine jr_if_eq hC (D_X9_cutOne.g 21 rfl) 52 rfl h (fun h => ?_) (fun h => ?_)
    · refine jr_aload_n hC (D_X9_cutOne.g 28 rfl) 1 rfl ?_
      refine jr_dup hC (D_X9_cutOne.g 29 rfl) rfl ?_
      refine jr_getI hC fl_X9_31 rfl (D_X9_cutOne.g 30 rfl) h (fun v9 h => ?_)
      refine jr_iconst hC (D_X9_cutOne.g 31 rfl) ?_
      refine jr_iadd hC (D_X9_cutOne.g 32 rfl) ?_
      refine jr_putI hC fl_X9_31 rfl (jnfin rfl) (D_X9_cutOne.g 33 rfl) h (fun M10 _ h => ?_)
      refine jr_ldcS1 hC rfl (D_X9_cutOne.g 34 rfl) ?_
      refine jr_iload_n hC (D_X9_cutOne.g 35 rfl) 0 rfl ?_
      refine jr_i2c hC (D_X9_cutOne.g 36 rfl) ?_
      refine jr_indexOf hC 1 rfl (by decide) (by decide) (Nat.le_of_ble_eq_true rfl) (D_X9_cutOne.g 37 rfl) ⟨Nat.le_refl _, Nat.le_refl _⟩ ?_
      refine jr_istore_n hC (D_X9_cutOne.g 38 rfl) (by decide) rfl ?_
      refine jr_iload_n hC (D_X9_cutOne.g 39 rfl) 0 rfl ?_
      refine jr_if_ge hC (D_X9_cutOne.g 40 rfl) 78 rfl h (fun h => ?_) (fun h => ?_)
      · refine jr_iconst hC (D_X9_cutOne.g 41 rfl) ?_
        refine jr_goto hC (D_X9_cutOne.g 42 rfl) 82 rfl ?_
        exact jr_iret hC (D_X9_cutOne.g 46 rfl) hr hE h
      refine jr_bipush hC (D_X9_cutOne.g 43 rfl) bp_10 ?_
      refine jr_iload_n hC (D_X9_cutOne.g 44 rfl) 0 rfl ?_
      refine jr_iadd hC (D_X9_cutOne.g 45 rfl) ?_
      exact jr_iret hC (D_X9_cutOne.g 46 rfl) hr hE h
    refine jr_aload_n hC (D_X9_cutOne.g 22 rfl) 1 rfl ?_
    refine jr_iload_n hC (D_X9_cutOne.g 23 rfl) 2 rfl ?_
    refine jr_aload_n hC (D_X9_cutOne.g 24 rfl) 1 rfl ?_
    refine jr_getI hC fl_X9_31 rfl (D_X9_cutOne.g 25 rfl) h (fun v12 h => ?_)
    refine jr_cVi hC cl_X9_57 ⟨rfl, by decide⟩ (D_X9_cutOne.g 26 rfl) [q_i x1, q_i v12] h (fun r M' e => c_X9_cutNumber e) rfl rfl ⟨by decide, by decide⟩ (Nat.le_of_ble_eq_true rfl) ⟨Nat.le_of_ble_eq_true rfl, Nat.le_of_ble_eq_true rfl⟩ (fun v13 M14 h => ?_)
    exact jr_iret hC (D_X9_cutOne.g 27 rfl) hr hE h
  refine jr_aload_n hC (D_X9_cutOne.g 14 rfl) 1 rfl ?_
  refine jr_aload_n hC (D_X9_cutOne.g 15 rfl) 1 rfl ?_
  refine jr_getI hC fl_X9_31 rfl (D_X9_cutOne.g 16 rfl) h (fun v15 h => ?_)
  refine jr_cVi hC cl_X9_51 ⟨rfl, by decide⟩ (D_X9_cutOne.g 17 rfl) [q_i v15] h (fun r M' e => c_X9_cutWord e) rfl rfl ⟨by decide, by decide⟩ (Nat.le_of_ble_eq_true rfl) ⟨Nat.le_of_ble_eq_true rfl, Nat.le_of_ble_eq_true rfl⟩ (fun v16 M17 h => ?_)
  exact jr_iret hC (D_X9_cutOne.g 18 rfl) hr hE h
def f_X9_cutAll (th : Nat) (M : jMem) : Option (Int × jMem) :=
(jm_pI 9 4 M th 0).bind fun M1 =>
jlp3 (fun rec_9 (y1_9 : Int) (y2_9 : Int) (M_9 : jMem) =>
if jd_wr y2_9 < jd_wr 401 then (if jd_wr y1_9 = 0 then (jcall 9 M_9 th (f_X9_skipBlanks th M_9) fun _ M3 =>
(jm_gR 9 2 M3 th).bind fun r4 =>
(jm_gI 9 4 M3 th).bind fun v5 =>
(jm_st 20 M3 r4 y2_9 v5).bind fun M6 =>
(jm_gR 9 1 M6 th).bind fun r7 =>
jcall 9 M6 th (f_X9_cutOne th y2_9 M6) fun v8 M9 =>
(jm_st 20 M9 r7 y2_9 v8).bind fun M10 =>
(jm_gR 9 1 M10 th).bind fun r11 =>
(jm_ld 20 M10 r11 y2_9).bind fun v12 =>
jjq (fun (z0_59 : Int) =>
rec_9 z0_59 (y2_9 + 1) M10) fun j_59 =>
if jd_wr v12 = 0 then (j_59 1)
else (j_59 0))
else (some (0, M_9)))
else (some (0, M_9))) jfuel 0 0 M1
theorem D_X9_cutAll : jDs cX9_cutAll [(0, .aload_n 0, 1, 1), (1, .iconst 0, 1, 2), (2, .putfield 31, 3, 5), (5, .iconst 0, 1, 6), (6, .istore_n 1, 1, 7), (7, .iconst 0, 1, 8), (8, .istore_n 2, 1, 9), (9, .iload_n 2, 1, 10), (10, .sipush 401, 3, 13), (13, .if_icmp .ge 53, 3, 16), (16, .iload_n 1, 1, 17), (17, .ifCond .ne 49, 3, 20), (20, .aload_n 0, 1, 21), (21, .invokevirtual 34, 3, 24), (24, .aload_n 0, 1, 25), (25, .getfield 19, 3, 28), (28, .iload_n 2, 1, 29), (29, .aload_n 0, 1, 30), (30, .getfield 31, 3, 33), (33, .iastore, 1, 34), (34, .aload_n 0, 1, 35), (35, .getfield 15, 3, 38), (38, .iload_n 2, 1, 39), (39, .aload_n 0, 1, 40), (40, .iload_n 2, 1, 41), (41, .invokevirtual 37, 3, 44), (44, .iastore, 1, 45), (45, .aload_n 0, 1, 46), (46, .getfield 15, 3, 49), (49, .iload_n 2, 1, 50), (50, .iaload, 1, 51), (51, .ifCond .ne 7, 3, 54), (54, .iconst 1, 1, 55), (55, .goto 4, 3, 58), (58, .iconst 0, 1, 59), (59, .istore_n 1, 1, 60), (60, .iinc 2 1, 3, 63), (63, .goto (-54), 3, 66), (66, .return_, 1, 67)] := by unfold jDs; decide +kernel
set_option maxRecDepth 100000 in
set_option maxHeartbeats 4000000 in
theorem c_X9_cutAll {E : jE} {th : Nat} {M : jMem} {r : Int} {M' : jMem} (h : f_X9_cutAll th M = some (r, M')) : jMet E yX9_cutAll cX9_cutAll 3 (none) 11 0 0 [q_r E th] M (none) M' := by
  unfold f_X9_cutAll at h
  refine jMet.of RX9 rfl (by decide +kernel) (Nat.le_of_ble_eq_true rfl) [(0, q_r E th)] rfl (fun X hC hE hr hn => ?_)
  refine jr_aload_n hC (D_X9_cutAll.g 0 rfl) 0 rfl ?_
  refine jr_iconst hC (D_X9_cutAll.g 1 rfl) ?_
  refine jr_putI hC fl_X9_31 rfl (jnfin rfl) (D_X9_cutAll.g 2 rfl) h (fun M1 _ h => ?_)
  refine jr_iconst hC (D_X9_cutAll.g 3 rfl) ?_
  refine jr_istore_n hC (D_X9_cutAll.g 4 rfl) (by decide) rfl ?_
  refine jr_iconst hC (D_X9_cutAll.g 5 rfl) ?_
  refine jr_istore_n hC (D_X9_cutAll.g 6 rfl) (by decide) rfl ?_
  refine jr_pick [2, 1, 0] rfl ?_
  refine jr_lp3 (fun (y1_9 : Int) (y2_9 : Int) (M_9 : jMem) => JW E X 3 0 0 M_9 9 [(0, q_r E th), (1, q_i y1_9), (2, q_i y2_9)] []) ?_ jfuel 0 0 M1 h
  intro rec_9 hrec_9 y1_9 y2_9 M_9 h
  refine jr_iload_n hC (D_X9_cutAll.g 7 rfl) 2 rfl ?_
  refine jr_sipush hC (D_X9_cutAll.g 8 rfl) sp_401 ?_
  refine jr_icmp_ge hC (D_X9_cutAll.g 9 rfl) 66 rfl h (fun h => ?_) (fun h => ?_)
  · refine jr_iload_n hC (D_X9_cutAll.g 10 rfl) 1 rfl ?_
    refine jr_if_ne hC (D_X9_cutAll.g 11 rfl) 66 rfl h (fun h => ?_) (fun h => ?_)
    · refine jr_aload_n hC (D_X9_cutAll.g 12 rfl) 0 rfl ?_
      refine jr_cVv hC cl_X9_34 ⟨rfl, by decide⟩ (D_X9_cutAll.g 13 rfl) [] h (fun r M' e => c_X9_skipBlanks e) rfl rfl ⟨by decide, by decide⟩ (Nat.le_of_ble_eq_true rfl) ⟨Nat.le_of_ble_eq_true rfl, Nat.le_of_ble_eq_true rfl⟩ (fun _ M3 h => ?_)
      refine jr_aload_n hC (D_X9_cutAll.g 14 rfl) 0 rfl ?_
      refine jr_getR hC fl_X9_19 rfl (D_X9_cutAll.g 15 rfl) h (fun r4 h => ?_)
      refine jr_iload_n hC (D_X9_cutAll.g 16 rfl) 2 rfl ?_
      refine jr_aload_n hC (D_X9_cutAll.g 17 rfl) 0 rfl ?_
      refine jr_getI hC fl_X9_31 rfl (D_X9_cutAll.g 18 rfl) h (fun v5 h => ?_)
      refine jr_iast hC (D_X9_cutAll.g 19 rfl) h (fun M6 _ h => ?_)
      refine jr_aload_n hC (D_X9_cutAll.g 20 rfl) 0 rfl ?_
      refine jr_getR hC fl_X9_15 rfl (D_X9_cutAll.g 21 rfl) h (fun r7 h => ?_)
      refine jr_iload_n hC (D_X9_cutAll.g 22 rfl) 2 rfl ?_
      refine jr_aload_n hC (D_X9_cutAll.g 23 rfl) 0 rfl ?_
      refine jr_iload_n hC (D_X9_cutAll.g 24 rfl) 2 rfl ?_
      refine jr_cVi hC cl_X9_37 ⟨rfl, by decide⟩ (D_X9_cutAll.g 25 rfl) [q_i y2_9] h (fun r M' e => c_X9_cutOne e) rfl rfl ⟨by decide, by decide⟩ (Nat.le_of_ble_eq_true rfl) ⟨Nat.le_of_ble_eq_true rfl, Nat.le_of_ble_eq_true rfl⟩ (fun v8 M9 h => ?_)
      refine jr_iast hC (D_X9_cutAll.g 26 rfl) h (fun M10 _ h => ?_)
      refine jr_aload_n hC (D_X9_cutAll.g 27 rfl) 0 rfl ?_
      refine jr_getR hC fl_X9_15 rfl (D_X9_cutAll.g 28 rfl) h (fun r11 h => ?_)
      refine jr_iload_n hC (D_X9_cutAll.g 29 rfl) 2 rfl ?_
      refine jr_iald hC (D_X9_cutAll.g 30 rfl) h (fun v12 h => ?_)
      refine jr_join h (fun j => ∀ (z0_59 : Int), j z0_59 = some (r, M') → JW E X 3 0 0 M10 59 [(0, q_r E th), (2, q_i y2_9)] [q_i z0_59]) ?_ ?_
      · intro z0_59 h
        refine jr_istore_n hC (D_X9_cutAll.g 35 rfl) (by decide) rfl ?_
        refine jr_iinc hC (D_X9_cutAll.g 36 rfl) 2 rfl (by decide) rfl ?_
        refine jr_goto hC (D_X9_cutAll.g 37 rfl) 9 rfl ?_
        refine jr_pick [2, 1, 0] rfl ?_
        exact hrec_9 z0_59 (y2_9 + 1) M10 h
      intro j_59 hj_59 h
      refine jr_if_ne hC (D_X9_cutAll.g 31 rfl) 58 rfl h (fun h => ?_) (fun h => ?_)
      · refine jr_iconst hC (D_X9_cutAll.g 32 rfl) ?_
        refine jr_goto hC (D_X9_cutAll.g 33 rfl) 59 rfl ?_
        refine jr_pick [0, 2] rfl ?_
        exact hj_59 1 h
      refine jr_iconst hC (D_X9_cutAll.g 34 rfl) ?_
      refine jr_pick [0, 2] rfl ?_
      exact hj_59 0 h
    exact jr_vret hC (D_X9_cutAll.g 38 rfl) hr hE h
  exact jr_vret hC (D_X9_cutAll.g 38 rfl) hr hE h
