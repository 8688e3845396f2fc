/-! ===== 23.X5a: by program ===== -/
def f_X5_reachOn (th : Nat) (a1 : Nat) (x2 : Int) (x3 : Int) (M : jMem) : Option (Int × jMem) :=
jcall 4 M a1 (f_X4_roomBelow a1 x2 x3 M) fun v1 M2 =>
jlp3 (fun rec_14 (y5_14 : Int) (y6_14 : Int) (M_14 : jMem) =>
if jd_wr y5_14 = jd_wr (-1) then (some (0, M_14))
else (if jd_wr y6_14 < jd_wr 64 then ((jm_gR 4 4 M_14 a1).bind fun r3 =>
(jm_ldR 24 M_14 r3 (x2 + 1)).bind fun r4 =>
(jm_ld 20 M_14 r4 y5_14).bind fun v5 =>
jjq (fun (M_74 : jMem) =>
jbd (f_X4_partAfter y5_14 v1 M_74) fun v6 M7 =>
rec_14 v6 (y6_14 + 1) M7) fun j_74 =>
if jd_wr v5 ≤ 0 then (j_74 M_14)
else (jcall 4 M_14 a1 (f_X4_fills a1 x2 x3 y5_14 M_14) fun v8 M9 =>
if jd_wr v8 = 0 then (j_74 M9)
else ((jm_gR 5 0 M9 th).bind fun r10 =>
(jm_ldR 24 M9 r10 (x2 + 1)).bind fun r11 =>
(jm_ld 20 M9 r11 y5_14).bind fun v12 =>
(jm_gR 5 0 M9 th).bind fun r13 =>
(jm_ldR 24 M9 r13 x2).bind fun r14 =>
(jm_ld 20 M9 r14 x3).bind fun v15 =>
(jm_st 20 M9 r11 y5_14 (v12 + v15)).bind fun M16 =>
j_74 M16)))
else (some (0, M_14)))) jfuel 0 0 M2
theorem D_X5_reachOn : jDs cX5_reachOn [(0, .aload_n 1, 1, 1), (1, .iload_n 2, 1, 2), (2, .iload_n 3, 1, 3), (3, .invokevirtual 62, 3, 6), (6, .istore 4, 2, 8), (8, .iconst 0, 1, 9), (9, .istore 5, 2, 11), (11, .iconst 0, 1, 12), (12, .istore 6, 2, 14), (14, .iload 5, 2, 16), (16, .iconst (-1), 1, 17), (17, .if_icmp .eq 72, 3, 20), (20, .iload 6, 2, 22), (22, .bipush 64, 2, 24), (24, .if_icmp .ge 65, 3, 27), (27, .aload_n 1, 1, 28), (28, .getfield 66, 3, 31), (31, .iload_n 2, 1, 32), (32, .iconst 1, 1, 33), (33, .iadd, 1, 34), (34, .aaload, 1, 35), (35, .iload 5, 2, 37), (37, .iaload, 1, 38), (38, .ifCond .le 36, 3, 41), (41, .aload_n 1, 1, 42), (42, .iload_n 2, 1, 43), (43, .iload_n 3, 1, 44), (44, .iload 5, 2, 46), (46, .invokevirtual 69, 3, 49), (49, .ifCond .eq 25, 3, 52), (52, .aload_n 0, 1, 53), (53, .getfield 11, 3, 56), (56, .iload_n 2, 1, 57), (57, .iconst 1, 1, 58), (58, .iadd, 1, 59), (59, .aaload, 1, 60), (60, .iload 5, 2, 62), (62, .dup2, 1, 63), (63, .iaload, 1, 64), (64, .aload_n 0, 1, 65), (65, .getfield 11, 3, 68), (68, .iload_n 2, 1, 69), (69, .aaload, 1, 70), (70, .iload_n 3, 1, 71), (71, .iaload, 1, 72), (72, .iadd, 1, 73), (73, .iastore, 1, 74), (74, .iload 5, 2, 76), (76, .iload 4, 2, 78), (78, .invokestatic 73, 3, 81), (81, .istore 5, 2, 83), (83, .iinc 6 1, 3, 86), (86, .goto (-72), 3, 89), (89, .return_, 1, 90)] := by unfold jDs; decide +kernel
set_option maxRecDepth 100000 in
set_option maxHeartbeats 4000000 in
theorem c_X5_reachOn {E : jE} {th : Nat} {a1 : Nat} {x2 : Int} {x3 : Int} {M : jMem} {r : Int} {M' : jMem} (h : f_X5_reachOn th a1 x2 x3 M = some (r, M')) : jMet E yX5_reachOn cX5_reachOn 7 (none) 4 0 0 [q_r E th, q_r E a1, q_i x2, q_i x3] M (none) M' := by
  unfold f_X5_reachOn at h
  refine jMet.of RX5 rfl (by decide +kernel) (Nat.le_of_ble_eq_true rfl) [(0, q_r E th), (1, q_r E a1), (2, q_i x2), (3, q_i x3)] rfl (fun X hC hE hr hn => ?_)
  refine jr_aload_n hC (D_X5_reachOn.g 0 rfl) 1 rfl ?_
  refine jr_iload_n hC (D_X5_reachOn.g 1 rfl) 2 rfl ?_
  refine jr_iload_n hC (D_X5_reachOn.g 2 rfl) 3 rfl ?_
  refine jr_cVi hC cl_X5_62 ⟨rfl, by decide⟩ (D_X5_reachOn.g 3 rfl) [q_i x2, q_i x3] h (fun r M' e => c_X4_roomBelow e) rfl rfl ⟨by decide, by decide⟩ (Nat.le_of_ble_eq_true rfl) ⟨Nat.le_of_ble_eq_true rfl, Nat.le_of_ble_eq_true rfl⟩ (fun v1 M2 h => ?_)
  refine jr_istore hC (D_X5_reachOn.g 4 rfl) (by decide) rfl ?_
  refine jr_iconst hC (D_X5_reachOn.g 5 rfl) ?_
  refine jr_istore hC (D_X5_reachOn.g 6 rfl) (by decide) rfl ?_
  refine jr_iconst hC (D_X5_reachOn.g 7 rfl) ?_
  refine jr_istore hC (D_X5_reachOn.g 8 rfl) (by decide) rfl ?_
  refine jr_pick [3, 4, 5, 6, 2, 1, 0] rfl ?_
  refine jr_lp3 (fun (y5_14 : Int) (y6_14 : Int) (M_14 : jMem) => JW E X 7 0 0 M_14 14 [(0, q_r E th), (1, q_r E a1), (2, q_i x2), (3, q_i x3), (4, q_i v1), (5, q_i y5_14), (6, q_i y6_14)] []) ?_ jfuel 0 0 M2 h
  intro rec_14 hrec_14 y5_14 y6_14 M_14 h
  refine jr_iload hC (D_X5_reachOn.g 9 rfl) 5 rfl ?_
  refine jr_iconst hC (D_X5_reachOn.g 10 rfl) ?_
  refine jr_icmp_eq hC (D_X5_reachOn.g 11 rfl) 89 rfl h (fun h => ?_) (fun h => ?_)
  · exact jr_vret hC (D_X5_reachOn.g 53 rfl) hr hE h
  refine jr_iload hC (D_X5_reachOn.g 12 rfl) 6 rfl ?_
  refine jr_bipush hC (D_X5_reachOn.g 13 rfl) bp_64 ?_
  refine jr_icmp_ge hC (D_X5_reachOn.g 14 rfl) 89 rfl h (fun h => ?_) (fun h => ?_)
  · refine jr_aload_n hC (D_X5_reachOn.g 15 rfl) 1 rfl ?_
    refine jr_getR hC fl_X5_66 rfl (D_X5_reachOn.g 16 rfl) h (fun r3 h => ?_)
    refine jr_iload_n hC (D_X5_reachOn.g 17 rfl) 2 rfl ?_
    refine jr_iconst hC (D_X5_reachOn.g 18 rfl) ?_
    refine jr_iadd hC (D_X5_reachOn.g 19 rfl) ?_
    refine jr_aald hC 24 4 rfl (by decide) (D_X5_reachOn.g 20 rfl) h (fun r4 h => ?_)
    refine jr_iload hC (D_X5_reachOn.g 21 rfl) 5 rfl ?_
    refine jr_iald hC (D_X5_reachOn.g 22 rfl) h (fun v5 h => ?_)
    refine jr_join h (fun j => ∀ (M_74 : jMem), j M_74 = some (r, M') → JW E X 7 0 0 M_74 74 [(0, q_r E th), (1, q_r E a1), (2, q_i x2), (3, q_i x3), (4, q_i v1), (5, q_i y5_14), (6, q_i y6_14)] []) ?_ ?_
    · intro M_74 h
      refine jr_iload hC (D_X5_reachOn.g 47 rfl) 5 rfl ?_
      refine jr_iload hC (D_X5_reachOn.g 48 rfl) 4 rfl ?_
      refine jr_cSi hC cl_X5_73 (D_X5_reachOn.g 49 rfl) [q_i y5_14, q_i v1] h (fun r M' e => c_X4_partAfter e) rfl rfl ⟨by decide, by decide⟩ (Nat.le_of_ble_eq_true rfl) ⟨Nat.le_of_ble_eq_true rfl, Nat.le_of_ble_eq_true rfl⟩ (fun v6 M7 h => ?_)
      refine jr_istore hC (D_X5_reachOn.g 50 rfl) (by decide) rfl ?_
      refine jr_iinc hC (D_X5_reachOn.g 51 rfl) 6 rfl (by decide) rfl ?_
      refine jr_goto hC (D_X5_reachOn.g 52 rfl) 14 rfl ?_
      refine jr_pick [2, 3, 4, 5, 6, 1, 0] rfl ?_
      exact hrec_14 v6 (y6_14 + 1) M7 h
    intro j_74 hj_74 h
    refine jr_if_le hC (D_X5_reachOn.g 23 rfl) 74 rfl h (fun h => ?_) (fun h => ?_)
    · exact hj_74 M_14 h
    refine jr_aload_n hC (D_X5_reachOn.g 24 rfl) 1 rfl ?_
    refine jr_iload_n hC (D_X5_reachOn.g 25 rfl) 2 rfl ?_
    refine jr_iload_n hC (D_X5_reachOn.g 26 rfl) 3 rfl ?_
    refine jr_iload hC (D_X5_reachOn.g 27 rfl) 5 rfl ?_
    refine jr_cVi hC cl_X5_69 ⟨rfl, by decide⟩ (D_X5_reachOn.g 28 rfl) [q_i x2, q_i x3, q_i y5_14] h (fun r M' e => c_X4_fills e) rfl rfl ⟨by decide, by decide⟩ (Nat.le_of_ble_eq_true rfl) ⟨Nat.le_of_ble_eq_true rfl, Nat.le_of_ble_eq_true rfl⟩ (fun v8 M9 h => ?_)
    refine jr_if_eq hC (D_X5_reachOn.g 29 rfl) 74 rfl h (fun h => ?_) (fun h => ?_)
    · exact hj_74 M9 h
    refine jr_aload_n hC (D_X5_reachOn.g 30 rfl) 0 rfl ?_
    refine jr_getR hC fl_X5_11 rfl (D_X5_reachOn.g 31 rfl) h (fun r10 h => ?_)
    refine jr_iload_n hC (D_X5_reachOn.g 32 rfl) 2 rfl ?_
    refine jr_iconst hC (D_X5_reachOn.g 33 rfl) ?_
    refine jr_iadd hC (D_X5_reachOn.g 34 rfl) ?_
    refine jr_aald hC 24 4 rfl (by decide) (D_X5_reachOn.g 35 rfl) h (fun r11 h => ?_)
    refine jr_iload hC (D_X5_reachOn.g 36 rfl) 5 rfl ?_
    refine jr_dup2 hC (D_X5_reachOn.g 37 rfl) rfl rfl ?_
    refine jr_iald hC (D_X5_reachOn.g 38 rfl) h (fun v12 h => ?_)
    refine jr_aload_n hC (D_X5_reachOn.g 39 rfl) 0 rfl ?_
    refine jr_getR hC fl_X5_11 rfl (D_X5_reachOn.g 40 rfl) h (fun r13 h => ?_)
    refine jr_iload_n hC (D_X5_reachOn.g 41 rfl) 2 rfl ?_
    refine jr_aald hC 24 4 rfl (by decide) (D_X5_reachOn.g 42 rfl) h (fun r14 h => ?_)
    refine jr_iload_n hC (D_X5_reachOn.g 43 rfl) 3 rfl ?_
    refine jr_iald hC (D_X5_reachOn.g 44 rfl) h (fun v15 h => ?_)
    refine jr_iadd hC (D_X5_reachOn.g 45 rfl) ?_
    refine jr_iast hC (D_X5_reachOn.g 46 rfl) h (fun M16 _ h => ?_)
    exact hj_74 M16 h
  exact jr_vret hC (D_X5_reachOn.g 53 rfl) hr hE h
def f_X5_countReach (th : Nat) (a1 : Nat) (M : jMem) : Option (Int × jMem) :=
jlp2 (fun rec_2 (y2_2 : Int) (M_2 : jMem) =>
(jm_gI 4 6 M_2 a1).bind fun v1 =>
if jd_wr y2_2 ≤ jd_wr v1 then ((jm_gR 5 0 M_2 th).bind fun r2 =>
(jm_ldR 24 M_2 r2 y2_2).bind fun r3 =>
jbd (f_J7_fill_53178 r3 0 M_2) fun _ M5 =>
rec_2 (y2_2 + 1) M5)
else ((jm_gR 5 0 M_2 th).bind fun r6 =>
(jm_ldR 24 M_2 r6 0).bind fun r7 =>
(jm_st 20 M_2 r7 0 1).bind fun M8 =>
jlp2 (fun rec_37 (y2_37 : Int) (M_37 : jMem) =>
(jm_gI 4 6 M_37 a1).bind fun v9 =>
if jd_wr y2_37 < jd_wr v9 then (jlp2 (fun rec_47 (y3_47 : Int) (M_47 : jMem) =>
(jm_gI 4 7 M_47 a1).bind fun v10 =>
if jd_wr y3_47 ≤ jd_wr v10 then ((jm_gR 5 0 M_47 th).bind fun r11 =>
(jm_ldR 24 M_47 r11 y2_37).bind fun r12 =>
(jm_ld 20 M_47 r12 y3_47).bind fun v13 =>
jjq (fun (M_73 : jMem) =>
rec_47 (y3_47 + 1) M_73) fun j_73 =>
if jd_wr v13 ≤ 0 then (j_73 M_47)
else (jcall 5 M_47 th (f_X5_reachOn th a1 y2_37 y3_47 M_47) fun _ M15 =>
j_73 M15))
else (rec_37 (y2_37 + 1) M_47)) jfuel 0 M_37)
else (some (0, M_37))) jfuel 0 M8)) jfuel 0 M
theorem D_X5_countReach : jDs cX5_countReach [(0, .iconst 0, 1, 1), (1, .istore_n 2, 1, 2), (2, .iload_n 2, 1, 3), (3, .aload_n 1, 1, 4), (4, .getfield 34, 3, 7), (7, .if_icmp .gt 19, 3, 10), (10, .aload_n 0, 1, 11), (11, .getfield 11, 3, 14), (14, .iload_n 2, 1, 15), (15, .aaload, 1, 16), (16, .iconst 0, 1, 17), (17, .invokestatic 49, 3, 20), (20, .iinc 2 1, 3, 23), (23, .goto (-21), 3, 26), (26, .aload_n 0, 1, 27), (27, .getfield 11, 3, 30), (30, .iconst 0, 1, 31), (31, .aaload, 1, 32), (32, .iconst 0, 1, 33), (33, .iconst 1, 1, 34), (34, .iastore, 1, 35), (35, .iconst 0, 1, 36), (36, .istore_n 2, 1, 37), (37, .iload_n 2, 1, 38), (38, .aload_n 1, 1, 39), (39, .getfield 34, 3, 42), (42, .if_icmp .ge 43, 3, 45), (45, .iconst 0, 1, 46), (46, .istore_n 3, 1, 47), (47, .iload_n 3, 1, 48), (48, .aload_n 1, 1, 49), (49, .getfield 55, 3, 52), (52, .if_icmp .gt 27, 3, 55), (55, .aload_n 0, 1, 56), (56, .getfield 11, 3, 59), (59, .iload_n 2, 1, 60), (60, .aaload, 1, 61), (61, .iload_n 3, 1, 62), (62, .iaload, 1, 63), (63, .ifCond .le 10, 3, 66), (66, .aload_n 0, 1, 67), (67, .aload_n 1, 1, 68), (68, .iload_n 2, 1, 69), (69, .iload_n 3, 1, 70), (70, .invokevirtual 58, 3, 73), (73, .iinc 3 1, 3, 76), (76, .goto (-29), 3, 79), (79, .iinc 2 1, 3, 82), (82, .goto (-45), 3, 85), (85, .return_, 1, 86)] := by unfold jDs; decide +kernel
set_option maxRecDepth 100000 in
set_option maxHeartbeats 4000000 in
theorem c_X5_countReach {E : jE} {th : Nat} {a1 : Nat} {M : jMem} {r : Int} {M' : jMem} (h : f_X5_countReach th a1 M = some (r, M')) : jMet E yX5_countReach cX5_countReach 4 (none) 5 0 0 [q_r E th, q_r E a1] M (none) M' := by
  unfold f_X5_countReach at h
  refine jMet.of RX5 rfl (by decide +kernel) (Nat.le_of_ble_eq_true rfl) [(0, q_r E th), (1, q_r E a1)] rfl (fun X hC hE hr hn => ?_)
  refine jr_iconst hC (D_X5_countReach.g 0 rfl) ?_
  refine jr_istore_n hC (D_X5_countReach.g 1 rfl) (by decide) rfl ?_
  refine jr_pick [1, 2, 0] rfl ?_
  refine jr_lp2 (fun (y2_2 : Int) (M_2 : jMem) => JW E X 4 0 0 M_2 2 [(0, q_r E th), (1, q_r E a1), (2, q_i y2_2)] []) ?_ jfuel 0 M h
  intro rec_2 hrec_2 y2_2 M_2 h
  refine jr_iload_n hC (D_X5_countReach.g 2 rfl) 2 rfl ?_
  refine jr_aload_n hC (D_X5_countReach.g 3 rfl) 1 rfl ?_
  refine jr_getI hC fl_X5_34 rfl (D_X5_countReach.g 4 rfl) h (fun v1 h => ?_)
  refine jr_icmp_gt hC (D_X5_countReach.g 5 rfl) 26 rfl h (fun h => ?_) (fun h => ?_)
  · refine jr_aload_n hC (D_X5_countReach.g 6 rfl) 0 rfl ?_
    refine jr_getR hC fl_X5_11 rfl (D_X5_countReach.g 7 rfl) h (fun r2 h => ?_)
    refine jr_iload_n hC (D_X5_countReach.g 8 rfl) 2 rfl ?_
    refine jr_aald hC 24 4 rfl (by decide) (D_X5_countReach.g 9 rfl) h (fun r3 h => ?_)
    refine jr_iconst hC (D_X5_countReach.g 10 rfl) ?_
    refine jr_cSv hC cl_X5_49 (D_X5_countReach.g 11 rfl) [q_r E r3, q_i 0] h (fun r M' e => c_J7_fill_53178 e) rfl rfl ⟨by decide, by decide⟩ (Nat.le_of_ble_eq_true rfl) ⟨Nat.le_of_ble_eq_true rfl, Nat.le_of_ble_eq_true rfl⟩ (fun _ M5 h => ?_)
    refine jr_iinc hC (D_X5_countReach.g 12 rfl) 2 rfl (by decide) rfl ?_
    refine jr_goto hC (D_X5_countReach.g 13 rfl) 2 rfl ?_
    refine jr_pick [1, 2, 0] rfl ?_
    exact hrec_2 (y2_2 + 1) M5 h
  refine jr_aload_n hC (D_X5_countReach.g 14 rfl) 0 rfl ?_
  refine jr_getR hC fl_X5_11 rfl (D_X5_countReach.g 15 rfl) h (fun r6 h => ?_)
  refine jr_iconst hC (D_X5_countReach.g 16 rfl) ?_
  refine jr_aald hC 24 4 rfl (by decide) (D_X5_countReach.g 17 rfl) h (fun r7 h => ?_)
  refine jr_iconst hC (D_X5_countReach.g 18 rfl) ?_
  refine jr_iconst hC (D_X5_countReach.g 19 rfl) ?_
  refine jr_iast hC (D_X5_countReach.g 20 rfl) h (fun M8 _ h => ?_)
  refine jr_iconst hC (D_X5_countReach.g 21 rfl) ?_
  refine jr_istore_n hC (D_X5_countReach.g 22 rfl) (by decide) rfl ?_
  refine jr_pick [1, 2, 0] rfl ?_
  refine jr_lp2 (fun (y2_37 : Int) (M_37 : jMem) => JW E X 4 0 0 M_37 37 [(0, q_r E th), (1, q_r E a1), (2, q_i y2_37)] []) ?_ jfuel 0 M8 h
  intro rec_37 hrec_37 y2_37 M_37 h
  refine jr_iload_n hC (D_X5_countReach.g 23 rfl) 2 rfl ?_
  refine jr_aload_n hC (D_X5_countReach.g 24 rfl) 1 rfl ?_
  refine jr_getI hC fl_X5_34 rfl (D_X5_countReach.g 25 rfl) h (fun v9 h => ?_)
  refine jr_icmp_ge hC (D_X5_countReach.g 26 rfl) 85 rfl h (fun h => ?_) (fun h => ?_)
  · refine jr_iconst hC (D_X5_countReach.g 27 rfl) ?_
    refine jr_istore_n hC (D_X5_countReach.g 28 rfl) (by decide) rfl ?_
    refine jr_pick [1, 2, 3, 0] rfl ?_
    refine jr_lp2 (fun (y3_47 : Int) (M_47 : jMem) => JW E X 4 0 0 M_47 47 [(0, q_r E th), (1, q_r E a1), (2, q_i y2_37), (3, q_i y3_47)] []) ?_ jfuel 0 M_37 h
    intro rec_47 hrec_47 y3_47 M_47 h
    refine jr_iload_n hC (D_X5_countReach.g 29 rfl) 3 rfl ?_
    refine jr_aload_n hC (D_X5_countReach.g 30 rfl) 1 rfl ?_
    refine jr_getI hC fl_X5_55 rfl (D_X5_countReach.g 31 rfl) h (fun v10 h => ?_)
    refine jr_icmp_gt hC (D_X5_countReach.g 32 rfl) 79 rfl h (fun h => ?_) (fun h => ?_)
    · refine jr_aload_n hC (D_X5_countReach.g 33 rfl) 0 rfl ?_
      refine jr_getR hC fl_X5_11 rfl (D_X5_countReach.g 34 rfl) h (fun r11 h => ?_)
      refine jr_iload_n hC (D_X5_countReach.g 35 rfl) 2 rfl ?_
      refine jr_aald hC 24 4 rfl (by decide) (D_X5_countReach.g 36 rfl) h (fun r12 h => ?_)
      refine jr_iload_n hC (D_X5_countReach.g 37 rfl) 3 rfl ?_
      refine jr_iald hC (D_X5_countReach.g 38 rfl) h (fun v13 h => ?_)
      refine jr_join h (fun j => ∀ (M_73 : jMem), j M_73 = some (r, M') → JW E X 4 0 0 M_73 73 [(0, q_r E th), (1, q_r E a1), (2, q_i y2_37), (3, q_i y3_47)] []) ?_ ?_
      · intro M_73 h
        refine jr_iinc hC (D_X5_countReach.g 45 rfl) 3 rfl (by decide) rfl ?_
        refine jr_goto hC (D_X5_countReach.g 46 rfl) 47 rfl ?_
        refine jr_pick [1, 2, 3, 0] rfl ?_
        exact hrec_47 (y3_47 + 1) M_73 h
      intro j_73 hj_73 h
      refine jr_if_le hC (D_X5_countReach.g 39 rfl) 73 rfl h (fun h => ?_) (fun h => ?_)
      · exact hj_73 M_47 h
      refine jr_aload_n hC (D_X5_countReach.g 40 rfl) 0 rfl ?_
      refine jr_aload_n hC (D_X5_countReach.g 41 rfl) 1 rfl ?_
      refine jr_iload_n hC (D_X5_countReach.g 42 rfl) 2 rfl ?_
      refine jr_iload_n hC (D_X5_countReach.g 43 rfl) 3 rfl ?_
      refine jr_cVv hC cl_X5_58 ⟨rfl, by decide⟩ (D_X5_countReach.g 44 rfl) [q_r E a1, q_i y2_37, q_i y3_47] h (fun r M' e => c_X5_reachOn e) rfl rfl ⟨by decide, by decide⟩ (Nat.le_of_ble_eq_true rfl) ⟨Nat.le_of_ble_eq_true rfl, Nat.le_of_ble_eq_true rfl⟩ (fun _ M15 h => ?_)
      exact hj_73 M15 h
    refine jr_iinc hC (D_X5_countReach.g 47 rfl) 2 rfl (by decide) rfl ?_
    refine jr_goto hC (D_X5_countReach.g 48 rfl) 37 rfl ?_
    refine jr_pick [1, 2, 0] rfl ?_
    exact hrec_37 (y2_37 + 1) M_47 h
  exact jr_vret hC (D_X5_countReach.g 49 rfl) hr hE h
def f_X5_passing (th : Nat) (a1 : Nat) (x2 : Int) (x3 : Int) (M : jMem) : Option (Int × jMem) :=
jlp2 (fun rec_6 (y4_6 : Int) (y5_6 : Int) =>
(jm_gI 4 7 M a1).bind fun v1 =>
if jd_wr y5_6 ≤ jd_wr v1 then (jjq (fun (y4_46 : Int) =>
rec_6 y4_46 (y5_6 + 1)) fun j_46 =>
if jd_wr (jd_and y5_6 x3) = 0 then (j_46 y4_6)
else ((jm_gR 5 0 M th).bind fun r2 =>
(jm_ldR 24 M r2 x2).bind fun r3 =>
(jm_ld 20 M r3 y5_6).bind fun v4 =>
(jm_gR 4 4 M a1).bind fun r5 =>
(jm_ldR 24 M r5 x2).bind fun r6 =>
(jm_ld 20 M r6 y5_6).bind fun v7 =>
j_46 (y4_6 + (v4 * v7))))
else (some (y4_6, M))) jfuel 0 0
theorem D_X5_passing : jDs cX5_passing [(0, .iconst 0, 1, 1), (1, .istore 4, 2, 3), (3, .iconst 0, 1, 4), (4, .istore 5, 2, 6), (6, .iload 5, 2, 8), (8, .aload_n 1, 1, 9), (9, .getfield 55, 3, 12), (12, .if_icmp .gt 40, 3, 15), (15, .iload 5, 2, 17), (17, .iload_n 3, 1, 18), (18, .iand, 1, 19), (19, .ifCond .eq 27, 3, 22), (22, .iload 4, 2, 24), (24, .aload_n 0, 1, 25), (25, .getfield 11, 3, 28), (28, .iload_n 2, 1, 29), (29, .aaload, 1, 30), (30, .iload 5, 2, 32), (32, .iaload, 1, 33), (33, .aload_n 1, 1, 34), (34, .getfield 66, 3, 37), (37, .iload_n 2, 1, 38), (38, .aaload, 1, 39), (39, .iload 5, 2, 41), (41, .iaload, 1, 42), (42, .imul, 1, 43), (43, .iadd, 1, 44), (44, .istore 4, 2, 46), (46, .iinc 5 1, 3, 49), (49, .goto (-43), 3, 52), (52, .iload 4, 2, 54), (54, .ireturn, 1, 55)] := by unfold jDs; decide +kernel
set_option maxRecDepth 100000 in
set_option maxHeartbeats 4000000 in
theorem c_X5_passing {E : jE} {th : Nat} {a1 : Nat} {x2 : Int} {x3 : Int} {M : jMem} {r : Int} {M' : jMem} (h : f_X5_passing th a1 x2 x3 M = some (r, M')) : jMet E yX5_passing cX5_passing 6 (some .int) 2 0 0 [q_r E th, q_r E a1, q_i x2, q_i x3] M (some (q_i r)) M' := by
  unfold f_X5_passing at h
  refine jMet.of RX5 rfl (by decide +kernel) (Nat.le_of_ble_eq_true rfl) [(0, q_r E th), (1, q_r E a1), (2, q_i x2), (3, q_i x3)] rfl (fun X hC hE hr hn => ?_)
  refine jr_iconst hC (D_X5_passing.g 0 rfl) ?_
  refine jr_istore hC (D_X5_passing.g 1 rfl) (by decide) rfl ?_
  refine jr_iconst hC (D_X5_passing.g 2 rfl) ?_
  refine jr_istore hC (D_X5_passing.g 3 rfl) (by decide) rfl ?_
  refine jr_pick [2, 3, 4, 5, 1, 0] rfl ?_
  refine jr_lp2 (fun (y4_6 : Int) (y5_6 : Int) => JW E X 6 0 0 M 6 [(0, q_r E th), (1, q_r E a1), (2, q_i x2), (3, q_i x3), (4, q_i y4_6), (5, q_i y5_6)] []) ?_ jfuel 0 0 h
  intro rec_6 hrec_6 y4_6 y5_6 h
  refine jr_iload hC (D_X5_passing.g 4 rfl) 5 rfl ?_
  refine jr_aload_n hC (D_X5_passing.g 5 rfl) 1 rfl ?_
  refine jr_getI hC fl_X5_55 rfl (D_X5_passing.g 6 rfl) h (fun v1 h => ?_)
  refine jr_icmp_gt hC (D_X5_passing.g 7 rfl) 52 rfl h (fun h => ?_) (fun h => ?_)
  · refine jr_iload hC (D_X5_passing.g 8 rfl) 5 rfl ?_
    refine jr_iload_n hC (D_X5_passing.g 9 rfl) 3 rfl ?_
    refine jr_iand hC (D_X5_passing.g 10 rfl) ?_
    refine jr_join h (fun j => ∀ (y4_46 : Int), j y4_46 = some (r, M') → JW E X 6 0 0 M 46 [(0, q_r E th), (1, q_r E a1), (2, q_i x2), (3, q_i x3), (4, q_i y4_46), (5, q_i y5_6)] []) ?_ ?_
    · intro y4_46 h
      refine jr_iinc hC (D_X5_passing.g 28 rfl) 5 rfl (by decide) rfl ?_
      refine jr_goto hC (D_X5_passing.g 29 rfl) 6 rfl ?_
      refine jr_pick [1, 2, 3, 4, 5, 0] rfl ?_
      exact hrec_6 y4_46 (y5_6 + 1) h
    intro j_46 hj_46 h
    refine jr_if_eq hC (D_X5_passing.g 11 rfl) 46 rfl h (fun h => ?_) (fun h => ?_)
    · exact hj_46 y4_6 h
    refine jr_iload hC (D_X5_passing.g 12 rfl) 4 rfl ?_
    refine jr_aload_n hC (D_X5_passing.g 13 rfl) 0 rfl ?_
    refine jr_getR hC fl_X5_11 rfl (D_X5_passing.g 14 rfl) h (fun r2 h => ?_)
    refine jr_iload_n hC (D_X5_passing.g 15 rfl) 2 rfl ?_
    refine jr_aald hC 24 4 rfl (by decide) (D_X5_passing.g 16 rfl) h (fun r3 h => ?_)
    refine jr_iload hC (D_X5_passing.g 17 rfl) 5 rfl ?_
    refine jr_iald hC (D_X5_passing.g 18 rfl) h (fun v4 h => ?_)
    refine jr_aload_n hC (D_X5_passing.g 19 rfl) 1 rfl ?_
    refine jr_getR hC fl_X5_66 rfl (D_X5_passing.g 20 rfl) h (fun r5 h => ?_)
    refine jr_iload_n hC (D_X5_passing.g 21 rfl) 2 rfl ?_
    refine jr_aald hC 24 4 rfl (by decide) (D_X5_passing.g 22 rfl) h (fun r6 h => ?_)
    refine jr_iload hC (D_X5_passing.g 23 rfl) 5 rfl ?_
    refine jr_iald hC (D_X5_passing.g 24 rfl) h (fun v7 h => ?_)
    refine jr_imul hC (D_X5_passing.g 25 rfl) ?_
    refine jr_iadd hC (D_X5_passing.g 26 rfl) ?_
    refine jr_istore hC (D_X5_passing.g 27 rfl) (by decide) rfl ?_
    refine jr_pick [1, 2, 3, 4, 0, 5] rfl ?_
    exact hj_46 (y4_6 + (v4 * v7)) h
  refine jr_iload hC (D_X5_passing.g 30 rfl) 4 rfl ?_
  exact jr_iret hC (D_X5_passing.g 31 rfl) hr hE h
def f_X5_shareRow (th : Nat) (a1 : Nat) (x2 : Int) (M : jMem) : Option (Int × jMem) :=
jlp3 (fun rec_5 (y3_5 : Int) (y4_5 : Int) (M_5 : jMem) =>
(jm_gI 5 3 M_5 th).bind fun v1 =>
if jd_wr y4_5 < jd_wr v1 then ((jm_gI 5 3 M_5 th).bind fun v2 =>
jjq (fun (z0_45 : Int) =>
jcall 4 M_5 a1 (f_X4_isClosed a1 y4_5 x2 M_5) fun v3 M4 =>
jjq (fun (z0_62 : Int) =>
(jm_gR 5 2 M4 th).bind fun r5 =>
jjq (fun (z0_96 : Int) (M_96 : jMem) =>
(jm_st 20 M_96 r5 ((x2 * v2) + y4_5) z0_96).bind fun M6 =>
(jm_gR 5 2 M6 th).bind fun r7 =>
(jm_ld 20 M6 r7 ((x2 * v2) + y4_5)).bind fun v8 =>
rec_5 v8 (y4_5 + 1) M6) fun j_96 =>
if jd_wr z0_62 = 0 then (j_96 0 M4)
else (jcall 4 M4 a1 (f_X4_total a1 M4) fun v9 M10 =>
(jm_gR 5 1 M10 th).bind fun r11 =>
(jm_ld 20 M10 r11 ((x2 * v2) + y4_5)).bind fun v12 =>
j_96 (((v9 - z0_45) - v12) - y3_5) M10)) fun j_62 =>
if jd_wr v3 = 0 then (j_62 1)
else (j_62 0)) fun j_45 =>
if jd_wr x2 ≤ 0 then (j_45 0)
else ((jm_gR 5 1 M_5 th).bind fun r13 =>
(jm_gI 5 3 M_5 th).bind fun v14 =>
(jm_ld 20 M_5 r13 (((x2 * v2) + y4_5) - v14)).bind fun v15 =>
j_45 v15))
else (some (0, M_5))) jfuel 0 0 M
theorem D_X5_shareRow : jDs cX5_shareRow [(0, .iconst 0, 1, 1), (1, .istore_n 3, 1, 2), (2, .iconst 0, 1, 3), (3, .istore 4, 2, 5), (5, .iload 4, 2, 7), (7, .aload_n 0, 1, 8), (8, .getfield 29, 3, 11), (11, .if_icmp .ge 100, 3, 14), (14, .iload_n 2, 1, 15), (15, .aload_n 0, 1, 16), (16, .getfield 29, 3, 19), (19, .imul, 1, 20), (20, .iload 4, 2, 22), (22, .iadd, 1, 23), (23, .istore 5, 2, 25), (25, .iload_n 2, 1, 26), (26, .ifCond .le 18, 3, 29), (29, .aload_n 0, 1, 30), (30, .getfield 16, 3, 33), (33, .iload 5, 2, 35), (35, .aload_n 0, 1, 36), (36, .getfield 29, 3, 39), (39, .isub, 1, 40), (40, .iaload, 1, 41), (41, .goto 4, 3, 44), (44, .iconst 0, 1, 45), (45, .istore 6, 2, 47), (47, .aload_n 1, 1, 48), (48, .iload 4, 2, 50), (50, .iload_n 2, 1, 51), (51, .invokevirtual 76, 3, 54), (54, .ifCond .ne 7, 3, 57), (57, .iconst 1, 1, 58), (58, .goto 4, 3, 61), (61, .iconst 0, 1, 62), (62, .istore 7, 2, 64), (64, .aload_n 0, 1, 65), (65, .getfield 20, 3, 68), (68, .iload 5, 2, 70), (70, .iload 7, 2, 72), (72, .ifCond .eq 23, 3, 75), (75, .aload_n 1, 1, 76), (76, .invokevirtual 80, 3, 79), (79, .iload 6, 2, 81), (81, .isub, 1, 82), (82, .aload_n 0, 1, 83), (83, .getfield 16, 3, 86), (86, .iload 5, 2, 88), (88, .iaload, 1, 89), (89, .isub, 1, 90), (90, .iload_n 3, 1, 91), (91, .isub, 1, 92), (92, .goto 4, 3, 95), (95, .iconst 0, 1, 96), (96, .iastore, 1, 97), (97, .aload_n 0, 1, 98), (98, .getfield 20, 3, 101), (101, .iload 5, 2, 103), (103, .iaload, 1, 104), (104, .istore_n 3, 1, 105), (105, .iinc 4 1, 3, 108), (108, .goto (-103), 3, 111), (111, .return_, 1, 112)] := by unfold jDs; decide +kernel
set_option maxRecDepth 100000 in
set_option maxHeartbeats 4000000 in
theorem c_X5_shareRow {E : jE} {th : Nat} {a1 : Nat} {x2 : Int} {M : jMem} {r : Int} {M' : jMem} (h : f_X5_shareRow th a1 x2 M = some (r, M')) : jMet E yX5_shareRow cX5_shareRow 8 (none) 4 0 0 [q_r E th, q_r E a1, q_i x2] M (none) M' := by
  unfold f_X5_shareRow at h
  refine jMet.of RX5 rfl (by decide +kernel) (Nat.le_of_ble_eq_true rfl) [(0, q_r E th), (1, q_r E a1), (2, q_i x2)] rfl (fun X hC hE hr hn => ?_)
  refine jr_iconst hC (D_X5_shareRow.g 0 rfl) ?_
  refine jr_istore_n hC (D_X5_shareRow.g 1 rfl) (by decide) rfl ?_
  refine jr_iconst hC (D_X5_shareRow.g 2 rfl) ?_
  refine jr_istore hC (D_X5_shareRow.g 3 rfl) (by decide) rfl ?_
  refine jr_pick [2, 3, 4, 1, 0] rfl ?_
  refine jr_lp3 (fun (y3_5 : Int) (y4_5 : Int) (M_5 : jMem) => JW E X 8 0 0 M_5 5 [(0, q_r E th), (1, q_r E a1), (2, q_i x2), (3, q_i y3_5), (4, q_i y4_5)] []) ?_ jfuel 0 0 M h
  intro rec_5 hrec_5 y3_5 y4_5 M_5 h
  refine jr_iload hC (D_X5_shareRow.g 4 rfl) 4 rfl ?_
  refine jr_aload_n hC (D_X5_shareRow.g 5 rfl) 0 rfl ?_
  refine jr_getI hC fl_X5_29 rfl (D_X5_shareRow.g 6 rfl) h (fun v1 h => ?_)
  refine jr_icmp_ge hC (D_X5_shareRow.g 7 rfl) 111 rfl h (fun h => ?_) (fun h => ?_)
  · refine jr_iload_n hC (D_X5_shareRow.g 8 rfl) 2 rfl ?_
    refine jr_aload_n hC (D_X5_shareRow.g 9 rfl) 0 rfl ?_
    refine jr_getI hC fl_X5_29 rfl (D_X5_shareRow.g 10 rfl) h (fun v2 h => ?_)
    refine jr_imul hC (D_X5_shareRow.g 11 rfl) ?_
    refine jr_iload hC (D_X5_shareRow.g 12 rfl) 4 rfl ?_
    refine jr_iadd hC (D_X5_shareRow.g 13 rfl) ?_
    refine jr_istore hC (D_X5_shareRow.g 14 rfl) (by decide) rfl ?_
    refine jr_iload_n hC (D_X5_shareRow.g 15 rfl) 3 rfl ?_
    refine jr_join h (fun j => ∀ (z0_45 : Int), j z0_45 = some (r, M') → JW E X 8 0 0 M_5 45 [(0, q_r E th), (1, q_r E a1), (2, q_i x2), (3, q_i y3_5), (4, q_i y4_5), (5, q_i ((x2 * v2) + y4_5))] [q_i z0_45]) ?_ ?_
    · intro z0_45 h
      refine jr_istore hC (D_X5_shareRow.g 26 rfl) (by decide) rfl ?_
      refine jr_aload_n hC (D_X5_shareRow.g 27 rfl) 2 rfl ?_
      refine jr_iload hC (D_X5_shareRow.g 28 rfl) 5 rfl ?_
      refine jr_iload_n hC (D_X5_shareRow.g 29 rfl) 3 rfl ?_
      refine jr_cVi hC cl_X5_76 ⟨rfl, by decide⟩ (D_X5_shareRow.g 30 rfl) [q_i y4_5, q_i x2] h (fun r M' e => c_X4_isClosed e) rfl rfl ⟨by decide, by decide⟩ (Nat.le_of_ble_eq_true rfl) ⟨Nat.le_of_ble_eq_true rfl, Nat.le_of_ble_eq_true rfl⟩ (fun v3 M4 h => ?_)
      refine jr_join h (fun j => ∀ (z0_62 : Int), j z0_62 = some (r, M') → JW E X 8 0 0 M4 62 [(0, q_r E th), (1, q_r E a1), (2, q_i x2), (3, q_i y3_5), (4, q_i y4_5), (5, q_i ((x2 * v2) + y4_5)), (6, q_i z0_45)] [q_i z0_62]) ?_ ?_
      · intro z0_62 h
        refine jr_istore hC (D_X5_shareRow.g 35 rfl) (by decide) rfl ?_
        refine jr_aload_n hC (D_X5_shareRow.g 36 rfl) 1 rfl ?_
        refine jr_getR hC fl_X5_20 rfl (D_X5_shareRow.g 37 rfl) h (fun r5 h => ?_)
        refine jr_iload hC (D_X5_shareRow.g 38 rfl) 6 rfl ?_
        refine jr_iload hC (D_X5_shareRow.g 39 rfl) 0 rfl ?_
        refine jr_join h (fun j => ∀ (z0_96 : Int) (M_96 : jMem), j z0_96 M_96 = some (r, M') → JW E X 8 0 0 M_96 96 [(0, q_r E th), (1, q_r E a1), (2, q_i x2), (4, q_i y4_5), (5, q_i ((x2 * v2) + y4_5))] [q_i z0_96, q_i ((x2 * v2) + y4_5), q_r E r5]) ?_ ?_
        · intro z0_96 M_96 h
          refine jr_iast hC (D_X5_shareRow.g 54 rfl) h (fun M6 _ h => ?_)
          refine jr_aload_n hC (D_X5_shareRow.g 55 rfl) 0 rfl ?_
          refine jr_getR hC fl_X5_20 rfl (D_X5_shareRow.g 56 rfl) h (fun r7 h => ?_)
          refine jr_iload hC (D_X5_shareRow.g 57 rfl) 4 rfl ?_
          refine jr_iald hC (D_X5_shareRow.g 58 rfl) h (fun v8 h => ?_)
          refine jr_istore_n hC (D_X5_shareRow.g 59 rfl) (by decide) rfl ?_
          refine jr_iinc hC (D_X5_shareRow.g 60 rfl) 4 rfl (by decide) rfl ?_
          refine jr_goto hC (D_X5_shareRow.g 61 rfl) 5 rfl ?_
          refine jr_pick [2, 3, 4, 1, 0] rfl ?_
          exact hrec_5 v8 (y4_5 + 1) M6 h
        intro j_96 hj_96 h
        refine jr_if_eq hC (D_X5_shareRow.g 40 rfl) 95 rfl h (fun h => ?_) (fun h => ?_)
        · refine jr_iconst hC (D_X5_shareRow.g 53 rfl) ?_
          refine jr_pick [1, 2, 3, 5, 6] rfl ?_
          exact hj_96 0 M4 h
        refine jr_aload_n hC (D_X5_shareRow.g 41 rfl) 2 rfl ?_
        refine jr_cVi hC cl_X5_80 ⟨rfl, by decide⟩ (D_X5_shareRow.g 42 rfl) [] h (fun r M' e => c_X4_total e) rfl rfl ⟨by decide, by decide⟩ (Nat.le_of_ble_eq_true rfl) ⟨Nat.le_of_ble_eq_true rfl, Nat.le_of_ble_eq_true rfl⟩ (fun v9 M10 h => ?_)
        refine jr_iload hC (D_X5_shareRow.g 43 rfl) 7 rfl ?_
        refine jr_isub hC (D_X5_shareRow.g 44 rfl) ?_
        refine jr_aload_n hC (D_X5_shareRow.g 45 rfl) 1 rfl ?_
        refine jr_getR hC fl_X5_16 rfl (D_X5_shareRow.g 46 rfl) h (fun r11 h => ?_)
        refine jr_iload hC (D_X5_shareRow.g 47 rfl) 6 rfl ?_
        refine jr_iald hC (D_X5_shareRow.g 48 rfl) h (fun v12 h => ?_)
        refine jr_isub hC (D_X5_shareRow.g 49 rfl) ?_
        refine jr_iload_n hC (D_X5_shareRow.g 50 rfl) 4 rfl ?_
        refine jr_isub hC (D_X5_shareRow.g 51 rfl) ?_
        refine jr_goto hC (D_X5_shareRow.g 52 rfl) 96 rfl ?_
        refine jr_pick [1, 2, 3, 5, 6] rfl ?_
        exact hj_96 (((v9 - z0_45) - v12) - y3_5) M10 h
      intro j_62 hj_62 h
      refine jr_if_ne hC (D_X5_shareRow.g 31 rfl) 61 rfl h (fun h => ?_) (fun h => ?_)
      · refine jr_iconst hC (D_X5_shareRow.g 32 rfl) ?_
        refine jr_goto hC (D_X5_shareRow.g 33 rfl) 62 rfl ?_
        refine jr_pick [1, 2, 3, 4, 5, 6, 0] rfl ?_
        exact hj_62 1 h
      refine jr_iconst hC (D_X5_shareRow.g 34 rfl) ?_
      refine jr_pick [1, 2, 3, 4, 5, 6, 0] rfl ?_
      exact hj_62 0 h
    intro j_45 hj_45 h
    refine jr_if_le hC (D_X5_shareRow.g 16 rfl) 44 rfl h (fun h => ?_) (fun h => ?_)
    · refine jr_iconst hC (D_X5_shareRow.g 25 rfl) ?_
      refine jr_pick [1, 2, 3, 4, 5, 0] rfl ?_
      exact hj_45 0 h
    refine jr_aload_n hC (D_X5_shareRow.g 17 rfl) 1 rfl ?_
    refine jr_getR hC fl_X5_16 rfl (D_X5_shareRow.g 18 rfl) h (fun r13 h => ?_)
    refine jr_iload hC (D_X5_shareRow.g 19 rfl) 0 rfl ?_
    refine jr_aload_n hC (D_X5_shareRow.g 20 rfl) 1 rfl ?_
    refine jr_getI hC fl_X5_29 rfl (D_X5_shareRow.g 21 rfl) h (fun v14 h => ?_)
    refine jr_isub hC (D_X5_shareRow.g 22 rfl) ?_
    refine jr_iald hC (D_X5_shareRow.g 23 rfl) h (fun v15 h => ?_)
    refine jr_goto hC (D_X5_shareRow.g 24 rfl) 45 rfl ?_
    refine jr_pick [1, 2, 3, 4, 5, 0] rfl ?_
    exact hj_45 v15 h
  exact jr_vret hC (D_X5_shareRow.g 62 rfl) hr hE h
def f_X5_share (th : Nat) (a1 : Nat) (M : jMem) : Option (Int × jMem) :=
(jm_gI 4 5 M a1).bind fun v1 =>
(jm_pI 5 3 M th v1).bind fun M2 =>
jcall 5 M2 th (f_X5_countReach th a1 M2) fun _ M4 =>
jlp2 (fun rec_15 (y2_15 : Int) (M_15 : jMem) =>
(jm_gI 4 6 M_15 a1).bind fun v5 =>
if jd_wr y2_15 < jd_wr v5 then (jlp2 (fun rec_25 (y3_25 : Int) (M_25 : jMem) =>
(jm_gI 5 3 M_25 th).bind fun v6 =>
if jd_wr y3_25 < jd_wr v6 then ((jm_gR 5 1 M_25 th).bind fun r7 =>
(jm_gI 5 3 M_25 th).bind fun v8 =>
jcall 4 M_25 a1 (f_X4_bit a1 y3_25 M_25) fun v9 M10 =>
jcall 5 M10 th (f_X5_passing th a1 (y2_15 + 1) v9 M10) fun v11 M12 =>
(jm_st 20 M12 r7 ((y2_15 * v8) + y3_25) v11).bind fun M13 =>
rec_25 (y3_25 + 1) M13)
else (rec_15 (y2_15 + 1) M_25)) jfuel 0 M_15)
else (jlp2 (fun rec_73 (y2_73 : Int) (M_73 : jMem) =>
(jm_gI 4 6 M_73 a1).bind fun v14 =>
if jd_wr y2_73 < jd_wr v14 then (jcall 5 M_73 th (f_X5_shareRow th a1 y2_73 M_73) fun _ M16 =>
rec_73 (y2_73 + 1) M16)
else (some (0, M_73))) jfuel 0 M_15)) jfuel 0 M4
theorem D_X5_share : jDs cX5_share [(0, .aload_n 0, 1, 1), (1, .aload_n 1, 1, 2), (2, .getfield 23, 3, 5), (5, .putfield 29, 3, 8), (8, .aload_n 0, 1, 9), (9, .aload_n 1, 1, 10), (10, .invokevirtual 30, 3, 13), (13, .iconst 0, 1, 14), (14, .istore_n 2, 1, 15), (15, .iload_n 2, 1, 16), (16, .aload_n 1, 1, 17), (17, .getfield 34, 3, 20), (20, .if_icmp .ge 51, 3, 23), (23, .iconst 0, 1, 24), (24, .istore_n 3, 1, 25), (25, .iload_n 3, 1, 26), (26, .aload_n 0, 1, 27), (27, .getfield 29, 3, 30), (30, .if_icmp .ge 35, 3, 33), (33, .aload_n 0, 1, 34), (34, .getfield 16, 3, 37), (37, .iload_n 2, 1, 38), (38, .aload_n 0, 1, 39), (39, .getfield 29, 3, 42), (42, .imul, 1, 43), (43, .iload_n 3, 1, 44), (44, .iadd, 1, 45), (45, .aload_n 0, 1, 46), (46, .aload_n 1, 1, 47), (47, .iload_n 2, 1, 48), (48, .iconst 1, 1, 49), (49, .iadd, 1, 50), (50, .aload_n 1, 1, 51), (51, .iload_n 3, 1, 52), (52, .invokevirtual 37, 3, 55), (55, .invokevirtual 41, 3, 58), (58, .iastore, 1, 59), (59, .iinc 3 1, 3, 62), (62, .goto (-37), 3, 65), (65, .iinc 2 1, 3, 68), (68, .goto (-53), 3, 71), (71, .iconst 0, 1, 72), (72, .istore_n 2, 1, 73), (73, .iload_n 2, 1, 74), (74, .aload_n 1, 1, 75), (75, .getfield 34, 3, 78), (78, .if_icmp .ge 15, 3, 81), (81, .aload_n 0, 1, 82), (82, .aload_n 1, 1, 83), (83, .iload_n 2, 1, 84), (84, .invokevirtual 45, 3, 87), (87, .iinc 2 1, 3, 90), (90, .goto (-17), 3, 93), (93, .return_, 1, 94)] := by unfold jDs; decide +kernel
set_option maxRecDepth 100000 in
set_option maxHeartbeats 4000000 in
theorem c_X5_share {E : jE} {th : Nat} {a1 : Nat} {M : jMem} {r : Int} {M' : jMem} (h : f_X5_share th a1 M = some (r, M')) : jMet E yX5_share cX5_share 4 (none) 6 0 0 [q_r E th, q_r E a1] M (none) M' := by
  unfold f_X5_share at h
  refine jMet.of RX5 rfl (by decide +kernel) (Nat.le_of_ble_eq_true rfl) [(0, q_r E th), (1, q_r E a1)] rfl (fun X hC hE hr hn => ?_)
  refine jr_aload_n hC (D_X5_share.g 0 rfl) 0 rfl ?_
  refine jr_aload_n hC (D_X5_share.g 1 rfl) 1 rfl ?_
  refine jr_getI hC fl_X5_23 rfl (D_X5_share.g 2 rfl) h (fun v1 h => ?_)
  refine jr_putI hC fl_X5_29 rfl (jnfin rfl) (D_X5_share.g 3 rfl) h (fun M2 _ h => ?_)
  refine jr_aload_n hC (D_X5_share.g 4 rfl) 0 rfl ?_
  refine jr_aload_n hC (D_X5_share.g 5 rfl) 1 rfl ?_
  refine jr_cVv hC cl_X5_30 ⟨rfl, by decide⟩ (D_X5_share.g 6 rfl) [q_r E a1] h (fun r M' e => c_X5_countReach e) rfl rfl ⟨by decide, by decide⟩ (Nat.le_of_ble_eq_true rfl) ⟨Nat.le_of_ble_eq_true rfl, Nat.le_of_ble_eq_true rfl⟩ (fun _ M4 h => ?_)
  refine jr_iconst hC (D_X5_share.g 7 rfl) ?_
  refine jr_istore_n hC (D_X5_share.g 8 rfl) (by decide) rfl ?_
  refine jr_pick [1, 2, 0] rfl ?_
  refine jr_lp2 (fun (y2_15 : Int) (M_15 : jMem) => JW E X 4 0 0 M_15 15 [(0, q_r E th), (1, q_r E a1), (2, q_i y2_15)] []) ?_ jfuel 0 M4 h
  intro rec_15 hrec_15 y2_15 M_15 h
  refine jr_iload_n hC (D_X5_share.g 9 rfl) 2 rfl ?_
  refine jr_aload_n hC (D_X5_share.g 10 rfl) 1 rfl ?_
  refine jr_getI hC fl_X5_34 rfl (D_X5_share.g 11 rfl) h (fun v5 h => ?_)
  refine jr_icmp_ge hC (D_X5_share.g 12 rfl) 71 rfl h (fun h => ?_) (fun h => ?_)
  · refine jr_iconst hC (D_X5_share.g 13 rfl) ?_
    refine jr_istore_n hC (D_X5_share.g 14 rfl) (by decide) rfl ?_
    refine jr_pick [1, 2, 3, 0] rfl ?_
    refine jr_lp2 (fun (y3_25 : Int) (M_25 : jMem) => JW E X 4 0 0 M_25 25 [(0, q_r E th), (1, q_r E a1), (2, q_i y2_15), (3, q_i y3_25)] []) ?_ jfuel 0 M_15 h
    intro rec_25 hrec_25 y3_25 M_25 h
    refine jr_iload_n hC (D_X5_share.g 15 rfl) 3 rfl ?_
    refine jr_aload_n hC (D_X5_share.g 16 rfl) 0 rfl ?_
    refine jr_getI hC fl_X5_29 rfl (D_X5_share.g 17 rfl) h (fun v6 h => ?_)
    refine jr_icmp_ge hC (D_X5_share.g 18 rfl) 65 rfl h (fun h => ?_) (fun h => ?_)
    · refine jr_aload_n hC (D_X5_share.g 19 rfl) 0 rfl ?_
      refine jr_getR hC fl_X5_16 rfl (D_X5_share.g 20 rfl) h (fun r7 h => ?_)
      refine jr_iload_n hC (D_X5_share.g 21 rfl) 2 rfl ?_
      refine jr_aload_n hC (D_X5_share.g 22 rfl) 0 rfl ?_
      refine jr_getI hC fl_X5_29 rfl (D_X5_share.g 23 rfl) h (fun v8 h => ?_)
      refine jr_imul hC (D_X5_share.g 24 rfl) ?_
      refine jr_iload_n hC (D_X5_share.g 25 rfl) 3 rfl ?_
      refine jr_iadd hC (D_X5_share.g 26 rfl) ?_
      refine jr_aload_n hC (D_X5_share.g 27 rfl) 0 rfl ?_
      refine jr_aload_n hC (D_X5_share.g 28 rfl) 1 rfl ?_
      refine jr_iload_n hC (D_X5_share.g 29 rfl) 2 rfl ?_
      refine jr_iconst hC (D_X5_share.g 30 rfl) ?_
      refine jr_iadd hC (D_X5_share.g 31 rfl) ?_
      refine jr_aload_n hC (D_X5_share.g 32 rfl) 1 rfl ?_
      refine jr_iload_n hC (D_X5_share.g 33 rfl) 3 rfl ?_
      refine jr_cVi hC cl_X5_37 ⟨rfl, by decide⟩ (D_X5_share.g 34 rfl) [q_i y3_25] h (fun r M' e => c_X4_bit e) rfl rfl ⟨by decide, by decide⟩ (Nat.le_of_ble_eq_true rfl) ⟨Nat.le_of_ble_eq_true rfl, Nat.le_of_ble_eq_true rfl⟩ (fun v9 M10 h => ?_)
      refine jr_cVi hC cl_X5_41 ⟨rfl, by decide⟩ (D_X5_share.g 35 rfl) [q_r E a1, q_i (y2_15 + 1), q_i v9] h (fun r M' e => c_X5_passing e) rfl rfl ⟨by decide, by decide⟩ (Nat.le_of_ble_eq_true rfl) ⟨Nat.le_of_ble_eq_true rfl, Nat.le_of_ble_eq_true rfl⟩ (fun v11 M12 h => ?_)
      refine jr_iast hC (D_X5_share.g 36 rfl) h (fun M13 _ h => ?_)
      refine jr_iinc hC (D_X5_share.g 37 rfl) 3 rfl (by decide) rfl ?_
      refine jr_goto hC (D_X5_share.g 38 rfl) 25 rfl ?_
      refine jr_pick [1, 2, 3, 0] rfl ?_
      exact hrec_25 (y3_25 + 1) M13 h
    refine jr_iinc hC (D_X5_share.g 39 rfl) 2 rfl (by decide) rfl ?_
    refine jr_goto hC (D_X5_share.g 40 rfl) 15 rfl ?_
    refine jr_pick [1, 2, 0] rfl ?_
    exact hrec_15 (y2_15 + 1) M_25 h
  refine jr_iconst hC (D_X5_share.g 41 rfl) ?_
  refine jr_istore_n hC (D_X5_share.g 42 rfl) (by decide) rfl ?_
  refine jr_pick [1, 2, 0] rfl ?_
  refine jr_lp2 (fun (y2_73 : Int) (M_73 : jMem) => JW E X 4 0 0 M_73 73 [(0, q_r E th), (1, q_r E a1), (2, q_i y2_73)] []) ?_ jfuel 0 M_15 h
  intro rec_73 hrec_73 y2_73 M_73 h
  refine jr_iload_n hC (D_X5_share.g 43 rfl) 2 rfl ?_
  refine jr_aload_n hC (D_X5_share.g 44 rfl) 1 rfl ?_
  refine jr_getI hC fl_X5_34 rfl (D_X5_share.g 45 rfl) h (fun v14 h => ?_)
  refine jr_icmp_ge hC (D_X5_share.g 46 rfl) 93 rfl h (fun h => ?_) (fun h => ?_)
  · refine jr_aload_n hC (D_X5_share.g 47 rfl) 0 rfl ?_
    refine jr_aload_n hC (D_X5_share.g 48 rfl) 1 rfl ?_
    refine jr_iload_n hC (D_X5_share.g 49 rfl) 2 rfl ?_
    refine jr_cVv hC cl_X5_45 ⟨rfl, by decide⟩ (D_X5_share.g 50 rfl) [q_r E a1, q_i y2_73] h (fun r M' e => c_X5_shareRow e) rfl rfl ⟨by decide, by decide⟩ (Nat.le_of_ble_eq_true rfl) ⟨Nat.le_of_ble_eq_true rfl, Nat.le_of_ble_eq_true rfl⟩ (fun _ M16 h => ?_)
    refine jr_iinc hC (D_X5_share.g 51 rfl) 2 rfl (by decide) rfl ?_
    refine jr_goto hC (D_X5_share.g 52 rfl) 73 rfl ?_
    refine jr_pick [1, 2, 0] rfl ?_
    exact hrec_73 (y2_73 + 1) M16 h
  exact jr_vret hC (D_X5_share.g 53 rfl) hr hE h
def f_X5_flatWithLeft (th : Nat) (x1 : Int) (M : jMem) : Option (Int × jMem) :=
(jm_gI 5 3 M th).bind fun v1 =>
jbd (f_X4_columnOf x1 v1 M) fun v2 M3 =>
if jd_wr v2 ≤ 0 then (some (0, M3))
else ((jm_gR 5 2 M3 th).bind fun r4 =>
(jm_ld 20 M3 r4 (x1 - 1)).bind fun v5 =>
some (v5, M3))
theorem D_X5_flatWithLeft : jDs cX5_flatWithLeft [(0, .iload_n 1, 1, 1), (1, .aload_n 0, 1, 2), (2, .getfield 29, 3, 5), (5, .invokestatic 84, 3, 8), (8, .ifCond .le 14, 3, 11), (11, .aload_n 0, 1, 12), (12, .getfield 20, 3, 15), (15, .iload_n 1, 1, 16), (16, .iconst 1, 1, 17), (17, .isub, 1, 18), (18, .iaload, 1, 19), (19, .goto 4, 3, 22), (22, .iconst 0, 1, 23), (23, .ireturn, 1, 24)] := by unfold jDs; decide +kernel
set_option maxRecDepth 100000 in
set_option maxHeartbeats 4000000 in
theorem c_X5_flatWithLeft {E : jE} {th : Nat} {x1 : Int} {M : jMem} {r : Int} {M' : jMem} (h : f_X5_flatWithLeft th x1 M = some (r, M')) : jMet E yX5_flatWithLeft cX5_flatWithLeft 2 (some .int) 3 0 0 [q_r E th, q_i x1] M (some (q_i r)) M' := by
  unfold f_X5_flatWithLeft at h
  refine jMet.of RX5 rfl (by decide +kernel) (Nat.le_of_ble_eq_true rfl) [(0, q_r E th), (1, q_i x1)] rfl (fun X hC hE hr hn => ?_)
  refine jr_iload_n hC (D_X5_flatWithLeft.g 0 rfl) 1 rfl ?_
  refine jr_aload_n hC (D_X5_flatWithLeft.g 1 rfl) 0 rfl ?_
  refine jr_getI hC fl_X5_29 rfl (D_X5_flatWithLeft.g 2 rfl) h (fun v1 h => ?_)
  refine jr_cSi hC cl_X5_84 (D_X5_flatWithLeft.g 3 rfl) [q_i x1, q_i v1] h (fun r M' e => c_X4_columnOf e) rfl rfl ⟨by decide, by decide⟩ (Nat.le_of_ble_eq_true rfl) ⟨Nat.le_of_ble_eq_true rfl, Nat.le_of_ble_eq_true rfl⟩ (fun v2 M3 h => ?_)
  refine jr_if_le hC (D_X5_flatWithLeft.g 4 rfl) 22 rfl h (fun h => ?_) (fun h => ?_)
  · refine jr_iconst hC (D_X5_flatWithLeft.g 12 rfl) ?_
    exact jr_iret hC (D_X5_flatWithLeft.g 13 rfl) hr hE h
  refine jr_aload_n hC (D_X5_flatWithLeft.g 5 rfl) 0 rfl ?_
  refine jr_getR hC fl_X5_20 rfl (D_X5_flatWithLeft.g 6 rfl) h (fun r4 h => ?_)
  refine jr_iload_n hC (D_X5_flatWithLeft.g 7 rfl) 1 rfl ?_
  refine jr_iconst hC (D_X5_flatWithLeft.g 8 rfl) ?_
  refine jr_isub hC (D_X5_flatWithLeft.g 9 rfl) ?_
  refine jr_iald hC (D_X5_flatWithLeft.g 10 rfl) h (fun v5 h => ?_)
  refine jr_goto hC (D_X5_flatWithLeft.g 11 rfl) 23 rfl ?_
  exact jr_iret hC (D_X5_flatWithLeft.g 13 rfl) hr hE h
def f_X5_lyingAcross (th : Nat) (x1 : Int) (M : jMem) : Option (Int × jMem) :=
(jm_gR 5 2 M th).bind fun r1 =>
(jm_ld 20 M r1 x1).bind fun v2 =>
jcall 5 M th (f_X5_flatWithLeft th x1 M) fun v3 M4 =>
some ((v2 + v3), M4)
theorem D_X5_lyingAcross : jDs cX5_lyingAcross [(0, .aload_n 0, 1, 1), (1, .getfield 20, 3, 4), (4, .iload_n 1, 1, 5), (5, .iaload, 1, 6), (6, .aload_n 0, 1, 7), (7, .iload_n 1, 1, 8), (8, .invokevirtual 87, 3, 11), (11, .iadd, 1, 12), (12, .ireturn, 1, 13)] := by unfold jDs; decide +kernel
set_option maxRecDepth 100000 in
set_option maxHeartbeats 4000000 in
theorem c_X5_lyingAcross {E : jE} {th : Nat} {x1 : Int} {M : jMem} {r : Int} {M' : jMem} (h : f_X5_lyingAcross th x1 M = some (r, M')) : jMet E yX5_lyingAcross cX5_lyingAcross 2 (some .int) 4 0 0 [q_r E th, q_i x1] M (some (q_i r)) M' := by
  unfold f_X5_lyingAcross at h
  refine jMet.of RX5 rfl (by decide +kernel) (Nat.le_of_ble_eq_true rfl) [(0, q_r E th), (1, q_i x1)] rfl (fun X hC hE hr hn => ?_)
  refine jr_aload_n hC (D_X5_lyingAcross.g 0 rfl) 0 rfl ?_
  refine jr_getR hC fl_X5_20 rfl (D_X5_lyingAcross.g 1 rfl) h (fun r1 h => ?_)
  refine jr_iload_n hC (D_X5_lyingAcross.g 2 rfl) 1 rfl ?_
  refine jr_iald hC (D_X5_lyingAcross.g 3 rfl) h (fun v2 h => ?_)
  refine jr_aload_n hC (D_X5_lyingAcross.g 4 rfl) 0 rfl ?_
  refine jr_iload_n hC (D_X5_lyingAcross.g 5 rfl) 1 rfl ?_
  refine jr_cVi hC cl_X5_87 ⟨rfl, by decide⟩ (D_X5_lyingAcross.g 6 rfl) [q_i x1] h (fun r M' e => c_X5_flatWithLeft e) rfl rfl ⟨by decide, by decide⟩ (Nat.le_of_ble_eq_true rfl) ⟨Nat.le_of_ble_eq_true rfl, Nat.le_of_ble_eq_true rfl⟩ (fun v3 M4 h => ?_)
  refine jr_iadd hC (D_X5_lyingAcross.g 7 rfl) ?_
  exact jr_iret hC (D_X5_lyingAcross.g 8 rfl) hr hE h
def f_X5_onlyMate (th : Nat) (a1 : Nat) (x2 : Int) (M : jMem) : Option (Int × jMem) :=
jcall 4 M a1 (f_X4_total a1 M) fun v1 M2 =>
(jm_gR 5 2 M2 th).bind fun r3 =>
(jm_ld 20 M2 r3 x2).bind fun v4 =>
if jd_wr v4 = jd_wr v1 then (some ((x2 + 1), M2))
else (jcall 5 M2 th (f_X5_flatWithLeft th x2 M2) fun v5 M6 =>
if jd_wr v5 = jd_wr v1 then (some ((x2 - 1), M6))
else ((jm_gR 5 1 M6 th).bind fun r7 =>
(jm_ld 20 M6 r7 x2).bind fun v8 =>
if jd_wr v8 = jd_wr v1 then ((jm_gI 5 3 M6 th).bind fun v9 =>
some ((x2 + v9), M6))
else ((jm_gI 5 3 M6 th).bind fun v10 =>
jjq (some ((-1), M6)) fun j_81 =>
if jd_wr x2 < jd_wr v10 then (j_81 )
else ((jm_gR 5 1 M6 th).bind fun r11 =>
(jm_gI 5 3 M6 th).bind fun v12 =>
(jm_ld 20 M6 r11 (x2 - v12)).bind fun v13 =>
if jd_wr v13 = jd_wr v1 then ((jm_gI 5 3 M6 th).bind fun v14 =>
some ((x2 - v14), M6))
else (j_81 )))))
theorem D_X5_onlyMate : jDs cX5_onlyMate [(0, .aload_n 1, 1, 1), (1, .invokevirtual 80, 3, 4), (4, .istore_n 3, 1, 5), (5, .aload_n 0, 1, 6), (6, .getfield 20, 3, 9), (9, .iload_n 2, 1, 10), (10, .iaload, 1, 11), (11, .iload_n 3, 1, 12), (12, .if_icmp .ne 7, 3, 15), (15, .iload_n 2, 1, 16), (16, .iconst 1, 1, 17), (17, .iadd, 1, 18), (18, .ireturn, 1, 19), (19, .aload_n 0, 1, 20), (20, .iload_n 2, 1, 21), (21, .invokevirtual 87, 3, 24), (24, .iload_n 3, 1, 25), (25, .if_icmp .ne 7, 3, 28), (28, .iload_n 2, 1, 29), (29, .iconst 1, 1, 30), (30, .isub, 1, 31), (31, .ireturn, 1, 32), (32, .aload_n 0, 1, 33), (33, .getfield 16, 3, 36), (36, .iload_n 2, 1, 37), (37, .iaload, 1, 38), (38, .iload_n 3, 1, 39), (39, .if_icmp .ne 10, 3, 42), (42, .iload_n 2, 1, 43), (43, .aload_n 0, 1, 44), (44, .getfield 29, 3, 47), (47, .iadd, 1, 48), (48, .ireturn, 1, 49), (49, .iload_n 2, 1, 50), (50, .aload_n 0, 1, 51), (51, .getfield 29, 3, 54), (54, .if_icmp .lt 27, 3, 57), (57, .aload_n 0, 1, 58), (58, .getfield 16, 3, 61), (61, .iload_n 2, 1, 62), (62, .aload_n 0, 1, 63), (63, .getfield 29, 3, 66), (66, .isub, 1, 67), (67, .iaload, 1, 68), (68, .iload_n 3, 1, 69), (69, .if_icmp .ne 12, 3, 72), (72, .iload_n 2, 1, 73), (73, .aload_n 0, 1, 74), (74, .getfield 29, 3, 77), (77, .isub, 1, 78), (78, .goto 4, 3, 81), (81, .iconst (-1), 1, 82), (82, .ireturn, 1, 83)] := by unfold jDs; decide +kernel
set_option maxRecDepth 100000 in
set_option maxHeartbeats 4000000 in
theorem c_X5_onlyMate {E : jE} {th : Nat} {a1 : Nat} {x2 : Int} {M : jMem} {r : Int} {M' : jMem} (h : f_X5_onlyMate th a1 x2 M = some (r, M')) : jMet E yX5_onlyMate cX5_onlyMate 4 (some .int) 4 0 0 [q_r E th, q_r E a1, q_i x2] M (some (q_i r)) M' := by
  unfold f_X5_onlyMate at h
  refine jMet.of RX5 rfl (by decide +kernel) (Nat.le_of_ble_eq_true rfl) [(0, q_r E th), (1, q_r E a1), (2, q_i x2)] rfl (fun X hC hE hr hn => ?_)
  refine jr_aload_n hC (D_X5_onlyMate.g 0 rfl) 1 rfl ?_
  refine jr_cVi hC cl_X5_80 ⟨rfl, by decide⟩ (D_X5_onlyMate.g 1 rfl) [] h (fun r M' e => c_X4_total e) rfl rfl ⟨by decide, by decide⟩ (Nat.le_of_ble_eq_true rfl) ⟨Nat.le_of_ble_eq_true rfl, Nat.le_of_ble_eq_true rfl⟩ (fun v1 M2 h => ?_)
  refine jr_istore_n hC (D_X5_onlyMate.g 2 rfl) (by decide) rfl ?_
  refine jr_aload_n hC (D_X5_onlyMate.g 3 rfl) 1 rfl ?_
  refine jr_getR hC fl_X5_20 rfl (D_X5_onlyMate.g 4 rfl) h (fun r3 h => ?_)
  refine jr_iload_n hC (D_X5_onlyMate.g 5 rfl) 3 rfl ?_
  refine jr_iald hC (D_X5_onlyMate.g 6 rfl) h (fun v4 h => ?_)
  refine jr_iload_n hC (D_X5_onlyMate.g 7 rfl) 0 rfl ?_
  refine jr_icmp_ne hC (D_X5_onlyMate.g 8 rfl) 19 rfl h (fun h => ?_) (fun h => ?_)
  · refine jr_iload_n hC (D_X5_onlyMate.g 9 rfl) 3 rfl ?_
    refine jr_iconst hC (D_X5_onlyMate.g 10 rfl) ?_
    refine jr_iadd hC (D_X5_onlyMate.g 11 rfl) ?_
    exact jr_iret hC (D_X5_onlyMate.g 12 rfl) hr hE h
  refine jr_aload_n hC (D_X5_onlyMate.g 13 rfl) 1 rfl ?_
  refine jr_iload_n hC (D_X5_onlyMate.g 14 rfl) 3 rfl ?_
  refine jr_cVi hC cl_X5_87 ⟨rfl, by decide⟩ (D_X5_onlyMate.g 15 rfl) [q_i x2] h (fun r M' e => c_X5_flatWithLeft e) rfl rfl ⟨by decide, by decide⟩ (Nat.le_of_ble_eq_true rfl) ⟨Nat.le_of_ble_eq_true rfl, Nat.le_of_ble_eq_true rfl⟩ (fun v5 M6 h => ?_)
  refine jr_iload_n hC (D_X5_onlyMate.g 16 rfl) 0 rfl ?_
  refine jr_icmp_ne hC (D_X5_onlyMate.g 17 rfl) 32 rfl h (fun h => ?_) (fun h => ?_)
  · refine jr_iload_n hC (D_X5_onlyMate.g 18 rfl) 3 rfl ?_
    refine jr_iconst hC (D_X5_onlyMate.g 19 rfl) ?_
    refine jr_isub hC (D_X5_onlyMate.g 20 rfl) ?_
    exact jr_iret hC (D_X5_onlyMate.g 21 rfl) hr hE h
  refine jr_aload_n hC (D_X5_onlyMate.g 22 rfl) 1 rfl ?_
  refine jr_getR hC fl_X5_16 rfl (D_X5_onlyMate.g 23 rfl) h (fun r7 h => ?_)
  refine jr_iload_n hC (D_X5_onlyMate.g 24 rfl) 3 rfl ?_
  refine jr_iald hC (D_X5_onlyMate.g 25 rfl) h (fun v8 h => ?_)
  refine jr_iload_n hC (D_X5_onlyMate.g 26 rfl) 0 rfl ?_
  refine jr_icmp_ne hC (D_X5_onlyMate.g 27 rfl) 49 rfl h (fun h => ?_) (fun h => ?_)
  · refine jr_iload_n hC (D_X5_onlyMate.g 28 rfl) 3 rfl ?_
    refine jr_aload_n hC (D_X5_onlyMate.g 29 rfl) 1 rfl ?_
    refine jr_getI hC fl_X5_29 rfl (D_X5_onlyMate.g 30 rfl) h (fun v9 h => ?_)
    refine jr_iadd hC (D_X5_onlyMate.g 31 rfl) ?_
    exact jr_iret hC (D_X5_onlyMate.g 32 rfl) hr hE h
  refine jr_iload_n hC (D_X5_onlyMate.g 33 rfl) 3 rfl ?_
  refine jr_aload_n hC (D_X5_onlyMate.g 34 rfl) 1 rfl ?_
  refine jr_getI hC fl_X5_29 rfl (D_X5_onlyMate.g 35 rfl) h (fun v10 h => ?_)
  refine jr_join h (fun j => j = some (r, M') → JW E X 4 0 0 M6 81 [] []) ?_ ?_
  · intro  h
    refine jr_iconst hC (D_X5_onlyMate.g 51 rfl) ?_
    exact jr_iret hC (D_X5_onlyMate.g 52 rfl) hr hE h
  intro j_81 hj_81 h
  refine jr_icmp_lt hC (D_X5_onlyMate.g 36 rfl) 81 rfl h (fun h => ?_) (fun h => ?_)
  · refine jr_pick [] rfl ?_
    exact hj_81  h
  refine jr_aload_n hC (D_X5_onlyMate.g 37 rfl) 1 rfl ?_
  refine jr_getR hC fl_X5_16 rfl (D_X5_onlyMate.g 38 rfl) h (fun r11 h => ?_)
  refine jr_iload_n hC (D_X5_onlyMate.g 39 rfl) 3 rfl ?_
  refine jr_aload_n hC (D_X5_onlyMate.g 40 rfl) 1 rfl ?_
  refine jr_getI hC fl_X5_29 rfl (D_X5_onlyMate.g 41 rfl) h (fun v12 h => ?_)
  refine jr_isub hC (D_X5_onlyMate.g 42 rfl) ?_
  refine jr_iald hC (D_X5_onlyMate.g 43 rfl) h (fun v13 h => ?_)
  refine jr_iload_n hC (D_X5_onlyMate.g 44 rfl) 0 rfl ?_
  refine jr_icmp_ne hC (D_X5_onlyMate.g 45 rfl) 81 rfl h (fun h => ?_) (fun h => ?_)
  · refine jr_iload_n hC (D_X5_onlyMate.g 46 rfl) 3 rfl ?_
    refine jr_aload_n hC (D_X5_onlyMate.g 47 rfl) 1 rfl ?_
    refine jr_getI hC fl_X5_29 rfl (D_X5_onlyMate.g 48 rfl) h (fun v14 h => ?_)
    refine jr_isub hC (D_X5_onlyMate.g 49 rfl) ?_
    refine jr_goto hC (D_X5_onlyMate.g 50 rfl) 82 rfl ?_
    exact jr_iret hC (D_X5_onlyMate.g 52 rfl) hr hE h
  refine jr_pick [] rfl ?_
  exact hj_81  h
