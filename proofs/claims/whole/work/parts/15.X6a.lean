/-! ===== 15.X6a: by program ===== -/
def f_X6_takeAll (th : Nat) (M : jMem) : Option (Int × jMem) :=
(jm_gR 6 0 M th).bind fun r1 =>
jbd (f_J7_fill_53178 r1 (-1) M) fun _ M3 =>
(jm_gR 6 4 M3 th).bind fun r4 =>
jbd (f_J7_fill_53178 r4 (-1) M3) fun _ M6 =>
(jm_pI 6 6 M6 th 0).bind fun M7 =>
some (0, M7)
theorem D_X6_takeAll : jDs cX6_takeAll [(0, .aload_n 0, 1, 1), (1, .getfield 9, 3, 4), (4, .iconst (-1), 1, 5), (5, .invokestatic 48, 3, 8), (8, .aload_n 0, 1, 9), (9, .getfield 25, 3, 12), (12, .iconst (-1), 1, 13), (13, .invokestatic 48, 3, 16), (16, .aload_n 0, 1, 17), (17, .iconst 0, 1, 18), (18, .putfield 54, 3, 21), (21, .return_, 1, 22)] := by unfold jDs; decide +kernel
set_option maxRecDepth 100000 in
set_option maxHeartbeats 4000000 in
theorem c_X6_takeAll {E : jE} {th : Nat} {M : jMem} {r : Int} {M' : jMem} (h : f_X6_takeAll th M = some (r, M')) : jMet E yX6_takeAll cX6_takeAll 1 (none) 3 0 0 [q_r E th] M (none) M' := by
  unfold f_X6_takeAll at h
  refine jMet.of RX6 rfl (by decide +kernel) (Nat.le_of_ble_eq_true rfl) [(0, q_r E th)] rfl (fun X hC hE hr hn => ?_)
  refine jr_aload_n hC (D_X6_takeAll.g 0 rfl) 0 rfl ?_
  refine jr_getR hC fl_X6_9 rfl (D_X6_takeAll.g 1 rfl) h (fun r1 h => ?_)
  refine jr_iconst hC (D_X6_takeAll.g 2 rfl) ?_
  refine jr_cSv hC cl_X6_48 (D_X6_takeAll.g 3 rfl) [q_r E r1, q_i (-1)] h (fun r M' e => c_J7_fill_53178 e) rfl rfl ⟨by decide, by decide⟩ (Nat.le_of_ble_eq_true rfl) ⟨Nat.le_of_ble_eq_true rfl, Nat.le_of_ble_eq_true rfl⟩ (fun _ M3 h => ?_)
  refine jr_aload_n hC (D_X6_takeAll.g 4 rfl) 0 rfl ?_
  refine jr_getR hC fl_X6_25 rfl (D_X6_takeAll.g 5 rfl) h (fun r4 h => ?_)
  refine jr_iconst hC (D_X6_takeAll.g 6 rfl) ?_
  refine jr_cSv hC cl_X6_48 (D_X6_takeAll.g 7 rfl) [q_r E r4, q_i (-1)] h (fun r M' e => c_J7_fill_53178 e) rfl rfl ⟨by decide, by decide⟩ (Nat.le_of_ble_eq_true rfl) ⟨Nat.le_of_ble_eq_true rfl, Nat.le_of_ble_eq_true rfl⟩ (fun _ M6 h => ?_)
  refine jr_aload_n hC (D_X6_takeAll.g 8 rfl) 0 rfl ?_
  refine jr_iconst hC (D_X6_takeAll.g 9 rfl) ?_
  refine jr_putI hC fl_X6_54 rfl (jnfin rfl) (D_X6_takeAll.g 10 rfl) h (fun M7 _ h => ?_)
  exact jr_vret hC (D_X6_takeAll.g 11 rfl) hr hE h
def f_X6_clear (th : Nat) (x1 : Int) (M : jMem) : Option (Int × jMem) :=
jcall 6 M th (f_X6_takeAll th M) fun _ M2 =>
(jm_pI 6 5 M2 th x1).bind fun M3 =>
(jm_pI 6 7 M3 th 0).bind fun M4 =>
(jm_pI 6 8 M4 th 0).bind fun M5 =>
(jm_pI 6 9 M5 th 0).bind fun M6 =>
some (0, M6)
theorem D_X6_clear : jDs cX6_clear [(0, .aload_n 0, 1, 1), (1, .invokevirtual 32, 3, 4), (4, .aload_n 0, 1, 5), (5, .iload_n 1, 1, 6), (6, .putfield 35, 3, 9), (9, .aload_n 0, 1, 10), (10, .iconst 0, 1, 11), (11, .putfield 39, 3, 14), (14, .aload_n 0, 1, 15), (15, .iconst 0, 1, 16), (16, .putfield 42, 3, 19), (19, .aload_n 0, 1, 20), (20, .iconst 0, 1, 21), (21, .putfield 45, 3, 24), (24, .return_, 1, 25)] := by unfold jDs; decide +kernel
set_option maxRecDepth 100000 in
set_option maxHeartbeats 4000000 in
theorem c_X6_clear {E : jE} {th : Nat} {x1 : Int} {M : jMem} {r : Int} {M' : jMem} (h : f_X6_clear th x1 M = some (r, M')) : jMet E yX6_clear cX6_clear 2 (none) 4 0 0 [q_r E th, q_i x1] M (none) M' := by
  unfold f_X6_clear at h
  refine jMet.of RX6 rfl (by decide +kernel) (Nat.le_of_ble_eq_true rfl) [(0, q_r E th), (1, q_i x1)] rfl (fun X hC hE hr hn => ?_)
  refine jr_aload_n hC (D_X6_clear.g 0 rfl) 0 rfl ?_
  refine jr_cVv hC cl_X6_32 ⟨rfl, by decide⟩ (D_X6_clear.g 1 rfl) [] h (fun r M' e => c_X6_takeAll e) rfl rfl ⟨by decide, by decide⟩ (Nat.le_of_ble_eq_true rfl) ⟨Nat.le_of_ble_eq_true rfl, Nat.le_of_ble_eq_true rfl⟩ (fun _ M2 h => ?_)
  refine jr_aload_n hC (D_X6_clear.g 2 rfl) 0 rfl ?_
  refine jr_iload_n hC (D_X6_clear.g 3 rfl) 1 rfl ?_
  refine jr_putI hC fl_X6_35 rfl (jnfin rfl) (D_X6_clear.g 4 rfl) h (fun M3 _ h => ?_)
  refine jr_aload_n hC (D_X6_clear.g 5 rfl) 0 rfl ?_
  refine jr_iconst hC (D_X6_clear.g 6 rfl) ?_
  refine jr_putI hC fl_X6_39 rfl (jnfin rfl) (D_X6_clear.g 7 rfl) h (fun M4 _ h => ?_)
  refine jr_aload_n hC (D_X6_clear.g 8 rfl) 0 rfl ?_
  refine jr_iconst hC (D_X6_clear.g 9 rfl) ?_
  refine jr_putI hC fl_X6_42 rfl (jnfin rfl) (D_X6_clear.g 10 rfl) h (fun M5 _ h => ?_)
  refine jr_aload_n hC (D_X6_clear.g 11 rfl) 0 rfl ?_
  refine jr_iconst hC (D_X6_clear.g 12 rfl) ?_
  refine jr_putI hC fl_X6_45 rfl (jnfin rfl) (D_X6_clear.g 13 rfl) h (fun M6 _ h => ?_)
  exact jr_vret hC (D_X6_clear.g 14 rfl) hr hE h
def f_X6_copyOf (th : Nat) (a1 : Nat) (M : jMem) : Option (Int × jMem) :=
(jm_gR 6 0 M a1).bind fun r1 =>
(jm_gR 6 0 M th).bind fun r2 =>
(jm_cpy M r1 0 r2 0 18).bind fun M3 =>
(jm_gR 6 2 M3 a1).bind fun r4 =>
(jm_gR 6 2 M3 th).bind fun r5 =>
(jm_cpy M3 r4 0 r5 0 18).bind fun M6 =>
(jm_gR 6 3 M6 a1).bind fun r7 =>
(jm_gR 6 3 M6 th).bind fun r8 =>
(jm_cpy M6 r7 0 r8 0 18).bind fun M9 =>
(jm_gR 6 4 M9 a1).bind fun r10 =>
(jm_gR 6 4 M9 th).bind fun r11 =>
(jm_cpy M9 r10 0 r11 0 36).bind fun M12 =>
jlp2 (fun rec_62 (y2_62 : Int) (M_62 : jMem) =>
if jd_wr y2_62 < jd_wr 18 then ((jm_gR 6 1 M_62 th).bind fun r13 =>
(jm_gR 6 1 M_62 a1).bind fun r14 =>
(jm_ld 22 M_62 r14 y2_62).bind fun v15 =>
(jm_st 22 M_62 r13 y2_62 (jd_z v15)).bind fun M16 =>
rec_62 (y2_62 + 1) M16)
else ((jm_gI 6 5 M_62 a1).bind fun v17 =>
(jm_pI 6 5 M_62 th v17).bind fun M18 =>
(jm_gI 6 6 M18 a1).bind fun v19 =>
(jm_pI 6 6 M18 th v19).bind fun M20 =>
(jm_gI 6 7 M20 a1).bind fun v21 =>
(jm_pI 6 7 M20 th v21).bind fun M22 =>
(jm_gI 6 8 M22 a1).bind fun v23 =>
(jm_pI 6 8 M22 th v23).bind fun M24 =>
(jm_gI 6 9 M24 a1).bind fun v25 =>
(jm_pI 6 9 M24 th v25).bind fun M26 =>
some (0, M26))) jfuel 0 M12
theorem D_X6_copyOf : jDs cX6_copyOf [(0, .aload_n 1, 1, 1), (1, .getfield 9, 3, 4), (4, .iconst 0, 1, 5), (5, .aload_n 0, 1, 6), (6, .getfield 9, 3, 9), (9, .iconst 0, 1, 10), (10, .bipush 18, 2, 12), (12, .invokestatic 57, 3, 15), (15, .aload_n 1, 1, 16), (16, .getfield 19, 3, 19), (19, .iconst 0, 1, 20), (20, .aload_n 0, 1, 21), (21, .getfield 19, 3, 24), (24, .iconst 0, 1, 25), (25, .bipush 18, 2, 27), (27, .invokestatic 57, 3, 30), (30, .aload_n 1, 1, 31), (31, .getfield 22, 3, 34), (34, .iconst 0, 1, 35), (35, .aload_n 0, 1, 36), (36, .getfield 22, 3, 39), (39, .iconst 0, 1, 40), (40, .bipush 18, 2, 42), (42, .invokestatic 57, 3, 45), (45, .aload_n 1, 1, 46), (46, .getfield 25, 3, 49), (49, .iconst 0, 1, 50), (50, .aload_n 0, 1, 51), (51, .getfield 25, 3, 54), (54, .iconst 0, 1, 55), (55, .bipush 36, 2, 57), (57, .invokestatic 57, 3, 60), (60, .iconst 0, 1, 61), (61, .istore_n 2, 1, 62), (62, .iload_n 2, 1, 63), (63, .bipush 18, 2, 65), (65, .if_icmp .ge 21, 3, 68), (68, .aload_n 0, 1, 69), (69, .getfield 15, 3, 72), (72, .iload_n 2, 1, 73), (73, .aload_n 1, 1, 74), (74, .getfield 15, 3, 77), (77, .iload_n 2, 1, 78), (78, .baload, 1, 79), (79, .bastore, 1, 80), (80, .iinc 2 1, 3, 83), (83, .goto (-21), 3, 86), (86, .aload_n 0, 1, 87), (87, .aload_n 1, 1, 88), (88, .getfield 35, 3, 91), (91, .putfield 35, 3, 94), (94, .aload_n 0, 1, 95), (95, .aload_n 1, 1, 96), (96, .getfield 54, 3, 99), (99, .putfield 54, 3, 102), (102, .aload_n 0, 1, 103), (103, .aload_n 1, 1, 104), (104, .getfield 39, 3, 107), (107, .putfield 39, 3, 110), (110, .aload_n 0, 1, 111), (111, .aload_n 1, 1, 112), (112, .getfield 42, 3, 115), (115, .putfield 42, 3, 118), (118, .aload_n 0, 1, 119), (119, .aload_n 1, 1, 120), (120, .getfield 45, 3, 123), (123, .putfield 45, 3, 126), (126, .return_, 1, 127)] := by unfold jDs; decide +kernel
set_option maxRecDepth 100000 in
set_option maxHeartbeats 4000000 in
theorem c_X6_copyOf {E : jE} {th : Nat} {a1 : Nat} {M : jMem} {r : Int} {M' : jMem} (h : f_X6_copyOf th a1 M = some (r, M')) : jMet E yX6_copyOf cX6_copyOf 3 (none) 2 0 0 [q_r E th, q_r E a1] M (none) M' := by
  unfold f_X6_copyOf at h
  refine jMet.of RX6 rfl (by decide +kernel) (Nat.le_of_ble_eq_true rfl) [(0, q_r E th), (1, q_r E a1)] rfl (fun X hC hE hr hn => ?_)
  refine jr_aload_n hC (D_X6_copyOf.g 0 rfl) 1 rfl ?_
  refine jr_getR hC fl_X6_9 rfl (D_X6_copyOf.g 1 rfl) h (fun r1 h => ?_)
  refine jr_iconst hC (D_X6_copyOf.g 2 rfl) ?_
  refine jr_aload_n hC (D_X6_copyOf.g 3 rfl) 0 rfl ?_
  refine jr_getR hC fl_X6_9 rfl (D_X6_copyOf.g 4 rfl) h (fun r2 h => ?_)
  refine jr_iconst hC (D_X6_copyOf.g 5 rfl) ?_
  refine jr_bipush hC (D_X6_copyOf.g 6 rfl) bp_18 ?_
  refine jr_cpy hC (D_X6_copyOf.g 7 rfl) ⟨rfl, rfl⟩ (by decide) (Nat.le_of_ble_eq_true rfl) h (fun M3 _ h => ?_)
  refine jr_aload_n hC (D_X6_copyOf.g 8 rfl) 1 rfl ?_
  refine jr_getR hC fl_X6_19 rfl (D_X6_copyOf.g 9 rfl) h (fun r4 h => ?_)
  refine jr_iconst hC (D_X6_copyOf.g 10 rfl) ?_
  refine jr_aload_n hC (D_X6_copyOf.g 11 rfl) 0 rfl ?_
  refine jr_getR hC fl_X6_19 rfl (D_X6_copyOf.g 12 rfl) h (fun r5 h => ?_)
  refine jr_iconst hC (D_X6_copyOf.g 13 rfl) ?_
  refine jr_bipush hC (D_X6_copyOf.g 14 rfl) bp_18 ?_
  refine jr_cpy hC (D_X6_copyOf.g 15 rfl) ⟨rfl, rfl⟩ (by decide) (Nat.le_of_ble_eq_true rfl) h (fun M6 _ h => ?_)
  refine jr_aload_n hC (D_X6_copyOf.g 16 rfl) 1 rfl ?_
  refine jr_getR hC fl_X6_22 rfl (D_X6_copyOf.g 17 rfl) h (fun r7 h => ?_)
  refine jr_iconst hC (D_X6_copyOf.g 18 rfl) ?_
  refine jr_aload_n hC (D_X6_copyOf.g 19 rfl) 0 rfl ?_
  refine jr_getR hC fl_X6_22 rfl (D_X6_copyOf.g 20 rfl) h (fun r8 h => ?_)
  refine jr_iconst hC (D_X6_copyOf.g 21 rfl) ?_
  refine jr_bipush hC (D_X6_copyOf.g 22 rfl) bp_18 ?_
  refine jr_cpy hC (D_X6_copyOf.g 23 rfl) ⟨rfl, rfl⟩ (by decide) (Nat.le_of_ble_eq_true rfl) h (fun M9 _ h => ?_)
  refine jr_aload_n hC (D_X6_copyOf.g 24 rfl) 1 rfl ?_
  refine jr_getR hC fl_X6_25 rfl (D_X6_copyOf.g 25 rfl) h (fun r10 h => ?_)
  refine jr_iconst hC (D_X6_copyOf.g 26 rfl) ?_
  refine jr_aload_n hC (D_X6_copyOf.g 27 rfl) 0 rfl ?_
  refine jr_getR hC fl_X6_25 rfl (D_X6_copyOf.g 28 rfl) h (fun r11 h => ?_)
  refine jr_iconst hC (D_X6_copyOf.g 29 rfl) ?_
  refine jr_bipush hC (D_X6_copyOf.g 30 rfl) bp_36 ?_
  refine jr_cpy hC (D_X6_copyOf.g 31 rfl) ⟨rfl, rfl⟩ (by decide) (Nat.le_of_ble_eq_true rfl) h (fun M12 _ h => ?_)
  refine jr_iconst hC (D_X6_copyOf.g 32 rfl) ?_
  refine jr_istore_n hC (D_X6_copyOf.g 33 rfl) (by decide) rfl ?_
  refine jr_pick [1, 2, 0] rfl ?_
  refine jr_lp2 (fun (y2_62 : Int) (M_62 : jMem) => JW E X 3 0 0 M_62 62 [(0, q_r E th), (1, q_r E a1), (2, q_i y2_62)] []) ?_ jfuel 0 M12 h
  intro rec_62 hrec_62 y2_62 M_62 h
  refine jr_iload_n hC (D_X6_copyOf.g 34 rfl) 2 rfl ?_
  refine jr_bipush hC (D_X6_copyOf.g 35 rfl) bp_18 ?_
  refine jr_icmp_ge hC (D_X6_copyOf.g 36 rfl) 86 rfl h (fun h => ?_) (fun h => ?_)
  · refine jr_aload_n hC (D_X6_copyOf.g 37 rfl) 0 rfl ?_
    refine jr_getR hC fl_X6_15 rfl (D_X6_copyOf.g 38 rfl) h (fun r13 h => ?_)
    refine jr_iload_n hC (D_X6_copyOf.g 39 rfl) 2 rfl ?_
    refine jr_aload_n hC (D_X6_copyOf.g 40 rfl) 1 rfl ?_
    refine jr_getR hC fl_X6_15 rfl (D_X6_copyOf.g 41 rfl) h (fun r14 h => ?_)
    refine jr_iload_n hC (D_X6_copyOf.g 42 rfl) 2 rfl ?_
    refine jr_zald hC (D_X6_copyOf.g 43 rfl) h (fun v15 h => ?_)
    refine jr_zast hC (D_X6_copyOf.g 44 rfl) h (fun M16 _ h => ?_)
    refine jr_iinc hC (D_X6_copyOf.g 45 rfl) 2 rfl (by decide) rfl ?_
    refine jr_goto hC (D_X6_copyOf.g 46 rfl) 62 rfl ?_
    refine jr_pick [1, 2, 0] rfl ?_
    exact hrec_62 (y2_62 + 1) M16 h
  refine jr_aload_n hC (D_X6_copyOf.g 47 rfl) 0 rfl ?_
  refine jr_aload_n hC (D_X6_copyOf.g 48 rfl) 1 rfl ?_
  refine jr_getI hC fl_X6_35 rfl (D_X6_copyOf.g 49 rfl) h (fun v17 h => ?_)
  refine jr_putI hC fl_X6_35 rfl (jnfin rfl) (D_X6_copyOf.g 50 rfl) h (fun M18 _ h => ?_)
  refine jr_aload_n hC (D_X6_copyOf.g 51 rfl) 0 rfl ?_
  refine jr_aload_n hC (D_X6_copyOf.g 52 rfl) 1 rfl ?_
  refine jr_getI hC fl_X6_54 rfl (D_X6_copyOf.g 53 rfl) h (fun v19 h => ?_)
  refine jr_putI hC fl_X6_54 rfl (jnfin rfl) (D_X6_copyOf.g 54 rfl) h (fun M20 _ h => ?_)
  refine jr_aload_n hC (D_X6_copyOf.g 55 rfl) 0 rfl ?_
  refine jr_aload_n hC (D_X6_copyOf.g 56 rfl) 1 rfl ?_
  refine jr_getI hC fl_X6_39 rfl (D_X6_copyOf.g 57 rfl) h (fun v21 h => ?_)
  refine jr_putI hC fl_X6_39 rfl (jnfin rfl) (D_X6_copyOf.g 58 rfl) h (fun M22 _ h => ?_)
  refine jr_aload_n hC (D_X6_copyOf.g 59 rfl) 0 rfl ?_
  refine jr_aload_n hC (D_X6_copyOf.g 60 rfl) 1 rfl ?_
  refine jr_getI hC fl_X6_42 rfl (D_X6_copyOf.g 61 rfl) h (fun v23 h => ?_)
  refine jr_putI hC fl_X6_42 rfl (jnfin rfl) (D_X6_copyOf.g 62 rfl) h (fun M24 _ h => ?_)
  refine jr_aload_n hC (D_X6_copyOf.g 63 rfl) 0 rfl ?_
  refine jr_aload_n hC (D_X6_copyOf.g 64 rfl) 1 rfl ?_
  refine jr_getI hC fl_X6_45 rfl (D_X6_copyOf.g 65 rfl) h (fun v25 h => ?_)
  refine jr_putI hC fl_X6_45 rfl (jnfin rfl) (D_X6_copyOf.g 66 rfl) h (fun M26 _ h => ?_)
  exact jr_vret hC (D_X6_copyOf.g 67 rfl) hr hE h
def f_X6_lies (th : Nat) (x1 : Int) (M : jMem) : Option (Int × jMem) :=
(jm_gR 6 0 M th).bind fun r1 =>
(jm_ld 20 M r1 x1).bind fun v2 =>
if jd_wr v2 = jd_wr (-1) then (jm_z 0 M)
else (jm_z 1 M)
theorem D_X6_lies : jDs cX6_lies [(0, .aload_n 0, 1, 1), (1, .getfield 9, 3, 4), (4, .iload_n 1, 1, 5), (5, .iaload, 1, 6), (6, .iconst (-1), 1, 7), (7, .if_icmp .eq 7, 3, 10), (10, .iconst 1, 1, 11), (11, .goto 4, 3, 14), (14, .iconst 0, 1, 15), (15, .ireturn, 1, 16)] := by unfold jDs; decide +kernel
set_option maxRecDepth 100000 in
set_option maxHeartbeats 4000000 in
theorem c_X6_lies {E : jE} {th : Nat} {x1 : Int} {M : jMem} {r : Int} {M' : jMem} (h : f_X6_lies th x1 M = some (r, M')) : jMet E yX6_lies cX6_lies 2 (some .boolean) 2 0 0 [q_r E th, q_i x1] M (some (q_i r)) M' := by
  unfold f_X6_lies at h
  refine jMet.of RX6 rfl (by decide +kernel) (Nat.le_of_ble_eq_true rfl) [(0, q_r E th), (1, q_i x1)] rfl (fun X hC hE hr hn => ?_)
  refine jr_aload_n hC (D_X6_lies.g 0 rfl) 0 rfl ?_
  refine jr_getR hC fl_X6_9 rfl (D_X6_lies.g 1 rfl) h (fun r1 h => ?_)
  refine jr_iload_n hC (D_X6_lies.g 2 rfl) 1 rfl ?_
  refine jr_iald hC (D_X6_lies.g 3 rfl) h (fun v2 h => ?_)
  refine jr_iconst hC (D_X6_lies.g 4 rfl) ?_
  refine jr_icmp_eq hC (D_X6_lies.g 5 rfl) 14 rfl h (fun h => ?_) (fun h => ?_)
  · refine jr_iconst hC (D_X6_lies.g 8 rfl) ?_
    exact jr_zret hC (D_X6_lies.g 9 rfl) hr hE h
  refine jr_iconst hC (D_X6_lies.g 6 rfl) ?_
  refine jr_goto hC (D_X6_lies.g 7 rfl) 15 rfl ?_
  exact jr_zret hC (D_X6_lies.g 9 rfl) hr hE h
def f_X6_leastCouple (th : Nat) (M : jMem) : Option (Int × jMem) :=
jlp2 (fun rec_2 (y1_2 : Int) (M_2 : jMem) =>
if jd_wr y1_2 < jd_wr 18 then (jcall 6 M_2 th (f_X6_lies th y1_2 M_2) fun v1 M2 =>
if jd_wr v1 = 0 then (some (y1_2, M2))
else (rec_2 (y1_2 + 1) M2))
else (some ((-1), M_2))) jfuel 0 M
theorem D_X6_leastCouple : jDs cX6_leastCouple [(0, .iconst 0, 1, 1), (1, .istore_n 1, 1, 2), (2, .iload_n 1, 1, 3), (3, .bipush 18, 2, 5), (5, .if_icmp .ge 19, 3, 8), (8, .aload_n 0, 1, 9), (9, .iload_n 1, 1, 10), (10, .invokevirtual 63, 3, 13), (13, .ifCond .ne 5, 3, 16), (16, .iload_n 1, 1, 17), (17, .ireturn, 1, 18), (18, .iinc 1 1, 3, 21), (21, .goto (-19), 3, 24), (24, .iconst (-1), 1, 25), (25, .ireturn, 1, 26)] := by unfold jDs; decide +kernel
set_option maxRecDepth 100000 in
set_option maxHeartbeats 4000000 in
theorem c_X6_leastCouple {E : jE} {th : Nat} {M : jMem} {r : Int} {M' : jMem} (h : f_X6_leastCouple th M = some (r, M')) : jMet E yX6_leastCouple cX6_leastCouple 2 (some .int) 3 0 0 [q_r E th] M (some (q_i r)) M' := by
  unfold f_X6_leastCouple at h
  refine jMet.of RX6 rfl (by decide +kernel) (Nat.le_of_ble_eq_true rfl) [(0, q_r E th)] rfl (fun X hC hE hr hn => ?_)
  refine jr_iconst hC (D_X6_leastCouple.g 0 rfl) ?_
  refine jr_istore_n hC (D_X6_leastCouple.g 1 rfl) (by decide) rfl ?_
  refine jr_pick [1, 0] rfl ?_
  refine jr_lp2 (fun (y1_2 : Int) (M_2 : jMem) => JW E X 2 0 0 M_2 2 [(0, q_r E th), (1, q_i y1_2)] []) ?_ jfuel 0 M h
  intro rec_2 hrec_2 y1_2 M_2 h
  refine jr_iload_n hC (D_X6_leastCouple.g 2 rfl) 1 rfl ?_
  refine jr_bipush hC (D_X6_leastCouple.g 3 rfl) bp_18 ?_
  refine jr_icmp_ge hC (D_X6_leastCouple.g 4 rfl) 24 rfl h (fun h => ?_) (fun h => ?_)
  · refine jr_aload_n hC (D_X6_leastCouple.g 5 rfl) 0 rfl ?_
    refine jr_iload_n hC (D_X6_leastCouple.g 6 rfl) 1 rfl ?_
    refine jr_cVi hC cl_X6_63 ⟨rfl, by decide⟩ (D_X6_leastCouple.g 7 rfl) [q_i y1_2] h (fun r M' e => c_X6_lies e) rfl rfl ⟨by decide, by decide⟩ (Nat.le_of_ble_eq_true rfl) ⟨Nat.le_of_ble_eq_true rfl, Nat.le_of_ble_eq_true rfl⟩ (fun v1 M2 h => ?_)
    refine jr_if_ne hC (D_X6_leastCouple.g 8 rfl) 18 rfl h (fun h => ?_) (fun h => ?_)
    · refine jr_iload_n hC (D_X6_leastCouple.g 9 rfl) 1 rfl ?_
      exact jr_iret hC (D_X6_leastCouple.g 10 rfl) hr hE h
    refine jr_iinc hC (D_X6_leastCouple.g 11 rfl) 1 rfl (by decide) rfl ?_
    refine jr_goto hC (D_X6_leastCouple.g 12 rfl) 2 rfl ?_
    refine jr_pick [1, 0] rfl ?_
    exact hrec_2 (y1_2 + 1) M2 h
  refine jr_iconst hC (D_X6_leastCouple.g 13 rfl) ?_
  exact jr_iret hC (D_X6_leastCouple.g 14 rfl) hr hE h
def f_X6_second (th : Nat) (x1 : Int) (M : jMem) : Option (Int × jMem) :=
(jm_gR 6 0 M th).bind fun r1 =>
(jm_ld 20 M r1 x1).bind fun v2 =>
(jm_gR 6 1 M th).bind fun r3 =>
(jm_ld 22 M r3 x1).bind fun v4 =>
jjq (fun (z0_23 : Int) =>
some ((v2 + z0_23), M)) fun j_23 =>
if jd_wr v4 = 0 then ((jm_gI 6 5 M th).bind fun v5 =>
j_23 v5)
else (j_23 1)
theorem D_X6_second : jDs cX6_second [(0, .aload_n 0, 1, 1), (1, .getfield 9, 3, 4), (4, .iload_n 1, 1, 5), (5, .iaload, 1, 6), (6, .aload_n 0, 1, 7), (7, .getfield 15, 3, 10), (10, .iload_n 1, 1, 11), (11, .baload, 1, 12), (12, .ifCond .eq 7, 3, 15), (15, .iconst 1, 1, 16), (16, .goto 7, 3, 19), (19, .aload_n 0, 1, 20), (20, .getfield 35, 3, 23), (23, .iadd, 1, 24), (24, .ireturn, 1, 25)] := by unfold jDs; decide +kernel
set_option maxRecDepth 100000 in
set_option maxHeartbeats 4000000 in
theorem c_X6_second {E : jE} {th : Nat} {x1 : Int} {M : jMem} {r : Int} {M' : jMem} (h : f_X6_second th x1 M = some (r, M')) : jMet E yX6_second cX6_second 2 (some .int) 2 0 0 [q_r E th, q_i x1] M (some (q_i r)) M' := by
  unfold f_X6_second at h
  refine jMet.of RX6 rfl (by decide +kernel) (Nat.le_of_ble_eq_true rfl) [(0, q_r E th), (1, q_i x1)] rfl (fun X hC hE hr hn => ?_)
  refine jr_aload_n hC (D_X6_second.g 0 rfl) 0 rfl ?_
  refine jr_getR hC fl_X6_9 rfl (D_X6_second.g 1 rfl) h (fun r1 h => ?_)
  refine jr_iload_n hC (D_X6_second.g 2 rfl) 1 rfl ?_
  refine jr_iald hC (D_X6_second.g 3 rfl) h (fun v2 h => ?_)
  refine jr_aload_n hC (D_X6_second.g 4 rfl) 0 rfl ?_
  refine jr_getR hC fl_X6_15 rfl (D_X6_second.g 5 rfl) h (fun r3 h => ?_)
  refine jr_iload_n hC (D_X6_second.g 6 rfl) 1 rfl ?_
  refine jr_zald hC (D_X6_second.g 7 rfl) h (fun v4 h => ?_)
  refine jr_join h (fun j => ∀ (z0_23 : Int), j z0_23 = some (r, M') → JW E X 2 0 0 M 23 [] [q_i z0_23, q_i v2]) ?_ ?_
  · intro z0_23 h
    refine jr_iadd hC (D_X6_second.g 13 rfl) ?_
    exact jr_iret hC (D_X6_second.g 14 rfl) hr hE h
  intro j_23 hj_23 h
  refine jr_if_eq hC (D_X6_second.g 8 rfl) 19 rfl h (fun h => ?_) (fun h => ?_)
  · refine jr_aload_n hC (D_X6_second.g 11 rfl) 0 rfl ?_
    refine jr_getI hC fl_X6_35 rfl (D_X6_second.g 12 rfl) h (fun v5 h => ?_)
    refine jr_pick [] rfl ?_
    exact hj_23 v5 h
  refine jr_iconst hC (D_X6_second.g 9 rfl) ?_
  refine jr_goto hC (D_X6_second.g 10 rfl) 23 rfl ?_
  refine jr_pick [] rfl ?_
  exact hj_23 1 h
def f_X6_otherCell (th : Nat) (x1 : Int) (x2 : Int) (M : jMem) : Option (Int × jMem) :=
(jm_gR 6 0 M th).bind fun r1 =>
(jm_ld 20 M r1 x1).bind fun v2 =>
if jd_wr x2 = jd_wr v2 then (jcall 6 M th (f_X6_second th x1 M) fun v3 M4 =>
some (v3, M4))
else ((jm_gR 6 0 M th).bind fun r5 =>
(jm_ld 20 M r5 x1).bind fun v6 =>
some (v6, M))
theorem D_X6_otherCell : jDs cX6_otherCell [(0, .iload_n 2, 1, 1), (1, .aload_n 0, 1, 2), (2, .getfield 9, 3, 5), (5, .iload_n 1, 1, 6), (6, .iaload, 1, 7), (7, .if_icmp .ne 11, 3, 10), (10, .aload_n 0, 1, 11), (11, .iload_n 1, 1, 12), (12, .invokevirtual 67, 3, 15), (15, .goto 9, 3, 18), (18, .aload_n 0, 1, 19), (19, .getfield 9, 3, 22), (22, .iload_n 1, 1, 23), (23, .iaload, 1, 24), (24, .ireturn, 1, 25)] := by unfold jDs; decide +kernel
set_option maxRecDepth 100000 in
set_option maxHeartbeats 4000000 in
theorem c_X6_otherCell {E : jE} {th : Nat} {x1 : Int} {x2 : Int} {M : jMem} {r : Int} {M' : jMem} (h : f_X6_otherCell th x1 x2 M = some (r, M')) : jMet E yX6_otherCell cX6_otherCell 3 (some .int) 3 0 0 [q_r E th, q_i x1, q_i x2] M (some (q_i r)) M' := by
  unfold f_X6_otherCell at h
  refine jMet.of RX6 rfl (by decide +kernel) (Nat.le_of_ble_eq_true rfl) [(0, q_r E th), (1, q_i x1), (2, q_i x2)] rfl (fun X hC hE hr hn => ?_)
  refine jr_iload_n hC (D_X6_otherCell.g 0 rfl) 2 rfl ?_
  refine jr_aload_n hC (D_X6_otherCell.g 1 rfl) 0 rfl ?_
  refine jr_getR hC fl_X6_9 rfl (D_X6_otherCell.g 2 rfl) h (fun r1 h => ?_)
  refine jr_iload_n hC (D_X6_otherCell.g 3 rfl) 1 rfl ?_
  refine jr_iald hC (D_X6_otherCell.g 4 rfl) h (fun v2 h => ?_)
  refine jr_icmp_ne hC (D_X6_otherCell.g 5 rfl) 18 rfl h (fun h => ?_) (fun h => ?_)
  · refine jr_aload_n hC (D_X6_otherCell.g 6 rfl) 0 rfl ?_
    refine jr_iload_n hC (D_X6_otherCell.g 7 rfl) 1 rfl ?_
    refine jr_cVi hC cl_X6_67 ⟨rfl, by decide⟩ (D_X6_otherCell.g 8 rfl) [q_i x1] h (fun r M' e => c_X6_second e) rfl rfl ⟨by decide, by decide⟩ (Nat.le_of_ble_eq_true rfl) ⟨Nat.le_of_ble_eq_true rfl, Nat.le_of_ble_eq_true rfl⟩ (fun v3 M4 h => ?_)
    refine jr_goto hC (D_X6_otherCell.g 9 rfl) 24 rfl ?_
    exact jr_iret hC (D_X6_otherCell.g 14 rfl) hr hE h
  refine jr_aload_n hC (D_X6_otherCell.g 10 rfl) 0 rfl ?_
  refine jr_getR hC fl_X6_9 rfl (D_X6_otherCell.g 11 rfl) h (fun r5 h => ?_)
  refine jr_iload_n hC (D_X6_otherCell.g 12 rfl) 1 rfl ?_
  refine jr_iald hC (D_X6_otherCell.g 13 rfl) h (fun v6 h => ?_)
  exact jr_iret hC (D_X6_otherCell.g 14 rfl) hr hE h
def f_X6_occupy (th : Nat) (x1 : Int) (x2 : Int) (x3 : Int) (M : jMem) : Option (Int × jMem) :=
(jm_gR 6 0 M th).bind fun r1 =>
(jm_st 20 M r1 x1 x2).bind fun M2 =>
(jm_gR 6 1 M2 th).bind fun r3 =>
(jm_st 22 M2 r3 x1 (jd_z x3)).bind fun M4 =>
(jm_gR 6 4 M4 th).bind fun r5 =>
(jm_st 20 M4 r5 x2 x1).bind fun M6 =>
(jm_gR 6 4 M6 th).bind fun r7 =>
jcall 6 M6 th (f_X6_second th x1 M6) fun v8 M9 =>
(jm_st 20 M9 r7 v8 x1).bind fun M10 =>
some (0, M10)
theorem D_X6_occupy : jDs cX6_occupy [(0, .aload_n 0, 1, 1), (1, .getfield 9, 3, 4), (4, .iload_n 1, 1, 5), (5, .iload_n 2, 1, 6), (6, .iastore, 1, 7), (7, .aload_n 0, 1, 8), (8, .getfield 15, 3, 11), (11, .iload_n 1, 1, 12), (12, .iload_n 3, 1, 13), (13, .bastore, 1, 14), (14, .aload_n 0, 1, 15), (15, .getfield 25, 3, 18), (18, .iload_n 2, 1, 19), (19, .iload_n 1, 1, 20), (20, .iastore, 1, 21), (21, .aload_n 0, 1, 22), (22, .getfield 25, 3, 25), (25, .aload_n 0, 1, 26), (26, .iload_n 1, 1, 27), (27, .invokevirtual 67, 3, 30), (30, .iload_n 1, 1, 31), (31, .iastore, 1, 32), (32, .return_, 1, 33)] := by unfold jDs; decide +kernel
set_option maxRecDepth 100000 in
set_option maxHeartbeats 4000000 in
theorem c_X6_occupy {E : jE} {th : Nat} {x1 : Int} {x2 : Int} {x3 : Int} {M : jMem} {r : Int} {M' : jMem} (h : f_X6_occupy th x1 x2 x3 M = some (r, M')) : jMet E yX6_occupy cX6_occupy 4 (none) 3 0 0 [q_r E th, q_i x1, q_i x2, q_i x3] M (none) M' := by
  unfold f_X6_occupy at h
  refine jMet.of RX6 rfl (by decide +kernel) (Nat.le_of_ble_eq_true rfl) [(0, q_r E th), (1, q_i x1), (2, q_i x2), (3, q_i x3)] rfl (fun X hC hE hr hn => ?_)
  refine jr_aload_n hC (D_X6_occupy.g 0 rfl) 0 rfl ?_
  refine jr_getR hC fl_X6_9 rfl (D_X6_occupy.g 1 rfl) h (fun r1 h => ?_)
  refine jr_iload_n hC (D_X6_occupy.g 2 rfl) 1 rfl ?_
  refine jr_iload_n hC (D_X6_occupy.g 3 rfl) 2 rfl ?_
  refine jr_iast hC (D_X6_occupy.g 4 rfl) h (fun M2 _ h => ?_)
  refine jr_aload_n hC (D_X6_occupy.g 5 rfl) 0 rfl ?_
  refine jr_getR hC fl_X6_15 rfl (D_X6_occupy.g 6 rfl) h (fun r3 h => ?_)
  refine jr_iload_n hC (D_X6_occupy.g 7 rfl) 1 rfl ?_
  refine jr_iload_n hC (D_X6_occupy.g 8 rfl) 3 rfl ?_
  refine jr_zast hC (D_X6_occupy.g 9 rfl) h (fun M4 _ h => ?_)
  refine jr_aload_n hC (D_X6_occupy.g 10 rfl) 0 rfl ?_
  refine jr_getR hC fl_X6_25 rfl (D_X6_occupy.g 11 rfl) h (fun r5 h => ?_)
  refine jr_iload_n hC (D_X6_occupy.g 12 rfl) 2 rfl ?_
  refine jr_iload_n hC (D_X6_occupy.g 13 rfl) 1 rfl ?_
  refine jr_iast hC (D_X6_occupy.g 14 rfl) h (fun M6 _ h => ?_)
  refine jr_aload_n hC (D_X6_occupy.g 15 rfl) 0 rfl ?_
  refine jr_getR hC fl_X6_25 rfl (D_X6_occupy.g 16 rfl) h (fun r7 h => ?_)
  refine jr_aload_n hC (D_X6_occupy.g 17 rfl) 0 rfl ?_
  refine jr_iload_n hC (D_X6_occupy.g 18 rfl) 1 rfl ?_
  refine jr_cVi hC cl_X6_67 ⟨rfl, by decide⟩ (D_X6_occupy.g 19 rfl) [q_i x1] h (fun r M' e => c_X6_second e) rfl rfl ⟨by decide, by decide⟩ (Nat.le_of_ble_eq_true rfl) ⟨Nat.le_of_ble_eq_true rfl, Nat.le_of_ble_eq_true rfl⟩ (fun v8 M9 h => ?_)
  refine jr_iload_n hC (D_X6_occupy.g 20 rfl) 1 rfl ?_
  refine jr_iast hC (D_X6_occupy.g 21 rfl) h (fun M10 _ h => ?_)
  exact jr_vret hC (D_X6_occupy.g 22 rfl) hr hE h
def f_X6_put (th : Nat) (x1 : Int) (x2 : Int) (x3 : Int) (M : jMem) : Option (Int × jMem) :=
jcall 6 M th (f_X6_occupy th x1 x2 x3 M) fun _ M2 =>
(jm_gR 6 2 M2 th).bind fun r3 =>
(jm_st 20 M2 r3 x1 0).bind fun M4 =>
(jm_gR 6 3 M4 th).bind fun r5 =>
(jm_st 20 M4 r5 x1 0).bind fun M6 =>
(jm_gI 6 6 M6 th).bind fun v7 =>
(jm_pI 6 6 M6 th (v7 + 1)).bind fun M8 =>
some (0, M8)
theorem D_X6_put : jDs cX6_put [(0, .aload_n 0, 1, 1), (1, .iload_n 1, 1, 2), (2, .iload_n 2, 1, 3), (3, .iload_n 3, 1, 4), (4, .invokevirtual 71, 3, 7), (7, .aload_n 0, 1, 8), (8, .getfield 19, 3, 11), (11, .iload_n 1, 1, 12), (12, .iconst 0, 1, 13), (13, .iastore, 1, 14), (14, .aload_n 0, 1, 15), (15, .getfield 22, 3, 18), (18, .iload_n 1, 1, 19), (19, .iconst 0, 1, 20), (20, .iastore, 1, 21), (21, .aload_n 0, 1, 22), (22, .dup, 1, 23), (23, .getfield 54, 3, 26), (26, .iconst 1, 1, 27), (27, .iadd, 1, 28), (28, .putfield 54, 3, 31), (31, .return_, 1, 32)] := by unfold jDs; decide +kernel
set_option maxRecDepth 100000 in
set_option maxHeartbeats 4000000 in
theorem c_X6_put {E : jE} {th : Nat} {x1 : Int} {x2 : Int} {x3 : Int} {M : jMem} {r : Int} {M' : jMem} (h : f_X6_put th x1 x2 x3 M = some (r, M')) : jMet E yX6_put cX6_put 4 (none) 4 0 0 [q_r E th, q_i x1, q_i x2, q_i x3] M (none) M' := by
  unfold f_X6_put at h
  refine jMet.of RX6 rfl (by decide +kernel) (Nat.le_of_ble_eq_true rfl) [(0, q_r E th), (1, q_i x1), (2, q_i x2), (3, q_i x3)] rfl (fun X hC hE hr hn => ?_)
  refine jr_aload_n hC (D_X6_put.g 0 rfl) 0 rfl ?_
  refine jr_iload_n hC (D_X6_put.g 1 rfl) 1 rfl ?_
  refine jr_iload_n hC (D_X6_put.g 2 rfl) 2 rfl ?_
  refine jr_iload_n hC (D_X6_put.g 3 rfl) 3 rfl ?_
  refine jr_cVv hC cl_X6_71 ⟨rfl, by decide⟩ (D_X6_put.g 4 rfl) [q_i x1, q_i x2, q_i x3] h (fun r M' e => c_X6_occupy e) rfl rfl ⟨by decide, by decide⟩ (Nat.le_of_ble_eq_true rfl) ⟨Nat.le_of_ble_eq_true rfl, Nat.le_of_ble_eq_true rfl⟩ (fun _ M2 h => ?_)
  refine jr_aload_n hC (D_X6_put.g 5 rfl) 0 rfl ?_
  refine jr_getR hC fl_X6_19 rfl (D_X6_put.g 6 rfl) h (fun r3 h => ?_)
  refine jr_iload_n hC (D_X6_put.g 7 rfl) 1 rfl ?_
  refine jr_iconst hC (D_X6_put.g 8 rfl) ?_
  refine jr_iast hC (D_X6_put.g 9 rfl) h (fun M4 _ h => ?_)
  refine jr_aload_n hC (D_X6_put.g 10 rfl) 0 rfl ?_
  refine jr_getR hC fl_X6_22 rfl (D_X6_put.g 11 rfl) h (fun r5 h => ?_)
  refine jr_iload_n hC (D_X6_put.g 12 rfl) 1 rfl ?_
  refine jr_iconst hC (D_X6_put.g 13 rfl) ?_
  refine jr_iast hC (D_X6_put.g 14 rfl) h (fun M6 _ h => ?_)
  refine jr_aload_n hC (D_X6_put.g 15 rfl) 0 rfl ?_
  refine jr_dup hC (D_X6_put.g 16 rfl) rfl ?_
  refine jr_getI hC fl_X6_54 rfl (D_X6_put.g 17 rfl) h (fun v7 h => ?_)
  refine jr_iconst hC (D_X6_put.g 18 rfl) ?_
  refine jr_iadd hC (D_X6_put.g 19 rfl) ?_
  refine jr_putI hC fl_X6_54 rfl (jnfin rfl) (D_X6_put.g 20 rfl) h (fun M8 _ h => ?_)
  exact jr_vret hC (D_X6_put.g 21 rfl) hr hE h
def f_X6_turnTo (th : Nat) (x1 : Int) (x2 : Int) (x3 : Int) (M : jMem) : Option (Int × jMem) :=
jcall 6 M th (f_X6_occupy th x1 x2 x3 M) fun _ M2 =>
(jm_gR 6 2 M2 th).bind fun r3 =>
(jm_ld 20 M2 r3 x1).bind fun v4 =>
(jm_st 20 M2 r3 x1 (v4 + 1)).bind fun M5 =>
some (0, M5)
theorem D_X6_turnTo : jDs cX6_turnTo [(0, .aload_n 0, 1, 1), (1, .iload_n 1, 1, 2), (2, .iload_n 2, 1, 3), (3, .iload_n 3, 1, 4), (4, .invokevirtual 71, 3, 7), (7, .aload_n 0, 1, 8), (8, .getfield 19, 3, 11), (11, .iload_n 1, 1, 12), (12, .dup2, 1, 13), (13, .iaload, 1, 14), (14, .iconst 1, 1, 15), (15, .iadd, 1, 16), (16, .iastore, 1, 17), (17, .return_, 1, 18)] := by unfold jDs; decide +kernel
set_option maxRecDepth 100000 in
set_option maxHeartbeats 4000000 in
theorem c_X6_turnTo {E : jE} {th : Nat} {x1 : Int} {x2 : Int} {x3 : Int} {M : jMem} {r : Int} {M' : jMem} (h : f_X6_turnTo th x1 x2 x3 M = some (r, M')) : jMet E yX6_turnTo cX6_turnTo 4 (none) 4 0 0 [q_r E th, q_i x1, q_i x2, q_i x3] M (none) M' := by
  unfold f_X6_turnTo at h
  refine jMet.of RX6 rfl (by decide +kernel) (Nat.le_of_ble_eq_true rfl) [(0, q_r E th), (1, q_i x1), (2, q_i x2), (3, q_i x3)] rfl (fun X hC hE hr hn => ?_)
  refine jr_aload_n hC (D_X6_turnTo.g 0 rfl) 0 rfl ?_
  refine jr_iload_n hC (D_X6_turnTo.g 1 rfl) 1 rfl ?_
  refine jr_iload_n hC (D_X6_turnTo.g 2 rfl) 2 rfl ?_
  refine jr_iload_n hC (D_X6_turnTo.g 3 rfl) 3 rfl ?_
  refine jr_cVv hC cl_X6_71 ⟨rfl, by decide⟩ (D_X6_turnTo.g 4 rfl) [q_i x1, q_i x2, q_i x3] h (fun r M' e => c_X6_occupy e) rfl rfl ⟨by decide, by decide⟩ (Nat.le_of_ble_eq_true rfl) ⟨Nat.le_of_ble_eq_true rfl, Nat.le_of_ble_eq_true rfl⟩ (fun _ M2 h => ?_)
  refine jr_aload_n hC (D_X6_turnTo.g 5 rfl) 0 rfl ?_
  refine jr_getR hC fl_X6_19 rfl (D_X6_turnTo.g 6 rfl) h (fun r3 h => ?_)
  refine jr_iload_n hC (D_X6_turnTo.g 7 rfl) 1 rfl ?_
  refine jr_dup2 hC (D_X6_turnTo.g 8 rfl) rfl rfl ?_
  refine jr_iald hC (D_X6_turnTo.g 9 rfl) h (fun v4 h => ?_)
  refine jr_iconst hC (D_X6_turnTo.g 10 rfl) ?_
  refine jr_iadd hC (D_X6_turnTo.g 11 rfl) ?_
  refine jr_iast hC (D_X6_turnTo.g 12 rfl) h (fun M5 _ h => ?_)
  exact jr_vret hC (D_X6_turnTo.g 13 rfl) hr hE h
def f_X6_take (th : Nat) (x1 : Int) (M : jMem) : Option (Int × jMem) :=
(jm_gR 6 4 M th).bind fun r1 =>
(jm_gR 6 0 M th).bind fun r2 =>
(jm_ld 20 M r2 x1).bind fun v3 =>
(jm_st 20 M r1 v3 (-1)).bind fun M4 =>
(jm_gR 6 4 M4 th).bind fun r5 =>
jcall 6 M4 th (f_X6_second th x1 M4) fun v6 M7 =>
(jm_st 20 M7 r5 v6 (-1)).bind fun M8 =>
(jm_gR 6 0 M8 th).bind fun r9 =>
(jm_st 20 M8 r9 x1 (-1)).bind fun M10 =>
(jm_gI 6 6 M10 th).bind fun v11 =>
(jm_pI 6 6 M10 th (v11 - 1)).bind fun M12 =>
some (0, M12)
theorem D_X6_take : jDs cX6_take [(0, .aload_n 0, 1, 1), (1, .getfield 25, 3, 4), (4, .aload_n 0, 1, 5), (5, .getfield 9, 3, 8), (8, .iload_n 1, 1, 9), (9, .iaload, 1, 10), (10, .iconst (-1), 1, 11), (11, .iastore, 1, 12), (12, .aload_n 0, 1, 13), (13, .getfield 25, 3, 16), (16, .aload_n 0, 1, 17), (17, .iload_n 1, 1, 18), (18, .invokevirtual 67, 3, 21), (21, .iconst (-1), 1, 22), (22, .iastore, 1, 23), (23, .aload_n 0, 1, 24), (24, .getfield 9, 3, 27), (27, .iload_n 1, 1, 28), (28, .iconst (-1), 1, 29), (29, .iastore, 1, 30), (30, .aload_n 0, 1, 31), (31, .dup, 1, 32), (32, .getfield 54, 3, 35), (35, .iconst 1, 1, 36), (36, .isub, 1, 37), (37, .putfield 54, 3, 40), (40, .return_, 1, 41)] := by unfold jDs; decide +kernel
set_option maxRecDepth 100000 in
set_option maxHeartbeats 4000000 in
theorem c_X6_take {E : jE} {th : Nat} {x1 : Int} {M : jMem} {r : Int} {M' : jMem} (h : f_X6_take th x1 M = some (r, M')) : jMet E yX6_take cX6_take 2 (none) 3 0 0 [q_r E th, q_i x1] M (none) M' := by
  unfold f_X6_take at h
  refine jMet.of RX6 rfl (by decide +kernel) (Nat.le_of_ble_eq_true rfl) [(0, q_r E th), (1, q_i x1)] rfl (fun X hC hE hr hn => ?_)
  refine jr_aload_n hC (D_X6_take.g 0 rfl) 0 rfl ?_
  refine jr_getR hC fl_X6_25 rfl (D_X6_take.g 1 rfl) h (fun r1 h => ?_)
  refine jr_aload_n hC (D_X6_take.g 2 rfl) 0 rfl ?_
  refine jr_getR hC fl_X6_9 rfl (D_X6_take.g 3 rfl) h (fun r2 h => ?_)
  refine jr_iload_n hC (D_X6_take.g 4 rfl) 1 rfl ?_
  refine jr_iald hC (D_X6_take.g 5 rfl) h (fun v3 h => ?_)
  refine jr_iconst hC (D_X6_take.g 6 rfl) ?_
  refine jr_iast hC (D_X6_take.g 7 rfl) h (fun M4 _ h => ?_)
  refine jr_aload_n hC (D_X6_take.g 8 rfl) 0 rfl ?_
  refine jr_getR hC fl_X6_25 rfl (D_X6_take.g 9 rfl) h (fun r5 h => ?_)
  refine jr_aload_n hC (D_X6_take.g 10 rfl) 0 rfl ?_
  refine jr_iload_n hC (D_X6_take.g 11 rfl) 1 rfl ?_
  refine jr_cVi hC cl_X6_67 ⟨rfl, by decide⟩ (D_X6_take.g 12 rfl) [q_i x1] h (fun r M' e => c_X6_second e) rfl rfl ⟨by decide, by decide⟩ (Nat.le_of_ble_eq_true rfl) ⟨Nat.le_of_ble_eq_true rfl, Nat.le_of_ble_eq_true rfl⟩ (fun v6 M7 h => ?_)
  refine jr_iconst hC (D_X6_take.g 13 rfl) ?_
  refine jr_iast hC (D_X6_take.g 14 rfl) h (fun M8 _ h => ?_)
  refine jr_aload_n hC (D_X6_take.g 15 rfl) 0 rfl ?_
  refine jr_getR hC fl_X6_9 rfl (D_X6_take.g 16 rfl) h (fun r9 h => ?_)
  refine jr_iload_n hC (D_X6_take.g 17 rfl) 1 rfl ?_
  refine jr_iconst hC (D_X6_take.g 18 rfl) ?_
  refine jr_iast hC (D_X6_take.g 19 rfl) h (fun M10 _ h => ?_)
  refine jr_aload_n hC (D_X6_take.g 20 rfl) 0 rfl ?_
  refine jr_dup hC (D_X6_take.g 21 rfl) rfl ?_
  refine jr_getI hC fl_X6_54 rfl (D_X6_take.g 22 rfl) h (fun v11 h => ?_)
  refine jr_iconst hC (D_X6_take.g 23 rfl) ?_
  refine jr_isub hC (D_X6_take.g 24 rfl) ?_
  refine jr_putI hC fl_X6_54 rfl (jnfin rfl) (D_X6_take.g 25 rfl) h (fun M12 _ h => ?_)
  exact jr_vret hC (D_X6_take.g 26 rfl) hr hE h
def f_X6_ageAll (th : Nat) (x1 : Int) (M : jMem) : Option (Int × jMem) :=
jlp2 (fun rec_2 (y2_2 : Int) (M_2 : jMem) =>
if jd_wr y2_2 < jd_wr 18 then (jcall 6 M_2 th (f_X6_lies th y2_2 M_2) fun v1 M2 =>
jjq (fun (M_52 : jMem) =>
rec_2 (y2_2 + 1) M_52) fun j_52 =>
if jd_wr v1 = 0 then (j_52 M2)
else (if jd_wr (jd_and (jd_shr x1 y2_2) 1) = 0 then ((jm_gR 6 3 M2 th).bind fun r3 =>
(jm_ld 20 M2 r3 y2_2).bind fun v4 =>
(jm_st 20 M2 r3 y2_2 (v4 + 1)).bind fun M5 =>
j_52 M5)
else (jcall 6 M2 th (f_X6_take th y2_2 M2) fun _ M7 =>
(jm_gI 6 9 M7 th).bind fun v8 =>
(jm_pI 6 9 M7 th (v8 + 1)).bind fun M9 =>
j_52 M9)))
else ((jm_gI 6 7 M_2 th).bind fun v10 =>
(jm_pI 6 7 M_2 th (v10 + 1)).bind fun M11 =>
some (0, M11))) jfuel 0 M
theorem D_X6_ageAll : jDs cX6_ageAll [(0, .iconst 0, 1, 1), (1, .istore_n 2, 1, 2), (2, .iload_n 2, 1, 3), (3, .bipush 18, 2, 5), (5, .if_icmp .ge 53, 3, 8), (8, .aload_n 0, 1, 9), (9, .iload_n 2, 1, 10), (10, .invokevirtual 63, 3, 13), (13, .ifCond .eq 39, 3, 16), (16, .iload_n 1, 1, 17), (17, .iload_n 2, 1, 18), (18, .ishr, 1, 19), (19, .iconst 1, 1, 20), (20, .iand, 1, 21), (21, .ifCond .eq 21, 3, 24), (24, .aload_n 0, 1, 25), (25, .iload_n 2, 1, 26), (26, .invokevirtual 75, 3, 29), (29, .aload_n 0, 1, 30), (30, .dup, 1, 31), (31, .getfield 45, 3, 34), (34, .iconst 1, 1, 35), (35, .iadd, 1, 36), (36, .putfield 45, 3, 39), (39, .goto 13, 3, 42), (42, .aload_n 0, 1, 43), (43, .getfield 22, 3, 46), (46, .iload_n 2, 1, 47), (47, .dup2, 1, 48), (48, .iaload, 1, 49), (49, .iconst 1, 1, 50), (50, .iadd, 1, 51), (51, .iastore, 1, 52), (52, .iinc 2 1, 3, 55), (55, .goto (-53), 3, 58), (58, .aload_n 0, 1, 59), (59, .dup, 1, 60), (60, .getfield 39, 3, 63), (63, .iconst 1, 1, 64), (64, .iadd, 1, 65), (65, .putfield 39, 3, 68), (68, .return_, 1, 69)] := by unfold jDs; decide +kernel
set_option maxRecDepth 100000 in
set_option maxHeartbeats 4000000 in
theorem c_X6_ageAll {E : jE} {th : Nat} {x1 : Int} {M : jMem} {r : Int} {M' : jMem} (h : f_X6_ageAll th x1 M = some (r, M')) : jMet E yX6_ageAll cX6_ageAll 3 (none) 4 0 0 [q_r E th, q_i x1] M (none) M' := by
  unfold f_X6_ageAll at h
  refine jMet.of RX6 rfl (by decide +kernel) (Nat.le_of_ble_eq_true rfl) [(0, q_r E th), (1, q_i x1)] rfl (fun X hC hE hr hn => ?_)
  refine jr_iconst hC (D_X6_ageAll.g 0 rfl) ?_
  refine jr_istore_n hC (D_X6_ageAll.g 1 rfl) (by decide) rfl ?_
  refine jr_pick [1, 2, 0] rfl ?_
  refine jr_lp2 (fun (y2_2 : Int) (M_2 : jMem) => JW E X 3 0 0 M_2 2 [(0, q_r E th), (1, q_i x1), (2, q_i y2_2)] []) ?_ jfuel 0 M h
  intro rec_2 hrec_2 y2_2 M_2 h
  refine jr_iload_n hC (D_X6_ageAll.g 2 rfl) 2 rfl ?_
  refine jr_bipush hC (D_X6_ageAll.g 3 rfl) bp_18 ?_
  refine jr_icmp_ge hC (D_X6_ageAll.g 4 rfl) 58 rfl h (fun h => ?_) (fun h => ?_)
  · refine jr_aload_n hC (D_X6_ageAll.g 5 rfl) 0 rfl ?_
    refine jr_iload_n hC (D_X6_ageAll.g 6 rfl) 2 rfl ?_
    refine jr_cVi hC cl_X6_63 ⟨rfl, by decide⟩ (D_X6_ageAll.g 7 rfl) [q_i y2_2] h (fun r M' e => c_X6_lies e) rfl rfl ⟨by decide, by decide⟩ (Nat.le_of_ble_eq_true rfl) ⟨Nat.le_of_ble_eq_true rfl, Nat.le_of_ble_eq_true rfl⟩ (fun v1 M2 h => ?_)
    refine jr_join h (fun j => ∀ (M_52 : jMem), j M_52 = some (r, M') → JW E X 3 0 0 M_52 52 [(0, q_r E th), (1, q_i x1), (2, q_i y2_2)] []) ?_ ?_
    · intro M_52 h
      refine jr_iinc hC (D_X6_ageAll.g 33 rfl) 2 rfl (by decide) rfl ?_
      refine jr_goto hC (D_X6_ageAll.g 34 rfl) 2 rfl ?_
      refine jr_pick [1, 2, 0] rfl ?_
      exact hrec_2 (y2_2 + 1) M_52 h
    intro j_52 hj_52 h
    refine jr_if_eq hC (D_X6_ageAll.g 8 rfl) 52 rfl h (fun h => ?_) (fun h => ?_)
    · exact hj_52 M2 h
    refine jr_iload_n hC (D_X6_ageAll.g 9 rfl) 1 rfl ?_
    refine jr_iload_n hC (D_X6_ageAll.g 10 rfl) 2 rfl ?_
    refine jr_ishr hC (D_X6_ageAll.g 11 rfl) ?_
    refine jr_iconst hC (D_X6_ageAll.g 12 rfl) ?_
    refine jr_iand hC (D_X6_ageAll.g 13 rfl) ?_
    refine jr_if_eq hC (D_X6_ageAll.g 14 rfl) 42 rfl h (fun h => ?_) (fun h => ?_)
    · refine jr_aload_n hC (D_X6_ageAll.g 25 rfl) 0 rfl ?_
      refine jr_getR hC fl_X6_22 rfl (D_X6_ageAll.g 26 rfl) h (fun r3 h => ?_)
      refine jr_iload_n hC (D_X6_ageAll.g 27 rfl) 2 rfl ?_
      refine jr_dup2 hC (D_X6_ageAll.g 28 rfl) rfl rfl ?_
      refine jr_iald hC (D_X6_ageAll.g 29 rfl) h (fun v4 h => ?_)
      refine jr_iconst hC (D_X6_ageAll.g 30 rfl) ?_
      refine jr_iadd hC (D_X6_ageAll.g 31 rfl) ?_
      refine jr_iast hC (D_X6_ageAll.g 32 rfl) h (fun M5 _ h => ?_)
      exact hj_52 M5 h
    refine jr_aload_n hC (D_X6_ageAll.g 15 rfl) 0 rfl ?_
    refine jr_iload_n hC (D_X6_ageAll.g 16 rfl) 2 rfl ?_
    refine jr_cVv hC cl_X6_75 ⟨rfl, by decide⟩ (D_X6_ageAll.g 17 rfl) [q_i y2_2] h (fun r M' e => c_X6_take e) rfl rfl ⟨by decide, by decide⟩ (Nat.le_of_ble_eq_true rfl) ⟨Nat.le_of_ble_eq_true rfl, Nat.le_of_ble_eq_true rfl⟩ (fun _ M7 h => ?_)
    refine jr_aload_n hC (D_X6_ageAll.g 18 rfl) 0 rfl ?_
    refine jr_dup hC (D_X6_ageAll.g 19 rfl) rfl ?_
    refine jr_getI hC fl_X6_45 rfl (D_X6_ageAll.g 20 rfl) h (fun v8 h => ?_)
    refine jr_iconst hC (D_X6_ageAll.g 21 rfl) ?_
    refine jr_iadd hC (D_X6_ageAll.g 22 rfl) ?_
    refine jr_putI hC fl_X6_45 rfl (jnfin rfl) (D_X6_ageAll.g 23 rfl) h (fun M9 _ h => ?_)
    refine jr_goto hC (D_X6_ageAll.g 24 rfl) 52 rfl ?_
    exact hj_52 M9 h
  refine jr_aload_n hC (D_X6_ageAll.g 35 rfl) 0 rfl ?_
  refine jr_dup hC (D_X6_ageAll.g 36 rfl) rfl ?_
  refine jr_getI hC fl_X6_39 rfl (D_X6_ageAll.g 37 rfl) h (fun v10 h => ?_)
  refine jr_iconst hC (D_X6_ageAll.g 38 rfl) ?_
  refine jr_iadd hC (D_X6_ageAll.g 39 rfl) ?_
  refine jr_putI hC fl_X6_39 rfl (jnfin rfl) (D_X6_ageAll.g 40 rfl) h (fun M11 _ h => ?_)
  exact jr_vret hC (D_X6_ageAll.g 41 rfl) hr hE h
def f_X6_flatStones (th : Nat) (M : jMem) : Option (Int × jMem) :=
jlp3 (fun rec_4 (y1_4 : Int) (y2_4 : Int) (M_4 : jMem) =>
if jd_wr y2_4 < jd_wr 18 then (jcall 6 M_4 th (f_X6_lies th y2_4 M_4) fun v1 M2 =>
jjq (fun (y1_30 : Int) =>
rec_4 y1_30 (y2_4 + 1) M2) fun j_30 =>
if jd_wr v1 = 0 then (j_30 y1_4)
else ((jm_gR 6 1 M2 th).bind fun r3 =>
(jm_ld 22 M2 r3 y2_4).bind fun v4 =>
if jd_wr v4 = 0 then (j_30 y1_4)
else (j_30 (y1_4 + 1))))
else (some (y1_4, M_4))) jfuel 0 0 M
theorem D_X6_flatStones : jDs cX6_flatStones [(0, .iconst 0, 1, 1), (1, .istore_n 1, 1, 2), (2, .iconst 0, 1, 3), (3, .istore_n 2, 1, 4), (4, .iload_n 2, 1, 5), (5, .bipush 18, 2, 7), (7, .if_icmp .ge 29, 3, 10), (10, .aload_n 0, 1, 11), (11, .iload_n 2, 1, 12), (12, .invokevirtual 63, 3, 15), (15, .ifCond .eq 15, 3, 18), (18, .aload_n 0, 1, 19), (19, .getfield 15, 3, 22), (22, .iload_n 2, 1, 23), (23, .baload, 1, 24), (24, .ifCond .eq 6, 3, 27), (27, .iinc 1 1, 3, 30), (30, .iinc 2 1, 3, 33), (33, .goto (-29), 3, 36), (36, .iload_n 1, 1, 37), (37, .ireturn, 1, 38)] := by unfold jDs; decide +kernel
set_option maxRecDepth 100000 in
set_option maxHeartbeats 4000000 in
theorem c_X6_flatStones {E : jE} {th : Nat} {M : jMem} {r : Int} {M' : jMem} (h : f_X6_flatStones th M = some (r, M')) : jMet E yX6_flatStones cX6_flatStones 3 (some .int) 3 0 0 [q_r E th] M (some (q_i r)) M' := by
  unfold f_X6_flatStones at h
  refine jMet.of RX6 rfl (by decide +kernel) (Nat.le_of_ble_eq_true rfl) [(0, q_r E th)] rfl (fun X hC hE hr hn => ?_)
  refine jr_iconst hC (D_X6_flatStones.g 0 rfl) ?_
  refine jr_istore_n hC (D_X6_flatStones.g 1 rfl) (by decide) rfl ?_
  refine jr_iconst hC (D_X6_flatStones.g 2 rfl) ?_
  refine jr_istore_n hC (D_X6_flatStones.g 3 rfl) (by decide) rfl ?_
  refine jr_pick [2, 1, 0] rfl ?_
  refine jr_lp3 (fun (y1_4 : Int) (y2_4 : Int) (M_4 : jMem) => JW E X 3 0 0 M_4 4 [(0, q_r E th), (1, q_i y1_4), (2, q_i y2_4)] []) ?_ jfuel 0 0 M h
  intro rec_4 hrec_4 y1_4 y2_4 M_4 h
  refine jr_iload_n hC (D_X6_flatStones.g 4 rfl) 2 rfl ?_
  refine jr_bipush hC (D_X6_flatStones.g 5 rfl) bp_18 ?_
  refine jr_icmp_ge hC (D_X6_flatStones.g 6 rfl) 36 rfl h (fun h => ?_) (fun h => ?_)
  · refine jr_aload_n hC (D_X6_flatStones.g 7 rfl) 0 rfl ?_
    refine jr_iload_n hC (D_X6_flatStones.g 8 rfl) 2 rfl ?_
    refine jr_cVi hC cl_X6_63 ⟨rfl, by decide⟩ (D_X6_flatStones.g 9 rfl) [q_i y2_4] h (fun r M' e => c_X6_lies e) rfl rfl ⟨by decide, by decide⟩ (Nat.le_of_ble_eq_true rfl) ⟨Nat.le_of_ble_eq_true rfl, Nat.le_of_ble_eq_true rfl⟩ (fun v1 M2 h => ?_)
    refine jr_join h (fun j => ∀ (y1_30 : Int), j y1_30 = some (r, M') → JW E X 3 0 0 M2 30 [(0, q_r E th), (1, q_i y1_30), (2, q_i y2_4)] []) ?_ ?_
    · intro y1_30 h
      refine jr_iinc hC (D_X6_flatStones.g 17 rfl) 2 rfl (by decide) rfl ?_
      refine jr_goto hC (D_X6_flatStones.g 18 rfl) 4 rfl ?_
      refine jr_pick [1, 2, 0] rfl ?_
      exact hrec_4 y1_30 (y2_4 + 1) M2 h
    intro j_30 hj_30 h
    refine jr_if_eq hC (D_X6_flatStones.g 10 rfl) 30 rfl h (fun h => ?_) (fun h => ?_)
    · exact hj_30 y1_4 h
    refine jr_aload_n hC (D_X6_flatStones.g 11 rfl) 0 rfl ?_
    refine jr_getR hC fl_X6_15 rfl (D_X6_flatStones.g 12 rfl) h (fun r3 h => ?_)
    refine jr_iload_n hC (D_X6_flatStones.g 13 rfl) 2 rfl ?_
    refine jr_zald hC (D_X6_flatStones.g 14 rfl) h (fun v4 h => ?_)
    refine jr_if_eq hC (D_X6_flatStones.g 15 rfl) 30 rfl h (fun h => ?_) (fun h => ?_)
    · exact hj_30 y1_4 h
    refine jr_iinc hC (D_X6_flatStones.g 16 rfl) 1 rfl (by decide) rfl ?_
    refine jr_pick [1, 0, 2] rfl ?_
    exact hj_30 (y1_4 + 1) h
  refine jr_iload_n hC (D_X6_flatStones.g 19 rfl) 1 rfl ?_
  exact jr_iret hC (D_X6_flatStones.g 20 rfl) hr hE h
def f_X6_coupleBits (th : Nat) (M : jMem) : Option (Int × jMem) :=
jlp3 (fun rec_4 (y1_4 : Int) (y2_4 : Int) (M_4 : jMem) =>
if jd_wr y2_4 < jd_wr 18 then (jcall 6 M_4 th (f_X6_lies th y2_4 M_4) fun v1 M2 =>
jjq (fun (y1_24 : Int) =>
rec_4 y1_24 (y2_4 + 1) M2) fun j_24 =>
if jd_wr v1 = 0 then (j_24 y1_4)
else (j_24 (jd_or y1_4 (jd_shl 1 y2_4))))
else (some (y1_4, M_4))) jfuel 0 0 M
theorem D_X6_coupleBits : jDs cX6_coupleBits [(0, .iconst 0, 1, 1), (1, .istore_n 1, 1, 2), (2, .iconst 0, 1, 3), (3, .istore_n 2, 1, 4), (4, .iload_n 2, 1, 5), (5, .bipush 18, 2, 7), (7, .if_icmp .ge 23, 3, 10), (10, .aload_n 0, 1, 11), (11, .iload_n 2, 1, 12), (12, .invokevirtual 63, 3, 15), (15, .ifCond .eq 9, 3, 18), (18, .iload_n 1, 1, 19), (19, .iconst 1, 1, 20), (20, .iload_n 2, 1, 21), (21, .ishl, 1, 22), (22, .ior, 1, 23), (23, .istore_n 1, 1, 24), (24, .iinc 2 1, 3, 27), (27, .goto (-23), 3, 30), (30, .iload_n 1, 1, 31), (31, .ireturn, 1, 32)] := by unfold jDs; decide +kernel
set_option maxRecDepth 100000 in
set_option maxHeartbeats 4000000 in
theorem c_X6_coupleBits {E : jE} {th : Nat} {M : jMem} {r : Int} {M' : jMem} (h : f_X6_coupleBits th M = some (r, M')) : jMet E yX6_coupleBits cX6_coupleBits 3 (some .int) 3 0 0 [q_r E th] M (some (q_i r)) M' := by
  unfold f_X6_coupleBits at h
  refine jMet.of RX6 rfl (by decide +kernel) (Nat.le_of_ble_eq_true rfl) [(0, q_r E th)] rfl (fun X hC hE hr hn => ?_)
  refine jr_iconst hC (D_X6_coupleBits.g 0 rfl) ?_
  refine jr_istore_n hC (D_X6_coupleBits.g 1 rfl) (by decide) rfl ?_
  refine jr_iconst hC (D_X6_coupleBits.g 2 rfl) ?_
  refine jr_istore_n hC (D_X6_coupleBits.g 3 rfl) (by decide) rfl ?_
  refine jr_pick [2, 1, 0] rfl ?_
  refine jr_lp3 (fun (y1_4 : Int) (y2_4 : Int) (M_4 : jMem) => JW E X 3 0 0 M_4 4 [(0, q_r E th), (1, q_i y1_4), (2, q_i y2_4)] []) ?_ jfuel 0 0 M h
  intro rec_4 hrec_4 y1_4 y2_4 M_4 h
  refine jr_iload_n hC (D_X6_coupleBits.g 4 rfl) 2 rfl ?_
  refine jr_bipush hC (D_X6_coupleBits.g 5 rfl) bp_18 ?_
  refine jr_icmp_ge hC (D_X6_coupleBits.g 6 rfl) 30 rfl h (fun h => ?_) (fun h => ?_)
  · refine jr_aload_n hC (D_X6_coupleBits.g 7 rfl) 0 rfl ?_
    refine jr_iload_n hC (D_X6_coupleBits.g 8 rfl) 2 rfl ?_
    refine jr_cVi hC cl_X6_63 ⟨rfl, by decide⟩ (D_X6_coupleBits.g 9 rfl) [q_i y2_4] h (fun r M' e => c_X6_lies e) rfl rfl ⟨by decide, by decide⟩ (Nat.le_of_ble_eq_true rfl) ⟨Nat.le_of_ble_eq_true rfl, Nat.le_of_ble_eq_true rfl⟩ (fun v1 M2 h => ?_)
    refine jr_join h (fun j => ∀ (y1_24 : Int), j y1_24 = some (r, M') → JW E X 3 0 0 M2 24 [(0, q_r E th), (1, q_i y1_24), (2, q_i y2_4)] []) ?_ ?_
    · intro y1_24 h
      refine jr_iinc hC (D_X6_coupleBits.g 17 rfl) 2 rfl (by decide) rfl ?_
      refine jr_goto hC (D_X6_coupleBits.g 18 rfl) 4 rfl ?_
      refine jr_pick [1, 2, 0] rfl ?_
      exact hrec_4 y1_24 (y2_4 + 1) M2 h
    intro j_24 hj_24 h
    refine jr_if_eq hC (D_X6_coupleBits.g 10 rfl) 24 rfl h (fun h => ?_) (fun h => ?_)
    · exact hj_24 y1_4 h
    refine jr_iload_n hC (D_X6_coupleBits.g 11 rfl) 1 rfl ?_
    refine jr_iconst hC (D_X6_coupleBits.g 12 rfl) ?_
    refine jr_iload_n hC (D_X6_coupleBits.g 13 rfl) 2 rfl ?_
    refine jr_ishl hC (D_X6_coupleBits.g 14 rfl) ?_
    refine jr_ior hC (D_X6_coupleBits.g 15 rfl) ?_
    refine jr_istore_n hC (D_X6_coupleBits.g 16 rfl) (by decide) rfl ?_
    refine jr_pick [1, 0, 2] rfl ?_
    exact hj_24 (jd_or y1_4 (jd_shl 1 y2_4)) h
  refine jr_iload_n hC (D_X6_coupleBits.g 19 rfl) 1 rfl ?_
  exact jr_iret hC (D_X6_coupleBits.g 20 rfl) hr hE h
def f_X6_turnedInAll (th : Nat) (M : jMem) : Option (Int × jMem) :=
jlp3 (fun rec_4 (y1_4 : Int) (y2_4 : Int) (M_4 : jMem) =>
if jd_wr y2_4 < jd_wr 18 then (jcall 6 M_4 th (f_X6_lies th y2_4 M_4) fun v1 M2 =>
jjq (fun (y1_27 : Int) =>
rec_4 y1_27 (y2_4 + 1) M2) fun j_27 =>
if jd_wr v1 = 0 then (j_27 y1_4)
else ((jm_gR 6 2 M2 th).bind fun r3 =>
(jm_ld 20 M2 r3 y2_4).bind fun v4 =>
j_27 (y1_4 + v4)))
else (some (y1_4, M_4))) jfuel 0 0 M
theorem D_X6_turnedInAll : jDs cX6_turnedInAll [(0, .iconst 0, 1, 1), (1, .istore_n 1, 1, 2), (2, .iconst 0, 1, 3), (3, .istore_n 2, 1, 4), (4, .iload_n 2, 1, 5), (5, .bipush 18, 2, 7), (7, .if_icmp .ge 26, 3, 10), (10, .aload_n 0, 1, 11), (11, .iload_n 2, 1, 12), (12, .invokevirtual 63, 3, 15), (15, .ifCond .eq 12, 3, 18), (18, .iload_n 1, 1, 19), (19, .aload_n 0, 1, 20), (20, .getfield 19, 3, 23), (23, .iload_n 2, 1, 24), (24, .iaload, 1, 25), (25, .iadd, 1, 26), (26, .istore_n 1, 1, 27), (27, .iinc 2 1, 3, 30), (30, .goto (-26), 3, 33), (33, .iload_n 1, 1, 34), (34, .ireturn, 1, 35)] := by unfold jDs; decide +kernel
set_option maxRecDepth 100000 in
set_option maxHeartbeats 4000000 in
theorem c_X6_turnedInAll {E : jE} {th : Nat} {M : jMem} {r : Int} {M' : jMem} (h : f_X6_turnedInAll th M = some (r, M')) : jMet E yX6_turnedInAll cX6_turnedInAll 3 (some .int) 3 0 0 [q_r E th] M (some (q_i r)) M' := by
  unfold f_X6_turnedInAll at h
  refine jMet.of RX6 rfl (by decide +kernel) (Nat.le_of_ble_eq_true rfl) [(0, q_r E th)] rfl (fun X hC hE hr hn => ?_)
  refine jr_iconst hC (D_X6_turnedInAll.g 0 rfl) ?_
  refine jr_istore_n hC (D_X6_turnedInAll.g 1 rfl) (by decide) rfl ?_
  refine jr_iconst hC (D_X6_turnedInAll.g 2 rfl) ?_
  refine jr_istore_n hC (D_X6_turnedInAll.g 3 rfl) (by decide) rfl ?_
  refine jr_pick [2, 1, 0] rfl ?_
  refine jr_lp3 (fun (y1_4 : Int) (y2_4 : Int) (M_4 : jMem) => JW E X 3 0 0 M_4 4 [(0, q_r E th), (1, q_i y1_4), (2, q_i y2_4)] []) ?_ jfuel 0 0 M h
  intro rec_4 hrec_4 y1_4 y2_4 M_4 h
  refine jr_iload_n hC (D_X6_turnedInAll.g 4 rfl) 2 rfl ?_
  refine jr_bipush hC (D_X6_turnedInAll.g 5 rfl) bp_18 ?_
  refine jr_icmp_ge hC (D_X6_turnedInAll.g 6 rfl) 33 rfl h (fun h => ?_) (fun h => ?_)
  · refine jr_aload_n hC (D_X6_turnedInAll.g 7 rfl) 0 rfl ?_
    refine jr_iload_n hC (D_X6_turnedInAll.g 8 rfl) 2 rfl ?_
    refine jr_cVi hC cl_X6_63 ⟨rfl, by decide⟩ (D_X6_turnedInAll.g 9 rfl) [q_i y2_4] h (fun r M' e => c_X6_lies e) rfl rfl ⟨by decide, by decide⟩ (Nat.le_of_ble_eq_true rfl) ⟨Nat.le_of_ble_eq_true rfl, Nat.le_of_ble_eq_true rfl⟩ (fun v1 M2 h => ?_)
    refine jr_join h (fun j => ∀ (y1_27 : Int), j y1_27 = some (r, M') → JW E X 3 0 0 M2 27 [(0, q_r E th), (1, q_i y1_27), (2, q_i y2_4)] []) ?_ ?_
    · intro y1_27 h
      refine jr_iinc hC (D_X6_turnedInAll.g 18 rfl) 2 rfl (by decide) rfl ?_
      refine jr_goto hC (D_X6_turnedInAll.g 19 rfl) 4 rfl ?_
      refine jr_pick [1, 2, 0] rfl ?_
      exact hrec_4 y1_27 (y2_4 + 1) M2 h
    intro j_27 hj_27 h
    refine jr_if_eq hC (D_X6_turnedInAll.g 10 rfl) 27 rfl h (fun h => ?_) (fun h => ?_)
    · exact hj_27 y1_4 h
    refine jr_iload_n hC (D_X6_turnedInAll.g 11 rfl) 1 rfl ?_
    refine jr_aload_n hC (D_X6_turnedInAll.g 12 rfl) 0 rfl ?_
    refine jr_getR hC fl_X6_19 rfl (D_X6_turnedInAll.g 13 rfl) h (fun r3 h => ?_)
    refine jr_iload_n hC (D_X6_turnedInAll.g 14 rfl) 2 rfl ?_
    refine jr_iald hC (D_X6_turnedInAll.g 15 rfl) h (fun v4 h => ?_)
    refine jr_iadd hC (D_X6_turnedInAll.g 16 rfl) ?_
    refine jr_istore_n hC (D_X6_turnedInAll.g 17 rfl) (by decide) rfl ?_
    refine jr_pick [1, 0, 2] rfl ?_
    exact hj_27 (y1_4 + v4) h
  refine jr_iload_n hC (D_X6_turnedInAll.g 20 rfl) 1 rfl ?_
  exact jr_iret hC (D_X6_turnedInAll.g 21 rfl) hr hE h
