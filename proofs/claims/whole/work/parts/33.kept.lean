def f_X1_init (th : Nat) (M : jMem) : Option (Int × jMem) :=
jnw M 25 40 fun q1 M2 =>
(jm_pR 1 0 M2 th q1).bind fun M3 =>
jlp2 (fun rec_15 (y1_15 : Int) (M_15 : jMem) =>
if jd_wr y1_15 < jd_wr 40 then ((jm_gR 1 0 M_15 th).bind fun r4 =>
jnw M_15 6 0 fun q5 M6 =>
jbd (f_X6_init q5 M6) fun _ M8 =>
(jm_stR M8 r4 y1_15 q5).bind fun M9 =>
rec_15 (y1_15 + 1) M9)
else (jnw M_15 25 3 fun q10 M11 =>
(jm_pR 1 1 M11 th q10).bind fun M12 =>
jlp2 (fun rec_50 (y1_50 : Int) (M_50 : jMem) =>
if jd_wr y1_50 < jd_wr 3 then ((jm_gR 1 1 M_50 th).bind fun r13 =>
jnw M_50 6 0 fun q14 M15 =>
jbd (f_X6_init q14 M15) fun _ M17 =>
(jm_stR M17 r13 y1_50 q14).bind fun M18 =>
rec_50 (y1_50 + 1) M18)
else (jnw M_50 22 3 fun q19 M20 =>
(jm_pR 1 2 M20 th q19).bind fun M21 =>
some (0, M21))) jfuel 0 M12)) jfuel 0 M3
theorem D_X1_init : jDs cX1_init [(0, .aload_n 0, 1, 1), (1, .invokespecial 3, 3, 4), (4, .aload_n 0, 1, 5), (5, .bipush 40, 2, 7), (7, .anewarray 9, 3, 10), (10, .putfield 11, 3, 13), (13, .iconst 0, 1, 14), (14, .istore_n 1, 1, 15), (15, .iload_n 1, 1, 16), (16, .bipush 40, 2, 18), (18, .if_icmp .ge 22, 3, 21), (21, .aload_n 0, 1, 22), (22, .getfield 11, 3, 25), (25, .iload_n 1, 1, 26), (26, .new 9, 3, 29), (29, .dup, 1, 30), (30, .invokespecial 17, 3, 33), (33, .aastore, 1, 34), (34, .iinc 1 1, 3, 37), (37, .goto (-22), 3, 40), (40, .aload_n 0, 1, 41), (41, .iconst 3, 1, 42), (42, .anewarray 9, 3, 45), (45, .putfield 18, 3, 48), (48, .iconst 0, 1, 49), (49, .istore_n 1, 1, 50), (50, .iload_n 1, 1, 51), (51, .iconst 3, 1, 52), (52, .if_icmp .ge 22, 3, 55), (55, .aload_n 0, 1, 56), (56, .getfield 18, 3, 59), (59, .iload_n 1, 1, 60), (60, .new 9, 3, 63), (63, .dup, 1, 64), (64, .invokespecial 17, 3, 67), (67, .aastore, 1, 68), (68, .iinc 1 1, 3, 71), (71, .goto (-21), 3, 74), (74, .aload_n 0, 1, 75), (75, .iconst 3, 1, 76), (76, .newarray .boolean, 2, 78), (78, .putfield 21, 3, 81), (81, .return_, 1, 82)] := by unfold jDs; decide +kernel
set_option maxRecDepth 100000 in
set_option maxHeartbeats 4000000 in
theorem c_X1_init {E : jE} {th : Nat} {M : jMem} {r : Int} {M' : jMem} (h : f_X1_init th M = some (r, M')) : jMet E yX1_init cX1_init 2 (none) 6 261 5120 [q_r E th] M (none) M' := by
  unfold f_X1_init at h
  refine jMet.of RX1 rfl (by decide +kernel) (Nat.le_of_ble_eq_true rfl) [(0, q_r E th)] rfl (fun X hC hE hr hn => ?_)
  refine jr_aload_n hC (D_X1_init.g 0 rfl) 0 rfl ?_
  refine jr_objInit hC (jt_all [402, 152, 153] (by decide +kernel) (by decide +kernel)) (D_X1_init.g 1 rfl) (by decide) (Nat.le_of_ble_eq_true rfl) ?_
  refine jr_aload_n hC (D_X1_init.g 2 rfl) 0 rfl ?_
  refine jr_bipush hC (D_X1_init.g 3 rfl) bp_40 ?_
  refine jr_anew hC 40 (by decide +kernel) (by decide +kernel) (jt_in (i := 403) (by decide +kernel) rfl) (D_X1_init.g 4 rfl) ⟨Nat.le_of_ble_eq_true rfl, Nat.le_of_ble_eq_true rfl⟩ 1 40 rfl rfl h (fun q1 M2 h => ?_)
  refine jr_putR hC fl_X1_11 rfl (jyfin rfl hn) (D_X1_init.g 5 rfl) h (fun M3 _ h => ?_)
  refine jr_iconst hC (D_X1_init.g 6 rfl) ?_
  refine jr_istore_n hC (D_X1_init.g 7 rfl) (by decide) rfl ?_
  refine jr_pick [1, 0] rfl ?_
  refine jr_lp2 (fun (y1_15 : Int) (M_15 : jMem) => ∀ t : Nat, y1_15 = (t : Int) → t ≤ 40 → JW E X 2 (1 + 6 * t) (40 + 118 * t) M_15 15 [(0, q_r E th), (1, q_i y1_15)] []) ?_ jfuel 0 M3 h 0 rfl (by decide)
  intro rec_15 hrec_15 y1_15 M_15 h t ht htl
  subst ht
  have e40 : jd_wr 40 = 40 := by decide +kernel
  have et : jd_wr (t : Int) = (t : Int) := jw_small (by omega)
  refine jr_iload_n hC (D_X1_init.g 8 rfl) 1 rfl ?_
  refine jr_bipush hC (D_X1_init.g 9 rfl) bp_40 ?_
  by_cases hc : jd_wr (t : Int) < jd_wr 40
  · have hlt : t < 40 := by omega
    refine jr_icmp_ge hC (D_X1_init.g 10 rfl) 40 rfl (y := none) ((if_pos hc).trans (jif_t h hc)) (fun h => ?_) (fun h => by cases h)
    refine jr_aload_n hC (D_X1_init.g 11 rfl) 0 rfl ?_
    refine jr_getR hC fl_X1_11 rfl (D_X1_init.g 12 rfl) h (fun r4 h => ?_)
    refine jr_iload_n hC (D_X1_init.g 13 rfl) 1 rfl ?_
    refine jr_new hC jc6 (jt_all [403, 334, 130] (by decide +kernel) (by decide +kernel)) (D_X1_init.g 14 rfl) ⟨by omega, by show 40 + 118 * t + 10 ≤ 5120; omega⟩ (1 + 6 * t + 1) (40 + 118 * t + 10) rfl rfl h (fun q5 M6 h => ?_)
    refine jr_dup hC (D_X1_init.g 15 rfl) rfl ?_
    refine jr_cN hC 5 108 cl_X1_17 (D_X1_init.g 16 rfl) [] h (fun r M' e => c_X6_init e) rfl rfl ⟨by decide, by decide⟩ (Nat.le_of_ble_eq_true rfl) ⟨by omega, by omega⟩ (1 + 6 * (t + 1)) (40 + 118 * (t + 1)) (by omega) (by omega) (fun _ M8 h => ?_)
    refine jr_aast hC (D_X1_init.g 17 rfl) h (fun M9 _ h => ?_)
    refine jr_iinc hC (D_X1_init.g 18 rfl) 1 rfl (by decide) rfl ?_
    refine jr_goto hC (D_X1_init.g 19 rfl) 15 rfl ?_
    refine jr_pick [1, 0] rfl ?_
    exact hrec_15 ((t : Int) + 1) M9 h (t + 1) rfl (by omega)
  refine jr_icmp_ge hC (D_X1_init.g 10 rfl) 40 rfl (x := none) ((if_neg hc).trans (jif_f h hc)) (fun h => by cases h) (fun hh => ?_)
  obtain rfl : t = 40 := by omega
  replace h := hh
  refine jr_aload_n hC (D_X1_init.g 20 rfl) 0 rfl ?_
  refine jr_iconst hC (D_X1_init.g 21 rfl) ?_
  refine jr_anew hC 3 (by decide +kernel) (by decide +kernel) (jt_in (i := 403) (by decide +kernel) rfl) (D_X1_init.g 22 rfl) ⟨Nat.le_of_ble_eq_true rfl, Nat.le_of_ble_eq_true rfl⟩ 242 4763 rfl rfl h (fun q10 M11 h => ?_)
  refine jr_putR hC fl_X1_18 rfl (jyfin rfl hn) (D_X1_init.g 23 rfl) h (fun M12 _ h => ?_)
  refine jr_iconst hC (D_X1_init.g 24 rfl) ?_
  refine jr_istore_n hC (D_X1_init.g 25 rfl) (by decide) rfl ?_
  refine jr_pick [1, 0] rfl ?_
  refine jr_lp2 (fun (y1_50 : Int) (M_50 : jMem) => ∀ t : Nat, y1_50 = (t : Int) → t ≤ 3 → JW E X 2 (242 + 6 * t) (4763 + 118 * t) M_50 50 [(0, q_r E th), (1, q_i y1_50)] []) ?_ jfuel 0 M12 h 0 rfl (by decide)
  intro rec_50 hrec_50 y1_50 M_50 h t ht htl
  subst ht
  have e40 : jd_wr 3 = 3 := by decide +kernel
  have et : jd_wr (t : Int) = (t : Int) := jw_small (by omega)
  refine jr_iload_n hC (D_X1_init.g 26 rfl) 1 rfl ?_
  refine jr_iconst hC (D_X1_init.g 27 rfl) ?_
  by_cases hc : jd_wr (t : Int) < jd_wr 3
  · have hlt : t < 3 := by omega
    refine jr_icmp_ge hC (D_X1_init.g 28 rfl) 74 rfl (y := none) ((if_pos hc).trans (jif_t h hc)) (fun h => ?_) (fun h => by cases h)
    refine jr_aload_n hC (D_X1_init.g 29 rfl) 0 rfl ?_
    refine jr_getR hC fl_X1_18 rfl (D_X1_init.g 30 rfl) h (fun r13 h => ?_)
    refine jr_iload_n hC (D_X1_init.g 31 rfl) 1 rfl ?_
    refine jr_new hC jc6 (jt_all [403, 334, 130] (by decide +kernel) (by decide +kernel)) (D_X1_init.g 32 rfl) ⟨by omega, by show 4763 + 118 * t + 10 ≤ 5120; omega⟩ (242 + 6 * t + 1) (4763 + 118 * t + 10) rfl rfl h (fun q14 M15 h => ?_)
    refine jr_dup hC (D_X1_init.g 33 rfl) rfl ?_
    refine jr_cN hC 5 108 cl_X1_17 (D_X1_init.g 34 rfl) [] h (fun r M' e => c_X6_init e) rfl rfl ⟨by decide, by decide⟩ (Nat.le_of_ble_eq_true rfl) ⟨by omega, by omega⟩ (242 + 6 * (t + 1)) (4763 + 118 * (t + 1)) (by omega) (by omega) (fun _ M17 h => ?_)
    refine jr_aast hC (D_X1_init.g 35 rfl) h (fun M18 _ h => ?_)
    refine jr_iinc hC (D_X1_init.g 36 rfl) 1 rfl (by decide) rfl ?_
    refine jr_goto hC (D_X1_init.g 37 rfl) 50 rfl ?_
    refine jr_pick [1, 0] rfl ?_
    exact hrec_50 ((t : Int) + 1) M18 h (t + 1) rfl (by omega)
  refine jr_icmp_ge hC (D_X1_init.g 28 rfl) 74 rfl (x := none) ((if_neg hc).trans (jif_f h hc)) (fun h => by cases h) (fun hh => ?_)
  obtain rfl : t = 3 := by omega
  replace h := hh
  refine jr_aload_n hC (D_X1_init.g 38 rfl) 0 rfl ?_
  refine jr_iconst hC (D_X1_init.g 39 rfl) ?_
  refine jr_newa hC 22 2 3 rfl (by decide) rfl (by decide +kernel) (by decide +kernel) (jt_in (i := 200) (by decide +kernel) rfl) (D_X1_init.g 40 rfl) ⟨Nat.le_of_ble_eq_true rfl, Nat.le_of_ble_eq_true rfl⟩ 261 5120 rfl rfl h (fun q19 M20 h => ?_)
  refine jr_putR hC fl_X1_21 rfl (jyfin rfl hn) (D_X1_init.g 41 rfl) h (fun M21 _ h => ?_)
  exact jr_vret hC (D_X1_init.g 42 rfl) hr hE h
