/-! ===== 25.X11b: by program ===== -/
def f_X11_cheapest (th : Nat) (x1 : Int) (M : jMem) : Option (Int × jMem) :=
jjq (jlp4 (fun rec_20 (y2_20 : Int) (y3_20 : Int) (y4_20 : Int) (M_20 : jMem) =>
(jm_gR 11 2 M_20 th).bind fun r1 =>
jcall 8 M_20 r1 (f_X8_cells r1 M_20) fun v2 M3 =>
if jd_wr y4_20 < jd_wr v2 then (jcall 11 M3 th (f_X11_canTurn th y4_20 M3) fun v4 M5 =>
jjq (fun (y2_67 : Int) (y3_67 : Int) (M_67 : jMem) =>
rec_20 y2_67 y3_67 (y4_20 + 1) M_67) fun j_67 =>
if jd_wr v4 = 0 then (j_67 y2_20 y3_20 M5)
else (jcall 11 M5 th (f_X11_priceOfTurning th y4_20 M5) fun v6 M7 =>
jjq (j_67 y4_20 v6 M7) fun j_61 =>
if jd_wr y2_20 = jd_wr (-2) then (j_61 )
else (if jd_wr v6 < jd_wr y3_20 then (j_61 )
else (j_67 y2_20 y3_20 M7))))
else (if jd_wr x1 = 0 then (some (y2_20, M3))
else (some (y3_20, M3)))) jfuel (-2) (-2) 0 M) fun j_11 =>
if jd_wr x1 = 0 then (j_11 )
else (if jd_wr x1 = jd_wr 1 then (j_11 )
else (some ((-1), M)))
theorem D_X11_cheapest : jDs cX11_cheapest [(0, .iload_n 1, 1, 1), (1, .ifCond .eq 10, 3, 4), (4, .iload_n 1, 1, 5), (5, .iconst 1, 1, 6), (6, .if_icmp .eq 5, 3, 9), (9, .iconst (-1), 1, 10), (10, .ireturn, 1, 11), (11, .bipush (-2), 2, 13), (13, .istore_n 2, 1, 14), (14, .bipush (-2), 2, 16), (16, .istore_n 3, 1, 17), (17, .iconst 0, 1, 18), (18, .istore 4, 2, 20), (20, .iload 4, 2, 22), (22, .aload_n 0, 1, 23), (23, .getfield 19, 3, 26), (26, .invokevirtual 204, 3, 29), (29, .if_icmp .ge 44, 3, 32), (32, .aload_n 0, 1, 33), (33, .iload 4, 2, 35), (35, .invokevirtual 184, 3, 38), (38, .ifCond .eq 29, 3, 41), (41, .aload_n 0, 1, 42), (42, .iload 4, 2, 44), (44, .invokevirtual 187, 3, 47), (47, .istore 5, 2, 49), (49, .iload_n 2, 1, 50), (50, .bipush (-2), 2, 52), (52, .if_icmp .eq 9, 3, 55), (55, .iload 5, 2, 57), (57, .iload_n 3, 1, 58), (58, .if_icmp .ge 9, 3, 61), (61, .iload 4, 2, 63), (63, .istore_n 2, 1, 64), (64, .iload 5, 2, 66), (66, .istore_n 3, 1, 67), (67, .iinc 4 1, 3, 70), (70, .goto (-50), 3, 73), (73, .iload_n 1, 1, 74), (74, .ifCond .ne 7, 3, 77), (77, .iload_n 2, 1, 78), (78, .goto 4, 3, 81), (81, .iload_n 3, 1, 82), (82, .ireturn, 1, 83)] := by unfold jDs; decide +kernel
set_option maxRecDepth 100000 in
set_option maxHeartbeats 4000000 in
theorem c_X11_cheapest {E : jE} {th : Nat} {x1 : Int} {M : jMem} {r : Int} {M' : jMem} (h : f_X11_cheapest th x1 M = some (r, M')) : jMet E yX11_cheapest cX11_cheapest 6 (some .int) 7 0 0 [q_r E th, q_i x1] M (some (q_i r)) M' := by
  unfold f_X11_cheapest at h
  refine jMet.of RX11 rfl (by decide +kernel) (Nat.le_of_ble_eq_true rfl) [(0, q_r E th), (1, q_i x1)] rfl (fun X hC hE hr hn => ?_)
  refine jr_iload_n hC (D_X11_cheapest.g 0 rfl) 1 rfl ?_
  refine jr_join h (fun j => j = some (r, M') → JW E X 6 0 0 M 11 [(0, q_r E th), (1, q_i x1)] []) ?_ ?_
  · intro  h
    refine jr_bipush hC (D_X11_cheapest.g 7 rfl) bp_m2 ?_
    refine jr_istore_n hC (D_X11_cheapest.g 8 rfl) (by decide) rfl ?_
    refine jr_bipush hC (D_X11_cheapest.g 9 rfl) bp_m2 ?_
    refine jr_istore_n hC (D_X11_cheapest.g 10 rfl) (by decide) rfl ?_
    refine jr_iconst hC (D_X11_cheapest.g 11 rfl) ?_
    refine jr_istore hC (D_X11_cheapest.g 12 rfl) (by decide) rfl ?_
    refine jr_pick [3, 4, 2, 1, 0] rfl ?_
    refine jr_lp4 (fun (y2_20 : Int) (y3_20 : Int) (y4_20 : Int) (M_20 : jMem) => JW E X 6 0 0 M_20 20 [(0, q_r E th), (1, q_i x1), (2, q_i y2_20), (3, q_i y3_20), (4, q_i y4_20)] []) ?_ jfuel (-2) (-2) 0 M h
    intro rec_20 hrec_20 y2_20 y3_20 y4_20 M_20 h
    refine jr_iload hC (D_X11_cheapest.g 13 rfl) 4 rfl ?_
    refine jr_aload_n hC (D_X11_cheapest.g 14 rfl) 0 rfl ?_
    refine jr_getR hC fl_X11_19 rfl (D_X11_cheapest.g 15 rfl) h (fun r1 h => ?_)
    refine jr_cVi hC cl_X11_204 ⟨rfl, by decide⟩ (D_X11_cheapest.g 16 rfl) [] h (fun r M' e => c_X8_cells e) rfl rfl ⟨by decide, by decide⟩ (Nat.le_of_ble_eq_true rfl) ⟨Nat.le_of_ble_eq_true rfl, Nat.le_of_ble_eq_true rfl⟩ (fun v2 M3 h => ?_)
    refine jr_icmp_ge hC (D_X11_cheapest.g 17 rfl) 73 rfl h (fun h => ?_) (fun h => ?_)
    · refine jr_aload_n hC (D_X11_cheapest.g 18 rfl) 0 rfl ?_
      refine jr_iload hC (D_X11_cheapest.g 19 rfl) 4 rfl ?_
      refine jr_cVi hC cl_X11_184 ⟨rfl, by decide⟩ (D_X11_cheapest.g 20 rfl) [q_i y4_20] h (fun r M' e => c_X11_canTurn e) rfl rfl ⟨by decide, by decide⟩ (Nat.le_of_ble_eq_true rfl) ⟨Nat.le_of_ble_eq_true rfl, Nat.le_of_ble_eq_true rfl⟩ (fun v4 M5 h => ?_)
      refine jr_join h (fun j => ∀ (y2_67 : Int) (y3_67 : Int) (M_67 : jMem), j y2_67 y3_67 M_67 = some (r, M') → JW E X 6 0 0 M_67 67 [(0, q_r E th), (1, q_i x1), (2, q_i y2_67), (3, q_i y3_67), (4, q_i y4_20)] []) ?_ ?_
      · intro y2_67 y3_67 M_67 h
        refine jr_iinc hC (D_X11_cheapest.g 36 rfl) 4 rfl (by decide) rfl ?_
        refine jr_goto hC (D_X11_cheapest.g 37 rfl) 20 rfl ?_
        refine jr_pick [1, 2, 3, 4, 0] rfl ?_
        exact hrec_20 y2_67 y3_67 (y4_20 + 1) M_67 h
      intro j_67 hj_67 h
      refine jr_if_eq hC (D_X11_cheapest.g 21 rfl) 67 rfl h (fun h => ?_) (fun h => ?_)
      · exact hj_67 y2_20 y3_20 M5 h
      refine jr_aload_n hC (D_X11_cheapest.g 22 rfl) 0 rfl ?_
      refine jr_iload hC (D_X11_cheapest.g 23 rfl) 4 rfl ?_
      refine jr_cVi hC cl_X11_187 ⟨rfl, by decide⟩ (D_X11_cheapest.g 24 rfl) [q_i y4_20] h (fun r M' e => c_X11_priceOfTurning e) rfl rfl ⟨by decide, by decide⟩ (Nat.le_of_ble_eq_true rfl) ⟨Nat.le_of_ble_eq_true rfl, Nat.le_of_ble_eq_true rfl⟩ (fun v6 M7 h => ?_)
      refine jr_istore hC (D_X11_cheapest.g 25 rfl) (by decide) rfl ?_
      refine jr_iload_n hC (D_X11_cheapest.g 26 rfl) 3 rfl ?_
      refine jr_bipush hC (D_X11_cheapest.g 27 rfl) bp_m2 ?_
      refine jr_join h (fun j => j = some (r, M') → JW E X 6 0 0 M7 61 [(0, q_r E th), (1, q_i x1), (4, q_i y4_20), (5, q_i v6)] []) ?_ ?_
      · intro  h
        refine jr_iload hC (D_X11_cheapest.g 32 rfl) 2 rfl ?_
        refine jr_istore_n hC (D_X11_cheapest.g 33 rfl) (by decide) rfl ?_
        refine jr_iload hC (D_X11_cheapest.g 34 rfl) 4 rfl ?_
        refine jr_istore_n hC (D_X11_cheapest.g 35 rfl) (by decide) rfl ?_
        refine jr_pick [2, 3, 1, 0, 4] rfl ?_
        exact hj_67 y4_20 v6 M7 h
      intro j_61 hj_61 h
      refine jr_icmp_eq hC (D_X11_cheapest.g 28 rfl) 61 rfl h (fun h => ?_) (fun h => ?_)
      · refine jr_pick [1, 2, 5, 0] rfl ?_
        exact hj_61  h
      refine jr_iload hC (D_X11_cheapest.g 29 rfl) 0 rfl ?_
      refine jr_iload_n hC (D_X11_cheapest.g 30 rfl) 4 rfl ?_
      refine jr_icmp_ge hC (D_X11_cheapest.g 31 rfl) 67 rfl h (fun h => ?_) (fun h => ?_)
      · refine jr_pick [1, 2, 5, 0] rfl ?_
        exact hj_61  h
      refine jr_pick [1, 2, 3, 4, 5] rfl ?_
      exact hj_67 y2_20 y3_20 M7 h
    refine jr_iload_n hC (D_X11_cheapest.g 38 rfl) 1 rfl ?_
    refine jr_if_ne hC (D_X11_cheapest.g 39 rfl) 81 rfl h (fun h => ?_) (fun h => ?_)
    · refine jr_iload_n hC (D_X11_cheapest.g 40 rfl) 2 rfl ?_
      refine jr_goto hC (D_X11_cheapest.g 41 rfl) 82 rfl ?_
      exact jr_iret hC (D_X11_cheapest.g 43 rfl) hr hE h
    refine jr_iload_n hC (D_X11_cheapest.g 42 rfl) 3 rfl ?_
    exact jr_iret hC (D_X11_cheapest.g 43 rfl) hr hE h
  intro j_11 hj_11 h
  refine jr_if_eq hC (D_X11_cheapest.g 1 rfl) 11 rfl h (fun h => ?_) (fun h => ?_)
  · exact hj_11  h
  refine jr_iload_n hC (D_X11_cheapest.g 2 rfl) 1 rfl ?_
  refine jr_iconst hC (D_X11_cheapest.g 3 rfl) ?_
  refine jr_icmp_eq hC (D_X11_cheapest.g 4 rfl) 11 rfl h (fun h => ?_) (fun h => ?_)
  · exact hj_11  h
  refine jr_iconst hC (D_X11_cheapest.g 5 rfl) ?_
  exact jr_iret hC (D_X11_cheapest.g 6 rfl) hr hE h
def f_X11_widows (th : Nat) (x1 : Int) (x2 : Int) (M : jMem) : Option (Int × jMem) :=
if jd_wr x1 = jd_wr x2 then (some ((-1), M))
else ((jm_gR 11 2 M th).bind fun r1 =>
jcall 8 M r1 (f_X8_isOpen r1 x1 M) fun v2 M3 =>
if jd_wr v2 = 0 then (some ((-1), M3))
else ((jm_gR 11 2 M3 th).bind fun r4 =>
jcall 8 M3 r4 (f_X8_isOpen r4 x2 M3) fun v5 M6 =>
if jd_wr v5 = 0 then (some ((-1), M6))
else ((jm_gR 11 9 M6 th).bind fun r7 =>
(jm_gR 11 2 M6 th).bind fun r8 =>
jcall 4 M6 r7 (f_X4_begin r7 r8 M6) fun _ M10 =>
(jm_gR 11 9 M10 th).bind fun r11 =>
jcall 4 M10 r11 (f_X4_close r11 x1 M10) fun _ M13 =>
(jm_gR 11 9 M13 th).bind fun r14 =>
jcall 4 M13 r14 (f_X4_close r14 x2 M13) fun _ M16 =>
(jm_gR 11 9 M16 th).bind fun r17 =>
jcall 4 M16 r17 (f_X4_countWays r17 M16) fun _ M19 =>
(jm_gR 11 9 M19 th).bind fun r20 =>
jcall 4 M19 r20 (f_X4_total r20 M19) fun v21 M22 =>
some (v21, M22))))
theorem D_X11_widows : jDs cX11_widows [(0, .iload_n 1, 1, 1), (1, .iload_n 2, 1, 2), (2, .if_icmp .eq 25, 3, 5), (5, .aload_n 0, 1, 6), (6, .getfield 19, 3, 9), (9, .iload_n 1, 1, 10), (10, .invokevirtual 225, 3, 13), (13, .ifCond .eq 14, 3, 16), (16, .aload_n 0, 1, 17), (17, .getfield 19, 3, 20), (20, .iload_n 2, 1, 21), (21, .invokevirtual 225, 3, 24), (24, .ifCond .ne 5, 3, 27), (27, .iconst (-1), 1, 28), (28, .ireturn, 1, 29), (29, .aload_n 0, 1, 30), (30, .getfield 66, 3, 33), (33, .aload_n 0, 1, 34), (34, .getfield 19, 3, 37), (37, .invokevirtual 282, 3, 40), (40, .aload_n 0, 1, 41), (41, .getfield 66, 3, 44), (44, .iload_n 1, 1, 45), (45, .invokevirtual 286, 3, 48), (48, .aload_n 0, 1, 49), (49, .getfield 66, 3, 52), (52, .iload_n 2, 1, 53), (53, .invokevirtual 286, 3, 56), (56, .aload_n 0, 1, 57), (57, .getfield 66, 3, 60), (60, .invokevirtual 289, 3, 63), (63, .aload_n 0, 1, 64), (64, .getfield 66, 3, 67), (67, .invokevirtual 194, 3, 70), (70, .ireturn, 1, 71)] := by unfold jDs; decide +kernel
set_option maxRecDepth 100000 in
set_option maxHeartbeats 4000000 in
theorem c_X11_widows {E : jE} {th : Nat} {x1 : Int} {x2 : Int} {M : jMem} {r : Int} {M' : jMem} (h : f_X11_widows th x1 x2 M = some (r, M')) : jMet E yX11_widows cX11_widows 3 (some .int) 6 0 0 [q_r E th, q_i x1, q_i x2] M (some (q_i r)) M' := by
  unfold f_X11_widows at h
  refine jMet.of RX11 rfl (by decide +kernel) (Nat.le_of_ble_eq_true rfl) [(0, q_r E th), (1, q_i x1), (2, q_i x2)] rfl (fun X hC hE hr hn => ?_)
  refine jr_iload_n hC (D_X11_widows.g 0 rfl) 1 rfl ?_
  refine jr_iload_n hC (D_X11_widows.g 1 rfl) 2 rfl ?_
  refine jr_icmp_eq hC (D_X11_widows.g 2 rfl) 27 rfl h (fun h => ?_) (fun h => ?_)
  · refine jr_iconst hC (D_X11_widows.g 13 rfl) ?_
    exact jr_iret hC (D_X11_widows.g 14 rfl) hr hE h
  refine jr_aload_n hC (D_X11_widows.g 3 rfl) 0 rfl ?_
  refine jr_getR hC fl_X11_19 rfl (D_X11_widows.g 4 rfl) h (fun r1 h => ?_)
  refine jr_iload_n hC (D_X11_widows.g 5 rfl) 1 rfl ?_
  refine jr_cVi hC cl_X11_225 ⟨rfl, by decide⟩ (D_X11_widows.g 6 rfl) [q_i x1] h (fun r M' e => c_X8_isOpen e) rfl rfl ⟨by decide, by decide⟩ (Nat.le_of_ble_eq_true rfl) ⟨Nat.le_of_ble_eq_true rfl, Nat.le_of_ble_eq_true rfl⟩ (fun v2 M3 h => ?_)
  refine jr_if_eq hC (D_X11_widows.g 7 rfl) 27 rfl h (fun h => ?_) (fun h => ?_)
  · refine jr_iconst hC (D_X11_widows.g 13 rfl) ?_
    exact jr_iret hC (D_X11_widows.g 14 rfl) hr hE h
  refine jr_aload_n hC (D_X11_widows.g 8 rfl) 0 rfl ?_
  refine jr_getR hC fl_X11_19 rfl (D_X11_widows.g 9 rfl) h (fun r4 h => ?_)
  refine jr_iload_n hC (D_X11_widows.g 10 rfl) 2 rfl ?_
  refine jr_cVi hC cl_X11_225 ⟨rfl, by decide⟩ (D_X11_widows.g 11 rfl) [q_i x2] h (fun r M' e => c_X8_isOpen e) rfl rfl ⟨by decide, by decide⟩ (Nat.le_of_ble_eq_true rfl) ⟨Nat.le_of_ble_eq_true rfl, Nat.le_of_ble_eq_true rfl⟩ (fun v5 M6 h => ?_)
  refine jr_if_ne hC (D_X11_widows.g 12 rfl) 29 rfl h (fun h => ?_) (fun h => ?_)
  · refine jr_iconst hC (D_X11_widows.g 13 rfl) ?_
    exact jr_iret hC (D_X11_widows.g 14 rfl) hr hE h
  refine jr_aload_n hC (D_X11_widows.g 15 rfl) 0 rfl ?_
  refine jr_getR hC fl_X11_66 rfl (D_X11_widows.g 16 rfl) h (fun r7 h => ?_)
  refine jr_aload_n hC (D_X11_widows.g 17 rfl) 0 rfl ?_
  refine jr_getR hC fl_X11_19 rfl (D_X11_widows.g 18 rfl) h (fun r8 h => ?_)
  refine jr_cVv hC cl_X11_282 ⟨rfl, by decide⟩ (D_X11_widows.g 19 rfl) [q_r E r8] h (fun r M' e => c_X4_begin e) rfl rfl ⟨by decide, by decide⟩ (Nat.le_of_ble_eq_true rfl) ⟨Nat.le_of_ble_eq_true rfl, Nat.le_of_ble_eq_true rfl⟩ (fun _ M10 h => ?_)
  refine jr_aload_n hC (D_X11_widows.g 20 rfl) 0 rfl ?_
  refine jr_getR hC fl_X11_66 rfl (D_X11_widows.g 21 rfl) h (fun r11 h => ?_)
  refine jr_iload_n hC (D_X11_widows.g 22 rfl) 1 rfl ?_
  refine jr_cVv hC cl_X11_286 ⟨rfl, by decide⟩ (D_X11_widows.g 23 rfl) [q_i x1] h (fun r M' e => c_X4_close e) rfl rfl ⟨by decide, by decide⟩ (Nat.le_of_ble_eq_true rfl) ⟨Nat.le_of_ble_eq_true rfl, Nat.le_of_ble_eq_true rfl⟩ (fun _ M13 h => ?_)
  refine jr_aload_n hC (D_X11_widows.g 24 rfl) 0 rfl ?_
  refine jr_getR hC fl_X11_66 rfl (D_X11_widows.g 25 rfl) h (fun r14 h => ?_)
  refine jr_iload_n hC (D_X11_widows.g 26 rfl) 2 rfl ?_
  refine jr_cVv hC cl_X11_286 ⟨rfl, by decide⟩ (D_X11_widows.g 27 rfl) [q_i x2] h (fun r M' e => c_X4_close e) rfl rfl ⟨by decide, by decide⟩ (Nat.le_of_ble_eq_true rfl) ⟨Nat.le_of_ble_eq_true rfl, Nat.le_of_ble_eq_true rfl⟩ (fun _ M16 h => ?_)
  refine jr_aload_n hC (D_X11_widows.g 28 rfl) 0 rfl ?_
  refine jr_getR hC fl_X11_66 rfl (D_X11_widows.g 29 rfl) h (fun r17 h => ?_)
  refine jr_cVv hC cl_X11_289 ⟨rfl, by decide⟩ (D_X11_widows.g 30 rfl) [] h (fun r M' e => c_X4_countWays e) rfl rfl ⟨by decide, by decide⟩ (Nat.le_of_ble_eq_true rfl) ⟨Nat.le_of_ble_eq_true rfl, Nat.le_of_ble_eq_true rfl⟩ (fun _ M19 h => ?_)
  refine jr_aload_n hC (D_X11_widows.g 31 rfl) 0 rfl ?_
  refine jr_getR hC fl_X11_66 rfl (D_X11_widows.g 32 rfl) h (fun r20 h => ?_)
  refine jr_cVi hC cl_X11_194 ⟨rfl, by decide⟩ (D_X11_widows.g 33 rfl) [] h (fun r M' e => c_X4_total e) rfl rfl ⟨by decide, by decide⟩ (Nat.le_of_ble_eq_true rfl) ⟨Nat.le_of_ble_eq_true rfl, Nat.le_of_ble_eq_true rfl⟩ (fun v21 M22 h => ?_)
  exact jr_iret hC (D_X11_widows.g 34 rfl) hr hE h
def f_X11_then (th : Nat) (x1 : Int) (x2 : Int) (M : jMem) : Option (Int × jMem) :=
jjq (fun (M_16 : jMem) =>
if jd_wr x2 < 0 then (some ((-1), M_16))
else (if jd_wr x2 ≤ jd_wr 60 then ((jm_gR 11 5 M_16 th).bind fun r1 =>
(jm_gR 11 4 M_16 th).bind fun r2 =>
jcall 6 M_16 r1 (f_X6_copyOf r1 r2 M_16) fun _ M4 =>
(jm_gR 11 5 M4 th).bind fun r5 =>
jcall 11 M4 th (f_X11_passSeasons th r5 x2 M4) fun _ M7 =>
if jd_wr x1 = jd_wr (-1) then ((jm_gR 11 5 M7 th).bind fun r8 =>
(jm_gI 6 6 M7 r8).bind fun v9 =>
some (v9, M7))
else ((jm_gR 11 5 M7 th).bind fun r10 =>
(jm_gR 6 4 M7 r10).bind fun r11 =>
(jm_ld 20 M7 r11 x1).bind fun v12 =>
if jd_wr v12 = jd_wr (-1) then (some (0, M7))
else (some (1, M7))))
else (some ((-1), M_16)))) fun j_16 =>
if jd_wr x1 = jd_wr (-1) then (j_16 M)
else ((jm_gR 11 2 M th).bind fun r13 =>
jcall 8 M r13 (f_X8_hasCell r13 x1 M) fun v14 M15 =>
if jd_wr v14 = 0 then (some ((-1), M15))
else (j_16 M15))
theorem D_X11_then : jDs cX11_then [(0, .iload_n 1, 1, 1), (1, .iconst (-1), 1, 2), (2, .if_icmp .eq 14, 3, 5), (5, .aload_n 0, 1, 6), (6, .getfield 19, 3, 9), (9, .iload_n 1, 1, 10), (10, .invokevirtual 108, 3, 13), (13, .ifCond .eq 13, 3, 16), (16, .iload_n 2, 1, 17), (17, .ifCond .lt 9, 3, 20), (20, .iload_n 2, 1, 21), (21, .bipush 60, 2, 23), (23, .if_icmp .le 5, 3, 26), (26, .iconst (-1), 1, 27), (27, .ireturn, 1, 28), (28, .aload_n 0, 1, 29), (29, .getfield 42, 3, 32), (32, .aload_n 0, 1, 33), (33, .getfield 38, 3, 36), (36, .invokevirtual 292, 3, 39), (39, .aload_n 0, 1, 40), (40, .aload_n 0, 1, 41), (41, .getfield 42, 3, 44), (44, .iload_n 2, 1, 45), (45, .invokevirtual 211, 3, 48), (48, .iload_n 1, 1, 49), (49, .iconst (-1), 1, 50), (50, .if_icmp .ne 11, 3, 53), (53, .aload_n 0, 1, 54), (54, .getfield 42, 3, 57), (57, .getfield 295, 3, 60), (60, .ireturn, 1, 61), (61, .aload_n 0, 1, 62), (62, .getfield 42, 3, 65), (65, .getfield 112, 3, 68), (68, .iload_n 1, 1, 69), (69, .iaload, 1, 70), (70, .iconst (-1), 1, 71), (71, .if_icmp .ne 7, 3, 74), (74, .iconst 0, 1, 75), (75, .goto 4, 3, 78), (78, .iconst 1, 1, 79), (79, .ireturn, 1, 80)] := by unfold jDs; decide +kernel
set_option maxRecDepth 100000 in
set_option maxHeartbeats 4000000 in
theorem c_X11_then {E : jE} {th : Nat} {x1 : Int} {x2 : Int} {M : jMem} {r : Int} {M' : jMem} (h : f_X11_then th x1 x2 M = some (r, M')) : jMet E yX11_then cX11_then 3 (some .int) 8 0 0 [q_r E th, q_i x1, q_i x2] M (some (q_i r)) M' := by
  unfold f_X11_then at h
  refine jMet.of RX11 rfl (by decide +kernel) (Nat.le_of_ble_eq_true rfl) [(0, q_r E th), (1, q_i x1), (2, q_i x2)] rfl (fun X hC hE hr hn => ?_)
  refine jr_iload_n hC (D_X11_then.g 0 rfl) 1 rfl ?_
  refine jr_iconst hC (D_X11_then.g 1 rfl) ?_
  refine jr_join h (fun j => ∀ (M_16 : jMem), j M_16 = some (r, M') → JW E X 3 0 0 M_16 16 [(0, q_r E th), (1, q_i x1), (2, q_i x2)] []) ?_ ?_
  · intro M_16 h
    refine jr_iload_n hC (D_X11_then.g 8 rfl) 2 rfl ?_
    refine jr_if_lt hC (D_X11_then.g 9 rfl) 26 rfl h (fun h => ?_) (fun h => ?_)
    · refine jr_iconst hC (D_X11_then.g 13 rfl) ?_
      exact jr_iret hC (D_X11_then.g 14 rfl) hr hE h
    refine jr_iload_n hC (D_X11_then.g 10 rfl) 2 rfl ?_
    refine jr_bipush hC (D_X11_then.g 11 rfl) bp_60 ?_
    refine jr_icmp_le hC (D_X11_then.g 12 rfl) 28 rfl h (fun h => ?_) (fun h => ?_)
    · refine jr_aload_n hC (D_X11_then.g 15 rfl) 0 rfl ?_
      refine jr_getR hC fl_X11_42 rfl (D_X11_then.g 16 rfl) h (fun r1 h => ?_)
      refine jr_aload_n hC (D_X11_then.g 17 rfl) 0 rfl ?_
      refine jr_getR hC fl_X11_38 rfl (D_X11_then.g 18 rfl) h (fun r2 h => ?_)
      refine jr_cVv hC cl_X11_292 ⟨rfl, by decide⟩ (D_X11_then.g 19 rfl) [q_r E r2] h (fun r M' e => c_X6_copyOf e) rfl rfl ⟨by decide, by decide⟩ (Nat.le_of_ble_eq_true rfl) ⟨Nat.le_of_ble_eq_true rfl, Nat.le_of_ble_eq_true rfl⟩ (fun _ M4 h => ?_)
      refine jr_aload_n hC (D_X11_then.g 20 rfl) 0 rfl ?_
      refine jr_aload_n hC (D_X11_then.g 21 rfl) 0 rfl ?_
      refine jr_getR hC fl_X11_42 rfl (D_X11_then.g 22 rfl) h (fun r5 h => ?_)
      refine jr_iload_n hC (D_X11_then.g 23 rfl) 2 rfl ?_
      refine jr_cVv hC cl_X11_211 ⟨rfl, by decide⟩ (D_X11_then.g 24 rfl) [q_r E r5, q_i x2] h (fun r M' e => c_X11_passSeasons e) rfl rfl ⟨by decide, by decide⟩ (Nat.le_of_ble_eq_true rfl) ⟨Nat.le_of_ble_eq_true rfl, Nat.le_of_ble_eq_true rfl⟩ (fun _ M7 h => ?_)
      refine jr_iload_n hC (D_X11_then.g 25 rfl) 1 rfl ?_
      refine jr_iconst hC (D_X11_then.g 26 rfl) ?_
      refine jr_icmp_ne hC (D_X11_then.g 27 rfl) 61 rfl h (fun h => ?_) (fun h => ?_)
      · refine jr_aload_n hC (D_X11_then.g 28 rfl) 0 rfl ?_
        refine jr_getR hC fl_X11_42 rfl (D_X11_then.g 29 rfl) h (fun r8 h => ?_)
        refine jr_getI hC fl_X11_295 rfl (D_X11_then.g 30 rfl) h (fun v9 h => ?_)
        exact jr_iret hC (D_X11_then.g 31 rfl) hr hE h
      refine jr_aload_n hC (D_X11_then.g 32 rfl) 0 rfl ?_
      refine jr_getR hC fl_X11_42 rfl (D_X11_then.g 33 rfl) h (fun r10 h => ?_)
      refine jr_getR hC fl_X11_112 rfl (D_X11_then.g 34 rfl) h (fun r11 h => ?_)
      refine jr_iload_n hC (D_X11_then.g 35 rfl) 1 rfl ?_
      refine jr_iald hC (D_X11_then.g 36 rfl) h (fun v12 h => ?_)
      refine jr_iconst hC (D_X11_then.g 37 rfl) ?_
      refine jr_icmp_ne hC (D_X11_then.g 38 rfl) 78 rfl h (fun h => ?_) (fun h => ?_)
      · refine jr_iconst hC (D_X11_then.g 39 rfl) ?_
        refine jr_goto hC (D_X11_then.g 40 rfl) 79 rfl ?_
        exact jr_iret hC (D_X11_then.g 42 rfl) hr hE h
      refine jr_iconst hC (D_X11_then.g 41 rfl) ?_
      exact jr_iret hC (D_X11_then.g 42 rfl) hr hE h
    refine jr_iconst hC (D_X11_then.g 13 rfl) ?_
    exact jr_iret hC (D_X11_then.g 14 rfl) hr hE h
  intro j_16 hj_16 h
  refine jr_icmp_eq hC (D_X11_then.g 2 rfl) 16 rfl h (fun h => ?_) (fun h => ?_)
  · exact hj_16 M h
  refine jr_aload_n hC (D_X11_then.g 3 rfl) 0 rfl ?_
  refine jr_getR hC fl_X11_19 rfl (D_X11_then.g 4 rfl) h (fun r13 h => ?_)
  refine jr_iload_n hC (D_X11_then.g 5 rfl) 1 rfl ?_
  refine jr_cVi hC cl_X11_108 ⟨rfl, by decide⟩ (D_X11_then.g 6 rfl) [q_i x1] h (fun r M' e => c_X8_hasCell e) rfl rfl ⟨by decide, by decide⟩ (Nat.le_of_ble_eq_true rfl) ⟨Nat.le_of_ble_eq_true rfl, Nat.le_of_ble_eq_true rfl⟩ (fun v14 M15 h => ?_)
  refine jr_if_eq hC (D_X11_then.g 7 rfl) 26 rfl h (fun h => ?_) (fun h => ?_)
  · refine jr_iconst hC (D_X11_then.g 13 rfl) ?_
    exact jr_iret hC (D_X11_then.g 14 rfl) hr hE h
  exact hj_16 M15 h
def f_X11_seedsThatLoosen (th : Nat) (a1 : Nat) (x2 : Int) (M : jMem) : Option (Int × jMem) :=
jlp3 (fun rec_5 (y3_5 : Int) (y4_5 : Int) (M_5 : jMem) =>
if jd_wr y4_5 < jd_wr 18 then (jcall 6 M_5 a1 (f_X6_lies a1 y4_5 M_5) fun v1 M2 =>
jjq (fun (y3_99 : Int) (M_99 : jMem) =>
rec_5 y3_99 (y4_5 + 1) M_99) fun j_99 =>
if jd_wr v1 = 0 then (j_99 y3_5 M2)
else ((jm_gR 11 2 M2 th).bind fun r3 =>
(jm_gR 8 12 M2 r3).bind fun r4 =>
(jm_gR 11 2 M2 th).bind fun r5 =>
(jm_gI 8 3 M2 r5).bind fun v6 =>
jcall 2 M2 r4 (f_X2_held r4 1 a1 y4_5 v6 M2) fun v7 M8 =>
jlp3 (fun rec_47 (y3_47 : Int) (y6_47 : Int) (M_47 : jMem) =>
if jd_wr y6_47 < jd_wr x2 then (if jd_wr v7 ≤ 0 then (j_99 y3_47 M_47)
else ((jm_gR 11 2 M_47 th).bind fun r9 =>
(jm_gI 8 2 M_47 r9).bind fun v10 =>
(jm_gI 6 7 M_47 a1).bind fun v11 =>
jbd (f_X11_lotOfHundred (v10 + y6_47) ((32 * v11) + y4_5) M_47) fun v12 M13 =>
jjq (fun (y3_93 : Int) =>
rec_47 y3_93 (y6_47 + 1) M13) fun j_93 =>
if jd_wr v12 < jd_wr v7 then (j_93 (jd_or y3_47 (jd_shl 1 y6_47)))
else (j_93 y3_47)))
else (j_99 y3_47 M_47)) jfuel y3_5 0 M8))
else (some (y3_5, M_5))) jfuel 0 0 M
theorem D_X11_seedsThatLoosen : jDs cX11_seedsThatLoosen [(0, .iconst 0, 1, 1), (1, .istore_n 3, 1, 2), (2, .iconst 0, 1, 3), (3, .istore 4, 2, 5), (5, .iload 4, 2, 7), (7, .bipush 18, 2, 9), (9, .if_icmp .ge 96, 3, 12), (12, .aload_n 1, 1, 13), (13, .iload 4, 2, 15), (15, .invokevirtual 126, 3, 18), (18, .ifCond .eq 81, 3, 21), (21, .aload_n 0, 1, 22), (22, .getfield 19, 3, 25), (25, .getfield 141, 3, 28), (28, .iconst 1, 1, 29), (29, .aload_n 1, 1, 30), (30, .iload 4, 2, 32), (32, .aload_n 0, 1, 33), (33, .getfield 19, 3, 36), (36, .getfield 147, 3, 39), (39, .invokevirtual 150, 3, 42), (42, .istore 5, 2, 44), (44, .iconst 0, 1, 45), (45, .istore 6, 2, 47), (47, .iload 6, 2, 49), (49, .iload_n 2, 1, 50), (50, .if_icmp .ge 49, 3, 53), (53, .iload 5, 2, 55), (55, .ifCond .le 44, 3, 58), (58, .aload_n 0, 1, 59), (59, .getfield 19, 3, 62), (62, .getfield 375, 3, 65), (65, .iload 6, 2, 67), (67, .iadd, 1, 68), (68, .bipush 32, 2, 70), (70, .aload_n 1, 1, 71), (71, .getfield 215, 3, 74), (74, .imul, 1, 75), (75, .iload 4, 2, 77), (77, .iadd, 1, 78), (78, .invokestatic 378, 3, 81), (81, .iload 5, 2, 83), (83, .if_icmp .ge 10, 3, 86), (86, .iload_n 3, 1, 87), (87, .iconst 1, 1, 88), (88, .iload 6, 2, 90), (90, .ishl, 1, 91), (91, .ior, 1, 92), (92, .istore_n 3, 1, 93), (93, .iinc 6 1, 3, 96), (96, .goto (-49), 3, 99), (99, .iinc 4 1, 3, 102), (102, .goto (-97), 3, 105), (105, .iload_n 3, 1, 106), (106, .ireturn, 1, 107)] := by unfold jDs; decide +kernel
set_option maxRecDepth 100000 in
set_option maxHeartbeats 4000000 in
theorem c_X11_seedsThatLoosen {E : jE} {th : Nat} {a1 : Nat} {x2 : Int} {M : jMem} {r : Int} {M' : jMem} (h : f_X11_seedsThatLoosen th a1 x2 M = some (r, M')) : jMet E yX11_seedsThatLoosen cX11_seedsThatLoosen 7 (some .int) 6 0 0 [q_r E th, q_r E a1, q_i x2] M (some (q_i r)) M' := by
  unfold f_X11_seedsThatLoosen at h
  refine jMet.of RX11 rfl (by decide +kernel) (Nat.le_of_ble_eq_true rfl) [(0, q_r E th), (1, q_r E a1), (2, q_i x2)] rfl (fun X hC hE hr hn => ?_)
  refine jr_iconst hC (D_X11_seedsThatLoosen.g 0 rfl) ?_
  refine jr_istore_n hC (D_X11_seedsThatLoosen.g 1 rfl) (by decide) rfl ?_
  refine jr_iconst hC (D_X11_seedsThatLoosen.g 2 rfl) ?_
  refine jr_istore hC (D_X11_seedsThatLoosen.g 3 rfl) (by decide) rfl ?_
  refine jr_pick [2, 3, 4, 1, 0] rfl ?_
  refine jr_lp3 (fun (y3_5 : Int) (y4_5 : Int) (M_5 : jMem) => JW E X 7 0 0 M_5 5 [(0, q_r E th), (1, q_r E a1), (2, q_i x2), (3, q_i y3_5), (4, q_i y4_5)] []) ?_ jfuel 0 0 M h
  intro rec_5 hrec_5 y3_5 y4_5 M_5 h
  refine jr_iload hC (D_X11_seedsThatLoosen.g 4 rfl) 4 rfl ?_
  refine jr_bipush hC (D_X11_seedsThatLoosen.g 5 rfl) bp_18 ?_
  refine jr_icmp_ge hC (D_X11_seedsThatLoosen.g 6 rfl) 105 rfl h (fun h => ?_) (fun h => ?_)
  · refine jr_aload_n hC (D_X11_seedsThatLoosen.g 7 rfl) 1 rfl ?_
    refine jr_iload hC (D_X11_seedsThatLoosen.g 8 rfl) 4 rfl ?_
    refine jr_cVi hC cl_X11_126 ⟨rfl, by decide⟩ (D_X11_seedsThatLoosen.g 9 rfl) [q_i y4_5] h (fun r M' e => c_X6_lies e) rfl rfl ⟨by decide, by decide⟩ (Nat.le_of_ble_eq_true rfl) ⟨Nat.le_of_ble_eq_true rfl, Nat.le_of_ble_eq_true rfl⟩ (fun v1 M2 h => ?_)
    refine jr_join h (fun j => ∀ (y3_99 : Int) (M_99 : jMem), j y3_99 M_99 = some (r, M') → JW E X 7 0 0 M_99 99 [(0, q_r E th), (1, q_r E a1), (2, q_i x2), (3, q_i y3_99), (4, q_i y4_5)] []) ?_ ?_
    · intro y3_99 M_99 h
      refine jr_iinc hC (D_X11_seedsThatLoosen.g 51 rfl) 4 rfl (by decide) rfl ?_
      refine jr_goto hC (D_X11_seedsThatLoosen.g 52 rfl) 5 rfl ?_
      refine jr_pick [1, 2, 3, 4, 0] rfl ?_
      exact hrec_5 y3_99 (y4_5 + 1) M_99 h
    intro j_99 hj_99 h
    refine jr_if_eq hC (D_X11_seedsThatLoosen.g 10 rfl) 99 rfl h (fun h => ?_) (fun h => ?_)
    · exact hj_99 y3_5 M2 h
    refine jr_aload_n hC (D_X11_seedsThatLoosen.g 11 rfl) 0 rfl ?_
    refine jr_getR hC fl_X11_19 rfl (D_X11_seedsThatLoosen.g 12 rfl) h (fun r3 h => ?_)
    refine jr_getR hC fl_X11_141 rfl (D_X11_seedsThatLoosen.g 13 rfl) h (fun r4 h => ?_)
    refine jr_iconst hC (D_X11_seedsThatLoosen.g 14 rfl) ?_
    refine jr_aload_n hC (D_X11_seedsThatLoosen.g 15 rfl) 1 rfl ?_
    refine jr_iload hC (D_X11_seedsThatLoosen.g 16 rfl) 4 rfl ?_
    refine jr_aload_n hC (D_X11_seedsThatLoosen.g 17 rfl) 0 rfl ?_
    refine jr_getR hC fl_X11_19 rfl (D_X11_seedsThatLoosen.g 18 rfl) h (fun r5 h => ?_)
    refine jr_getI hC fl_X11_147 rfl (D_X11_seedsThatLoosen.g 19 rfl) h (fun v6 h => ?_)
    refine jr_cVi hC cl_X11_150 ⟨rfl, by decide⟩ (D_X11_seedsThatLoosen.g 20 rfl) [q_i 1, q_r E a1, q_i y4_5, q_i v6] h (fun r M' e => c_X2_held e) rfl rfl ⟨by decide, by decide⟩ (Nat.le_of_ble_eq_true rfl) ⟨Nat.le_of_ble_eq_true rfl, Nat.le_of_ble_eq_true rfl⟩ (fun v7 M8 h => ?_)
    refine jr_istore hC (D_X11_seedsThatLoosen.g 21 rfl) (by decide) rfl ?_
    refine jr_iconst hC (D_X11_seedsThatLoosen.g 22 rfl) ?_
    refine jr_istore hC (D_X11_seedsThatLoosen.g 23 rfl) (by decide) rfl ?_
    refine jr_pick [2, 3, 4, 5, 6, 1, 0] rfl ?_
    refine jr_lp3 (fun (y3_47 : Int) (y6_47 : Int) (M_47 : jMem) => JW E X 7 0 0 M_47 47 [(0, q_r E th), (1, q_r E a1), (2, q_i x2), (3, q_i y3_47), (4, q_i y4_5), (5, q_i v7), (6, q_i y6_47)] []) ?_ jfuel y3_5 0 M8 h
    intro rec_47 hrec_47 y3_47 y6_47 M_47 h
    refine jr_iload hC (D_X11_seedsThatLoosen.g 24 rfl) 6 rfl ?_
    refine jr_iload_n hC (D_X11_seedsThatLoosen.g 25 rfl) 2 rfl ?_
    refine jr_icmp_ge hC (D_X11_seedsThatLoosen.g 26 rfl) 99 rfl h (fun h => ?_) (fun h => ?_)
    · refine jr_iload hC (D_X11_seedsThatLoosen.g 27 rfl) 5 rfl ?_
      refine jr_if_le hC (D_X11_seedsThatLoosen.g 28 rfl) 99 rfl h (fun h => ?_) (fun h => ?_)
      · refine jr_pick [0, 1, 2, 3, 4] rfl ?_
        exact hj_99 y3_47 M_47 h
      refine jr_aload_n hC (D_X11_seedsThatLoosen.g 29 rfl) 0 rfl ?_
      refine jr_getR hC fl_X11_19 rfl (D_X11_seedsThatLoosen.g 30 rfl) h (fun r9 h => ?_)
      refine jr_getI hC fl_X11_375 rfl (D_X11_seedsThatLoosen.g 31 rfl) h (fun v10 h => ?_)
      refine jr_iload hC (D_X11_seedsThatLoosen.g 32 rfl) 6 rfl ?_
      refine jr_iadd hC (D_X11_seedsThatLoosen.g 33 rfl) ?_
      refine jr_bipush hC (D_X11_seedsThatLoosen.g 34 rfl) bp_32 ?_
      refine jr_aload_n hC (D_X11_seedsThatLoosen.g 35 rfl) 1 rfl ?_
      refine jr_getI hC fl_X11_215 rfl (D_X11_seedsThatLoosen.g 36 rfl) h (fun v11 h => ?_)
      refine jr_imul hC (D_X11_seedsThatLoosen.g 37 rfl) ?_
      refine jr_iload hC (D_X11_seedsThatLoosen.g 38 rfl) 4 rfl ?_
      refine jr_iadd hC (D_X11_seedsThatLoosen.g 39 rfl) ?_
      refine jr_cSi hC cl_X11_378 (D_X11_seedsThatLoosen.g 40 rfl) [q_i (v10 + y6_47), q_i ((32 * v11) + y4_5)] h (fun r M' e => c_X11_lotOfHundred e) rfl rfl ⟨by decide, by decide⟩ (Nat.le_of_ble_eq_true rfl) ⟨Nat.le_of_ble_eq_true rfl, Nat.le_of_ble_eq_true rfl⟩ (fun v12 M13 h => ?_)
      refine jr_iload hC (D_X11_seedsThatLoosen.g 41 rfl) 5 rfl ?_
      refine jr_join h (fun j => ∀ (y3_93 : Int), j y3_93 = some (r, M') → JW E X 7 0 0 M13 93 [(0, q_r E th), (1, q_r E a1), (2, q_i x2), (3, q_i y3_93), (4, q_i y4_5), (5, q_i v7), (6, q_i y6_47)] []) ?_ ?_
      · intro y3_93 h
        refine jr_iinc hC (D_X11_seedsThatLoosen.g 49 rfl) 6 rfl (by decide) rfl ?_
        refine jr_goto hC (D_X11_seedsThatLoosen.g 50 rfl) 47 rfl ?_
        refine jr_pick [1, 2, 3, 4, 5, 6, 0] rfl ?_
        exact hrec_47 y3_93 (y6_47 + 1) M13 h
      intro j_93 hj_93 h
      refine jr_icmp_ge hC (D_X11_seedsThatLoosen.g 42 rfl) 93 rfl h (fun h => ?_) (fun h => ?_)
      · refine jr_iload_n hC (D_X11_seedsThatLoosen.g 43 rfl) 3 rfl ?_
        refine jr_iconst hC (D_X11_seedsThatLoosen.g 44 rfl) ?_
        refine jr_iload hC (D_X11_seedsThatLoosen.g 45 rfl) 6 rfl ?_
        refine jr_ishl hC (D_X11_seedsThatLoosen.g 46 rfl) ?_
        refine jr_ior hC (D_X11_seedsThatLoosen.g 47 rfl) ?_
        refine jr_istore_n hC (D_X11_seedsThatLoosen.g 48 rfl) (by decide) rfl ?_
        refine jr_pick [1, 2, 3, 0, 4, 5, 6] rfl ?_
        exact hj_93 (jd_or y3_47 (jd_shl 1 y6_47)) h
      exact hj_93 y3_47 h
    refine jr_pick [0, 1, 2, 3, 4] rfl ?_
    exact hj_99 y3_47 M_47 h
  refine jr_iload_n hC (D_X11_seedsThatLoosen.g 53 rfl) 3 rfl ?_
  exact jr_iret hC (D_X11_seedsThatLoosen.g 54 rfl) hr hE h
def f_X11_year (th : Nat) (x1 : Int) (x2 : Int) (M : jMem) : Option (Int × jMem) :=
if jd_wr x1 < 0 then (some ((-1), M))
else (if jd_wr x1 ≤ jd_wr 60 then (if jd_wr x2 < jd_wr 1 then (some ((-1), M))
else (if jd_wr x2 ≤ jd_wr 20 then ((jm_gR 11 5 M th).bind fun r1 =>
(jm_gR 11 4 M th).bind fun r2 =>
jcall 6 M r1 (f_X6_copyOf r1 r2 M) fun _ M4 =>
jlp3 (fun rec_39 (y3_39 : Int) (y4_39 : Int) (M_39 : jMem) =>
if jd_wr y4_39 < jd_wr x1 then ((jm_gR 11 5 M_39 th).bind fun r5 =>
jcall 11 M_39 th (f_X11_seedsThatLoosen th r5 x2 M_39) fun v6 M7 =>
(jm_gR 11 5 M7 th).bind fun r8 =>
jcall 6 M7 r8 (f_X6_ageAll r8 0 M7) fun _ M10 =>
rec_39 (jd_or y3_39 v6) (y4_39 + 1) M10)
else (jbd (f_J6_bitCount_0f7a4 y3_39 M_39) fun v11 M12 =>
some ((x2 - v11), M12))) jfuel 0 0 M4)
else (some ((-1), M))))
else (some ((-1), M)))
theorem D_X11_year : jDs cX11_year [(0, .iload_n 1, 1, 1), (1, .ifCond .lt 20, 3, 4), (4, .iload_n 1, 1, 5), (5, .bipush 60, 2, 7), (7, .if_icmp .gt 14, 3, 10), (10, .iload_n 2, 1, 11), (11, .iconst 1, 1, 12), (12, .if_icmp .lt 9, 3, 15), (15, .iload_n 2, 1, 16), (16, .bipush 20, 2, 18), (18, .if_icmp .le 5, 3, 21), (21, .iconst (-1), 1, 22), (22, .ireturn, 1, 23), (23, .aload_n 0, 1, 24), (24, .getfield 42, 3, 27), (27, .aload_n 0, 1, 28), (28, .getfield 38, 3, 31), (31, .invokevirtual 292, 3, 34), (34, .iconst 0, 1, 35), (35, .istore_n 3, 1, 36), (36, .iconst 0, 1, 37), (37, .istore 4, 2, 39), (39, .iload 4, 2, 41), (41, .iload_n 1, 1, 42), (42, .if_icmp .ge 29, 3, 45), (45, .iload_n 3, 1, 46), (46, .aload_n 0, 1, 47), (47, .aload_n 0, 1, 48), (48, .getfield 42, 3, 51), (51, .iload_n 2, 1, 52), (52, .invokevirtual 298, 3, 55), (55, .ior, 1, 56), (56, .istore_n 3, 1, 57), (57, .aload_n 0, 1, 58), (58, .getfield 42, 3, 61), (61, .iconst 0, 1, 62), (62, .invokevirtual 302, 3, 65), (65, .iinc 4 1, 3, 68), (68, .goto (-29), 3, 71), (71, .iload_n 2, 1, 72), (72, .iload_n 3, 1, 73), (73, .invokestatic 305, 3, 76), (76, .isub, 1, 77), (77, .ireturn, 1, 78)] := by unfold jDs; decide +kernel
set_option maxRecDepth 100000 in
set_option maxHeartbeats 4000000 in
theorem c_X11_year {E : jE} {th : Nat} {x1 : Int} {x2 : Int} {M : jMem} {r : Int} {M' : jMem} (h : f_X11_year th x1 x2 M = some (r, M')) : jMet E yX11_year cX11_year 5 (some .int) 7 0 0 [q_r E th, q_i x1, q_i x2] M (some (q_i r)) M' := by
  unfold f_X11_year at h
  refine jMet.of RX11 rfl (by decide +kernel) (Nat.le_of_ble_eq_true rfl) [(0, q_r E th), (1, q_i x1), (2, q_i x2)] rfl (fun X hC hE hr hn => ?_)
  refine jr_iload_n hC (D_X11_year.g 0 rfl) 1 rfl ?_
  refine jr_if_lt hC (D_X11_year.g 1 rfl) 21 rfl h (fun h => ?_) (fun h => ?_)
  · refine jr_iconst hC (D_X11_year.g 11 rfl) ?_
    exact jr_iret hC (D_X11_year.g 12 rfl) hr hE h
  refine jr_iload_n hC (D_X11_year.g 2 rfl) 1 rfl ?_
  refine jr_bipush hC (D_X11_year.g 3 rfl) bp_60 ?_
  refine jr_icmp_gt hC (D_X11_year.g 4 rfl) 21 rfl h (fun h => ?_) (fun h => ?_)
  · refine jr_iload_n hC (D_X11_year.g 5 rfl) 2 rfl ?_
    refine jr_iconst hC (D_X11_year.g 6 rfl) ?_
    refine jr_icmp_lt hC (D_X11_year.g 7 rfl) 21 rfl h (fun h => ?_) (fun h => ?_)
    · refine jr_iconst hC (D_X11_year.g 11 rfl) ?_
      exact jr_iret hC (D_X11_year.g 12 rfl) hr hE h
    refine jr_iload_n hC (D_X11_year.g 8 rfl) 2 rfl ?_
    refine jr_bipush hC (D_X11_year.g 9 rfl) bp_20 ?_
    refine jr_icmp_le hC (D_X11_year.g 10 rfl) 23 rfl h (fun h => ?_) (fun h => ?_)
    · refine jr_aload_n hC (D_X11_year.g 13 rfl) 0 rfl ?_
      refine jr_getR hC fl_X11_42 rfl (D_X11_year.g 14 rfl) h (fun r1 h => ?_)
      refine jr_aload_n hC (D_X11_year.g 15 rfl) 0 rfl ?_
      refine jr_getR hC fl_X11_38 rfl (D_X11_year.g 16 rfl) h (fun r2 h => ?_)
      refine jr_cVv hC cl_X11_292 ⟨rfl, by decide⟩ (D_X11_year.g 17 rfl) [q_r E r2] h (fun r M' e => c_X6_copyOf e) rfl rfl ⟨by decide, by decide⟩ (Nat.le_of_ble_eq_true rfl) ⟨Nat.le_of_ble_eq_true rfl, Nat.le_of_ble_eq_true rfl⟩ (fun _ M4 h => ?_)
      refine jr_iconst hC (D_X11_year.g 18 rfl) ?_
      refine jr_istore_n hC (D_X11_year.g 19 rfl) (by decide) rfl ?_
      refine jr_iconst hC (D_X11_year.g 20 rfl) ?_
      refine jr_istore hC (D_X11_year.g 21 rfl) (by decide) rfl ?_
      refine jr_pick [2, 3, 4, 1, 0] rfl ?_
      refine jr_lp3 (fun (y3_39 : Int) (y4_39 : Int) (M_39 : jMem) => JW E X 5 0 0 M_39 39 [(0, q_r E th), (1, q_i x1), (2, q_i x2), (3, q_i y3_39), (4, q_i y4_39)] []) ?_ jfuel 0 0 M4 h
      intro rec_39 hrec_39 y3_39 y4_39 M_39 h
      refine jr_iload hC (D_X11_year.g 22 rfl) 4 rfl ?_
      refine jr_iload_n hC (D_X11_year.g 23 rfl) 1 rfl ?_
      refine jr_icmp_ge hC (D_X11_year.g 24 rfl) 71 rfl h (fun h => ?_) (fun h => ?_)
      · refine jr_iload_n hC (D_X11_year.g 25 rfl) 3 rfl ?_
        refine jr_aload_n hC (D_X11_year.g 26 rfl) 0 rfl ?_
        refine jr_aload_n hC (D_X11_year.g 27 rfl) 0 rfl ?_
        refine jr_getR hC fl_X11_42 rfl (D_X11_year.g 28 rfl) h (fun r5 h => ?_)
        refine jr_iload_n hC (D_X11_year.g 29 rfl) 2 rfl ?_
        refine jr_cVi hC cl_X11_298 ⟨rfl, by decide⟩ (D_X11_year.g 30 rfl) [q_r E r5, q_i x2] h (fun r M' e => c_X11_seedsThatLoosen e) rfl rfl ⟨by decide, by decide⟩ (Nat.le_of_ble_eq_true rfl) ⟨Nat.le_of_ble_eq_true rfl, Nat.le_of_ble_eq_true rfl⟩ (fun v6 M7 h => ?_)
        refine jr_ior hC (D_X11_year.g 31 rfl) ?_
        refine jr_istore_n hC (D_X11_year.g 32 rfl) (by decide) rfl ?_
        refine jr_aload_n hC (D_X11_year.g 33 rfl) 1 rfl ?_
        refine jr_getR hC fl_X11_42 rfl (D_X11_year.g 34 rfl) h (fun r8 h => ?_)
        refine jr_iconst hC (D_X11_year.g 35 rfl) ?_
        refine jr_cVv hC cl_X11_302 ⟨rfl, by decide⟩ (D_X11_year.g 36 rfl) [q_i 0] h (fun r M' e => c_X6_ageAll e) rfl rfl ⟨by decide, by decide⟩ (Nat.le_of_ble_eq_true rfl) ⟨Nat.le_of_ble_eq_true rfl, Nat.le_of_ble_eq_true rfl⟩ (fun _ M10 h => ?_)
        refine jr_iinc hC (D_X11_year.g 37 rfl) 4 rfl (by decide) rfl ?_
        refine jr_goto hC (D_X11_year.g 38 rfl) 39 rfl ?_
        refine jr_pick [2, 3, 4, 1, 0] rfl ?_
        exact hrec_39 (jd_or y3_39 v6) (y4_39 + 1) M10 h
      refine jr_iload_n hC (D_X11_year.g 39 rfl) 2 rfl ?_
      refine jr_iload_n hC (D_X11_year.g 40 rfl) 3 rfl ?_
      refine jr_cSi hC cl_X11_305 (D_X11_year.g 41 rfl) [q_i y3_39] h (fun r M' e => c_J6_bitCount_0f7a4 e) rfl rfl ⟨by decide, by decide⟩ (Nat.le_of_ble_eq_true rfl) ⟨Nat.le_of_ble_eq_true rfl, Nat.le_of_ble_eq_true rfl⟩ (fun v11 M12 h => ?_)
      refine jr_isub hC (D_X11_year.g 42 rfl) ?_
      exact jr_iret hC (D_X11_year.g 43 rfl) hr hE h
    refine jr_iconst hC (D_X11_year.g 11 rfl) ?_
    exact jr_iret hC (D_X11_year.g 12 rfl) hr hE h
  refine jr_iconst hC (D_X11_year.g 11 rfl) ?_
  exact jr_iret hC (D_X11_year.g 12 rfl) hr hE h
def f_X11_tell (th : Nat) (x1 : Int) (x2 : Int) (M : jMem) : Option (Int × jMem) :=
(jm_gR 11 2 M th).bind fun r1 =>
jcall 8 M r1 (f_X8_isOpen r1 x1 M) fun v2 M3 =>
if jd_wr v2 = 0 then (some ((-1), M3))
else ((jm_gR 11 7 M3 th).bind fun r4 =>
jcall 10 M3 r4 (f_X10_note r4 x1 x2 M3) fun v5 M6 =>
some (v5, M6))
theorem D_X11_tell : jDs cX11_tell [(0, .aload_n 0, 1, 1), (1, .getfield 19, 3, 4), (4, .iload_n 1, 1, 5), (5, .invokevirtual 225, 3, 8), (8, .ifCond .ne 5, 3, 11), (11, .iconst (-1), 1, 12), (12, .ireturn, 1, 13), (13, .aload_n 0, 1, 14), (14, .getfield 55, 3, 17), (17, .iload_n 1, 1, 18), (18, .iload_n 2, 1, 19), (19, .invokevirtual 310, 3, 22), (22, .ireturn, 1, 23)] := by unfold jDs; decide +kernel
set_option maxRecDepth 100000 in
set_option maxHeartbeats 4000000 in
theorem c_X11_tell {E : jE} {th : Nat} {x1 : Int} {x2 : Int} {M : jMem} {r : Int} {M' : jMem} (h : f_X11_tell th x1 x2 M = some (r, M')) : jMet E yX11_tell cX11_tell 3 (some .int) 4 0 0 [q_r E th, q_i x1, q_i x2] M (some (q_i r)) M' := by
  unfold f_X11_tell at h
  refine jMet.of RX11 rfl (by decide +kernel) (Nat.le_of_ble_eq_true rfl) [(0, q_r E th), (1, q_i x1), (2, q_i x2)] rfl (fun X hC hE hr hn => ?_)
  refine jr_aload_n hC (D_X11_tell.g 0 rfl) 0 rfl ?_
  refine jr_getR hC fl_X11_19 rfl (D_X11_tell.g 1 rfl) h (fun r1 h => ?_)
  refine jr_iload_n hC (D_X11_tell.g 2 rfl) 1 rfl ?_
  refine jr_cVi hC cl_X11_225 ⟨rfl, by decide⟩ (D_X11_tell.g 3 rfl) [q_i x1] h (fun r M' e => c_X8_isOpen e) rfl rfl ⟨by decide, by decide⟩ (Nat.le_of_ble_eq_true rfl) ⟨Nat.le_of_ble_eq_true rfl, Nat.le_of_ble_eq_true rfl⟩ (fun v2 M3 h => ?_)
  refine jr_if_ne hC (D_X11_tell.g 4 rfl) 13 rfl h (fun h => ?_) (fun h => ?_)
  · refine jr_iconst hC (D_X11_tell.g 5 rfl) ?_
    exact jr_iret hC (D_X11_tell.g 6 rfl) hr hE h
  refine jr_aload_n hC (D_X11_tell.g 7 rfl) 0 rfl ?_
  refine jr_getR hC fl_X11_55 rfl (D_X11_tell.g 8 rfl) h (fun r4 h => ?_)
  refine jr_iload_n hC (D_X11_tell.g 9 rfl) 1 rfl ?_
  refine jr_iload_n hC (D_X11_tell.g 10 rfl) 2 rfl ?_
  refine jr_cVi hC cl_X11_310 ⟨rfl, by decide⟩ (D_X11_tell.g 11 rfl) [q_i x1, q_i x2] h (fun r M' e => c_X10_note e) rfl rfl ⟨by decide, by decide⟩ (Nat.le_of_ble_eq_true rfl) ⟨Nat.le_of_ble_eq_true rfl, Nat.le_of_ble_eq_true rfl⟩ (fun v5 M6 h => ?_)
  exact jr_iret hC (D_X11_tell.g 12 rfl) hr hE h
def f_X11_forget (th : Nat) (M : jMem) : Option (Int × jMem) :=
(jm_gR 11 7 M th).bind fun r1 =>
(jm_gI 10 2 M r1).bind fun v2 =>
(jm_gR 11 7 M th).bind fun r3 =>
(jm_pI 10 2 M r3 0).bind fun M4 =>
some (v2, M4)
theorem D_X11_forget : jDs cX11_forget [(0, .aload_n 0, 1, 1), (1, .getfield 55, 3, 4), (4, .getfield 314, 3, 7), (7, .istore_n 1, 1, 8), (8, .aload_n 0, 1, 9), (9, .getfield 55, 3, 12), (12, .iconst 0, 1, 13), (13, .putfield 314, 3, 16), (16, .iload_n 1, 1, 17), (17, .ireturn, 1, 18)] := by unfold jDs; decide +kernel
set_option maxRecDepth 100000 in
set_option maxHeartbeats 4000000 in
theorem c_X11_forget {E : jE} {th : Nat} {M : jMem} {r : Int} {M' : jMem} (h : f_X11_forget th M = some (r, M')) : jMet E yX11_forget cX11_forget 2 (some .int) 2 0 0 [q_r E th] M (some (q_i r)) M' := by
  unfold f_X11_forget at h
  refine jMet.of RX11 rfl (by decide +kernel) (Nat.le_of_ble_eq_true rfl) [(0, q_r E th)] rfl (fun X hC hE hr hn => ?_)
  refine jr_aload_n hC (D_X11_forget.g 0 rfl) 0 rfl ?_
  refine jr_getR hC fl_X11_55 rfl (D_X11_forget.g 1 rfl) h (fun r1 h => ?_)
  refine jr_getI hC fl_X11_314 rfl (D_X11_forget.g 2 rfl) h (fun v2 h => ?_)
  refine jr_istore_n hC (D_X11_forget.g 3 rfl) (by decide) rfl ?_
  refine jr_aload_n hC (D_X11_forget.g 4 rfl) 1 rfl ?_
  refine jr_getR hC fl_X11_55 rfl (D_X11_forget.g 5 rfl) h (fun r3 h => ?_)
  refine jr_iconst hC (D_X11_forget.g 6 rfl) ?_
  refine jr_putI hC fl_X11_314 rfl (jnfin rfl) (D_X11_forget.g 7 rfl) h (fun M4 _ h => ?_)
  refine jr_iload_n hC (D_X11_forget.g 8 rfl) 0 rfl ?_
  exact jr_iret hC (D_X11_forget.g 9 rfl) hr hE h
def f_X11_countKnown (th : Nat) (x1 : Int) (M : jMem) : Option (Int × jMem) :=
(jm_gR 11 9 M th).bind fun r1 =>
(jm_gR 11 2 M th).bind fun r2 =>
jcall 4 M r1 (f_X4_begin r1 r2 M) fun _ M4 =>
jlp2 (fun rec_13 (y2_13 : Int) (M_13 : jMem) =>
jjq ((jm_gR 11 9 M_13 th).bind fun r5 =>
jcall 4 M_13 r5 (f_X4_countWays r5 M_13) fun _ M7 =>
some (0, M7)) fun j_60 =>
if jd_wr y2_13 < jd_wr x1 then ((jm_gR 11 7 M_13 th).bind fun r8 =>
(jm_gI 10 2 M_13 r8).bind fun v9 =>
if jd_wr y2_13 < jd_wr v9 then ((jm_gR 11 9 M_13 th).bind fun r10 =>
(jm_gR 11 7 M_13 th).bind fun r11 =>
(jm_gR 10 0 M_13 r11).bind fun r12 =>
(jm_ld 20 M_13 r12 y2_13).bind fun v13 =>
(jm_gR 11 7 M_13 th).bind fun r14 =>
(jm_gR 10 1 M_13 r14).bind fun r15 =>
(jm_ld 22 M_13 r15 y2_13).bind fun v16 =>
jcall 4 M_13 r10 (f_X4_bind r10 v13 v16 M_13) fun _ M18 =>
rec_13 (y2_13 + 1) M18)
else (j_60 ))
else (j_60 )) jfuel 0 M4
theorem D_X11_countKnown : jDs cX11_countKnown [(0, .aload_n 0, 1, 1), (1, .getfield 66, 3, 4), (4, .aload_n 0, 1, 5), (5, .getfield 19, 3, 8), (8, .invokevirtual 282, 3, 11), (11, .iconst 0, 1, 12), (12, .istore_n 2, 1, 13), (13, .iload_n 2, 1, 14), (14, .iload_n 1, 1, 15), (15, .if_icmp .ge 45, 3, 18), (18, .iload_n 2, 1, 19), (19, .aload_n 0, 1, 20), (20, .getfield 55, 3, 23), (23, .getfield 314, 3, 26), (26, .if_icmp .ge 34, 3, 29), (29, .aload_n 0, 1, 30), (30, .getfield 66, 3, 33), (33, .aload_n 0, 1, 34), (34, .getfield 55, 3, 37), (37, .getfield 385, 3, 40), (40, .iload_n 2, 1, 41), (41, .iaload, 1, 42), (42, .aload_n 0, 1, 43), (43, .getfield 55, 3, 46), (46, .getfield 387, 3, 49), (49, .iload_n 2, 1, 50), (50, .baload, 1, 51), (51, .invokevirtual 388, 3, 54), (54, .iinc 2 1, 3, 57), (57, .goto (-44), 3, 60), (60, .aload_n 0, 1, 61), (61, .getfield 66, 3, 64), (64, .invokevirtual 289, 3, 67), (67, .return_, 1, 68)] := by unfold jDs; decide +kernel
set_option maxRecDepth 100000 in
set_option maxHeartbeats 4000000 in
theorem c_X11_countKnown {E : jE} {th : Nat} {x1 : Int} {M : jMem} {r : Int} {M' : jMem} (h : f_X11_countKnown th x1 M = some (r, M')) : jMet E yX11_countKnown cX11_countKnown 3 (none) 6 0 0 [q_r E th, q_i x1] M (none) M' := by
  unfold f_X11_countKnown at h
  refine jMet.of RX11 rfl (by decide +kernel) (Nat.le_of_ble_eq_true rfl) [(0, q_r E th), (1, q_i x1)] rfl (fun X hC hE hr hn => ?_)
  refine jr_aload_n hC (D_X11_countKnown.g 0 rfl) 0 rfl ?_
  refine jr_getR hC fl_X11_66 rfl (D_X11_countKnown.g 1 rfl) h (fun r1 h => ?_)
  refine jr_aload_n hC (D_X11_countKnown.g 2 rfl) 0 rfl ?_
  refine jr_getR hC fl_X11_19 rfl (D_X11_countKnown.g 3 rfl) h (fun r2 h => ?_)
  refine jr_cVv hC cl_X11_282 ⟨rfl, by decide⟩ (D_X11_countKnown.g 4 rfl) [q_r E r2] h (fun r M' e => c_X4_begin e) rfl rfl ⟨by decide, by decide⟩ (Nat.le_of_ble_eq_true rfl) ⟨Nat.le_of_ble_eq_true rfl, Nat.le_of_ble_eq_true rfl⟩ (fun _ M4 h => ?_)
  refine jr_iconst hC (D_X11_countKnown.g 5 rfl) ?_
  refine jr_istore_n hC (D_X11_countKnown.g 6 rfl) (by decide) rfl ?_
  refine jr_pick [1, 2, 0] rfl ?_
  refine jr_lp2 (fun (y2_13 : Int) (M_13 : jMem) => JW E X 3 0 0 M_13 13 [(0, q_r E th), (1, q_i x1), (2, q_i y2_13)] []) ?_ jfuel 0 M4 h
  intro rec_13 hrec_13 y2_13 M_13 h
  refine jr_iload_n hC (D_X11_countKnown.g 7 rfl) 2 rfl ?_
  refine jr_iload_n hC (D_X11_countKnown.g 8 rfl) 1 rfl ?_
  refine jr_join h (fun j => j = some (r, M') → JW E X 3 0 0 M_13 60 [(0, q_r E th)] []) ?_ ?_
  · intro  h
    refine jr_aload_n hC (D_X11_countKnown.g 30 rfl) 0 rfl ?_
    refine jr_getR hC fl_X11_66 rfl (D_X11_countKnown.g 31 rfl) h (fun r5 h => ?_)
    refine jr_cVv hC cl_X11_289 ⟨rfl, by decide⟩ (D_X11_countKnown.g 32 rfl) [] h (fun r M' e => c_X4_countWays e) rfl rfl ⟨by decide, by decide⟩ (Nat.le_of_ble_eq_true rfl) ⟨Nat.le_of_ble_eq_true rfl, Nat.le_of_ble_eq_true rfl⟩ (fun _ M7 h => ?_)
    exact jr_vret hC (D_X11_countKnown.g 33 rfl) hr hE h
  intro j_60 hj_60 h
  refine jr_icmp_ge hC (D_X11_countKnown.g 9 rfl) 60 rfl h (fun h => ?_) (fun h => ?_)
  · refine jr_iload_n hC (D_X11_countKnown.g 10 rfl) 2 rfl ?_
    refine jr_aload_n hC (D_X11_countKnown.g 11 rfl) 0 rfl ?_
    refine jr_getR hC fl_X11_55 rfl (D_X11_countKnown.g 12 rfl) h (fun r8 h => ?_)
    refine jr_getI hC fl_X11_314 rfl (D_X11_countKnown.g 13 rfl) h (fun v9 h => ?_)
    refine jr_icmp_ge hC (D_X11_countKnown.g 14 rfl) 60 rfl h (fun h => ?_) (fun h => ?_)
    · refine jr_aload_n hC (D_X11_countKnown.g 15 rfl) 0 rfl ?_
      refine jr_getR hC fl_X11_66 rfl (D_X11_countKnown.g 16 rfl) h (fun r10 h => ?_)
      refine jr_aload_n hC (D_X11_countKnown.g 17 rfl) 0 rfl ?_
      refine jr_getR hC fl_X11_55 rfl (D_X11_countKnown.g 18 rfl) h (fun r11 h => ?_)
      refine jr_getR hC fl_X11_385 rfl (D_X11_countKnown.g 19 rfl) h (fun r12 h => ?_)
      refine jr_iload_n hC (D_X11_countKnown.g 20 rfl) 2 rfl ?_
      refine jr_iald hC (D_X11_countKnown.g 21 rfl) h (fun v13 h => ?_)
      refine jr_aload_n hC (D_X11_countKnown.g 22 rfl) 0 rfl ?_
      refine jr_getR hC fl_X11_55 rfl (D_X11_countKnown.g 23 rfl) h (fun r14 h => ?_)
      refine jr_getR hC fl_X11_387 rfl (D_X11_countKnown.g 24 rfl) h (fun r15 h => ?_)
      refine jr_iload_n hC (D_X11_countKnown.g 25 rfl) 2 rfl ?_
      refine jr_zald hC (D_X11_countKnown.g 26 rfl) h (fun v16 h => ?_)
      refine jr_cVv hC cl_X11_388 ⟨rfl, by decide⟩ (D_X11_countKnown.g 27 rfl) [q_i v13, q_i v16] h (fun r M' e => c_X4_bind e) rfl rfl ⟨by decide, by decide⟩ (Nat.le_of_ble_eq_true rfl) ⟨Nat.le_of_ble_eq_true rfl, Nat.le_of_ble_eq_true rfl⟩ (fun _ M18 h => ?_)
      refine jr_iinc hC (D_X11_countKnown.g 28 rfl) 2 rfl (by decide) rfl ?_
      refine jr_goto hC (D_X11_countKnown.g 29 rfl) 13 rfl ?_
      refine jr_pick [1, 2, 0] rfl ?_
      exact hrec_13 (y2_13 + 1) M18 h
    refine jr_pick [0] rfl ?_
    exact hj_60  h
  refine jr_pick [0] rfl ?_
  exact hj_60  h
def f_X11_fit (th : Nat) (x1 : Int) (x2 : Int) (M : jMem) : Option (Int × jMem) :=
if jd_wr x1 < 0 then (some ((-1), M))
else ((jm_gR 11 7 M th).bind fun r1 =>
(jm_gI 10 2 M r1).bind fun v2 =>
if jd_wr x1 ≤ jd_wr v2 then (if jd_wr x2 < 0 then (some ((-1), M))
else (if jd_wr x2 ≤ jd_wr 2 then (jcall 11 M th (f_X11_countKnown th x1 M) fun _ M4 =>
if jd_wr x2 = 0 then ((jm_gR 11 9 M4 th).bind fun r5 =>
jcall 4 M4 r5 (f_X4_total r5 M4) fun v6 M7 =>
some (v6, M7))
else ((jm_gR 11 9 M4 th).bind fun r8 =>
jcall 4 M4 r8 (f_X4_total r8 M4) fun v9 M10 =>
if jd_wr v9 = 0 then (some ((-2), M10))
else ((jm_gR 11 9 M10 th).bind fun r11 =>
jjq (fun (z0_78 : Int) (M_78 : jMem) =>
(jm_gR 11 13 M_78 th).bind fun r12 =>
jcall 4 M_78 r11 (f_X4_lineAt r11 z0_78 r12 M_78) fun _ M14 =>
(jm_gR 11 8 M14 th).bind fun r15 =>
(jm_gR 11 13 M14 th).bind fun r16 =>
jcall 4 M14 r15 (f_X4_numberOf r15 r16 M14) fun v17 M18 =>
some (v17, M18)) fun j_78 =>
if jd_wr x2 = jd_wr 1 then (j_78 0 M10)
else ((jm_gR 11 9 M10 th).bind fun r19 =>
jcall 4 M10 r19 (f_X4_total r19 M10) fun v20 M21 =>
j_78 (v20 - 1) M21))))
else (some ((-1), M))))
else (some ((-1), M)))
theorem D_X11_fit : jDs cX11_fit [(0, .iload_n 1, 1, 1), (1, .ifCond .lt 23, 3, 4), (4, .iload_n 1, 1, 5), (5, .aload_n 0, 1, 6), (6, .getfield 55, 3, 9), (9, .getfield 314, 3, 12), (12, .if_icmp .gt 12, 3, 15), (15, .iload_n 2, 1, 16), (16, .ifCond .lt 8, 3, 19), (19, .iload_n 2, 1, 20), (20, .iconst 2, 1, 21), (21, .if_icmp .le 5, 3, 24), (24, .iconst (-1), 1, 25), (25, .ireturn, 1, 26), (26, .aload_n 0, 1, 27), (27, .iload_n 1, 1, 28), (28, .invokevirtual 317, 3, 31), (31, .iload_n 2, 1, 32), (32, .ifCond .ne 11, 3, 35), (35, .aload_n 0, 1, 36), (36, .getfield 66, 3, 39), (39, .invokevirtual 194, 3, 42), (42, .ireturn, 1, 43), (43, .aload_n 0, 1, 44), (44, .getfield 66, 3, 47), (47, .invokevirtual 194, 3, 50), (50, .ifCond .ne 6, 3, 53), (53, .bipush (-2), 2, 55), (55, .ireturn, 1, 56), (56, .aload_n 0, 1, 57), (57, .getfield 66, 3, 60), (60, .iload_n 2, 1, 61), (61, .iconst 1, 1, 62), (62, .if_icmp .ne 7, 3, 65), (65, .iconst 0, 1, 66), (66, .goto 12, 3, 69), (69, .aload_n 0, 1, 70), (70, .getfield 66, 3, 73), (73, .invokevirtual 194, 3, 76), (76, .iconst 1, 1, 77), (77, .isub, 1, 78), (78, .aload_n 0, 1, 79), (79, .getfield 87, 3, 82), (82, .invokevirtual 200, 3, 85), (85, .aload_n 0, 1, 86), (86, .getfield 62, 3, 89), (89, .aload_n 0, 1, 90), (90, .getfield 87, 3, 93), (93, .invokevirtual 252, 3, 96), (96, .ireturn, 1, 97)] := by unfold jDs; decide +kernel
set_option maxRecDepth 100000 in
set_option maxHeartbeats 4000000 in
theorem c_X11_fit {E : jE} {th : Nat} {x1 : Int} {x2 : Int} {M : jMem} {r : Int} {M' : jMem} (h : f_X11_fit th x1 x2 M = some (r, M')) : jMet E yX11_fit cX11_fit 3 (some .int) 7 0 0 [q_r E th, q_i x1, q_i x2] M (some (q_i r)) M' := by
  unfold f_X11_fit at h
  refine jMet.of RX11 rfl (by decide +kernel) (Nat.le_of_ble_eq_true rfl) [(0, q_r E th), (1, q_i x1), (2, q_i x2)] rfl (fun X hC hE hr hn => ?_)
  refine jr_iload_n hC (D_X11_fit.g 0 rfl) 1 rfl ?_
  refine jr_if_lt hC (D_X11_fit.g 1 rfl) 24 rfl h (fun h => ?_) (fun h => ?_)
  · refine jr_iconst hC (D_X11_fit.g 12 rfl) ?_
    exact jr_iret hC (D_X11_fit.g 13 rfl) hr hE h
  refine jr_iload_n hC (D_X11_fit.g 2 rfl) 1 rfl ?_
  refine jr_aload_n hC (D_X11_fit.g 3 rfl) 0 rfl ?_
  refine jr_getR hC fl_X11_55 rfl (D_X11_fit.g 4 rfl) h (fun r1 h => ?_)
  refine jr_getI hC fl_X11_314 rfl (D_X11_fit.g 5 rfl) h (fun v2 h => ?_)
  refine jr_icmp_gt hC (D_X11_fit.g 6 rfl) 24 rfl h (fun h => ?_) (fun h => ?_)
  · refine jr_iload_n hC (D_X11_fit.g 7 rfl) 2 rfl ?_
    refine jr_if_lt hC (D_X11_fit.g 8 rfl) 24 rfl h (fun h => ?_) (fun h => ?_)
    · refine jr_iconst hC (D_X11_fit.g 12 rfl) ?_
      exact jr_iret hC (D_X11_fit.g 13 rfl) hr hE h
    refine jr_iload_n hC (D_X11_fit.g 9 rfl) 2 rfl ?_
    refine jr_iconst hC (D_X11_fit.g 10 rfl) ?_
    refine jr_icmp_le hC (D_X11_fit.g 11 rfl) 26 rfl h (fun h => ?_) (fun h => ?_)
    · refine jr_aload_n hC (D_X11_fit.g 14 rfl) 0 rfl ?_
      refine jr_iload_n hC (D_X11_fit.g 15 rfl) 1 rfl ?_
      refine jr_cVv hC cl_X11_317 ⟨rfl, by decide⟩ (D_X11_fit.g 16 rfl) [q_i x1] h (fun r M' e => c_X11_countKnown e) rfl rfl ⟨by decide, by decide⟩ (Nat.le_of_ble_eq_true rfl) ⟨Nat.le_of_ble_eq_true rfl, Nat.le_of_ble_eq_true rfl⟩ (fun _ M4 h => ?_)
      refine jr_iload_n hC (D_X11_fit.g 17 rfl) 2 rfl ?_
      refine jr_if_ne hC (D_X11_fit.g 18 rfl) 43 rfl h (fun h => ?_) (fun h => ?_)
      · refine jr_aload_n hC (D_X11_fit.g 19 rfl) 0 rfl ?_
        refine jr_getR hC fl_X11_66 rfl (D_X11_fit.g 20 rfl) h (fun r5 h => ?_)
        refine jr_cVi hC cl_X11_194 ⟨rfl, by decide⟩ (D_X11_fit.g 21 rfl) [] h (fun r M' e => c_X4_total e) rfl rfl ⟨by decide, by decide⟩ (Nat.le_of_ble_eq_true rfl) ⟨Nat.le_of_ble_eq_true rfl, Nat.le_of_ble_eq_true rfl⟩ (fun v6 M7 h => ?_)
        exact jr_iret hC (D_X11_fit.g 22 rfl) hr hE h
      refine jr_aload_n hC (D_X11_fit.g 23 rfl) 0 rfl ?_
      refine jr_getR hC fl_X11_66 rfl (D_X11_fit.g 24 rfl) h (fun r8 h => ?_)
      refine jr_cVi hC cl_X11_194 ⟨rfl, by decide⟩ (D_X11_fit.g 25 rfl) [] h (fun r M' e => c_X4_total e) rfl rfl ⟨by decide, by decide⟩ (Nat.le_of_ble_eq_true rfl) ⟨Nat.le_of_ble_eq_true rfl, Nat.le_of_ble_eq_true rfl⟩ (fun v9 M10 h => ?_)
      refine jr_if_ne hC (D_X11_fit.g 26 rfl) 56 rfl h (fun h => ?_) (fun h => ?_)
      · refine jr_bipush hC (D_X11_fit.g 27 rfl) bp_m2 ?_
        exact jr_iret hC (D_X11_fit.g 28 rfl) hr hE h
      refine jr_aload_n hC (D_X11_fit.g 29 rfl) 0 rfl ?_
      refine jr_getR hC fl_X11_66 rfl (D_X11_fit.g 30 rfl) h (fun r11 h => ?_)
      refine jr_iload_n hC (D_X11_fit.g 31 rfl) 2 rfl ?_
      refine jr_iconst hC (D_X11_fit.g 32 rfl) ?_
      refine jr_join h (fun j => ∀ (z0_78 : Int) (M_78 : jMem), j z0_78 M_78 = some (r, M') → JW E X 3 0 0 M_78 78 [(0, q_r E th)] [q_i z0_78, q_r E r11]) ?_ ?_
      · intro z0_78 M_78 h
        refine jr_aload_n hC (D_X11_fit.g 41 rfl) 0 rfl ?_
        refine jr_getR hC fl_X11_87 rfl (D_X11_fit.g 42 rfl) h (fun r12 h => ?_)
        refine jr_cVv hC cl_X11_200 ⟨rfl, by decide⟩ (D_X11_fit.g 43 rfl) [q_i z0_78, q_r E r12] h (fun r M' e => c_X4_lineAt e) rfl rfl ⟨by decide, by decide⟩ (Nat.le_of_ble_eq_true rfl) ⟨Nat.le_of_ble_eq_true rfl, Nat.le_of_ble_eq_true rfl⟩ (fun _ M14 h => ?_)
        refine jr_aload_n hC (D_X11_fit.g 44 rfl) 0 rfl ?_
        refine jr_getR hC fl_X11_62 rfl (D_X11_fit.g 45 rfl) h (fun r15 h => ?_)
        refine jr_aload_n hC (D_X11_fit.g 46 rfl) 0 rfl ?_
        refine jr_getR hC fl_X11_87 rfl (D_X11_fit.g 47 rfl) h (fun r16 h => ?_)
        refine jr_cVi hC cl_X11_252 ⟨rfl, by decide⟩ (D_X11_fit.g 48 rfl) [q_r E r16] h (fun r M' e => c_X4_numberOf e) rfl rfl ⟨by decide, by decide⟩ (Nat.le_of_ble_eq_true rfl) ⟨Nat.le_of_ble_eq_true rfl, Nat.le_of_ble_eq_true rfl⟩ (fun v17 M18 h => ?_)
        exact jr_iret hC (D_X11_fit.g 49 rfl) hr hE h
      intro j_78 hj_78 h
      refine jr_icmp_ne hC (D_X11_fit.g 33 rfl) 69 rfl h (fun h => ?_) (fun h => ?_)
      · refine jr_iconst hC (D_X11_fit.g 34 rfl) ?_
        refine jr_goto hC (D_X11_fit.g 35 rfl) 78 rfl ?_
        refine jr_pick [0] rfl ?_
        exact hj_78 0 M10 h
      refine jr_aload_n hC (D_X11_fit.g 36 rfl) 0 rfl ?_
      refine jr_getR hC fl_X11_66 rfl (D_X11_fit.g 37 rfl) h (fun r19 h => ?_)
      refine jr_cVi hC cl_X11_194 ⟨rfl, by decide⟩ (D_X11_fit.g 38 rfl) [] h (fun r M' e => c_X4_total e) rfl rfl ⟨by decide, by decide⟩ (Nat.le_of_ble_eq_true rfl) ⟨Nat.le_of_ble_eq_true rfl, Nat.le_of_ble_eq_true rfl⟩ (fun v20 M21 h => ?_)
      refine jr_iconst hC (D_X11_fit.g 39 rfl) ?_
      refine jr_isub hC (D_X11_fit.g 40 rfl) ?_
      refine jr_pick [0] rfl ?_
      exact hj_78 (v20 - 1) M21 h
    refine jr_iconst hC (D_X11_fit.g 12 rfl) ?_
    exact jr_iret hC (D_X11_fit.g 13 rfl) hr hE h
  refine jr_iconst hC (D_X11_fit.g 12 rfl) ?_
  exact jr_iret hC (D_X11_fit.g 13 rfl) hr hE h
def f_X11_look (th : Nat) (x1 : Int) (M : jMem) : Option (Int × jMem) :=
if jd_wr x1 < 0 then (some ((-1), M))
else ((jm_gR 11 7 M th).bind fun r1 =>
(jm_gI 10 2 M r1).bind fun v2 =>
if jd_wr x1 ≤ jd_wr v2 then (jcall 11 M th (f_X11_countKnown th x1 M) fun _ M4 =>
(jm_gR 11 9 M4 th).bind fun r5 =>
jcall 4 M4 r5 (f_X4_total r5 M4) fun v6 M7 =>
if jd_wr v6 = 0 then (some ((-2), M7))
else ((jm_gR 11 10 M7 th).bind fun r8 =>
(jm_gR 11 9 M7 th).bind fun r9 =>
jcall 5 M7 r8 (f_X5_share r8 r9 M7) fun _ M11 =>
jlp4 (fun rec_59 (y3_59 : Int) (y4_59 : Int) (y5_59 : Int) (M_59 : jMem) =>
(jm_gR 11 2 M_59 th).bind fun r12 =>
jcall 8 M_59 r12 (f_X8_cells r12 M_59) fun v13 M14 =>
if jd_wr y5_59 < jd_wr v13 then ((jm_gR 11 2 M14 th).bind fun r15 =>
jcall 8 M14 r15 (f_X8_isOpen r15 y5_59 M14) fun v16 M17 =>
jjq (fun (y3_119 : Int) (y4_119 : Int) (M_119 : jMem) =>
rec_59 y3_119 y4_119 (y5_59 + 1) M_119) fun j_119 =>
if jd_wr v16 = 0 then (j_119 y3_59 y4_59 M17)
else ((jm_gR 11 10 M17 th).bind fun r18 =>
jcall 5 M17 r18 (f_X5_lyingAcross r18 y5_59 M17) fun v19 M20 =>
jbd (f_J9_max_7cf53 v19 (v6 - v19) M20) fun v21 M22 =>
if jd_wr v21 < jd_wr y4_59 then (j_119 y5_59 v21 M22)
else (j_119 y3_59 y4_59 M22)))
else (some (y3_59, M14))) jfuel (-2) (v6 + 1) 0 M11))
else (some ((-1), M)))
theorem D_X11_look : jDs cX11_look [(0, .iload_n 1, 1, 1), (1, .ifCond .lt 14, 3, 4), (4, .iload_n 1, 1, 5), (5, .aload_n 0, 1, 6), (6, .getfield 55, 3, 9), (9, .getfield 314, 3, 12), (12, .if_icmp .le 5, 3, 15), (15, .iconst (-1), 1, 16), (16, .ireturn, 1, 17), (17, .aload_n 0, 1, 18), (18, .iload_n 1, 1, 19), (19, .invokevirtual 317, 3, 22), (22, .aload_n 0, 1, 23), (23, .getfield 66, 3, 26), (26, .invokevirtual 194, 3, 29), (29, .istore_n 2, 1, 30), (30, .iload_n 2, 1, 31), (31, .ifCond .ne 6, 3, 34), (34, .bipush (-2), 2, 36), (36, .ireturn, 1, 37), (37, .aload_n 0, 1, 38), (38, .getfield 72, 3, 41), (41, .aload_n 0, 1, 42), (42, .getfield 66, 3, 45), (45, .invokevirtual 228, 3, 48), (48, .bipush (-2), 2, 50), (50, .istore_n 3, 1, 51), (51, .iload_n 2, 1, 52), (52, .iconst 1, 1, 53), (53, .iadd, 1, 54), (54, .istore 4, 2, 56), (56, .iconst 0, 1, 57), (57, .istore 5, 2, 59), (59, .iload 5, 2, 61), (61, .aload_n 0, 1, 62), (62, .getfield 19, 3, 65), (65, .invokevirtual 204, 3, 68), (68, .if_icmp .ge 57, 3, 71), (71, .aload_n 0, 1, 72), (72, .getfield 19, 3, 75), (75, .iload 5, 2, 77), (77, .invokevirtual 225, 3, 80), (80, .ifCond .eq 39, 3, 83), (83, .aload_n 0, 1, 84), (84, .getfield 72, 3, 87), (87, .iload 5, 2, 89), (89, .invokevirtual 232, 3, 92), (92, .istore 6, 2, 94), (94, .iload 6, 2, 96), (96, .iload_n 2, 1, 97), (97, .iload 6, 2, 99), (99, .isub, 1, 100), (100, .invokestatic 320, 3, 103), (103, .istore 7, 2, 105), (105, .iload 7, 2, 107), (107, .iload 4, 2, 109), (109, .if_icmp .ge 10, 3, 112), (112, .iload 5, 2, 114), (114, .istore_n 3, 1, 115), (115, .iload 7, 2, 117), (117, .istore 4, 2, 119), (119, .iinc 5 1, 3, 122), (122, .goto (-63), 3, 125), (125, .iload_n 3, 1, 126), (126, .ireturn, 1, 127)] := by unfold jDs; decide +kernel
set_option maxRecDepth 100000 in
set_option maxHeartbeats 4000000 in
theorem c_X11_look {E : jE} {th : Nat} {x1 : Int} {M : jMem} {r : Int} {M' : jMem} (h : f_X11_look th x1 M = some (r, M')) : jMet E yX11_look cX11_look 8 (some .int) 7 0 0 [q_r E th, q_i x1] M (some (q_i r)) M' := by
  unfold f_X11_look at h
  refine jMet.of RX11 rfl (by decide +kernel) (Nat.le_of_ble_eq_true rfl) [(0, q_r E th), (1, q_i x1)] rfl (fun X hC hE hr hn => ?_)
  refine jr_iload_n hC (D_X11_look.g 0 rfl) 1 rfl ?_
  refine jr_if_lt hC (D_X11_look.g 1 rfl) 15 rfl h (fun h => ?_) (fun h => ?_)
  · refine jr_iconst hC (D_X11_look.g 7 rfl) ?_
    exact jr_iret hC (D_X11_look.g 8 rfl) hr hE h
  refine jr_iload_n hC (D_X11_look.g 2 rfl) 1 rfl ?_
  refine jr_aload_n hC (D_X11_look.g 3 rfl) 0 rfl ?_
  refine jr_getR hC fl_X11_55 rfl (D_X11_look.g 4 rfl) h (fun r1 h => ?_)
  refine jr_getI hC fl_X11_314 rfl (D_X11_look.g 5 rfl) h (fun v2 h => ?_)
  refine jr_icmp_le hC (D_X11_look.g 6 rfl) 17 rfl h (fun h => ?_) (fun h => ?_)
  · refine jr_aload_n hC (D_X11_look.g 9 rfl) 0 rfl ?_
    refine jr_iload_n hC (D_X11_look.g 10 rfl) 1 rfl ?_
    refine jr_cVv hC cl_X11_317 ⟨rfl, by decide⟩ (D_X11_look.g 11 rfl) [q_i x1] h (fun r M' e => c_X11_countKnown e) rfl rfl ⟨by decide, by decide⟩ (Nat.le_of_ble_eq_true rfl) ⟨Nat.le_of_ble_eq_true rfl, Nat.le_of_ble_eq_true rfl⟩ (fun _ M4 h => ?_)
    refine jr_aload_n hC (D_X11_look.g 12 rfl) 0 rfl ?_
    refine jr_getR hC fl_X11_66 rfl (D_X11_look.g 13 rfl) h (fun r5 h => ?_)
    refine jr_cVi hC cl_X11_194 ⟨rfl, by decide⟩ (D_X11_look.g 14 rfl) [] h (fun r M' e => c_X4_total e) rfl rfl ⟨by decide, by decide⟩ (Nat.le_of_ble_eq_true rfl) ⟨Nat.le_of_ble_eq_true rfl, Nat.le_of_ble_eq_true rfl⟩ (fun v6 M7 h => ?_)
    refine jr_istore_n hC (D_X11_look.g 15 rfl) (by decide) rfl ?_
    refine jr_iload_n hC (D_X11_look.g 16 rfl) 0 rfl ?_
    refine jr_if_ne hC (D_X11_look.g 17 rfl) 37 rfl h (fun h => ?_) (fun h => ?_)
    · refine jr_bipush hC (D_X11_look.g 18 rfl) bp_m2 ?_
      exact jr_iret hC (D_X11_look.g 19 rfl) hr hE h
    refine jr_aload_n hC (D_X11_look.g 20 rfl) 1 rfl ?_
    refine jr_getR hC fl_X11_72 rfl (D_X11_look.g 21 rfl) h (fun r8 h => ?_)
    refine jr_aload_n hC (D_X11_look.g 22 rfl) 1 rfl ?_
    refine jr_getR hC fl_X11_66 rfl (D_X11_look.g 23 rfl) h (fun r9 h => ?_)
    refine jr_cVv hC cl_X11_228 ⟨rfl, by decide⟩ (D_X11_look.g 24 rfl) [q_r E r9] h (fun r M' e => c_X5_share e) rfl rfl ⟨by decide, by decide⟩ (Nat.le_of_ble_eq_true rfl) ⟨Nat.le_of_ble_eq_true rfl, Nat.le_of_ble_eq_true rfl⟩ (fun _ M11 h => ?_)
    refine jr_bipush hC (D_X11_look.g 25 rfl) bp_m2 ?_
    refine jr_istore_n hC (D_X11_look.g 26 rfl) (by decide) rfl ?_
    refine jr_iload_n hC (D_X11_look.g 27 rfl) 1 rfl ?_
    refine jr_iconst hC (D_X11_look.g 28 rfl) ?_
    refine jr_iadd hC (D_X11_look.g 29 rfl) ?_
    refine jr_istore hC (D_X11_look.g 30 rfl) (by decide) rfl ?_
    refine jr_iconst hC (D_X11_look.g 31 rfl) ?_
    refine jr_istore hC (D_X11_look.g 32 rfl) (by decide) rfl ?_
    refine jr_pick [4, 3, 2, 1, 0] rfl ?_
    refine jr_lp4 (fun (y3_59 : Int) (y4_59 : Int) (y5_59 : Int) (M_59 : jMem) => JW E X 8 0 0 M_59 59 [(0, q_r E th), (2, q_i v6), (3, q_i y3_59), (4, q_i y4_59), (5, q_i y5_59)] []) ?_ jfuel (-2) (v6 + 1) 0 M11 h
    intro rec_59 hrec_59 y3_59 y4_59 y5_59 M_59 h
    refine jr_iload hC (D_X11_look.g 33 rfl) 4 rfl ?_
    refine jr_aload_n hC (D_X11_look.g 34 rfl) 0 rfl ?_
    refine jr_getR hC fl_X11_19 rfl (D_X11_look.g 35 rfl) h (fun r12 h => ?_)
    refine jr_cVi hC cl_X11_204 ⟨rfl, by decide⟩ (D_X11_look.g 36 rfl) [] h (fun r M' e => c_X8_cells e) rfl rfl ⟨by decide, by decide⟩ (Nat.le_of_ble_eq_true rfl) ⟨Nat.le_of_ble_eq_true rfl, Nat.le_of_ble_eq_true rfl⟩ (fun v13 M14 h => ?_)
    refine jr_icmp_ge hC (D_X11_look.g 37 rfl) 125 rfl h (fun h => ?_) (fun h => ?_)
    · refine jr_aload_n hC (D_X11_look.g 38 rfl) 0 rfl ?_
      refine jr_getR hC fl_X11_19 rfl (D_X11_look.g 39 rfl) h (fun r15 h => ?_)
      refine jr_iload hC (D_X11_look.g 40 rfl) 4 rfl ?_
      refine jr_cVi hC cl_X11_225 ⟨rfl, by decide⟩ (D_X11_look.g 41 rfl) [q_i y5_59] h (fun r M' e => c_X8_isOpen e) rfl rfl ⟨by decide, by decide⟩ (Nat.le_of_ble_eq_true rfl) ⟨Nat.le_of_ble_eq_true rfl, Nat.le_of_ble_eq_true rfl⟩ (fun v16 M17 h => ?_)
      refine jr_join h (fun j => ∀ (y3_119 : Int) (y4_119 : Int) (M_119 : jMem), j y3_119 y4_119 M_119 = some (r, M') → JW E X 8 0 0 M_119 119 [(0, q_r E th), (2, q_i v6), (3, q_i y3_119), (4, q_i y4_119), (5, q_i y5_59)] []) ?_ ?_
      · intro y3_119 y4_119 M_119 h
        refine jr_iinc hC (D_X11_look.g 61 rfl) 4 rfl (by decide) rfl ?_
        refine jr_goto hC (D_X11_look.g 62 rfl) 59 rfl ?_
        refine jr_pick [1, 2, 3, 4, 0] rfl ?_
        exact hrec_59 y3_119 y4_119 (y5_59 + 1) M_119 h
      intro j_119 hj_119 h
      refine jr_if_eq hC (D_X11_look.g 42 rfl) 119 rfl h (fun h => ?_) (fun h => ?_)
      · exact hj_119 y3_59 y4_59 M17 h
      refine jr_aload_n hC (D_X11_look.g 43 rfl) 0 rfl ?_
      refine jr_getR hC fl_X11_72 rfl (D_X11_look.g 44 rfl) h (fun r18 h => ?_)
      refine jr_iload hC (D_X11_look.g 45 rfl) 4 rfl ?_
      refine jr_cVi hC cl_X11_232 ⟨rfl, by decide⟩ (D_X11_look.g 46 rfl) [q_i y5_59] h (fun r M' e => c_X5_lyingAcross e) rfl rfl ⟨by decide, by decide⟩ (Nat.le_of_ble_eq_true rfl) ⟨Nat.le_of_ble_eq_true rfl, Nat.le_of_ble_eq_true rfl⟩ (fun v19 M20 h => ?_)
      refine jr_istore hC (D_X11_look.g 47 rfl) (by decide) rfl ?_
      refine jr_iload hC (D_X11_look.g 48 rfl) 0 rfl ?_
      refine jr_iload_n hC (D_X11_look.g 49 rfl) 2 rfl ?_
      refine jr_iload hC (D_X11_look.g 50 rfl) 0 rfl ?_
      refine jr_isub hC (D_X11_look.g 51 rfl) ?_
      refine jr_cSi hC cl_X11_320 (D_X11_look.g 52 rfl) [q_i v19, q_i (v6 - v19)] h (fun r M' e => c_J9_max_7cf53 e) rfl rfl ⟨by decide, by decide⟩ (Nat.le_of_ble_eq_true rfl) ⟨Nat.le_of_ble_eq_true rfl, Nat.le_of_ble_eq_true rfl⟩ (fun v21 M22 h => ?_)
      refine jr_istore hC (D_X11_look.g 53 rfl) (by decide) rfl ?_
      refine jr_iload hC (D_X11_look.g 54 rfl) 0 rfl ?_
      refine jr_iload hC (D_X11_look.g 55 rfl) 5 rfl ?_
      refine jr_icmp_ge hC (D_X11_look.g 56 rfl) 119 rfl h (fun h => ?_) (fun h => ?_)
      · refine jr_iload hC (D_X11_look.g 57 rfl) 6 rfl ?_
        refine jr_istore_n hC (D_X11_look.g 58 rfl) (by decide) rfl ?_
        refine jr_iload hC (D_X11_look.g 59 rfl) 1 rfl ?_
        refine jr_istore hC (D_X11_look.g 60 rfl) (by decide) rfl ?_
        refine jr_pick [4, 5, 1, 0, 6] rfl ?_
        exact hj_119 y5_59 v21 M22 h
      refine jr_pick [2, 3, 4, 5, 6] rfl ?_
      exact hj_119 y3_59 y4_59 M22 h
    refine jr_iload_n hC (D_X11_look.g 63 rfl) 2 rfl ?_
    exact jr_iret hC (D_X11_look.g 64 rfl) hr hE h
  refine jr_iconst hC (D_X11_look.g 7 rfl) ?_
  exact jr_iret hC (D_X11_look.g 8 rfl) hr hE h
def f_X11_hold (th : Nat) (x1 : Int) (M : jMem) : Option (Int × jMem) :=
(jm_gR 11 6 M th).bind fun r1 =>
(jm_gR 11 4 M th).bind fun r2 =>
jcall 1 M r1 (f_X1_putIntoSlot r1 x1 r2 M) fun v3 M4 =>
jm_z v3 M4
theorem D_X11_hold : jDs cX11_hold [(0, .aload_n 0, 1, 1), (1, .getfield 48, 3, 4), (4, .iload_n 1, 1, 5), (5, .aload_n 0, 1, 6), (6, .getfield 38, 3, 9), (9, .invokevirtual 325, 3, 12), (12, .ireturn, 1, 13)] := by unfold jDs; decide +kernel
set_option maxRecDepth 100000 in
set_option maxHeartbeats 4000000 in
theorem c_X11_hold {E : jE} {th : Nat} {x1 : Int} {M : jMem} {r : Int} {M' : jMem} (h : f_X11_hold th x1 M = some (r, M')) : jMet E yX11_hold cX11_hold 2 (some .boolean) 4 0 0 [q_r E th, q_i x1] M (some (q_i r)) M' := by
  unfold f_X11_hold at h
  refine jMet.of RX11 rfl (by decide +kernel) (Nat.le_of_ble_eq_true rfl) [(0, q_r E th), (1, q_i x1)] rfl (fun X hC hE hr hn => ?_)
  refine jr_aload_n hC (D_X11_hold.g 0 rfl) 0 rfl ?_
  refine jr_getR hC fl_X11_48 rfl (D_X11_hold.g 1 rfl) h (fun r1 h => ?_)
  refine jr_iload_n hC (D_X11_hold.g 2 rfl) 1 rfl ?_
  refine jr_aload_n hC (D_X11_hold.g 3 rfl) 0 rfl ?_
  refine jr_getR hC fl_X11_38 rfl (D_X11_hold.g 4 rfl) h (fun r2 h => ?_)
  refine jr_cVi hC cl_X11_325 ⟨rfl, by decide⟩ (D_X11_hold.g 5 rfl) [q_i x1, q_r E r2] h (fun r M' e => c_X1_putIntoSlot e) rfl rfl ⟨by decide, by decide⟩ (Nat.le_of_ble_eq_true rfl) ⟨Nat.le_of_ble_eq_true rfl, Nat.le_of_ble_eq_true rfl⟩ (fun v3 M4 h => ?_)
  exact jr_zret hC (D_X11_hold.g 6 rfl) hr hE h
def f_X11_restore (th : Nat) (x1 : Int) (M : jMem) : Option (Int × jMem) :=
(jm_gR 11 6 M th).bind fun r1 =>
(jm_gR 11 4 M th).bind fun r2 =>
jcall 1 M r1 (f_X1_takeFromSlot r1 x1 r2 M) fun v3 M4 =>
jm_z v3 M4
theorem D_X11_restore : jDs cX11_restore [(0, .aload_n 0, 1, 1), (1, .getfield 48, 3, 4), (4, .iload_n 1, 1, 5), (5, .aload_n 0, 1, 6), (6, .getfield 38, 3, 9), (9, .invokevirtual 329, 3, 12), (12, .ireturn, 1, 13)] := by unfold jDs; decide +kernel
set_option maxRecDepth 100000 in
set_option maxHeartbeats 4000000 in
theorem c_X11_restore {E : jE} {th : Nat} {x1 : Int} {M : jMem} {r : Int} {M' : jMem} (h : f_X11_restore th x1 M = some (r, M')) : jMet E yX11_restore cX11_restore 2 (some .boolean) 4 0 0 [q_r E th, q_i x1] M (some (q_i r)) M' := by
  unfold f_X11_restore at h
  refine jMet.of RX11 rfl (by decide +kernel) (Nat.le_of_ble_eq_true rfl) [(0, q_r E th), (1, q_i x1)] rfl (fun X hC hE hr hn => ?_)
  refine jr_aload_n hC (D_X11_restore.g 0 rfl) 0 rfl ?_
  refine jr_getR hC fl_X11_48 rfl (D_X11_restore.g 1 rfl) h (fun r1 h => ?_)
  refine jr_iload_n hC (D_X11_restore.g 2 rfl) 1 rfl ?_
  refine jr_aload_n hC (D_X11_restore.g 3 rfl) 0 rfl ?_
  refine jr_getR hC fl_X11_38 rfl (D_X11_restore.g 4 rfl) h (fun r2 h => ?_)
  refine jr_cVi hC cl_X11_329 ⟨rfl, by decide⟩ (D_X11_restore.g 5 rfl) [q_i x1, q_r E r2] h (fun r M' e => c_X1_takeFromSlot e) rfl rfl ⟨by decide, by decide⟩ (Nat.le_of_ble_eq_true rfl) ⟨Nat.le_of_ble_eq_true rfl, Nat.le_of_ble_eq_true rfl⟩ (fun v3 M4 h => ?_)
  exact jr_zret hC (D_X11_restore.g 6 rfl) hr hE h
def f_X11_asksOfAll (th : Nat) (M : jMem) : Option (Int × jMem) :=
jlp3 (fun rec_4 (y1_4 : Int) (y2_4 : Int) (M_4 : jMem) =>
if jd_wr y2_4 < jd_wr 18 then ((jm_gR 11 4 M_4 th).bind fun r1 =>
jcall 6 M_4 r1 (f_X6_lies r1 y2_4 M_4) fun v2 M3 =>
jjq (fun (y1_47 : Int) (M_47 : jMem) =>
rec_4 y1_47 (y2_4 + 1) M_47) fun j_47 =>
if jd_wr v2 = 0 then (j_47 y1_4 M3)
else ((jm_gR 11 2 M3 th).bind fun r4 =>
(jm_gR 8 12 M3 r4).bind fun r5 =>
(jm_gR 11 4 M3 th).bind fun r6 =>
(jm_gR 11 2 M3 th).bind fun r7 =>
(jm_gI 8 3 M3 r7).bind fun v8 =>
jcall 2 M3 r5 (f_X2_held r5 0 r6 y2_4 v8 M3) fun v9 M10 =>
j_47 (y1_4 + v9) M10))
else (some (y1_4, M_4))) jfuel 0 0 M
theorem D_X11_asksOfAll : jDs cX11_asksOfAll [(0, .iconst 0, 1, 1), (1, .istore_n 1, 1, 2), (2, .iconst 0, 1, 3), (3, .istore_n 2, 1, 4), (4, .iload_n 2, 1, 5), (5, .bipush 18, 2, 7), (7, .if_icmp .ge 46, 3, 10), (10, .aload_n 0, 1, 11), (11, .getfield 38, 3, 14), (14, .iload_n 2, 1, 15), (15, .invokevirtual 126, 3, 18), (18, .ifCond .eq 29, 3, 21), (21, .iload_n 1, 1, 22), (22, .aload_n 0, 1, 23), (23, .getfield 19, 3, 26), (26, .getfield 141, 3, 29), (29, .iconst 0, 1, 30), (30, .aload_n 0, 1, 31), (31, .getfield 38, 3, 34), (34, .iload_n 2, 1, 35), (35, .aload_n 0, 1, 36), (36, .getfield 19, 3, 39), (39, .getfield 147, 3, 42), (42, .invokevirtual 150, 3, 45), (45, .iadd, 1, 46), (46, .istore_n 1, 1, 47), (47, .iinc 2 1, 3, 50), (50, .goto (-46), 3, 53), (53, .iload_n 1, 1, 54), (54, .ireturn, 1, 55)] := by unfold jDs; decide +kernel
set_option maxRecDepth 100000 in
set_option maxHeartbeats 4000000 in
theorem c_X11_asksOfAll {E : jE} {th : Nat} {M : jMem} {r : Int} {M' : jMem} (h : f_X11_asksOfAll th M = some (r, M')) : jMet E yX11_asksOfAll cX11_asksOfAll 3 (some .int) 6 0 0 [q_r E th] M (some (q_i r)) M' := by
  unfold f_X11_asksOfAll at h
  refine jMet.of RX11 rfl (by decide +kernel) (Nat.le_of_ble_eq_true rfl) [(0, q_r E th)] rfl (fun X hC hE hr hn => ?_)
  refine jr_iconst hC (D_X11_asksOfAll.g 0 rfl) ?_
  refine jr_istore_n hC (D_X11_asksOfAll.g 1 rfl) (by decide) rfl ?_
  refine jr_iconst hC (D_X11_asksOfAll.g 2 rfl) ?_
  refine jr_istore_n hC (D_X11_asksOfAll.g 3 rfl) (by decide) rfl ?_
  refine jr_pick [2, 1, 0] rfl ?_
  refine jr_lp3 (fun (y1_4 : Int) (y2_4 : Int) (M_4 : jMem) => JW E X 3 0 0 M_4 4 [(0, q_r E th), (1, q_i y1_4), (2, q_i y2_4)] []) ?_ jfuel 0 0 M h
  intro rec_4 hrec_4 y1_4 y2_4 M_4 h
  refine jr_iload_n hC (D_X11_asksOfAll.g 4 rfl) 2 rfl ?_
  refine jr_bipush hC (D_X11_asksOfAll.g 5 rfl) bp_18 ?_
  refine jr_icmp_ge hC (D_X11_asksOfAll.g 6 rfl) 53 rfl h (fun h => ?_) (fun h => ?_)
  · refine jr_aload_n hC (D_X11_asksOfAll.g 7 rfl) 0 rfl ?_
    refine jr_getR hC fl_X11_38 rfl (D_X11_asksOfAll.g 8 rfl) h (fun r1 h => ?_)
    refine jr_iload_n hC (D_X11_asksOfAll.g 9 rfl) 2 rfl ?_
    refine jr_cVi hC cl_X11_126 ⟨rfl, by decide⟩ (D_X11_asksOfAll.g 10 rfl) [q_i y2_4] h (fun r M' e => c_X6_lies e) rfl rfl ⟨by decide, by decide⟩ (Nat.le_of_ble_eq_true rfl) ⟨Nat.le_of_ble_eq_true rfl, Nat.le_of_ble_eq_true rfl⟩ (fun v2 M3 h => ?_)
    refine jr_join h (fun j => ∀ (y1_47 : Int) (M_47 : jMem), j y1_47 M_47 = some (r, M') → JW E X 3 0 0 M_47 47 [(0, q_r E th), (1, q_i y1_47), (2, q_i y2_4)] []) ?_ ?_
    · intro y1_47 M_47 h
      refine jr_iinc hC (D_X11_asksOfAll.g 26 rfl) 2 rfl (by decide) rfl ?_
      refine jr_goto hC (D_X11_asksOfAll.g 27 rfl) 4 rfl ?_
      refine jr_pick [1, 2, 0] rfl ?_
      exact hrec_4 y1_47 (y2_4 + 1) M_47 h
    intro j_47 hj_47 h
    refine jr_if_eq hC (D_X11_asksOfAll.g 11 rfl) 47 rfl h (fun h => ?_) (fun h => ?_)
    · exact hj_47 y1_4 M3 h
    refine jr_iload_n hC (D_X11_asksOfAll.g 12 rfl) 1 rfl ?_
    refine jr_aload_n hC (D_X11_asksOfAll.g 13 rfl) 0 rfl ?_
    refine jr_getR hC fl_X11_19 rfl (D_X11_asksOfAll.g 14 rfl) h (fun r4 h => ?_)
    refine jr_getR hC fl_X11_141 rfl (D_X11_asksOfAll.g 15 rfl) h (fun r5 h => ?_)
    refine jr_iconst hC (D_X11_asksOfAll.g 16 rfl) ?_
    refine jr_aload_n hC (D_X11_asksOfAll.g 17 rfl) 0 rfl ?_
    refine jr_getR hC fl_X11_38 rfl (D_X11_asksOfAll.g 18 rfl) h (fun r6 h => ?_)
    refine jr_iload_n hC (D_X11_asksOfAll.g 19 rfl) 2 rfl ?_
    refine jr_aload_n hC (D_X11_asksOfAll.g 20 rfl) 0 rfl ?_
    refine jr_getR hC fl_X11_19 rfl (D_X11_asksOfAll.g 21 rfl) h (fun r7 h => ?_)
    refine jr_getI hC fl_X11_147 rfl (D_X11_asksOfAll.g 22 rfl) h (fun v8 h => ?_)
    refine jr_cVi hC cl_X11_150 ⟨rfl, by decide⟩ (D_X11_asksOfAll.g 23 rfl) [q_i 0, q_r E r6, q_i y2_4, q_i v8] h (fun r M' e => c_X2_held e) rfl rfl ⟨by decide, by decide⟩ (Nat.le_of_ble_eq_true rfl) ⟨Nat.le_of_ble_eq_true rfl, Nat.le_of_ble_eq_true rfl⟩ (fun v9 M10 h => ?_)
    refine jr_iadd hC (D_X11_asksOfAll.g 24 rfl) ?_
    refine jr_istore_n hC (D_X11_asksOfAll.g 25 rfl) (by decide) rfl ?_
    refine jr_pick [1, 0, 2] rfl ?_
    exact hj_47 (y1_4 + v9) M10 h
  refine jr_iload_n hC (D_X11_asksOfAll.g 28 rfl) 1 rfl ?_
  exact jr_iret hC (D_X11_asksOfAll.g 29 rfl) hr hE h
def f_X11_count (th : Nat) (x1 : Int) (M : jMem) : Option (Int × jMem) :=
if jd_wr x1 = 0 then ((jm_gR 11 2 M th).bind fun r1 =>
(jm_gI 8 0 M r1).bind fun v2 =>
some (v2, M))
else if jd_wr x1 = 1 then ((jm_gR 11 2 M th).bind fun r3 =>
(jm_gI 8 1 M r3).bind fun v4 =>
some (v4, M))
else if jd_wr x1 = 2 then ((jm_gR 11 2 M th).bind fun r5 =>
(jm_gI 8 3 M r5).bind fun v6 =>
some (v6, M))
else if jd_wr x1 = 3 then ((jm_gR 11 4 M th).bind fun r7 =>
(jm_gI 6 6 M r7).bind fun v8 =>
some (v8, M))
else if jd_wr x1 = 4 then ((jm_gR 11 4 M th).bind fun r9 =>
jcall 6 M r9 (f_X6_flatStones r9 M) fun v10 M11 =>
some (v10, M11))
else if jd_wr x1 = 5 then ((jm_gR 11 4 M th).bind fun r12 =>
(jm_gI 6 7 M r12).bind fun v13 =>
some (v13, M))
else if jd_wr x1 = 6 then ((jm_gR 11 4 M th).bind fun r14 =>
(jm_gI 6 8 M r14).bind fun v15 =>
some (v15, M))
else if jd_wr x1 = 7 then (jcall 11 M th (f_X11_isPaved th M) fun v16 M17 =>
if jd_wr v16 = 0 then (some (0, M17))
else (some (1, M17)))
else if jd_wr x1 = 8 then ((jm_gR 11 0 M th).bind fun r18 =>
(jm_gI 7 1 M r18).bind fun v19 =>
some (v19, M))
else if jd_wr x1 = 9 then ((jm_gR 11 6 M th).bind fun r20 =>
(jm_gI 1 4 M r20).bind fun v21 =>
some (v21, M))
else if jd_wr x1 = 10 then ((jm_gR 11 7 M th).bind fun r22 =>
(jm_gI 10 2 M r22).bind fun v23 =>
some (v23, M))
else if jd_wr x1 = 11 then ((jm_gR 11 6 M th).bind fun r24 =>
jcall 1 M r24 (f_X1_slotsInUse r24 M) fun v25 M26 =>
some (v25, M26))
else if jd_wr x1 = 12 then ((jm_gR 11 4 M th).bind fun r27 =>
(jm_gI 6 9 M r27).bind fun v28 =>
some (v28, M))
else if jd_wr x1 = 13 then ((jm_gR 11 4 M th).bind fun r29 =>
jcall 6 M r29 (f_X6_coupleBits r29 M) fun v30 M31 =>
some (v30, M31))
else if jd_wr x1 = 14 then (jcall 11 M th (f_X11_freeCells th M) fun v32 M33 =>
some (v32, M33))
else if jd_wr x1 = 15 then (jcall 11 M th (f_X11_asksOfAll th M) fun v34 M35 =>
some (v34, M35))
else if jd_wr x1 = 16 then ((jm_gR 11 4 M th).bind fun r36 =>
jcall 6 M r36 (f_X6_turnedInAll r36 M) fun v37 M38 =>
some (v37, M38))
else (some ((-1), M))
theorem D_X11_count : jDs cX11_count [(0, .iload_n 1, 1, 1), (1, .tableswitch 218 0 16 #[83, 91, 99, 107, 115, 123, 131, 139, 152, 160, 168, 176, 184, 192, 200, 205, 210], 83, 84), (84, .aload_n 0, 1, 85), (85, .getfield 19, 3, 88), (88, .getfield 167, 3, 91), (91, .ireturn, 1, 92), (92, .aload_n 0, 1, 93), (93, .getfield 19, 3, 96), (96, .getfield 259, 3, 99), (99, .ireturn, 1, 100), (100, .aload_n 0, 1, 101), (101, .getfield 19, 3, 104), (104, .getfield 147, 3, 107), (107, .ireturn, 1, 108), (108, .aload_n 0, 1, 109), (109, .getfield 38, 3, 112), (112, .getfield 295, 3, 115), (115, .ireturn, 1, 116), (116, .aload_n 0, 1, 117), (117, .getfield 38, 3, 120), (120, .invokevirtual 332, 3, 123), (123, .ireturn, 1, 124), (124, .aload_n 0, 1, 125), (125, .getfield 38, 3, 128), (128, .getfield 215, 3, 131), (131, .ireturn, 1, 132), (132, .aload_n 0, 1, 133), (133, .getfield 38, 3, 136), (136, .getfield 178, 3, 139), (139, .ireturn, 1, 140), (140, .aload_n 0, 1, 141), (141, .invokevirtual 245, 3, 144), (144, .ifCond .eq 7, 3, 147), (147, .iconst 1, 1, 148), (148, .goto 4, 3, 151), (151, .iconst 0, 1, 152), (152, .ireturn, 1, 153), (153, .aload_n 0, 1, 154), (154, .getfield 12, 3, 157), (157, .getfield 93, 3, 160), (160, .ireturn, 1, 161), (161, .aload_n 0, 1, 162), (162, .getfield 48, 3, 165), (165, .getfield 335, 3, 168), (168, .ireturn, 1, 169), (169, .aload_n 0, 1, 170), (170, .getfield 55, 3, 173), (173, .getfield 314, 3, 176), (176, .ireturn, 1, 177), (177, .aload_n 0, 1, 178), (178, .getfield 48, 3, 181), (181, .invokevirtual 338, 3, 184), (184, .ireturn, 1, 185), (185, .aload_n 0, 1, 186), (186, .getfield 38, 3, 189), (189, .getfield 341, 3, 192), (192, .ireturn, 1, 193), (193, .aload_n 0, 1, 194), (194, .getfield 38, 3, 197), (197, .invokevirtual 344, 3, 200), (200, .ireturn, 1, 201), (201, .aload_n 0, 1, 202), (202, .invokevirtual 347, 3, 205), (205, .ireturn, 1, 206), (206, .aload_n 0, 1, 207), (207, .invokevirtual 350, 3, 210), (210, .ireturn, 1, 211), (211, .aload_n 0, 1, 212), (212, .getfield 38, 3, 215), (215, .invokevirtual 353, 3, 218), (218, .ireturn, 1, 219), (219, .iconst (-1), 1, 220), (220, .ireturn, 1, 221)] := by unfold jDs; decide +kernel
set_option maxRecDepth 100000 in
set_option maxHeartbeats 4000000 in
theorem c_X11_count {E : jE} {th : Nat} {x1 : Int} {M : jMem} {r : Int} {M' : jMem} (h : f_X11_count th x1 M = some (r, M')) : jMet E yX11_count cX11_count 2 (some .int) 7 0 0 [q_r E th, q_i x1] M (some (q_i r)) M' := by
  unfold f_X11_count at h
  refine jMet.of RX11 rfl (by decide +kernel) (Nat.le_of_ble_eq_true rfl) [(0, q_r E th), (1, q_i x1)] rfl (fun X hC hE hr hn => ?_)
  refine jr_iload_n hC (D_X11_count.g 0 rfl) 1 rfl ?_
  by_cases c_0 : jd_wr x1 = 0
  · have h := jif_t h c_0
    refine jr_tswIn hC (D_X11_count.g 1 rfl) 0 c_0 (by decide) rfl 84 rfl ?_
    refine jr_aload_n hC (D_X11_count.g 2 rfl) 0 rfl ?_
    refine jr_getR hC fl_X11_19 rfl (D_X11_count.g 3 rfl) h (fun r1 h => ?_)
    refine jr_getI hC fl_X11_167 rfl (D_X11_count.g 4 rfl) h (fun v2 h => ?_)
    exact jr_iret hC (D_X11_count.g 5 rfl) hr hE h
  replace h := jif_f h c_0
  by_cases c_1 : jd_wr x1 = 1
  · have h := jif_t h c_1
    refine jr_tswIn hC (D_X11_count.g 1 rfl) 1 c_1 (by decide) rfl 92 rfl ?_
    refine jr_aload_n hC (D_X11_count.g 6 rfl) 0 rfl ?_
    refine jr_getR hC fl_X11_19 rfl (D_X11_count.g 7 rfl) h (fun r3 h => ?_)
    refine jr_getI hC fl_X11_259 rfl (D_X11_count.g 8 rfl) h (fun v4 h => ?_)
    exact jr_iret hC (D_X11_count.g 9 rfl) hr hE h
  replace h := jif_f h c_1
  by_cases c_2 : jd_wr x1 = 2
  · have h := jif_t h c_2
    refine jr_tswIn hC (D_X11_count.g 1 rfl) 2 c_2 (by decide) rfl 100 rfl ?_
    refine jr_aload_n hC (D_X11_count.g 10 rfl) 0 rfl ?_
    refine jr_getR hC fl_X11_19 rfl (D_X11_count.g 11 rfl) h (fun r5 h => ?_)
    refine jr_getI hC fl_X11_147 rfl (D_X11_count.g 12 rfl) h (fun v6 h => ?_)
    exact jr_iret hC (D_X11_count.g 13 rfl) hr hE h
  replace h := jif_f h c_2
  by_cases c_3 : jd_wr x1 = 3
  · have h := jif_t h c_3
    refine jr_tswIn hC (D_X11_count.g 1 rfl) 3 c_3 (by decide) rfl 108 rfl ?_
    refine jr_aload_n hC (D_X11_count.g 14 rfl) 0 rfl ?_
    refine jr_getR hC fl_X11_38 rfl (D_X11_count.g 15 rfl) h (fun r7 h => ?_)
    refine jr_getI hC fl_X11_295 rfl (D_X11_count.g 16 rfl) h (fun v8 h => ?_)
    exact jr_iret hC (D_X11_count.g 17 rfl) hr hE h
  replace h := jif_f h c_3
  by_cases c_4 : jd_wr x1 = 4
  · have h := jif_t h c_4
    refine jr_tswIn hC (D_X11_count.g 1 rfl) 4 c_4 (by decide) rfl 116 rfl ?_
    refine jr_aload_n hC (D_X11_count.g 18 rfl) 0 rfl ?_
    refine jr_getR hC fl_X11_38 rfl (D_X11_count.g 19 rfl) h (fun r9 h => ?_)
    refine jr_cVi hC cl_X11_332 ⟨rfl, by decide⟩ (D_X11_count.g 20 rfl) [] h (fun r M' e => c_X6_flatStones e) rfl rfl ⟨by decide, by decide⟩ (Nat.le_of_ble_eq_true rfl) ⟨Nat.le_of_ble_eq_true rfl, Nat.le_of_ble_eq_true rfl⟩ (fun v10 M11 h => ?_)
    exact jr_iret hC (D_X11_count.g 21 rfl) hr hE h
  replace h := jif_f h c_4
  by_cases c_5 : jd_wr x1 = 5
  · have h := jif_t h c_5
    refine jr_tswIn hC (D_X11_count.g 1 rfl) 5 c_5 (by decide) rfl 124 rfl ?_
    refine jr_aload_n hC (D_X11_count.g 22 rfl) 0 rfl ?_
    refine jr_getR hC fl_X11_38 rfl (D_X11_count.g 23 rfl) h (fun r12 h => ?_)
    refine jr_getI hC fl_X11_215 rfl (D_X11_count.g 24 rfl) h (fun v13 h => ?_)
    exact jr_iret hC (D_X11_count.g 25 rfl) hr hE h
  replace h := jif_f h c_5
  by_cases c_6 : jd_wr x1 = 6
  · have h := jif_t h c_6
    refine jr_tswIn hC (D_X11_count.g 1 rfl) 6 c_6 (by decide) rfl 132 rfl ?_
    refine jr_aload_n hC (D_X11_count.g 26 rfl) 0 rfl ?_
    refine jr_getR hC fl_X11_38 rfl (D_X11_count.g 27 rfl) h (fun r14 h => ?_)
    refine jr_getI hC fl_X11_178 rfl (D_X11_count.g 28 rfl) h (fun v15 h => ?_)
    exact jr_iret hC (D_X11_count.g 29 rfl) hr hE h
  replace h := jif_f h c_6
  by_cases c_7 : jd_wr x1 = 7
  · have h := jif_t h c_7
    refine jr_tswIn hC (D_X11_count.g 1 rfl) 7 c_7 (by decide) rfl 140 rfl ?_
    refine jr_aload_n hC (D_X11_count.g 30 rfl) 0 rfl ?_
    refine jr_cVi hC cl_X11_245 ⟨rfl, by decide⟩ (D_X11_count.g 31 rfl) [] h (fun r M' e => c_X11_isPaved e) rfl rfl ⟨by decide, by decide⟩ (Nat.le_of_ble_eq_true rfl) ⟨Nat.le_of_ble_eq_true rfl, Nat.le_of_ble_eq_true rfl⟩ (fun v16 M17 h => ?_)
    refine jr_if_eq hC (D_X11_count.g 32 rfl) 151 rfl h (fun h => ?_) (fun h => ?_)
    · refine jr_iconst hC (D_X11_count.g 35 rfl) ?_
      exact jr_iret hC (D_X11_count.g 36 rfl) hr hE h
    refine jr_iconst hC (D_X11_count.g 33 rfl) ?_
    refine jr_goto hC (D_X11_count.g 34 rfl) 152 rfl ?_
    exact jr_iret hC (D_X11_count.g 36 rfl) hr hE h
  replace h := jif_f h c_7
  by_cases c_8 : jd_wr x1 = 8
  · have h := jif_t h c_8
    refine jr_tswIn hC (D_X11_count.g 1 rfl) 8 c_8 (by decide) rfl 153 rfl ?_
    refine jr_aload_n hC (D_X11_count.g 37 rfl) 0 rfl ?_
    refine jr_getR hC fl_X11_12 rfl (D_X11_count.g 38 rfl) h (fun r18 h => ?_)
    refine jr_getI hC fl_X11_93 rfl (D_X11_count.g 39 rfl) h (fun v19 h => ?_)
    exact jr_iret hC (D_X11_count.g 40 rfl) hr hE h
  replace h := jif_f h c_8
  by_cases c_9 : jd_wr x1 = 9
  · have h := jif_t h c_9
    refine jr_tswIn hC (D_X11_count.g 1 rfl) 9 c_9 (by decide) rfl 161 rfl ?_
    refine jr_aload_n hC (D_X11_count.g 41 rfl) 0 rfl ?_
    refine jr_getR hC fl_X11_48 rfl (D_X11_count.g 42 rfl) h (fun r20 h => ?_)
    refine jr_getI hC fl_X11_335 rfl (D_X11_count.g 43 rfl) h (fun v21 h => ?_)
    exact jr_iret hC (D_X11_count.g 44 rfl) hr hE h
  replace h := jif_f h c_9
  by_cases c_10 : jd_wr x1 = 10
  · have h := jif_t h c_10
    refine jr_tswIn hC (D_X11_count.g 1 rfl) 10 c_10 (by decide) rfl 169 rfl ?_
    refine jr_aload_n hC (D_X11_count.g 45 rfl) 0 rfl ?_
    refine jr_getR hC fl_X11_55 rfl (D_X11_count.g 46 rfl) h (fun r22 h => ?_)
    refine jr_getI hC fl_X11_314 rfl (D_X11_count.g 47 rfl) h (fun v23 h => ?_)
    exact jr_iret hC (D_X11_count.g 48 rfl) hr hE h
  replace h := jif_f h c_10
  by_cases c_11 : jd_wr x1 = 11
  · have h := jif_t h c_11
    refine jr_tswIn hC (D_X11_count.g 1 rfl) 11 c_11 (by decide) rfl 177 rfl ?_
    refine jr_aload_n hC (D_X11_count.g 49 rfl) 0 rfl ?_
    refine jr_getR hC fl_X11_48 rfl (D_X11_count.g 50 rfl) h (fun r24 h => ?_)
    refine jr_cVi hC cl_X11_338 ⟨rfl, by decide⟩ (D_X11_count.g 51 rfl) [] h (fun r M' e => c_X1_slotsInUse e) rfl rfl ⟨by decide, by decide⟩ (Nat.le_of_ble_eq_true rfl) ⟨Nat.le_of_ble_eq_true rfl, Nat.le_of_ble_eq_true rfl⟩ (fun v25 M26 h => ?_)
    exact jr_iret hC (D_X11_count.g 52 rfl) hr hE h
  replace h := jif_f h c_11
  by_cases c_12 : jd_wr x1 = 12
  · have h := jif_t h c_12
    refine jr_tswIn hC (D_X11_count.g 1 rfl) 12 c_12 (by decide) rfl 185 rfl ?_
    refine jr_aload_n hC (D_X11_count.g 53 rfl) 0 rfl ?_
    refine jr_getR hC fl_X11_38 rfl (D_X11_count.g 54 rfl) h (fun r27 h => ?_)
    refine jr_getI hC fl_X11_341 rfl (D_X11_count.g 55 rfl) h (fun v28 h => ?_)
    exact jr_iret hC (D_X11_count.g 56 rfl) hr hE h
  replace h := jif_f h c_12
  by_cases c_13 : jd_wr x1 = 13
  · have h := jif_t h c_13
    refine jr_tswIn hC (D_X11_count.g 1 rfl) 13 c_13 (by decide) rfl 193 rfl ?_
    refine jr_aload_n hC (D_X11_count.g 57 rfl) 0 rfl ?_
    refine jr_getR hC fl_X11_38 rfl (D_X11_count.g 58 rfl) h (fun r29 h => ?_)
    refine jr_cVi hC cl_X11_344 ⟨rfl, by decide⟩ (D_X11_count.g 59 rfl) [] h (fun r M' e => c_X6_coupleBits e) rfl rfl ⟨by decide, by decide⟩ (Nat.le_of_ble_eq_true rfl) ⟨Nat.le_of_ble_eq_true rfl, Nat.le_of_ble_eq_true rfl⟩ (fun v30 M31 h => ?_)
    exact jr_iret hC (D_X11_count.g 60 rfl) hr hE h
  replace h := jif_f h c_13
  by_cases c_14 : jd_wr x1 = 14
  · have h := jif_t h c_14
    refine jr_tswIn hC (D_X11_count.g 1 rfl) 14 c_14 (by decide) rfl 201 rfl ?_
    refine jr_aload_n hC (D_X11_count.g 61 rfl) 0 rfl ?_
    refine jr_cVi hC cl_X11_347 ⟨rfl, by decide⟩ (D_X11_count.g 62 rfl) [] h (fun r M' e => c_X11_freeCells e) rfl rfl ⟨by decide, by decide⟩ (Nat.le_of_ble_eq_true rfl) ⟨Nat.le_of_ble_eq_true rfl, Nat.le_of_ble_eq_true rfl⟩ (fun v32 M33 h => ?_)
    exact jr_iret hC (D_X11_count.g 63 rfl) hr hE h
  replace h := jif_f h c_14
  by_cases c_15 : jd_wr x1 = 15
  · have h := jif_t h c_15
    refine jr_tswIn hC (D_X11_count.g 1 rfl) 15 c_15 (by decide) rfl 206 rfl ?_
    refine jr_aload_n hC (D_X11_count.g 64 rfl) 0 rfl ?_
    refine jr_cVi hC cl_X11_350 ⟨rfl, by decide⟩ (D_X11_count.g 65 rfl) [] h (fun r M' e => c_X11_asksOfAll e) rfl rfl ⟨by decide, by decide⟩ (Nat.le_of_ble_eq_true rfl) ⟨Nat.le_of_ble_eq_true rfl, Nat.le_of_ble_eq_true rfl⟩ (fun v34 M35 h => ?_)
    exact jr_iret hC (D_X11_count.g 66 rfl) hr hE h
  replace h := jif_f h c_15
  by_cases c_16 : jd_wr x1 = 16
  · have h := jif_t h c_16
    refine jr_tswIn hC (D_X11_count.g 1 rfl) 16 c_16 (by decide) rfl 211 rfl ?_
    refine jr_aload_n hC (D_X11_count.g 67 rfl) 0 rfl ?_
    refine jr_getR hC fl_X11_38 rfl (D_X11_count.g 68 rfl) h (fun r36 h => ?_)
    refine jr_cVi hC cl_X11_353 ⟨rfl, by decide⟩ (D_X11_count.g 69 rfl) [] h (fun r M' e => c_X6_turnedInAll e) rfl rfl ⟨by decide, by decide⟩ (Nat.le_of_ble_eq_true rfl) ⟨Nat.le_of_ble_eq_true rfl, Nat.le_of_ble_eq_true rfl⟩ (fun v37 M38 h => ?_)
    exact jr_iret hC (D_X11_count.g 70 rfl) hr hE h
  replace h := jif_f h c_16
  refine jr_tswOut hC (D_X11_count.g 1 rfl) (by omega) 219 rfl ?_
  refine jr_iconst hC (D_X11_count.g 71 rfl) ?_
  exact jr_iret hC (D_X11_count.g 72 rfl) hr hE h
