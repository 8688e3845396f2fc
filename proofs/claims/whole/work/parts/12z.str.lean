theorem D_J0_charAt_5068e : jDs cJ0_charAt_5068e [(0, .aload_n 0, 1, 1), (1, .invokevirtual 492, 3, 4), (4, .ifCond .eq 12, 3, 7), (7, .aload_n 0, 1, 8), (8, .getfield 9, 3, 11), (11, .iload_n 1, 1, 12), (12, .invokestatic 495, 3, 15), (15, .ireturn, 1, 16), (16, .aload_n 0, 1, 17), (17, .getfield 9, 3, 20), (20, .iload_n 1, 1, 21), (21, .invokestatic 498, 3, 24), (24, .ireturn, 1, 25)] := by unfold jDs; decide +kernel
theorem D_J0_isLatin1_aae02 : jDs cJ0_isLatin1_aae02 [(0, .getstatic 38, 3, 3), (3, .ifCond .eq 14, 3, 6), (6, .aload_n 0, 1, 7), (7, .getfield 15, 3, 10), (10, .ifCond .ne 7, 3, 13), (13, .iconst 1, 1, 14), (14, .goto 4, 3, 17), (17, .iconst 0, 1, 18), (18, .ireturn, 1, 19)] := by unfold jDs; decide +kernel
theorem D_J1_charAt_3b067 : jDs cJ1_charAt_3b067 [(0, .iload_n 1, 1, 1), (1, .aload_n 0, 1, 2), (2, .arraylength, 1, 3), (3, .invokestatic 9, 3, 6), (6, .aload_n 0, 1, 7), (7, .iload_n 1, 1, 8), (8, .baload, 1, 9), (9, .sipush 255, 3, 12), (12, .iand, 1, 13), (13, .i2c, 1, 14), (14, .ireturn, 1, 15)] := by unfold jDs; decide +kernel
theorem D_J0_indexOf_0f7a4 : jDs cJ0_indexOf_0f7a4 [(0, .aload_n 0, 1, 1), (1, .iload_n 1, 1, 2), (2, .iconst 0, 1, 3), (3, .invokevirtual 633, 3, 6), (6, .ireturn, 1, 7)] := by unfold jDs; decide +kernel
theorem D_J0_indexOf_7cf53 : jDs cJ0_indexOf_7cf53 [(0, .aload_n 0, 1, 1), (1, .invokevirtual 492, 3, 4), (4, .ifCond .eq 19, 3, 7), (7, .aload_n 0, 1, 8), (8, .getfield 9, 3, 11), (11, .iload_n 1, 1, 12), (12, .iload_n 2, 1, 13), (13, .aload_n 0, 1, 14), (14, .invokevirtual 505, 3, 17), (17, .invokestatic 637, 3, 20), (20, .goto 16, 3, 23), (23, .aload_n 0, 1, 24), (24, .getfield 9, 3, 27), (27, .iload_n 1, 1, 28), (28, .iload_n 2, 1, 29), (29, .aload_n 0, 1, 30), (30, .invokevirtual 505, 3, 33), (33, .invokestatic 640, 3, 36), (36, .ireturn, 1, 37)] := by unfold jDs; decide +kernel
theorem D_J1_indexOf_4cfef : jDs cJ1_indexOf_4cfef [(0, .iload_n 1, 1, 1), (1, .invokestatic 88, 3, 4), (4, .ifCond .ne 5, 3, 7), (7, .iconst (-1), 1, 8), (8, .ireturn, 1, 9), (9, .iload_n 2, 1, 10), (10, .iconst 0, 1, 11), (11, .invokestatic 92, 3, 14), (14, .istore_n 2, 1, 15), (15, .iload_n 3, 1, 16), (16, .aload_n 0, 1, 17), (17, .arraylength, 1, 18), (18, .invokestatic 38, 3, 21), (21, .istore_n 3, 1, 22), (22, .iload_n 2, 1, 23), (23, .iload_n 3, 1, 24), (24, .if_icmp .lt 5, 3, 27), (27, .iconst (-1), 1, 28), (28, .ireturn, 1, 29), (29, .aload_n 0, 1, 30), (30, .iload_n 1, 1, 31), (31, .iload_n 2, 1, 32), (32, .iload_n 3, 1, 33), (33, .invokestatic 95, 3, 36), (36, .ireturn, 1, 37)] := by unfold jDs; decide +kernel
theorem D_J1_indexOfChar_4cfef : jDs cJ1_indexOfChar_4cfef [(0, .iload_n 1, 1, 1), (1, .i2b, 1, 2), (2, .istore 4, 2, 4), (4, .iload_n 2, 1, 5), (5, .istore 5, 2, 7), (7, .iload 5, 2, 9), (9, .iload_n 3, 1, 10), (10, .if_icmp .ge 21, 3, 13), (13, .aload_n 0, 1, 14), (14, .iload 5, 2, 16), (16, .baload, 1, 17), (17, .iload 4, 2, 19), (19, .if_icmp .ne 6, 3, 22), (22, .iload 5, 2, 24), (24, .ireturn, 1, 25), (25, .iinc 5 1, 3, 28), (28, .goto (-21), 3, 31), (31, .iconst (-1), 1, 32), (32, .ireturn, 1, 33)] := by unfold jDs; decide +kernel
theorem D_J1_canEncode_9a6ad : jDs cJ1_canEncode_9a6ad [(0, .iload_n 0, 1, 1), (1, .ifCond .lt 14, 3, 4), (4, .iload_n 0, 1, 5), (5, .sipush 255, 3, 8), (8, .if_icmp .gt 7, 3, 11), (11, .iconst 1, 1, 12), (12, .goto 4, 3, 15), (15, .iconst 0, 1, 16), (16, .ireturn, 1, 17)] := by unfold jDs; decide +kernel
theorem D_J0_checkIndex_df160 : jDs cJ0_checkIndex_df160 [(0, .iload_n 0, 1, 1), (1, .iload_n 1, 1, 2), (2, .getstatic 1053, 3, 5), (5, .invokestatic 1059, 3, 8), (8, .pop, 1, 9), (9, .return_, 1, 10)] := by unfold jDs; decide +kernel
theorem D_J3_checkIndex_8e157 : jDs cJ3_checkIndex_8e157 [(0, .iload_n 0, 1, 1), (1, .ifCond .lt 8, 3, 4), (4, .iload_n 0, 1, 5), (5, .iload_n 1, 1, 6), (6, .if_icmp .lt 10, 3, 9), (9, .aload_n 2, 1, 10), (10, .iload_n 0, 1, 11), (11, .iload_n 1, 1, 12), (12, .invokestatic 95, 3, 15), (15, .athrow, 1, 16), (16, .iload_n 0, 1, 17), (17, .ireturn, 1, 18)] := by unfold jDs; decide +kernel
theorem D_J0_length_8abf5 : jDs cJ0_length_8abf5 [(0, .aload_n 0, 1, 1), (1, .getfield 9, 3, 4), (4, .arraylength, 1, 5), (5, .aload_n 0, 1, 6), (6, .invokevirtual 335, 3, 9), (9, .ishr, 1, 10), (10, .ireturn, 1, 11)] := by unfold jDs; decide +kernel
theorem D_J0_coder_7d493 : jDs cJ0_coder_7d493 [(0, .getstatic 38, 3, 3), (3, .ifCond .eq 10, 3, 6), (6, .aload_n 0, 1, 7), (7, .getfield 15, 3, 10), (10, .goto 4, 3, 13), (13, .iconst 1, 1, 14), (14, .ireturn, 1, 15)] := by unfold jDs; decide +kernel
theorem cl_J0_492 : jcV RJ0 492 yJ0_isLatin1_aae02 cJ0_isLatin1_aae02 1 (some .boolean) 0 := ⟨jt_all [695, 696, 697, 138] (by decide +kernel) (by decide +kernel), jt_in (i := 698) (by decide +kernel) rfl, by decide +kernel, by decide +kernel, by decide +kernel⟩
theorem cl_J0_495 : jcS RJ0 495 yJ1_charAt_3b067 cJ1_charAt_3b067 2 (some .char) 2 := ⟨jt_all [701, 702, 139] (by decide +kernel) (by decide +kernel), jt_in (i := 703) (by decide +kernel) rfl, by decide +kernel, by decide +kernel, by decide +kernel⟩
theorem cl_J0_633 : jcV RJ0 633 yJ0_indexOf_7cf53 cJ0_indexOf_7cf53 3 (some .int) 2 := ⟨jt_all [743, 744, 745, 138] (by decide +kernel) (by decide +kernel), jt_in (i := 746) (by decide +kernel) rfl, by decide +kernel, by decide +kernel, by decide +kernel⟩
theorem cl_J0_505 : jcV RJ0 505 yJ0_length_8abf5 cJ0_length_8abf5 1 (some .int) 0 := ⟨jt_all [747, 748, 749, 138] (by decide +kernel) (by decide +kernel), jt_in (i := 750) (by decide +kernel) rfl, by decide +kernel, by decide +kernel, by decide +kernel⟩
theorem cl_J0_637 : jcS RJ0 637 yJ1_indexOf_4cfef cJ1_indexOf_4cfef 4 (some .int) 4 := ⟨jt_all [755, 756, 139] (by decide +kernel) (by decide +kernel), jt_in (i := 757) (by decide +kernel) rfl, by decide +kernel, by decide +kernel, by decide +kernel⟩
theorem cl_J0_335 : jcV RJ0 335 yJ0_coder_7d493 cJ0_coder_7d493 1 (some .byte) 0 := ⟨jt_all [751, 752, 753, 138] (by decide +kernel) (by decide +kernel), jt_in (i := 754) (by decide +kernel) rfl, by decide +kernel, by decide +kernel, by decide +kernel⟩
theorem cl_J0_1059 : jcS RJ0 1059 yJ3_checkIndex_8e157 cJ3_checkIndex_8e157 3 (some .int) 3 := ⟨jt_all [709, 710, 140] (by decide +kernel) (by decide +kernel), jt_in (i := 711) (by decide +kernel) rfl, by decide +kernel, by decide +kernel, by decide +kernel⟩
theorem cl_J1_9 : jcS RJ1 9 yJ0_checkIndex_df160 cJ0_checkIndex_df160 2 (none) 2 := ⟨jt_all [704, 705, 138] (by decide +kernel) (by decide +kernel), jt_in (i := 706) (by decide +kernel) rfl, by decide +kernel, by decide +kernel, by decide +kernel⟩
theorem cl_J1_88 : jcS RJ1 88 yJ1_canEncode_9a6ad cJ1_canEncode_9a6ad 1 (some .boolean) 1 := ⟨jt_all [758, 759, 139] (by decide +kernel) (by decide +kernel), jt_in (i := 760) (by decide +kernel) rfl, by decide +kernel, by decide +kernel, by decide +kernel⟩
theorem cl_J1_92 : jcS RJ1 92 yJ9_max_7cf53 cJ9_max_7cf53 2 (some .int) 2 := ⟨jt_all [761, 762, 142] (by decide +kernel) (by decide +kernel), jt_in (i := 763) (by decide +kernel) rfl, by decide +kernel, by decide +kernel, by decide +kernel⟩
theorem cl_J1_38 : jcS RJ1 38 yJ9_min_7cf53 cJ9_min_7cf53 2 (some .int) 2 := ⟨jt_all [764, 765, 142] (by decide +kernel) (by decide +kernel), jt_in (i := 766) (by decide +kernel) rfl, by decide +kernel, by decide +kernel, by decide +kernel⟩
theorem cl_J1_95 : jcS RJ1 95 yJ1_indexOfChar_4cfef cJ1_indexOfChar_4cfef 6 (some .int) 4 := ⟨jt_all [767, 768, 139] (by decide +kernel) (by decide +kernel), jt_in (i := 769) (by decide +kernel) rfl, by decide +kernel, by decide +kernel, by decide +kernel⟩
theorem cl_X9_63 : jcV RX9 63 yJ0_indexOf_0f7a4 cJ0_indexOf_0f7a4 2 (some .int) 1 := ⟨jt_all [739, 740, 741, 138] (by decide +kernel) (by decide +kernel), jt_in (i := 742) (by decide +kernel) rfl, by decide +kernel, by decide +kernel, by decide +kernel⟩
theorem cl_X9_74 : jcV RX9 74 yJ0_charAt_5068e cJ0_charAt_5068e 2 (some .char) 1 := ⟨jt_all [691, 692, 693, 138] (by decide +kernel) (by decide +kernel), jt_in (i := 694) (by decide +kernel) rfl, by decide +kernel, by decide +kernel, by decide +kernel⟩
theorem jb_ok : ∀ i, i < 2 → ∀ k, k < jlen.getD i 0 → jd_c (jd_and ((jbyt.getD i []).getD k 0).toInt 255) = ((jbyt.getD i []).getD k 0).toInt ∧ narrow .char (q_i ((jbyt.getD i []).getD k 0).toInt) = q_i ((jbyt.getD i []).getD k 0).toInt := by decide +kernel
theorem jl_ok : ∀ i, i < 2 → jlen.getD i 0 = (jbyt.getD i []).length ∧ jd_shr ((jlen.getD i 0 : Nat) : Int) 0 = ((jlen.getD i 0 : Nat) : Int) ∧ (jlen.getD i 0) < 1000 := by decide +kernel
section JSTR
variable {E : jE} {M : jMem}
set_option maxRecDepth 100000 in
theorem c_J0_isLatin1 {i : Nat} (hi : i < 2) : jMet E yJ0_isLatin1_aae02 cJ0_isLatin1_aae02 1 (some .boolean) 2 0 0 [q_s E i] M (some (q_i 1)) M := by
  refine jMet.ofF RJ0 rfl (by decide +kernel) (Nat.le_of_ble_eq_true rfl) [(0, q_s E i)] rfl (fun X hC hE hr hn => ?_)
  refine jr_compact hC (jt_in (i := 699) (by decide +kernel) rfl) (D_J0_isLatin1_aae02.g 0 rfl) ?_
  refine jr_if_eq hC (D_J0_isLatin1_aae02.g 1 rfl) 17 rfl (x := none) (y := some ()) (res := ()) (by decide +kernel) (fun h => by cases h) (fun _ => ?_)
  refine jr_aload_n hC (D_J0_isLatin1_aae02.g 2 rfl) 0 rfl ?_
  refine jr_scoder hC hi (jt_in (i := 2015) (by decide +kernel) rfl) (D_J0_isLatin1_aae02.g 3 rfl) ?_
  refine jr_if_ne hC (D_J0_isLatin1_aae02.g 4 rfl) 17 rfl (x := some ()) (y := none) (res := ()) (by decide +kernel) (fun _ => ?_) (fun h => by cases h)
  refine jr_iconst hC (D_J0_isLatin1_aae02.g 5 rfl) ?_
  refine jr_goto hC (D_J0_isLatin1_aae02.g 6 rfl) 18 rfl ?_
  exact jr_nret hC (D_J0_isLatin1_aae02.g 8 rfl) hr rfl hE
set_option maxRecDepth 100000 in
theorem c_J0_coder {i : Nat} (hi : i < 2) : jMet E yJ0_coder_7d493 cJ0_coder_7d493 1 (some .byte) 2 0 0 [q_s E i] M (some (q_i 0)) M := by
  refine jMet.ofF RJ0 rfl (by decide +kernel) (Nat.le_of_ble_eq_true rfl) [(0, q_s E i)] rfl (fun X hC hE hr hn => ?_)
  refine jr_compact hC (jt_in (i := 699) (by decide +kernel) rfl) (D_J0_coder_7d493.g 0 rfl) ?_
  refine jr_if_eq hC (D_J0_coder_7d493.g 1 rfl) 13 rfl (x := none) (y := some ()) (res := ()) (by decide +kernel) (fun h => by cases h) (fun _ => ?_)
  refine jr_aload_n hC (D_J0_coder_7d493.g 2 rfl) 0 rfl ?_
  refine jr_scoder hC hi (jt_in (i := 2015) (by decide +kernel) rfl) (D_J0_coder_7d493.g 3 rfl) ?_
  refine jr_goto hC (D_J0_coder_7d493.g 4 rfl) 14 rfl ?_
  exact jr_nret hC (D_J0_coder_7d493.g 6 rfl) hr rfl hE
set_option maxRecDepth 100000 in
theorem c_J0_length {i : Nat} (hi : i < 2) : jMet E yJ0_length_8abf5 cJ0_length_8abf5 1 (some .int) 3 0 0 [q_s E i] M (some (q_i ((jlen.getD i 0 : Nat) : Int))) M := by
  refine jMet.ofF RJ0 rfl (by decide +kernel) (Nat.le_of_ble_eq_true rfl) [(0, q_s E i)] rfl (fun X hC hE hr hn => ?_)
  refine jr_aload_n hC (D_J0_length_8abf5.g 0 rfl) 0 rfl ?_
  refine jr_sval hC hi (jt_in (i := 2016) (by decide +kernel) rfl) (D_J0_length_8abf5.g 1 rfl) ?_
  refine jr_slen hC hi (D_J0_length_8abf5.g 2 rfl) ?_
  refine jr_aload_n hC (D_J0_length_8abf5.g 3 rfl) 0 rfl ?_
  refine jr_callX hC hi rfl cl_J0_335 (D_J0_length_8abf5.g 4 rfl) (c_J0_coder hi) (As := []) rfl rfl ⟨by decide, by decide⟩ (Nat.le_of_ble_eq_true rfl) ⟨Nat.le_refl _, Nat.le_refl _⟩ ?_
  refine jr_ishr hC (D_J0_length_8abf5.g 5 rfl) ?_
  exact jr_iret hC (D_J0_length_8abf5.g 6 rfl) hr hE (by rw [(jl_ok i hi).2.1])
set_option maxRecDepth 100000 in
theorem c_J3_checkIndex {a b : Int} {v : Value} (hv : v.category = 1) (h0 : 0 ≤ jd_wr a) (h1 : jd_wr a < jd_wr b) : jMet E yJ3_checkIndex_8e157 cJ3_checkIndex_8e157 3 (some .int) 1 0 0 [q_i a, q_i b, v] M (some (q_i a)) M := by
  refine jMet.ofF RJ3 rfl (by decide +kernel) (by cases v <;> first | exact Nat.le_of_ble_eq_true rfl | (simp [Value.category] at hv)) [(0, q_i a), (1, q_i b), (2, v)] rfl (fun X hC hE hr hn => ?_)
  refine jr_iload_n hC (D_J3_checkIndex_8e157.g 0 rfl) 0 rfl ?_
  refine jr_if_lt hC (D_J3_checkIndex_8e157.g 1 rfl) 9 rfl (x := none) (y := some ()) (res := ()) (by rw [if_neg (by omega)]) (fun h => by cases h) (fun _ => ?_)
  refine jr_iload_n hC (D_J3_checkIndex_8e157.g 2 rfl) 0 rfl ?_
  refine jr_iload_n hC (D_J3_checkIndex_8e157.g 3 rfl) 1 rfl ?_
  refine jr_icmp_lt hC (D_J3_checkIndex_8e157.g 4 rfl) 16 rfl (x := some ()) (y := none) (res := ()) (by rw [if_pos h1]) (fun _ => ?_) (fun h => by cases h)
  refine jr_iload_n hC (D_J3_checkIndex_8e157.g 10 rfl) 0 rfl ?_
  exact jr_iret hC (D_J3_checkIndex_8e157.g 11 rfl) hr hE rfl
set_option maxRecDepth 100000 in
theorem c_J0_checkIndex {a b : Int} (h0 : 0 ≤ jd_wr a) (h1 : jd_wr a < jd_wr b) : jMet E yJ0_checkIndex_df160 cJ0_checkIndex_df160 2 none 2 0 0 [q_i a, q_i b] M none M := by
  refine jMet.ofF RJ0 rfl (by decide +kernel) (Nat.le_of_ble_eq_true rfl) [(0, q_i a), (1, q_i b)] rfl (fun X hC hE hr hn => ?_)
  refine jr_iload_n hC (D_J0_checkIndex_df160.g 0 rfl) 0 rfl ?_
  refine jr_iload_n hC (D_J0_checkIndex_df160.g 1 rfl) 1 rfl ?_
  refine jr_formatter hC (jt_in (i := 707) (by decide +kernel) rfl) (D_J0_checkIndex_df160.g 2 rfl) (fun v hv => ?_)
  refine jr_callS hC cl_J0_1059 (D_J0_checkIndex_df160.g 3 rfl) (c_J3_checkIndex hv h0 h1) (As := [q_i a, q_i b, v]) rfl rfl ⟨by decide, by decide⟩ (Nat.le_of_ble_eq_true rfl) ⟨Nat.le_refl _, Nat.le_refl _⟩ ?_
  refine jr_pop hC (D_J0_checkIndex_df160.g 4 rfl) rfl ?_
  exact jr_vret hC (r := 0) (D_J0_checkIndex_df160.g 5 rfl) hr hE rfl
theorem jw_small {n : Nat} (h : n < 2147483648) : jd_wr (n : Int) = n := by
  unfold jd_wr
  rw [Int32.toInt_ofInt, show (Int32.size : Nat) = 4294967296 from rfl, Int.bmod_eq_of_le] <;> omega
set_option maxRecDepth 100000 in
theorem c_J1_charAt {i : Nat} (hi : i < 2) {a : Int} (h0 : 0 ≤ jd_wr a) (h1 : jd_wr a < ((jlen.getD i 0 : Nat) : Int)) : jMet E yJ1_charAt_3b067 cJ1_charAt_3b067 2 (some .char) 3 0 0 [q_b E i, q_i a] M (some (q_i ((jbyt.getD i []).getD (jd_wr a).toNat 0).toInt)) M := by
  refine jMet.ofF RJ1 rfl (by decide +kernel) (Nat.le_of_ble_eq_true rfl) [(0, q_b E i), (1, q_i a)] rfl (fun X hC hE hr hn => ?_)
  obtain ⟨e1, e2⟩ := jb_ok i hi (jd_wr a).toNat (by omega)
  have hl := (jl_ok i hi).2.2
  refine jr_iload_n hC (D_J1_charAt_3b067.g 0 rfl) 1 rfl ?_
  refine jr_aload_n hC (D_J1_charAt_3b067.g 1 rfl) 0 rfl ?_
  refine jr_slen hC hi (D_J1_charAt_3b067.g 2 rfl) ?_
  refine jr_callS hC cl_J1_9 (D_J1_charAt_3b067.g 3 rfl) (c_J0_checkIndex h0 (by rw [jw_small (by omega)]; exact h1)) (As := [q_i a, q_i ((jlen.getD i 0 : Nat) : Int)]) rfl rfl ⟨by decide, by decide⟩ (Nat.le_of_ble_eq_true rfl) ⟨Nat.le_refl _, Nat.le_refl _⟩ ?_
  refine jr_aload_n hC (D_J1_charAt_3b067.g 4 rfl) 0 rfl ?_
  refine jr_iload_n hC (D_J1_charAt_3b067.g 5 rfl) 1 rfl ?_
  refine jr_sbald hC hi (D_J1_charAt_3b067.g 6 rfl) (f := fun v => if v = ((jbyt.getD i []).getD (jd_wr a).toNat 0).toInt then some () else none) (res := ()) (by unfold jm_sb; rw [if_pos ⟨h0, h1⟩, Option.bind_some, if_pos rfl]) (fun v hv => ?_)
  obtain ⟨rfl, -⟩ := jo_if hv
  refine jr_sipush hC (D_J1_charAt_3b067.g 7 rfl) (by decide +kernel) ?_
  refine jr_iand hC (D_J1_charAt_3b067.g 8 rfl) ?_
  refine jr_i2c hC (D_J1_charAt_3b067.g 9 rfl) ?_
  rw [e1]
  exact jr_nret hC (D_J1_charAt_3b067.g 10 rfl) hr e2 hE
set_option maxRecDepth 100000 in
theorem c_J0_charAt {i : Nat} (hi : i < 2) {a : Int} (h0 : 0 ≤ jd_wr a) (h1 : jd_wr a < ((jlen.getD i 0 : Nat) : Int)) : jMet E yJ0_charAt_5068e cJ0_charAt_5068e 2 (some .char) 4 0 0 [q_s E i, q_i a] M (some (q_i ((jbyt.getD i []).getD (jd_wr a).toNat 0).toInt)) M := by
  refine jMet.ofF RJ0 rfl (by decide +kernel) (Nat.le_of_ble_eq_true rfl) [(0, q_s E i), (1, q_i a)] rfl (fun X hC hE hr hn => ?_)
  obtain ⟨e1, e2⟩ := jb_ok i hi (jd_wr a).toNat (by omega)
  refine jr_aload_n hC (D_J0_charAt_5068e.g 0 rfl) 0 rfl ?_
  refine jr_callX hC hi rfl cl_J0_492 (D_J0_charAt_5068e.g 1 rfl) (c_J0_isLatin1 hi) (As := []) rfl rfl ⟨by decide, by decide⟩ (Nat.le_of_ble_eq_true rfl) ⟨Nat.le_refl _, Nat.le_refl _⟩ ?_
  refine jr_if_eq hC (D_J0_charAt_5068e.g 2 rfl) 16 rfl (x := none) (y := some ()) (res := ()) (by decide +kernel) (fun h => by cases h) (fun _ => ?_)
  refine jr_aload_n hC (D_J0_charAt_5068e.g 3 rfl) 0 rfl ?_
  refine jr_sval hC hi (jt_in (i := 2016) (by decide +kernel) rfl) (D_J0_charAt_5068e.g 4 rfl) ?_
  refine jr_iload_n hC (D_J0_charAt_5068e.g 5 rfl) 1 rfl ?_
  refine jr_callS hC cl_J0_495 (D_J0_charAt_5068e.g 6 rfl) (c_J1_charAt hi h0 h1) (As := [q_b E i, q_i a]) rfl rfl ⟨by decide, by decide⟩ (Nat.le_of_ble_eq_true rfl) ⟨Nat.le_refl _, Nat.le_refl _⟩ ?_
  exact jr_nret hC (D_J0_charAt_5068e.g 7 rfl) hr e2 hE
/-- where byte c stands in what is left of a text -/
def jsx (c : Int) : List Int32 → Int → Int
  | [], _ => -1
  | b :: l, k => if jd_wr b.toInt = jd_wr c then k else jsx c l (k + 1)
/-- indexOf on text i -/
def jm_six (i : Nat) (c : Int) : Int := if 0 ≤ jd_wr c ∧ jd_wr c ≤ 255 then jsx (jd_b c) (jbyt.getD i []) 0 else -1
set_option maxRecDepth 100000 in
theorem c_J1_canEncode {c : Int} : jMet E yJ1_canEncode_9a6ad cJ1_canEncode_9a6ad 1 (some .boolean) 1 0 0 [q_i c] M (some (q_i (if 0 ≤ jd_wr c ∧ jd_wr c ≤ 255 then 1 else 0))) M := by
  refine jMet.ofF RJ1 rfl (by decide +kernel) (Nat.le_of_ble_eq_true rfl) [(0, q_i c)] rfl (fun X hC hE hr hn => ?_)
  refine jr_iload_n hC (D_J1_canEncode_9a6ad.g 0 rfl) 0 rfl ?_
  by_cases h0 : jd_wr c < 0
  · rw [if_neg (by omega)] at hE
    refine jr_if_lt hC (D_J1_canEncode_9a6ad.g 1 rfl) 15 rfl (x := some ()) (y := none) (res := ()) (by rw [if_pos h0]) (fun _ => ?_) (fun h => by cases h)
    refine jr_iconst hC (D_J1_canEncode_9a6ad.g 7 rfl) ?_
    exact jr_nret hC (D_J1_canEncode_9a6ad.g 8 rfl) hr rfl hE
  · refine jr_if_lt hC (D_J1_canEncode_9a6ad.g 1 rfl) 15 rfl (x := none) (y := some ()) (res := ()) (by rw [if_neg h0]) (fun h => by cases h) (fun _ => ?_)
    refine jr_iload_n hC (D_J1_canEncode_9a6ad.g 2 rfl) 0 rfl ?_
    refine jr_sipush hC (D_J1_canEncode_9a6ad.g 3 rfl) (by decide +kernel) ?_
    have e255 : jd_wr 255 = 255 := by decide +kernel
    by_cases h1 : jd_wr c ≤ 255
    · rw [if_pos (by omega)] at hE
      refine jr_icmp_gt hC (D_J1_canEncode_9a6ad.g 4 rfl) 15 rfl (x := some ()) (y := none) (res := ()) (by rw [e255, if_pos h1]) (fun _ => ?_) (fun h => by cases h)
      refine jr_iconst hC (D_J1_canEncode_9a6ad.g 5 rfl) ?_
      refine jr_goto hC (D_J1_canEncode_9a6ad.g 6 rfl) 16 rfl ?_
      exact jr_nret hC (D_J1_canEncode_9a6ad.g 8 rfl) hr rfl hE
    · rw [if_neg (by omega)] at hE
      refine jr_icmp_gt hC (D_J1_canEncode_9a6ad.g 4 rfl) 15 rfl (x := none) (y := some ()) (res := ()) (by rw [e255, if_neg h1]) (fun h => by cases h) (fun _ => ?_)
      refine jr_iconst hC (D_J1_canEncode_9a6ad.g 7 rfl) ?_
      exact jr_nret hC (D_J1_canEncode_9a6ad.g 8 rfl) hr rfl hE
set_option maxRecDepth 100000 in
theorem c_J1_indexOfChar {i : Nat} (hi : i < 2) {c : Int} : jMet E yJ1_indexOfChar_4cfef cJ1_indexOfChar_4cfef 6 (some .int) 1 0 0 [q_b E i, q_i c, q_i 0, q_i ((jlen.getD i 0 : Nat) : Int)] M (some (q_i (jsx (jd_b c) (jbyt.getD i []) 0))) M := by
  refine jMet.ofF RJ1 rfl (by decide +kernel) (Nat.le_of_ble_eq_true rfl) [(0, q_b E i), (1, q_i c), (2, q_i 0), (3, q_i ((jlen.getD i 0 : Nat) : Int))] rfl (fun X hC hE hr hn => ?_)
  have hl := jl_ok i hi
  refine jr_iload_n hC (D_J1_indexOfChar_4cfef.g 0 rfl) 1 rfl ?_
  refine jr_i2b hC (D_J1_indexOfChar_4cfef.g 1 rfl) ?_
  refine jr_istore hC (D_J1_indexOfChar_4cfef.g 2 rfl) (by decide) rfl ?_
  refine jr_iload_n hC (D_J1_indexOfChar_4cfef.g 3 rfl) 3 rfl ?_
  refine jr_istore hC (D_J1_indexOfChar_4cfef.g 4 rfl) (by decide) rfl ?_
  refine jr_pick [2, 5, 1, 0] rfl ?_
  have key : ∀ (l : List Int32) (k : Nat), k ≤ jlen.getD i 0 → (jbyt.getD i []).drop k = l → jsx (jd_b c) (jbyt.getD i []) 0 = jsx (jd_b c) l (k : Int) → JW E X 6 0 0 M 7 [(0, q_b E i), (3, q_i ((jlen.getD i 0 : Nat) : Int)), (4, q_i (jd_b c)), (5, q_i (k : Int))] [] := by
    intro l
    induction l with
    | nil =>
      intro k hk e h
      have q : (jbyt.getD i []).length ≤ k := List.drop_eq_nil_iff.mp e
      refine jr_iload hC (D_J1_indexOfChar_4cfef.g 5 rfl) 3 rfl ?_
      refine jr_iload_n hC (D_J1_indexOfChar_4cfef.g 6 rfl) 1 rfl ?_
      refine jr_icmp_ge hC (D_J1_indexOfChar_4cfef.g 7 rfl) 31 rfl (x := none) (y := some ()) (res := ()) (by rw [jw_small (by omega), jw_small (by omega), if_neg (by omega)]) (fun h => by cases h) (fun _ => ?_)
      refine jr_iconst hC (D_J1_indexOfChar_4cfef.g 17 rfl) ?_
      rw [h] at hE
      exact jr_iret hC (D_J1_indexOfChar_4cfef.g 18 rfl) hr hE rfl
    | cons b l ih =>
      intro k hk e h
      have hlt : k < (jbyt.getD i []).length := by
        have := congrArg List.length e
        rw [List.length_drop, List.length_cons] at this
        omega
      have hb : (jbyt.getD i []).getD k 0 = b := by
        rw [List.drop_eq_getElem_cons hlt] at e
        rw [List.getD_eq_getElem?_getD, List.getElem?_eq_getElem hlt]
        exact (List.cons.inj e).1
      have ed : (jbyt.getD i []).drop (k + 1) = l := by
        rw [List.drop_eq_getElem_cons hlt] at e
        exact (List.cons.inj e).2
      refine jr_iload hC (D_J1_indexOfChar_4cfef.g 5 rfl) 3 rfl ?_
      refine jr_iload_n hC (D_J1_indexOfChar_4cfef.g 6 rfl) 1 rfl ?_
      refine jr_icmp_ge hC (D_J1_indexOfChar_4cfef.g 7 rfl) 31 rfl (x := some ()) (y := none) (res := ()) (by rw [jw_small (by omega), jw_small (by omega), if_pos (by omega)]) (fun _ => ?_) (fun h => by cases h)
      refine jr_aload_n hC (D_J1_indexOfChar_4cfef.g 8 rfl) 0 rfl ?_
      refine jr_iload hC (D_J1_indexOfChar_4cfef.g 9 rfl) 3 rfl ?_
      refine jr_sbald hC hi (D_J1_indexOfChar_4cfef.g 10 rfl) (f := fun v => if v = b.toInt then some () else none) (res := ()) (by unfold jm_sb; rw [jw_small (by omega), if_pos (by omega), Option.bind_some, Int.toNat_natCast, hb, if_pos rfl]) (fun v hv => ?_)
      obtain ⟨rfl, -⟩ := jo_if hv
      refine jr_iload hC (D_J1_indexOfChar_4cfef.g 11 rfl) 2 rfl ?_
      by_cases hc : jd_wr b.toInt = jd_wr (jd_b c)
      · refine jr_icmp_ne hC (D_J1_indexOfChar_4cfef.g 12 rfl) 25 rfl (x := some ()) (y := none) (res := ()) (by rw [if_pos hc]) (fun _ => ?_) (fun h => by cases h)
        refine jr_iload hC (D_J1_indexOfChar_4cfef.g 13 rfl) 3 rfl ?_
        rw [h, jsx, if_pos hc] at hE
        exact jr_iret hC (D_J1_indexOfChar_4cfef.g 14 rfl) hr hE rfl
      · refine jr_icmp_ne hC (D_J1_indexOfChar_4cfef.g 12 rfl) 25 rfl (x := none) (y := some ()) (res := ()) (by rw [if_neg hc]) (fun h => by cases h) (fun _ => ?_)
        refine jr_iinc hC (D_J1_indexOfChar_4cfef.g 15 rfl) 3 rfl (by decide) rfl ?_
        refine jr_goto hC (D_J1_indexOfChar_4cfef.g 16 rfl) 7 rfl ?_
        refine jr_pick [1, 2, 3, 0] rfl ?_
        rw [jsx, if_neg hc] at h
        exact ih (k + 1) (by omega) ed h
  exact key _ 0 (Nat.zero_le _) rfl rfl
theorem jw_le_refl : jd_wr 0 ≤ jd_wr 0 := Int.le_refl _
theorem j_max00 : f_J9_max_7cf53 0 0 M = some (0, M) := by unfold f_J9_max_7cf53; first | rfl | (simp [jw_wr0]; done) | (simp [jjq, jw_wr0])
theorem j_minLL {a : Int} : f_J9_min_7cf53 a a M = some (a, M) := by unfold f_J9_min_7cf53; first | rfl | (simp; done) | (simp [jjq])
set_option maxRecDepth 100000 in
theorem c_J1_indexOf {i : Nat} (hi : i < 2) {c : Int} : jMet E yJ1_indexOf_4cfef cJ1_indexOf_4cfef 4 (some .int) 3 0 0 [q_b E i, q_i c, q_i 0, q_i ((jlen.getD i 0 : Nat) : Int)] M (some (q_i (jm_six i c))) M := by
  refine jMet.ofF RJ1 rfl (by decide +kernel) (Nat.le_of_ble_eq_true rfl) [(0, q_b E i), (1, q_i c), (2, q_i 0), (3, q_i ((jlen.getD i 0 : Nat) : Int))] rfl (fun X hC hE hr hn => ?_)
  have hl := jl_ok i hi
  have hpos : 0 < jlen.getD i 0 := by rcases (show i = 0 ∨ i = 1 by omega) with rfl | rfl <;> decide +kernel
  refine jr_iload_n hC (D_J1_indexOf_4cfef.g 0 rfl) 1 rfl ?_
  refine jr_callS hC cl_J1_88 (D_J1_indexOf_4cfef.g 1 rfl) c_J1_canEncode (As := [q_i c]) rfl rfl ⟨by decide, by decide⟩ (Nat.le_of_ble_eq_true rfl) ⟨Nat.le_refl _, Nat.le_refl _⟩ ?_
  unfold jm_six at hE
  by_cases hc : 0 ≤ jd_wr c ∧ jd_wr c ≤ 255
  · rw [if_pos hc] at hE ⊢
    refine jr_if_ne hC (D_J1_indexOf_4cfef.g 2 rfl) 9 rfl (x := none) (y := some ()) (res := ()) (by decide +kernel) (fun h => by cases h) (fun _ => ?_)
    refine jr_iload_n hC (D_J1_indexOf_4cfef.g 5 rfl) 2 rfl ?_
    refine jr_iconst hC (D_J1_indexOf_4cfef.g 6 rfl) ?_
    refine jr_callS hC cl_J1_92 (D_J1_indexOf_4cfef.g 7 rfl) (c_J9_max_7cf53 j_max00) (As := [q_i 0, q_i 0]) rfl rfl ⟨by decide, by decide⟩ (Nat.le_of_ble_eq_true rfl) ⟨Nat.le_refl _, Nat.le_refl _⟩ ?_
    refine jr_istore_n hC (D_J1_indexOf_4cfef.g 8 rfl) (by decide) rfl ?_
    refine jr_iload_n hC (D_J1_indexOf_4cfef.g 9 rfl) 3 rfl ?_
    refine jr_aload_n hC (D_J1_indexOf_4cfef.g 10 rfl) 1 rfl ?_
    refine jr_slen hC hi (D_J1_indexOf_4cfef.g 11 rfl) ?_
    refine jr_callS hC cl_J1_38 (D_J1_indexOf_4cfef.g 12 rfl) (c_J9_min_7cf53 j_minLL) (As := [q_i ((jlen.getD i 0 : Nat) : Int), q_i ((jlen.getD i 0 : Nat) : Int)]) rfl rfl ⟨by decide, by decide⟩ (Nat.le_of_ble_eq_true rfl) ⟨Nat.le_refl _, Nat.le_refl _⟩ ?_
    refine jr_istore_n hC (D_J1_indexOf_4cfef.g 13 rfl) (by decide) rfl ?_
    refine jr_iload_n hC (D_J1_indexOf_4cfef.g 14 rfl) 1 rfl ?_
    refine jr_iload_n hC (D_J1_indexOf_4cfef.g 15 rfl) 0 rfl ?_
    refine jr_icmp_lt hC (D_J1_indexOf_4cfef.g 16 rfl) 29 rfl (x := some ()) (y := none) (res := ()) (by rw [jw_wr0, jw_small (by omega), if_pos (by omega)]) (fun _ => ?_) (fun h => by cases h)
    refine jr_aload_n hC (D_J1_indexOf_4cfef.g 19 rfl) 2 rfl ?_
    refine jr_iload_n hC (D_J1_indexOf_4cfef.g 20 rfl) 3 rfl ?_
    refine jr_iload_n hC (D_J1_indexOf_4cfef.g 21 rfl) 1 rfl ?_
    refine jr_iload_n hC (D_J1_indexOf_4cfef.g 22 rfl) 0 rfl ?_
    refine jr_callS hC cl_J1_95 (D_J1_indexOf_4cfef.g 23 rfl) (c_J1_indexOfChar hi) (As := [q_b E i, q_i c, q_i 0, q_i ((jlen.getD i 0 : Nat) : Int)]) rfl rfl ⟨by decide, by decide⟩ (Nat.le_of_ble_eq_true rfl) ⟨Nat.le_refl _, Nat.le_refl _⟩ ?_
    exact jr_iret hC (D_J1_indexOf_4cfef.g 24 rfl) hr hE rfl
  · rw [if_neg hc] at hE ⊢
    refine jr_if_ne hC (D_J1_indexOf_4cfef.g 2 rfl) 9 rfl (x := some ()) (y := none) (res := ()) (by decide +kernel) (fun _ => ?_) (fun h => by cases h)
    refine jr_iconst hC (D_J1_indexOf_4cfef.g 3 rfl) ?_
    exact jr_iret hC (D_J1_indexOf_4cfef.g 4 rfl) hr hE rfl
set_option maxRecDepth 100000 in
theorem c_J0_indexOf2 {i : Nat} (hi : i < 2) {c : Int} : jMet E yJ0_indexOf_7cf53 cJ0_indexOf_7cf53 3 (some .int) 5 0 0 [q_s E i, q_i c, q_i 0] M (some (q_i (jm_six i c))) M := by
  refine jMet.ofF RJ0 rfl (by decide +kernel) (Nat.le_of_ble_eq_true rfl) [(0, q_s E i), (1, q_i c), (2, q_i 0)] rfl (fun X hC hE hr hn => ?_)
  refine jr_aload_n hC (D_J0_indexOf_7cf53.g 0 rfl) 0 rfl ?_
  refine jr_callX hC hi rfl cl_J0_492 (D_J0_indexOf_7cf53.g 1 rfl) (c_J0_isLatin1 hi) (As := []) rfl rfl ⟨by decide, by decide⟩ (Nat.le_of_ble_eq_true rfl) ⟨Nat.le_refl _, Nat.le_refl _⟩ ?_
  refine jr_if_eq hC (D_J0_indexOf_7cf53.g 2 rfl) 23 rfl (x := none) (y := some ()) (res := ()) (by decide +kernel) (fun h => by cases h) (fun _ => ?_)
  refine jr_aload_n hC (D_J0_indexOf_7cf53.g 3 rfl) 0 rfl ?_
  refine jr_sval hC hi (jt_in (i := 2016) (by decide +kernel) rfl) (D_J0_indexOf_7cf53.g 4 rfl) ?_
  refine jr_iload_n hC (D_J0_indexOf_7cf53.g 5 rfl) 1 rfl ?_
  refine jr_iload_n hC (D_J0_indexOf_7cf53.g 6 rfl) 2 rfl ?_
  refine jr_aload_n hC (D_J0_indexOf_7cf53.g 7 rfl) 0 rfl ?_
  refine jr_callX hC hi rfl cl_J0_505 (D_J0_indexOf_7cf53.g 8 rfl) (c_J0_length hi) (As := []) rfl rfl ⟨by decide, by decide⟩ (Nat.le_of_ble_eq_true rfl) ⟨Nat.le_refl _, Nat.le_refl _⟩ ?_
  refine jr_callS hC cl_J0_637 (D_J0_indexOf_7cf53.g 9 rfl) (c_J1_indexOf hi) (As := [q_b E i, q_i c, q_i 0, q_i ((jlen.getD i 0 : Nat) : Int)]) rfl rfl ⟨by decide, by decide⟩ (Nat.le_of_ble_eq_true rfl) ⟨Nat.le_refl _, Nat.le_refl _⟩ ?_
  refine jr_goto hC (D_J0_indexOf_7cf53.g 10 rfl) 36 rfl ?_
  exact jr_iret hC (D_J0_indexOf_7cf53.g 18 rfl) hr hE rfl
set_option maxRecDepth 100000 in
theorem c_J0_indexOf {i : Nat} (hi : i < 2) {c : Int} : jMet E yJ0_indexOf_0f7a4 cJ0_indexOf_0f7a4 2 (some .int) 6 0 0 [q_s E i, q_i c] M (some (q_i (jm_six i c))) M := by
  refine jMet.ofF RJ0 rfl (by decide +kernel) (Nat.le_of_ble_eq_true rfl) [(0, q_s E i), (1, q_i c)] rfl (fun X hC hE hr hn => ?_)
  refine jr_aload_n hC (D_J0_indexOf_0f7a4.g 0 rfl) 0 rfl ?_
  refine jr_iload_n hC (D_J0_indexOf_0f7a4.g 1 rfl) 1 rfl ?_
  refine jr_iconst hC (D_J0_indexOf_0f7a4.g 2 rfl) ?_
  refine jr_callX hC hi rfl cl_J0_633 (D_J0_indexOf_0f7a4.g 3 rfl) (c_J0_indexOf2 hi) (As := [q_i c, q_i 0]) rfl rfl ⟨by decide, by decide⟩ (Nat.le_of_ble_eq_true rfl) ⟨Nat.le_refl _, Nat.le_refl _⟩ ?_
  exact jr_iret hC (D_J0_indexOf_0f7a4.g 4 rfl) hr hE rfl
end JSTR
section JSTR2
variable {E : jE} {X : jX} {cc : ByteArray} {own : String} {nL d mc ms k n pc n' : Nat} {M : jMem} {lv : List (Nat × Value)} {st : List Value} {ρ : Type} {res : ρ}
theorem jr_charAt (hC : jCx E X cc nL own d mc ms) (i : Nat) (ho : own = RX9) (hi : i < 2) (hd8 : 8 ≤ d) (hroom : (st.map fun v => v.category).sum ≤ 8) {a : Int} {f : Int → Option ρ} (hd : jD cc pc n' (.invokevirtual 74) 3) (h : (jm_sb i a).bind f = some res) (hcs : k ≤ mc ∧ n ≤ ms) (kk : ∀ v, f v = some res → JW E X nL k n M n' lv (q_i v :: st)) : JW E X nL k n M pc lv (q_i a :: q_s E i :: st) := by
  subst ho
  obtain ⟨v, h1, h2⟩ := jo_b h
  obtain ⟨hk, h1⟩ := jo_if h1
  cases h1
  exact jr_callX hC hi rfl cl_X9_74 hd (c_J0_charAt hi hk.1 hk.2) (As := [q_i a]) rfl rfl ⟨by omega, by decide⟩ hroom hcs (kk _ h2)
theorem jr_indexOf (hC : jCx E X cc nL own d mc ms) (i : Nat) (ho : own = RX9) (hi : i < 2) (hd8 : 8 ≤ d) (hroom : (st.map fun v => v.category).sum ≤ 8) {a : Int} (hd : jD cc pc n' (.invokevirtual 63) 3) (hcs : k ≤ mc ∧ n ≤ ms) (kk : JW E X nL k n M n' lv (q_i (jm_six i a) :: st)) : JW E X nL k n M pc lv (q_i a :: q_s E i :: st) := by
  subst ho
  exact jr_callX hC hi rfl cl_X9_63 hd (c_J0_indexOf hi) (As := [q_i a]) rfl rfl ⟨by omega, by decide⟩ hroom hcs kk
end JSTR2
