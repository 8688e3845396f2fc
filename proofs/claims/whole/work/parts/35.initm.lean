def f_X12_init (th : Nat) (M : jMem) : Option (Int × jMem) :=
jnw M 21 2000 fun q1 M2 =>
(jm_pR 12 1 M2 th q1).bind fun M3 =>
jnw M3 21 2000 fun q4 M5 =>
(jm_pR 12 3 M5 th q4).bind fun M6 =>
jnw M6 20 403 fun q7 M8 =>
(jm_pR 12 5 M8 th q7).bind fun M9 =>
jnw M9 20 403 fun q10 M11 =>
(jm_pR 12 6 M11 th q10).bind fun M12 =>
jnw M12 20 403 fun q13 M14 =>
(jm_pR 12 7 M14 th q13).bind fun M15 =>
jnw M15 23 403 fun q16 M17 =>
(jm_pR 12 8 M17 th q16).bind fun M18 =>
jnw M18 23 19 fun q19 M20 =>
(jm_pR 12 9 M20 th q19).bind fun M21 =>
(jm_pI 12 17 M21 th (-1)).bind fun M22 =>
jnw M22 20 2 fun q23 M24 =>
(jm_pR 12 20 M24 th q23).bind fun M25 =>
jnw M25 20 2 fun q26 M27 =>
(jm_pR 12 21 M27 th q26).bind fun M28 =>
jnw M28 20 2 fun q29 M30 =>
(jm_pR 12 22 M30 th q29).bind fun M31 =>
jnw M31 20 24 fun q32 M33 =>
(jm_pR 12 23 M33 th q32).bind fun M34 =>
jnw M34 20 24 fun q35 M36 =>
(jm_pR 12 24 M36 th q35).bind fun M37 =>
jnw M37 20 2 fun q38 M39 =>
(jm_pR 12 25 M39 th q38).bind fun M40 =>
jnw M40 20 36 fun q41 M42 =>
(jm_pR 12 26 M42 th q41).bind fun M43 =>
jnw M43 20 36 fun q44 M45 =>
(jm_pR 12 27 M45 th q44).bind fun M46 =>
jnw M46 20 36 fun q47 M48 =>
(jm_pR 12 28 M48 th q47).bind fun M49 =>
jnw M49 20 2 fun q50 M51 =>
(jm_pR 12 29 M51 th q50).bind fun M52 =>
jnw M52 20 6 fun q53 M54 =>
(jm_pR 12 30 M54 th q53).bind fun M55 =>
jnw M55 20 6 fun q56 M57 =>
(jm_pR 12 31 M57 th q56).bind fun M58 =>
jnw M58 22 260 fun q59 M60 =>
(jm_pR 12 33 M60 th q59).bind fun M61 =>
jnw M61 20 260 fun q62 M63 =>
(jm_pR 12 34 M63 th q62).bind fun M64 =>
jnw M64 20 260 fun q65 M66 =>
(jm_pR 12 35 M66 th q65).bind fun M67 =>
jnw M67 20 260 fun q68 M69 =>
(jm_pR 12 36 M69 th q68).bind fun M70 =>
jnw M70 20 260 fun q71 M72 =>
(jm_pR 12 37 M72 th q71).bind fun M73 =>
jnw M73 20 840 fun q74 M75 =>
(jm_pR 12 39 M75 th q74).bind fun M76 =>
jnw M76 20 840 fun q77 M78 =>
(jm_pR 12 40 M78 th q77).bind fun M79 =>
jnw M79 22 36 fun q80 M81 =>
(jm_pR 12 41 M81 th q80).bind fun M82 =>
jnw M82 20 64 fun q83 M84 =>
(jm_pR 12 42 M84 th q83).bind fun M85 =>
jnw M85 20 9 fun q86 M87 =>
(jm_pR 12 44 M87 th q86).bind fun M88 =>
jnw M88 20 400 fun q89 M90 =>
(jm_pR 12 45 M90 th q89).bind fun M91 =>
jnw M91 20 75 fun q92 M93 =>
(jm_pR 12 47 M93 th q92).bind fun M94 =>
jnw M94 20 75 fun q95 M96 =>
(jm_pR 12 48 M96 th q95).bind fun M97 =>
jnw M97 22 36 fun q98 M99 =>
(jm_pR 12 50 M99 th q98).bind fun M100 =>
jnw M100 20 2 fun q101 M102 =>
(jm_pR 12 51 M102 th q101).bind fun M103 =>
jnw M103 22 18 fun q104 M105 =>
(jm_pR 12 52 M105 th q104).bind fun M106 =>
jnw M106 20 3000 fun q107 M108 =>
(jm_pR 12 54 M108 th q107).bind fun M109 =>
jnw M109 20 2368 fun q110 M111 =>
(jm_pR 12 55 M111 th q110).bind fun M112 =>
jnw M112 20 2368 fun q113 M114 =>
(jm_pR 12 56 M114 th q113).bind fun M115 =>
jnw M115 22 36 fun q116 M117 =>
(jm_pR 12 57 M117 th q116).bind fun M118 =>
jnw M118 22 36 fun q119 M120 =>
(jm_pR 12 58 M120 th q119).bind fun M121 =>
jnw M121 22 36 fun q122 M123 =>
(jm_pR 12 59 M123 th q122).bind fun M124 =>
jnw M124 20 36 fun q125 M126 =>
(jm_pR 12 60 M126 th q125).bind fun M127 =>
jnw M127 20 49 fun q128 M129 =>
(jm_pR 12 61 M129 th q128).bind fun M130 =>
jnw M130 20 49 fun q131 M132 =>
(jm_pR 12 62 M132 th q131).bind fun M133 =>
jnw M133 20 20 fun q134 M135 =>
(jm_pR 12 64 M135 th q134).bind fun M136 =>
jnw M136 22 20 fun q137 M138 =>
(jm_pR 12 65 M138 th q137).bind fun M139 =>
jnw M139 22 3 fun q140 M141 =>
(jm_pR 12 66 M141 th q140).bind fun M142 =>
jnw M142 20 225 fun q143 M144 =>
(jm_pR 12 67 M144 th q143).bind fun M145 =>
jcall 12 M145 th (f_X12_plain th 0 M145) fun _ M147 =>
jcall 12 M147 th (f_X12_plain th 1 M147) fun _ M149 =>
(jm_gR 12 9 M149 th).bind fun r150 =>
jbd (f_X12_word 115 113 117 97 114 101 0 M149) fun v151 M152 =>
(jm_st 23 M152 r150 0 v151).bind fun M153 =>
(jm_gR 12 9 M153 th).bind fun r154 =>
jbd (f_X12_word 104 111 108 101 0 0 0 M153) fun v155 M156 =>
(jm_st 23 M156 r154 1 v155).bind fun M157 =>
(jm_gR 12 9 M157 th).bind fun r158 =>
jbd (f_X12_word 115 116 111 110 101 0 0 M157) fun v159 M160 =>
(jm_st 23 M160 r158 2 v159).bind fun M161 =>
(jm_gR 12 9 M161 th).bind fun r162 =>
jbd (f_X12_word 97 115 107 115 0 0 0 M161) fun v163 M164 =>
(jm_st 23 M164 r162 3 v163).bind fun M165 =>
(jm_gR 12 9 M165 th).bind fun r166 =>
jbd (f_X12_word 108 111 111 115 101 110 115 M165) fun v167 M168 =>
(jm_st 23 M168 r166 4 v167).bind fun M169 =>
(jm_gR 12 9 M169 th).bind fun r170 =>
jbd (f_X12_word 108 97 121 115 0 0 0 M169) fun v171 M172 =>
(jm_st 23 M172 r170 5 v171).bind fun M173 =>
(jm_gR 12 9 M173 th).bind fun r174 =>
jbd (f_X12_word 115 101 101 100 0 0 0 M173) fun v175 M176 =>
(jm_st 23 M176 r174 6 v175).bind fun M177 =>
(jm_gR 12 9 M177 th).bind fun r178 =>
jbd (f_X12_word 105 102 0 0 0 0 0 M177) fun v179 M180 =>
(jm_st 23 M180 r178 7 v179).bind fun M181 =>
(jm_gR 12 9 M181 th).bind fun r182 =>
jbd (f_X12_word 116 104 101 110 0 0 0 M181) fun v183 M184 =>
(jm_st 23 M184 r182 8 v183).bind fun M185 =>
(jm_gR 12 9 M185 th).bind fun r186 =>
jbd (f_X12_word 101 108 115 101 0 0 0 M185) fun v187 M188 =>
(jm_st 23 M188 r186 9 v187).bind fun M189 =>
(jm_gR 12 9 M189 th).bind fun r190 =>
jbd (f_X12_word 97 99 114 111 115 115 0 M189) fun v191 M192 =>
(jm_st 23 M192 r190 10 v191).bind fun M193 =>
(jm_gR 12 9 M193 th).bind fun r194 =>
jbd (f_X12_word 108 101 102 116 0 0 0 M193) fun v195 M196 =>
(jm_st 23 M196 r194 11 v195).bind fun M197 =>
(jm_gR 12 9 M197 th).bind fun r198 =>
jbd (f_X12_word 116 111 112 0 0 0 0 M197) fun v199 M200 =>
(jm_st 23 M200 r198 12 v199).bind fun M201 =>
(jm_gR 12 9 M201 th).bind fun r202 =>
jbd (f_X12_word 116 117 114 110 101 100 0 M201) fun v203 M204 =>
(jm_st 23 M204 r202 13 v203).bind fun M205 =>
(jm_gR 12 9 M205 th).bind fun r206 =>
jbd (f_X12_word 97 103 101 0 0 0 0 M205) fun v207 M208 =>
(jm_st 23 M208 r206 14 v207).bind fun M209 =>
(jm_gR 12 9 M209 th).bind fun r210 =>
jbd (f_X12_word 115 101 97 115 111 110 0 M209) fun v211 M212 =>
(jm_st 23 M212 r210 15 v211).bind fun M213 =>
(jm_gR 12 9 M213 th).bind fun r214 =>
jbd (f_X12_word 119 104 105 99 104 0 0 M213) fun v215 M216 =>
(jm_st 23 M216 r214 16 v215).bind fun M217 =>
(jm_gR 12 9 M217 th).bind fun r218 =>
jbd (f_X12_word 115 116 111 110 101 115 0 M217) fun v219 M220 =>
(jm_st 23 M220 r218 17 v219).bind fun M221 =>
(jm_gR 12 9 M221 th).bind fun r222 =>
jbd (f_X12_word 104 111 108 101 115 0 0 M221) fun v223 M224 =>
(jm_st 23 M224 r222 18 v223).bind fun M225 =>
jcall 12 M225 th (f_X12_begins th M225) fun _ M227 =>
jcall 12 M227 th (f_X12_keepsRow th M227) fun _ M229 =>
some (0, M229)
theorem D_X12_init_0 : jDs cX12_init [(0, .aload_n 0, 1, 1), (1, .invokespecial 7, 3, 4), (4, .aload_n 0, 1, 5), (5, .sipush 2000, 3, 8), (8, .newarray .byte, 2, 10), (10, .putfield 13, 3, 13), (13, .aload_n 0, 1, 14), (14, .sipush 2000, 3, 17), (17, .newarray .byte, 2, 19), (19, .putfield 17, 3, 22), (22, .aload_n 0, 1, 23), (23, .sipush 403, 3, 26), (26, .newarray .int, 2, 28), (28, .putfield 20, 3, 31), (31, .aload_n 0, 1, 32), (32, .sipush 403, 3, 35), (35, .newarray .int, 2, 37), (37, .putfield 24, 3, 40), (40, .aload_n 0, 1, 41), (41, .sipush 403, 3, 44), (44, .newarray .int, 2, 46), (46, .putfield 27, 3, 49), (49, .aload_n 0, 1, 50), (50, .sipush 403, 3, 53), (53, .newarray .long, 2, 55)] := by unfold jDs; decide +kernel
theorem D_X12_init_1 : jDs cX12_init [(55, .putfield 30, 3, 58), (58, .aload_n 0, 1, 59), (59, .bipush 19, 2, 61), (61, .newarray .long, 2, 63), (63, .putfield 34, 3, 66), (66, .aload_n 0, 1, 67), (67, .iconst (-1), 1, 68), (68, .putfield 37, 3, 71), (71, .aload_n 0, 1, 72), (72, .iconst 2, 1, 73), (73, .newarray .int, 2, 75), (75, .putfield 40, 3, 78), (78, .aload_n 0, 1, 79), (79, .iconst 2, 1, 80), (80, .newarray .int, 2, 82), (82, .putfield 43, 3, 85), (85, .aload_n 0, 1, 86), (86, .iconst 2, 1, 87), (87, .newarray .int, 2, 89), (89, .putfield 46, 3, 92), (92, .aload_n 0, 1, 93), (93, .bipush 24, 2, 95), (95, .newarray .int, 2, 97), (97, .putfield 49, 3, 100), (100, .aload_n 0, 1, 101)] := by unfold jDs; decide +kernel
theorem D_X12_init_2 : jDs cX12_init [(101, .bipush 24, 2, 103), (103, .newarray .int, 2, 105), (105, .putfield 52, 3, 108), (108, .aload_n 0, 1, 109), (109, .iconst 2, 1, 110), (110, .newarray .int, 2, 112), (112, .putfield 55, 3, 115), (115, .aload_n 0, 1, 116), (116, .bipush 36, 2, 118), (118, .newarray .int, 2, 120), (120, .putfield 58, 3, 123), (123, .aload_n 0, 1, 124), (124, .bipush 36, 2, 126), (126, .newarray .int, 2, 128), (128, .putfield 61, 3, 131), (131, .aload_n 0, 1, 132), (132, .bipush 36, 2, 134), (134, .newarray .int, 2, 136), (136, .putfield 64, 3, 139), (139, .aload_n 0, 1, 140), (140, .iconst 2, 1, 141), (141, .newarray .int, 2, 143), (143, .putfield 67, 3, 146), (146, .aload_n 0, 1, 147), (147, .bipush 6, 2, 149)] := by unfold jDs; decide +kernel
theorem D_X12_init_3 : jDs cX12_init [(149, .newarray .int, 2, 151), (151, .putfield 70, 3, 154), (154, .aload_n 0, 1, 155), (155, .bipush 6, 2, 157), (157, .newarray .int, 2, 159), (159, .putfield 73, 3, 162), (162, .aload_n 0, 1, 163), (163, .sipush 260, 3, 166), (166, .newarray .boolean, 2, 168), (168, .putfield 76, 3, 171), (171, .aload_n 0, 1, 172), (172, .sipush 260, 3, 175), (175, .newarray .int, 2, 177), (177, .putfield 80, 3, 180), (180, .aload_n 0, 1, 181), (181, .sipush 260, 3, 184), (184, .newarray .int, 2, 186), (186, .putfield 83, 3, 189), (189, .aload_n 0, 1, 190), (190, .sipush 260, 3, 193), (193, .newarray .int, 2, 195), (195, .putfield 86, 3, 198), (198, .aload_n 0, 1, 199), (199, .sipush 260, 3, 202), (202, .newarray .int, 2, 204)] := by unfold jDs; decide +kernel
theorem D_X12_init_4 : jDs cX12_init [(204, .putfield 89, 3, 207), (207, .aload_n 0, 1, 208), (208, .sipush 840, 3, 211), (211, .newarray .int, 2, 213), (213, .putfield 92, 3, 216), (216, .aload_n 0, 1, 217), (217, .sipush 840, 3, 220), (220, .newarray .int, 2, 222), (222, .putfield 95, 3, 225), (225, .aload_n 0, 1, 226), (226, .bipush 36, 2, 228), (228, .newarray .boolean, 2, 230), (230, .putfield 98, 3, 233), (233, .aload_n 0, 1, 234), (234, .bipush 64, 2, 236), (236, .newarray .int, 2, 238), (238, .putfield 101, 3, 241), (241, .aload_n 0, 1, 242), (242, .bipush 9, 2, 244), (244, .newarray .int, 2, 246), (246, .putfield 104, 3, 249), (249, .aload_n 0, 1, 250), (250, .sipush 400, 3, 253), (253, .newarray .int, 2, 255), (255, .putfield 107, 3, 258)] := by unfold jDs; decide +kernel
theorem D_X12_init_5 : jDs cX12_init [(258, .aload_n 0, 1, 259), (259, .bipush 75, 2, 261), (261, .newarray .int, 2, 263), (263, .putfield 110, 3, 266), (266, .aload_n 0, 1, 267), (267, .bipush 75, 2, 269), (269, .newarray .int, 2, 271), (271, .putfield 113, 3, 274), (274, .aload_n 0, 1, 275), (275, .bipush 36, 2, 277), (277, .newarray .boolean, 2, 279), (279, .putfield 116, 3, 282), (282, .aload_n 0, 1, 283), (283, .iconst 2, 1, 284), (284, .newarray .int, 2, 286), (286, .putfield 119, 3, 289), (289, .aload_n 0, 1, 290), (290, .bipush 18, 2, 292), (292, .newarray .boolean, 2, 294), (294, .putfield 122, 3, 297), (297, .aload_n 0, 1, 298), (298, .sipush 3000, 3, 301), (301, .newarray .int, 2, 303), (303, .putfield 125, 3, 306), (306, .aload_n 0, 1, 307)] := by unfold jDs; decide +kernel
theorem D_X12_init_6 : jDs cX12_init [(307, .sipush 2368, 3, 310), (310, .newarray .int, 2, 312), (312, .putfield 128, 3, 315), (315, .aload_n 0, 1, 316), (316, .sipush 2368, 3, 319), (319, .newarray .int, 2, 321), (321, .putfield 131, 3, 324), (324, .aload_n 0, 1, 325), (325, .bipush 36, 2, 327), (327, .newarray .boolean, 2, 329), (329, .putfield 134, 3, 332), (332, .aload_n 0, 1, 333), (333, .bipush 36, 2, 335), (335, .newarray .boolean, 2, 337), (337, .putfield 137, 3, 340), (340, .aload_n 0, 1, 341), (341, .bipush 36, 2, 343), (343, .newarray .boolean, 2, 345), (345, .putfield 140, 3, 348), (348, .aload_n 0, 1, 349), (349, .bipush 36, 2, 351), (351, .newarray .int, 2, 353), (353, .putfield 143, 3, 356), (356, .aload_n 0, 1, 357), (357, .bipush 49, 2, 359)] := by unfold jDs; decide +kernel
theorem D_X12_init_7 : jDs cX12_init [(359, .newarray .int, 2, 361), (361, .putfield 146, 3, 364), (364, .aload_n 0, 1, 365), (365, .bipush 49, 2, 367), (367, .newarray .int, 2, 369), (369, .putfield 149, 3, 372), (372, .aload_n 0, 1, 373), (373, .bipush 20, 2, 375), (375, .newarray .int, 2, 377), (377, .putfield 152, 3, 380), (380, .aload_n 0, 1, 381), (381, .bipush 20, 2, 383), (383, .newarray .boolean, 2, 385), (385, .putfield 155, 3, 388), (388, .aload_n 0, 1, 389), (389, .iconst 3, 1, 390), (390, .newarray .boolean, 2, 392), (392, .putfield 158, 3, 395), (395, .aload_n 0, 1, 396), (396, .sipush 225, 3, 399), (399, .newarray .int, 2, 401), (401, .putfield 161, 3, 404), (404, .aload_n 0, 1, 405), (405, .iconst 0, 1, 406), (406, .invokevirtual 164, 3, 409)] := by unfold jDs; decide +kernel
theorem D_X12_init_8 : jDs cX12_init [(409, .aload_n 0, 1, 410), (410, .iconst 1, 1, 411), (411, .invokevirtual 164, 3, 414), (414, .aload_n 0, 1, 415), (415, .getfield 34, 3, 418), (418, .iconst 0, 1, 419), (419, .bipush 115, 2, 421), (421, .bipush 113, 2, 423), (423, .bipush 117, 2, 425), (425, .bipush 97, 2, 427), (427, .bipush 114, 2, 429), (429, .bipush 101, 2, 431), (431, .iconst 0, 1, 432), (432, .invokestatic 168, 3, 435), (435, .lastore, 1, 436), (436, .aload_n 0, 1, 437), (437, .getfield 34, 3, 440), (440, .iconst 1, 1, 441), (441, .bipush 104, 2, 443), (443, .bipush 111, 2, 445), (445, .bipush 108, 2, 447), (447, .bipush 101, 2, 449), (449, .iconst 0, 1, 450), (450, .iconst 0, 1, 451), (451, .iconst 0, 1, 452)] := by unfold jDs; decide +kernel
theorem D_X12_init_9 : jDs cX12_init [(452, .invokestatic 168, 3, 455), (455, .lastore, 1, 456), (456, .aload_n 0, 1, 457), (457, .getfield 34, 3, 460), (460, .iconst 2, 1, 461), (461, .bipush 115, 2, 463), (463, .bipush 116, 2, 465), (465, .bipush 111, 2, 467), (467, .bipush 110, 2, 469), (469, .bipush 101, 2, 471), (471, .iconst 0, 1, 472), (472, .iconst 0, 1, 473), (473, .invokestatic 168, 3, 476), (476, .lastore, 1, 477), (477, .aload_n 0, 1, 478), (478, .getfield 34, 3, 481), (481, .iconst 3, 1, 482), (482, .bipush 97, 2, 484), (484, .bipush 115, 2, 486), (486, .bipush 107, 2, 488), (488, .bipush 115, 2, 490), (490, .iconst 0, 1, 491), (491, .iconst 0, 1, 492), (492, .iconst 0, 1, 493), (493, .invokestatic 168, 3, 496)] := by unfold jDs; decide +kernel
theorem D_X12_init_10 : jDs cX12_init [(496, .lastore, 1, 497), (497, .aload_n 0, 1, 498), (498, .getfield 34, 3, 501), (501, .iconst 4, 1, 502), (502, .bipush 108, 2, 504), (504, .bipush 111, 2, 506), (506, .bipush 111, 2, 508), (508, .bipush 115, 2, 510), (510, .bipush 101, 2, 512), (512, .bipush 110, 2, 514), (514, .bipush 115, 2, 516), (516, .invokestatic 168, 3, 519), (519, .lastore, 1, 520), (520, .aload_n 0, 1, 521), (521, .getfield 34, 3, 524), (524, .iconst 5, 1, 525), (525, .bipush 108, 2, 527), (527, .bipush 97, 2, 529), (529, .bipush 121, 2, 531), (531, .bipush 115, 2, 533), (533, .iconst 0, 1, 534), (534, .iconst 0, 1, 535), (535, .iconst 0, 1, 536), (536, .invokestatic 168, 3, 539), (539, .lastore, 1, 540)] := by unfold jDs; decide +kernel
theorem D_X12_init_11 : jDs cX12_init [(540, .aload_n 0, 1, 541), (541, .getfield 34, 3, 544), (544, .bipush 6, 2, 546), (546, .bipush 115, 2, 548), (548, .bipush 101, 2, 550), (550, .bipush 101, 2, 552), (552, .bipush 100, 2, 554), (554, .iconst 0, 1, 555), (555, .iconst 0, 1, 556), (556, .iconst 0, 1, 557), (557, .invokestatic 168, 3, 560), (560, .lastore, 1, 561), (561, .aload_n 0, 1, 562), (562, .getfield 34, 3, 565), (565, .bipush 7, 2, 567), (567, .bipush 105, 2, 569), (569, .bipush 102, 2, 571), (571, .iconst 0, 1, 572), (572, .iconst 0, 1, 573), (573, .iconst 0, 1, 574), (574, .iconst 0, 1, 575), (575, .iconst 0, 1, 576), (576, .invokestatic 168, 3, 579), (579, .lastore, 1, 580), (580, .aload_n 0, 1, 581)] := by unfold jDs; decide +kernel
theorem D_X12_init_12 : jDs cX12_init [(581, .getfield 34, 3, 584), (584, .bipush 8, 2, 586), (586, .bipush 116, 2, 588), (588, .bipush 104, 2, 590), (590, .bipush 101, 2, 592), (592, .bipush 110, 2, 594), (594, .iconst 0, 1, 595), (595, .iconst 0, 1, 596), (596, .iconst 0, 1, 597), (597, .invokestatic 168, 3, 600), (600, .lastore, 1, 601), (601, .aload_n 0, 1, 602), (602, .getfield 34, 3, 605), (605, .bipush 9, 2, 607), (607, .bipush 101, 2, 609), (609, .bipush 108, 2, 611), (611, .bipush 115, 2, 613), (613, .bipush 101, 2, 615), (615, .iconst 0, 1, 616), (616, .iconst 0, 1, 617), (617, .iconst 0, 1, 618), (618, .invokestatic 168, 3, 621), (621, .lastore, 1, 622), (622, .aload_n 0, 1, 623), (623, .getfield 34, 3, 626)] := by unfold jDs; decide +kernel
theorem D_X12_init_13 : jDs cX12_init [(626, .bipush 10, 2, 628), (628, .bipush 97, 2, 630), (630, .bipush 99, 2, 632), (632, .bipush 114, 2, 634), (634, .bipush 111, 2, 636), (636, .bipush 115, 2, 638), (638, .bipush 115, 2, 640), (640, .iconst 0, 1, 641), (641, .invokestatic 168, 3, 644), (644, .lastore, 1, 645), (645, .aload_n 0, 1, 646), (646, .getfield 34, 3, 649), (649, .bipush 11, 2, 651), (651, .bipush 108, 2, 653), (653, .bipush 101, 2, 655), (655, .bipush 102, 2, 657), (657, .bipush 116, 2, 659), (659, .iconst 0, 1, 660), (660, .iconst 0, 1, 661), (661, .iconst 0, 1, 662), (662, .invokestatic 168, 3, 665), (665, .lastore, 1, 666), (666, .aload_n 0, 1, 667), (667, .getfield 34, 3, 670), (670, .bipush 12, 2, 672)] := by unfold jDs; decide +kernel
theorem D_X12_init_14 : jDs cX12_init [(672, .bipush 116, 2, 674), (674, .bipush 111, 2, 676), (676, .bipush 112, 2, 678), (678, .iconst 0, 1, 679), (679, .iconst 0, 1, 680), (680, .iconst 0, 1, 681), (681, .iconst 0, 1, 682), (682, .invokestatic 168, 3, 685), (685, .lastore, 1, 686), (686, .aload_n 0, 1, 687), (687, .getfield 34, 3, 690), (690, .bipush 13, 2, 692), (692, .bipush 116, 2, 694), (694, .bipush 117, 2, 696), (696, .bipush 114, 2, 698), (698, .bipush 110, 2, 700), (700, .bipush 101, 2, 702), (702, .bipush 100, 2, 704), (704, .iconst 0, 1, 705), (705, .invokestatic 168, 3, 708), (708, .lastore, 1, 709), (709, .aload_n 0, 1, 710), (710, .getfield 34, 3, 713), (713, .bipush 14, 2, 715), (715, .bipush 97, 2, 717)] := by unfold jDs; decide +kernel
theorem D_X12_init_15 : jDs cX12_init [(717, .bipush 103, 2, 719), (719, .bipush 101, 2, 721), (721, .iconst 0, 1, 722), (722, .iconst 0, 1, 723), (723, .iconst 0, 1, 724), (724, .iconst 0, 1, 725), (725, .invokestatic 168, 3, 728), (728, .lastore, 1, 729), (729, .aload_n 0, 1, 730), (730, .getfield 34, 3, 733), (733, .bipush 15, 2, 735), (735, .bipush 115, 2, 737), (737, .bipush 101, 2, 739), (739, .bipush 97, 2, 741), (741, .bipush 115, 2, 743), (743, .bipush 111, 2, 745), (745, .bipush 110, 2, 747), (747, .iconst 0, 1, 748), (748, .invokestatic 168, 3, 751), (751, .lastore, 1, 752), (752, .aload_n 0, 1, 753), (753, .getfield 34, 3, 756), (756, .bipush 16, 2, 758), (758, .bipush 119, 2, 760), (760, .bipush 104, 2, 762)] := by unfold jDs; decide +kernel
theorem D_X12_init_16 : jDs cX12_init [(762, .bipush 105, 2, 764), (764, .bipush 99, 2, 766), (766, .bipush 104, 2, 768), (768, .iconst 0, 1, 769), (769, .iconst 0, 1, 770), (770, .invokestatic 168, 3, 773), (773, .lastore, 1, 774), (774, .aload_n 0, 1, 775), (775, .getfield 34, 3, 778), (778, .bipush 17, 2, 780), (780, .bipush 115, 2, 782), (782, .bipush 116, 2, 784), (784, .bipush 111, 2, 786), (786, .bipush 110, 2, 788), (788, .bipush 101, 2, 790), (790, .bipush 115, 2, 792), (792, .iconst 0, 1, 793), (793, .invokestatic 168, 3, 796), (796, .lastore, 1, 797), (797, .aload_n 0, 1, 798), (798, .getfield 34, 3, 801), (801, .bipush 18, 2, 803), (803, .bipush 104, 2, 805), (805, .bipush 111, 2, 807), (807, .bipush 108, 2, 809)] := by unfold jDs; decide +kernel
theorem D_X12_init_17 : jDs cX12_init [(809, .bipush 101, 2, 811), (811, .bipush 115, 2, 813), (813, .iconst 0, 1, 814), (814, .iconst 0, 1, 815), (815, .invokestatic 168, 3, 818), (818, .lastore, 1, 819), (819, .aload_n 0, 1, 820), (820, .invokevirtual 172, 3, 823), (823, .aload_n 0, 1, 824), (824, .invokevirtual 175, 3, 827), (827, .return_, 1, 828)] := by unfold jDs; decide +kernel
set_option maxRecDepth 100000 in
set_option maxHeartbeats 4000000 in
theorem c_X12_init {E : jE} {th : Nat} {M : jMem} {r : Int} {M' : jMem} (h : f_X12_init th M = some (r, M')) : jMet E yX12_init cX12_init 1 (none) 4 48 17750 [q_r E th] M (none) M' := by
  unfold f_X12_init at h
  refine jMet.of RX12 rfl (by decide +kernel) (Nat.le_of_ble_eq_true rfl) [(0, q_r E th)] rfl (fun X hC hE hr hn => ?_)
  refine jr_aload_n hC (D_X12_init_0.g 0 rfl) 0 rfl ?_
  refine jr_objInit hC (jt_all [1339, 152, 153] (by decide +kernel) (by decide +kernel)) (D_X12_init_0.g 1 rfl) (by decide) (Nat.le_of_ble_eq_true rfl) ?_
  refine jr_aload_n hC (D_X12_init_0.g 2 rfl) 0 rfl ?_
  refine jr_sipush hC (D_X12_init_0.g 3 rfl) sp_2000 ?_
  refine jr_newa hC 21 1 2000 rfl (by decide) rfl (by decide +kernel) (by decide +kernel) (jt_in (i := 170) (by decide +kernel) rfl) (D_X12_init_0.g 4 rfl) ⟨Nat.le_of_ble_eq_true rfl, Nat.le_of_ble_eq_true rfl⟩ 1 2000 rfl rfl h (fun q1 M2 h => ?_)
  refine jr_putR hC fl_X12_13 rfl (jyfin rfl hn) (D_X12_init_0.g 5 rfl) h (fun M3 _ h => ?_)
  refine jr_aload_n hC (D_X12_init_0.g 6 rfl) 0 rfl ?_
  refine jr_sipush hC (D_X12_init_0.g 7 rfl) sp_2000 ?_
  refine jr_newa hC 21 1 2000 rfl (by decide) rfl (by decide +kernel) (by decide +kernel) (jt_in (i := 170) (by decide +kernel) rfl) (D_X12_init_0.g 8 rfl) ⟨Nat.le_of_ble_eq_true rfl, Nat.le_of_ble_eq_true rfl⟩ 2 4000 rfl rfl h (fun q4 M5 h => ?_)
  refine jr_putR hC fl_X12_17 rfl (jyfin rfl hn) (D_X12_init_0.g 9 rfl) h (fun M6 _ h => ?_)
  refine jr_aload_n hC (D_X12_init_0.g 10 rfl) 0 rfl ?_
  refine jr_sipush hC (D_X12_init_0.g 11 rfl) sp_403 ?_
  refine jr_newa hC 20 0 403 rfl (by decide) rfl (by decide +kernel) (by decide +kernel) (jt_in (i := 199) (by decide +kernel) rfl) (D_X12_init_0.g 12 rfl) ⟨Nat.le_of_ble_eq_true rfl, Nat.le_of_ble_eq_true rfl⟩ 3 4403 rfl rfl h (fun q7 M8 h => ?_)
  refine jr_putR hC fl_X12_20 rfl (jyfin rfl hn) (D_X12_init_0.g 13 rfl) h (fun M9 _ h => ?_)
  refine jr_aload_n hC (D_X12_init_0.g 14 rfl) 0 rfl ?_
  refine jr_sipush hC (D_X12_init_0.g 15 rfl) sp_403 ?_
  refine jr_newa hC 20 0 403 rfl (by decide) rfl (by decide +kernel) (by decide +kernel) (jt_in (i := 199) (by decide +kernel) rfl) (D_X12_init_0.g 16 rfl) ⟨Nat.le_of_ble_eq_true rfl, Nat.le_of_ble_eq_true rfl⟩ 4 4806 rfl rfl h (fun q10 M11 h => ?_)
  refine jr_putR hC fl_X12_24 rfl (jyfin rfl hn) (D_X12_init_0.g 17 rfl) h (fun M12 _ h => ?_)
  refine jr_aload_n hC (D_X12_init_0.g 18 rfl) 0 rfl ?_
  refine jr_sipush hC (D_X12_init_0.g 19 rfl) sp_403 ?_
  refine jr_newa hC 20 0 403 rfl (by decide) rfl (by decide +kernel) (by decide +kernel) (jt_in (i := 199) (by decide +kernel) rfl) (D_X12_init_0.g 20 rfl) ⟨Nat.le_of_ble_eq_true rfl, Nat.le_of_ble_eq_true rfl⟩ 5 5209 rfl rfl h (fun q13 M14 h => ?_)
  refine jr_putR hC fl_X12_27 rfl (jyfin rfl hn) (D_X12_init_0.g 21 rfl) h (fun M15 _ h => ?_)
  refine jr_aload_n hC (D_X12_init_0.g 22 rfl) 0 rfl ?_
  refine jr_sipush hC (D_X12_init_0.g 23 rfl) sp_403 ?_
  refine jr_newa hC 23 3 403 rfl (by decide) rfl (by decide +kernel) (by decide +kernel) (jt_in (i := 1567) (by decide +kernel) rfl) (D_X12_init_0.g 24 rfl) ⟨Nat.le_of_ble_eq_true rfl, Nat.le_of_ble_eq_true rfl⟩ 6 5612 rfl rfl h (fun q16 M17 h => ?_)
  refine jr_putR hC fl_X12_30 rfl (jyfin rfl hn) (D_X12_init_1.g 0 rfl) h (fun M18 _ h => ?_)
  refine jr_aload_n hC (D_X12_init_1.g 1 rfl) 0 rfl ?_
  refine jr_bipush hC (D_X12_init_1.g 2 rfl) bp_19 ?_
  refine jr_newa hC 23 3 19 rfl (by decide) rfl (by decide +kernel) (by decide +kernel) (jt_in (i := 1567) (by decide +kernel) rfl) (D_X12_init_1.g 3 rfl) ⟨Nat.le_of_ble_eq_true rfl, Nat.le_of_ble_eq_true rfl⟩ 7 5631 rfl rfl h (fun q19 M20 h => ?_)
  refine jr_putR hC fl_X12_34 rfl (jyfin rfl hn) (D_X12_init_1.g 4 rfl) h (fun M21 _ h => ?_)
  refine jr_aload_n hC (D_X12_init_1.g 5 rfl) 0 rfl ?_
  refine jr_iconst hC (D_X12_init_1.g 6 rfl) ?_
  refine jr_putI hC fl_X12_37 rfl (jnfin rfl) (D_X12_init_1.g 7 rfl) h (fun M22 _ h => ?_)
  refine jr_aload_n hC (D_X12_init_1.g 8 rfl) 0 rfl ?_
  refine jr_iconst hC (D_X12_init_1.g 9 rfl) ?_
  refine jr_newa hC 20 0 2 rfl (by decide) rfl (by decide +kernel) (by decide +kernel) (jt_in (i := 199) (by decide +kernel) rfl) (D_X12_init_1.g 10 rfl) ⟨Nat.le_of_ble_eq_true rfl, Nat.le_of_ble_eq_true rfl⟩ 8 5633 rfl rfl h (fun q23 M24 h => ?_)
  refine jr_putR hC fl_X12_40 rfl (jyfin rfl hn) (D_X12_init_1.g 11 rfl) h (fun M25 _ h => ?_)
  refine jr_aload_n hC (D_X12_init_1.g 12 rfl) 0 rfl ?_
  refine jr_iconst hC (D_X12_init_1.g 13 rfl) ?_
  refine jr_newa hC 20 0 2 rfl (by decide) rfl (by decide +kernel) (by decide +kernel) (jt_in (i := 199) (by decide +kernel) rfl) (D_X12_init_1.g 14 rfl) ⟨Nat.le_of_ble_eq_true rfl, Nat.le_of_ble_eq_true rfl⟩ 9 5635 rfl rfl h (fun q26 M27 h => ?_)
  refine jr_putR hC fl_X12_43 rfl (jyfin rfl hn) (D_X12_init_1.g 15 rfl) h (fun M28 _ h => ?_)
  refine jr_aload_n hC (D_X12_init_1.g 16 rfl) 0 rfl ?_
  refine jr_iconst hC (D_X12_init_1.g 17 rfl) ?_
  refine jr_newa hC 20 0 2 rfl (by decide) rfl (by decide +kernel) (by decide +kernel) (jt_in (i := 199) (by decide +kernel) rfl) (D_X12_init_1.g 18 rfl) ⟨Nat.le_of_ble_eq_true rfl, Nat.le_of_ble_eq_true rfl⟩ 10 5637 rfl rfl h (fun q29 M30 h => ?_)
  refine jr_putR hC fl_X12_46 rfl (jyfin rfl hn) (D_X12_init_1.g 19 rfl) h (fun M31 _ h => ?_)
  refine jr_aload_n hC (D_X12_init_1.g 20 rfl) 0 rfl ?_
  refine jr_bipush hC (D_X12_init_1.g 21 rfl) bp_24 ?_
  refine jr_newa hC 20 0 24 rfl (by decide) rfl (by decide +kernel) (by decide +kernel) (jt_in (i := 199) (by decide +kernel) rfl) (D_X12_init_1.g 22 rfl) ⟨Nat.le_of_ble_eq_true rfl, Nat.le_of_ble_eq_true rfl⟩ 11 5661 rfl rfl h (fun q32 M33 h => ?_)
  refine jr_putR hC fl_X12_49 rfl (jyfin rfl hn) (D_X12_init_1.g 23 rfl) h (fun M34 _ h => ?_)
  refine jr_aload_n hC (D_X12_init_1.g 24 rfl) 0 rfl ?_
  refine jr_bipush hC (D_X12_init_2.g 0 rfl) bp_24 ?_
  refine jr_newa hC 20 0 24 rfl (by decide) rfl (by decide +kernel) (by decide +kernel) (jt_in (i := 199) (by decide +kernel) rfl) (D_X12_init_2.g 1 rfl) ⟨Nat.le_of_ble_eq_true rfl, Nat.le_of_ble_eq_true rfl⟩ 12 5685 rfl rfl h (fun q35 M36 h => ?_)
  refine jr_putR hC fl_X12_52 rfl (jyfin rfl hn) (D_X12_init_2.g 2 rfl) h (fun M37 _ h => ?_)
  refine jr_aload_n hC (D_X12_init_2.g 3 rfl) 0 rfl ?_
  refine jr_iconst hC (D_X12_init_2.g 4 rfl) ?_
  refine jr_newa hC 20 0 2 rfl (by decide) rfl (by decide +kernel) (by decide +kernel) (jt_in (i := 199) (by decide +kernel) rfl) (D_X12_init_2.g 5 rfl) ⟨Nat.le_of_ble_eq_true rfl, Nat.le_of_ble_eq_true rfl⟩ 13 5687 rfl rfl h (fun q38 M39 h => ?_)
  refine jr_putR hC fl_X12_55 rfl (jyfin rfl hn) (D_X12_init_2.g 6 rfl) h (fun M40 _ h => ?_)
  refine jr_aload_n hC (D_X12_init_2.g 7 rfl) 0 rfl ?_
  refine jr_bipush hC (D_X12_init_2.g 8 rfl) bp_36 ?_
  refine jr_newa hC 20 0 36 rfl (by decide) rfl (by decide +kernel) (by decide +kernel) (jt_in (i := 199) (by decide +kernel) rfl) (D_X12_init_2.g 9 rfl) ⟨Nat.le_of_ble_eq_true rfl, Nat.le_of_ble_eq_true rfl⟩ 14 5723 rfl rfl h (fun q41 M42 h => ?_)
  refine jr_putR hC fl_X12_58 rfl (jyfin rfl hn) (D_X12_init_2.g 10 rfl) h (fun M43 _ h => ?_)
  refine jr_aload_n hC (D_X12_init_2.g 11 rfl) 0 rfl ?_
  refine jr_bipush hC (D_X12_init_2.g 12 rfl) bp_36 ?_
  refine jr_newa hC 20 0 36 rfl (by decide) rfl (by decide +kernel) (by decide +kernel) (jt_in (i := 199) (by decide +kernel) rfl) (D_X12_init_2.g 13 rfl) ⟨Nat.le_of_ble_eq_true rfl, Nat.le_of_ble_eq_true rfl⟩ 15 5759 rfl rfl h (fun q44 M45 h => ?_)
  refine jr_putR hC fl_X12_61 rfl (jyfin rfl hn) (D_X12_init_2.g 14 rfl) h (fun M46 _ h => ?_)
  refine jr_aload_n hC (D_X12_init_2.g 15 rfl) 0 rfl ?_
  refine jr_bipush hC (D_X12_init_2.g 16 rfl) bp_36 ?_
  refine jr_newa hC 20 0 36 rfl (by decide) rfl (by decide +kernel) (by decide +kernel) (jt_in (i := 199) (by decide +kernel) rfl) (D_X12_init_2.g 17 rfl) ⟨Nat.le_of_ble_eq_true rfl, Nat.le_of_ble_eq_true rfl⟩ 16 5795 rfl rfl h (fun q47 M48 h => ?_)
  refine jr_putR hC fl_X12_64 rfl (jyfin rfl hn) (D_X12_init_2.g 18 rfl) h (fun M49 _ h => ?_)
  refine jr_aload_n hC (D_X12_init_2.g 19 rfl) 0 rfl ?_
  refine jr_iconst hC (D_X12_init_2.g 20 rfl) ?_
  refine jr_newa hC 20 0 2 rfl (by decide) rfl (by decide +kernel) (by decide +kernel) (jt_in (i := 199) (by decide +kernel) rfl) (D_X12_init_2.g 21 rfl) ⟨Nat.le_of_ble_eq_true rfl, Nat.le_of_ble_eq_true rfl⟩ 17 5797 rfl rfl h (fun q50 M51 h => ?_)
  refine jr_putR hC fl_X12_67 rfl (jyfin rfl hn) (D_X12_init_2.g 22 rfl) h (fun M52 _ h => ?_)
  refine jr_aload_n hC (D_X12_init_2.g 23 rfl) 0 rfl ?_
  refine jr_bipush hC (D_X12_init_2.g 24 rfl) bp_6 ?_
  refine jr_newa hC 20 0 6 rfl (by decide) rfl (by decide +kernel) (by decide +kernel) (jt_in (i := 199) (by decide +kernel) rfl) (D_X12_init_3.g 0 rfl) ⟨Nat.le_of_ble_eq_true rfl, Nat.le_of_ble_eq_true rfl⟩ 18 5803 rfl rfl h (fun q53 M54 h => ?_)
  refine jr_putR hC fl_X12_70 rfl (jyfin rfl hn) (D_X12_init_3.g 1 rfl) h (fun M55 _ h => ?_)
  refine jr_aload_n hC (D_X12_init_3.g 2 rfl) 0 rfl ?_
  refine jr_bipush hC (D_X12_init_3.g 3 rfl) bp_6 ?_
  refine jr_newa hC 20 0 6 rfl (by decide) rfl (by decide +kernel) (by decide +kernel) (jt_in (i := 199) (by decide +kernel) rfl) (D_X12_init_3.g 4 rfl) ⟨Nat.le_of_ble_eq_true rfl, Nat.le_of_ble_eq_true rfl⟩ 19 5809 rfl rfl h (fun q56 M57 h => ?_)
  refine jr_putR hC fl_X12_73 rfl (jyfin rfl hn) (D_X12_init_3.g 5 rfl) h (fun M58 _ h => ?_)
  refine jr_aload_n hC (D_X12_init_3.g 6 rfl) 0 rfl ?_
  refine jr_sipush hC (D_X12_init_3.g 7 rfl) sp_260 ?_
  refine jr_newa hC 22 2 260 rfl (by decide) rfl (by decide +kernel) (by decide +kernel) (jt_in (i := 200) (by decide +kernel) rfl) (D_X12_init_3.g 8 rfl) ⟨Nat.le_of_ble_eq_true rfl, Nat.le_of_ble_eq_true rfl⟩ 20 6069 rfl rfl h (fun q59 M60 h => ?_)
  refine jr_putR hC fl_X12_76 rfl (jyfin rfl hn) (D_X12_init_3.g 9 rfl) h (fun M61 _ h => ?_)
  refine jr_aload_n hC (D_X12_init_3.g 10 rfl) 0 rfl ?_
  refine jr_sipush hC (D_X12_init_3.g 11 rfl) sp_260 ?_
  refine jr_newa hC 20 0 260 rfl (by decide) rfl (by decide +kernel) (by decide +kernel) (jt_in (i := 199) (by decide +kernel) rfl) (D_X12_init_3.g 12 rfl) ⟨Nat.le_of_ble_eq_true rfl, Nat.le_of_ble_eq_true rfl⟩ 21 6329 rfl rfl h (fun q62 M63 h => ?_)
  refine jr_putR hC fl_X12_80 rfl (jyfin rfl hn) (D_X12_init_3.g 13 rfl) h (fun M64 _ h => ?_)
  refine jr_aload_n hC (D_X12_init_3.g 14 rfl) 0 rfl ?_
  refine jr_sipush hC (D_X12_init_3.g 15 rfl) sp_260 ?_
  refine jr_newa hC 20 0 260 rfl (by decide) rfl (by decide +kernel) (by decide +kernel) (jt_in (i := 199) (by decide +kernel) rfl) (D_X12_init_3.g 16 rfl) ⟨Nat.le_of_ble_eq_true rfl, Nat.le_of_ble_eq_true rfl⟩ 22 6589 rfl rfl h (fun q65 M66 h => ?_)
  refine jr_putR hC fl_X12_83 rfl (jyfin rfl hn) (D_X12_init_3.g 17 rfl) h (fun M67 _ h => ?_)
  refine jr_aload_n hC (D_X12_init_3.g 18 rfl) 0 rfl ?_
  refine jr_sipush hC (D_X12_init_3.g 19 rfl) sp_260 ?_
  refine jr_newa hC 20 0 260 rfl (by decide) rfl (by decide +kernel) (by decide +kernel) (jt_in (i := 199) (by decide +kernel) rfl) (D_X12_init_3.g 20 rfl) ⟨Nat.le_of_ble_eq_true rfl, Nat.le_of_ble_eq_true rfl⟩ 23 6849 rfl rfl h (fun q68 M69 h => ?_)
  refine jr_putR hC fl_X12_86 rfl (jyfin rfl hn) (D_X12_init_3.g 21 rfl) h (fun M70 _ h => ?_)
  refine jr_aload_n hC (D_X12_init_3.g 22 rfl) 0 rfl ?_
  refine jr_sipush hC (D_X12_init_3.g 23 rfl) sp_260 ?_
  refine jr_newa hC 20 0 260 rfl (by decide) rfl (by decide +kernel) (by decide +kernel) (jt_in (i := 199) (by decide +kernel) rfl) (D_X12_init_3.g 24 rfl) ⟨Nat.le_of_ble_eq_true rfl, Nat.le_of_ble_eq_true rfl⟩ 24 7109 rfl rfl h (fun q71 M72 h => ?_)
  refine jr_putR hC fl_X12_89 rfl (jyfin rfl hn) (D_X12_init_4.g 0 rfl) h (fun M73 _ h => ?_)
  refine jr_aload_n hC (D_X12_init_4.g 1 rfl) 0 rfl ?_
  refine jr_sipush hC (D_X12_init_4.g 2 rfl) sp_840 ?_
  refine jr_newa hC 20 0 840 rfl (by decide) rfl (by decide +kernel) (by decide +kernel) (jt_in (i := 199) (by decide +kernel) rfl) (D_X12_init_4.g 3 rfl) ⟨Nat.le_of_ble_eq_true rfl, Nat.le_of_ble_eq_true rfl⟩ 25 7949 rfl rfl h (fun q74 M75 h => ?_)
  refine jr_putR hC fl_X12_92 rfl (jyfin rfl hn) (D_X12_init_4.g 4 rfl) h (fun M76 _ h => ?_)
  refine jr_aload_n hC (D_X12_init_4.g 5 rfl) 0 rfl ?_
  refine jr_sipush hC (D_X12_init_4.g 6 rfl) sp_840 ?_
  refine jr_newa hC 20 0 840 rfl (by decide) rfl (by decide +kernel) (by decide +kernel) (jt_in (i := 199) (by decide +kernel) rfl) (D_X12_init_4.g 7 rfl) ⟨Nat.le_of_ble_eq_true rfl, Nat.le_of_ble_eq_true rfl⟩ 26 8789 rfl rfl h (fun q77 M78 h => ?_)
  refine jr_putR hC fl_X12_95 rfl (jyfin rfl hn) (D_X12_init_4.g 8 rfl) h (fun M79 _ h => ?_)
  refine jr_aload_n hC (D_X12_init_4.g 9 rfl) 0 rfl ?_
  refine jr_bipush hC (D_X12_init_4.g 10 rfl) bp_36 ?_
  refine jr_newa hC 22 2 36 rfl (by decide) rfl (by decide +kernel) (by decide +kernel) (jt_in (i := 200) (by decide +kernel) rfl) (D_X12_init_4.g 11 rfl) ⟨Nat.le_of_ble_eq_true rfl, Nat.le_of_ble_eq_true rfl⟩ 27 8825 rfl rfl h (fun q80 M81 h => ?_)
  refine jr_putR hC fl_X12_98 rfl (jyfin rfl hn) (D_X12_init_4.g 12 rfl) h (fun M82 _ h => ?_)
  refine jr_aload_n hC (D_X12_init_4.g 13 rfl) 0 rfl ?_
  refine jr_bipush hC (D_X12_init_4.g 14 rfl) bp_64 ?_
  refine jr_newa hC 20 0 64 rfl (by decide) rfl (by decide +kernel) (by decide +kernel) (jt_in (i := 199) (by decide +kernel) rfl) (D_X12_init_4.g 15 rfl) ⟨Nat.le_of_ble_eq_true rfl, Nat.le_of_ble_eq_true rfl⟩ 28 8889 rfl rfl h (fun q83 M84 h => ?_)
  refine jr_putR hC fl_X12_101 rfl (jyfin rfl hn) (D_X12_init_4.g 16 rfl) h (fun M85 _ h => ?_)
  refine jr_aload_n hC (D_X12_init_4.g 17 rfl) 0 rfl ?_
  refine jr_bipush hC (D_X12_init_4.g 18 rfl) bp_9 ?_
  refine jr_newa hC 20 0 9 rfl (by decide) rfl (by decide +kernel) (by decide +kernel) (jt_in (i := 199) (by decide +kernel) rfl) (D_X12_init_4.g 19 rfl) ⟨Nat.le_of_ble_eq_true rfl, Nat.le_of_ble_eq_true rfl⟩ 29 8898 rfl rfl h (fun q86 M87 h => ?_)
  refine jr_putR hC fl_X12_104 rfl (jyfin rfl hn) (D_X12_init_4.g 20 rfl) h (fun M88 _ h => ?_)
  refine jr_aload_n hC (D_X12_init_4.g 21 rfl) 0 rfl ?_
  refine jr_sipush hC (D_X12_init_4.g 22 rfl) sp_400 ?_
  refine jr_newa hC 20 0 400 rfl (by decide) rfl (by decide +kernel) (by decide +kernel) (jt_in (i := 199) (by decide +kernel) rfl) (D_X12_init_4.g 23 rfl) ⟨Nat.le_of_ble_eq_true rfl, Nat.le_of_ble_eq_true rfl⟩ 30 9298 rfl rfl h (fun q89 M90 h => ?_)
  refine jr_putR hC fl_X12_107 rfl (jyfin rfl hn) (D_X12_init_4.g 24 rfl) h (fun M91 _ h => ?_)
  refine jr_aload_n hC (D_X12_init_5.g 0 rfl) 0 rfl ?_
  refine jr_bipush hC (D_X12_init_5.g 1 rfl) bp_75 ?_
  refine jr_newa hC 20 0 75 rfl (by decide) rfl (by decide +kernel) (by decide +kernel) (jt_in (i := 199) (by decide +kernel) rfl) (D_X12_init_5.g 2 rfl) ⟨Nat.le_of_ble_eq_true rfl, Nat.le_of_ble_eq_true rfl⟩ 31 9373 rfl rfl h (fun q92 M93 h => ?_)
  refine jr_putR hC fl_X12_110 rfl (jyfin rfl hn) (D_X12_init_5.g 3 rfl) h (fun M94 _ h => ?_)
  refine jr_aload_n hC (D_X12_init_5.g 4 rfl) 0 rfl ?_
  refine jr_bipush hC (D_X12_init_5.g 5 rfl) bp_75 ?_
  refine jr_newa hC 20 0 75 rfl (by decide) rfl (by decide +kernel) (by decide +kernel) (jt_in (i := 199) (by decide +kernel) rfl) (D_X12_init_5.g 6 rfl) ⟨Nat.le_of_ble_eq_true rfl, Nat.le_of_ble_eq_true rfl⟩ 32 9448 rfl rfl h (fun q95 M96 h => ?_)
  refine jr_putR hC fl_X12_113 rfl (jyfin rfl hn) (D_X12_init_5.g 7 rfl) h (fun M97 _ h => ?_)
  refine jr_aload_n hC (D_X12_init_5.g 8 rfl) 0 rfl ?_
  refine jr_bipush hC (D_X12_init_5.g 9 rfl) bp_36 ?_
  refine jr_newa hC 22 2 36 rfl (by decide) rfl (by decide +kernel) (by decide +kernel) (jt_in (i := 200) (by decide +kernel) rfl) (D_X12_init_5.g 10 rfl) ⟨Nat.le_of_ble_eq_true rfl, Nat.le_of_ble_eq_true rfl⟩ 33 9484 rfl rfl h (fun q98 M99 h => ?_)
  refine jr_putR hC fl_X12_116 rfl (jyfin rfl hn) (D_X12_init_5.g 11 rfl) h (fun M100 _ h => ?_)
  refine jr_aload_n hC (D_X12_init_5.g 12 rfl) 0 rfl ?_
  refine jr_iconst hC (D_X12_init_5.g 13 rfl) ?_
  refine jr_newa hC 20 0 2 rfl (by decide) rfl (by decide +kernel) (by decide +kernel) (jt_in (i := 199) (by decide +kernel) rfl) (D_X12_init_5.g 14 rfl) ⟨Nat.le_of_ble_eq_true rfl, Nat.le_of_ble_eq_true rfl⟩ 34 9486 rfl rfl h (fun q101 M102 h => ?_)
  refine jr_putR hC fl_X12_119 rfl (jyfin rfl hn) (D_X12_init_5.g 15 rfl) h (fun M103 _ h => ?_)
  refine jr_aload_n hC (D_X12_init_5.g 16 rfl) 0 rfl ?_
  refine jr_bipush hC (D_X12_init_5.g 17 rfl) bp_18 ?_
  refine jr_newa hC 22 2 18 rfl (by decide) rfl (by decide +kernel) (by decide +kernel) (jt_in (i := 200) (by decide +kernel) rfl) (D_X12_init_5.g 18 rfl) ⟨Nat.le_of_ble_eq_true rfl, Nat.le_of_ble_eq_true rfl⟩ 35 9504 rfl rfl h (fun q104 M105 h => ?_)
  refine jr_putR hC fl_X12_122 rfl (jyfin rfl hn) (D_X12_init_5.g 19 rfl) h (fun M106 _ h => ?_)
  refine jr_aload_n hC (D_X12_init_5.g 20 rfl) 0 rfl ?_
  refine jr_sipush hC (D_X12_init_5.g 21 rfl) sp_3000 ?_
  refine jr_newa hC 20 0 3000 rfl (by decide) rfl (by decide +kernel) (by decide +kernel) (jt_in (i := 199) (by decide +kernel) rfl) (D_X12_init_5.g 22 rfl) ⟨Nat.le_of_ble_eq_true rfl, Nat.le_of_ble_eq_true rfl⟩ 36 12504 rfl rfl h (fun q107 M108 h => ?_)
  refine jr_putR hC fl_X12_125 rfl (jyfin rfl hn) (D_X12_init_5.g 23 rfl) h (fun M109 _ h => ?_)
  refine jr_aload_n hC (D_X12_init_5.g 24 rfl) 0 rfl ?_
  refine jr_sipush hC (D_X12_init_6.g 0 rfl) sp_2368 ?_
  refine jr_newa hC 20 0 2368 rfl (by decide) rfl (by decide +kernel) (by decide +kernel) (jt_in (i := 199) (by decide +kernel) rfl) (D_X12_init_6.g 1 rfl) ⟨Nat.le_of_ble_eq_true rfl, Nat.le_of_ble_eq_true rfl⟩ 37 14872 rfl rfl h (fun q110 M111 h => ?_)
  refine jr_putR hC fl_X12_128 rfl (jyfin rfl hn) (D_X12_init_6.g 2 rfl) h (fun M112 _ h => ?_)
  refine jr_aload_n hC (D_X12_init_6.g 3 rfl) 0 rfl ?_
  refine jr_sipush hC (D_X12_init_6.g 4 rfl) sp_2368 ?_
  refine jr_newa hC 20 0 2368 rfl (by decide) rfl (by decide +kernel) (by decide +kernel) (jt_in (i := 199) (by decide +kernel) rfl) (D_X12_init_6.g 5 rfl) ⟨Nat.le_of_ble_eq_true rfl, Nat.le_of_ble_eq_true rfl⟩ 38 17240 rfl rfl h (fun q113 M114 h => ?_)
  refine jr_putR hC fl_X12_131 rfl (jyfin rfl hn) (D_X12_init_6.g 6 rfl) h (fun M115 _ h => ?_)
  refine jr_aload_n hC (D_X12_init_6.g 7 rfl) 0 rfl ?_
  refine jr_bipush hC (D_X12_init_6.g 8 rfl) bp_36 ?_
  refine jr_newa hC 22 2 36 rfl (by decide) rfl (by decide +kernel) (by decide +kernel) (jt_in (i := 200) (by decide +kernel) rfl) (D_X12_init_6.g 9 rfl) ⟨Nat.le_of_ble_eq_true rfl, Nat.le_of_ble_eq_true rfl⟩ 39 17276 rfl rfl h (fun q116 M117 h => ?_)
  refine jr_putR hC fl_X12_134 rfl (jyfin rfl hn) (D_X12_init_6.g 10 rfl) h (fun M118 _ h => ?_)
  refine jr_aload_n hC (D_X12_init_6.g 11 rfl) 0 rfl ?_
  refine jr_bipush hC (D_X12_init_6.g 12 rfl) bp_36 ?_
  refine jr_newa hC 22 2 36 rfl (by decide) rfl (by decide +kernel) (by decide +kernel) (jt_in (i := 200) (by decide +kernel) rfl) (D_X12_init_6.g 13 rfl) ⟨Nat.le_of_ble_eq_true rfl, Nat.le_of_ble_eq_true rfl⟩ 40 17312 rfl rfl h (fun q119 M120 h => ?_)
  refine jr_putR hC fl_X12_137 rfl (jyfin rfl hn) (D_X12_init_6.g 14 rfl) h (fun M121 _ h => ?_)
  refine jr_aload_n hC (D_X12_init_6.g 15 rfl) 0 rfl ?_
  refine jr_bipush hC (D_X12_init_6.g 16 rfl) bp_36 ?_
  refine jr_newa hC 22 2 36 rfl (by decide) rfl (by decide +kernel) (by decide +kernel) (jt_in (i := 200) (by decide +kernel) rfl) (D_X12_init_6.g 17 rfl) ⟨Nat.le_of_ble_eq_true rfl, Nat.le_of_ble_eq_true rfl⟩ 41 17348 rfl rfl h (fun q122 M123 h => ?_)
  refine jr_putR hC fl_X12_140 rfl (jyfin rfl hn) (D_X12_init_6.g 18 rfl) h (fun M124 _ h => ?_)
  refine jr_aload_n hC (D_X12_init_6.g 19 rfl) 0 rfl ?_
  refine jr_bipush hC (D_X12_init_6.g 20 rfl) bp_36 ?_
  refine jr_newa hC 20 0 36 rfl (by decide) rfl (by decide +kernel) (by decide +kernel) (jt_in (i := 199) (by decide +kernel) rfl) (D_X12_init_6.g 21 rfl) ⟨Nat.le_of_ble_eq_true rfl, Nat.le_of_ble_eq_true rfl⟩ 42 17384 rfl rfl h (fun q125 M126 h => ?_)
  refine jr_putR hC fl_X12_143 rfl (jyfin rfl hn) (D_X12_init_6.g 22 rfl) h (fun M127 _ h => ?_)
  refine jr_aload_n hC (D_X12_init_6.g 23 rfl) 0 rfl ?_
  refine jr_bipush hC (D_X12_init_6.g 24 rfl) bp_49 ?_
  refine jr_newa hC 20 0 49 rfl (by decide) rfl (by decide +kernel) (by decide +kernel) (jt_in (i := 199) (by decide +kernel) rfl) (D_X12_init_7.g 0 rfl) ⟨Nat.le_of_ble_eq_true rfl, Nat.le_of_ble_eq_true rfl⟩ 43 17433 rfl rfl h (fun q128 M129 h => ?_)
  refine jr_putR hC fl_X12_146 rfl (jyfin rfl hn) (D_X12_init_7.g 1 rfl) h (fun M130 _ h => ?_)
  refine jr_aload_n hC (D_X12_init_7.g 2 rfl) 0 rfl ?_
  refine jr_bipush hC (D_X12_init_7.g 3 rfl) bp_49 ?_
  refine jr_newa hC 20 0 49 rfl (by decide) rfl (by decide +kernel) (by decide +kernel) (jt_in (i := 199) (by decide +kernel) rfl) (D_X12_init_7.g 4 rfl) ⟨Nat.le_of_ble_eq_true rfl, Nat.le_of_ble_eq_true rfl⟩ 44 17482 rfl rfl h (fun q131 M132 h => ?_)
  refine jr_putR hC fl_X12_149 rfl (jyfin rfl hn) (D_X12_init_7.g 5 rfl) h (fun M133 _ h => ?_)
  refine jr_aload_n hC (D_X12_init_7.g 6 rfl) 0 rfl ?_
  refine jr_bipush hC (D_X12_init_7.g 7 rfl) bp_20 ?_
  refine jr_newa hC 20 0 20 rfl (by decide) rfl (by decide +kernel) (by decide +kernel) (jt_in (i := 199) (by decide +kernel) rfl) (D_X12_init_7.g 8 rfl) ⟨Nat.le_of_ble_eq_true rfl, Nat.le_of_ble_eq_true rfl⟩ 45 17502 rfl rfl h (fun q134 M135 h => ?_)
  refine jr_putR hC fl_X12_152 rfl (jyfin rfl hn) (D_X12_init_7.g 9 rfl) h (fun M136 _ h => ?_)
  refine jr_aload_n hC (D_X12_init_7.g 10 rfl) 0 rfl ?_
  refine jr_bipush hC (D_X12_init_7.g 11 rfl) bp_20 ?_
  refine jr_newa hC 22 2 20 rfl (by decide) rfl (by decide +kernel) (by decide +kernel) (jt_in (i := 200) (by decide +kernel) rfl) (D_X12_init_7.g 12 rfl) ⟨Nat.le_of_ble_eq_true rfl, Nat.le_of_ble_eq_true rfl⟩ 46 17522 rfl rfl h (fun q137 M138 h => ?_)
  refine jr_putR hC fl_X12_155 rfl (jyfin rfl hn) (D_X12_init_7.g 13 rfl) h (fun M139 _ h => ?_)
  refine jr_aload_n hC (D_X12_init_7.g 14 rfl) 0 rfl ?_
  refine jr_iconst hC (D_X12_init_7.g 15 rfl) ?_
  refine jr_newa hC 22 2 3 rfl (by decide) rfl (by decide +kernel) (by decide +kernel) (jt_in (i := 200) (by decide +kernel) rfl) (D_X12_init_7.g 16 rfl) ⟨Nat.le_of_ble_eq_true rfl, Nat.le_of_ble_eq_true rfl⟩ 47 17525 rfl rfl h (fun q140 M141 h => ?_)
  refine jr_putR hC fl_X12_158 rfl (jyfin rfl hn) (D_X12_init_7.g 17 rfl) h (fun M142 _ h => ?_)
  refine jr_aload_n hC (D_X12_init_7.g 18 rfl) 0 rfl ?_
  refine jr_sipush hC (D_X12_init_7.g 19 rfl) sp_225 ?_
  refine jr_newa hC 20 0 225 rfl (by decide) rfl (by decide +kernel) (by decide +kernel) (jt_in (i := 199) (by decide +kernel) rfl) (D_X12_init_7.g 20 rfl) ⟨Nat.le_of_ble_eq_true rfl, Nat.le_of_ble_eq_true rfl⟩ 48 17750 rfl rfl h (fun q143 M144 h => ?_)
  refine jr_putR hC fl_X12_161 rfl (jyfin rfl hn) (D_X12_init_7.g 21 rfl) h (fun M145 _ h => ?_)
  refine jr_aload_n hC (D_X12_init_7.g 22 rfl) 0 rfl ?_
  refine jr_iconst hC (D_X12_init_7.g 23 rfl) ?_
  refine jr_cVv hC cl_X12_164 ⟨rfl, by decide⟩ (D_X12_init_7.g 24 rfl) [q_i 0] h (fun r M' e => c_X12_plain e) rfl rfl ⟨by decide, by decide⟩ (Nat.le_of_ble_eq_true rfl) ⟨Nat.le_of_ble_eq_true rfl, Nat.le_of_ble_eq_true rfl⟩ (fun _ M147 h => ?_)
  refine jr_aload_n hC (D_X12_init_8.g 0 rfl) 0 rfl ?_
  refine jr_iconst hC (D_X12_init_8.g 1 rfl) ?_
  refine jr_cVv hC cl_X12_164 ⟨rfl, by decide⟩ (D_X12_init_8.g 2 rfl) [q_i 1] h (fun r M' e => c_X12_plain e) rfl rfl ⟨by decide, by decide⟩ (Nat.le_of_ble_eq_true rfl) ⟨Nat.le_of_ble_eq_true rfl, Nat.le_of_ble_eq_true rfl⟩ (fun _ M149 h => ?_)
  refine jr_aload_n hC (D_X12_init_8.g 3 rfl) 0 rfl ?_
  refine jr_getR hC fl_X12_34 rfl (D_X12_init_8.g 4 rfl) h (fun r150 h => ?_)
  refine jr_iconst hC (D_X12_init_8.g 5 rfl) ?_
  refine jr_bipush hC (D_X12_init_8.g 6 rfl) bp_115 ?_
  refine jr_bipush hC (D_X12_init_8.g 7 rfl) bp_113 ?_
  refine jr_bipush hC (D_X12_init_8.g 8 rfl) bp_117 ?_
  refine jr_bipush hC (D_X12_init_8.g 9 rfl) bp_97 ?_
  refine jr_bipush hC (D_X12_init_8.g 10 rfl) bp_114 ?_
  refine jr_bipush hC (D_X12_init_8.g 11 rfl) bp_101 ?_
  refine jr_iconst hC (D_X12_init_8.g 12 rfl) ?_
  refine jr_cSl hC cl_X12_168 (D_X12_init_8.g 13 rfl) [q_i 115, q_i 113, q_i 117, q_i 97, q_i 114, q_i 101, q_i 0] h (fun r M' e => c_X12_word e) rfl rfl ⟨by decide, by decide⟩ (Nat.le_of_ble_eq_true rfl) ⟨Nat.le_of_ble_eq_true rfl, Nat.le_of_ble_eq_true rfl⟩ (fun v151 M152 h => ?_)
  refine jr_last hC (D_X12_init_8.g 14 rfl) h (fun M153 _ h => ?_)
  refine jr_aload_n hC (D_X12_init_8.g 15 rfl) 0 rfl ?_
  refine jr_getR hC fl_X12_34 rfl (D_X12_init_8.g 16 rfl) h (fun r154 h => ?_)
  refine jr_iconst hC (D_X12_init_8.g 17 rfl) ?_
  refine jr_bipush hC (D_X12_init_8.g 18 rfl) bp_104 ?_
  refine jr_bipush hC (D_X12_init_8.g 19 rfl) bp_111 ?_
  refine jr_bipush hC (D_X12_init_8.g 20 rfl) bp_108 ?_
  refine jr_bipush hC (D_X12_init_8.g 21 rfl) bp_101 ?_
  refine jr_iconst hC (D_X12_init_8.g 22 rfl) ?_
  refine jr_iconst hC (D_X12_init_8.g 23 rfl) ?_
  refine jr_iconst hC (D_X12_init_8.g 24 rfl) ?_
  refine jr_cSl hC cl_X12_168 (D_X12_init_9.g 0 rfl) [q_i 104, q_i 111, q_i 108, q_i 101, q_i 0, q_i 0, q_i 0] h (fun r M' e => c_X12_word e) rfl rfl ⟨by decide, by decide⟩ (Nat.le_of_ble_eq_true rfl) ⟨Nat.le_of_ble_eq_true rfl, Nat.le_of_ble_eq_true rfl⟩ (fun v155 M156 h => ?_)
  refine jr_last hC (D_X12_init_9.g 1 rfl) h (fun M157 _ h => ?_)
  refine jr_aload_n hC (D_X12_init_9.g 2 rfl) 0 rfl ?_
  refine jr_getR hC fl_X12_34 rfl (D_X12_init_9.g 3 rfl) h (fun r158 h => ?_)
  refine jr_iconst hC (D_X12_init_9.g 4 rfl) ?_
  refine jr_bipush hC (D_X12_init_9.g 5 rfl) bp_115 ?_
  refine jr_bipush hC (D_X12_init_9.g 6 rfl) bp_116 ?_
  refine jr_bipush hC (D_X12_init_9.g 7 rfl) bp_111 ?_
  refine jr_bipush hC (D_X12_init_9.g 8 rfl) bp_110 ?_
  refine jr_bipush hC (D_X12_init_9.g 9 rfl) bp_101 ?_
  refine jr_iconst hC (D_X12_init_9.g 10 rfl) ?_
  refine jr_iconst hC (D_X12_init_9.g 11 rfl) ?_
  refine jr_cSl hC cl_X12_168 (D_X12_init_9.g 12 rfl) [q_i 115, q_i 116, q_i 111, q_i 110, q_i 101, q_i 0, q_i 0] h (fun r M' e => c_X12_word e) rfl rfl ⟨by decide, by decide⟩ (Nat.le_of_ble_eq_true rfl) ⟨Nat.le_of_ble_eq_true rfl, Nat.le_of_ble_eq_true rfl⟩ (fun v159 M160 h => ?_)
  refine jr_last hC (D_X12_init_9.g 13 rfl) h (fun M161 _ h => ?_)
  refine jr_aload_n hC (D_X12_init_9.g 14 rfl) 0 rfl ?_
  refine jr_getR hC fl_X12_34 rfl (D_X12_init_9.g 15 rfl) h (fun r162 h => ?_)
  refine jr_iconst hC (D_X12_init_9.g 16 rfl) ?_
  refine jr_bipush hC (D_X12_init_9.g 17 rfl) bp_97 ?_
  refine jr_bipush hC (D_X12_init_9.g 18 rfl) bp_115 ?_
  refine jr_bipush hC (D_X12_init_9.g 19 rfl) bp_107 ?_
  refine jr_bipush hC (D_X12_init_9.g 20 rfl) bp_115 ?_
  refine jr_iconst hC (D_X12_init_9.g 21 rfl) ?_
  refine jr_iconst hC (D_X12_init_9.g 22 rfl) ?_
  refine jr_iconst hC (D_X12_init_9.g 23 rfl) ?_
  refine jr_cSl hC cl_X12_168 (D_X12_init_9.g 24 rfl) [q_i 97, q_i 115, q_i 107, q_i 115, q_i 0, q_i 0, q_i 0] h (fun r M' e => c_X12_word e) rfl rfl ⟨by decide, by decide⟩ (Nat.le_of_ble_eq_true rfl) ⟨Nat.le_of_ble_eq_true rfl, Nat.le_of_ble_eq_true rfl⟩ (fun v163 M164 h => ?_)
  refine jr_last hC (D_X12_init_10.g 0 rfl) h (fun M165 _ h => ?_)
  refine jr_aload_n hC (D_X12_init_10.g 1 rfl) 0 rfl ?_
  refine jr_getR hC fl_X12_34 rfl (D_X12_init_10.g 2 rfl) h (fun r166 h => ?_)
  refine jr_iconst hC (D_X12_init_10.g 3 rfl) ?_
  refine jr_bipush hC (D_X12_init_10.g 4 rfl) bp_108 ?_
  refine jr_bipush hC (D_X12_init_10.g 5 rfl) bp_111 ?_
  refine jr_bipush hC (D_X12_init_10.g 6 rfl) bp_111 ?_
  refine jr_bipush hC (D_X12_init_10.g 7 rfl) bp_115 ?_
  refine jr_bipush hC (D_X12_init_10.g 8 rfl) bp_101 ?_
  refine jr_bipush hC (D_X12_init_10.g 9 rfl) bp_110 ?_
  refine jr_bipush hC (D_X12_init_10.g 10 rfl) bp_115 ?_
  refine jr_cSl hC cl_X12_168 (D_X12_init_10.g 11 rfl) [q_i 108, q_i 111, q_i 111, q_i 115, q_i 101, q_i 110, q_i 115] h (fun r M' e => c_X12_word e) rfl rfl ⟨by decide, by decide⟩ (Nat.le_of_ble_eq_true rfl) ⟨Nat.le_of_ble_eq_true rfl, Nat.le_of_ble_eq_true rfl⟩ (fun v167 M168 h => ?_)
  refine jr_last hC (D_X12_init_10.g 12 rfl) h (fun M169 _ h => ?_)
  refine jr_aload_n hC (D_X12_init_10.g 13 rfl) 0 rfl ?_
  refine jr_getR hC fl_X12_34 rfl (D_X12_init_10.g 14 rfl) h (fun r170 h => ?_)
  refine jr_iconst hC (D_X12_init_10.g 15 rfl) ?_
  refine jr_bipush hC (D_X12_init_10.g 16 rfl) bp_108 ?_
  refine jr_bipush hC (D_X12_init_10.g 17 rfl) bp_97 ?_
  refine jr_bipush hC (D_X12_init_10.g 18 rfl) bp_121 ?_
  refine jr_bipush hC (D_X12_init_10.g 19 rfl) bp_115 ?_
  refine jr_iconst hC (D_X12_init_10.g 20 rfl) ?_
  refine jr_iconst hC (D_X12_init_10.g 21 rfl) ?_
  refine jr_iconst hC (D_X12_init_10.g 22 rfl) ?_
  refine jr_cSl hC cl_X12_168 (D_X12_init_10.g 23 rfl) [q_i 108, q_i 97, q_i 121, q_i 115, q_i 0, q_i 0, q_i 0] h (fun r M' e => c_X12_word e) rfl rfl ⟨by decide, by decide⟩ (Nat.le_of_ble_eq_true rfl) ⟨Nat.le_of_ble_eq_true rfl, Nat.le_of_ble_eq_true rfl⟩ (fun v171 M172 h => ?_)
  refine jr_last hC (D_X12_init_10.g 24 rfl) h (fun M173 _ h => ?_)
  refine jr_aload_n hC (D_X12_init_11.g 0 rfl) 0 rfl ?_
  refine jr_getR hC fl_X12_34 rfl (D_X12_init_11.g 1 rfl) h (fun r174 h => ?_)
  refine jr_bipush hC (D_X12_init_11.g 2 rfl) bp_6 ?_
  refine jr_bipush hC (D_X12_init_11.g 3 rfl) bp_115 ?_
  refine jr_bipush hC (D_X12_init_11.g 4 rfl) bp_101 ?_
  refine jr_bipush hC (D_X12_init_11.g 5 rfl) bp_101 ?_
  refine jr_bipush hC (D_X12_init_11.g 6 rfl) bp_100 ?_
  refine jr_iconst hC (D_X12_init_11.g 7 rfl) ?_
  refine jr_iconst hC (D_X12_init_11.g 8 rfl) ?_
  refine jr_iconst hC (D_X12_init_11.g 9 rfl) ?_
  refine jr_cSl hC cl_X12_168 (D_X12_init_11.g 10 rfl) [q_i 115, q_i 101, q_i 101, q_i 100, q_i 0, q_i 0, q_i 0] h (fun r M' e => c_X12_word e) rfl rfl ⟨by decide, by decide⟩ (Nat.le_of_ble_eq_true rfl) ⟨Nat.le_of_ble_eq_true rfl, Nat.le_of_ble_eq_true rfl⟩ (fun v175 M176 h => ?_)
  refine jr_last hC (D_X12_init_11.g 11 rfl) h (fun M177 _ h => ?_)
  refine jr_aload_n hC (D_X12_init_11.g 12 rfl) 0 rfl ?_
  refine jr_getR hC fl_X12_34 rfl (D_X12_init_11.g 13 rfl) h (fun r178 h => ?_)
  refine jr_bipush hC (D_X12_init_11.g 14 rfl) bp_7 ?_
  refine jr_bipush hC (D_X12_init_11.g 15 rfl) bp_105 ?_
  refine jr_bipush hC (D_X12_init_11.g 16 rfl) bp_102 ?_
  refine jr_iconst hC (D_X12_init_11.g 17 rfl) ?_
  refine jr_iconst hC (D_X12_init_11.g 18 rfl) ?_
  refine jr_iconst hC (D_X12_init_11.g 19 rfl) ?_
  refine jr_iconst hC (D_X12_init_11.g 20 rfl) ?_
  refine jr_iconst hC (D_X12_init_11.g 21 rfl) ?_
  refine jr_cSl hC cl_X12_168 (D_X12_init_11.g 22 rfl) [q_i 105, q_i 102, q_i 0, q_i 0, q_i 0, q_i 0, q_i 0] h (fun r M' e => c_X12_word e) rfl rfl ⟨by decide, by decide⟩ (Nat.le_of_ble_eq_true rfl) ⟨Nat.le_of_ble_eq_true rfl, Nat.le_of_ble_eq_true rfl⟩ (fun v179 M180 h => ?_)
  refine jr_last hC (D_X12_init_11.g 23 rfl) h (fun M181 _ h => ?_)
  refine jr_aload_n hC (D_X12_init_11.g 24 rfl) 0 rfl ?_
  refine jr_getR hC fl_X12_34 rfl (D_X12_init_12.g 0 rfl) h (fun r182 h => ?_)
  refine jr_bipush hC (D_X12_init_12.g 1 rfl) bp_8 ?_
  refine jr_bipush hC (D_X12_init_12.g 2 rfl) bp_116 ?_
  refine jr_bipush hC (D_X12_init_12.g 3 rfl) bp_104 ?_
  refine jr_bipush hC (D_X12_init_12.g 4 rfl) bp_101 ?_
  refine jr_bipush hC (D_X12_init_12.g 5 rfl) bp_110 ?_
  refine jr_iconst hC (D_X12_init_12.g 6 rfl) ?_
  refine jr_iconst hC (D_X12_init_12.g 7 rfl) ?_
  refine jr_iconst hC (D_X12_init_12.g 8 rfl) ?_
  refine jr_cSl hC cl_X12_168 (D_X12_init_12.g 9 rfl) [q_i 116, q_i 104, q_i 101, q_i 110, q_i 0, q_i 0, q_i 0] h (fun r M' e => c_X12_word e) rfl rfl ⟨by decide, by decide⟩ (Nat.le_of_ble_eq_true rfl) ⟨Nat.le_of_ble_eq_true rfl, Nat.le_of_ble_eq_true rfl⟩ (fun v183 M184 h => ?_)
  refine jr_last hC (D_X12_init_12.g 10 rfl) h (fun M185 _ h => ?_)
  refine jr_aload_n hC (D_X12_init_12.g 11 rfl) 0 rfl ?_
  refine jr_getR hC fl_X12_34 rfl (D_X12_init_12.g 12 rfl) h (fun r186 h => ?_)
  refine jr_bipush hC (D_X12_init_12.g 13 rfl) bp_9 ?_
  refine jr_bipush hC (D_X12_init_12.g 14 rfl) bp_101 ?_
  refine jr_bipush hC (D_X12_init_12.g 15 rfl) bp_108 ?_
  refine jr_bipush hC (D_X12_init_12.g 16 rfl) bp_115 ?_
  refine jr_bipush hC (D_X12_init_12.g 17 rfl) bp_101 ?_
  refine jr_iconst hC (D_X12_init_12.g 18 rfl) ?_
  refine jr_iconst hC (D_X12_init_12.g 19 rfl) ?_
  refine jr_iconst hC (D_X12_init_12.g 20 rfl) ?_
  refine jr_cSl hC cl_X12_168 (D_X12_init_12.g 21 rfl) [q_i 101, q_i 108, q_i 115, q_i 101, q_i 0, q_i 0, q_i 0] h (fun r M' e => c_X12_word e) rfl rfl ⟨by decide, by decide⟩ (Nat.le_of_ble_eq_true rfl) ⟨Nat.le_of_ble_eq_true rfl, Nat.le_of_ble_eq_true rfl⟩ (fun v187 M188 h => ?_)
  refine jr_last hC (D_X12_init_12.g 22 rfl) h (fun M189 _ h => ?_)
  refine jr_aload_n hC (D_X12_init_12.g 23 rfl) 0 rfl ?_
  refine jr_getR hC fl_X12_34 rfl (D_X12_init_12.g 24 rfl) h (fun r190 h => ?_)
  refine jr_bipush hC (D_X12_init_13.g 0 rfl) bp_10 ?_
  refine jr_bipush hC (D_X12_init_13.g 1 rfl) bp_97 ?_
  refine jr_bipush hC (D_X12_init_13.g 2 rfl) bp_99 ?_
  refine jr_bipush hC (D_X12_init_13.g 3 rfl) bp_114 ?_
  refine jr_bipush hC (D_X12_init_13.g 4 rfl) bp_111 ?_
  refine jr_bipush hC (D_X12_init_13.g 5 rfl) bp_115 ?_
  refine jr_bipush hC (D_X12_init_13.g 6 rfl) bp_115 ?_
  refine jr_iconst hC (D_X12_init_13.g 7 rfl) ?_
  refine jr_cSl hC cl_X12_168 (D_X12_init_13.g 8 rfl) [q_i 97, q_i 99, q_i 114, q_i 111, q_i 115, q_i 115, q_i 0] h (fun r M' e => c_X12_word e) rfl rfl ⟨by decide, by decide⟩ (Nat.le_of_ble_eq_true rfl) ⟨Nat.le_of_ble_eq_true rfl, Nat.le_of_ble_eq_true rfl⟩ (fun v191 M192 h => ?_)
  refine jr_last hC (D_X12_init_13.g 9 rfl) h (fun M193 _ h => ?_)
  refine jr_aload_n hC (D_X12_init_13.g 10 rfl) 0 rfl ?_
  refine jr_getR hC fl_X12_34 rfl (D_X12_init_13.g 11 rfl) h (fun r194 h => ?_)
  refine jr_bipush hC (D_X12_init_13.g 12 rfl) bp_11 ?_
  refine jr_bipush hC (D_X12_init_13.g 13 rfl) bp_108 ?_
  refine jr_bipush hC (D_X12_init_13.g 14 rfl) bp_101 ?_
  refine jr_bipush hC (D_X12_init_13.g 15 rfl) bp_102 ?_
  refine jr_bipush hC (D_X12_init_13.g 16 rfl) bp_116 ?_
  refine jr_iconst hC (D_X12_init_13.g 17 rfl) ?_
  refine jr_iconst hC (D_X12_init_13.g 18 rfl) ?_
  refine jr_iconst hC (D_X12_init_13.g 19 rfl) ?_
  refine jr_cSl hC cl_X12_168 (D_X12_init_13.g 20 rfl) [q_i 108, q_i 101, q_i 102, q_i 116, q_i 0, q_i 0, q_i 0] h (fun r M' e => c_X12_word e) rfl rfl ⟨by decide, by decide⟩ (Nat.le_of_ble_eq_true rfl) ⟨Nat.le_of_ble_eq_true rfl, Nat.le_of_ble_eq_true rfl⟩ (fun v195 M196 h => ?_)
  refine jr_last hC (D_X12_init_13.g 21 rfl) h (fun M197 _ h => ?_)
  refine jr_aload_n hC (D_X12_init_13.g 22 rfl) 0 rfl ?_
  refine jr_getR hC fl_X12_34 rfl (D_X12_init_13.g 23 rfl) h (fun r198 h => ?_)
  refine jr_bipush hC (D_X12_init_13.g 24 rfl) bp_12 ?_
  refine jr_bipush hC (D_X12_init_14.g 0 rfl) bp_116 ?_
  refine jr_bipush hC (D_X12_init_14.g 1 rfl) bp_111 ?_
  refine jr_bipush hC (D_X12_init_14.g 2 rfl) bp_112 ?_
  refine jr_iconst hC (D_X12_init_14.g 3 rfl) ?_
  refine jr_iconst hC (D_X12_init_14.g 4 rfl) ?_
  refine jr_iconst hC (D_X12_init_14.g 5 rfl) ?_
  refine jr_iconst hC (D_X12_init_14.g 6 rfl) ?_
  refine jr_cSl hC cl_X12_168 (D_X12_init_14.g 7 rfl) [q_i 116, q_i 111, q_i 112, q_i 0, q_i 0, q_i 0, q_i 0] h (fun r M' e => c_X12_word e) rfl rfl ⟨by decide, by decide⟩ (Nat.le_of_ble_eq_true rfl) ⟨Nat.le_of_ble_eq_true rfl, Nat.le_of_ble_eq_true rfl⟩ (fun v199 M200 h => ?_)
  refine jr_last hC (D_X12_init_14.g 8 rfl) h (fun M201 _ h => ?_)
  refine jr_aload_n hC (D_X12_init_14.g 9 rfl) 0 rfl ?_
  refine jr_getR hC fl_X12_34 rfl (D_X12_init_14.g 10 rfl) h (fun r202 h => ?_)
  refine jr_bipush hC (D_X12_init_14.g 11 rfl) bp_13 ?_
  refine jr_bipush hC (D_X12_init_14.g 12 rfl) bp_116 ?_
  refine jr_bipush hC (D_X12_init_14.g 13 rfl) bp_117 ?_
  refine jr_bipush hC (D_X12_init_14.g 14 rfl) bp_114 ?_
  refine jr_bipush hC (D_X12_init_14.g 15 rfl) bp_110 ?_
  refine jr_bipush hC (D_X12_init_14.g 16 rfl) bp_101 ?_
  refine jr_bipush hC (D_X12_init_14.g 17 rfl) bp_100 ?_
  refine jr_iconst hC (D_X12_init_14.g 18 rfl) ?_
  refine jr_cSl hC cl_X12_168 (D_X12_init_14.g 19 rfl) [q_i 116, q_i 117, q_i 114, q_i 110, q_i 101, q_i 100, q_i 0] h (fun r M' e => c_X12_word e) rfl rfl ⟨by decide, by decide⟩ (Nat.le_of_ble_eq_true rfl) ⟨Nat.le_of_ble_eq_true rfl, Nat.le_of_ble_eq_true rfl⟩ (fun v203 M204 h => ?_)
  refine jr_last hC (D_X12_init_14.g 20 rfl) h (fun M205 _ h => ?_)
  refine jr_aload_n hC (D_X12_init_14.g 21 rfl) 0 rfl ?_
  refine jr_getR hC fl_X12_34 rfl (D_X12_init_14.g 22 rfl) h (fun r206 h => ?_)
  refine jr_bipush hC (D_X12_init_14.g 23 rfl) bp_14 ?_
  refine jr_bipush hC (D_X12_init_14.g 24 rfl) bp_97 ?_
  refine jr_bipush hC (D_X12_init_15.g 0 rfl) bp_103 ?_
  refine jr_bipush hC (D_X12_init_15.g 1 rfl) bp_101 ?_
  refine jr_iconst hC (D_X12_init_15.g 2 rfl) ?_
  refine jr_iconst hC (D_X12_init_15.g 3 rfl) ?_
  refine jr_iconst hC (D_X12_init_15.g 4 rfl) ?_
  refine jr_iconst hC (D_X12_init_15.g 5 rfl) ?_
  refine jr_cSl hC cl_X12_168 (D_X12_init_15.g 6 rfl) [q_i 97, q_i 103, q_i 101, q_i 0, q_i 0, q_i 0, q_i 0] h (fun r M' e => c_X12_word e) rfl rfl ⟨by decide, by decide⟩ (Nat.le_of_ble_eq_true rfl) ⟨Nat.le_of_ble_eq_true rfl, Nat.le_of_ble_eq_true rfl⟩ (fun v207 M208 h => ?_)
  refine jr_last hC (D_X12_init_15.g 7 rfl) h (fun M209 _ h => ?_)
  refine jr_aload_n hC (D_X12_init_15.g 8 rfl) 0 rfl ?_
  refine jr_getR hC fl_X12_34 rfl (D_X12_init_15.g 9 rfl) h (fun r210 h => ?_)
  refine jr_bipush hC (D_X12_init_15.g 10 rfl) bp_15 ?_
  refine jr_bipush hC (D_X12_init_15.g 11 rfl) bp_115 ?_
  refine jr_bipush hC (D_X12_init_15.g 12 rfl) bp_101 ?_
  refine jr_bipush hC (D_X12_init_15.g 13 rfl) bp_97 ?_
  refine jr_bipush hC (D_X12_init_15.g 14 rfl) bp_115 ?_
  refine jr_bipush hC (D_X12_init_15.g 15 rfl) bp_111 ?_
  refine jr_bipush hC (D_X12_init_15.g 16 rfl) bp_110 ?_
  refine jr_iconst hC (D_X12_init_15.g 17 rfl) ?_
  refine jr_cSl hC cl_X12_168 (D_X12_init_15.g 18 rfl) [q_i 115, q_i 101, q_i 97, q_i 115, q_i 111, q_i 110, q_i 0] h (fun r M' e => c_X12_word e) rfl rfl ⟨by decide, by decide⟩ (Nat.le_of_ble_eq_true rfl) ⟨Nat.le_of_ble_eq_true rfl, Nat.le_of_ble_eq_true rfl⟩ (fun v211 M212 h => ?_)
  refine jr_last hC (D_X12_init_15.g 19 rfl) h (fun M213 _ h => ?_)
  refine jr_aload_n hC (D_X12_init_15.g 20 rfl) 0 rfl ?_
  refine jr_getR hC fl_X12_34 rfl (D_X12_init_15.g 21 rfl) h (fun r214 h => ?_)
  refine jr_bipush hC (D_X12_init_15.g 22 rfl) bp_16 ?_
  refine jr_bipush hC (D_X12_init_15.g 23 rfl) bp_119 ?_
  refine jr_bipush hC (D_X12_init_15.g 24 rfl) bp_104 ?_
  refine jr_bipush hC (D_X12_init_16.g 0 rfl) bp_105 ?_
  refine jr_bipush hC (D_X12_init_16.g 1 rfl) bp_99 ?_
  refine jr_bipush hC (D_X12_init_16.g 2 rfl) bp_104 ?_
  refine jr_iconst hC (D_X12_init_16.g 3 rfl) ?_
  refine jr_iconst hC (D_X12_init_16.g 4 rfl) ?_
  refine jr_cSl hC cl_X12_168 (D_X12_init_16.g 5 rfl) [q_i 119, q_i 104, q_i 105, q_i 99, q_i 104, q_i 0, q_i 0] h (fun r M' e => c_X12_word e) rfl rfl ⟨by decide, by decide⟩ (Nat.le_of_ble_eq_true rfl) ⟨Nat.le_of_ble_eq_true rfl, Nat.le_of_ble_eq_true rfl⟩ (fun v215 M216 h => ?_)
  refine jr_last hC (D_X12_init_16.g 6 rfl) h (fun M217 _ h => ?_)
  refine jr_aload_n hC (D_X12_init_16.g 7 rfl) 0 rfl ?_
  refine jr_getR hC fl_X12_34 rfl (D_X12_init_16.g 8 rfl) h (fun r218 h => ?_)
  refine jr_bipush hC (D_X12_init_16.g 9 rfl) bp_17 ?_
  refine jr_bipush hC (D_X12_init_16.g 10 rfl) bp_115 ?_
  refine jr_bipush hC (D_X12_init_16.g 11 rfl) bp_116 ?_
  refine jr_bipush hC (D_X12_init_16.g 12 rfl) bp_111 ?_
  refine jr_bipush hC (D_X12_init_16.g 13 rfl) bp_110 ?_
  refine jr_bipush hC (D_X12_init_16.g 14 rfl) bp_101 ?_
  refine jr_bipush hC (D_X12_init_16.g 15 rfl) bp_115 ?_
  refine jr_iconst hC (D_X12_init_16.g 16 rfl) ?_
  refine jr_cSl hC cl_X12_168 (D_X12_init_16.g 17 rfl) [q_i 115, q_i 116, q_i 111, q_i 110, q_i 101, q_i 115, q_i 0] h (fun r M' e => c_X12_word e) rfl rfl ⟨by decide, by decide⟩ (Nat.le_of_ble_eq_true rfl) ⟨Nat.le_of_ble_eq_true rfl, Nat.le_of_ble_eq_true rfl⟩ (fun v219 M220 h => ?_)
  refine jr_last hC (D_X12_init_16.g 18 rfl) h (fun M221 _ h => ?_)
  refine jr_aload_n hC (D_X12_init_16.g 19 rfl) 0 rfl ?_
  refine jr_getR hC fl_X12_34 rfl (D_X12_init_16.g 20 rfl) h (fun r222 h => ?_)
  refine jr_bipush hC (D_X12_init_16.g 21 rfl) bp_18 ?_
  refine jr_bipush hC (D_X12_init_16.g 22 rfl) bp_104 ?_
  refine jr_bipush hC (D_X12_init_16.g 23 rfl) bp_111 ?_
  refine jr_bipush hC (D_X12_init_16.g 24 rfl) bp_108 ?_
  refine jr_bipush hC (D_X12_init_17.g 0 rfl) bp_101 ?_
  refine jr_bipush hC (D_X12_init_17.g 1 rfl) bp_115 ?_
  refine jr_iconst hC (D_X12_init_17.g 2 rfl) ?_
  refine jr_iconst hC (D_X12_init_17.g 3 rfl) ?_
  refine jr_cSl hC cl_X12_168 (D_X12_init_17.g 4 rfl) [q_i 104, q_i 111, q_i 108, q_i 101, q_i 115, q_i 0, q_i 0] h (fun r M' e => c_X12_word e) rfl rfl ⟨by decide, by decide⟩ (Nat.le_of_ble_eq_true rfl) ⟨Nat.le_of_ble_eq_true rfl, Nat.le_of_ble_eq_true rfl⟩ (fun v223 M224 h => ?_)
  refine jr_last hC (D_X12_init_17.g 5 rfl) h (fun M225 _ h => ?_)
  refine jr_aload_n hC (D_X12_init_17.g 6 rfl) 0 rfl ?_
  refine jr_cVv hC cl_X12_172 ⟨rfl, by decide⟩ (D_X12_init_17.g 7 rfl) [] h (fun r M' e => c_X12_begins e) rfl rfl ⟨by decide, by decide⟩ (Nat.le_of_ble_eq_true rfl) ⟨Nat.le_of_ble_eq_true rfl, Nat.le_of_ble_eq_true rfl⟩ (fun _ M227 h => ?_)
  refine jr_aload_n hC (D_X12_init_17.g 8 rfl) 0 rfl ?_
  refine jr_cVv hC cl_X12_175 ⟨rfl, by decide⟩ (D_X12_init_17.g 9 rfl) [] h (fun r M' e => c_X12_keepsRow e) rfl rfl ⟨by decide, by decide⟩ (Nat.le_of_ble_eq_true rfl) ⟨Nat.le_of_ble_eq_true rfl, Nat.le_of_ble_eq_true rfl⟩ (fun _ M229 h => ?_)
  exact jr_vret hC (D_X12_init_17.g 10 rfl) hr hE h
