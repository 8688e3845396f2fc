/-! ===== classes, fields, links: by program ===== -/
theorem jp0 : ∀ k, k < 4 → (TX0 k).1 = RX0 ∧ parseFieldDescriptor (TX0 k).2.2.1 = some (tyX0 k) := by decide +kernel
theorem jw0 : ∀ w ∈ u_ws RX0 TX0 4, w ∈ jtbl := jt_all [518, 520, 522, 524] (by decide +kernel) (by decide +kernel)
theorem jc0 : jcl 0 (RX0, TX0, 4) := ⟨rfl, rfl, by decide, jw0, jp0, nmX0⟩
theorem jp1 : ∀ k, k < 5 → (TX1 k).1 = RX1 ∧ parseFieldDescriptor (TX1 k).2.2.1 = some (tyX1 k) := by decide +kernel
theorem jw1 : ∀ w ∈ u_ws RX1 TX1 5, w ∈ jtbl := jt_all [413, 415, 417, 419, 421] (by decide +kernel) (by decide +kernel)
theorem jc1 : jcl 1 (RX1, TX1, 5) := ⟨rfl, rfl, by decide, jw1, jp1, nmX1⟩
theorem jp2 : ∀ k, k < 5 → (TX2 k).1 = RX2 ∧ parseFieldDescriptor (TX2 k).2.2.1 = some (tyX2 k) := by decide +kernel
theorem jw2 : ∀ w ∈ u_ws RX2 TX2 5, w ∈ jtbl := jt_all [189, 191, 193, 195, 197] (by decide +kernel) (by decide +kernel)
theorem jc2 : jcl 2 (RX2, TX2, 5) := ⟨rfl, rfl, by decide, jw2, jp2, nmX2⟩
theorem jp3 : ∀ k, k < 9 → (TX3 k).1 = RX3 ∧ parseFieldDescriptor (TX3 k).2.2.1 = some (tyX3 k) := by decide +kernel
theorem jw3 : ∀ w ∈ u_ws RX3 TX3 9, w ∈ jtbl := jt_all [315, 317, 319, 321, 323, 325, 327, 329, 331] (by decide +kernel) (by decide +kernel)
theorem jc3 : jcl 3 (RX3, TX3, 9) := ⟨rfl, rfl, by decide, jw3, jp3, nmX3⟩
theorem jp4 : ∀ k, k < 8 → (TX4 k).1 = RX4 ∧ parseFieldDescriptor (TX4 k).2.2.1 = some (tyX4 k) := by decide +kernel
theorem jw4 : ∀ w ∈ u_ws RX4 TX4 8, w ∈ jtbl := jt_all [470, 472, 474, 476, 478, 480, 482, 484] (by decide +kernel) (by decide +kernel)
theorem jc4 : jcl 4 (RX4, TX4, 8) := ⟨rfl, rfl, by decide, jw4, jp4, nmX4⟩
theorem jp5 : ∀ k, k < 4 → (TX5 k).1 = RX5 ∧ parseFieldDescriptor (TX5 k).2.2.1 = some (tyX5 k) := by decide +kernel
theorem jw5 : ∀ w ∈ u_ws RX5 TX5 4, w ∈ jtbl := jt_all [498, 500, 502, 504] (by decide +kernel) (by decide +kernel)
theorem jc5 : jcl 5 (RX5, TX5, 4) := ⟨rfl, rfl, by decide, jw5, jp5, nmX5⟩
theorem jp6 : ∀ k, k < 10 → (TX6 k).1 = RX6 ∧ parseFieldDescriptor (TX6 k).2.2.1 = some (tyX6 k) := by decide +kernel
theorem jw6 : ∀ w ∈ u_ws RX6 TX6 10, w ∈ jtbl := jt_all [377, 379, 381, 383, 385, 387, 389, 391, 393, 395] (by decide +kernel) (by decide +kernel)
theorem jc6 : jcl 6 (RX6, TX6, 10) := ⟨rfl, rfl, by decide, jw6, jp6, nmX6⟩
theorem jp7 : ∀ k, k < 2 → (TX7 k).1 = RX7 ∧ parseFieldDescriptor (TX7 k).2.2.1 = some (tyX7 k) := by decide +kernel
theorem jw7 : ∀ w ∈ u_ws RX7 TX7 2, w ∈ jtbl := jt_all [166, 168] (by decide +kernel) (by decide +kernel)
theorem jc7 : jcl 7 (RX7, TX7, 2) := ⟨rfl, rfl, by decide, jw7, jp7, nmX7⟩
theorem jp8 : ∀ k, k < 13 → (TX8 k).1 = RX8 ∧ parseFieldDescriptor (TX8 k).2.2.1 = some (tyX8 k) := by decide +kernel
theorem jw8 : ∀ w ∈ u_ws RX8 TX8 13, w ∈ jtbl := jt_all [250, 252, 254, 256, 258, 260, 262, 264, 266, 268, 270, 272, 274] (by decide +kernel) (by decide +kernel)
theorem jc8 : jcl 8 (RX8, TX8, 13) := ⟨rfl, rfl, by decide, jw8, jp8, nmX8⟩
theorem jp9 : ∀ k, k < 5 → (TX9 k).1 = RX9 ∧ parseFieldDescriptor (TX9 k).2.2.1 = some (tyX9 k) := by decide +kernel
theorem jw9 : ∀ w ∈ u_ws RX9 TX9 5, w ∈ jtbl := jt_all [294, 296, 298, 300, 302] (by decide +kernel) (by decide +kernel)
theorem jc9 : jcl 9 (RX9, TX9, 5) := ⟨rfl, rfl, by decide, jw9, jp9, nmX9⟩
theorem jp10 : ∀ k, k < 3 → (TX10 k).1 = RX10 ∧ parseFieldDescriptor (TX10 k).2.2.1 = some (tyX10 k) := by decide +kernel
theorem jw10 : ∀ w ∈ u_ws RX10 TX10 3, w ∈ jtbl := jt_all [436, 438, 440] (by decide +kernel) (by decide +kernel)
theorem jc10 : jcl 10 (RX10, TX10, 3) := ⟨rfl, rfl, by decide, jw10, jp10, nmX10⟩
theorem jp11 : ∀ k, k < 14 → (TX11 k).1 = RX11 ∧ parseFieldDescriptor (TX11 k).2.2.1 = some (tyX11 k) := by decide +kernel
theorem jw11 : ∀ w ∈ u_ws RX11 TX11 14, w ∈ jtbl := jt_all [611, 613, 615, 617, 619, 621, 623, 625, 627, 629, 631, 633, 635, 637] (by decide +kernel) (by decide +kernel)
theorem jc11 : jcl 11 (RX11, TX11, 14) := ⟨rfl, rfl, by decide, jw11, jp11, nmX11⟩
theorem jp12 : ∀ k, k < 68 → (TX12 k).1 = RX12 ∧ parseFieldDescriptor (TX12 k).2.2.1 = some (tyX12 k) := by decide +kernel
theorem jw12 : ∀ w ∈ u_ws RX12 TX12 68, w ∈ jtbl := jt_all [1435, 1437, 1439, 1441, 1443, 1445, 1447, 1449, 1451, 1453, 1455, 1457, 1459, 1461, 1463, 1465, 1467, 1469, 1471, 1473, 1475, 1477, 1479, 1481, 1483, 1485, 1487, 1489, 1491, 1493, 1495, 1497, 1499, 1501, 1503, 1505, 1507, 1509, 1511, 1513, 1515, 1517, 1519, 1521, 1523, 1525, 1527, 1529, 1531, 1533, 1535, 1537, 1539, 1541, 1543, 1545, 1547, 1549, 1551, 1553, 1555, 1557, 1559, 1561, 1563, 1565, 1567, 1569] (by decide +kernel) (by decide +kernel)
theorem jc12 : jcl 12 (RX12, TX12, 68) := ⟨rfl, rfl, by decide, jw12, jp12, nmX12⟩
theorem bp_m100 : (Int8.ofInt (-100)).toInt32 = Int32.ofInt (-100) := by decide +kernel
theorem bp_m3 : (Int8.ofInt (-3)).toInt32 = Int32.ofInt (-3) := by decide +kernel
theorem bp_m2 : (Int8.ofInt (-2)).toInt32 = Int32.ofInt (-2) := by decide +kernel
theorem bp_6 : (Int8.ofInt (6)).toInt32 = Int32.ofInt (6) := by decide +kernel
theorem bp_7 : (Int8.ofInt (7)).toInt32 = Int32.ofInt (7) := by decide +kernel
theorem bp_8 : (Int8.ofInt (8)).toInt32 = Int32.ofInt (8) := by decide +kernel
theorem bp_9 : (Int8.ofInt (9)).toInt32 = Int32.ofInt (9) := by decide +kernel
theorem bp_10 : (Int8.ofInt (10)).toInt32 = Int32.ofInt (10) := by decide +kernel
theorem bp_11 : (Int8.ofInt (11)).toInt32 = Int32.ofInt (11) := by decide +kernel
theorem bp_12 : (Int8.ofInt (12)).toInt32 = Int32.ofInt (12) := by decide +kernel
theorem bp_13 : (Int8.ofInt (13)).toInt32 = Int32.ofInt (13) := by decide +kernel
theorem bp_14 : (Int8.ofInt (14)).toInt32 = Int32.ofInt (14) := by decide +kernel
theorem bp_15 : (Int8.ofInt (15)).toInt32 = Int32.ofInt (15) := by decide +kernel
theorem bp_16 : (Int8.ofInt (16)).toInt32 = Int32.ofInt (16) := by decide +kernel
theorem bp_17 : (Int8.ofInt (17)).toInt32 = Int32.ofInt (17) := by decide +kernel
theorem bp_18 : (Int8.ofInt (18)).toInt32 = Int32.ofInt (18) := by decide +kernel
theorem bp_19 : (Int8.ofInt (19)).toInt32 = Int32.ofInt (19) := by decide +kernel
theorem bp_20 : (Int8.ofInt (20)).toInt32 = Int32.ofInt (20) := by decide +kernel
theorem bp_21 : (Int8.ofInt (21)).toInt32 = Int32.ofInt (21) := by decide +kernel
theorem bp_22 : (Int8.ofInt (22)).toInt32 = Int32.ofInt (22) := by decide +kernel
theorem bp_23 : (Int8.ofInt (23)).toInt32 = Int32.ofInt (23) := by decide +kernel
theorem bp_24 : (Int8.ofInt (24)).toInt32 = Int32.ofInt (24) := by decide +kernel
theorem bp_25 : (Int8.ofInt (25)).toInt32 = Int32.ofInt (25) := by decide +kernel
theorem bp_26 : (Int8.ofInt (26)).toInt32 = Int32.ofInt (26) := by decide +kernel
theorem bp_27 : (Int8.ofInt (27)).toInt32 = Int32.ofInt (27) := by decide +kernel
theorem bp_28 : (Int8.ofInt (28)).toInt32 = Int32.ofInt (28) := by decide +kernel
theorem bp_29 : (Int8.ofInt (29)).toInt32 = Int32.ofInt (29) := by decide +kernel
theorem bp_30 : (Int8.ofInt (30)).toInt32 = Int32.ofInt (30) := by decide +kernel
theorem bp_32 : (Int8.ofInt (32)).toInt32 = Int32.ofInt (32) := by decide +kernel
theorem bp_36 : (Int8.ofInt (36)).toInt32 = Int32.ofInt (36) := by decide +kernel
theorem bp_38 : (Int8.ofInt (38)).toInt32 = Int32.ofInt (38) := by decide +kernel
theorem bp_40 : (Int8.ofInt (40)).toInt32 = Int32.ofInt (40) := by decide +kernel
theorem bp_41 : (Int8.ofInt (41)).toInt32 = Int32.ofInt (41) := by decide +kernel
theorem bp_42 : (Int8.ofInt (42)).toInt32 = Int32.ofInt (42) := by decide +kernel
theorem bp_43 : (Int8.ofInt (43)).toInt32 = Int32.ofInt (43) := by decide +kernel
theorem bp_45 : (Int8.ofInt (45)).toInt32 = Int32.ofInt (45) := by decide +kernel
theorem bp_47 : (Int8.ofInt (47)).toInt32 = Int32.ofInt (47) := by decide +kernel
theorem bp_48 : (Int8.ofInt (48)).toInt32 = Int32.ofInt (48) := by decide +kernel
theorem bp_49 : (Int8.ofInt (49)).toInt32 = Int32.ofInt (49) := by decide +kernel
theorem bp_54 : (Int8.ofInt (54)).toInt32 = Int32.ofInt (54) := by decide +kernel
theorem bp_57 : (Int8.ofInt (57)).toInt32 = Int32.ofInt (57) := by decide +kernel
theorem bp_59 : (Int8.ofInt (59)).toInt32 = Int32.ofInt (59) := by decide +kernel
theorem bp_60 : (Int8.ofInt (60)).toInt32 = Int32.ofInt (60) := by decide +kernel
theorem bp_61 : (Int8.ofInt (61)).toInt32 = Int32.ofInt (61) := by decide +kernel
theorem bp_63 : (Int8.ofInt (63)).toInt32 = Int32.ofInt (63) := by decide +kernel
theorem bp_64 : (Int8.ofInt (64)).toInt32 = Int32.ofInt (64) := by decide +kernel
theorem bp_72 : (Int8.ofInt (72)).toInt32 = Int32.ofInt (72) := by decide +kernel
theorem bp_73 : (Int8.ofInt (73)).toInt32 = Int32.ofInt (73) := by decide +kernel
theorem bp_74 : (Int8.ofInt (74)).toInt32 = Int32.ofInt (74) := by decide +kernel
theorem bp_75 : (Int8.ofInt (75)).toInt32 = Int32.ofInt (75) := by decide +kernel
theorem bp_97 : (Int8.ofInt (97)).toInt32 = Int32.ofInt (97) := by decide +kernel
theorem bp_99 : (Int8.ofInt (99)).toInt32 = Int32.ofInt (99) := by decide +kernel
theorem bp_100 : (Int8.ofInt (100)).toInt32 = Int32.ofInt (100) := by decide +kernel
theorem bp_122 : (Int8.ofInt (122)).toInt32 = Int32.ofInt (122) := by decide +kernel
theorem sp_130 : (Int16.ofInt (130)).toInt32 = Int32.ofInt (130) := by decide +kernel
theorem sp_169 : (Int16.ofInt (169)).toInt32 = Int32.ofInt (169) := by decide +kernel
theorem sp_255 : (Int16.ofInt (255)).toInt32 = Int32.ofInt (255) := by decide +kernel
theorem sp_400 : (Int16.ofInt (400)).toInt32 = Int32.ofInt (400) := by decide +kernel
theorem sp_401 : (Int16.ofInt (401)).toInt32 = Int32.ofInt (401) := by decide +kernel
theorem sp_404 : (Int16.ofInt (404)).toInt32 = Int32.ofInt (404) := by decide +kernel
theorem sp_420 : (Int16.ofInt (420)).toInt32 = Int32.ofInt (420) := by decide +kernel
theorem sp_1980 : (Int16.ofInt (1980)).toInt32 = Int32.ofInt (1980) := by decide +kernel
theorem sp_2000 : (Int16.ofInt (2000)).toInt32 = Int32.ofInt (2000) := by decide +kernel
theorem sp_2925 : (Int16.ofInt (2925)).toInt32 = Int32.ofInt (2925) := by decide +kernel
theorem sp_9999 : (Int16.ofInt (9999)).toInt32 = Int32.ofInt (9999) := by decide +kernel
theorem sp_12345 : (Int16.ofInt (12345)).toInt32 = Int32.ofInt (12345) := by decide +kernel
theorem fl_X11_12 : jfl RX11 12 11 0 := ⟨_, jc11, by decide, jt_in (i := 597) (by decide +kernel) rfl⟩
theorem fl_X11_19 : jfl RX11 19 11 2 := ⟨_, jc11, by decide, jt_in (i := 599) (by decide +kernel) rfl⟩
theorem fl_X11_23 : jfl RX11 23 11 3 := ⟨_, jc11, by decide, jt_in (i := 600) (by decide +kernel) rfl⟩
theorem fl_X11_31 : jfl RX11 31 11 1 := ⟨_, jc11, by decide, jt_in (i := 598) (by decide +kernel) rfl⟩
theorem fl_X11_38 : jfl RX11 38 11 4 := ⟨_, jc11, by decide, jt_in (i := 601) (by decide +kernel) rfl⟩
theorem fl_X11_42 : jfl RX11 42 11 5 := ⟨_, jc11, by decide, jt_in (i := 602) (by decide +kernel) rfl⟩
theorem fl_X11_48 : jfl RX11 48 11 6 := ⟨_, jc11, by decide, jt_in (i := 603) (by decide +kernel) rfl⟩
theorem fl_X11_55 : jfl RX11 55 11 7 := ⟨_, jc11, by decide, jt_in (i := 604) (by decide +kernel) rfl⟩
theorem fl_X11_62 : jfl RX11 62 11 8 := ⟨_, jc11, by decide, jt_in (i := 605) (by decide +kernel) rfl⟩
theorem fl_X11_66 : jfl RX11 66 11 9 := ⟨_, jc11, by decide, jt_in (i := 606) (by decide +kernel) rfl⟩
theorem fl_X11_72 : jfl RX11 72 11 10 := ⟨_, jc11, by decide, jt_in (i := 607) (by decide +kernel) rfl⟩
theorem fl_X11_79 : jfl RX11 79 11 11 := ⟨_, jc11, by decide, jt_in (i := 608) (by decide +kernel) rfl⟩
theorem fl_X11_83 : jfl RX11 83 11 12 := ⟨_, jc11, by decide, jt_in (i := 609) (by decide +kernel) rfl⟩
theorem fl_X11_87 : jfl RX11 87 11 13 := ⟨_, jc11, by decide, jt_in (i := 610) (by decide +kernel) rfl⟩
theorem fl_X11_93 : jfl RX11 93 7 1 := ⟨_, jc7, by decide, jt_in (i := 163) (by decide +kernel) rfl⟩
theorem fl_X11_105 : jfl RX11 105 3 8 := ⟨_, jc3, by decide, jt_in (i := 314) (by decide +kernel) rfl⟩
theorem fl_X11_112 : jfl RX11 112 6 4 := ⟨_, jc6, by decide, jt_in (i := 364) (by decide +kernel) rfl⟩
theorem fl_X11_115 : jfl RX11 115 8 10 := ⟨_, jc8, by decide, jt_in (i := 245) (by decide +kernel) rfl⟩
theorem fl_X11_129 : jfl RX11 129 6 0 := ⟨_, jc6, by decide, jt_in (i := 352) (by decide +kernel) rfl⟩
theorem fl_X11_132 : jfl RX11 132 6 1 := ⟨_, jc6, by decide, jt_in (i := 355) (by decide +kernel) rfl⟩
theorem fl_X11_135 : jfl RX11 135 6 2 := ⟨_, jc6, by decide, jt_in (i := 358) (by decide +kernel) rfl⟩
theorem fl_X11_138 : jfl RX11 138 6 3 := ⟨_, jc6, by decide, jt_in (i := 361) (by decide +kernel) rfl⟩
theorem fl_X11_141 : jfl RX11 141 8 12 := ⟨_, jc8, by decide, jt_in (i := 248) (by decide +kernel) rfl⟩
theorem fl_X11_147 : jfl RX11 147 8 3 := ⟨_, jc8, by decide, jt_in (i := 231) (by decide +kernel) rfl⟩
theorem fl_X11_167 : jfl RX11 167 8 0 := ⟨_, jc8, by decide, jt_in (i := 220) (by decide +kernel) rfl⟩
theorem fl_X11_178 : jfl RX11 178 6 8 := ⟨_, jc6, by decide, jt_in (i := 374) (by decide +kernel) rfl⟩
theorem fl_X11_215 : jfl RX11 215 6 7 := ⟨_, jc6, by decide, jt_in (i := 372) (by decide +kernel) rfl⟩
theorem fl_X11_259 : jfl RX11 259 8 1 := ⟨_, jc8, by decide, jt_in (i := 225) (by decide +kernel) rfl⟩
theorem fl_X11_295 : jfl RX11 295 6 6 := ⟨_, jc6, by decide, jt_in (i := 369) (by decide +kernel) rfl⟩
theorem fl_X11_314 : jfl RX11 314 10 2 := ⟨_, jc10, by decide, jt_in (i := 435) (by decide +kernel) rfl⟩
theorem fl_X11_335 : jfl RX11 335 1 4 := ⟨_, jc1, by decide, jt_in (i := 412) (by decide +kernel) rfl⟩
theorem fl_X11_341 : jfl RX11 341 6 9 := ⟨_, jc6, by decide, jt_in (i := 376) (by decide +kernel) rfl⟩
theorem fl_X11_359 : jfl RX11 359 8 4 := ⟨_, jc8, by decide, jt_in (i := 234) (by decide +kernel) rfl⟩
theorem fl_X11_360 : jfl RX11 360 8 8 := ⟨_, jc8, by decide, jt_in (i := 240) (by decide +kernel) rfl⟩
theorem fl_X11_363 : jfl RX11 363 8 7 := ⟨_, jc8, by decide, jt_in (i := 238) (by decide +kernel) rfl⟩
theorem fl_X11_366 : jfl RX11 366 8 9 := ⟨_, jc8, by decide, jt_in (i := 242) (by decide +kernel) rfl⟩
theorem fl_X11_375 : jfl RX11 375 8 2 := ⟨_, jc8, by decide, jt_in (i := 228) (by decide +kernel) rfl⟩
theorem fl_X11_385 : jfl RX11 385 10 0 := ⟨_, jc10, by decide, jt_in (i := 431) (by decide +kernel) rfl⟩
theorem fl_X11_387 : jfl RX11 387 10 1 := ⟨_, jc10, by decide, jt_in (i := 433) (by decide +kernel) rfl⟩
theorem fl_X0_11 : jfl RX0 11 0 0 := ⟨_, jc0, by decide, jt_in (i := 514) (by decide +kernel) rfl⟩
theorem fl_X0_16 : jfl RX0 16 0 1 := ⟨_, jc0, by decide, jt_in (i := 515) (by decide +kernel) rfl⟩
theorem fl_X0_19 : jfl RX0 19 0 2 := ⟨_, jc0, by decide, jt_in (i := 516) (by decide +kernel) rfl⟩
theorem fl_X0_23 : jfl RX0 23 0 3 := ⟨_, jc0, by decide, jt_in (i := 517) (by decide +kernel) rfl⟩
theorem fl_X0_26 : jfl RX0 26 4 5 := ⟨_, jc4, by decide, jt_in (i := 462) (by decide +kernel) rfl⟩
theorem fl_X0_45 : jfl RX0 45 4 6 := ⟨_, jc4, by decide, jt_in (i := 466) (by decide +kernel) rfl⟩
theorem fl_X0_52 : jfl RX0 52 4 7 := ⟨_, jc4, by decide, jt_in (i := 469) (by decide +kernel) rfl⟩
theorem fl_X0_62 : jfl RX0 62 4 4 := ⟨_, jc4, by decide, jt_in (i := 460) (by decide +kernel) rfl⟩
theorem fl_X1_11 : jfl RX1 11 1 0 := ⟨_, jc1, by decide, jt_in (i := 407) (by decide +kernel) rfl⟩
theorem fl_X1_18 : jfl RX1 18 1 1 := ⟨_, jc1, by decide, jt_in (i := 408) (by decide +kernel) rfl⟩
theorem fl_X1_21 : jfl RX1 21 1 2 := ⟨_, jc1, by decide, jt_in (i := 409) (by decide +kernel) rfl⟩
theorem fl_X1_25 : jfl RX1 25 1 4 := ⟨_, jc1, by decide, jt_in (i := 411) (by decide +kernel) rfl⟩
theorem fl_X1_29 : jfl RX1 29 1 3 := ⟨_, jc1, by decide, jt_in (i := 410) (by decide +kernel) rfl⟩
theorem fl_X2_11 : jfl RX2 11 2 0 := ⟨_, jc2, by decide, jt_in (i := 184) (by decide +kernel) rfl⟩
theorem fl_X2_15 : jfl RX2 15 2 1 := ⟨_, jc2, by decide, jt_in (i := 185) (by decide +kernel) rfl⟩
theorem fl_X2_18 : jfl RX2 18 2 2 := ⟨_, jc2, by decide, jt_in (i := 186) (by decide +kernel) rfl⟩
theorem fl_X2_21 : jfl RX2 21 2 3 := ⟨_, jc2, by decide, jt_in (i := 187) (by decide +kernel) rfl⟩
theorem fl_X2_24 : jfl RX2 24 2 4 := ⟨_, jc2, by decide, jt_in (i := 188) (by decide +kernel) rfl⟩
theorem fl_X2_57 : jfl RX2 57 6 1 := ⟨_, jc6, by decide, jt_in (i := 356) (by decide +kernel) rfl⟩
theorem fl_X2_63 : jfl RX2 63 6 0 := ⟨_, jc6, by decide, jt_in (i := 353) (by decide +kernel) rfl⟩
theorem fl_X2_66 : jfl RX2 66 6 5 := ⟨_, jc6, by decide, jt_in (i := 366) (by decide +kernel) rfl⟩
theorem fl_X2_77 : jfl RX2 77 6 2 := ⟨_, jc6, by decide, jt_in (i := 359) (by decide +kernel) rfl⟩
theorem fl_X2_80 : jfl RX2 80 6 3 := ⟨_, jc6, by decide, jt_in (i := 362) (by decide +kernel) rfl⟩
theorem fl_X2_83 : jfl RX2 83 6 7 := ⟨_, jc6, by decide, jt_in (i := 371) (by decide +kernel) rfl⟩
theorem fl_X2_86 : jfl RX2 86 6 6 := ⟨_, jc6, by decide, jt_in (i := 368) (by decide +kernel) rfl⟩
theorem fl_X3_9 : jfl RX3 9 3 0 := ⟨_, jc3, by decide, jt_in (i := 305) (by decide +kernel) rfl⟩
theorem fl_X3_15 : jfl RX3 15 3 2 := ⟨_, jc3, by decide, jt_in (i := 307) (by decide +kernel) rfl⟩
theorem fl_X3_24 : jfl RX3 24 3 1 := ⟨_, jc3, by decide, jt_in (i := 306) (by decide +kernel) rfl⟩
theorem fl_X3_28 : jfl RX3 28 3 8 := ⟨_, jc3, by decide, jt_in (i := 313) (by decide +kernel) rfl⟩
theorem fl_X3_37 : jfl RX3 37 3 6 := ⟨_, jc3, by decide, jt_in (i := 311) (by decide +kernel) rfl⟩
theorem fl_X3_40 : jfl RX3 40 3 7 := ⟨_, jc3, by decide, jt_in (i := 312) (by decide +kernel) rfl⟩
theorem fl_X3_46 : jfl RX3 46 3 3 := ⟨_, jc3, by decide, jt_in (i := 308) (by decide +kernel) rfl⟩
theorem fl_X3_53 : jfl RX3 53 3 4 := ⟨_, jc3, by decide, jt_in (i := 309) (by decide +kernel) rfl⟩
theorem fl_X3_59 : jfl RX3 59 3 5 := ⟨_, jc3, by decide, jt_in (i := 310) (by decide +kernel) rfl⟩
theorem fl_X3_73 : jfl RX3 73 7 1 := ⟨_, jc7, by decide, jt_in (i := 164) (by decide +kernel) rfl⟩
theorem fl_X3_89 : jfl RX3 89 8 3 := ⟨_, jc8, by decide, jt_in (i := 230) (by decide +kernel) rfl⟩
theorem fl_X3_95 : jfl RX3 95 8 4 := ⟨_, jc8, by decide, jt_in (i := 233) (by decide +kernel) rfl⟩
theorem fl_X3_116 : jfl RX3 116 8 0 := ⟨_, jc8, by decide, jt_in (i := 221) (by decide +kernel) rfl⟩
theorem fl_X3_119 : jfl RX3 119 8 1 := ⟨_, jc8, by decide, jt_in (i := 224) (by decide +kernel) rfl⟩
theorem fl_X3_130 : jfl RX3 130 8 2 := ⟨_, jc8, by decide, jt_in (i := 227) (by decide +kernel) rfl⟩
theorem fl_X3_133 : jfl RX3 133 8 12 := ⟨_, jc8, by decide, jt_in (i := 249) (by decide +kernel) rfl⟩
theorem fl_X4_9 : jfl RX4 9 4 0 := ⟨_, jc4, by decide, jt_in (i := 454) (by decide +kernel) rfl⟩
theorem fl_X4_15 : jfl RX4 15 4 1 := ⟨_, jc4, by decide, jt_in (i := 455) (by decide +kernel) rfl⟩
theorem fl_X4_18 : jfl RX4 18 4 2 := ⟨_, jc4, by decide, jt_in (i := 456) (by decide +kernel) rfl⟩
theorem fl_X4_23 : jfl RX4 23 4 4 := ⟨_, jc4, by decide, jt_in (i := 458) (by decide +kernel) rfl⟩
theorem fl_X4_26 : jfl RX4 26 4 3 := ⟨_, jc4, by decide, jt_in (i := 457) (by decide +kernel) rfl⟩
theorem fl_X4_33 : jfl RX4 33 8 0 := ⟨_, jc8, by decide, jt_in (i := 219) (by decide +kernel) rfl⟩
theorem fl_X4_39 : jfl RX4 39 4 5 := ⟨_, jc4, by decide, jt_in (i := 463) (by decide +kernel) rfl⟩
theorem fl_X4_40 : jfl RX4 40 8 1 := ⟨_, jc8, by decide, jt_in (i := 223) (by decide +kernel) rfl⟩
theorem fl_X4_43 : jfl RX4 43 4 6 := ⟨_, jc4, by decide, jt_in (i := 465) (by decide +kernel) rfl⟩
theorem fl_X4_44 : jfl RX4 44 4 7 := ⟨_, jc4, by decide, jt_in (i := 467) (by decide +kernel) rfl⟩
theorem fl_X4_51 : jfl RX4 51 8 10 := ⟨_, jc8, by decide, jt_in (i := 244) (by decide +kernel) rfl⟩
theorem fl_X5_11 : jfl RX5 11 5 0 := ⟨_, jc5, by decide, jt_in (i := 494) (by decide +kernel) rfl⟩
theorem fl_X5_16 : jfl RX5 16 5 1 := ⟨_, jc5, by decide, jt_in (i := 495) (by decide +kernel) rfl⟩
theorem fl_X5_20 : jfl RX5 20 5 2 := ⟨_, jc5, by decide, jt_in (i := 496) (by decide +kernel) rfl⟩
theorem fl_X5_23 : jfl RX5 23 4 5 := ⟨_, jc4, by decide, jt_in (i := 461) (by decide +kernel) rfl⟩
theorem fl_X5_29 : jfl RX5 29 5 3 := ⟨_, jc5, by decide, jt_in (i := 497) (by decide +kernel) rfl⟩
theorem fl_X5_34 : jfl RX5 34 4 6 := ⟨_, jc4, by decide, jt_in (i := 464) (by decide +kernel) rfl⟩
theorem fl_X5_55 : jfl RX5 55 4 7 := ⟨_, jc4, by decide, jt_in (i := 468) (by decide +kernel) rfl⟩
theorem fl_X5_66 : jfl RX5 66 4 4 := ⟨_, jc4, by decide, jt_in (i := 459) (by decide +kernel) rfl⟩
theorem fl_X6_9 : jfl RX6 9 6 0 := ⟨_, jc6, by decide, jt_in (i := 351) (by decide +kernel) rfl⟩
theorem fl_X6_15 : jfl RX6 15 6 1 := ⟨_, jc6, by decide, jt_in (i := 354) (by decide +kernel) rfl⟩
theorem fl_X6_19 : jfl RX6 19 6 2 := ⟨_, jc6, by decide, jt_in (i := 357) (by decide +kernel) rfl⟩
theorem fl_X6_22 : jfl RX6 22 6 3 := ⟨_, jc6, by decide, jt_in (i := 360) (by decide +kernel) rfl⟩
theorem fl_X6_25 : jfl RX6 25 6 4 := ⟨_, jc6, by decide, jt_in (i := 363) (by decide +kernel) rfl⟩
theorem fl_X6_35 : jfl RX6 35 6 5 := ⟨_, jc6, by decide, jt_in (i := 365) (by decide +kernel) rfl⟩
theorem fl_X6_39 : jfl RX6 39 6 7 := ⟨_, jc6, by decide, jt_in (i := 370) (by decide +kernel) rfl⟩
theorem fl_X6_42 : jfl RX6 42 6 8 := ⟨_, jc6, by decide, jt_in (i := 373) (by decide +kernel) rfl⟩
theorem fl_X6_45 : jfl RX6 45 6 9 := ⟨_, jc6, by decide, jt_in (i := 375) (by decide +kernel) rfl⟩
theorem fl_X6_54 : jfl RX6 54 6 6 := ⟨_, jc6, by decide, jt_in (i := 367) (by decide +kernel) rfl⟩
theorem fl_X7_9 : jfl RX7 9 7 0 := ⟨_, jc7, by decide, jt_in (i := 161) (by decide +kernel) rfl⟩
theorem fl_X7_15 : jfl RX7 15 7 1 := ⟨_, jc7, by decide, jt_in (i := 162) (by decide +kernel) rfl⟩
theorem fl_X8_9 : jfl RX8 9 8 5 := ⟨_, jc8, by decide, jt_in (i := 235) (by decide +kernel) rfl⟩
theorem fl_X8_15 : jfl RX8 15 8 6 := ⟨_, jc8, by decide, jt_in (i := 236) (by decide +kernel) rfl⟩
theorem fl_X8_18 : jfl RX8 18 8 7 := ⟨_, jc8, by decide, jt_in (i := 237) (by decide +kernel) rfl⟩
theorem fl_X8_21 : jfl RX8 21 8 8 := ⟨_, jc8, by decide, jt_in (i := 239) (by decide +kernel) rfl⟩
theorem fl_X8_24 : jfl RX8 24 8 9 := ⟨_, jc8, by decide, jt_in (i := 241) (by decide +kernel) rfl⟩
theorem fl_X8_27 : jfl RX8 27 8 10 := ⟨_, jc8, by decide, jt_in (i := 243) (by decide +kernel) rfl⟩
theorem fl_X8_31 : jfl RX8 31 8 11 := ⟨_, jc8, by decide, jt_in (i := 246) (by decide +kernel) rfl⟩
theorem fl_X8_37 : jfl RX8 37 8 12 := ⟨_, jc8, by decide, jt_in (i := 247) (by decide +kernel) rfl⟩
theorem fl_X8_44 : jfl RX8 44 8 0 := ⟨_, jc8, by decide, jt_in (i := 218) (by decide +kernel) rfl⟩
theorem fl_X8_48 : jfl RX8 48 8 1 := ⟨_, jc8, by decide, jt_in (i := 222) (by decide +kernel) rfl⟩
theorem fl_X8_51 : jfl RX8 51 8 2 := ⟨_, jc8, by decide, jt_in (i := 226) (by decide +kernel) rfl⟩
theorem fl_X8_54 : jfl RX8 54 8 3 := ⟨_, jc8, by decide, jt_in (i := 229) (by decide +kernel) rfl⟩
theorem fl_X8_57 : jfl RX8 57 8 4 := ⟨_, jc8, by decide, jt_in (i := 232) (by decide +kernel) rfl⟩
theorem fl_X9_9 : jfl RX9 9 9 0 := ⟨_, jc9, by decide, jt_in (i := 289) (by decide +kernel) rfl⟩
theorem fl_X9_15 : jfl RX9 15 9 1 := ⟨_, jc9, by decide, jt_in (i := 290) (by decide +kernel) rfl⟩
theorem fl_X9_19 : jfl RX9 19 9 2 := ⟨_, jc9, by decide, jt_in (i := 291) (by decide +kernel) rfl⟩
theorem fl_X9_22 : jfl RX9 22 9 3 := ⟨_, jc9, by decide, jt_in (i := 292) (by decide +kernel) rfl⟩
theorem fl_X9_25 : jfl RX9 25 7 1 := ⟨_, jc7, by decide, jt_in (i := 165) (by decide +kernel) rfl⟩
theorem fl_X9_31 : jfl RX9 31 9 4 := ⟨_, jc9, by decide, jt_in (i := 293) (by decide +kernel) rfl⟩
theorem fl_X10_9 : jfl RX10 9 10 0 := ⟨_, jc10, by decide, jt_in (i := 430) (by decide +kernel) rfl⟩
theorem fl_X10_15 : jfl RX10 15 10 1 := ⟨_, jc10, by decide, jt_in (i := 432) (by decide +kernel) rfl⟩
theorem fl_X10_19 : jfl RX10 19 10 2 := ⟨_, jc10, by decide, jt_in (i := 434) (by decide +kernel) rfl⟩
theorem fl_X12_13 : jfl RX12 13 12 1 := ⟨_, jc12, by decide, jt_in (i := 1368) (by decide +kernel) rfl⟩
theorem fl_X12_17 : jfl RX12 17 12 3 := ⟨_, jc12, by decide, jt_in (i := 1370) (by decide +kernel) rfl⟩
theorem fl_X12_20 : jfl RX12 20 12 5 := ⟨_, jc12, by decide, jt_in (i := 1372) (by decide +kernel) rfl⟩
theorem fl_X12_24 : jfl RX12 24 12 6 := ⟨_, jc12, by decide, jt_in (i := 1373) (by decide +kernel) rfl⟩
theorem fl_X12_27 : jfl RX12 27 12 7 := ⟨_, jc12, by decide, jt_in (i := 1374) (by decide +kernel) rfl⟩
theorem fl_X12_30 : jfl RX12 30 12 8 := ⟨_, jc12, by decide, jt_in (i := 1375) (by decide +kernel) rfl⟩
theorem fl_X12_34 : jfl RX12 34 12 9 := ⟨_, jc12, by decide, jt_in (i := 1376) (by decide +kernel) rfl⟩
theorem fl_X12_37 : jfl RX12 37 12 17 := ⟨_, jc12, by decide, jt_in (i := 1384) (by decide +kernel) rfl⟩
theorem fl_X12_40 : jfl RX12 40 12 20 := ⟨_, jc12, by decide, jt_in (i := 1387) (by decide +kernel) rfl⟩
theorem fl_X12_43 : jfl RX12 43 12 21 := ⟨_, jc12, by decide, jt_in (i := 1388) (by decide +kernel) rfl⟩
theorem fl_X12_46 : jfl RX12 46 12 22 := ⟨_, jc12, by decide, jt_in (i := 1389) (by decide +kernel) rfl⟩
theorem fl_X12_49 : jfl RX12 49 12 23 := ⟨_, jc12, by decide, jt_in (i := 1390) (by decide +kernel) rfl⟩
theorem fl_X12_52 : jfl RX12 52 12 24 := ⟨_, jc12, by decide, jt_in (i := 1391) (by decide +kernel) rfl⟩
theorem fl_X12_55 : jfl RX12 55 12 25 := ⟨_, jc12, by decide, jt_in (i := 1392) (by decide +kernel) rfl⟩
theorem fl_X12_58 : jfl RX12 58 12 26 := ⟨_, jc12, by decide, jt_in (i := 1393) (by decide +kernel) rfl⟩
theorem fl_X12_61 : jfl RX12 61 12 27 := ⟨_, jc12, by decide, jt_in (i := 1394) (by decide +kernel) rfl⟩
theorem fl_X12_64 : jfl RX12 64 12 28 := ⟨_, jc12, by decide, jt_in (i := 1395) (by decide +kernel) rfl⟩
theorem fl_X12_67 : jfl RX12 67 12 29 := ⟨_, jc12, by decide, jt_in (i := 1396) (by decide +kernel) rfl⟩
theorem fl_X12_70 : jfl RX12 70 12 30 := ⟨_, jc12, by decide, jt_in (i := 1397) (by decide +kernel) rfl⟩
theorem fl_X12_73 : jfl RX12 73 12 31 := ⟨_, jc12, by decide, jt_in (i := 1398) (by decide +kernel) rfl⟩
theorem fl_X12_76 : jfl RX12 76 12 33 := ⟨_, jc12, by decide, jt_in (i := 1400) (by decide +kernel) rfl⟩
theorem fl_X12_80 : jfl RX12 80 12 34 := ⟨_, jc12, by decide, jt_in (i := 1401) (by decide +kernel) rfl⟩
theorem fl_X12_83 : jfl RX12 83 12 35 := ⟨_, jc12, by decide, jt_in (i := 1402) (by decide +kernel) rfl⟩
theorem fl_X12_86 : jfl RX12 86 12 36 := ⟨_, jc12, by decide, jt_in (i := 1403) (by decide +kernel) rfl⟩
theorem fl_X12_89 : jfl RX12 89 12 37 := ⟨_, jc12, by decide, jt_in (i := 1404) (by decide +kernel) rfl⟩
theorem fl_X12_92 : jfl RX12 92 12 39 := ⟨_, jc12, by decide, jt_in (i := 1406) (by decide +kernel) rfl⟩
theorem fl_X12_95 : jfl RX12 95 12 40 := ⟨_, jc12, by decide, jt_in (i := 1407) (by decide +kernel) rfl⟩
theorem fl_X12_98 : jfl RX12 98 12 41 := ⟨_, jc12, by decide, jt_in (i := 1408) (by decide +kernel) rfl⟩
theorem fl_X12_101 : jfl RX12 101 12 42 := ⟨_, jc12, by decide, jt_in (i := 1409) (by decide +kernel) rfl⟩
theorem fl_X12_104 : jfl RX12 104 12 44 := ⟨_, jc12, by decide, jt_in (i := 1411) (by decide +kernel) rfl⟩
theorem fl_X12_107 : jfl RX12 107 12 45 := ⟨_, jc12, by decide, jt_in (i := 1412) (by decide +kernel) rfl⟩
theorem fl_X12_110 : jfl RX12 110 12 47 := ⟨_, jc12, by decide, jt_in (i := 1414) (by decide +kernel) rfl⟩
theorem fl_X12_113 : jfl RX12 113 12 48 := ⟨_, jc12, by decide, jt_in (i := 1415) (by decide +kernel) rfl⟩
theorem fl_X12_116 : jfl RX12 116 12 50 := ⟨_, jc12, by decide, jt_in (i := 1417) (by decide +kernel) rfl⟩
theorem fl_X12_119 : jfl RX12 119 12 51 := ⟨_, jc12, by decide, jt_in (i := 1418) (by decide +kernel) rfl⟩
theorem fl_X12_122 : jfl RX12 122 12 52 := ⟨_, jc12, by decide, jt_in (i := 1419) (by decide +kernel) rfl⟩
theorem fl_X12_125 : jfl RX12 125 12 54 := ⟨_, jc12, by decide, jt_in (i := 1421) (by decide +kernel) rfl⟩
theorem fl_X12_128 : jfl RX12 128 12 55 := ⟨_, jc12, by decide, jt_in (i := 1422) (by decide +kernel) rfl⟩
theorem fl_X12_131 : jfl RX12 131 12 56 := ⟨_, jc12, by decide, jt_in (i := 1423) (by decide +kernel) rfl⟩
theorem fl_X12_134 : jfl RX12 134 12 57 := ⟨_, jc12, by decide, jt_in (i := 1424) (by decide +kernel) rfl⟩
theorem fl_X12_137 : jfl RX12 137 12 58 := ⟨_, jc12, by decide, jt_in (i := 1425) (by decide +kernel) rfl⟩
theorem fl_X12_140 : jfl RX12 140 12 59 := ⟨_, jc12, by decide, jt_in (i := 1426) (by decide +kernel) rfl⟩
theorem fl_X12_143 : jfl RX12 143 12 60 := ⟨_, jc12, by decide, jt_in (i := 1427) (by decide +kernel) rfl⟩
theorem fl_X12_146 : jfl RX12 146 12 61 := ⟨_, jc12, by decide, jt_in (i := 1428) (by decide +kernel) rfl⟩
theorem fl_X12_149 : jfl RX12 149 12 62 := ⟨_, jc12, by decide, jt_in (i := 1429) (by decide +kernel) rfl⟩
theorem fl_X12_152 : jfl RX12 152 12 64 := ⟨_, jc12, by decide, jt_in (i := 1431) (by decide +kernel) rfl⟩
theorem fl_X12_155 : jfl RX12 155 12 65 := ⟨_, jc12, by decide, jt_in (i := 1432) (by decide +kernel) rfl⟩
theorem fl_X12_158 : jfl RX12 158 12 66 := ⟨_, jc12, by decide, jt_in (i := 1433) (by decide +kernel) rfl⟩
theorem fl_X12_161 : jfl RX12 161 12 67 := ⟨_, jc12, by decide, jt_in (i := 1434) (by decide +kernel) rfl⟩
theorem fl_X12_178 : jfl RX12 178 12 2 := ⟨_, jc12, by decide, jt_in (i := 1369) (by decide +kernel) rfl⟩
theorem fl_X12_184 : jfl RX12 184 12 4 := ⟨_, jc12, by decide, jt_in (i := 1371) (by decide +kernel) rfl⟩
theorem fl_X12_193 : jfl RX12 193 12 10 := ⟨_, jc12, by decide, jt_in (i := 1377) (by decide +kernel) rfl⟩
theorem fl_X12_215 : jfl RX12 215 12 13 := ⟨_, jc12, by decide, jt_in (i := 1380) (by decide +kernel) rfl⟩
theorem fl_X12_218 : jfl RX12 218 12 11 := ⟨_, jc12, by decide, jt_in (i := 1378) (by decide +kernel) rfl⟩
theorem fl_X12_221 : jfl RX12 221 12 14 := ⟨_, jc12, by decide, jt_in (i := 1381) (by decide +kernel) rfl⟩
theorem fl_X12_224 : jfl RX12 224 12 15 := ⟨_, jc12, by decide, jt_in (i := 1382) (by decide +kernel) rfl⟩
theorem fl_X12_227 : jfl RX12 227 12 16 := ⟨_, jc12, by decide, jt_in (i := 1383) (by decide +kernel) rfl⟩
theorem fl_X12_242 : jfl RX12 242 12 12 := ⟨_, jc12, by decide, jt_in (i := 1379) (by decide +kernel) rfl⟩
theorem fl_X12_245 : jfl RX12 245 12 18 := ⟨_, jc12, by decide, jt_in (i := 1385) (by decide +kernel) rfl⟩
theorem fl_X12_248 : jfl RX12 248 12 19 := ⟨_, jc12, by decide, jt_in (i := 1386) (by decide +kernel) rfl⟩
theorem fl_X12_251 : jfl RX12 251 12 32 := ⟨_, jc12, by decide, jt_in (i := 1399) (by decide +kernel) rfl⟩
theorem fl_X12_254 : jfl RX12 254 12 38 := ⟨_, jc12, by decide, jt_in (i := 1405) (by decide +kernel) rfl⟩
theorem fl_X12_268 : jfl RX12 268 12 53 := ⟨_, jc12, by decide, jt_in (i := 1420) (by decide +kernel) rfl⟩
theorem fl_X12_271 : jfl RX12 271 12 63 := ⟨_, jc12, by decide, jt_in (i := 1430) (by decide +kernel) rfl⟩
theorem fl_X12_297 : jfl RX12 297 12 43 := ⟨_, jc12, by decide, jt_in (i := 1410) (by decide +kernel) rfl⟩
theorem fl_X12_310 : jfl RX12 310 12 46 := ⟨_, jc12, by decide, jt_in (i := 1413) (by decide +kernel) rfl⟩
theorem fl_X12_325 : jfl RX12 325 12 49 := ⟨_, jc12, by decide, jt_in (i := 1416) (by decide +kernel) rfl⟩
theorem cl_X11_90 : jcV RX11 90 yX11_startOver cX11_startOver 2 (none) 0 := ⟨jt_all [527, 529, 0, 125] (by decide +kernel) (by decide +kernel), jt_in (i := 530) (by decide +kernel) rfl, by decide +kernel, by decide +kernel, by decide +kernel⟩
theorem cl_X11_97 : jcV RX11 97 yX7_addFour cX7_addFour 3 (none) 1 := ⟨jt_all [644, 645, 646, 126] (by decide +kernel) (by decide +kernel), jt_in (i := 647) (by decide +kernel) rfl, by decide +kernel, by decide +kernel, by decide +kernel⟩
theorem cl_X11_101 : jcV RX11 101 yX3_parse cX3_parse 3 (some .int) 1 := ⟨jt_all [656, 657, 658, 129] (by decide +kernel) (by decide +kernel), jt_in (i := 659) (by decide +kernel) rfl, by decide +kernel, by decide +kernel, by decide +kernel⟩
theorem cl_X11_108 : jcV RX11 108 yX8_hasCell cX8_hasCell 2 (some .boolean) 1 := ⟨jt_all [908, 909, 910, 127] (by decide +kernel) (by decide +kernel), jt_in (i := 911) (by decide +kernel) rfl, by decide +kernel, by decide +kernel, by decide +kernel⟩
theorem cl_X11_119 : jcV RX11 119 yX6_otherCell cX6_otherCell 3 (some .int) 2 := ⟨jt_all [912, 913, 914, 131] (by decide +kernel) (by decide +kernel), jt_in (i := 915) (by decide +kernel) rfl, by decide +kernel, by decide +kernel, by decide +kernel⟩
theorem cl_X11_123 : jcV RX11 123 yX8_isBlack cX8_isBlack 2 (some .boolean) 1 := ⟨jt_all [916, 917, 918, 127] (by decide +kernel) (by decide +kernel), jt_in (i := 919) (by decide +kernel) rfl, by decide +kernel, by decide +kernel, by decide +kernel⟩
theorem cl_X11_126 : jcV RX11 126 yX6_lies cX6_lies 2 (some .boolean) 1 := ⟨jt_all [926, 927, 928, 131] (by decide +kernel) (by decide +kernel), jt_in (i := 929) (by decide +kernel) rfl, by decide +kernel, by decide +kernel, by decide +kernel⟩
theorem cl_X11_150 : jcV RX11 150 yX2_held cX2_held 6 (some .int) 4 := ⟨jt_all [930, 931, 932, 128] (by decide +kernel) (by decide +kernel), jt_in (i := 933) (by decide +kernel) rfl, by decide +kernel, by decide +kernel, by decide +kernel⟩
theorem cl_X11_154 : jcV RX11 154 yX11_isFree cX11_isFree 2 (some .boolean) 1 := ⟨jt_all [952, 954, 26, 125] (by decide +kernel) (by decide +kernel), jt_in (i := 955) (by decide +kernel) rfl, by decide +kernel, by decide +kernel, by decide +kernel⟩
theorem cl_X11_157 : jcV RX11 157 yX8_hasRight cX8_hasRight 2 (some .boolean) 1 := ⟨jt_all [961, 962, 963, 127] (by decide +kernel) (by decide +kernel), jt_in (i := 964) (by decide +kernel) rfl, by decide +kernel, by decide +kernel, by decide +kernel⟩
theorem cl_X11_160 : jcV RX11 160 yX8_hasBelow cX8_hasBelow 2 (some .boolean) 1 := ⟨jt_all [965, 966, 967, 127] (by decide +kernel) (by decide +kernel), jt_in (i := 968) (by decide +kernel) rfl, by decide +kernel, by decide +kernel, by decide +kernel⟩
theorem cl_X11_163 : jcV RX11 163 yX6_leastCouple cX6_leastCouple 2 (some .int) 0 := ⟨jt_all [969, 970, 971, 131] (by decide +kernel) (by decide +kernel), jt_in (i := 972) (by decide +kernel) rfl, by decide +kernel, by decide +kernel, by decide +kernel⟩
theorem cl_X11_170 : jcV RX11 170 yX1_keepForUndo cX1_keepForUndo 2 (none) 1 := ⟨jt_all [974, 975, 976, 133] (by decide +kernel) (by decide +kernel), jt_in (i := 977) (by decide +kernel) rfl, by decide +kernel, by decide +kernel, by decide +kernel⟩
theorem cl_X11_174 : jcV RX11 174 yX6_put cX6_put 4 (none) 3 := ⟨jt_all [532, 533, 534, 131] (by decide +kernel) (by decide +kernel), jt_in (i := 535) (by decide +kernel) rfl, by decide +kernel, by decide +kernel, by decide +kernel⟩
theorem cl_X11_181 : jcV RX11 181 yX6_take cX6_take 2 (none) 1 := ⟨jt_all [990, 991, 992, 131] (by decide +kernel) (by decide +kernel), jt_in (i := 993) (by decide +kernel) rfl, by decide +kernel, by decide +kernel, by decide +kernel⟩
theorem cl_X11_184 : jcV RX11 184 yX11_canTurn cX11_canTurn 5 (some .boolean) 1 := ⟨jt_all [998, 1000, 27, 125] (by decide +kernel) (by decide +kernel), jt_in (i := 1001) (by decide +kernel) rfl, by decide +kernel, by decide +kernel, by decide +kernel⟩
theorem cl_X11_187 : jcV RX11 187 yX11_priceOfTurning cX11_priceOfTurning 4 (some .int) 1 := ⟨jt_all [1002, 1004, 28, 125] (by decide +kernel) (by decide +kernel), jt_in (i := 1005) (by decide +kernel) rfl, by decide +kernel, by decide +kernel, by decide +kernel⟩
theorem cl_X11_191 : jcV RX11 191 yX6_turnTo cX6_turnTo 4 (none) 3 := ⟨jt_all [1006, 1007, 1008, 131] (by decide +kernel) (by decide +kernel), jt_in (i := 1009) (by decide +kernel) rfl, by decide +kernel, by decide +kernel, by decide +kernel⟩
theorem cl_X11_194 : jcV RX11 194 yX4_total cX4_total 1 (some .int) 0 := ⟨jt_all [1014, 1015, 1016, 135] (by decide +kernel) (by decide +kernel), jt_in (i := 1017) (by decide +kernel) rfl, by decide +kernel, by decide +kernel, by decide +kernel⟩
theorem cl_X11_197 : jcV RX11 197 yX6_takeAll cX6_takeAll 1 (none) 0 := ⟨jt_all [1018, 345, 346, 131] (by decide +kernel) (by decide +kernel), jt_in (i := 347) (by decide +kernel) rfl, by decide +kernel, by decide +kernel, by decide +kernel⟩
theorem cl_X11_200 : jcV RX11 200 yX4_lineAt cX4_lineAt 9 (none) 2 := ⟨jt_all [1019, 1020, 1021, 135] (by decide +kernel) (by decide +kernel), jt_in (i := 1022) (by decide +kernel) rfl, by decide +kernel, by decide +kernel, by decide +kernel⟩
theorem cl_X11_204 : jcV RX11 204 yX8_cells cX8_cells 1 (some .int) 0 := ⟨jt_all [1024, 553, 554, 127] (by decide +kernel) (by decide +kernel), jt_in (i := 555) (by decide +kernel) rfl, by decide +kernel, by decide +kernel, by decide +kernel⟩
theorem cl_X11_207 : jcV RX11 207 yX4_isDown cX4_isDown 3 (some .boolean) 2 := ⟨jt_all [1025, 1026, 1027, 135] (by decide +kernel) (by decide +kernel), jt_in (i := 1028) (by decide +kernel) rfl, by decide +kernel, by decide +kernel, by decide +kernel⟩
theorem cl_X11_211 : jcV RX11 211 yX11_passSeasons cX11_passSeasons 4 (none) 2 := ⟨jt_all [1033, 1035, 29, 125] (by decide +kernel) (by decide +kernel), jt_in (i := 1036) (by decide +kernel) rfl, by decide +kernel, by decide +kernel, by decide +kernel⟩
theorem cl_X11_218 : jcV RX11 218 yX1_giveBack cX1_giveBack 2 (some .boolean) 1 := ⟨jt_all [1057, 1058, 1059, 133] (by decide +kernel) (by decide +kernel), jt_in (i := 1060) (by decide +kernel) rfl, by decide +kernel, by decide +kernel, by decide +kernel⟩
theorem cl_X11_222 : jcV RX11 222 yX11_countRest cX11_countRest 1 (none) 0 := ⟨jt_all [1069, 1071, 31, 125] (by decide +kernel) (by decide +kernel), jt_in (i := 1072) (by decide +kernel) rfl, by decide +kernel, by decide +kernel, by decide +kernel⟩
theorem cl_X11_225 : jcV RX11 225 yX8_isOpen cX8_isOpen 2 (some .boolean) 1 := ⟨jt_all [956, 957, 958, 127] (by decide +kernel) (by decide +kernel), jt_in (i := 959) (by decide +kernel) rfl, by decide +kernel, by decide +kernel, by decide +kernel⟩
theorem cl_X11_228 : jcV RX11 228 yX5_share cX5_share 4 (none) 1 := ⟨jt_all [1082, 1083, 1084, 136] (by decide +kernel) (by decide +kernel), jt_in (i := 1085) (by decide +kernel) rfl, by decide +kernel, by decide +kernel, by decide +kernel⟩
theorem cl_X11_232 : jcV RX11 232 yX5_lyingAcross cX5_lyingAcross 2 (some .int) 1 := ⟨jt_all [1112, 1113, 1114, 136] (by decide +kernel) (by decide +kernel), jt_in (i := 1115) (by decide +kernel) rfl, by decide +kernel, by decide +kernel, by decide +kernel⟩
theorem cl_X11_235 : jcV RX11 235 yX11_frozenWith cX11_frozenWith 3 (some .int) 1 := ⟨jt_all [1125, 1127, 38, 125] (by decide +kernel) (by decide +kernel), jt_in (i := 1128) (by decide +kernel) rfl, by decide +kernel, by decide +kernel, by decide +kernel⟩
theorem cl_X11_238 : jcV RX11 238 yX11_closeHolesAndStones cX11_closeHolesAndStones 2 (none) 0 := ⟨jt_all [1073, 1075, 32, 125] (by decide +kernel) (by decide +kernel), jt_in (i := 1076) (by decide +kernel) rfl, by decide +kernel, by decide +kernel, by decide +kernel⟩
theorem cl_X11_241 : jcV RX11 241 yX0_fewestClosed cX0_fewestClosed 4 (some .int) 1 := ⟨jt_all [1141, 1142, 1143, 137] (by decide +kernel) (by decide +kernel), jt_in (i := 1144) (by decide +kernel) rfl, by decide +kernel, by decide +kernel, by decide +kernel⟩
theorem cl_X11_245 : jcV RX11 245 yX11_isPaved cX11_isPaved 1 (some .boolean) 0 := ⟨jt_all [1159, 1161, 40, 125] (by decide +kernel) (by decide +kernel), jt_in (i := 1162) (by decide +kernel) rfl, by decide +kernel, by decide +kernel, by decide +kernel⟩
theorem cl_X11_249 : jcV RX11 249 yX11_traceNow cX11_traceNow 2 (none) 0 := ⟨jt_all [1167, 1169, 42, 125] (by decide +kernel) (by decide +kernel), jt_in (i := 1170) (by decide +kernel) rfl, by decide +kernel, by decide +kernel, by decide +kernel⟩
theorem cl_X11_252 : jcV RX11 252 yX4_numberOf cX4_numberOf 7 (some .int) 1 := ⟨jt_all [1176, 1177, 1178, 135] (by decide +kernel) (by decide +kernel), jt_in (i := 1179) (by decide +kernel) rfl, by decide +kernel, by decide +kernel, by decide +kernel⟩
theorem cl_X11_256 : jcV RX11 256 yX11_hasHills cX11_hasHills 1 (some .boolean) 0 := ⟨jt_all [1184, 1186, 43, 125] (by decide +kernel) (by decide +kernel), jt_in (i := 1187) (by decide +kernel) rfl, by decide +kernel, by decide +kernel, by decide +kernel⟩
theorem cl_X11_262 : jcV RX11 262 yX0_hillAt cX0_hillAt 5 (some .int) 4 := ⟨jt_all [1188, 1189, 1190, 137] (by decide +kernel) (by decide +kernel), jt_in (i := 1191) (by decide +kernel) rfl, by decide +kernel, by decide +kernel, by decide +kernel⟩
theorem cl_X11_266 : jcV RX11 266 yX0_apart cX0_apart 6 (some .int) 3 := ⟨jt_all [1200, 1201, 1202, 137] (by decide +kernel) (by decide +kernel), jt_in (i := 1203) (by decide +kernel) rfl, by decide +kernel, by decide +kernel, by decide +kernel⟩
theorem cl_X11_270 : jcV RX11 270 yX0_weighFar cX0_weighFar 5 (none) 2 := ⟨jt_all [1215, 1216, 1217, 137] (by decide +kernel) (by decide +kernel), jt_in (i := 1218) (by decide +kernel) rfl, by decide +kernel, by decide +kernel, by decide +kernel⟩
theorem cl_X11_274 : jcV RX11 274 yX0_choose cX0_choose 6 (some .int) 2 := ⟨jt_all [1219, 1220, 1221, 137] (by decide +kernel) (by decide +kernel), jt_in (i := 1222) (by decide +kernel) rfl, by decide +kernel, by decide +kernel, by decide +kernel⟩
theorem cl_X11_279 : jcV RX11 279 yX0_weighLow cX0_weighLow 6 (none) 1 := ⟨jt_all [1235, 1236, 1237, 137] (by decide +kernel) (by decide +kernel), jt_in (i := 1238) (by decide +kernel) rfl, by decide +kernel, by decide +kernel, by decide +kernel⟩
theorem cl_X11_282 : jcV RX11 282 yX4_begin cX4_begin 3 (none) 1 := ⟨jt_all [548, 549, 550, 135] (by decide +kernel) (by decide +kernel), jt_in (i := 551) (by decide +kernel) rfl, by decide +kernel, by decide +kernel, by decide +kernel⟩
theorem cl_X11_286 : jcV RX11 286 yX4_close cX4_close 2 (none) 1 := ⟨jt_all [1077, 557, 558, 135] (by decide +kernel) (by decide +kernel), jt_in (i := 559) (by decide +kernel) rfl, by decide +kernel, by decide +kernel, by decide +kernel⟩
theorem cl_X11_289 : jcV RX11 289 yX4_countWays cX4_countWays 3 (none) 0 := ⟨jt_all [570, 571, 572, 135] (by decide +kernel) (by decide +kernel), jt_in (i := 573) (by decide +kernel) rfl, by decide +kernel, by decide +kernel, by decide +kernel⟩
theorem cl_X11_292 : jcV RX11 292 yX6_copyOf cX6_copyOf 3 (none) 1 := ⟨jt_all [1255, 979, 980, 131] (by decide +kernel) (by decide +kernel), jt_in (i := 981) (by decide +kernel) rfl, by decide +kernel, by decide +kernel, by decide +kernel⟩
theorem cl_X11_298 : jcV RX11 298 yX11_seedsThatLoosen cX11_seedsThatLoosen 7 (some .int) 2 := ⟨jt_all [1260, 1262, 46, 125] (by decide +kernel) (by decide +kernel), jt_in (i := 1263) (by decide +kernel) rfl, by decide +kernel, by decide +kernel, by decide +kernel⟩
theorem cl_X11_302 : jcV RX11 302 yX6_ageAll cX6_ageAll 3 (none) 1 := ⟨jt_all [1048, 1049, 1050, 131] (by decide +kernel) (by decide +kernel), jt_in (i := 1051) (by decide +kernel) rfl, by decide +kernel, by decide +kernel, by decide +kernel⟩
theorem cl_X11_305 : jcS RX11 305 yJ6_bitCount_0f7a4 cJ6_bitCount_0f7a4 1 (some .int) 1 := ⟨jt_all [1264, 1265, 146] (by decide +kernel) (by decide +kernel), jt_in (i := 1266) (by decide +kernel) rfl, by decide +kernel, by decide +kernel, by decide +kernel⟩
theorem cl_X11_310 : jcV RX11 310 yX10_note cX10_note 3 (some .int) 2 := ⟨jt_all [1274, 1275, 1276, 134] (by decide +kernel) (by decide +kernel), jt_in (i := 1277) (by decide +kernel) rfl, by decide +kernel, by decide +kernel, by decide +kernel⟩
theorem cl_X11_317 : jcV RX11 317 yX11_countKnown cX11_countKnown 3 (none) 1 := ⟨jt_all [1286, 1288, 47, 125] (by decide +kernel) (by decide +kernel), jt_in (i := 1289) (by decide +kernel) rfl, by decide +kernel, by decide +kernel, by decide +kernel⟩
theorem cl_X11_320 : jcS RX11 320 yJ9_max_7cf53 cJ9_max_7cf53 2 (some .int) 2 := ⟨jt_all [1298, 763, 143] (by decide +kernel) (by decide +kernel), jt_in (i := 764) (by decide +kernel) rfl, by decide +kernel, by decide +kernel, by decide +kernel⟩
theorem cl_X11_325 : jcV RX11 325 yX1_putIntoSlot cX1_putIntoSlot 3 (some .boolean) 2 := ⟨jt_all [1303, 1304, 1305, 133] (by decide +kernel) (by decide +kernel), jt_in (i := 1306) (by decide +kernel) rfl, by decide +kernel, by decide +kernel, by decide +kernel⟩
theorem cl_X11_329 : jcV RX11 329 yX1_takeFromSlot cX1_takeFromSlot 3 (some .boolean) 2 := ⟨jt_all [1311, 1312, 1313, 133] (by decide +kernel) (by decide +kernel), jt_in (i := 1314) (by decide +kernel) rfl, by decide +kernel, by decide +kernel, by decide +kernel⟩
theorem cl_X11_332 : jcV RX11 332 yX6_flatStones cX6_flatStones 3 (some .int) 0 := ⟨jt_all [1319, 1320, 1321, 131] (by decide +kernel) (by decide +kernel), jt_in (i := 1322) (by decide +kernel) rfl, by decide +kernel, by decide +kernel, by decide +kernel⟩
theorem cl_X11_338 : jcV RX11 338 yX1_slotsInUse cX1_slotsInUse 3 (some .int) 0 := ⟨jt_all [1323, 1324, 1325, 133] (by decide +kernel) (by decide +kernel), jt_in (i := 1326) (by decide +kernel) rfl, by decide +kernel, by decide +kernel, by decide +kernel⟩
theorem cl_X11_344 : jcV RX11 344 yX6_coupleBits cX6_coupleBits 3 (some .int) 0 := ⟨jt_all [1327, 1328, 1329, 131] (by decide +kernel) (by decide +kernel), jt_in (i := 1330) (by decide +kernel) rfl, by decide +kernel, by decide +kernel, by decide +kernel⟩
theorem cl_X11_347 : jcV RX11 347 yX11_freeCells cX11_freeCells 1 (some .int) 0 := ⟨jt_all [1163, 1165, 41, 125] (by decide +kernel) (by decide +kernel), jt_in (i := 1166) (by decide +kernel) rfl, by decide +kernel, by decide +kernel, by decide +kernel⟩
theorem cl_X11_350 : jcV RX11 350 yX11_asksOfAll cX11_asksOfAll 3 (some .int) 0 := ⟨jt_all [1331, 1333, 48, 125] (by decide +kernel) (by decide +kernel), jt_in (i := 1334) (by decide +kernel) rfl, by decide +kernel, by decide +kernel, by decide +kernel⟩
theorem cl_X11_353 : jcV RX11 353 yX6_turnedInAll cX6_turnedInAll 3 (some .int) 0 := ⟨jt_all [1335, 1336, 1337, 131] (by decide +kernel) (by decide +kernel), jt_in (i := 1338) (by decide +kernel) rfl, by decide +kernel, by decide +kernel, by decide +kernel⟩
theorem cl_X11_356 : jcV RX11 356 yX6_clear cX6_clear 2 (none) 1 := ⟨jt_all [531, 341, 342, 131] (by decide +kernel) (by decide +kernel), jt_in (i := 343) (by decide +kernel) rfl, by decide +kernel, by decide +kernel, by decide +kernel⟩
theorem cl_X11_369 : jcV RX11 369 yX1_clear cX1_clear 2 (none) 0 := ⟨jt_all [544, 545, 546, 133] (by decide +kernel) (by decide +kernel), jt_in (i := 547) (by decide +kernel) rfl, by decide +kernel, by decide +kernel, by decide +kernel⟩
theorem cl_X11_371 : jcV RX11 371 yX11_couplesThatLoosen cX11_couplesThatLoosen 5 (some .int) 1 := ⟨jt_all [1037, 1039, 30, 125] (by decide +kernel) (by decide +kernel), jt_in (i := 1040) (by decide +kernel) rfl, by decide +kernel, by decide +kernel, by decide +kernel⟩
theorem cl_X11_378 : jcS RX11 378 yX11_lotOfHundred cX11_lotOfHundred 2 (some .int) 2 := ⟨jt_all [1041, 1042, 125] (by decide +kernel) (by decide +kernel), jt_in (i := 1043) (by decide +kernel) rfl, by decide +kernel, by decide +kernel, by decide +kernel⟩
theorem cl_X11_381 : jcS RX11 381 yX11_mixed cX11_mixed 3 (some .int) 2 := ⟨jt_all [1044, 1045, 125] (by decide +kernel) (by decide +kernel), jt_in (i := 1046) (by decide +kernel) rfl, by decide +kernel, by decide +kernel, by decide +kernel⟩
theorem cl_X11_388 : jcV RX11 388 yX4_bind cX4_bind 5 (none) 2 := ⟨jt_all [1290, 1291, 1292, 135] (by decide +kernel) (by decide +kernel), jt_in (i := 1293) (by decide +kernel) rfl, by decide +kernel, by decide +kernel, by decide +kernel⟩
theorem cl_X11_392 : jcV RX11 392 yX5_onlyMate cX5_onlyMate 4 (some .int) 2 := ⟨jt_all [1129, 1130, 1131, 136] (by decide +kernel) (by decide +kernel), jt_in (i := 1132) (by decide +kernel) rfl, by decide +kernel, by decide +kernel, by decide +kernel⟩
theorem cl_X11_396 : jcS RX11 396 yJ7_fill_53178 cJ7_fill_53178 4 (none) 2 := ⟨jt_all [1171, 349, 132] (by decide +kernel) (by decide +kernel), jt_in (i := 350) (by decide +kernel) rfl, by decide +kernel, by decide +kernel, by decide +kernel⟩
theorem cl_X11_402 : jcV RX11 402 yX4_drawDown cX4_drawDown 3 (none) 2 := ⟨jt_all [1172, 1173, 1174, 135] (by decide +kernel) (by decide +kernel), jt_in (i := 1175) (by decide +kernel) rfl, by decide +kernel, by decide +kernel, by decide +kernel⟩
theorem cl_X0_32 : jcV RX0 32 yX4_bit cX4_bit 2 (some .int) 1 := ⟨jt_all [1195, 567, 568, 135] (by decide +kernel) (by decide +kernel), jt_in (i := 569) (by decide +kernel) rfl, by decide +kernel, by decide +kernel, by decide +kernel⟩
theorem cl_X0_36 : jcS RX0 36 yX0_climb cX0_climb 7 (none) 4 := ⟨jt_all [1192, 1193, 137] (by decide +kernel) (by decide +kernel), jt_in (i := 1194) (by decide +kernel) rfl, by decide +kernel, by decide +kernel, by decide +kernel⟩
theorem cl_X0_40 : jcS RX0 40 yJ9_abs_0f7a4 cJ9_abs_0f7a4 1 (some .int) 1 := ⟨jt_all [1208, 1209, 143] (by decide +kernel) (by decide +kernel), jt_in (i := 1210) (by decide +kernel) rfl, by decide +kernel, by decide +kernel, by decide +kernel⟩
theorem cl_X0_48 : jcV RX0 48 yX0_apartInRow cX0_apartInRow 6 (some .int) 3 := ⟨jt_all [1204, 1206, 44, 137] (by decide +kernel) (by decide +kernel), jt_in (i := 1207) (by decide +kernel) rfl, by decide +kernel, by decide +kernel, by decide +kernel⟩
theorem cl_X0_56 : jcS RX0 56 yJ7_fill_53178 cJ7_fill_53178 4 (none) 2 := ⟨jt_all [1145, 349, 132] (by decide +kernel) (by decide +kernel), jt_in (i := 350) (by decide +kernel) rfl, by decide +kernel, by decide +kernel, by decide +kernel⟩
theorem cl_X0_65 : jcV RX0 65 yX0_bestPart cX0_bestPart 9 (some .int) 3 := ⟨jt_all [1224, 1226, 45, 137] (by decide +kernel) (by decide +kernel), jt_in (i := 1227) (by decide +kernel) rfl, by decide +kernel, by decide +kernel, by decide +kernel⟩
theorem cl_X0_68 : jcS RX0 68 yJ9_max_7cf53 cJ9_max_7cf53 2 (some .int) 2 := ⟨jt_all [1229, 763, 143] (by decide +kernel) (by decide +kernel), jt_in (i := 764) (by decide +kernel) rfl, by decide +kernel, by decide +kernel, by decide +kernel⟩
theorem cl_X0_72 : jcV RX0 72 yX4_roomBelow cX4_roomBelow 3 (some .int) 2 := ⟨jt_all [1151, 579, 580, 135] (by decide +kernel) (by decide +kernel), jt_in (i := 581) (by decide +kernel) rfl, by decide +kernel, by decide +kernel, by decide +kernel⟩
theorem cl_X0_75 : jcV RX0 75 yX4_fills cX4_fills 4 (some .boolean) 3 := ⟨jt_all [1228, 587, 588, 135] (by decide +kernel) (by decide +kernel), jt_in (i := 589) (by decide +kernel) rfl, by decide +kernel, by decide +kernel, by decide +kernel⟩
theorem cl_X0_79 : jcS RX0 79 yX4_partAfter cX4_partAfter 3 (some .int) 2 := ⟨jt_all [1154, 595, 135] (by decide +kernel) (by decide +kernel), jt_in (i := 596) (by decide +kernel) rfl, by decide +kernel, by decide +kernel, by decide +kernel⟩
theorem cl_X0_82 : jcV RX0 82 yX4_canReach cX4_canReach 4 (some .boolean) 2 := ⟨jt_all [1146, 575, 576, 135] (by decide +kernel) (by decide +kernel), jt_in (i := 577) (by decide +kernel) rfl, by decide +kernel, by decide +kernel, by decide +kernel⟩
theorem cl_X0_86 : jcV RX0 86 yX0_fewestClosedOn cX0_fewestClosedOn 8 (some .int) 3 := ⟨jt_all [1147, 1149, 39, 137] (by decide +kernel) (by decide +kernel), jt_in (i := 1150) (by decide +kernel) rfl, by decide +kernel, by decide +kernel, by decide +kernel⟩
theorem cl_X0_89 : jcV RX0 89 yX4_lonelyCells cX4_lonelyCells 4 (some .int) 3 := ⟨jt_all [1152, 591, 592, 135] (by decide +kernel) (by decide +kernel), jt_in (i := 593) (by decide +kernel) rfl, by decide +kernel, by decide +kernel, by decide +kernel⟩
theorem cl_X0_93 : jcS RX0 93 yJ9_min_7cf53 cJ9_min_7cf53 2 (some .int) 2 := ⟨jt_all [1153, 766, 143] (by decide +kernel) (by decide +kernel), jt_in (i := 767) (by decide +kernel) rfl, by decide +kernel, by decide +kernel, by decide +kernel⟩
theorem cl_X1_32 : jcV RX1 32 yX6_copyOf cX6_copyOf 3 (none) 1 := ⟨jt_all [978, 979, 980, 131] (by decide +kernel) (by decide +kernel), jt_in (i := 981) (by decide +kernel) rfl, by decide +kernel, by decide +kernel, by decide +kernel⟩
theorem cl_X1_36 : jcS RX1 36 yJ9_min_7cf53 cJ9_min_7cf53 2 (some .int) 2 := ⟨jt_all [985, 766, 143] (by decide +kernel) (by decide +kernel), jt_in (i := 767) (by decide +kernel) rfl, by decide +kernel, by decide +kernel, by decide +kernel⟩
theorem cl_X2_28 : jcV RX2 28 yX2_begin cX2_begin 2 (none) 1 := ⟨jt_all [210, 211, 212, 128] (by decide +kernel) (by decide +kernel), jt_in (i := 213) (by decide +kernel) rfl, by decide +kernel, by decide +kernel, by decide +kernel⟩
theorem cl_X2_32 : jcV RX2 32 yX2_add cX2_add 3 (some .int) 2 := ⟨jt_all [214, 215, 216, 128] (by decide +kernel) (by decide +kernel), jt_in (i := 217) (by decide +kernel) rfl, by decide +kernel, by decide +kernel, by decide +kernel⟩
theorem cl_X2_36 : jcV RX2 36 yX2_worth cX2_worth 12 (some .int) 4 := ⟨jt_all [934, 936, 25, 128] (by decide +kernel) (by decide +kernel), jt_in (i := 937) (by decide +kernel) rfl, by decide +kernel, by decide +kernel, by decide +kernel⟩
theorem cl_X2_40 : jcS RX2 40 yJ9_min_7cf53 cJ9_min_7cf53 2 (some .int) 2 := ⟨jt_all [946, 766, 143] (by decide +kernel) (by decide +kernel), jt_in (i := 767) (by decide +kernel) rfl, by decide +kernel, by decide +kernel, by decide +kernel⟩
theorem cl_X2_45 : jcS RX2 45 yJ9_max_7cf53 cJ9_max_7cf53 2 (some .int) 2 := ⟨jt_all [947, 763, 143] (by decide +kernel) (by decide +kernel), jt_in (i := 764) (by decide +kernel) rfl, by decide +kernel, by decide +kernel, by decide +kernel⟩
theorem cl_X2_48 : jcS RX2 48 yX2_variable cX2_variable 4 (some .int) 4 := ⟨jt_all [938, 939, 128] (by decide +kernel) (by decide +kernel), jt_in (i := 940) (by decide +kernel) rfl, by decide +kernel, by decide +kernel, by decide +kernel⟩
theorem cl_X2_53 : jcS RX2 53 yX2_joined cX2_joined 3 (some .int) 3 := ⟨jt_all [943, 944, 128] (by decide +kernel) (by decide +kernel), jt_in (i := 945) (by decide +kernel) rfl, by decide +kernel, by decide +kernel, by decide +kernel⟩
theorem cl_X2_69 : jcS RX2 69 yX4_columnOf cX4_columnOf 2 (some .int) 2 := ⟨jt_all [941, 564, 135] (by decide +kernel) (by decide +kernel), jt_in (i := 565) (by decide +kernel) rfl, by decide +kernel, by decide +kernel, by decide +kernel⟩
theorem cl_X2_74 : jcS RX2 74 yX4_rowOf cX4_rowOf 2 (some .int) 2 := ⟨jt_all [942, 561, 135] (by decide +kernel) (by decide +kernel), jt_in (i := 562) (by decide +kernel) rfl, by decide +kernel, by decide +kernel, by decide +kernel⟩
theorem cl_X3_32 : jcV RX3 32 yX8_clear cX8_clear 2 (none) 0 := ⟨jt_all [660, 203, 204, 127] (by decide +kernel) (by decide +kernel), jt_in (i := 205) (by decide +kernel) rfl, by decide +kernel, by decide +kernel, by decide +kernel⟩
theorem cl_X3_43 : jcV RX3 43 yX9_cutAll cX9_cutAll 3 (none) 0 := ⟨jt_all [661, 662, 663, 130] (by decide +kernel) (by decide +kernel), jt_in (i := 664) (by decide +kernel) rfl, by decide +kernel, by decide +kernel, by decide +kernel⟩
theorem cl_X3_49 : jcV RX3 49 yX9_kindOf cX9_kindOf 2 (some .int) 1 := ⟨jt_all [806, 807, 808, 130] (by decide +kernel) (by decide +kernel), jt_in (i := 809) (by decide +kernel) rfl, by decide +kernel, by decide +kernel, by decide +kernel⟩
theorem cl_X3_56 : jcV RX3 56 yX9_placeOf cX9_placeOf 2 (some .int) 1 := ⟨jt_all [810, 811, 812, 130] (by decide +kernel) (by decide +kernel), jt_in (i := 813) (by decide +kernel) rfl, by decide +kernel, by decide +kernel, by decide +kernel⟩
theorem cl_X3_62 : jcV RX3 62 yX3_takeTell cX3_takeTell 2 (some .boolean) 0 := ⟨jt_all [814, 816, 9, 129] (by decide +kernel) (by decide +kernel), jt_in (i := 817) (by decide +kernel) rfl, by decide +kernel, by decide +kernel, by decide +kernel⟩
theorem cl_X3_66 : jcV RX3 66 yX3_refuse cX3_refuse 3 (some .boolean) 2 := ⟨jt_all [822, 824, 11, 129] (by decide +kernel) (by decide +kernel), jt_in (i := 825) (by decide +kernel) rfl, by decide +kernel, by decide +kernel, by decide +kernel⟩
theorem cl_X3_70 : jcV RX3 70 yX8_fitsSquare cX8_fitsSquare 3 (some .boolean) 0 := ⟨jt_all [892, 893, 894, 127] (by decide +kernel) (by decide +kernel), jt_in (i := 895) (by decide +kernel) rfl, by decide +kernel, by decide +kernel, by decide +kernel⟩
theorem cl_X3_78 : jcV RX3 78 yX3_accept cX3_accept 2 (some .boolean) 1 := ⟨jt_all [818, 820, 10, 129] (by decide +kernel) (by decide +kernel), jt_in (i := 821) (by decide +kernel) rfl, by decide +kernel, by decide +kernel, by decide +kernel⟩
theorem cl_X3_82 : jcV RX3 82 yX3_takeSquare cX3_takeSquare 1 (some .boolean) 0 := ⟨jt_all [826, 828, 12, 129] (by decide +kernel) (by decide +kernel), jt_in (i := 829) (by decide +kernel) rfl, by decide +kernel, by decide +kernel, by decide +kernel⟩
theorem cl_X3_85 : jcV RX3 85 yX3_acceptOf cX3_acceptOf 2 (some .boolean) 1 := ⟨jt_all [838, 840, 14, 129] (by decide +kernel) (by decide +kernel), jt_in (i := 841) (by decide +kernel) rfl, by decide +kernel, by decide +kernel, by decide +kernel⟩
theorem cl_X3_92 : jcV RX3 92 yX3_takeHole cX3_takeHole 1 (some .boolean) 0 := ⟨jt_all [846, 848, 16, 129] (by decide +kernel) (by decide +kernel), jt_in (i := 849) (by decide +kernel) rfl, by decide +kernel, by decide +kernel, by decide +kernel⟩
theorem cl_X3_98 : jcV RX3 98 yX3_takeStone cX3_takeStone 1 (some .boolean) 0 := ⟨jt_all [854, 856, 17, 129] (by decide +kernel) (by decide +kernel), jt_in (i := 857) (by decide +kernel) rfl, by decide +kernel, by decide +kernel, by decide +kernel⟩
theorem cl_X3_101 : jcV RX3 101 yX3_takeLaw cX3_takeLaw 3 (some .boolean) 1 := ⟨jt_all [862, 864, 18, 129] (by decide +kernel) (by decide +kernel), jt_in (i := 865) (by decide +kernel) rfl, by decide +kernel, by decide +kernel, by decide +kernel⟩
theorem cl_X3_104 : jcV RX3 104 yX3_takeSeed cX3_takeSeed 1 (some .boolean) 0 := ⟨jt_all [888, 890, 23, 129] (by decide +kernel) (by decide +kernel), jt_in (i := 891) (by decide +kernel) rfl, by decide +kernel, by decide +kernel, by decide +kernel⟩
theorem cl_X3_107 : jcV RX3 107 yX9_numberOf cX9_numberOf 2 (some .int) 1 := ⟨jt_all [834, 835, 836, 130] (by decide +kernel) (by decide +kernel), jt_in (i := 837) (by decide +kernel) rfl, by decide +kernel, by decide +kernel, by decide +kernel⟩
theorem cl_X3_110 : jcV RX3 110 yX3_takeNumber cX3_takeNumber 4 (some .boolean) 2 := ⟨jt_all [830, 832, 13, 129] (by decide +kernel) (by decide +kernel), jt_in (i := 833) (by decide +kernel) rfl, by decide +kernel, by decide +kernel, by decide +kernel⟩
theorem cl_X3_113 : jcV RX3 113 yX3_numberBefore cX3_numberBefore 2 (some .int) 1 := ⟨jt_all [842, 844, 15, 129] (by decide +kernel) (by decide +kernel), jt_in (i := 845) (by decide +kernel) rfl, by decide +kernel, by decide +kernel, by decide +kernel⟩
theorem cl_X3_122 : jcV RX3 122 yX8_addHole cX8_addHole 3 (none) 2 := ⟨jt_all [850, 851, 852, 127] (by decide +kernel) (by decide +kernel), jt_in (i := 853) (by decide +kernel) rfl, by decide +kernel, by decide +kernel, by decide +kernel⟩
theorem cl_X3_126 : jcV RX3 126 yX8_addStone cX8_addStone 4 (none) 3 := ⟨jt_all [858, 859, 860, 127] (by decide +kernel) (by decide +kernel), jt_in (i := 861) (by decide +kernel) rfl, by decide +kernel, by decide +kernel, by decide +kernel⟩
theorem cl_X3_137 : jcV RX3 137 yX2_begin cX2_begin 2 (none) 1 := ⟨jt_all [866, 211, 212, 128] (by decide +kernel) (by decide +kernel), jt_in (i := 213) (by decide +kernel) rfl, by decide +kernel, by decide +kernel, by decide +kernel⟩
theorem cl_X3_143 : jcV RX3 143 yX3_takeIf cX3_takeIf 2 (some .boolean) 0 := ⟨jt_all [867, 869, 19, 129] (by decide +kernel) (by decide +kernel), jt_in (i := 870) (by decide +kernel) rfl, by decide +kernel, by decide +kernel, by decide +kernel⟩
theorem cl_X3_146 : jcV RX3 146 yX3_takeSum cX3_takeSum 5 (some .boolean) 1 := ⟨jt_all [871, 873, 20, 129] (by decide +kernel) (by decide +kernel), jt_in (i := 874) (by decide +kernel) rfl, by decide +kernel, by decide +kernel, by decide +kernel⟩
theorem cl_X3_149 : jcV RX3 149 yX2_add cX2_add 3 (some .int) 2 := ⟨jt_all [883, 215, 216, 128] (by decide +kernel) (by decide +kernel), jt_in (i := 217) (by decide +kernel) rfl, by decide +kernel, by decide +kernel, by decide +kernel⟩
theorem cl_X3_153 : jcV RX3 153 yX2_aimHere cX2_aimHere 2 (none) 1 := ⟨jt_all [884, 885, 886, 128] (by decide +kernel) (by decide +kernel), jt_in (i := 887) (by decide +kernel) rfl, by decide +kernel, by decide +kernel, by decide +kernel⟩
theorem cl_X3_156 : jcV RX3 156 yX3_takePart cX3_takePart 5 (some .boolean) 1 := ⟨jt_all [875, 877, 21, 129] (by decide +kernel) (by decide +kernel), jt_in (i := 878) (by decide +kernel) rfl, by decide +kernel, by decide +kernel, by decide +kernel⟩
theorem cl_X3_159 : jcV RX3 159 yX3_takeUnit cX3_takeUnit 2 (some .boolean) 1 := ⟨jt_all [879, 881, 22, 129] (by decide +kernel) (by decide +kernel), jt_in (i := 882) (by decide +kernel) rfl, by decide +kernel, by decide +kernel, by decide +kernel⟩
theorem cl_X4_47 : jcV RX4 47 yX8_cells cX8_cells 1 (some .int) 0 := ⟨jt_all [552, 553, 554, 127] (by decide +kernel) (by decide +kernel), jt_in (i := 555) (by decide +kernel) rfl, by decide +kernel, by decide +kernel, by decide +kernel⟩
theorem cl_X4_55 : jcV RX4 55 yX4_close cX4_close 2 (none) 1 := ⟨jt_all [556, 557, 558, 135] (by decide +kernel) (by decide +kernel), jt_in (i := 559) (by decide +kernel) rfl, by decide +kernel, by decide +kernel, by decide +kernel⟩
theorem cl_X4_59 : jcS RX4 59 yX4_rowOf cX4_rowOf 2 (some .int) 2 := ⟨jt_all [560, 561, 135] (by decide +kernel) (by decide +kernel), jt_in (i := 562) (by decide +kernel) rfl, by decide +kernel, by decide +kernel, by decide +kernel⟩
theorem cl_X4_63 : jcS RX4 63 yX4_columnOf cX4_columnOf 2 (some .int) 2 := ⟨jt_all [563, 564, 135] (by decide +kernel) (by decide +kernel), jt_in (i := 565) (by decide +kernel) rfl, by decide +kernel, by decide +kernel, by decide +kernel⟩
theorem cl_X4_66 : jcV RX4 66 yX4_bit cX4_bit 2 (some .int) 1 := ⟨jt_all [566, 567, 568, 135] (by decide +kernel) (by decide +kernel), jt_in (i := 569) (by decide +kernel) rfl, by decide +kernel, by decide +kernel, by decide +kernel⟩
theorem cl_X4_69 : jcV RX4 69 yX4_roomBelow cX4_roomBelow 3 (some .int) 2 := ⟨jt_all [578, 579, 580, 135] (by decide +kernel) (by decide +kernel), jt_in (i := 581) (by decide +kernel) rfl, by decide +kernel, by decide +kernel, by decide +kernel⟩
theorem cl_X4_72 : jcV RX4 72 yX4_lonelyCells cX4_lonelyCells 4 (some .int) 3 := ⟨jt_all [590, 591, 592, 135] (by decide +kernel) (by decide +kernel), jt_in (i := 593) (by decide +kernel) rfl, by decide +kernel, by decide +kernel, by decide +kernel⟩
theorem cl_X4_76 : jcV RX4 76 yX4_canReach cX4_canReach 4 (some .boolean) 2 := ⟨jt_all [574, 575, 576, 135] (by decide +kernel) (by decide +kernel), jt_in (i := 577) (by decide +kernel) rfl, by decide +kernel, by decide +kernel, by decide +kernel⟩
theorem cl_X4_80 : jcV RX4 80 yX4_waysOn cX4_waysOn 7 (some .int) 2 := ⟨jt_all [582, 584, 3, 135] (by decide +kernel) (by decide +kernel), jt_in (i := 585) (by decide +kernel) rfl, by decide +kernel, by decide +kernel, by decide +kernel⟩
theorem cl_X4_83 : jcV RX4 83 yX4_fills cX4_fills 4 (some .boolean) 3 := ⟨jt_all [586, 587, 588, 135] (by decide +kernel) (by decide +kernel), jt_in (i := 589) (by decide +kernel) rfl, by decide +kernel, by decide +kernel, by decide +kernel⟩
theorem cl_X4_87 : jcS RX4 87 yX4_partAfter cX4_partAfter 3 (some .int) 2 := ⟨jt_all [594, 595, 135] (by decide +kernel) (by decide +kernel), jt_in (i := 596) (by decide +kernel) rfl, by decide +kernel, by decide +kernel, by decide +kernel⟩
theorem cl_X4_90 : jcS RX4 90 yJ7_fill_53178 cJ7_fill_53178 4 (none) 2 := ⟨jt_all [1023, 349, 132] (by decide +kernel) (by decide +kernel), jt_in (i := 350) (by decide +kernel) rfl, by decide +kernel, by decide +kernel, by decide +kernel⟩
theorem cl_X5_30 : jcV RX5 30 yX5_countReach cX5_countReach 4 (none) 1 := ⟨jt_all [1086, 1088, 33, 136] (by decide +kernel) (by decide +kernel), jt_in (i := 1089) (by decide +kernel) rfl, by decide +kernel, by decide +kernel, by decide +kernel⟩
theorem cl_X5_37 : jcV RX5 37 yX4_bit cX4_bit 2 (some .int) 1 := ⟨jt_all [1098, 567, 568, 135] (by decide +kernel) (by decide +kernel), jt_in (i := 569) (by decide +kernel) rfl, by decide +kernel, by decide +kernel, by decide +kernel⟩
theorem cl_X5_41 : jcV RX5 41 yX5_passing cX5_passing 6 (some .int) 3 := ⟨jt_all [1099, 1101, 35, 136] (by decide +kernel) (by decide +kernel), jt_in (i := 1102) (by decide +kernel) rfl, by decide +kernel, by decide +kernel, by decide +kernel⟩
theorem cl_X5_45 : jcV RX5 45 yX5_shareRow cX5_shareRow 8 (none) 2 := ⟨jt_all [1103, 1105, 36, 136] (by decide +kernel) (by decide +kernel), jt_in (i := 1106) (by decide +kernel) rfl, by decide +kernel, by decide +kernel, by decide +kernel⟩
theorem cl_X5_49 : jcS RX5 49 yJ7_fill_53178 cJ7_fill_53178 4 (none) 2 := ⟨jt_all [1090, 349, 132] (by decide +kernel) (by decide +kernel), jt_in (i := 350) (by decide +kernel) rfl, by decide +kernel, by decide +kernel, by decide +kernel⟩
theorem cl_X5_58 : jcV RX5 58 yX5_reachOn cX5_reachOn 7 (none) 3 := ⟨jt_all [1091, 1093, 34, 136] (by decide +kernel) (by decide +kernel), jt_in (i := 1094) (by decide +kernel) rfl, by decide +kernel, by decide +kernel, by decide +kernel⟩
theorem cl_X5_62 : jcV RX5 62 yX4_roomBelow cX4_roomBelow 3 (some .int) 2 := ⟨jt_all [1095, 579, 580, 135] (by decide +kernel) (by decide +kernel), jt_in (i := 581) (by decide +kernel) rfl, by decide +kernel, by decide +kernel, by decide +kernel⟩
theorem cl_X5_69 : jcV RX5 69 yX4_fills cX4_fills 4 (some .boolean) 3 := ⟨jt_all [1096, 587, 588, 135] (by decide +kernel) (by decide +kernel), jt_in (i := 589) (by decide +kernel) rfl, by decide +kernel, by decide +kernel, by decide +kernel⟩
theorem cl_X5_73 : jcS RX5 73 yX4_partAfter cX4_partAfter 3 (some .int) 2 := ⟨jt_all [1097, 595, 135] (by decide +kernel) (by decide +kernel), jt_in (i := 596) (by decide +kernel) rfl, by decide +kernel, by decide +kernel, by decide +kernel⟩
theorem cl_X5_76 : jcV RX5 76 yX4_isClosed cX4_isClosed 3 (some .boolean) 2 := ⟨jt_all [1107, 1108, 1109, 135] (by decide +kernel) (by decide +kernel), jt_in (i := 1110) (by decide +kernel) rfl, by decide +kernel, by decide +kernel, by decide +kernel⟩
theorem cl_X5_80 : jcV RX5 80 yX4_total cX4_total 1 (some .int) 0 := ⟨jt_all [1111, 1015, 1016, 135] (by decide +kernel) (by decide +kernel), jt_in (i := 1017) (by decide +kernel) rfl, by decide +kernel, by decide +kernel, by decide +kernel⟩
theorem cl_X5_84 : jcS RX5 84 yX4_columnOf cX4_columnOf 2 (some .int) 2 := ⟨jt_all [1120, 564, 135] (by decide +kernel) (by decide +kernel), jt_in (i := 565) (by decide +kernel) rfl, by decide +kernel, by decide +kernel, by decide +kernel⟩
theorem cl_X5_87 : jcV RX5 87 yX5_flatWithLeft cX5_flatWithLeft 2 (some .int) 1 := ⟨jt_all [1116, 1118, 37, 136] (by decide +kernel) (by decide +kernel), jt_in (i := 1119) (by decide +kernel) rfl, by decide +kernel, by decide +kernel, by decide +kernel⟩
theorem cl_X6_32 : jcV RX6 32 yX6_takeAll cX6_takeAll 1 (none) 0 := ⟨jt_all [344, 345, 346, 131] (by decide +kernel) (by decide +kernel), jt_in (i := 347) (by decide +kernel) rfl, by decide +kernel, by decide +kernel, by decide +kernel⟩
theorem cl_X6_48 : jcS RX6 48 yJ7_fill_53178 cJ7_fill_53178 4 (none) 2 := ⟨jt_all [348, 349, 132] (by decide +kernel) (by decide +kernel), jt_in (i := 350) (by decide +kernel) rfl, by decide +kernel, by decide +kernel, by decide +kernel⟩
theorem cl_X6_63 : jcV RX6 63 yX6_lies cX6_lies 2 (some .boolean) 1 := ⟨jt_all [973, 927, 928, 131] (by decide +kernel) (by decide +kernel), jt_in (i := 929) (by decide +kernel) rfl, by decide +kernel, by decide +kernel, by decide +kernel⟩
theorem cl_X6_67 : jcV RX6 67 yX6_second cX6_second 2 (some .int) 1 := ⟨jt_all [540, 542, 2, 131] (by decide +kernel) (by decide +kernel), jt_in (i := 543) (by decide +kernel) rfl, by decide +kernel, by decide +kernel, by decide +kernel⟩
theorem cl_X6_71 : jcV RX6 71 yX6_occupy cX6_occupy 4 (none) 3 := ⟨jt_all [536, 538, 1, 131] (by decide +kernel) (by decide +kernel), jt_in (i := 539) (by decide +kernel) rfl, by decide +kernel, by decide +kernel, by decide +kernel⟩
theorem cl_X6_75 : jcV RX6 75 yX6_take cX6_take 2 (none) 1 := ⟨jt_all [1052, 991, 992, 131] (by decide +kernel) (by decide +kernel), jt_in (i := 993) (by decide +kernel) rfl, by decide +kernel, by decide +kernel, by decide +kernel⟩
theorem cl_X8_60 : jcV RX8 60 yX2_clear cX2_clear 1 (none) 0 := ⟨jt_all [206, 207, 208, 128] (by decide +kernel) (by decide +kernel), jt_in (i := 209) (by decide +kernel) rfl, by decide +kernel, by decide +kernel, by decide +kernel⟩
theorem cl_X8_61 : jcV RX8 61 yX8_mark cX8_mark 3 (some .boolean) 2 := ⟨jt_all [896, 898, 24, 127] (by decide +kernel) (by decide +kernel), jt_in (i := 899) (by decide +kernel) rfl, by decide +kernel, by decide +kernel, by decide +kernel⟩
theorem cl_X8_65 : jcV RX8 65 yX8_hasCell cX8_hasCell 2 (some .boolean) 1 := ⟨jt_all [960, 909, 910, 127] (by decide +kernel) (by decide +kernel), jt_in (i := 911) (by decide +kernel) rfl, by decide +kernel, by decide +kernel, by decide +kernel⟩
theorem cl_X8_69 : jcS RX8 69 yX4_columnOf cX4_columnOf 2 (some .int) 2 := ⟨jt_all [921, 564, 135] (by decide +kernel) (by decide +kernel), jt_in (i := 565) (by decide +kernel) rfl, by decide +kernel, by decide +kernel, by decide +kernel⟩
theorem cl_X8_75 : jcS RX8 75 yX4_rowOf cX4_rowOf 2 (some .int) 2 := ⟨jt_all [920, 561, 135] (by decide +kernel) (by decide +kernel), jt_in (i := 562) (by decide +kernel) rfl, by decide +kernel, by decide +kernel, by decide +kernel⟩
theorem cl_X9_34 : jcV RX9 34 yX9_skipBlanks cX9_skipBlanks 2 (none) 0 := ⟨jt_all [665, 667, 4, 130] (by decide +kernel) (by decide +kernel), jt_in (i := 668) (by decide +kernel) rfl, by decide +kernel, by decide +kernel, by decide +kernel⟩
theorem cl_X9_37 : jcV RX9 37 yX9_cutOne cX9_cutOne 4 (some .int) 1 := ⟨jt_all [676, 678, 5, 130] (by decide +kernel) (by decide +kernel), jt_in (i := 679) (by decide +kernel) rfl, by decide +kernel, by decide +kernel, by decide +kernel⟩
theorem cl_X9_41 : jcV RX9 41 yX7_at cX7_at 2 (some .int) 1 := ⟨jt_all [669, 670, 671, 126] (by decide +kernel) (by decide +kernel), jt_in (i := 672) (by decide +kernel) rfl, by decide +kernel, by decide +kernel, by decide +kernel⟩
theorem cl_X9_44 : jcS RX9 44 yX9_isBlank cX9_isBlank 1 (some .boolean) 1 := ⟨jt_all [673, 674, 130] (by decide +kernel) (by decide +kernel), jt_in (i := 675) (by decide +kernel) rfl, by decide +kernel, by decide +kernel, by decide +kernel⟩
theorem cl_X9_48 : jcS RX9 48 yX9_isLetter cX9_isLetter 1 (some .boolean) 1 := ⟨jt_all [680, 681, 130] (by decide +kernel) (by decide +kernel), jt_in (i := 682) (by decide +kernel) rfl, by decide +kernel, by decide +kernel, by decide +kernel⟩
theorem cl_X9_51 : jcV RX9 51 yX9_cutWord cX9_cutWord 3 (some .int) 1 := ⟨jt_all [683, 685, 6, 130] (by decide +kernel) (by decide +kernel), jt_in (i := 686) (by decide +kernel) rfl, by decide +kernel, by decide +kernel, by decide +kernel⟩
theorem cl_X9_54 : jcS RX9 54 yX9_isDigit cX9_isDigit 1 (some .boolean) 1 := ⟨jt_all [732, 733, 130] (by decide +kernel) (by decide +kernel), jt_in (i := 734) (by decide +kernel) rfl, by decide +kernel, by decide +kernel, by decide +kernel⟩
theorem cl_X9_57 : jcV RX9 57 yX9_cutNumber cX9_cutNumber 5 (some .int) 2 := ⟨jt_all [735, 737, 8, 130] (by decide +kernel) (by decide +kernel), jt_in (i := 738) (by decide +kernel) rfl, by decide +kernel, by decide +kernel, by decide +kernel⟩
theorem cl_X9_68 : jcV RX9 68 yX9_isWord cX9_isWord 5 (some .boolean) 2 := ⟨jt_all [687, 689, 7, 130] (by decide +kernel) (by decide +kernel), jt_in (i := 690) (by decide +kernel) rfl, by decide +kernel, by decide +kernel, by decide +kernel⟩
theorem cl_X12_164 : jcV RX12 164 yX12_plain cX12_plain 3 (none) 1 := ⟨jt_all [1345, 1347, 49, 138] (by decide +kernel) (by decide +kernel), jt_in (i := 1348) (by decide +kernel) rfl, by decide +kernel, by decide +kernel, by decide +kernel⟩
theorem cl_X12_172 : jcV RX12 172 yX12_begins cX12_begins 2 (none) 0 := ⟨jt_all [1356, 1358, 50, 138] (by decide +kernel) (by decide +kernel), jt_in (i := 1359) (by decide +kernel) rfl, by decide +kernel, by decide +kernel, by decide +kernel⟩
theorem cl_X12_175 : jcV RX12 175 yX12_keepsRow cX12_keepsRow 2 (none) 0 := ⟨jt_all [1364, 1366, 52, 138] (by decide +kernel) (by decide +kernel), jt_in (i := 1367) (by decide +kernel) rfl, by decide +kernel, by decide +kernel, by decide +kernel⟩
theorem cl_X12_181 : jcV RX12 181 yX12_put cX12_put 3 (none) 1 := ⟨jt_all [1577, 1579, 53, 138] (by decide +kernel) (by decide +kernel), jt_in (i := 1580) (by decide +kernel) rfl, by decide +kernel, by decide +kernel, by decide +kernel⟩
theorem cl_X12_189 : jcS RX12 189 yX12_appends cX12_appends 3 (some .long) 2 := ⟨jt_all [1352, 1353, 138] (by decide +kernel) (by decide +kernel), jt_in (i := 1354) (by decide +kernel) rfl, by decide +kernel, by decide +kernel, by decide +kernel⟩
theorem cl_X12_196 : jcV RX12 196 yX12_byteAt cX12_byteAt 2 (some .int) 1 := ⟨jt_all [1593, 1595, 55, 138] (by decide +kernel) (by decide +kernel), jt_in (i := 1596) (by decide +kernel) rfl, by decide +kernel, by decide +kernel, by decide +kernel⟩
theorem cl_X12_200 : jcV RX12 200 yX12_token cX12_token 6 (none) 4 := ⟨jt_all [1597, 1599, 56, 138] (by decide +kernel) (by decide +kernel), jt_in (i := 1600) (by decide +kernel) rfl, by decide +kernel, by decide +kernel, by decide +kernel⟩
theorem cl_X12_204 : jcS RX12 204 yX12_isLetter cX12_isLetter 1 (some .boolean) 1 := ⟨jt_all [1601, 1602, 138] (by decide +kernel) (by decide +kernel), jt_in (i := 1603) (by decide +kernel) rfl, by decide +kernel, by decide +kernel, by decide +kernel⟩
theorem cl_X12_208 : jcS RX12 208 yX12_isDigit cX12_isDigit 1 (some .boolean) 1 := ⟨jt_all [1604, 1605, 138] (by decide +kernel) (by decide +kernel), jt_in (i := 1606) (by decide +kernel) rfl, by decide +kernel, by decide +kernel, by decide +kernel⟩
theorem cl_X12_211 : jcV RX12 211 yX12_sign cX12_sign 5 (some .int) 3 := ⟨jt_all [1607, 1609, 57, 138] (by decide +kernel) (by decide +kernel), jt_in (i := 1610) (by decide +kernel) rfl, by decide +kernel, by decide +kernel, by decide +kernel⟩
theorem cl_X12_230 : jcV RX12 230 yX12_fail cX12_fail 2 (none) 1 := ⟨jt_all [1623, 1625, 61, 138] (by decide +kernel) (by decide +kernel), jt_in (i := 1626) (by decide +kernel) rfl, by decide +kernel, by decide +kernel, by decide +kernel⟩
theorem cl_X12_233 : jcV RX12 233 yX12_is cX12_is 2 (some .boolean) 1 := ⟨jt_all [1611, 1613, 58, 138] (by decide +kernel) (by decide +kernel), jt_in (i := 1614) (by decide +kernel) rfl, by decide +kernel, by decide +kernel, by decide +kernel⟩
theorem cl_X12_236 : jcV RX12 236 yX12_goesOn cX12_goesOn 1 (none) 0 := ⟨jt_all [1619, 1621, 60, 138] (by decide +kernel) (by decide +kernel), jt_in (i := 1622) (by decide +kernel) rfl, by decide +kernel, by decide +kernel, by decide +kernel⟩
theorem cl_X12_239 : jcV RX12 239 yX12_cut cX12_cut 8 (none) 0 := ⟨jt_all [1589, 1591, 54, 138] (by decide +kernel) (by decide +kernel), jt_in (i := 1592) (by decide +kernel) rfl, by decide +kernel, by decide +kernel, by decide +kernel⟩
theorem cl_X12_257 : jcV RX12 257 yX12_tellOne cX12_tellOne 2 (none) 0 := ⟨jt_all [1615, 1617, 59, 138] (by decide +kernel) (by decide +kernel), jt_in (i := 1618) (by decide +kernel) rfl, by decide +kernel, by decide +kernel, by decide +kernel⟩
theorem cl_X12_260 : jcV RX12 260 yX12_isSquare cX12_isSquare 3 (some .boolean) 0 := ⟨jt_all [1667, 1669, 72, 138] (by decide +kernel) (by decide +kernel), jt_in (i := 1670) (by decide +kernel) rfl, by decide +kernel, by decide +kernel, by decide +kernel⟩
theorem cl_X12_264 : jcV RX12 264 yX12_wrong cX12_wrong 4 (none) 2 := ⟨jt_all [1631, 1633, 63, 138] (by decide +kernel) (by decide +kernel), jt_in (i := 1634) (by decide +kernel) rfl, by decide +kernel, by decide +kernel, by decide +kernel⟩
theorem cl_X12_274 : jcV RX12 274 yX12_takes cX12_takes 3 (some .boolean) 2 := ⟨jt_all [1671, 1673, 73, 138] (by decide +kernel) (by decide +kernel), jt_in (i := 1674) (by decide +kernel) rfl, by decide +kernel, by decide +kernel, by decide +kernel⟩
theorem cl_X12_278 : jcV RX12 278 yX12_bounded cX12_bounded 4 (some .int) 2 := ⟨jt_all [1627, 1629, 62, 138] (by decide +kernel) (by decide +kernel), jt_in (i := 1630) (by decide +kernel) rfl, by decide +kernel, by decide +kernel, by decide +kernel⟩
theorem cl_X12_282 : jcV RX12 282 yX12_must cX12_must 2 (none) 1 := ⟨jt_all [1635, 1637, 64, 138] (by decide +kernel) (by decide +kernel), jt_in (i := 1638) (by decide +kernel) rfl, by decide +kernel, by decide +kernel, by decide +kernel⟩
theorem cl_X12_285 : jcV RX12 285 yX12_roomFor cX12_roomFor 3 (none) 2 := ⟨jt_all [1639, 1641, 65, 138] (by decide +kernel) (by decide +kernel), jt_in (i := 1642) (by decide +kernel) rfl, by decide +kernel, by decide +kernel, by decide +kernel⟩
theorem cl_X12_288 : jcV RX12 288 yX12_tellLaw cX12_tellLaw 4 (none) 1 := ⟨jt_all [1643, 1645, 66, 138] (by decide +kernel) (by decide +kernel), jt_in (i := 1646) (by decide +kernel) rfl, by decide +kernel, by decide +kernel, by decide +kernel⟩
theorem cl_X12_291 : jcV RX12 291 yX12_expression cX12_expression 3 (none) 0 := ⟨jt_all [1647, 1649, 67, 138] (by decide +kernel) (by decide +kernel), jt_in (i := 1650) (by decide +kernel) rfl, by decide +kernel, by decide +kernel, by decide +kernel⟩
theorem cl_X12_294 : jcV RX12 294 yX12_term cX12_term 1 (none) 0 := ⟨jt_all [1663, 1665, 71, 138] (by decide +kernel) (by decide +kernel), jt_in (i := 1666) (by decide +kernel) rfl, by decide +kernel, by decide +kernel, by decide +kernel⟩
theorem cl_X12_300 : jcV RX12 300 yX12_emit cX12_emit 3 (none) 2 := ⟨jt_all [1655, 1657, 69, 138] (by decide +kernel) (by decide +kernel), jt_in (i := 1658) (by decide +kernel) rfl, by decide +kernel, by decide +kernel, by decide +kernel⟩
theorem cl_X12_303 : jcV RX12 303 yX12_unit cX12_unit 1 (none) 0 := ⟨jt_all [1651, 1653, 68, 138] (by decide +kernel) (by decide +kernel), jt_in (i := 1654) (by decide +kernel) rfl, by decide +kernel, by decide +kernel, by decide +kernel⟩
theorem cl_X12_306 : jcV RX12 306 yX12_comesOut cX12_comesOut 3 (none) 1 := ⟨jt_all [1659, 1661, 70, 138] (by decide +kernel) (by decide +kernel), jt_in (i := 1662) (by decide +kernel) rfl, by decide +kernel, by decide +kernel, by decide +kernel⟩
theorem cl_X12_314 : jcV RX12 314 yX12_cells cX12_cells 1 (some .int) 0 := ⟨jt_all [1687, 1689, 75, 138] (by decide +kernel) (by decide +kernel), jt_in (i := 1690) (by decide +kernel) rfl, by decide +kernel, by decide +kernel, by decide +kernel⟩
theorem cl_X12_318 : jcS RX12 318 yX12_in cX12_in 3 (some .boolean) 3 := ⟨jt_all [1691, 1692, 138] (by decide +kernel) (by decide +kernel), jt_in (i := 1693) (by decide +kernel) rfl, by decide +kernel, by decide +kernel, by decide +kernel⟩
theorem cl_X12_322 : jcV RX12 322 yX12_w cX12_w 1 (some .int) 0 := ⟨jt_all [1360, 1362, 51, 138] (by decide +kernel) (by decide +kernel), jt_in (i := 1363) (by decide +kernel) rfl, by decide +kernel, by decide +kernel, by decide +kernel⟩
theorem cl_X12_329 : jcS RX12 329 yX12_mixed cX12_mixed 3 (some .int) 2 := ⟨jt_all [1808, 1809, 138] (by decide +kernel) (by decide +kernel), jt_in (i := 1810) (by decide +kernel) rfl, by decide +kernel, by decide +kernel, by decide +kernel⟩
theorem cl_X12_332 : jcV RX12 332 yX12_lies cX12_lies 2 (some .boolean) 1 := ⟨jt_all [1702, 1704, 78, 138] (by decide +kernel) (by decide +kernel), jt_in (i := 1705) (by decide +kernel) rfl, by decide +kernel, by decide +kernel, by decide +kernel⟩
theorem cl_X12_335 : jcV RX12 335 yX12_otherCell cX12_otherCell 2 (some .int) 1 := ⟨jt_all [1706, 1708, 79, 138] (by decide +kernel) (by decide +kernel), jt_in (i := 1709) (by decide +kernel) rfl, by decide +kernel, by decide +kernel, by decide +kernel⟩
theorem cl_X12_338 : jcV RX12 338 yX12_isCell cX12_isCell 2 (some .boolean) 1 := ⟨jt_all [1683, 1685, 74, 138] (by decide +kernel) (by decide +kernel), jt_in (i := 1686) (by decide +kernel) rfl, by decide +kernel, by decide +kernel, by decide +kernel⟩
theorem cl_X12_341 : jcV RX12 341 yX12_coupleAt cX12_coupleAt 3 (some .int) 1 := ⟨jt_all [1698, 1700, 77, 138] (by decide +kernel) (by decide +kernel), jt_in (i := 1701) (by decide +kernel) rfl, by decide +kernel, by decide +kernel, by decide +kernel⟩
theorem cl_X12_344 : jcV RX12 344 yX12_stoneMany cX12_stoneMany 3 (some .int) 0 := ⟨jt_all [1726, 1728, 83, 138] (by decide +kernel) (by decide +kernel), jt_in (i := 1729) (by decide +kernel) rfl, by decide +kernel, by decide +kernel, by decide +kernel⟩
theorem cl_X12_347 : jcV RX12 347 yX12_termOf cX12_termOf 8 (some .int) 2 := ⟨jt_all [1734, 1736, 85, 138] (by decide +kernel) (by decide +kernel), jt_in (i := 1737) (by decide +kernel) rfl, by decide +kernel, by decide +kernel, by decide +kernel⟩
theorem cl_X12_350 : jcV RX12 350 yX12_lawTells cX12_lawTells 7 (some .int) 2 := ⟨jt_all [1730, 1732, 84, 138] (by decide +kernel) (by decide +kernel), jt_in (i := 1733) (by decide +kernel) rfl, by decide +kernel, by decide +kernel, by decide +kernel⟩
theorem cl_X12_353 : jcS RX12 353 yX12_within cX12_within 3 (some .int) 3 := ⟨jt_all [1738, 1739, 138] (by decide +kernel) (by decide +kernel), jt_in (i := 1740) (by decide +kernel) rfl, by decide +kernel, by decide +kernel, by decide +kernel⟩
theorem cl_X12_356 : jcV RX12 356 yX12_tellsOf cX12_tellsOf 5 (some .int) 4 := ⟨jt_all [1722, 1724, 82, 138] (by decide +kernel) (by decide +kernel), jt_in (i := 1725) (by decide +kernel) rfl, by decide +kernel, by decide +kernel, by decide +kernel⟩
theorem cl_X12_360 : jcV RX12 360 yX12_laid cX12_laid 4 (none) 3 := ⟨jt_all [1757, 1759, 89, 138] (by decide +kernel) (by decide +kernel), jt_in (i := 1760) (by decide +kernel) rfl, by decide +kernel, by decide +kernel, by decide +kernel⟩
theorem cl_X12_364 : jcV RX12 364 yX12_secondCell cX12_secondCell 3 (some .int) 2 := ⟨jt_all [1753, 1755, 88, 138] (by decide +kernel) (by decide +kernel), jt_in (i := 1756) (by decide +kernel) rfl, by decide +kernel, by decide +kernel, by decide +kernel⟩
theorem cl_X12_367 : jcV RX12 367 yX12_stoneOf cX12_stoneOf 4 (some .int) 2 := ⟨jt_all [1781, 1783, 93, 138] (by decide +kernel) (by decide +kernel), jt_in (i := 1784) (by decide +kernel) rfl, by decide +kernel, by decide +kernel, by decide +kernel⟩
theorem cl_X12_370 : jcV RX12 370 yX12_asksOf cX12_asksOf 2 (some .int) 1 := ⟨jt_all [1718, 1720, 81, 138] (by decide +kernel) (by decide +kernel), jt_in (i := 1721) (by decide +kernel) rfl, by decide +kernel, by decide +kernel, by decide +kernel⟩
theorem cl_X12_373 : jcV RX12 373 yX12_lotOf cX12_lotOf 2 (some .int) 1 := ⟨jt_all [1804, 1806, 97, 138] (by decide +kernel) (by decide +kernel), jt_in (i := 1807) (by decide +kernel) rfl, by decide +kernel, by decide +kernel, by decide +kernel⟩
theorem cl_X12_376 : jcV RX12 376 yX12_loosensOf cX12_loosensOf 2 (some .int) 1 := ⟨jt_all [1741, 1743, 86, 138] (by decide +kernel) (by decide +kernel), jt_in (i := 1744) (by decide +kernel) rfl, by decide +kernel, by decide +kernel, by decide +kernel⟩
theorem cl_X12_379 : jcV RX12 379 yX12_lifted cX12_lifted 2 (none) 1 := ⟨jt_all [1769, 1771, 91, 138] (by decide +kernel) (by decide +kernel), jt_in (i := 1772) (by decide +kernel) rfl, by decide +kernel, by decide +kernel, by decide +kernel⟩
theorem cl_X12_382 : jcV RX12 382 yX12_seasonGoes cX12_seasonGoes 2 (none) 0 := ⟨jt_all [1800, 1802, 96, 138] (by decide +kernel) (by decide +kernel), jt_in (i := 1803) (by decide +kernel) rfl, by decide +kernel, by decide +kernel, by decide +kernel⟩
theorem cl_X12_385 : jcV RX12 385 yX12_copies cX12_copies 2 (none) 0 := ⟨jt_all [1694, 1696, 76, 138] (by decide +kernel) (by decide +kernel), jt_in (i := 1697) (by decide +kernel) rfl, by decide +kernel, by decide +kernel, by decide +kernel⟩
theorem cl_X12_388 : jcV RX12 388 yX12_isBlack cX12_isBlack 2 (some .boolean) 1 := ⟨jt_all [1710, 1712, 80, 138] (by decide +kernel) (by decide +kernel), jt_in (i := 1713) (by decide +kernel) rfl, by decide +kernel, by decide +kernel, by decide +kernel⟩
theorem cl_X12_391 : jcV RX12 391 yX12_isFree cX12_isFree 2 (some .boolean) 1 := ⟨jt_all [1749, 1751, 87, 138] (by decide +kernel) (by decide +kernel), jt_in (i := 1752) (by decide +kernel) rfl, by decide +kernel, by decide +kernel, by decide +kernel⟩
theorem cl_X12_394 : jcV RX12 394 yX12_records cX12_records 2 (none) 0 := ⟨jt_all [1761, 1763, 90, 138] (by decide +kernel) (by decide +kernel), jt_in (i := 1764) (by decide +kernel) rfl, by decide +kernel, by decide +kernel, by decide +kernel⟩
theorem cl_X12_397 : jcV RX12 397 yX12_canTurn cX12_canTurn 3 (some .boolean) 1 := ⟨jt_all [1777, 1779, 92, 138] (by decide +kernel) (by decide +kernel), jt_in (i := 1780) (by decide +kernel) rfl, by decide +kernel, by decide +kernel, by decide +kernel⟩
theorem cl_X12_400 : jcV RX12 400 yX12_turnAsks cX12_turnAsks 1 (some .int) 0 := ⟨jt_all [1785, 1787, 94, 138] (by decide +kernel) (by decide +kernel), jt_in (i := 1788) (by decide +kernel) rfl, by decide +kernel, by decide +kernel, by decide +kernel⟩
theorem cl_X12_403 : jcS RX12 403 yX12_isLong cX12_isLong 1 (some .boolean) 1 := ⟨jt_all [1793, 1794, 138] (by decide +kernel) (by decide +kernel), jt_in (i := 1795) (by decide +kernel) rfl, by decide +kernel, by decide +kernel, by decide +kernel⟩
theorem cl_X12_406 : jcV RX12 406 yX12_goes cX12_goes 3 (none) 1 := ⟨jt_all [1796, 1798, 95, 138] (by decide +kernel) (by decide +kernel), jt_in (i := 1799) (by decide +kernel) rfl, by decide +kernel, by decide +kernel, by decide +kernel⟩
theorem cl_X12_409 : jcV RX12 409 yX12_waysIn cX12_waysIn 3 (some .int) 2 := ⟨jt_all [1836, 1838, 102, 138] (by decide +kernel) (by decide +kernel), jt_in (i := 1839) (by decide +kernel) rfl, by decide +kernel, by decide +kernel, by decide +kernel⟩
theorem cl_X12_413 : jcV RX12 413 yX12_maskDown cX12_maskDown 2 (some .int) 1 := ⟨jt_all [1848, 1850, 105, 138] (by decide +kernel) (by decide +kernel), jt_in (i := 1851) (by decide +kernel) rfl, by decide +kernel, by decide +kernel, by decide +kernel⟩
theorem cl_X12_416 : jcV RX12 416 yX12_acrossIn cX12_acrossIn 5 (some .int) 3 := ⟨jt_all [1840, 1842, 103, 138] (by decide +kernel) (by decide +kernel), jt_in (i := 1843) (by decide +kernel) rfl, by decide +kernel, by decide +kernel, by decide +kernel⟩
theorem cl_X12_420 : jcV RX12 420 yX12_downIn cX12_downIn 5 (some .int) 3 := ⟨jt_all [1844, 1846, 104, 138] (by decide +kernel) (by decide +kernel), jt_in (i := 1847) (by decide +kernel) rfl, by decide +kernel, by decide +kernel, by decide +kernel⟩
theorem cl_X12_423 : jcV RX12 423 yX12_countAt cX12_countAt 4 (some .int) 3 := ⟨jt_all [1832, 1834, 101, 138] (by decide +kernel) (by decide +kernel), jt_in (i := 1835) (by decide +kernel) rfl, by decide +kernel, by decide +kernel, by decide +kernel⟩
theorem cl_X12_426 : jcV RX12 426 yX12_closesHoles cX12_closesHoles 2 (none) 0 := ⟨jt_all [1824, 1826, 99, 138] (by decide +kernel) (by decide +kernel), jt_in (i := 1827) (by decide +kernel) rfl, by decide +kernel, by decide +kernel, by decide +kernel⟩
theorem cl_X12_429 : jcV RX12 429 yX12_counts cX12_counts 5 (some .int) 1 := ⟨jt_all [1828, 1830, 100, 138] (by decide +kernel) (by decide +kernel), jt_in (i := 1831) (by decide +kernel) rfl, by decide +kernel, by decide +kernel, by decide +kernel⟩
theorem cl_X12_433 : jcV RX12 433 yX12_closesTaken cX12_closesTaken 2 (none) 0 := ⟨jt_all [1860, 1862, 107, 138] (by decide +kernel) (by decide +kernel), jt_in (i := 1863) (by decide +kernel) rfl, by decide +kernel, by decide +kernel, by decide +kernel⟩
theorem cl_X12_436 : jcV RX12 436 yX12_countsAll cX12_countsAll 1 (some .int) 0 := ⟨jt_all [1820, 1822, 98, 138] (by decide +kernel) (by decide +kernel), jt_in (i := 1823) (by decide +kernel) rfl, by decide +kernel, by decide +kernel, by decide +kernel⟩
theorem cl_X12_439 : jcV RX12 439 yX12_countsRest cX12_countsRest 1 (some .int) 0 := ⟨jt_all [1856, 1858, 106, 138] (by decide +kernel) (by decide +kernel), jt_in (i := 1859) (by decide +kernel) rfl, by decide +kernel, by decide +kernel, by decide +kernel⟩
theorem cl_X12_442 : jcV RX12 442 yX12_cellBeside cX12_cellBeside 3 (some .int) 2 := ⟨jt_all [1868, 1870, 108, 138] (by decide +kernel) (by decide +kernel), jt_in (i := 1871) (by decide +kernel) rfl, by decide +kernel, by decide +kernel, by decide +kernel⟩
theorem cl_X12_445 : jcV RX12 445 yX12_countsWith cX12_countsWith 3 (some .int) 2 := ⟨jt_all [1872, 1874, 109, 138] (by decide +kernel) (by decide +kernel), jt_in (i := 1875) (by decide +kernel) rfl, by decide +kernel, by decide +kernel, by decide +kernel⟩
theorem cl_X12_448 : jcV RX12 448 yX12_frozenAt cX12_frozenAt 4 (some .int) 2 := ⟨jt_all [1880, 1882, 110, 138] (by decide +kernel) (by decide +kernel), jt_in (i := 1883) (by decide +kernel) rfl, by decide +kernel, by decide +kernel, by decide +kernel⟩
theorem cl_X12_451 : jcV RX12 451 yX12_mostAt cX12_mostAt 6 (some .int) 2 := ⟨jt_all [1892, 1894, 111, 138] (by decide +kernel) (by decide +kernel), jt_in (i := 1895) (by decide +kernel) rfl, by decide +kernel, by decide +kernel, by decide +kernel⟩
theorem cl_X12_454 : jcV RX12 454 yX12_freeMany cX12_freeMany 1 (some .int) 0 := ⟨jt_all [1896, 1898, 112, 138] (by decide +kernel) (by decide +kernel), jt_in (i := 1899) (by decide +kernel) rfl, by decide +kernel, by decide +kernel, by decide +kernel⟩
theorem cl_X12_457 : jcV RX12 457 yX12_fillsWays cX12_fillsWays 6 (none) 1 := ⟨jt_all [1904, 1906, 113, 138] (by decide +kernel) (by decide +kernel), jt_in (i := 1907) (by decide +kernel) rfl, by decide +kernel, by decide +kernel, by decide +kernel⟩
theorem cl_X12_460 : jcV RX12 460 yX12_fillsNow cX12_fillsNow 2 (none) 0 := ⟨jt_all [1912, 1914, 114, 138] (by decide +kernel) (by decide +kernel), jt_in (i := 1915) (by decide +kernel) rfl, by decide +kernel, by decide +kernel, by decide +kernel⟩
theorem cl_X12_463 : jcV RX12 463 yX12_fillsHills cX12_fillsHills 5 (none) 0 := ⟨jt_all [1928, 1930, 117, 138] (by decide +kernel) (by decide +kernel), jt_in (i := 1931) (by decide +kernel) rfl, by decide +kernel, by decide +kernel, by decide +kernel⟩
theorem cl_X12_466 : jcV RX12 466 yX12_isHilly cX12_isHilly 1 (some .boolean) 0 := ⟨jt_all [1920, 1922, 115, 138] (by decide +kernel) (by decide +kernel), jt_in (i := 1923) (by decide +kernel) rfl, by decide +kernel, by decide +kernel, by decide +kernel⟩
theorem cl_X12_469 : jcV RX12 469 yX12_fillsHillsNow cX12_fillsHillsNow 1 (none) 0 := ⟨jt_all [1924, 1926, 116, 138] (by decide +kernel) (by decide +kernel), jt_in (i := 1927) (by decide +kernel) rfl, by decide +kernel, by decide +kernel, by decide +kernel⟩
theorem cl_X12_472 : jcS RX12 472 yX12_off cX12_off 2 (some .int) 2 := ⟨jt_all [1944, 1945, 138] (by decide +kernel) (by decide +kernel), jt_in (i := 1946) (by decide +kernel) rfl, by decide +kernel, by decide +kernel, by decide +kernel⟩
theorem cl_X12_475 : jcV RX12 475 yX12_keepsHills cX12_keepsHills 2 (none) 0 := ⟨jt_all [1936, 1938, 118, 138] (by decide +kernel) (by decide +kernel), jt_in (i := 1939) (by decide +kernel) rfl, by decide +kernel, by decide +kernel, by decide +kernel⟩
theorem cl_X12_478 : jcV RX12 478 yX12_wayTo cX12_wayTo 5 (some .int) 1 := ⟨jt_all [1940, 1942, 119, 138] (by decide +kernel) (by decide +kernel), jt_in (i := 1943) (by decide +kernel) rfl, by decide +kernel, by decide +kernel, by decide +kernel⟩
theorem cl_X12_482 : jcV RX12 482 yX12_sumHills cX12_sumHills 4 (some .int) 0 := ⟨jt_all [1956, 1958, 120, 138] (by decide +kernel) (by decide +kernel), jt_in (i := 1959) (by decide +kernel) rfl, by decide +kernel, by decide +kernel, by decide +kernel⟩
theorem cl_X12_485 : jcV RX12 485 yX12_isGround cX12_isGround 2 (some .boolean) 1 := ⟨jt_all [1972, 1974, 121, 138] (by decide +kernel) (by decide +kernel), jt_in (i := 1975) (by decide +kernel) rfl, by decide +kernel, by decide +kernel, by decide +kernel⟩
theorem cl_X12_488 : jcV RX12 488 yX12_countsTold cX12_countsTold 3 (some .int) 1 := ⟨jt_all [1996, 1998, 122, 138] (by decide +kernel) (by decide +kernel), jt_in (i := 1999) (by decide +kernel) rfl, by decide +kernel, by decide +kernel, by decide +kernel⟩
theorem cl_X12_491 : jcV RX12 491 yX12_numberTold cX12_numberTold 6 (some .int) 1 := ⟨jt_all [2000, 2002, 123, 138] (by decide +kernel) (by decide +kernel), jt_in (i := 2003) (by decide +kernel) rfl, by decide +kernel, by decide +kernel, by decide +kernel⟩
