/-! ===== classes, fields, links: by program ===== -/
theorem jp0 : ∀ k, k < 4 → (TX0 k).1 = RX0 ∧ parseFieldDescriptor (TX0 k).2.2.1 = some (tyX0 k) := by decide +kernel
theorem jw0 : ∀ w ∈ u_ws RX0 TX0 4, w ∈ jtbl := jt_all [517, 519, 521, 523] (by decide +kernel) (by decide +kernel)
theorem jc0 : jcl 0 (RX0, TX0, 4) := ⟨rfl, rfl, by decide, jw0, jp0, nmX0⟩
theorem jp1 : ∀ k, k < 5 → (TX1 k).1 = RX1 ∧ parseFieldDescriptor (TX1 k).2.2.1 = some (tyX1 k) := by decide +kernel
theorem jw1 : ∀ w ∈ u_ws RX1 TX1 5, w ∈ jtbl := jt_all [412, 414, 416, 418, 420] (by decide +kernel) (by decide +kernel)
theorem jc1 : jcl 1 (RX1, TX1, 5) := ⟨rfl, rfl, by decide, jw1, jp1, nmX1⟩
theorem jp2 : ∀ k, k < 5 → (TX2 k).1 = RX2 ∧ parseFieldDescriptor (TX2 k).2.2.1 = some (tyX2 k) := by decide +kernel
theorem jw2 : ∀ w ∈ u_ws RX2 TX2 5, w ∈ jtbl := jt_all [188, 190, 192, 194, 196] (by decide +kernel) (by decide +kernel)
theorem jc2 : jcl 2 (RX2, TX2, 5) := ⟨rfl, rfl, by decide, jw2, jp2, nmX2⟩
theorem jp3 : ∀ k, k < 9 → (TX3 k).1 = RX3 ∧ parseFieldDescriptor (TX3 k).2.2.1 = some (tyX3 k) := by decide +kernel
theorem jw3 : ∀ w ∈ u_ws RX3 TX3 9, w ∈ jtbl := jt_all [314, 316, 318, 320, 322, 324, 326, 328, 330] (by decide +kernel) (by decide +kernel)
theorem jc3 : jcl 3 (RX3, TX3, 9) := ⟨rfl, rfl, by decide, jw3, jp3, nmX3⟩
theorem jp4 : ∀ k, k < 8 → (TX4 k).1 = RX4 ∧ parseFieldDescriptor (TX4 k).2.2.1 = some (tyX4 k) := by decide +kernel
theorem jw4 : ∀ w ∈ u_ws RX4 TX4 8, w ∈ jtbl := jt_all [469, 471, 473, 475, 477, 479, 481, 483] (by decide +kernel) (by decide +kernel)
theorem jc4 : jcl 4 (RX4, TX4, 8) := ⟨rfl, rfl, by decide, jw4, jp4, nmX4⟩
theorem jp5 : ∀ k, k < 4 → (TX5 k).1 = RX5 ∧ parseFieldDescriptor (TX5 k).2.2.1 = some (tyX5 k) := by decide +kernel
theorem jw5 : ∀ w ∈ u_ws RX5 TX5 4, w ∈ jtbl := jt_all [497, 499, 501, 503] (by decide +kernel) (by decide +kernel)
theorem jc5 : jcl 5 (RX5, TX5, 4) := ⟨rfl, rfl, by decide, jw5, jp5, nmX5⟩
theorem jp6 : ∀ k, k < 10 → (TX6 k).1 = RX6 ∧ parseFieldDescriptor (TX6 k).2.2.1 = some (tyX6 k) := by decide +kernel
theorem jw6 : ∀ w ∈ u_ws RX6 TX6 10, w ∈ jtbl := jt_all [376, 378, 380, 382, 384, 386, 388, 390, 392, 394] (by decide +kernel) (by decide +kernel)
theorem jc6 : jcl 6 (RX6, TX6, 10) := ⟨rfl, rfl, by decide, jw6, jp6, nmX6⟩
theorem jp7 : ∀ k, k < 2 → (TX7 k).1 = RX7 ∧ parseFieldDescriptor (TX7 k).2.2.1 = some (tyX7 k) := by decide +kernel
theorem jw7 : ∀ w ∈ u_ws RX7 TX7 2, w ∈ jtbl := jt_all [165, 167] (by decide +kernel) (by decide +kernel)
theorem jc7 : jcl 7 (RX7, TX7, 2) := ⟨rfl, rfl, by decide, jw7, jp7, nmX7⟩
theorem jp8 : ∀ k, k < 13 → (TX8 k).1 = RX8 ∧ parseFieldDescriptor (TX8 k).2.2.1 = some (tyX8 k) := by decide +kernel
theorem jw8 : ∀ w ∈ u_ws RX8 TX8 13, w ∈ jtbl := jt_all [249, 251, 253, 255, 257, 259, 261, 263, 265, 267, 269, 271, 273] (by decide +kernel) (by decide +kernel)
theorem jc8 : jcl 8 (RX8, TX8, 13) := ⟨rfl, rfl, by decide, jw8, jp8, nmX8⟩
theorem jp9 : ∀ k, k < 5 → (TX9 k).1 = RX9 ∧ parseFieldDescriptor (TX9 k).2.2.1 = some (tyX9 k) := by decide +kernel
theorem jw9 : ∀ w ∈ u_ws RX9 TX9 5, w ∈ jtbl := jt_all [293, 295, 297, 299, 301] (by decide +kernel) (by decide +kernel)
theorem jc9 : jcl 9 (RX9, TX9, 5) := ⟨rfl, rfl, by decide, jw9, jp9, nmX9⟩
theorem jp10 : ∀ k, k < 3 → (TX10 k).1 = RX10 ∧ parseFieldDescriptor (TX10 k).2.2.1 = some (tyX10 k) := by decide +kernel
theorem jw10 : ∀ w ∈ u_ws RX10 TX10 3, w ∈ jtbl := jt_all [435, 437, 439] (by decide +kernel) (by decide +kernel)
theorem jc10 : jcl 10 (RX10, TX10, 3) := ⟨rfl, rfl, by decide, jw10, jp10, nmX10⟩
theorem jp11 : ∀ k, k < 14 → (TX11 k).1 = RX11 ∧ parseFieldDescriptor (TX11 k).2.2.1 = some (tyX11 k) := by decide +kernel
theorem jw11 : ∀ w ∈ u_ws RX11 TX11 14, w ∈ jtbl := jt_all [610, 612, 614, 616, 618, 620, 622, 624, 626, 628, 630, 632, 634, 636] (by decide +kernel) (by decide +kernel)
theorem jc11 : jcl 11 (RX11, TX11, 14) := ⟨rfl, rfl, by decide, jw11, jp11, nmX11⟩
theorem jp12 : ∀ k, k < 68 → (TX12 k).1 = RX12 ∧ parseFieldDescriptor (TX12 k).2.2.1 = some (tyX12 k) := by decide +kernel
theorem jw12 : ∀ w ∈ u_ws RX12 TX12 68, w ∈ jtbl := jt_all [1430, 1432, 1434, 1436, 1438, 1440, 1442, 1444, 1446, 1448, 1450, 1452, 1454, 1456, 1458, 1460, 1462, 1464, 1466, 1468, 1470, 1472, 1474, 1476, 1478, 1480, 1482, 1484, 1486, 1488, 1490, 1492, 1494, 1496, 1498, 1500, 1502, 1504, 1506, 1508, 1510, 1512, 1514, 1516, 1518, 1520, 1522, 1524, 1526, 1528, 1530, 1532, 1534, 1536, 1538, 1540, 1542, 1544, 1546, 1548, 1550, 1552, 1554, 1556, 1558, 1560, 1562, 1564] (by decide +kernel) (by decide +kernel)
theorem jc12 : jcl 12 (RX12, TX12, 68) := ⟨rfl, rfl, by decide, jw12, jp12, nmX12⟩
theorem bp_m100 : (Int8.ofInt (-100)).toInt32 = Int32.ofInt (-100) := by decide +kernel
theorem bp_m3 : (Int8.ofInt (-3)).toInt32 = Int32.ofInt (-3) := by decide +kernel
theorem bp_m2 : (Int8.ofInt (-2)).toInt32 = Int32.ofInt (-2) := by decide +kernel
theorem bp_6 : (Int8.ofInt (6)).toInt32 = Int32.ofInt (6) := by decide +kernel
theorem bp_7 : (Int8.ofInt (7)).toInt32 = Int32.ofInt (7) := by decide +kernel
theorem bp_8 : (Int8.ofInt (8)).toInt32 = Int32.ofInt (8) := by decide +kernel
theorem bp_9 : (Int8.ofInt (9)).toInt32 = Int32.ofInt (9) := by decide +kernel
theorem bp_10 : (Int8.ofInt (10)).toInt32 = Int32.ofInt (10) := by decide +kernel
theorem bp_11 : (Int8.ofInt (11)).toInt32 = Int32.ofInt (11) := by decide +kernel
theorem bp_12 : (Int8.ofInt (12)).toInt32 = Int32.ofInt (12) := by decide +kernel
theorem bp_13 : (Int8.ofInt (13)).toInt32 = Int32.ofInt (13) := by decide +kernel
theorem bp_14 : (Int8.ofInt (14)).toInt32 = Int32.ofInt (14) := by decide +kernel
theorem bp_15 : (Int8.ofInt (15)).toInt32 = Int32.ofInt (15) := by decide +kernel
theorem bp_16 : (Int8.ofInt (16)).toInt32 = Int32.ofInt (16) := by decide +kernel
theorem bp_17 : (Int8.ofInt (17)).toInt32 = Int32.ofInt (17) := by decide +kernel
theorem bp_18 : (Int8.ofInt (18)).toInt32 = Int32.ofInt (18) := by decide +kernel
theorem bp_19 : (Int8.ofInt (19)).toInt32 = Int32.ofInt (19) := by decide +kernel
theorem bp_20 : (Int8.ofInt (20)).toInt32 = Int32.ofInt (20) := by decide +kernel
theorem bp_21 : (Int8.ofInt (21)).toInt32 = Int32.ofInt (21) := by decide +kernel
theorem bp_22 : (Int8.ofInt (22)).toInt32 = Int32.ofInt (22) := by decide +kernel
theorem bp_23 : (Int8.ofInt (23)).toInt32 = Int32.ofInt (23) := by decide +kernel
theorem bp_24 : (Int8.ofInt (24)).toInt32 = Int32.ofInt (24) := by decide +kernel
theorem bp_25 : (Int8.ofInt (25)).toInt32 = Int32.ofInt (25) := by decide +kernel
theorem bp_26 : (Int8.ofInt (26)).toInt32 = Int32.ofInt (26) := by decide +kernel
theorem bp_27 : (Int8.ofInt (27)).toInt32 = Int32.ofInt (27) := by decide +kernel
theorem bp_28 : (Int8.ofInt (28)).toInt32 = Int32.ofInt (28) := by decide +kernel
theorem bp_29 : (Int8.ofInt (29)).toInt32 = Int32.ofInt (29) := by decide +kernel
theorem bp_30 : (Int8.ofInt (30)).toInt32 = Int32.ofInt (30) := by decide +kernel
theorem bp_32 : (Int8.ofInt (32)).toInt32 = Int32.ofInt (32) := by decide +kernel
theorem bp_36 : (Int8.ofInt (36)).toInt32 = Int32.ofInt (36) := by decide +kernel
theorem bp_38 : (Int8.ofInt (38)).toInt32 = Int32.ofInt (38) := by decide +kernel
theorem bp_40 : (Int8.ofInt (40)).toInt32 = Int32.ofInt (40) := by decide +kernel
theorem bp_41 : (Int8.ofInt (41)).toInt32 = Int32.ofInt (41) := by decide +kernel
theorem bp_42 : (Int8.ofInt (42)).toInt32 = Int32.ofInt (42) := by decide +kernel
theorem bp_43 : (Int8.ofInt (43)).toInt32 = Int32.ofInt (43) := by decide +kernel
theorem bp_45 : (Int8.ofInt (45)).toInt32 = Int32.ofInt (45) := by decide +kernel
theorem bp_47 : (Int8.ofInt (47)).toInt32 = Int32.ofInt (47) := by decide +kernel
theorem bp_48 : (Int8.ofInt (48)).toInt32 = Int32.ofInt (48) := by decide +kernel
theorem bp_49 : (Int8.ofInt (49)).toInt32 = Int32.ofInt (49) := by decide +kernel
theorem bp_54 : (Int8.ofInt (54)).toInt32 = Int32.ofInt (54) := by decide +kernel
theorem bp_57 : (Int8.ofInt (57)).toInt32 = Int32.ofInt (57) := by decide +kernel
theorem bp_59 : (Int8.ofInt (59)).toInt32 = Int32.ofInt (59) := by decide +kernel
theorem bp_60 : (Int8.ofInt (60)).toInt32 = Int32.ofInt (60) := by decide +kernel
theorem bp_61 : (Int8.ofInt (61)).toInt32 = Int32.ofInt (61) := by decide +kernel
theorem bp_63 : (Int8.ofInt (63)).toInt32 = Int32.ofInt (63) := by decide +kernel
theorem bp_64 : (Int8.ofInt (64)).toInt32 = Int32.ofInt (64) := by decide +kernel
theorem bp_72 : (Int8.ofInt (72)).toInt32 = Int32.ofInt (72) := by decide +kernel
theorem bp_73 : (Int8.ofInt (73)).toInt32 = Int32.ofInt (73) := by decide +kernel
theorem bp_74 : (Int8.ofInt (74)).toInt32 = Int32.ofInt (74) := by decide +kernel
theorem bp_75 : (Int8.ofInt (75)).toInt32 = Int32.ofInt (75) := by decide +kernel
theorem bp_97 : (Int8.ofInt (97)).toInt32 = Int32.ofInt (97) := by decide +kernel
theorem bp_99 : (Int8.ofInt (99)).toInt32 = Int32.ofInt (99) := by decide +kernel
theorem bp_100 : (Int8.ofInt (100)).toInt32 = Int32.ofInt (100) := by decide +kernel
theorem bp_122 : (Int8.ofInt (122)).toInt32 = Int32.ofInt (122) := by decide +kernel
theorem sp_130 : (Int16.ofInt (130)).toInt32 = Int32.ofInt (130) := by decide +kernel
theorem sp_169 : (Int16.ofInt (169)).toInt32 = Int32.ofInt (169) := by decide +kernel
theorem sp_255 : (Int16.ofInt (255)).toInt32 = Int32.ofInt (255) := by decide +kernel
theorem sp_400 : (Int16.ofInt (400)).toInt32 = Int32.ofInt (400) := by decide +kernel
theorem sp_401 : (Int16.ofInt (401)).toInt32 = Int32.ofInt (401) := by decide +kernel
theorem sp_404 : (Int16.ofInt (404)).toInt32 = Int32.ofInt (404) := by decide +kernel
theorem sp_420 : (Int16.ofInt (420)).toInt32 = Int32.ofInt (420) := by decide +kernel
theorem sp_1980 : (Int16.ofInt (1980)).toInt32 = Int32.ofInt (1980) := by decide +kernel
theorem sp_2000 : (Int16.ofInt (2000)).toInt32 = Int32.ofInt (2000) := by decide +kernel
theorem sp_2925 : (Int16.ofInt (2925)).toInt32 = Int32.ofInt (2925) := by decide +kernel
theorem sp_9999 : (Int16.ofInt (9999)).toInt32 = Int32.ofInt (9999) := by decide +kernel
theorem sp_12345 : (Int16.ofInt (12345)).toInt32 = Int32.ofInt (12345) := by decide +kernel
theorem fl_X11_12 : jfl RX11 12 11 0 := ⟨_, jc11, by decide, jt_in (i := 596) (by decide +kernel) rfl⟩
theorem fl_X11_19 : jfl RX11 19 11 2 := ⟨_, jc11, by decide, jt_in (i := 598) (by decide +kernel) rfl⟩
theorem fl_X11_23 : jfl RX11 23 11 3 := ⟨_, jc11, by decide, jt_in (i := 599) (by decide +kernel) rfl⟩
theorem fl_X11_31 : jfl RX11 31 11 1 := ⟨_, jc11, by decide, jt_in (i := 597) (by decide +kernel) rfl⟩
theorem fl_X11_38 : jfl RX11 38 11 4 := ⟨_, jc11, by decide, jt_in (i := 600) (by decide +kernel) rfl⟩
theorem fl_X11_42 : jfl RX11 42 11 5 := ⟨_, jc11, by decide, jt_in (i := 601) (by decide +kernel) rfl⟩
theorem fl_X11_48 : jfl RX11 48 11 6 := ⟨_, jc11, by decide, jt_in (i := 602) (by decide +kernel) rfl⟩
theorem fl_X11_55 : jfl RX11 55 11 7 := ⟨_, jc11, by decide, jt_in (i := 603) (by decide +kernel) rfl⟩
theorem fl_X11_62 : jfl RX11 62 11 8 := ⟨_, jc11, by decide, jt_in (i := 604) (by decide +kernel) rfl⟩
theorem fl_X11_66 : jfl RX11 66 11 9 := ⟨_, jc11, by decide, jt_in (i := 605) (by decide +kernel) rfl⟩
theorem fl_X11_72 : jfl RX11 72 11 10 := ⟨_, jc11, by decide, jt_in (i := 606) (by decide +kernel) rfl⟩
theorem fl_X11_79 : jfl RX11 79 11 11 := ⟨_, jc11, by decide, jt_in (i := 607) (by decide +kernel) rfl⟩
theorem fl_X11_83 : jfl RX11 83 11 12 := ⟨_, jc11, by decide, jt_in (i := 608) (by decide +kernel) rfl⟩
theorem fl_X11_87 : jfl RX11 87 11 13 := ⟨_, jc11, by decide, jt_in (i := 609) (by decide +kernel) rfl⟩
theorem fl_X11_93 : jfl RX11 93 7 1 := ⟨_, jc7, by decide, jt_in (i := 162) (by decide +kernel) rfl⟩
theorem fl_X11_105 : jfl RX11 105 3 8 := ⟨_, jc3, by decide, jt_in (i := 313) (by decide +kernel) rfl⟩
theorem fl_X11_112 : jfl RX11 112 6 4 := ⟨_, jc6, by decide, jt_in (i := 363) (by decide +kernel) rfl⟩
theorem fl_X11_115 : jfl RX11 115 8 10 := ⟨_, jc8, by decide, jt_in (i := 244) (by decide +kernel) rfl⟩
theorem fl_X11_129 : jfl RX11 129 6 0 := ⟨_, jc6, by decide, jt_in (i := 351) (by decide +kernel) rfl⟩
theorem fl_X11_132 : jfl RX11 132 6 1 := ⟨_, jc6, by decide, jt_in (i := 354) (by decide +kernel) rfl⟩
theorem fl_X11_135 : jfl RX11 135 6 2 := ⟨_, jc6, by decide, jt_in (i := 357) (by decide +kernel) rfl⟩
theorem fl_X11_138 : jfl RX11 138 6 3 := ⟨_, jc6, by decide, jt_in (i := 360) (by decide +kernel) rfl⟩
theorem fl_X11_141 : jfl RX11 141 8 12 := ⟨_, jc8, by decide, jt_in (i := 247) (by decide +kernel) rfl⟩
theorem fl_X11_147 : jfl RX11 147 8 3 := ⟨_, jc8, by decide, jt_in (i := 230) (by decide +kernel) rfl⟩
theorem fl_X11_167 : jfl RX11 167 8 0 := ⟨_, jc8, by decide, jt_in (i := 219) (by decide +kernel) rfl⟩
theorem fl_X11_178 : jfl RX11 178 6 8 := ⟨_, jc6, by decide, jt_in (i := 373) (by decide +kernel) rfl⟩
theorem fl_X11_215 : jfl RX11 215 6 7 := ⟨_, jc6, by decide, jt_in (i := 371) (by decide +kernel) rfl⟩
theorem fl_X11_259 : jfl RX11 259 8 1 := ⟨_, jc8, by decide, jt_in (i := 224) (by decide +kernel) rfl⟩
theorem fl_X11_295 : jfl RX11 295 6 6 := ⟨_, jc6, by decide, jt_in (i := 368) (by decide +kernel) rfl⟩
theorem fl_X11_314 : jfl RX11 314 10 2 := ⟨_, jc10, by decide, jt_in (i := 434) (by decide +kernel) rfl⟩
theorem fl_X11_335 : jfl RX11 335 1 4 := ⟨_, jc1, by decide, jt_in (i := 411) (by decide +kernel) rfl⟩
theorem fl_X11_341 : jfl RX11 341 6 9 := ⟨_, jc6, by decide, jt_in (i := 375) (by decide +kernel) rfl⟩
theorem fl_X11_359 : jfl RX11 359 8 4 := ⟨_, jc8, by decide, jt_in (i := 233) (by decide +kernel) rfl⟩
theorem fl_X11_360 : jfl RX11 360 8 8 := ⟨_, jc8, by decide, jt_in (i := 239) (by decide +kernel) rfl⟩
theorem fl_X11_363 : jfl RX11 363 8 7 := ⟨_, jc8, by decide, jt_in (i := 237) (by decide +kernel) rfl⟩
theorem fl_X11_366 : jfl RX11 366 8 9 := ⟨_, jc8, by decide, jt_in (i := 241) (by decide +kernel) rfl⟩
theorem fl_X11_375 : jfl RX11 375 8 2 := ⟨_, jc8, by decide, jt_in (i := 227) (by decide +kernel) rfl⟩
theorem fl_X11_385 : jfl RX11 385 10 0 := ⟨_, jc10, by decide, jt_in (i := 430) (by decide +kernel) rfl⟩
theorem fl_X11_387 : jfl RX11 387 10 1 := ⟨_, jc10, by decide, jt_in (i := 432) (by decide +kernel) rfl⟩
theorem fl_X0_11 : jfl RX0 11 0 0 := ⟨_, jc0, by decide, jt_in (i := 513) (by decide +kernel) rfl⟩
theorem fl_X0_16 : jfl RX0 16 0 1 := ⟨_, jc0, by decide, jt_in (i := 514) (by decide +kernel) rfl⟩
theorem fl_X0_19 : jfl RX0 19 0 2 := ⟨_, jc0, by decide, jt_in (i := 515) (by decide +kernel) rfl⟩
theorem fl_X0_23 : jfl RX0 23 0 3 := ⟨_, jc0, by decide, jt_in (i := 516) (by decide +kernel) rfl⟩
theorem fl_X0_26 : jfl RX0 26 4 5 := ⟨_, jc4, by decide, jt_in (i := 461) (by decide +kernel) rfl⟩
theorem fl_X0_45 : jfl RX0 45 4 6 := ⟨_, jc4, by decide, jt_in (i := 465) (by decide +kernel) rfl⟩
theorem fl_X0_52 : jfl RX0 52 4 7 := ⟨_, jc4, by decide, jt_in (i := 468) (by decide +kernel) rfl⟩
theorem fl_X0_62 : jfl RX0 62 4 4 := ⟨_, jc4, by decide, jt_in (i := 459) (by decide +kernel) rfl⟩
theorem fl_X1_11 : jfl RX1 11 1 0 := ⟨_, jc1, by decide, jt_in (i := 406) (by decide +kernel) rfl⟩
theorem fl_X1_18 : jfl RX1 18 1 1 := ⟨_, jc1, by decide, jt_in (i := 407) (by decide +kernel) rfl⟩
theorem fl_X1_21 : jfl RX1 21 1 2 := ⟨_, jc1, by decide, jt_in (i := 408) (by decide +kernel) rfl⟩
theorem fl_X1_25 : jfl RX1 25 1 4 := ⟨_, jc1, by decide, jt_in (i := 410) (by decide +kernel) rfl⟩
theorem fl_X1_29 : jfl RX1 29 1 3 := ⟨_, jc1, by decide, jt_in (i := 409) (by decide +kernel) rfl⟩
theorem fl_X2_11 : jfl RX2 11 2 0 := ⟨_, jc2, by decide, jt_in (i := 183) (by decide +kernel) rfl⟩
theorem fl_X2_15 : jfl RX2 15 2 1 := ⟨_, jc2, by decide, jt_in (i := 184) (by decide +kernel) rfl⟩
theorem fl_X2_18 : jfl RX2 18 2 2 := ⟨_, jc2, by decide, jt_in (i := 185) (by decide +kernel) rfl⟩
theorem fl_X2_21 : jfl RX2 21 2 3 := ⟨_, jc2, by decide, jt_in (i := 186) (by decide +kernel) rfl⟩
theorem fl_X2_24 : jfl RX2 24 2 4 := ⟨_, jc2, by decide, jt_in (i := 187) (by decide +kernel) rfl⟩
theorem fl_X2_57 : jfl RX2 57 6 1 := ⟨_, jc6, by decide, jt_in (i := 355) (by decide +kernel) rfl⟩
theorem fl_X2_63 : jfl RX2 63 6 0 := ⟨_, jc6, by decide, jt_in (i := 352) (by decide +kernel) rfl⟩
theorem fl_X2_66 : jfl RX2 66 6 5 := ⟨_, jc6, by decide, jt_in (i := 365) (by decide +kernel) rfl⟩
theorem fl_X2_77 : jfl RX2 77 6 2 := ⟨_, jc6, by decide, jt_in (i := 358) (by decide +kernel) rfl⟩
theorem fl_X2_80 : jfl RX2 80 6 3 := ⟨_, jc6, by decide, jt_in (i := 361) (by decide +kernel) rfl⟩
theorem fl_X2_83 : jfl RX2 83 6 7 := ⟨_, jc6, by decide, jt_in (i := 370) (by decide +kernel) rfl⟩
theorem fl_X2_86 : jfl RX2 86 6 6 := ⟨_, jc6, by decide, jt_in (i := 367) (by decide +kernel) rfl⟩
theorem fl_X3_9 : jfl RX3 9 3 0 := ⟨_, jc3, by decide, jt_in (i := 304) (by decide +kernel) rfl⟩
theorem fl_X3_15 : jfl RX3 15 3 2 := ⟨_, jc3, by decide, jt_in (i := 306) (by decide +kernel) rfl⟩
theorem fl_X3_24 : jfl RX3 24 3 1 := ⟨_, jc3, by decide, jt_in (i := 305) (by decide +kernel) rfl⟩
theorem fl_X3_28 : jfl RX3 28 3 8 := ⟨_, jc3, by decide, jt_in (i := 312) (by decide +kernel) rfl⟩
theorem fl_X3_37 : jfl RX3 37 3 6 := ⟨_, jc3, by decide, jt_in (i := 310) (by decide +kernel) rfl⟩
theorem fl_X3_40 : jfl RX3 40 3 7 := ⟨_, jc3, by decide, jt_in (i := 311) (by decide +kernel) rfl⟩
theorem fl_X3_46 : jfl RX3 46 3 3 := ⟨_, jc3, by decide, jt_in (i := 307) (by decide +kernel) rfl⟩
theorem fl_X3_53 : jfl RX3 53 3 4 := ⟨_, jc3, by decide, jt_in (i := 308) (by decide +kernel) rfl⟩
theorem fl_X3_59 : jfl RX3 59 3 5 := ⟨_, jc3, by decide, jt_in (i := 309) (by decide +kernel) rfl⟩
theorem fl_X3_73 : jfl RX3 73 7 1 := ⟨_, jc7, by decide, jt_in (i := 163) (by decide +kernel) rfl⟩
theorem fl_X3_89 : jfl RX3 89 8 3 := ⟨_, jc8, by decide, jt_in (i := 229) (by decide +kernel) rfl⟩
theorem fl_X3_95 : jfl RX3 95 8 4 := ⟨_, jc8, by decide, jt_in (i := 232) (by decide +kernel) rfl⟩
theorem fl_X3_116 : jfl RX3 116 8 0 := ⟨_, jc8, by decide, jt_in (i := 220) (by decide +kernel) rfl⟩
theorem fl_X3_119 : jfl RX3 119 8 1 := ⟨_, jc8, by decide, jt_in (i := 223) (by decide +kernel) rfl⟩
theorem fl_X3_130 : jfl RX3 130 8 2 := ⟨_, jc8, by decide, jt_in (i := 226) (by decide +kernel) rfl⟩
theorem fl_X3_133 : jfl RX3 133 8 12 := ⟨_, jc8, by decide, jt_in (i := 248) (by decide +kernel) rfl⟩
theorem fl_X4_9 : jfl RX4 9 4 0 := ⟨_, jc4, by decide, jt_in (i := 453) (by decide +kernel) rfl⟩
theorem fl_X4_15 : jfl RX4 15 4 1 := ⟨_, jc4, by decide, jt_in (i := 454) (by decide +kernel) rfl⟩
theorem fl_X4_18 : jfl RX4 18 4 2 := ⟨_, jc4, by decide, jt_in (i := 455) (by decide +kernel) rfl⟩
theorem fl_X4_23 : jfl RX4 23 4 4 := ⟨_, jc4, by decide, jt_in (i := 457) (by decide +kernel) rfl⟩
theorem fl_X4_26 : jfl RX4 26 4 3 := ⟨_, jc4, by decide, jt_in (i := 456) (by decide +kernel) rfl⟩
theorem fl_X4_33 : jfl RX4 33 8 0 := ⟨_, jc8, by decide, jt_in (i := 218) (by decide +kernel) rfl⟩
theorem fl_X4_39 : jfl RX4 39 4 5 := ⟨_, jc4, by decide, jt_in (i := 462) (by decide +kernel) rfl⟩
theorem fl_X4_40 : jfl RX4 40 8 1 := ⟨_, jc8, by decide, jt_in (i := 222) (by decide +kernel) rfl⟩
theorem fl_X4_43 : jfl RX4 43 4 6 := ⟨_, jc4, by decide, jt_in (i := 464) (by decide +kernel) rfl⟩
theorem fl_X4_44 : jfl RX4 44 4 7 := ⟨_, jc4, by decide, jt_in (i := 466) (by decide +kernel) rfl⟩
theorem fl_X4_51 : jfl RX4 51 8 10 := ⟨_, jc8, by decide, jt_in (i := 243) (by decide +kernel) rfl⟩
theorem fl_X5_11 : jfl RX5 11 5 0 := ⟨_, jc5, by decide, jt_in (i := 493) (by decide +kernel) rfl⟩
theorem fl_X5_16 : jfl RX5 16 5 1 := ⟨_, jc5, by decide, jt_in (i := 494) (by decide +kernel) rfl⟩
theorem fl_X5_20 : jfl RX5 20 5 2 := ⟨_, jc5, by decide, jt_in (i := 495) (by decide +kernel) rfl⟩
theorem fl_X5_23 : jfl RX5 23 4 5 := ⟨_, jc4, by decide, jt_in (i := 460) (by decide +kernel) rfl⟩
theorem fl_X5_29 : jfl RX5 29 5 3 := ⟨_, jc5, by decide, jt_in (i := 496) (by decide +kernel) rfl⟩
theorem fl_X5_34 : jfl RX5 34 4 6 := ⟨_, jc4, by decide, jt_in (i := 463) (by decide +kernel) rfl⟩
theorem fl_X5_55 : jfl RX5 55 4 7 := ⟨_, jc4, by decide, jt_in (i := 467) (by decide +kernel) rfl⟩
theorem fl_X5_66 : jfl RX5 66 4 4 := ⟨_, jc4, by decide, jt_in (i := 458) (by decide +kernel) rfl⟩
theorem fl_X6_9 : jfl RX6 9 6 0 := ⟨_, jc6, by decide, jt_in (i := 350) (by decide +kernel) rfl⟩
theorem fl_X6_15 : jfl RX6 15 6 1 := ⟨_, jc6, by decide, jt_in (i := 353) (by decide +kernel) rfl⟩
theorem fl_X6_19 : jfl RX6 19 6 2 := ⟨_, jc6, by decide, jt_in (i := 356) (by decide +kernel) rfl⟩
theorem fl_X6_22 : jfl RX6 22 6 3 := ⟨_, jc6, by decide, jt_in (i := 359) (by decide +kernel) rfl⟩
theorem fl_X6_25 : jfl RX6 25 6 4 := ⟨_, jc6, by decide, jt_in (i := 362) (by decide +kernel) rfl⟩
theorem fl_X6_35 : jfl RX6 35 6 5 := ⟨_, jc6, by decide, jt_in (i := 364) (by decide +kernel) rfl⟩
theorem fl_X6_39 : jfl RX6 39 6 7 := ⟨_, jc6, by decide, jt_in (i := 369) (by decide +kernel) rfl⟩
theorem fl_X6_42 : jfl RX6 42 6 8 := ⟨_, jc6, by decide, jt_in (i := 372) (by decide +kernel) rfl⟩
theorem fl_X6_45 : jfl RX6 45 6 9 := ⟨_, jc6, by decide, jt_in (i := 374) (by decide +kernel) rfl⟩
theorem fl_X6_54 : jfl RX6 54 6 6 := ⟨_, jc6, by decide, jt_in (i := 366) (by decide +kernel) rfl⟩
theorem fl_X7_9 : jfl RX7 9 7 0 := ⟨_, jc7, by decide, jt_in (i := 160) (by decide +kernel) rfl⟩
theorem fl_X7_15 : jfl RX7 15 7 1 := ⟨_, jc7, by decide, jt_in (i := 161) (by decide +kernel) rfl⟩
theorem fl_X8_9 : jfl RX8 9 8 5 := ⟨_, jc8, by decide, jt_in (i := 234) (by decide +kernel) rfl⟩
theorem fl_X8_15 : jfl RX8 15 8 6 := ⟨_, jc8, by decide, jt_in (i := 235) (by decide +kernel) rfl⟩
theorem fl_X8_18 : jfl RX8 18 8 7 := ⟨_, jc8, by decide, jt_in (i := 236) (by decide +kernel) rfl⟩
theorem fl_X8_21 : jfl RX8 21 8 8 := ⟨_, jc8, by decide, jt_in (i := 238) (by decide +kernel) rfl⟩
theorem fl_X8_24 : jfl RX8 24 8 9 := ⟨_, jc8, by decide, jt_in (i := 240) (by decide +kernel) rfl⟩
theorem fl_X8_27 : jfl RX8 27 8 10 := ⟨_, jc8, by decide, jt_in (i := 242) (by decide +kernel) rfl⟩
theorem fl_X8_31 : jfl RX8 31 8 11 := ⟨_, jc8, by decide, jt_in (i := 245) (by decide +kernel) rfl⟩
theorem fl_X8_37 : jfl RX8 37 8 12 := ⟨_, jc8, by decide, jt_in (i := 246) (by decide +kernel) rfl⟩
theorem fl_X8_44 : jfl RX8 44 8 0 := ⟨_, jc8, by decide, jt_in (i := 217) (by decide +kernel) rfl⟩
theorem fl_X8_48 : jfl RX8 48 8 1 := ⟨_, jc8, by decide, jt_in (i := 221) (by decide +kernel) rfl⟩
theorem fl_X8_51 : jfl RX8 51 8 2 := ⟨_, jc8, by decide, jt_in (i := 225) (by decide +kernel) rfl⟩
theorem fl_X8_54 : jfl RX8 54 8 3 := ⟨_, jc8, by decide, jt_in (i := 228) (by decide +kernel) rfl⟩
theorem fl_X8_57 : jfl RX8 57 8 4 := ⟨_, jc8, by decide, jt_in (i := 231) (by decide +kernel) rfl⟩
theorem fl_X9_9 : jfl RX9 9 9 0 := ⟨_, jc9, by decide, jt_in (i := 288) (by decide +kernel) rfl⟩
theorem fl_X9_15 : jfl RX9 15 9 1 := ⟨_, jc9, by decide, jt_in (i := 289) (by decide +kernel) rfl⟩
theorem fl_X9_19 : jfl RX9 19 9 2 := ⟨_, jc9, by decide, jt_in (i := 290) (by decide +kernel) rfl⟩
theorem fl_X9_22 : jfl RX9 22 9 3 := ⟨_, jc9, by decide, jt_in (i := 291) (by decide +kernel) rfl⟩
theorem fl_X9_25 : jfl RX9 25 7 1 := ⟨_, jc7, by decide, jt_in (i := 164) (by decide +kernel) rfl⟩
theorem fl_X9_31 : jfl RX9 31 9 4 := ⟨_, jc9, by decide, jt_in (i := 292) (by decide +kernel) rfl⟩
theorem fl_X10_9 : jfl RX10 9 10 0 := ⟨_, jc10, by decide, jt_in (i := 429) (by decide +kernel) rfl⟩
theorem fl_X10_15 : jfl RX10 15 10 1 := ⟨_, jc10, by decide, jt_in (i := 431) (by decide +kernel) rfl⟩
theorem fl_X10_19 : jfl RX10 19 10 2 := ⟨_, jc10, by decide, jt_in (i := 433) (by decide +kernel) rfl⟩
theorem fl_X12_13 : jfl RX12 13 12 1 := ⟨_, jc12, by decide, jt_in (i := 1363) (by decide +kernel) rfl⟩
theorem fl_X12_17 : jfl RX12 17 12 3 := ⟨_, jc12, by decide, jt_in (i := 1365) (by decide +kernel) rfl⟩
theorem fl_X12_20 : jfl RX12 20 12 5 := ⟨_, jc12, by decide, jt_in (i := 1367) (by decide +kernel) rfl⟩
theorem fl_X12_24 : jfl RX12 24 12 6 := ⟨_, jc12, by decide, jt_in (i := 1368) (by decide +kernel) rfl⟩
theorem fl_X12_27 : jfl RX12 27 12 7 := ⟨_, jc12, by decide, jt_in (i := 1369) (by decide +kernel) rfl⟩
theorem fl_X12_30 : jfl RX12 30 12 8 := ⟨_, jc12, by decide, jt_in (i := 1370) (by decide +kernel) rfl⟩
theorem fl_X12_34 : jfl RX12 34 12 9 := ⟨_, jc12, by decide, jt_in (i := 1371) (by decide +kernel) rfl⟩
theorem fl_X12_37 : jfl RX12 37 12 17 := ⟨_, jc12, by decide, jt_in (i := 1379) (by decide +kernel) rfl⟩
theorem fl_X12_40 : jfl RX12 40 12 20 := ⟨_, jc12, by decide, jt_in (i := 1382) (by decide +kernel) rfl⟩
theorem fl_X12_43 : jfl RX12 43 12 21 := ⟨_, jc12, by decide, jt_in (i := 1383) (by decide +kernel) rfl⟩
theorem fl_X12_46 : jfl RX12 46 12 22 := ⟨_, jc12, by decide, jt_in (i := 1384) (by decide +kernel) rfl⟩
theorem fl_X12_49 : jfl RX12 49 12 23 := ⟨_, jc12, by decide, jt_in (i := 1385) (by decide +kernel) rfl⟩
theorem fl_X12_52 : jfl RX12 52 12 24 := ⟨_, jc12, by decide, jt_in (i := 1386) (by decide +kernel) rfl⟩
theorem fl_X12_55 : jfl RX12 55 12 25 := ⟨_, jc12, by decide, jt_in (i := 1387) (by decide +kernel) rfl⟩
theorem fl_X12_58 : jfl RX12 58 12 26 := ⟨_, jc12, by decide, jt_in (i := 1388) (by decide +kernel) rfl⟩
theorem fl_X12_61 : jfl RX12 61 12 27 := ⟨_, jc12, by decide, jt_in (i := 1389) (by decide +kernel) rfl⟩
theorem fl_X12_64 : jfl RX12 64 12 28 := ⟨_, jc12, by decide, jt_in (i := 1390) (by decide +kernel) rfl⟩
theorem fl_X12_67 : jfl RX12 67 12 29 := ⟨_, jc12, by decide, jt_in (i := 1391) (by decide +kernel) rfl⟩
theorem fl_X12_70 : jfl RX12 70 12 30 := ⟨_, jc12, by decide, jt_in (i := 1392) (by decide +kernel) rfl⟩
theorem fl_X12_73 : jfl RX12 73 12 31 := ⟨_, jc12, by decide, jt_in (i := 1393) (by decide +kernel) rfl⟩
theorem fl_X12_76 : jfl RX12 76 12 33 := ⟨_, jc12, by decide, jt_in (i := 1395) (by decide +kernel) rfl⟩
theorem fl_X12_80 : jfl RX12 80 12 34 := ⟨_, jc12, by decide, jt_in (i := 1396) (by decide +kernel) rfl⟩
theorem fl_X12_83 : jfl RX12 83 12 35 := ⟨_, jc12, by decide, jt_in (i := 1397) (by decide +kernel) rfl⟩
theorem fl_X12_86 : jfl RX12 86 12 36 := ⟨_, jc12, by decide, jt_in (i := 1398) (by decide +kernel) rfl⟩
theorem fl_X12_89 : jfl RX12 89 12 37 := ⟨_, jc12, by decide, jt_in (i := 1399) (by decide +kernel) rfl⟩
theorem fl_X12_92 : jfl RX12 92 12 39 := ⟨_, jc12, by decide, jt_in (i := 1401) (by decide +kernel) rfl⟩
theorem fl_X12_95 : jfl RX12 95 12 40 := ⟨_, jc12, by decide, jt_in (i := 1402) (by decide +kernel) rfl⟩
theorem fl_X12_98 : jfl RX12 98 12 41 := ⟨_, jc12, by decide, jt_in (i := 1403) (by decide +kernel) rfl⟩
theorem fl_X12_101 : jfl RX12 101 12 42 := ⟨_, jc12, by decide, jt_in (i := 1404) (by decide +kernel) rfl⟩
theorem fl_X12_104 : jfl RX12 104 12 44 := ⟨_, jc12, by decide, jt_in (i := 1406) (by decide +kernel) rfl⟩
theorem fl_X12_107 : jfl RX12 107 12 45 := ⟨_, jc12, by decide, jt_in (i := 1407) (by decide +kernel) rfl⟩
theorem fl_X12_110 : jfl RX12 110 12 47 := ⟨_, jc12, by decide, jt_in (i := 1409) (by decide +kernel) rfl⟩
theorem fl_X12_113 : jfl RX12 113 12 48 := ⟨_, jc12, by decide, jt_in (i := 1410) (by decide +kernel) rfl⟩
theorem fl_X12_116 : jfl RX12 116 12 50 := ⟨_, jc12, by decide, jt_in (i := 1412) (by decide +kernel) rfl⟩
theorem fl_X12_119 : jfl RX12 119 12 51 := ⟨_, jc12, by decide, jt_in (i := 1413) (by decide +kernel) rfl⟩
theorem fl_X12_122 : jfl RX12 122 12 52 := ⟨_, jc12, by decide, jt_in (i := 1414) (by decide +kernel) rfl⟩
theorem fl_X12_125 : jfl RX12 125 12 54 := ⟨_, jc12, by decide, jt_in (i := 1416) (by decide +kernel) rfl⟩
theorem fl_X12_128 : jfl RX12 128 12 55 := ⟨_, jc12, by decide, jt_in (i := 1417) (by decide +kernel) rfl⟩
theorem fl_X12_131 : jfl RX12 131 12 56 := ⟨_, jc12, by decide, jt_in (i := 1418) (by decide +kernel) rfl⟩
theorem fl_X12_134 : jfl RX12 134 12 57 := ⟨_, jc12, by decide, jt_in (i := 1419) (by decide +kernel) rfl⟩
theorem fl_X12_137 : jfl RX12 137 12 58 := ⟨_, jc12, by decide, jt_in (i := 1420) (by decide +kernel) rfl⟩
theorem fl_X12_140 : jfl RX12 140 12 59 := ⟨_, jc12, by decide, jt_in (i := 1421) (by decide +kernel) rfl⟩
theorem fl_X12_143 : jfl RX12 143 12 60 := ⟨_, jc12, by decide, jt_in (i := 1422) (by decide +kernel) rfl⟩
theorem fl_X12_146 : jfl RX12 146 12 61 := ⟨_, jc12, by decide, jt_in (i := 1423) (by decide +kernel) rfl⟩
theorem fl_X12_149 : jfl RX12 149 12 62 := ⟨_, jc12, by decide, jt_in (i := 1424) (by decide +kernel) rfl⟩
theorem fl_X12_152 : jfl RX12 152 12 64 := ⟨_, jc12, by decide, jt_in (i := 1426) (by decide +kernel) rfl⟩
theorem fl_X12_155 : jfl RX12 155 12 65 := ⟨_, jc12, by decide, jt_in (i := 1427) (by decide +kernel) rfl⟩
theorem fl_X12_158 : jfl RX12 158 12 66 := ⟨_, jc12, by decide, jt_in (i := 1428) (by decide +kernel) rfl⟩
theorem fl_X12_161 : jfl RX12 161 12 67 := ⟨_, jc12, by decide, jt_in (i := 1429) (by decide +kernel) rfl⟩
theorem fl_X12_178 : jfl RX12 178 12 2 := ⟨_, jc12, by decide, jt_in (i := 1364) (by decide +kernel) rfl⟩
theorem fl_X12_184 : jfl RX12 184 12 4 := ⟨_, jc12, by decide, jt_in (i := 1366) (by decide +kernel) rfl⟩
theorem fl_X12_193 : jfl RX12 193 12 10 := ⟨_, jc12, by decide, jt_in (i := 1372) (by decide +kernel) rfl⟩
theorem fl_X12_215 : jfl RX12 215 12 13 := ⟨_, jc12, by decide, jt_in (i := 1375) (by decide +kernel) rfl⟩
theorem fl_X12_218 : jfl RX12 218 12 11 := ⟨_, jc12, by decide, jt_in (i := 1373) (by decide +kernel) rfl⟩
theorem fl_X12_221 : jfl RX12 221 12 14 := ⟨_, jc12, by decide, jt_in (i := 1376) (by decide +kernel) rfl⟩
theorem fl_X12_224 : jfl RX12 224 12 15 := ⟨_, jc12, by decide, jt_in (i := 1377) (by decide +kernel) rfl⟩
theorem fl_X12_227 : jfl RX12 227 12 16 := ⟨_, jc12, by decide, jt_in (i := 1378) (by decide +kernel) rfl⟩
theorem fl_X12_242 : jfl RX12 242 12 12 := ⟨_, jc12, by decide, jt_in (i := 1374) (by decide +kernel) rfl⟩
theorem fl_X12_245 : jfl RX12 245 12 18 := ⟨_, jc12, by decide, jt_in (i := 1380) (by decide +kernel) rfl⟩
theorem fl_X12_248 : jfl RX12 248 12 19 := ⟨_, jc12, by decide, jt_in (i := 1381) (by decide +kernel) rfl⟩
theorem fl_X12_251 : jfl RX12 251 12 32 := ⟨_, jc12, by decide, jt_in (i := 1394) (by decide +kernel) rfl⟩
theorem fl_X12_254 : jfl RX12 254 12 38 := ⟨_, jc12, by decide, jt_in (i := 1400) (by decide +kernel) rfl⟩
theorem fl_X12_268 : jfl RX12 268 12 53 := ⟨_, jc12, by decide, jt_in (i := 1415) (by decide +kernel) rfl⟩
theorem fl_X12_271 : jfl RX12 271 12 63 := ⟨_, jc12, by decide, jt_in (i := 1425) (by decide +kernel) rfl⟩
theorem fl_X12_297 : jfl RX12 297 12 43 := ⟨_, jc12, by decide, jt_in (i := 1405) (by decide +kernel) rfl⟩
theorem fl_X12_310 : jfl RX12 310 12 46 := ⟨_, jc12, by decide, jt_in (i := 1408) (by decide +kernel) rfl⟩
theorem fl_X12_325 : jfl RX12 325 12 49 := ⟨_, jc12, by decide, jt_in (i := 1411) (by decide +kernel) rfl⟩
theorem cl_X11_90 : jcV RX11 90 yX11_startOver cX11_startOver 2 (none) 0 := ⟨jt_all [526, 528, 0, 124] (by decide +kernel) (by decide +kernel), jt_in (i := 529) (by decide +kernel) rfl, by decide +kernel, by decide +kernel, by decide +kernel⟩
theorem cl_X11_97 : jcV RX11 97 yX7_addFour cX7_addFour 3 (none) 1 := ⟨jt_all [643, 644, 645, 125] (by decide +kernel) (by decide +kernel), jt_in (i := 646) (by decide +kernel) rfl, by decide +kernel, by decide +kernel, by decide +kernel⟩
theorem cl_X11_101 : jcV RX11 101 yX3_parse cX3_parse 3 (some .int) 1 := ⟨jt_all [655, 656, 657, 128] (by decide +kernel) (by decide +kernel), jt_in (i := 658) (by decide +kernel) rfl, by decide +kernel, by decide +kernel, by decide +kernel⟩
theorem cl_X11_108 : jcV RX11 108 yX8_hasCell cX8_hasCell 2 (some .boolean) 1 := ⟨jt_all [903, 904, 905, 126] (by decide +kernel) (by decide +kernel), jt_in (i := 906) (by decide +kernel) rfl, by decide +kernel, by decide +kernel, by decide +kernel⟩
theorem cl_X11_119 : jcV RX11 119 yX6_otherCell cX6_otherCell 3 (some .int) 2 := ⟨jt_all [907, 908, 909, 130] (by decide +kernel) (by decide +kernel), jt_in (i := 910) (by decide +kernel) rfl, by decide +kernel, by decide +kernel, by decide +kernel⟩
theorem cl_X11_123 : jcV RX11 123 yX8_isBlack cX8_isBlack 2 (some .boolean) 1 := ⟨jt_all [911, 912, 913, 126] (by decide +kernel) (by decide +kernel), jt_in (i := 914) (by decide +kernel) rfl, by decide +kernel, by decide +kernel, by decide +kernel⟩
theorem cl_X11_126 : jcV RX11 126 yX6_lies cX6_lies 2 (some .boolean) 1 := ⟨jt_all [921, 922, 923, 130] (by decide +kernel) (by decide +kernel), jt_in (i := 924) (by decide +kernel) rfl, by decide +kernel, by decide +kernel, by decide +kernel⟩
theorem cl_X11_150 : jcV RX11 150 yX2_held cX2_held 6 (some .int) 4 := ⟨jt_all [925, 926, 927, 127] (by decide +kernel) (by decide +kernel), jt_in (i := 928) (by decide +kernel) rfl, by decide +kernel, by decide +kernel, by decide +kernel⟩
theorem cl_X11_154 : jcV RX11 154 yX11_isFree cX11_isFree 2 (some .boolean) 1 := ⟨jt_all [947, 949, 25, 124] (by decide +kernel) (by decide +kernel), jt_in (i := 950) (by decide +kernel) rfl, by decide +kernel, by decide +kernel, by decide +kernel⟩
theorem cl_X11_157 : jcV RX11 157 yX8_hasRight cX8_hasRight 2 (some .boolean) 1 := ⟨jt_all [956, 957, 958, 126] (by decide +kernel) (by decide +kernel), jt_in (i := 959) (by decide +kernel) rfl, by decide +kernel, by decide +kernel, by decide +kernel⟩
theorem cl_X11_160 : jcV RX11 160 yX8_hasBelow cX8_hasBelow 2 (some .boolean) 1 := ⟨jt_all [960, 961, 962, 126] (by decide +kernel) (by decide +kernel), jt_in (i := 963) (by decide +kernel) rfl, by decide +kernel, by decide +kernel, by decide +kernel⟩
theorem cl_X11_163 : jcV RX11 163 yX6_leastCouple cX6_leastCouple 2 (some .int) 0 := ⟨jt_all [964, 965, 966, 130] (by decide +kernel) (by decide +kernel), jt_in (i := 967) (by decide +kernel) rfl, by decide +kernel, by decide +kernel, by decide +kernel⟩
theorem cl_X11_170 : jcV RX11 170 yX1_keepForUndo cX1_keepForUndo 2 (none) 1 := ⟨jt_all [969, 970, 971, 132] (by decide +kernel) (by decide +kernel), jt_in (i := 972) (by decide +kernel) rfl, by decide +kernel, by decide +kernel, by decide +kernel⟩
theorem cl_X11_174 : jcV RX11 174 yX6_put cX6_put 4 (none) 3 := ⟨jt_all [531, 532, 533, 130] (by decide +kernel) (by decide +kernel), jt_in (i := 534) (by decide +kernel) rfl, by decide +kernel, by decide +kernel, by decide +kernel⟩
theorem cl_X11_181 : jcV RX11 181 yX6_take cX6_take 2 (none) 1 := ⟨jt_all [985, 986, 987, 130] (by decide +kernel) (by decide +kernel), jt_in (i := 988) (by decide +kernel) rfl, by decide +kernel, by decide +kernel, by decide +kernel⟩
theorem cl_X11_184 : jcV RX11 184 yX11_canTurn cX11_canTurn 5 (some .boolean) 1 := ⟨jt_all [993, 995, 26, 124] (by decide +kernel) (by decide +kernel), jt_in (i := 996) (by decide +kernel) rfl, by decide +kernel, by decide +kernel, by decide +kernel⟩
theorem cl_X11_187 : jcV RX11 187 yX11_priceOfTurning cX11_priceOfTurning 4 (some .int) 1 := ⟨jt_all [997, 999, 27, 124] (by decide +kernel) (by decide +kernel), jt_in (i := 1000) (by decide +kernel) rfl, by decide +kernel, by decide +kernel, by decide +kernel⟩
theorem cl_X11_191 : jcV RX11 191 yX6_turnTo cX6_turnTo 4 (none) 3 := ⟨jt_all [1001, 1002, 1003, 130] (by decide +kernel) (by decide +kernel), jt_in (i := 1004) (by decide +kernel) rfl, by decide +kernel, by decide +kernel, by decide +kernel⟩
theorem cl_X11_194 : jcV RX11 194 yX4_total cX4_total 1 (some .int) 0 := ⟨jt_all [1009, 1010, 1011, 134] (by decide +kernel) (by decide +kernel), jt_in (i := 1012) (by decide +kernel) rfl, by decide +kernel, by decide +kernel, by decide +kernel⟩
theorem cl_X11_197 : jcV RX11 197 yX6_takeAll cX6_takeAll 1 (none) 0 := ⟨jt_all [1013, 344, 345, 130] (by decide +kernel) (by decide +kernel), jt_in (i := 346) (by decide +kernel) rfl, by decide +kernel, by decide +kernel, by decide +kernel⟩
theorem cl_X11_200 : jcV RX11 200 yX4_lineAt cX4_lineAt 9 (none) 2 := ⟨jt_all [1014, 1015, 1016, 134] (by decide +kernel) (by decide +kernel), jt_in (i := 1017) (by decide +kernel) rfl, by decide +kernel, by decide +kernel, by decide +kernel⟩
theorem cl_X11_204 : jcV RX11 204 yX8_cells cX8_cells 1 (some .int) 0 := ⟨jt_all [1019, 552, 553, 126] (by decide +kernel) (by decide +kernel), jt_in (i := 554) (by decide +kernel) rfl, by decide +kernel, by decide +kernel, by decide +kernel⟩
theorem cl_X11_207 : jcV RX11 207 yX4_isDown cX4_isDown 3 (some .boolean) 2 := ⟨jt_all [1020, 1021, 1022, 134] (by decide +kernel) (by decide +kernel), jt_in (i := 1023) (by decide +kernel) rfl, by decide +kernel, by decide +kernel, by decide +kernel⟩
theorem cl_X11_211 : jcV RX11 211 yX11_passSeasons cX11_passSeasons 4 (none) 2 := ⟨jt_all [1028, 1030, 28, 124] (by decide +kernel) (by decide +kernel), jt_in (i := 1031) (by decide +kernel) rfl, by decide +kernel, by decide +kernel, by decide +kernel⟩
theorem cl_X11_218 : jcV RX11 218 yX1_giveBack cX1_giveBack 2 (some .boolean) 1 := ⟨jt_all [1052, 1053, 1054, 132] (by decide +kernel) (by decide +kernel), jt_in (i := 1055) (by decide +kernel) rfl, by decide +kernel, by decide +kernel, by decide +kernel⟩
theorem cl_X11_222 : jcV RX11 222 yX11_countRest cX11_countRest 1 (none) 0 := ⟨jt_all [1064, 1066, 30, 124] (by decide +kernel) (by decide +kernel), jt_in (i := 1067) (by decide +kernel) rfl, by decide +kernel, by decide +kernel, by decide +kernel⟩
theorem cl_X11_225 : jcV RX11 225 yX8_isOpen cX8_isOpen 2 (some .boolean) 1 := ⟨jt_all [951, 952, 953, 126] (by decide +kernel) (by decide +kernel), jt_in (i := 954) (by decide +kernel) rfl, by decide +kernel, by decide +kernel, by decide +kernel⟩
theorem cl_X11_228 : jcV RX11 228 yX5_share cX5_share 4 (none) 1 := ⟨jt_all [1077, 1078, 1079, 135] (by decide +kernel) (by decide +kernel), jt_in (i := 1080) (by decide +kernel) rfl, by decide +kernel, by decide +kernel, by decide +kernel⟩
theorem cl_X11_232 : jcV RX11 232 yX5_lyingAcross cX5_lyingAcross 2 (some .int) 1 := ⟨jt_all [1107, 1108, 1109, 135] (by decide +kernel) (by decide +kernel), jt_in (i := 1110) (by decide +kernel) rfl, by decide +kernel, by decide +kernel, by decide +kernel⟩
theorem cl_X11_235 : jcV RX11 235 yX11_frozenWith cX11_frozenWith 3 (some .int) 1 := ⟨jt_all [1120, 1122, 37, 124] (by decide +kernel) (by decide +kernel), jt_in (i := 1123) (by decide +kernel) rfl, by decide +kernel, by decide +kernel, by decide +kernel⟩
theorem cl_X11_238 : jcV RX11 238 yX11_closeHolesAndStones cX11_closeHolesAndStones 2 (none) 0 := ⟨jt_all [1068, 1070, 31, 124] (by decide +kernel) (by decide +kernel), jt_in (i := 1071) (by decide +kernel) rfl, by decide +kernel, by decide +kernel, by decide +kernel⟩
theorem cl_X11_241 : jcV RX11 241 yX0_fewestClosed cX0_fewestClosed 4 (some .int) 1 := ⟨jt_all [1136, 1137, 1138, 136] (by decide +kernel) (by decide +kernel), jt_in (i := 1139) (by decide +kernel) rfl, by decide +kernel, by decide +kernel, by decide +kernel⟩
theorem cl_X11_245 : jcV RX11 245 yX11_isPaved cX11_isPaved 1 (some .boolean) 0 := ⟨jt_all [1154, 1156, 39, 124] (by decide +kernel) (by decide +kernel), jt_in (i := 1157) (by decide +kernel) rfl, by decide +kernel, by decide +kernel, by decide +kernel⟩
theorem cl_X11_249 : jcV RX11 249 yX11_traceNow cX11_traceNow 2 (none) 0 := ⟨jt_all [1162, 1164, 41, 124] (by decide +kernel) (by decide +kernel), jt_in (i := 1165) (by decide +kernel) rfl, by decide +kernel, by decide +kernel, by decide +kernel⟩
theorem cl_X11_252 : jcV RX11 252 yX4_numberOf cX4_numberOf 7 (some .int) 1 := ⟨jt_all [1171, 1172, 1173, 134] (by decide +kernel) (by decide +kernel), jt_in (i := 1174) (by decide +kernel) rfl, by decide +kernel, by decide +kernel, by decide +kernel⟩
theorem cl_X11_256 : jcV RX11 256 yX11_hasHills cX11_hasHills 1 (some .boolean) 0 := ⟨jt_all [1179, 1181, 42, 124] (by decide +kernel) (by decide +kernel), jt_in (i := 1182) (by decide +kernel) rfl, by decide +kernel, by decide +kernel, by decide +kernel⟩
theorem cl_X11_262 : jcV RX11 262 yX0_hillAt cX0_hillAt 5 (some .int) 4 := ⟨jt_all [1183, 1184, 1185, 136] (by decide +kernel) (by decide +kernel), jt_in (i := 1186) (by decide +kernel) rfl, by decide +kernel, by decide +kernel, by decide +kernel⟩
theorem cl_X11_266 : jcV RX11 266 yX0_apart cX0_apart 6 (some .int) 3 := ⟨jt_all [1195, 1196, 1197, 136] (by decide +kernel) (by decide +kernel), jt_in (i := 1198) (by decide +kernel) rfl, by decide +kernel, by decide +kernel, by decide +kernel⟩
theorem cl_X11_270 : jcV RX11 270 yX0_weighFar cX0_weighFar 5 (none) 2 := ⟨jt_all [1210, 1211, 1212, 136] (by decide +kernel) (by decide +kernel), jt_in (i := 1213) (by decide +kernel) rfl, by decide +kernel, by decide +kernel, by decide +kernel⟩
theorem cl_X11_274 : jcV RX11 274 yX0_choose cX0_choose 6 (some .int) 2 := ⟨jt_all [1214, 1215, 1216, 136] (by decide +kernel) (by decide +kernel), jt_in (i := 1217) (by decide +kernel) rfl, by decide +kernel, by decide +kernel, by decide +kernel⟩
theorem cl_X11_279 : jcV RX11 279 yX0_weighLow cX0_weighLow 6 (none) 1 := ⟨jt_all [1230, 1231, 1232, 136] (by decide +kernel) (by decide +kernel), jt_in (i := 1233) (by decide +kernel) rfl, by decide +kernel, by decide +kernel, by decide +kernel⟩
theorem cl_X11_282 : jcV RX11 282 yX4_begin cX4_begin 3 (none) 1 := ⟨jt_all [547, 548, 549, 134] (by decide +kernel) (by decide +kernel), jt_in (i := 550) (by decide +kernel) rfl, by decide +kernel, by decide +kernel, by decide +kernel⟩
theorem cl_X11_286 : jcV RX11 286 yX4_close cX4_close 2 (none) 1 := ⟨jt_all [1072, 556, 557, 134] (by decide +kernel) (by decide +kernel), jt_in (i := 558) (by decide +kernel) rfl, by decide +kernel, by decide +kernel, by decide +kernel⟩
theorem cl_X11_289 : jcV RX11 289 yX4_countWays cX4_countWays 3 (none) 0 := ⟨jt_all [569, 570, 571, 134] (by decide +kernel) (by decide +kernel), jt_in (i := 572) (by decide +kernel) rfl, by decide +kernel, by decide +kernel, by decide +kernel⟩
theorem cl_X11_292 : jcV RX11 292 yX6_copyOf cX6_copyOf 3 (none) 1 := ⟨jt_all [1250, 974, 975, 130] (by decide +kernel) (by decide +kernel), jt_in (i := 976) (by decide +kernel) rfl, by decide +kernel, by decide +kernel, by decide +kernel⟩
theorem cl_X11_298 : jcV RX11 298 yX11_seedsThatLoosen cX11_seedsThatLoosen 7 (some .int) 2 := ⟨jt_all [1255, 1257, 45, 124] (by decide +kernel) (by decide +kernel), jt_in (i := 1258) (by decide +kernel) rfl, by decide +kernel, by decide +kernel, by decide +kernel⟩
theorem cl_X11_302 : jcV RX11 302 yX6_ageAll cX6_ageAll 3 (none) 1 := ⟨jt_all [1043, 1044, 1045, 130] (by decide +kernel) (by decide +kernel), jt_in (i := 1046) (by decide +kernel) rfl, by decide +kernel, by decide +kernel, by decide +kernel⟩
theorem cl_X11_305 : jcS RX11 305 yJ6_bitCount_0f7a4 cJ6_bitCount_0f7a4 1 (some .int) 1 := ⟨jt_all [1259, 1260, 145] (by decide +kernel) (by decide +kernel), jt_in (i := 1261) (by decide +kernel) rfl, by decide +kernel, by decide +kernel, by decide +kernel⟩
theorem cl_X11_310 : jcV RX11 310 yX10_note cX10_note 3 (some .int) 2 := ⟨jt_all [1269, 1270, 1271, 133] (by decide +kernel) (by decide +kernel), jt_in (i := 1272) (by decide +kernel) rfl, by decide +kernel, by decide +kernel, by decide +kernel⟩
theorem cl_X11_317 : jcV RX11 317 yX11_countKnown cX11_countKnown 3 (none) 1 := ⟨jt_all [1281, 1283, 46, 124] (by decide +kernel) (by decide +kernel), jt_in (i := 1284) (by decide +kernel) rfl, by decide +kernel, by decide +kernel, by decide +kernel⟩
theorem cl_X11_320 : jcS RX11 320 yJ9_max_7cf53 cJ9_max_7cf53 2 (some .int) 2 := ⟨jt_all [1293, 762, 142] (by decide +kernel) (by decide +kernel), jt_in (i := 763) (by decide +kernel) rfl, by decide +kernel, by decide +kernel, by decide +kernel⟩
theorem cl_X11_325 : jcV RX11 325 yX1_putIntoSlot cX1_putIntoSlot 3 (some .boolean) 2 := ⟨jt_all [1298, 1299, 1300, 132] (by decide +kernel) (by decide +kernel), jt_in (i := 1301) (by decide +kernel) rfl, by decide +kernel, by decide +kernel, by decide +kernel⟩
theorem cl_X11_329 : jcV RX11 329 yX1_takeFromSlot cX1_takeFromSlot 3 (some .boolean) 2 := ⟨jt_all [1306, 1307, 1308, 132] (by decide +kernel) (by decide +kernel), jt_in (i := 1309) (by decide +kernel) rfl, by decide +kernel, by decide +kernel, by decide +kernel⟩
theorem cl_X11_332 : jcV RX11 332 yX6_flatStones cX6_flatStones 3 (some .int) 0 := ⟨jt_all [1314, 1315, 1316, 130] (by decide +kernel) (by decide +kernel), jt_in (i := 1317) (by decide +kernel) rfl, by decide +kernel, by decide +kernel, by decide +kernel⟩
theorem cl_X11_338 : jcV RX11 338 yX1_slotsInUse cX1_slotsInUse 3 (some .int) 0 := ⟨jt_all [1318, 1319, 1320, 132] (by decide +kernel) (by decide +kernel), jt_in (i := 1321) (by decide +kernel) rfl, by decide +kernel, by decide +kernel, by decide +kernel⟩
theorem cl_X11_344 : jcV RX11 344 yX6_coupleBits cX6_coupleBits 3 (some .int) 0 := ⟨jt_all [1322, 1323, 1324, 130] (by decide +kernel) (by decide +kernel), jt_in (i := 1325) (by decide +kernel) rfl, by decide +kernel, by decide +kernel, by decide +kernel⟩
theorem cl_X11_347 : jcV RX11 347 yX11_freeCells cX11_freeCells 1 (some .int) 0 := ⟨jt_all [1158, 1160, 40, 124] (by decide +kernel) (by decide +kernel), jt_in (i := 1161) (by decide +kernel) rfl, by decide +kernel, by decide +kernel, by decide +kernel⟩
theorem cl_X11_350 : jcV RX11 350 yX11_asksOfAll cX11_asksOfAll 3 (some .int) 0 := ⟨jt_all [1326, 1328, 47, 124] (by decide +kernel) (by decide +kernel), jt_in (i := 1329) (by decide +kernel) rfl, by decide +kernel, by decide +kernel, by decide +kernel⟩
theorem cl_X11_353 : jcV RX11 353 yX6_turnedInAll cX6_turnedInAll 3 (some .int) 0 := ⟨jt_all [1330, 1331, 1332, 130] (by decide +kernel) (by decide +kernel), jt_in (i := 1333) (by decide +kernel) rfl, by decide +kernel, by decide +kernel, by decide +kernel⟩
theorem cl_X11_356 : jcV RX11 356 yX6_clear cX6_clear 2 (none) 1 := ⟨jt_all [530, 340, 341, 130] (by decide +kernel) (by decide +kernel), jt_in (i := 342) (by decide +kernel) rfl, by decide +kernel, by decide +kernel, by decide +kernel⟩
theorem cl_X11_369 : jcV RX11 369 yX1_clear cX1_clear 2 (none) 0 := ⟨jt_all [543, 544, 545, 132] (by decide +kernel) (by decide +kernel), jt_in (i := 546) (by decide +kernel) rfl, by decide +kernel, by decide +kernel, by decide +kernel⟩
theorem cl_X11_371 : jcV RX11 371 yX11_couplesThatLoosen cX11_couplesThatLoosen 5 (some .int) 1 := ⟨jt_all [1032, 1034, 29, 124] (by decide +kernel) (by decide +kernel), jt_in (i := 1035) (by decide +kernel) rfl, by decide +kernel, by decide +kernel, by decide +kernel⟩
theorem cl_X11_378 : jcS RX11 378 yX11_lotOfHundred cX11_lotOfHundred 2 (some .int) 2 := ⟨jt_all [1036, 1037, 124] (by decide +kernel) (by decide +kernel), jt_in (i := 1038) (by decide +kernel) rfl, by decide +kernel, by decide +kernel, by decide +kernel⟩
theorem cl_X11_381 : jcS RX11 381 yX11_mixed cX11_mixed 3 (some .int) 2 := ⟨jt_all [1039, 1040, 124] (by decide +kernel) (by decide +kernel), jt_in (i := 1041) (by decide +kernel) rfl, by decide +kernel, by decide +kernel, by decide +kernel⟩
theorem cl_X11_388 : jcV RX11 388 yX4_bind cX4_bind 5 (none) 2 := ⟨jt_all [1285, 1286, 1287, 134] (by decide +kernel) (by decide +kernel), jt_in (i := 1288) (by decide +kernel) rfl, by decide +kernel, by decide +kernel, by decide +kernel⟩
theorem cl_X11_392 : jcV RX11 392 yX5_onlyMate cX5_onlyMate 4 (some .int) 2 := ⟨jt_all [1124, 1125, 1126, 135] (by decide +kernel) (by decide +kernel), jt_in (i := 1127) (by decide +kernel) rfl, by decide +kernel, by decide +kernel, by decide +kernel⟩
theorem cl_X11_396 : jcS RX11 396 yJ7_fill_53178 cJ7_fill_53178 4 (none) 2 := ⟨jt_all [1166, 348, 131] (by decide +kernel) (by decide +kernel), jt_in (i := 349) (by decide +kernel) rfl, by decide +kernel, by decide +kernel, by decide +kernel⟩
theorem cl_X11_402 : jcV RX11 402 yX4_drawDown cX4_drawDown 3 (none) 2 := ⟨jt_all [1167, 1168, 1169, 134] (by decide +kernel) (by decide +kernel), jt_in (i := 1170) (by decide +kernel) rfl, by decide +kernel, by decide +kernel, by decide +kernel⟩
theorem cl_X0_32 : jcV RX0 32 yX4_bit cX4_bit 2 (some .int) 1 := ⟨jt_all [1190, 566, 567, 134] (by decide +kernel) (by decide +kernel), jt_in (i := 568) (by decide +kernel) rfl, by decide +kernel, by decide +kernel, by decide +kernel⟩
theorem cl_X0_36 : jcS RX0 36 yX0_climb cX0_climb 7 (none) 4 := ⟨jt_all [1187, 1188, 136] (by decide +kernel) (by decide +kernel), jt_in (i := 1189) (by decide +kernel) rfl, by decide +kernel, by decide +kernel, by decide +kernel⟩
theorem cl_X0_40 : jcS RX0 40 yJ9_abs_0f7a4 cJ9_abs_0f7a4 1 (some .int) 1 := ⟨jt_all [1203, 1204, 142] (by decide +kernel) (by decide +kernel), jt_in (i := 1205) (by decide +kernel) rfl, by decide +kernel, by decide +kernel, by decide +kernel⟩
theorem cl_X0_48 : jcV RX0 48 yX0_apartInRow cX0_apartInRow 6 (some .int) 3 := ⟨jt_all [1199, 1201, 43, 136] (by decide +kernel) (by decide +kernel), jt_in (i := 1202) (by decide +kernel) rfl, by decide +kernel, by decide +kernel, by decide +kernel⟩
theorem cl_X0_56 : jcS RX0 56 yJ7_fill_53178 cJ7_fill_53178 4 (none) 2 := ⟨jt_all [1140, 348, 131] (by decide +kernel) (by decide +kernel), jt_in (i := 349) (by decide +kernel) rfl, by decide +kernel, by decide +kernel, by decide +kernel⟩
theorem cl_X0_65 : jcV RX0 65 yX0_bestPart cX0_bestPart 9 (some .int) 3 := ⟨jt_all [1219, 1221, 44, 136] (by decide +kernel) (by decide +kernel), jt_in (i := 1222) (by decide +kernel) rfl, by decide +kernel, by decide +kernel, by decide +kernel⟩
theorem cl_X0_68 : jcS RX0 68 yJ9_max_7cf53 cJ9_max_7cf53 2 (some .int) 2 := ⟨jt_all [1224, 762, 142] (by decide +kernel) (by decide +kernel), jt_in (i := 763) (by decide +kernel) rfl, by decide +kernel, by decide +kernel, by decide +kernel⟩
theorem cl_X0_72 : jcV RX0 72 yX4_roomBelow cX4_roomBelow 3 (some .int) 2 := ⟨jt_all [1146, 578, 579, 134] (by decide +kernel) (by decide +kernel), jt_in (i := 580) (by decide +kernel) rfl, by decide +kernel, by decide +kernel, by decide +kernel⟩
theorem cl_X0_75 : jcV RX0 75 yX4_fills cX4_fills 4 (some .boolean) 3 := ⟨jt_all [1223, 586, 587, 134] (by decide +kernel) (by decide +kernel), jt_in (i := 588) (by decide +kernel) rfl, by decide +kernel, by decide +kernel, by decide +kernel⟩
theorem cl_X0_79 : jcS RX0 79 yX4_partAfter cX4_partAfter 3 (some .int) 2 := ⟨jt_all [1149, 594, 134] (by decide +kernel) (by decide +kernel), jt_in (i := 595) (by decide +kernel) rfl, by decide +kernel, by decide +kernel, by decide +kernel⟩
theorem cl_X0_82 : jcV RX0 82 yX4_canReach cX4_canReach 4 (some .boolean) 2 := ⟨jt_all [1141, 574, 575, 134] (by decide +kernel) (by decide +kernel), jt_in (i := 576) (by decide +kernel) rfl, by decide +kernel, by decide +kernel, by decide +kernel⟩
theorem cl_X0_86 : jcV RX0 86 yX0_fewestClosedOn cX0_fewestClosedOn 8 (some .int) 3 := ⟨jt_all [1142, 1144, 38, 136] (by decide +kernel) (by decide +kernel), jt_in (i := 1145) (by decide +kernel) rfl, by decide +kernel, by decide +kernel, by decide +kernel⟩
theorem cl_X0_89 : jcV RX0 89 yX4_lonelyCells cX4_lonelyCells 4 (some .int) 3 := ⟨jt_all [1147, 590, 591, 134] (by decide +kernel) (by decide +kernel), jt_in (i := 592) (by decide +kernel) rfl, by decide +kernel, by decide +kernel, by decide +kernel⟩
theorem cl_X0_93 : jcS RX0 93 yJ9_min_7cf53 cJ9_min_7cf53 2 (some .int) 2 := ⟨jt_all [1148, 765, 142] (by decide +kernel) (by decide +kernel), jt_in (i := 766) (by decide +kernel) rfl, by decide +kernel, by decide +kernel, by decide +kernel⟩
theorem cl_X1_32 : jcV RX1 32 yX6_copyOf cX6_copyOf 3 (none) 1 := ⟨jt_all [973, 974, 975, 130] (by decide +kernel) (by decide +kernel), jt_in (i := 976) (by decide +kernel) rfl, by decide +kernel, by decide +kernel, by decide +kernel⟩
theorem cl_X1_36 : jcS RX1 36 yJ9_min_7cf53 cJ9_min_7cf53 2 (some .int) 2 := ⟨jt_all [980, 765, 142] (by decide +kernel) (by decide +kernel), jt_in (i := 766) (by decide +kernel) rfl, by decide +kernel, by decide +kernel, by decide +kernel⟩
theorem cl_X2_28 : jcV RX2 28 yX2_begin cX2_begin 2 (none) 1 := ⟨jt_all [209, 210, 211, 127] (by decide +kernel) (by decide +kernel), jt_in (i := 212) (by decide +kernel) rfl, by decide +kernel, by decide +kernel, by decide +kernel⟩
theorem cl_X2_32 : jcV RX2 32 yX2_add cX2_add 3 (some .int) 2 := ⟨jt_all [213, 214, 215, 127] (by decide +kernel) (by decide +kernel), jt_in (i := 216) (by decide +kernel) rfl, by decide +kernel, by decide +kernel, by decide +kernel⟩
theorem cl_X2_36 : jcV RX2 36 yX2_worth cX2_worth 12 (some .int) 4 := ⟨jt_all [929, 931, 24, 127] (by decide +kernel) (by decide +kernel), jt_in (i := 932) (by decide +kernel) rfl, by decide +kernel, by decide +kernel, by decide +kernel⟩
theorem cl_X2_40 : jcS RX2 40 yJ9_min_7cf53 cJ9_min_7cf53 2 (some .int) 2 := ⟨jt_all [941, 765, 142] (by decide +kernel) (by decide +kernel), jt_in (i := 766) (by decide +kernel) rfl, by decide +kernel, by decide +kernel, by decide +kernel⟩
theorem cl_X2_45 : jcS RX2 45 yJ9_max_7cf53 cJ9_max_7cf53 2 (some .int) 2 := ⟨jt_all [942, 762, 142] (by decide +kernel) (by decide +kernel), jt_in (i := 763) (by decide +kernel) rfl, by decide +kernel, by decide +kernel, by decide +kernel⟩
theorem cl_X2_48 : jcS RX2 48 yX2_variable cX2_variable 4 (some .int) 4 := ⟨jt_all [933, 934, 127] (by decide +kernel) (by decide +kernel), jt_in (i := 935) (by decide +kernel) rfl, by decide +kernel, by decide +kernel, by decide +kernel⟩
theorem cl_X2_53 : jcS RX2 53 yX2_joined cX2_joined 3 (some .int) 3 := ⟨jt_all [938, 939, 127] (by decide +kernel) (by decide +kernel), jt_in (i := 940) (by decide +kernel) rfl, by decide +kernel, by decide +kernel, by decide +kernel⟩
theorem cl_X2_69 : jcS RX2 69 yX4_columnOf cX4_columnOf 2 (some .int) 2 := ⟨jt_all [936, 563, 134] (by decide +kernel) (by decide +kernel), jt_in (i := 564) (by decide +kernel) rfl, by decide +kernel, by decide +kernel, by decide +kernel⟩
theorem cl_X2_74 : jcS RX2 74 yX4_rowOf cX4_rowOf 2 (some .int) 2 := ⟨jt_all [937, 560, 134] (by decide +kernel) (by decide +kernel), jt_in (i := 561) (by decide +kernel) rfl, by decide +kernel, by decide +kernel, by decide +kernel⟩
theorem cl_X3_32 : jcV RX3 32 yX8_clear cX8_clear 2 (none) 0 := ⟨jt_all [659, 202, 203, 126] (by decide +kernel) (by decide +kernel), jt_in (i := 204) (by decide +kernel) rfl, by decide +kernel, by decide +kernel, by decide +kernel⟩
theorem cl_X3_43 : jcV RX3 43 yX9_cutAll cX9_cutAll 3 (none) 0 := ⟨jt_all [660, 661, 662, 129] (by decide +kernel) (by decide +kernel), jt_in (i := 663) (by decide +kernel) rfl, by decide +kernel, by decide +kernel, by decide +kernel⟩
theorem cl_X3_49 : jcV RX3 49 yX9_kindOf cX9_kindOf 2 (some .int) 1 := ⟨jt_all [805, 806, 807, 129] (by decide +kernel) (by decide +kernel), jt_in (i := 808) (by decide +kernel) rfl, by decide +kernel, by decide +kernel, by decide +kernel⟩
theorem cl_X3_56 : jcV RX3 56 yX9_placeOf cX9_placeOf 2 (some .int) 1 := ⟨jt_all [809, 810, 811, 129] (by decide +kernel) (by decide +kernel), jt_in (i := 812) (by decide +kernel) rfl, by decide +kernel, by decide +kernel, by decide +kernel⟩
theorem cl_X3_62 : jcV RX3 62 yX3_takeTell cX3_takeTell 2 (some .boolean) 0 := ⟨jt_all [813, 815, 9, 128] (by decide +kernel) (by decide +kernel), jt_in (i := 816) (by decide +kernel) rfl, by decide +kernel, by decide +kernel, by decide +kernel⟩
theorem cl_X3_66 : jcV RX3 66 yX3_refuse cX3_refuse 3 (some .boolean) 2 := ⟨jt_all [821, 823, 11, 128] (by decide +kernel) (by decide +kernel), jt_in (i := 824) (by decide +kernel) rfl, by decide +kernel, by decide +kernel, by decide +kernel⟩
theorem cl_X3_70 : jcV RX3 70 yX8_fitsSquare cX8_fitsSquare 3 (some .boolean) 0 := ⟨jt_all [887, 888, 889, 126] (by decide +kernel) (by decide +kernel), jt_in (i := 890) (by decide +kernel) rfl, by decide +kernel, by decide +kernel, by decide +kernel⟩
theorem cl_X3_78 : jcV RX3 78 yX3_accept cX3_accept 2 (some .boolean) 1 := ⟨jt_all [817, 819, 10, 128] (by decide +kernel) (by decide +kernel), jt_in (i := 820) (by decide +kernel) rfl, by decide +kernel, by decide +kernel, by decide +kernel⟩
theorem cl_X3_82 : jcV RX3 82 yX3_takeSquare cX3_takeSquare 1 (some .boolean) 0 := ⟨jt_all [825, 827, 12, 128] (by decide +kernel) (by decide +kernel), jt_in (i := 828) (by decide +kernel) rfl, by decide +kernel, by decide +kernel, by decide +kernel⟩
theorem cl_X3_85 : jcV RX3 85 yX3_acceptOf cX3_acceptOf 2 (some .boolean) 1 := ⟨jt_all [837, 839, 14, 128] (by decide +kernel) (by decide +kernel), jt_in (i := 840) (by decide +kernel) rfl, by decide +kernel, by decide +kernel, by decide +kernel⟩
theorem cl_X3_92 : jcV RX3 92 yX3_takeHole cX3_takeHole 1 (some .boolean) 0 := ⟨jt_all [845, 847, 16, 128] (by decide +kernel) (by decide +kernel), jt_in (i := 848) (by decide +kernel) rfl, by decide +kernel, by decide +kernel, by decide +kernel⟩
theorem cl_X3_98 : jcV RX3 98 yX3_takeStone cX3_takeStone 1 (some .boolean) 0 := ⟨jt_all [853, 855, 17, 128] (by decide +kernel) (by decide +kernel), jt_in (i := 856) (by decide +kernel) rfl, by decide +kernel, by decide +kernel, by decide +kernel⟩
theorem cl_X3_101 : jcV RX3 101 yX3_takeLaw cX3_takeLaw 4 (some .boolean) 1 := ⟨jt_all [861, 863, 18, 128] (by decide +kernel) (by decide +kernel), jt_in (i := 864) (by decide +kernel) rfl, by decide +kernel, by decide +kernel, by decide +kernel⟩
theorem cl_X3_104 : jcV RX3 104 yX3_takeSeed cX3_takeSeed 1 (some .boolean) 0 := ⟨jt_all [883, 885, 22, 128] (by decide +kernel) (by decide +kernel), jt_in (i := 886) (by decide +kernel) rfl, by decide +kernel, by decide +kernel, by decide +kernel⟩
theorem cl_X3_107 : jcV RX3 107 yX9_numberOf cX9_numberOf 2 (some .int) 1 := ⟨jt_all [833, 834, 835, 129] (by decide +kernel) (by decide +kernel), jt_in (i := 836) (by decide +kernel) rfl, by decide +kernel, by decide +kernel, by decide +kernel⟩
theorem cl_X3_110 : jcV RX3 110 yX3_takeNumber cX3_takeNumber 4 (some .boolean) 2 := ⟨jt_all [829, 831, 13, 128] (by decide +kernel) (by decide +kernel), jt_in (i := 832) (by decide +kernel) rfl, by decide +kernel, by decide +kernel, by decide +kernel⟩
theorem cl_X3_113 : jcV RX3 113 yX3_numberBefore cX3_numberBefore 2 (some .int) 1 := ⟨jt_all [841, 843, 15, 128] (by decide +kernel) (by decide +kernel), jt_in (i := 844) (by decide +kernel) rfl, by decide +kernel, by decide +kernel, by decide +kernel⟩
theorem cl_X3_122 : jcV RX3 122 yX8_addHole cX8_addHole 3 (none) 2 := ⟨jt_all [849, 850, 851, 126] (by decide +kernel) (by decide +kernel), jt_in (i := 852) (by decide +kernel) rfl, by decide +kernel, by decide +kernel, by decide +kernel⟩
theorem cl_X3_126 : jcV RX3 126 yX8_addStone cX8_addStone 4 (none) 3 := ⟨jt_all [857, 858, 859, 126] (by decide +kernel) (by decide +kernel), jt_in (i := 860) (by decide +kernel) rfl, by decide +kernel, by decide +kernel, by decide +kernel⟩
theorem cl_X3_137 : jcV RX3 137 yX2_begin cX2_begin 2 (none) 1 := ⟨jt_all [865, 210, 211, 127] (by decide +kernel) (by decide +kernel), jt_in (i := 212) (by decide +kernel) rfl, by decide +kernel, by decide +kernel, by decide +kernel⟩
theorem cl_X3_143 : jcV RX3 143 yX3_takeSum cX3_takeSum 5 (some .boolean) 1 := ⟨jt_all [866, 868, 19, 128] (by decide +kernel) (by decide +kernel), jt_in (i := 869) (by decide +kernel) rfl, by decide +kernel, by decide +kernel, by decide +kernel⟩
theorem cl_X3_146 : jcV RX3 146 yX2_add cX2_add 3 (some .int) 2 := ⟨jt_all [878, 214, 215, 127] (by decide +kernel) (by decide +kernel), jt_in (i := 216) (by decide +kernel) rfl, by decide +kernel, by decide +kernel, by decide +kernel⟩
theorem cl_X3_150 : jcV RX3 150 yX2_aimHere cX2_aimHere 2 (none) 1 := ⟨jt_all [879, 880, 881, 127] (by decide +kernel) (by decide +kernel), jt_in (i := 882) (by decide +kernel) rfl, by decide +kernel, by decide +kernel, by decide +kernel⟩
theorem cl_X3_153 : jcV RX3 153 yX3_takePart cX3_takePart 5 (some .boolean) 1 := ⟨jt_all [870, 872, 20, 128] (by decide +kernel) (by decide +kernel), jt_in (i := 873) (by decide +kernel) rfl, by decide +kernel, by decide +kernel, by decide +kernel⟩
theorem cl_X3_156 : jcV RX3 156 yX3_takeUnit cX3_takeUnit 2 (some .boolean) 1 := ⟨jt_all [874, 876, 21, 128] (by decide +kernel) (by decide +kernel), jt_in (i := 877) (by decide +kernel) rfl, by decide +kernel, by decide +kernel, by decide +kernel⟩
theorem cl_X4_47 : jcV RX4 47 yX8_cells cX8_cells 1 (some .int) 0 := ⟨jt_all [551, 552, 553, 126] (by decide +kernel) (by decide +kernel), jt_in (i := 554) (by decide +kernel) rfl, by decide +kernel, by decide +kernel, by decide +kernel⟩
theorem cl_X4_55 : jcV RX4 55 yX4_close cX4_close 2 (none) 1 := ⟨jt_all [555, 556, 557, 134] (by decide +kernel) (by decide +kernel), jt_in (i := 558) (by decide +kernel) rfl, by decide +kernel, by decide +kernel, by decide +kernel⟩
theorem cl_X4_59 : jcS RX4 59 yX4_rowOf cX4_rowOf 2 (some .int) 2 := ⟨jt_all [559, 560, 134] (by decide +kernel) (by decide +kernel), jt_in (i := 561) (by decide +kernel) rfl, by decide +kernel, by decide +kernel, by decide +kernel⟩
theorem cl_X4_63 : jcS RX4 63 yX4_columnOf cX4_columnOf 2 (some .int) 2 := ⟨jt_all [562, 563, 134] (by decide +kernel) (by decide +kernel), jt_in (i := 564) (by decide +kernel) rfl, by decide +kernel, by decide +kernel, by decide +kernel⟩
theorem cl_X4_66 : jcV RX4 66 yX4_bit cX4_bit 2 (some .int) 1 := ⟨jt_all [565, 566, 567, 134] (by decide +kernel) (by decide +kernel), jt_in (i := 568) (by decide +kernel) rfl, by decide +kernel, by decide +kernel, by decide +kernel⟩
theorem cl_X4_69 : jcV RX4 69 yX4_roomBelow cX4_roomBelow 3 (some .int) 2 := ⟨jt_all [577, 578, 579, 134] (by decide +kernel) (by decide +kernel), jt_in (i := 580) (by decide +kernel) rfl, by decide +kernel, by decide +kernel, by decide +kernel⟩
theorem cl_X4_72 : jcV RX4 72 yX4_lonelyCells cX4_lonelyCells 4 (some .int) 3 := ⟨jt_all [589, 590, 591, 134] (by decide +kernel) (by decide +kernel), jt_in (i := 592) (by decide +kernel) rfl, by decide +kernel, by decide +kernel, by decide +kernel⟩
theorem cl_X4_76 : jcV RX4 76 yX4_canReach cX4_canReach 4 (some .boolean) 2 := ⟨jt_all [573, 574, 575, 134] (by decide +kernel) (by decide +kernel), jt_in (i := 576) (by decide +kernel) rfl, by decide +kernel, by decide +kernel, by decide +kernel⟩
theorem cl_X4_80 : jcV RX4 80 yX4_waysOn cX4_waysOn 7 (some .int) 2 := ⟨jt_all [581, 583, 3, 134] (by decide +kernel) (by decide +kernel), jt_in (i := 584) (by decide +kernel) rfl, by decide +kernel, by decide +kernel, by decide +kernel⟩
theorem cl_X4_83 : jcV RX4 83 yX4_fills cX4_fills 4 (some .boolean) 3 := ⟨jt_all [585, 586, 587, 134] (by decide +kernel) (by decide +kernel), jt_in (i := 588) (by decide +kernel) rfl, by decide +kernel, by decide +kernel, by decide +kernel⟩
theorem cl_X4_87 : jcS RX4 87 yX4_partAfter cX4_partAfter 3 (some .int) 2 := ⟨jt_all [593, 594, 134] (by decide +kernel) (by decide +kernel), jt_in (i := 595) (by decide +kernel) rfl, by decide +kernel, by decide +kernel, by decide +kernel⟩
theorem cl_X4_90 : jcS RX4 90 yJ7_fill_53178 cJ7_fill_53178 4 (none) 2 := ⟨jt_all [1018, 348, 131] (by decide +kernel) (by decide +kernel), jt_in (i := 349) (by decide +kernel) rfl, by decide +kernel, by decide +kernel, by decide +kernel⟩
theorem cl_X5_30 : jcV RX5 30 yX5_countReach cX5_countReach 4 (none) 1 := ⟨jt_all [1081, 1083, 32, 135] (by decide +kernel) (by decide +kernel), jt_in (i := 1084) (by decide +kernel) rfl, by decide +kernel, by decide +kernel, by decide +kernel⟩
theorem cl_X5_37 : jcV RX5 37 yX4_bit cX4_bit 2 (some .int) 1 := ⟨jt_all [1093, 566, 567, 134] (by decide +kernel) (by decide +kernel), jt_in (i := 568) (by decide +kernel) rfl, by decide +kernel, by decide +kernel, by decide +kernel⟩
theorem cl_X5_41 : jcV RX5 41 yX5_passing cX5_passing 6 (some .int) 3 := ⟨jt_all [1094, 1096, 34, 135] (by decide +kernel) (by decide +kernel), jt_in (i := 1097) (by decide +kernel) rfl, by decide +kernel, by decide +kernel, by decide +kernel⟩
theorem cl_X5_45 : jcV RX5 45 yX5_shareRow cX5_shareRow 8 (none) 2 := ⟨jt_all [1098, 1100, 35, 135] (by decide +kernel) (by decide +kernel), jt_in (i := 1101) (by decide +kernel) rfl, by decide +kernel, by decide +kernel, by decide +kernel⟩
theorem cl_X5_49 : jcS RX5 49 yJ7_fill_53178 cJ7_fill_53178 4 (none) 2 := ⟨jt_all [1085, 348, 131] (by decide +kernel) (by decide +kernel), jt_in (i := 349) (by decide +kernel) rfl, by decide +kernel, by decide +kernel, by decide +kernel⟩
theorem cl_X5_58 : jcV RX5 58 yX5_reachOn cX5_reachOn 7 (none) 3 := ⟨jt_all [1086, 1088, 33, 135] (by decide +kernel) (by decide +kernel), jt_in (i := 1089) (by decide +kernel) rfl, by decide +kernel, by decide +kernel, by decide +kernel⟩
theorem cl_X5_62 : jcV RX5 62 yX4_roomBelow cX4_roomBelow 3 (some .int) 2 := ⟨jt_all [1090, 578, 579, 134] (by decide +kernel) (by decide +kernel), jt_in (i := 580) (by decide +kernel) rfl, by decide +kernel, by decide +kernel, by decide +kernel⟩
theorem cl_X5_69 : jcV RX5 69 yX4_fills cX4_fills 4 (some .boolean) 3 := ⟨jt_all [1091, 586, 587, 134] (by decide +kernel) (by decide +kernel), jt_in (i := 588) (by decide +kernel) rfl, by decide +kernel, by decide +kernel, by decide +kernel⟩
theorem cl_X5_73 : jcS RX5 73 yX4_partAfter cX4_partAfter 3 (some .int) 2 := ⟨jt_all [1092, 594, 134] (by decide +kernel) (by decide +kernel), jt_in (i := 595) (by decide +kernel) rfl, by decide +kernel, by decide +kernel, by decide +kernel⟩
theorem cl_X5_76 : jcV RX5 76 yX4_isClosed cX4_isClosed 3 (some .boolean) 2 := ⟨jt_all [1102, 1103, 1104, 134] (by decide +kernel) (by decide +kernel), jt_in (i := 1105) (by decide +kernel) rfl, by decide +kernel, by decide +kernel, by decide +kernel⟩
theorem cl_X5_80 : jcV RX5 80 yX4_total cX4_total 1 (some .int) 0 := ⟨jt_all [1106, 1010, 1011, 134] (by decide +kernel) (by decide +kernel), jt_in (i := 1012) (by decide +kernel) rfl, by decide +kernel, by decide +kernel, by decide +kernel⟩
theorem cl_X5_84 : jcS RX5 84 yX4_columnOf cX4_columnOf 2 (some .int) 2 := ⟨jt_all [1115, 563, 134] (by decide +kernel) (by decide +kernel), jt_in (i := 564) (by decide +kernel) rfl, by decide +kernel, by decide +kernel, by decide +kernel⟩
theorem cl_X5_87 : jcV RX5 87 yX5_flatWithLeft cX5_flatWithLeft 2 (some .int) 1 := ⟨jt_all [1111, 1113, 36, 135] (by decide +kernel) (by decide +kernel), jt_in (i := 1114) (by decide +kernel) rfl, by decide +kernel, by decide +kernel, by decide +kernel⟩
theorem cl_X6_32 : jcV RX6 32 yX6_takeAll cX6_takeAll 1 (none) 0 := ⟨jt_all [343, 344, 345, 130] (by decide +kernel) (by decide +kernel), jt_in (i := 346) (by decide +kernel) rfl, by decide +kernel, by decide +kernel, by decide +kernel⟩
theorem cl_X6_48 : jcS RX6 48 yJ7_fill_53178 cJ7_fill_53178 4 (none) 2 := ⟨jt_all [347, 348, 131] (by decide +kernel) (by decide +kernel), jt_in (i := 349) (by decide +kernel) rfl, by decide +kernel, by decide +kernel, by decide +kernel⟩
theorem cl_X6_63 : jcV RX6 63 yX6_lies cX6_lies 2 (some .boolean) 1 := ⟨jt_all [968, 922, 923, 130] (by decide +kernel) (by decide +kernel), jt_in (i := 924) (by decide +kernel) rfl, by decide +kernel, by decide +kernel, by decide +kernel⟩
theorem cl_X6_67 : jcV RX6 67 yX6_second cX6_second 2 (some .int) 1 := ⟨jt_all [539, 541, 2, 130] (by decide +kernel) (by decide +kernel), jt_in (i := 542) (by decide +kernel) rfl, by decide +kernel, by decide +kernel, by decide +kernel⟩
theorem cl_X6_71 : jcV RX6 71 yX6_occupy cX6_occupy 4 (none) 3 := ⟨jt_all [535, 537, 1, 130] (by decide +kernel) (by decide +kernel), jt_in (i := 538) (by decide +kernel) rfl, by decide +kernel, by decide +kernel, by decide +kernel⟩
theorem cl_X6_75 : jcV RX6 75 yX6_take cX6_take 2 (none) 1 := ⟨jt_all [1047, 986, 987, 130] (by decide +kernel) (by decide +kernel), jt_in (i := 988) (by decide +kernel) rfl, by decide +kernel, by decide +kernel, by decide +kernel⟩
theorem cl_X8_60 : jcV RX8 60 yX2_clear cX2_clear 1 (none) 0 := ⟨jt_all [205, 206, 207, 127] (by decide +kernel) (by decide +kernel), jt_in (i := 208) (by decide +kernel) rfl, by decide +kernel, by decide +kernel, by decide +kernel⟩
theorem cl_X8_61 : jcV RX8 61 yX8_mark cX8_mark 3 (some .boolean) 2 := ⟨jt_all [891, 893, 23, 126] (by decide +kernel) (by decide +kernel), jt_in (i := 894) (by decide +kernel) rfl, by decide +kernel, by decide +kernel, by decide +kernel⟩
theorem cl_X8_65 : jcV RX8 65 yX8_hasCell cX8_hasCell 2 (some .boolean) 1 := ⟨jt_all [955, 904, 905, 126] (by decide +kernel) (by decide +kernel), jt_in (i := 906) (by decide +kernel) rfl, by decide +kernel, by decide +kernel, by decide +kernel⟩
theorem cl_X8_69 : jcS RX8 69 yX4_columnOf cX4_columnOf 2 (some .int) 2 := ⟨jt_all [916, 563, 134] (by decide +kernel) (by decide +kernel), jt_in (i := 564) (by decide +kernel) rfl, by decide +kernel, by decide +kernel, by decide +kernel⟩
theorem cl_X8_75 : jcS RX8 75 yX4_rowOf cX4_rowOf 2 (some .int) 2 := ⟨jt_all [915, 560, 134] (by decide +kernel) (by decide +kernel), jt_in (i := 561) (by decide +kernel) rfl, by decide +kernel, by decide +kernel, by decide +kernel⟩
theorem cl_X9_34 : jcV RX9 34 yX9_skipBlanks cX9_skipBlanks 2 (none) 0 := ⟨jt_all [664, 666, 4, 129] (by decide +kernel) (by decide +kernel), jt_in (i := 667) (by decide +kernel) rfl, by decide +kernel, by decide +kernel, by decide +kernel⟩
theorem cl_X9_37 : jcV RX9 37 yX9_cutOne cX9_cutOne 4 (some .int) 1 := ⟨jt_all [675, 677, 5, 129] (by decide +kernel) (by decide +kernel), jt_in (i := 678) (by decide +kernel) rfl, by decide +kernel, by decide +kernel, by decide +kernel⟩
theorem cl_X9_41 : jcV RX9 41 yX7_at cX7_at 2 (some .int) 1 := ⟨jt_all [668, 669, 670, 125] (by decide +kernel) (by decide +kernel), jt_in (i := 671) (by decide +kernel) rfl, by decide +kernel, by decide +kernel, by decide +kernel⟩
theorem cl_X9_44 : jcS RX9 44 yX9_isBlank cX9_isBlank 1 (some .boolean) 1 := ⟨jt_all [672, 673, 129] (by decide +kernel) (by decide +kernel), jt_in (i := 674) (by decide +kernel) rfl, by decide +kernel, by decide +kernel, by decide +kernel⟩
theorem cl_X9_48 : jcS RX9 48 yX9_isLetter cX9_isLetter 1 (some .boolean) 1 := ⟨jt_all [679, 680, 129] (by decide +kernel) (by decide +kernel), jt_in (i := 681) (by decide +kernel) rfl, by decide +kernel, by decide +kernel, by decide +kernel⟩
theorem cl_X9_51 : jcV RX9 51 yX9_cutWord cX9_cutWord 3 (some .int) 1 := ⟨jt_all [682, 684, 6, 129] (by decide +kernel) (by decide +kernel), jt_in (i := 685) (by decide +kernel) rfl, by decide +kernel, by decide +kernel, by decide +kernel⟩
theorem cl_X9_54 : jcS RX9 54 yX9_isDigit cX9_isDigit 1 (some .boolean) 1 := ⟨jt_all [731, 732, 129] (by decide +kernel) (by decide +kernel), jt_in (i := 733) (by decide +kernel) rfl, by decide +kernel, by decide +kernel, by decide +kernel⟩
theorem cl_X9_57 : jcV RX9 57 yX9_cutNumber cX9_cutNumber 5 (some .int) 2 := ⟨jt_all [734, 736, 8, 129] (by decide +kernel) (by decide +kernel), jt_in (i := 737) (by decide +kernel) rfl, by decide +kernel, by decide +kernel, by decide +kernel⟩
theorem cl_X9_68 : jcV RX9 68 yX9_isWord cX9_isWord 5 (some .boolean) 2 := ⟨jt_all [686, 688, 7, 129] (by decide +kernel) (by decide +kernel), jt_in (i := 689) (by decide +kernel) rfl, by decide +kernel, by decide +kernel, by decide +kernel⟩
theorem cl_X12_164 : jcV RX12 164 yX12_plain cX12_plain 3 (none) 1 := ⟨jt_all [1340, 1342, 48, 137] (by decide +kernel) (by decide +kernel), jt_in (i := 1343) (by decide +kernel) rfl, by decide +kernel, by decide +kernel, by decide +kernel⟩
theorem cl_X12_172 : jcV RX12 172 yX12_begins cX12_begins 2 (none) 0 := ⟨jt_all [1351, 1353, 49, 137] (by decide +kernel) (by decide +kernel), jt_in (i := 1354) (by decide +kernel) rfl, by decide +kernel, by decide +kernel, by decide +kernel⟩
theorem cl_X12_175 : jcV RX12 175 yX12_keepsRow cX12_keepsRow 2 (none) 0 := ⟨jt_all [1359, 1361, 51, 137] (by decide +kernel) (by decide +kernel), jt_in (i := 1362) (by decide +kernel) rfl, by decide +kernel, by decide +kernel, by decide +kernel⟩
theorem cl_X12_181 : jcV RX12 181 yX12_put cX12_put 3 (none) 1 := ⟨jt_all [1572, 1574, 52, 137] (by decide +kernel) (by decide +kernel), jt_in (i := 1575) (by decide +kernel) rfl, by decide +kernel, by decide +kernel, by decide +kernel⟩
theorem cl_X12_189 : jcS RX12 189 yX12_appends cX12_appends 3 (some .long) 2 := ⟨jt_all [1347, 1348, 137] (by decide +kernel) (by decide +kernel), jt_in (i := 1349) (by decide +kernel) rfl, by decide +kernel, by decide +kernel, by decide +kernel⟩
theorem cl_X12_196 : jcV RX12 196 yX12_byteAt cX12_byteAt 2 (some .int) 1 := ⟨jt_all [1588, 1590, 54, 137] (by decide +kernel) (by decide +kernel), jt_in (i := 1591) (by decide +kernel) rfl, by decide +kernel, by decide +kernel, by decide +kernel⟩
theorem cl_X12_200 : jcV RX12 200 yX12_token cX12_token 6 (none) 4 := ⟨jt_all [1592, 1594, 55, 137] (by decide +kernel) (by decide +kernel), jt_in (i := 1595) (by decide +kernel) rfl, by decide +kernel, by decide +kernel, by decide +kernel⟩
theorem cl_X12_204 : jcS RX12 204 yX12_isLetter cX12_isLetter 1 (some .boolean) 1 := ⟨jt_all [1596, 1597, 137] (by decide +kernel) (by decide +kernel), jt_in (i := 1598) (by decide +kernel) rfl, by decide +kernel, by decide +kernel, by decide +kernel⟩
theorem cl_X12_208 : jcS RX12 208 yX12_isDigit cX12_isDigit 1 (some .boolean) 1 := ⟨jt_all [1599, 1600, 137] (by decide +kernel) (by decide +kernel), jt_in (i := 1601) (by decide +kernel) rfl, by decide +kernel, by decide +kernel, by decide +kernel⟩
theorem cl_X12_211 : jcV RX12 211 yX12_sign cX12_sign 5 (some .int) 3 := ⟨jt_all [1602, 1604, 56, 137] (by decide +kernel) (by decide +kernel), jt_in (i := 1605) (by decide +kernel) rfl, by decide +kernel, by decide +kernel, by decide +kernel⟩
theorem cl_X12_230 : jcV RX12 230 yX12_fail cX12_fail 2 (none) 1 := ⟨jt_all [1618, 1620, 60, 137] (by decide +kernel) (by decide +kernel), jt_in (i := 1621) (by decide +kernel) rfl, by decide +kernel, by decide +kernel, by decide +kernel⟩
theorem cl_X12_233 : jcV RX12 233 yX12_is cX12_is 2 (some .boolean) 1 := ⟨jt_all [1606, 1608, 57, 137] (by decide +kernel) (by decide +kernel), jt_in (i := 1609) (by decide +kernel) rfl, by decide +kernel, by decide +kernel, by decide +kernel⟩
theorem cl_X12_236 : jcV RX12 236 yX12_goesOn cX12_goesOn 1 (none) 0 := ⟨jt_all [1614, 1616, 59, 137] (by decide +kernel) (by decide +kernel), jt_in (i := 1617) (by decide +kernel) rfl, by decide +kernel, by decide +kernel, by decide +kernel⟩
theorem cl_X12_239 : jcV RX12 239 yX12_cut cX12_cut 8 (none) 0 := ⟨jt_all [1584, 1586, 53, 137] (by decide +kernel) (by decide +kernel), jt_in (i := 1587) (by decide +kernel) rfl, by decide +kernel, by decide +kernel, by decide +kernel⟩
theorem cl_X12_257 : jcV RX12 257 yX12_tellOne cX12_tellOne 2 (none) 0 := ⟨jt_all [1610, 1612, 58, 137] (by decide +kernel) (by decide +kernel), jt_in (i := 1613) (by decide +kernel) rfl, by decide +kernel, by decide +kernel, by decide +kernel⟩
theorem cl_X12_260 : jcV RX12 260 yX12_isSquare cX12_isSquare 3 (some .boolean) 0 := ⟨jt_all [1662, 1664, 71, 137] (by decide +kernel) (by decide +kernel), jt_in (i := 1665) (by decide +kernel) rfl, by decide +kernel, by decide +kernel, by decide +kernel⟩
theorem cl_X12_264 : jcV RX12 264 yX12_wrong cX12_wrong 4 (none) 2 := ⟨jt_all [1626, 1628, 62, 137] (by decide +kernel) (by decide +kernel), jt_in (i := 1629) (by decide +kernel) rfl, by decide +kernel, by decide +kernel, by decide +kernel⟩
theorem cl_X12_274 : jcV RX12 274 yX12_takes cX12_takes 3 (some .boolean) 2 := ⟨jt_all [1666, 1668, 72, 137] (by decide +kernel) (by decide +kernel), jt_in (i := 1669) (by decide +kernel) rfl, by decide +kernel, by decide +kernel, by decide +kernel⟩
theorem cl_X12_278 : jcV RX12 278 yX12_bounded cX12_bounded 4 (some .int) 2 := ⟨jt_all [1622, 1624, 61, 137] (by decide +kernel) (by decide +kernel), jt_in (i := 1625) (by decide +kernel) rfl, by decide +kernel, by decide +kernel, by decide +kernel⟩
theorem cl_X12_282 : jcV RX12 282 yX12_must cX12_must 2 (none) 1 := ⟨jt_all [1630, 1632, 63, 137] (by decide +kernel) (by decide +kernel), jt_in (i := 1633) (by decide +kernel) rfl, by decide +kernel, by decide +kernel, by decide +kernel⟩
theorem cl_X12_285 : jcV RX12 285 yX12_roomFor cX12_roomFor 3 (none) 2 := ⟨jt_all [1634, 1636, 64, 137] (by decide +kernel) (by decide +kernel), jt_in (i := 1637) (by decide +kernel) rfl, by decide +kernel, by decide +kernel, by decide +kernel⟩
theorem cl_X12_288 : jcV RX12 288 yX12_tellLaw cX12_tellLaw 4 (none) 1 := ⟨jt_all [1638, 1640, 65, 137] (by decide +kernel) (by decide +kernel), jt_in (i := 1641) (by decide +kernel) rfl, by decide +kernel, by decide +kernel, by decide +kernel⟩
theorem cl_X12_291 : jcV RX12 291 yX12_expression cX12_expression 3 (none) 0 := ⟨jt_all [1642, 1644, 66, 137] (by decide +kernel) (by decide +kernel), jt_in (i := 1645) (by decide +kernel) rfl, by decide +kernel, by decide +kernel, by decide +kernel⟩
theorem cl_X12_294 : jcV RX12 294 yX12_term cX12_term 1 (none) 0 := ⟨jt_all [1658, 1660, 70, 137] (by decide +kernel) (by decide +kernel), jt_in (i := 1661) (by decide +kernel) rfl, by decide +kernel, by decide +kernel, by decide +kernel⟩
theorem cl_X12_300 : jcV RX12 300 yX12_emit cX12_emit 3 (none) 2 := ⟨jt_all [1650, 1652, 68, 137] (by decide +kernel) (by decide +kernel), jt_in (i := 1653) (by decide +kernel) rfl, by decide +kernel, by decide +kernel, by decide +kernel⟩
theorem cl_X12_303 : jcV RX12 303 yX12_unit cX12_unit 1 (none) 0 := ⟨jt_all [1646, 1648, 67, 137] (by decide +kernel) (by decide +kernel), jt_in (i := 1649) (by decide +kernel) rfl, by decide +kernel, by decide +kernel, by decide +kernel⟩
theorem cl_X12_306 : jcV RX12 306 yX12_comesOut cX12_comesOut 3 (none) 1 := ⟨jt_all [1654, 1656, 69, 137] (by decide +kernel) (by decide +kernel), jt_in (i := 1657) (by decide +kernel) rfl, by decide +kernel, by decide +kernel, by decide +kernel⟩
theorem cl_X12_314 : jcV RX12 314 yX12_cells cX12_cells 1 (some .int) 0 := ⟨jt_all [1682, 1684, 74, 137] (by decide +kernel) (by decide +kernel), jt_in (i := 1685) (by decide +kernel) rfl, by decide +kernel, by decide +kernel, by decide +kernel⟩
theorem cl_X12_318 : jcS RX12 318 yX12_in cX12_in 3 (some .boolean) 3 := ⟨jt_all [1686, 1687, 137] (by decide +kernel) (by decide +kernel), jt_in (i := 1688) (by decide +kernel) rfl, by decide +kernel, by decide +kernel, by decide +kernel⟩
theorem cl_X12_322 : jcV RX12 322 yX12_w cX12_w 1 (some .int) 0 := ⟨jt_all [1355, 1357, 50, 137] (by decide +kernel) (by decide +kernel), jt_in (i := 1358) (by decide +kernel) rfl, by decide +kernel, by decide +kernel, by decide +kernel⟩
theorem cl_X12_329 : jcS RX12 329 yX12_mixed cX12_mixed 3 (some .int) 2 := ⟨jt_all [1803, 1804, 137] (by decide +kernel) (by decide +kernel), jt_in (i := 1805) (by decide +kernel) rfl, by decide +kernel, by decide +kernel, by decide +kernel⟩
theorem cl_X12_332 : jcV RX12 332 yX12_lies cX12_lies 2 (some .boolean) 1 := ⟨jt_all [1697, 1699, 77, 137] (by decide +kernel) (by decide +kernel), jt_in (i := 1700) (by decide +kernel) rfl, by decide +kernel, by decide +kernel, by decide +kernel⟩
theorem cl_X12_335 : jcV RX12 335 yX12_otherCell cX12_otherCell 2 (some .int) 1 := ⟨jt_all [1701, 1703, 78, 137] (by decide +kernel) (by decide +kernel), jt_in (i := 1704) (by decide +kernel) rfl, by decide +kernel, by decide +kernel, by decide +kernel⟩
theorem cl_X12_338 : jcV RX12 338 yX12_isCell cX12_isCell 2 (some .boolean) 1 := ⟨jt_all [1678, 1680, 73, 137] (by decide +kernel) (by decide +kernel), jt_in (i := 1681) (by decide +kernel) rfl, by decide +kernel, by decide +kernel, by decide +kernel⟩
theorem cl_X12_341 : jcV RX12 341 yX12_coupleAt cX12_coupleAt 3 (some .int) 1 := ⟨jt_all [1693, 1695, 76, 137] (by decide +kernel) (by decide +kernel), jt_in (i := 1696) (by decide +kernel) rfl, by decide +kernel, by decide +kernel, by decide +kernel⟩
theorem cl_X12_344 : jcV RX12 344 yX12_stoneMany cX12_stoneMany 3 (some .int) 0 := ⟨jt_all [1721, 1723, 82, 137] (by decide +kernel) (by decide +kernel), jt_in (i := 1724) (by decide +kernel) rfl, by decide +kernel, by decide +kernel, by decide +kernel⟩
theorem cl_X12_347 : jcV RX12 347 yX12_termOf cX12_termOf 8 (some .int) 2 := ⟨jt_all [1729, 1731, 84, 137] (by decide +kernel) (by decide +kernel), jt_in (i := 1732) (by decide +kernel) rfl, by decide +kernel, by decide +kernel, by decide +kernel⟩
theorem cl_X12_350 : jcV RX12 350 yX12_lawTells cX12_lawTells 7 (some .int) 2 := ⟨jt_all [1725, 1727, 83, 137] (by decide +kernel) (by decide +kernel), jt_in (i := 1728) (by decide +kernel) rfl, by decide +kernel, by decide +kernel, by decide +kernel⟩
theorem cl_X12_353 : jcS RX12 353 yX12_within cX12_within 3 (some .int) 3 := ⟨jt_all [1733, 1734, 137] (by decide +kernel) (by decide +kernel), jt_in (i := 1735) (by decide +kernel) rfl, by decide +kernel, by decide +kernel, by decide +kernel⟩
theorem cl_X12_356 : jcV RX12 356 yX12_tellsOf cX12_tellsOf 5 (some .int) 4 := ⟨jt_all [1717, 1719, 81, 137] (by decide +kernel) (by decide +kernel), jt_in (i := 1720) (by decide +kernel) rfl, by decide +kernel, by decide +kernel, by decide +kernel⟩
theorem cl_X12_360 : jcV RX12 360 yX12_laid cX12_laid 4 (none) 3 := ⟨jt_all [1752, 1754, 88, 137] (by decide +kernel) (by decide +kernel), jt_in (i := 1755) (by decide +kernel) rfl, by decide +kernel, by decide +kernel, by decide +kernel⟩
theorem cl_X12_364 : jcV RX12 364 yX12_secondCell cX12_secondCell 3 (some .int) 2 := ⟨jt_all [1748, 1750, 87, 137] (by decide +kernel) (by decide +kernel), jt_in (i := 1751) (by decide +kernel) rfl, by decide +kernel, by decide +kernel, by decide +kernel⟩
theorem cl_X12_367 : jcV RX12 367 yX12_stoneOf cX12_stoneOf 4 (some .int) 2 := ⟨jt_all [1776, 1778, 92, 137] (by decide +kernel) (by decide +kernel), jt_in (i := 1779) (by decide +kernel) rfl, by decide +kernel, by decide +kernel, by decide +kernel⟩
theorem cl_X12_370 : jcV RX12 370 yX12_asksOf cX12_asksOf 2 (some .int) 1 := ⟨jt_all [1713, 1715, 80, 137] (by decide +kernel) (by decide +kernel), jt_in (i := 1716) (by decide +kernel) rfl, by decide +kernel, by decide +kernel, by decide +kernel⟩
theorem cl_X12_373 : jcV RX12 373 yX12_lotOf cX12_lotOf 2 (some .int) 1 := ⟨jt_all [1799, 1801, 96, 137] (by decide +kernel) (by decide +kernel), jt_in (i := 1802) (by decide +kernel) rfl, by decide +kernel, by decide +kernel, by decide +kernel⟩
theorem cl_X12_376 : jcV RX12 376 yX12_loosensOf cX12_loosensOf 2 (some .int) 1 := ⟨jt_all [1736, 1738, 85, 137] (by decide +kernel) (by decide +kernel), jt_in (i := 1739) (by decide +kernel) rfl, by decide +kernel, by decide +kernel, by decide +kernel⟩
theorem cl_X12_379 : jcV RX12 379 yX12_lifted cX12_lifted 2 (none) 1 := ⟨jt_all [1764, 1766, 90, 137] (by decide +kernel) (by decide +kernel), jt_in (i := 1767) (by decide +kernel) rfl, by decide +kernel, by decide +kernel, by decide +kernel⟩
theorem cl_X12_382 : jcV RX12 382 yX12_seasonGoes cX12_seasonGoes 2 (none) 0 := ⟨jt_all [1795, 1797, 95, 137] (by decide +kernel) (by decide +kernel), jt_in (i := 1798) (by decide +kernel) rfl, by decide +kernel, by decide +kernel, by decide +kernel⟩
theorem cl_X12_385 : jcV RX12 385 yX12_copies cX12_copies 2 (none) 0 := ⟨jt_all [1689, 1691, 75, 137] (by decide +kernel) (by decide +kernel), jt_in (i := 1692) (by decide +kernel) rfl, by decide +kernel, by decide +kernel, by decide +kernel⟩
theorem cl_X12_388 : jcV RX12 388 yX12_isBlack cX12_isBlack 2 (some .boolean) 1 := ⟨jt_all [1705, 1707, 79, 137] (by decide +kernel) (by decide +kernel), jt_in (i := 1708) (by decide +kernel) rfl, by decide +kernel, by decide +kernel, by decide +kernel⟩
theorem cl_X12_391 : jcV RX12 391 yX12_isFree cX12_isFree 2 (some .boolean) 1 := ⟨jt_all [1744, 1746, 86, 137] (by decide +kernel) (by decide +kernel), jt_in (i := 1747) (by decide +kernel) rfl, by decide +kernel, by decide +kernel, by decide +kernel⟩
theorem cl_X12_394 : jcV RX12 394 yX12_records cX12_records 2 (none) 0 := ⟨jt_all [1756, 1758, 89, 137] (by decide +kernel) (by decide +kernel), jt_in (i := 1759) (by decide +kernel) rfl, by decide +kernel, by decide +kernel, by decide +kernel⟩
theorem cl_X12_397 : jcV RX12 397 yX12_canTurn cX12_canTurn 3 (some .boolean) 1 := ⟨jt_all [1772, 1774, 91, 137] (by decide +kernel) (by decide +kernel), jt_in (i := 1775) (by decide +kernel) rfl, by decide +kernel, by decide +kernel, by decide +kernel⟩
theorem cl_X12_400 : jcV RX12 400 yX12_turnAsks cX12_turnAsks 1 (some .int) 0 := ⟨jt_all [1780, 1782, 93, 137] (by decide +kernel) (by decide +kernel), jt_in (i := 1783) (by decide +kernel) rfl, by decide +kernel, by decide +kernel, by decide +kernel⟩
theorem cl_X12_403 : jcS RX12 403 yX12_isLong cX12_isLong 1 (some .boolean) 1 := ⟨jt_all [1788, 1789, 137] (by decide +kernel) (by decide +kernel), jt_in (i := 1790) (by decide +kernel) rfl, by decide +kernel, by decide +kernel, by decide +kernel⟩
theorem cl_X12_406 : jcV RX12 406 yX12_goes cX12_goes 3 (none) 1 := ⟨jt_all [1791, 1793, 94, 137] (by decide +kernel) (by decide +kernel), jt_in (i := 1794) (by decide +kernel) rfl, by decide +kernel, by decide +kernel, by decide +kernel⟩
theorem cl_X12_409 : jcV RX12 409 yX12_waysIn cX12_waysIn 3 (some .int) 2 := ⟨jt_all [1831, 1833, 101, 137] (by decide +kernel) (by decide +kernel), jt_in (i := 1834) (by decide +kernel) rfl, by decide +kernel, by decide +kernel, by decide +kernel⟩
theorem cl_X12_413 : jcV RX12 413 yX12_maskDown cX12_maskDown 2 (some .int) 1 := ⟨jt_all [1843, 1845, 104, 137] (by decide +kernel) (by decide +kernel), jt_in (i := 1846) (by decide +kernel) rfl, by decide +kernel, by decide +kernel, by decide +kernel⟩
theorem cl_X12_416 : jcV RX12 416 yX12_acrossIn cX12_acrossIn 5 (some .int) 3 := ⟨jt_all [1835, 1837, 102, 137] (by decide +kernel) (by decide +kernel), jt_in (i := 1838) (by decide +kernel) rfl, by decide +kernel, by decide +kernel, by decide +kernel⟩
theorem cl_X12_420 : jcV RX12 420 yX12_downIn cX12_downIn 5 (some .int) 3 := ⟨jt_all [1839, 1841, 103, 137] (by decide +kernel) (by decide +kernel), jt_in (i := 1842) (by decide +kernel) rfl, by decide +kernel, by decide +kernel, by decide +kernel⟩
theorem cl_X12_423 : jcV RX12 423 yX12_countAt cX12_countAt 4 (some .int) 3 := ⟨jt_all [1827, 1829, 100, 137] (by decide +kernel) (by decide +kernel), jt_in (i := 1830) (by decide +kernel) rfl, by decide +kernel, by decide +kernel, by decide +kernel⟩
theorem cl_X12_426 : jcV RX12 426 yX12_closesHoles cX12_closesHoles 2 (none) 0 := ⟨jt_all [1819, 1821, 98, 137] (by decide +kernel) (by decide +kernel), jt_in (i := 1822) (by decide +kernel) rfl, by decide +kernel, by decide +kernel, by decide +kernel⟩
theorem cl_X12_429 : jcV RX12 429 yX12_counts cX12_counts 5 (some .int) 1 := ⟨jt_all [1823, 1825, 99, 137] (by decide +kernel) (by decide +kernel), jt_in (i := 1826) (by decide +kernel) rfl, by decide +kernel, by decide +kernel, by decide +kernel⟩
theorem cl_X12_433 : jcV RX12 433 yX12_closesTaken cX12_closesTaken 2 (none) 0 := ⟨jt_all [1855, 1857, 106, 137] (by decide +kernel) (by decide +kernel), jt_in (i := 1858) (by decide +kernel) rfl, by decide +kernel, by decide +kernel, by decide +kernel⟩
theorem cl_X12_436 : jcV RX12 436 yX12_countsAll cX12_countsAll 1 (some .int) 0 := ⟨jt_all [1815, 1817, 97, 137] (by decide +kernel) (by decide +kernel), jt_in (i := 1818) (by decide +kernel) rfl, by decide +kernel, by decide +kernel, by decide +kernel⟩
theorem cl_X12_439 : jcV RX12 439 yX12_countsRest cX12_countsRest 1 (some .int) 0 := ⟨jt_all [1851, 1853, 105, 137] (by decide +kernel) (by decide +kernel), jt_in (i := 1854) (by decide +kernel) rfl, by decide +kernel, by decide +kernel, by decide +kernel⟩
theorem cl_X12_442 : jcV RX12 442 yX12_cellBeside cX12_cellBeside 3 (some .int) 2 := ⟨jt_all [1863, 1865, 107, 137] (by decide +kernel) (by decide +kernel), jt_in (i := 1866) (by decide +kernel) rfl, by decide +kernel, by decide +kernel, by decide +kernel⟩
theorem cl_X12_445 : jcV RX12 445 yX12_countsWith cX12_countsWith 3 (some .int) 2 := ⟨jt_all [1867, 1869, 108, 137] (by decide +kernel) (by decide +kernel), jt_in (i := 1870) (by decide +kernel) rfl, by decide +kernel, by decide +kernel, by decide +kernel⟩
theorem cl_X12_448 : jcV RX12 448 yX12_frozenAt cX12_frozenAt 4 (some .int) 2 := ⟨jt_all [1875, 1877, 109, 137] (by decide +kernel) (by decide +kernel), jt_in (i := 1878) (by decide +kernel) rfl, by decide +kernel, by decide +kernel, by decide +kernel⟩
theorem cl_X12_451 : jcV RX12 451 yX12_mostAt cX12_mostAt 6 (some .int) 2 := ⟨jt_all [1887, 1889, 110, 137] (by decide +kernel) (by decide +kernel), jt_in (i := 1890) (by decide +kernel) rfl, by decide +kernel, by decide +kernel, by decide +kernel⟩
theorem cl_X12_454 : jcV RX12 454 yX12_freeMany cX12_freeMany 1 (some .int) 0 := ⟨jt_all [1891, 1893, 111, 137] (by decide +kernel) (by decide +kernel), jt_in (i := 1894) (by decide +kernel) rfl, by decide +kernel, by decide +kernel, by decide +kernel⟩
theorem cl_X12_457 : jcV RX12 457 yX12_fillsWays cX12_fillsWays 6 (none) 1 := ⟨jt_all [1899, 1901, 112, 137] (by decide +kernel) (by decide +kernel), jt_in (i := 1902) (by decide +kernel) rfl, by decide +kernel, by decide +kernel, by decide +kernel⟩
theorem cl_X12_460 : jcV RX12 460 yX12_fillsNow cX12_fillsNow 2 (none) 0 := ⟨jt_all [1907, 1909, 113, 137] (by decide +kernel) (by decide +kernel), jt_in (i := 1910) (by decide +kernel) rfl, by decide +kernel, by decide +kernel, by decide +kernel⟩
theorem cl_X12_463 : jcV RX12 463 yX12_fillsHills cX12_fillsHills 5 (none) 0 := ⟨jt_all [1923, 1925, 116, 137] (by decide +kernel) (by decide +kernel), jt_in (i := 1926) (by decide +kernel) rfl, by decide +kernel, by decide +kernel, by decide +kernel⟩
theorem cl_X12_466 : jcV RX12 466 yX12_isHilly cX12_isHilly 1 (some .boolean) 0 := ⟨jt_all [1915, 1917, 114, 137] (by decide +kernel) (by decide +kernel), jt_in (i := 1918) (by decide +kernel) rfl, by decide +kernel, by decide +kernel, by decide +kernel⟩
theorem cl_X12_469 : jcV RX12 469 yX12_fillsHillsNow cX12_fillsHillsNow 1 (none) 0 := ⟨jt_all [1919, 1921, 115, 137] (by decide +kernel) (by decide +kernel), jt_in (i := 1922) (by decide +kernel) rfl, by decide +kernel, by decide +kernel, by decide +kernel⟩
theorem cl_X12_472 : jcS RX12 472 yX12_off cX12_off 2 (some .int) 2 := ⟨jt_all [1939, 1940, 137] (by decide +kernel) (by decide +kernel), jt_in (i := 1941) (by decide +kernel) rfl, by decide +kernel, by decide +kernel, by decide +kernel⟩
theorem cl_X12_475 : jcV RX12 475 yX12_keepsHills cX12_keepsHills 2 (none) 0 := ⟨jt_all [1931, 1933, 117, 137] (by decide +kernel) (by decide +kernel), jt_in (i := 1934) (by decide +kernel) rfl, by decide +kernel, by decide +kernel, by decide +kernel⟩
theorem cl_X12_478 : jcV RX12 478 yX12_wayTo cX12_wayTo 5 (some .int) 1 := ⟨jt_all [1935, 1937, 118, 137] (by decide +kernel) (by decide +kernel), jt_in (i := 1938) (by decide +kernel) rfl, by decide +kernel, by decide +kernel, by decide +kernel⟩
theorem cl_X12_482 : jcV RX12 482 yX12_sumHills cX12_sumHills 4 (some .int) 0 := ⟨jt_all [1951, 1953, 119, 137] (by decide +kernel) (by decide +kernel), jt_in (i := 1954) (by decide +kernel) rfl, by decide +kernel, by decide +kernel, by decide +kernel⟩
theorem cl_X12_485 : jcV RX12 485 yX12_isGround cX12_isGround 2 (some .boolean) 1 := ⟨jt_all [1967, 1969, 120, 137] (by decide +kernel) (by decide +kernel), jt_in (i := 1970) (by decide +kernel) rfl, by decide +kernel, by decide +kernel, by decide +kernel⟩
theorem cl_X12_488 : jcV RX12 488 yX12_countsTold cX12_countsTold 3 (some .int) 1 := ⟨jt_all [1991, 1993, 121, 137] (by decide +kernel) (by decide +kernel), jt_in (i := 1994) (by decide +kernel) rfl, by decide +kernel, by decide +kernel, by decide +kernel⟩
theorem cl_X12_491 : jcV RX12 491 yX12_numberTold cX12_numberTold 6 (some .int) 1 := ⟨jt_all [1995, 1997, 122, 137] (by decide +kernel) (by decide +kernel), jt_in (i := 1998) (by decide +kernel) rfl, by decide +kernel, by decide +kernel, by decide +kernel⟩
