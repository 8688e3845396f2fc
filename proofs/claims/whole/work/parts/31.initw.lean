theorem bp_101 : (Int8.ofInt (101)).toInt32 = Int32.ofInt (101) := by decide +kernel
theorem bp_102 : (Int8.ofInt (102)).toInt32 = Int32.ofInt (102) := by decide +kernel
theorem bp_103 : (Int8.ofInt (103)).toInt32 = Int32.ofInt (103) := by decide +kernel
theorem bp_104 : (Int8.ofInt (104)).toInt32 = Int32.ofInt (104) := by decide +kernel
theorem bp_105 : (Int8.ofInt (105)).toInt32 = Int32.ofInt (105) := by decide +kernel
theorem bp_107 : (Int8.ofInt (107)).toInt32 = Int32.ofInt (107) := by decide +kernel
theorem bp_108 : (Int8.ofInt (108)).toInt32 = Int32.ofInt (108) := by decide +kernel
theorem bp_110 : (Int8.ofInt (110)).toInt32 = Int32.ofInt (110) := by decide +kernel
theorem bp_111 : (Int8.ofInt (111)).toInt32 = Int32.ofInt (111) := by decide +kernel
theorem bp_112 : (Int8.ofInt (112)).toInt32 = Int32.ofInt (112) := by decide +kernel
theorem bp_113 : (Int8.ofInt (113)).toInt32 = Int32.ofInt (113) := by decide +kernel
theorem bp_114 : (Int8.ofInt (114)).toInt32 = Int32.ofInt (114) := by decide +kernel
theorem bp_115 : (Int8.ofInt (115)).toInt32 = Int32.ofInt (115) := by decide +kernel
theorem bp_116 : (Int8.ofInt (116)).toInt32 = Int32.ofInt (116) := by decide +kernel
theorem bp_117 : (Int8.ofInt (117)).toInt32 = Int32.ofInt (117) := by decide +kernel
theorem bp_119 : (Int8.ofInt (119)).toInt32 = Int32.ofInt (119) := by decide +kernel
theorem bp_121 : (Int8.ofInt (121)).toInt32 = Int32.ofInt (121) := by decide +kernel
theorem sp_225 : (Int16.ofInt (225)).toInt32 = Int32.ofInt (225) := by decide +kernel
theorem sp_260 : (Int16.ofInt (260)).toInt32 = Int32.ofInt (260) := by decide +kernel
theorem sp_403 : (Int16.ofInt (403)).toInt32 = Int32.ofInt (403) := by decide +kernel
theorem sp_840 : (Int16.ofInt (840)).toInt32 = Int32.ofInt (840) := by decide +kernel
theorem sp_2368 : (Int16.ofInt (2368)).toInt32 = Int32.ofInt (2368) := by decide +kernel
theorem sp_3000 : (Int16.ofInt (3000)).toInt32 = Int32.ofInt (3000) := by decide +kernel
theorem cl_X11_11 : jcN RX11 11 yX7_init cX7_init 1 0 := ⟨rfl, jt_all [156, 157, 125] (by decide +kernel) (by decide +kernel), jt_in (i := 158) (by decide +kernel) rfl, by decide +kernel, by decide +kernel, by decide +kernel⟩
theorem cl_X11_18 : jcN RX11 18 yX8_init cX8_init 1 0 := ⟨rfl, jt_all [173, 174, 126] (by decide +kernel) (by decide +kernel), jt_in (i := 175) (by decide +kernel) rfl, by decide +kernel, by decide +kernel, by decide +kernel⟩
theorem cl_X11_28 : jcN RX11 28 yX3_init cX3_init 3 2 := ⟨rfl, jt_all [278, 279, 128] (by decide +kernel) (by decide +kernel), jt_in (i := 280) (by decide +kernel) rfl, by decide +kernel, by decide +kernel, by decide +kernel⟩
theorem cl_X11_37 : jcN RX11 37 yX6_init cX6_init 1 0 := ⟨rfl, jt_all [335, 336, 130] (by decide +kernel) (by decide +kernel), jt_in (i := 337) (by decide +kernel) rfl, by decide +kernel, by decide +kernel, by decide +kernel⟩
theorem cl_X11_47 : jcN RX11 47 yX1_init cX1_init 2 0 := ⟨rfl, jt_all [399, 400, 132] (by decide +kernel) (by decide +kernel), jt_in (i := 401) (by decide +kernel) rfl, by decide +kernel, by decide +kernel, by decide +kernel⟩
theorem cl_X11_54 : jcN RX11 54 yX10_init cX10_init 1 0 := ⟨rfl, jt_all [425, 426, 133] (by decide +kernel) (by decide +kernel), jt_in (i := 427) (by decide +kernel) rfl, by decide +kernel, by decide +kernel, by decide +kernel⟩
theorem cl_X11_61 : jcN RX11 61 yX4_init cX4_init 2 0 := ⟨rfl, jt_all [444, 445, 134] (by decide +kernel) (by decide +kernel), jt_in (i := 446) (by decide +kernel) rfl, by decide +kernel, by decide +kernel, by decide +kernel⟩
theorem cl_X11_71 : jcN RX11 71 yX5_init cX5_init 1 0 := ⟨rfl, jt_all [488, 489, 135] (by decide +kernel) (by decide +kernel), jt_in (i := 490) (by decide +kernel) rfl, by decide +kernel, by decide +kernel, by decide +kernel⟩
theorem cl_X11_78 : jcN RX11 78 yX0_init cX0_init 1 0 := ⟨rfl, jt_all [508, 509, 136] (by decide +kernel) (by decide +kernel), jt_in (i := 510) (by decide +kernel) rfl, by decide +kernel, by decide +kernel, by decide +kernel⟩
theorem cl_X1_17 : jcN RX1 17 yX6_init cX6_init 1 0 := ⟨rfl, jt_all [405, 336, 130] (by decide +kernel) (by decide +kernel), jt_in (i := 337) (by decide +kernel) rfl, by decide +kernel, by decide +kernel, by decide +kernel⟩
theorem cl_X3_21 : jcN RX3 21 yX9_init cX9_init 2 1 := ⟨rfl, jt_all [284, 285, 129] (by decide +kernel) (by decide +kernel), jt_in (i := 286) (by decide +kernel) rfl, by decide +kernel, by decide +kernel, by decide +kernel⟩
theorem cl_X4_29 : jcS RX4 29 yX4_countOddRuns cX4_countOddRuns 4 (some .int) 1 := ⟨jt_all [450, 451, 134] (by decide +kernel) (by decide +kernel), jt_in (i := 452) (by decide +kernel) rfl, by decide +kernel, by decide +kernel, by decide +kernel⟩
theorem cl_X6_28 : jcV RX6 28 yX6_clear cX6_clear 2 (none) 1 := ⟨jt_all [339, 340, 341, 130] (by decide +kernel) (by decide +kernel), jt_in (i := 342) (by decide +kernel) rfl, by decide +kernel, by decide +kernel, by decide +kernel⟩
theorem cl_X8_36 : jcN RX8 36 yX2_init cX2_init 1 0 := ⟨rfl, jt_all [179, 180, 127] (by decide +kernel) (by decide +kernel), jt_in (i := 181) (by decide +kernel) rfl, by decide +kernel, by decide +kernel, by decide +kernel⟩
theorem cl_X8_41 : jcV RX8 41 yX8_clear cX8_clear 2 (none) 0 := ⟨jt_all [201, 202, 203, 126] (by decide +kernel) (by decide +kernel), jt_in (i := 204) (by decide +kernel) rfl, by decide +kernel, by decide +kernel, by decide +kernel⟩
theorem cl_X12_168 : jcS RX12 168 yX12_word cX12_word 7 (some .long) 7 := ⟨jt_all [1344, 1345, 137] (by decide +kernel) (by decide +kernel), jt_in (i := 1346) (by decide +kernel) rfl, by decide +kernel, by decide +kernel, by decide +kernel⟩
